theorem dX8_holds_23 : decode cX8_holds 23 = .ok (.iastore, 1) := by decide +kernel
theorem dX8_holds_24 : decode cX8_holds 24 = .ok (.aload_n 0, 1) := by decide +kernel
theorem dX8_holds_25 : decode cX8_holds 25 = .ok (.getfield 19, 3) := by decide +kernel
theorem dX8_holds_28 : decode cX8_holds 28 = .ok (.iconst 2, 1) := by decide +kernel
theorem dX8_holds_29 : decode cX8_holds 29 = .ok (.iload 4, 2) := by decide +kernel
theorem dX8_holds_31 : decode cX8_holds 31 = .ok (.iastore, 1) := by decide +kernel
theorem dX8_holds_32 : decode cX8_holds 32 = .ok (.aload_n 0, 1) := by decide +kernel
theorem dX8_holds_33 : decode cX8_holds 33 = .ok (.getfield 19, 3) := by decide +kernel
theorem dX8_holds_36 : decode cX8_holds 36 = .ok (.iconst 3, 1) := by decide +kernel
theorem dX8_holds_37 : decode cX8_holds 37 = .ok (.iload_n 1, 1) := by decide +kernel
theorem dX8_holds_38 : decode cX8_holds 38 = .ok (.iastore, 1) := by decide +kernel
theorem dX8_holds_39 : decode cX8_holds 39 = .ok (.aload_n 0, 1) := by decide +kernel
theorem dX8_holds_40 : decode cX8_holds 40 = .ok (.getfield 19, 3) := by decide +kernel
theorem dX8_holds_43 : decode cX8_holds 43 = .ok (.iconst 4, 1) := by decide +kernel
theorem dX8_holds_44 : decode cX8_holds 44 = .ok (.aload_n 0, 1) := by decide +kernel
theorem dX8_holds_45 : decode cX8_holds 45 = .ok (.getfield 26, 3) := by decide +kernel
theorem dX8_holds_48 : decode cX8_holds 48 = .ok (.getfield 51, 3) := by decide +kernel
theorem dX8_holds_51 : decode cX8_holds 51 = .ok (.iconst 2, 1) := by decide +kernel
theorem dX8_holds_52 : decode cX8_holds 52 = .ok (.iaload, 1) := by decide +kernel
theorem dX8_holds_53 : decode cX8_holds 53 = .ok (.iastore, 1) := by decide +kernel
theorem dX8_holds_54 : decode cX8_holds 54 = .ok (.aload_n 0, 1) := by decide +kernel
theorem dX8_holds_55 : decode cX8_holds 55 = .ok (.getfield 19, 3) := by decide +kernel
theorem dX8_holds_58 : decode cX8_holds 58 = .ok (.iconst 5, 1) := by decide +kernel
theorem dX8_holds_59 : decode cX8_holds 59 = .ok (.aload_n 0, 1) := by decide +kernel
theorem dX8_holds_60 : decode cX8_holds 60 = .ok (.getfield 26, 3) := by decide +kernel
theorem dX8_holds_63 : decode cX8_holds 63 = .ok (.getfield 51, 3) := by decide +kernel
theorem dX8_holds_66 : decode cX8_holds 66 = .ok (.iconst 0, 1) := by decide +kernel
theorem dX8_holds_67 : decode cX8_holds 67 = .ok (.iaload, 1) := by decide +kernel
theorem dX8_holds_68 : decode cX8_holds 68 = .ok (.iastore, 1) := by decide +kernel
theorem dX8_holds_69 : decode cX8_holds 69 = .ok (.aload_n 0, 1) := by decide +kernel
theorem dX8_holds_70 : decode cX8_holds 70 = .ok (.invokevirtual 56, 3) := by decide +kernel
theorem dX8_holds_73 : decode cX8_holds 73 = .ok (.lconst 0, 1) := by decide +kernel
theorem dX8_holds_74 : decode cX8_holds 74 = .ok (.lcmp, 1) := by decide +kernel
theorem dX8_holds_75 : decode cX8_holds 75 = .ok (.ifCond .eq 7, 3) := by decide +kernel
theorem dX8_holds_78 : decode cX8_holds 78 = .ok (.iconst 1, 1) := by decide +kernel
theorem dX8_holds_79 : decode cX8_holds 79 = .ok (.goto 4, 3) := by decide +kernel
theorem dX8_holds_82 : decode cX8_holds 82 = .ok (.iconst 0, 1) := by decide +kernel
theorem dX8_holds_83 : decode cX8_holds 83 = .ok (.ireturn, 1) := by decide +kernel
theorem dX8_parseLevel_0 : decode cX8_parseLevel 0 = .ok (.iload_n 1, 1) := by decide +kernel
theorem dX8_parseLevel_1 : decode cX8_parseLevel 1 = .ok (.iconst 4, 1) := by decide +kernel
theorem dX8_parseLevel_2 : decode cX8_parseLevel 2 = .ok (.if_icmp .le 9, 3) := by decide +kernel
theorem dX8_parseLevel_5 : decode cX8_parseLevel 5 = .ok (.aload_n 0, 1) := by decide +kernel
theorem dX8_parseLevel_6 : decode cX8_parseLevel 6 = .ok (.iload_n 2, 1) := by decide +kernel
theorem dX8_parseLevel_7 : decode cX8_parseLevel 7 = .ok (.invokevirtual 60, 3) := by decide +kernel
theorem dX8_parseLevel_10 : decode cX8_parseLevel 10 = .ok (.return_, 1) := by decide +kernel
theorem dX8_parseLevel_11 : decode cX8_parseLevel 11 = .ok (.aload_n 0, 1) := by decide +kernel
theorem dX8_parseLevel_12 : decode cX8_parseLevel 12 = .ok (.iload_n 1, 1) := by decide +kernel
theorem dX8_parseLevel_13 : decode cX8_parseLevel 13 = .ok (.iconst 1, 1) := by decide +kernel
theorem dX8_parseLevel_14 : decode cX8_parseLevel 14 = .ok (.iadd, 1) := by decide +kernel
theorem dX8_parseLevel_15 : decode cX8_parseLevel 15 = .ok (.iload_n 2, 1) := by decide +kernel
theorem dX8_parseLevel_16 : decode cX8_parseLevel 16 = .ok (.invokevirtual 40, 3) := by decide +kernel
theorem dX8_parseLevel_19 : decode cX8_parseLevel 19 = .ok (.iload_n 1, 1) := by decide +kernel
theorem dX8_parseLevel_20 : decode cX8_parseLevel 20 = .ok (.iconst 2, 1) := by decide +kernel
theorem dX8_parseLevel_21 : decode cX8_parseLevel 21 = .ok (.if_icmp .ne 7, 3) := by decide +kernel
theorem dX8_parseLevel_24 : decode cX8_parseLevel 24 = .ok (.iconst 1, 1) := by decide +kernel
theorem dX8_parseLevel_25 : decode cX8_parseLevel 25 = .ok (.goto 5, 3) := by decide +kernel
theorem dX8_parseLevel_28 : decode cX8_parseLevel 28 = .ok (.bipush 40, 2) := by decide +kernel
theorem dX8_parseLevel_30 : decode cX8_parseLevel 30 = .ok (.istore_n 3, 1) := by decide +kernel
theorem dX8_parseLevel_31 : decode cX8_parseLevel 31 = .ok (.iconst 0, 1) := by decide +kernel
theorem dX8_parseLevel_32 : decode cX8_parseLevel 32 = .ok (.istore 4, 2) := by decide +kernel
theorem dX8_parseLevel_34 : decode cX8_parseLevel 34 = .ok (.iload 4, 2) := by decide +kernel
theorem dX8_parseLevel_36 : decode cX8_parseLevel 36 = .ok (.iload_n 3, 1) := by decide +kernel
theorem dX8_parseLevel_37 : decode cX8_parseLevel 37 = .ok (.if_icmp .ge 59, 3) := by decide +kernel
theorem dX8_parseLevel_40 : decode cX8_parseLevel 40 = .ok (.aload_n 0, 1) := by decide +kernel
theorem dX8_parseLevel_41 : decode cX8_parseLevel 41 = .ok (.getfield 37, 3) := by decide +kernel
theorem dX8_parseLevel_44 : decode cX8_parseLevel 44 = .ok (.iconst (-1), 1) := by decide +kernel
theorem dX8_parseLevel_45 : decode cX8_parseLevel 45 = .ok (.if_icmp .ne 51, 3) := by decide +kernel
theorem dX8_parseLevel_48 : decode cX8_parseLevel 48 = .ok (.aload_n 0, 1) := by decide +kernel
theorem dX8_parseLevel_49 : decode cX8_parseLevel 49 = .ok (.invokevirtual 44, 3) := by decide +kernel
theorem dX8_parseLevel_52 : decode cX8_parseLevel 52 = .ok (.invokestatic 64, 3) := by decide +kernel
theorem dX8_parseLevel_55 : decode cX8_parseLevel 55 = .ok (.iload_n 1, 1) := by decide +kernel
theorem dX8_parseLevel_56 : decode cX8_parseLevel 56 = .ok (.if_icmp .ne 40, 3) := by decide +kernel
theorem dX8_parseLevel_59 : decode cX8_parseLevel 59 = .ok (.aload_n 0, 1) := by decide +kernel
theorem dX8_parseLevel_60 : decode cX8_parseLevel 60 = .ok (.invokevirtual 44, 3) := by decide +kernel
theorem dX8_parseLevel_63 : decode cX8_parseLevel 63 = .ok (.istore 5, 2) := by decide +kernel
theorem dX8_parseLevel_65 : decode cX8_parseLevel 65 = .ok (.aload_n 0, 1) := by decide +kernel
theorem dX8_parseLevel_66 : decode cX8_parseLevel 66 = .ok (.dup, 1) := by decide +kernel
theorem dX8_parseLevel_67 : decode cX8_parseLevel 67 = .ok (.getfield 34, 3) := by decide +kernel
theorem dX8_parseLevel_70 : decode cX8_parseLevel 70 = .ok (.iconst 1, 1) := by decide +kernel
theorem dX8_parseLevel_71 : decode cX8_parseLevel 71 = .ok (.iadd, 1) := by decide +kernel
theorem dX8_parseLevel_72 : decode cX8_parseLevel 72 = .ok (.putfield 34, 3) := by decide +kernel
theorem dX8_parseLevel_75 : decode cX8_parseLevel 75 = .ok (.aload_n 0, 1) := by decide +kernel
theorem dX8_parseLevel_76 : decode cX8_parseLevel 76 = .ok (.iload_n 1, 1) := by decide +kernel
theorem dX8_parseLevel_77 : decode cX8_parseLevel 77 = .ok (.iconst 1, 1) := by decide +kernel
theorem dX8_parseLevel_78 : decode cX8_parseLevel 78 = .ok (.iadd, 1) := by decide +kernel
theorem dX8_parseLevel_79 : decode cX8_parseLevel 79 = .ok (.iload_n 2, 1) := by decide +kernel
theorem dX8_parseLevel_80 : decode cX8_parseLevel 80 = .ok (.invokevirtual 40, 3) := by decide +kernel
theorem dX8_parseLevel_83 : decode cX8_parseLevel 83 = .ok (.aload_n 0, 1) := by decide +kernel
theorem dX8_parseLevel_84 : decode cX8_parseLevel 84 = .ok (.iload 5, 2) := by decide +kernel
theorem dX8_parseLevel_86 : decode cX8_parseLevel 86 = .ok (.ineg, 1) := by decide +kernel
theorem dX8_parseLevel_87 : decode cX8_parseLevel 87 = .ok (.invokevirtual 68, 3) := by decide +kernel
theorem dX8_parseLevel_90 : decode cX8_parseLevel 90 = .ok (.iinc 4 1, 3) := by decide +kernel
theorem dX8_parseLevel_93 : decode cX8_parseLevel 93 = .ok (.goto (-59), 3) := by decide +kernel
theorem dX8_parseLevel_96 : decode cX8_parseLevel 96 = .ok (.return_, 1) := by decide +kernel
theorem dX8_parseUnit_0 : decode cX8_parseUnit 0 = .ok (.aload_n 0, 1) := by decide +kernel
theorem dX8_parseUnit_1 : decode cX8_parseUnit 1 = .ok (.getfield 34, 3) := by decide +kernel
theorem dX8_parseUnit_4 : decode cX8_parseUnit 4 = .ok (.istore_n 2, 1) := by decide +kernel
theorem dX8_parseUnit_5 : decode cX8_parseUnit 5 = .ok (.aload_n 0, 1) := by decide +kernel
theorem dX8_parseUnit_6 : decode cX8_parseUnit 6 = .ok (.getfield 34, 3) := by decide +kernel
theorem dX8_parseUnit_9 : decode cX8_parseUnit 9 = .ok (.aload_n 0, 1) := by decide +kernel
theorem dX8_parseUnit_10 : decode cX8_parseUnit 10 = .ok (.getfield 26, 3) := by decide +kernel
theorem dX8_parseUnit_13 : decode cX8_parseUnit 13 = .ok (.getfield 71, 3) := by decide +kernel
theorem dX8_parseUnit_16 : decode cX8_parseUnit 16 = .ok (.invokevirtual 75, 3) := by decide +kernel
theorem dX8_parseUnit_19 : decode cX8_parseUnit 19 = .ok (.if_icmp .ge 26, 3) := by decide +kernel
theorem dX8_parseUnit_22 : decode cX8_parseUnit 22 = .ok (.aload_n 0, 1) := by decide +kernel
theorem dX8_parseUnit_23 : decode cX8_parseUnit 23 = .ok (.invokevirtual 44, 3) := by decide +kernel
theorem dX8_parseUnit_26 : decode cX8_parseUnit 26 = .ok (.invokestatic 79, 3) := by decide +kernel
theorem dX8_parseUnit_29 : decode cX8_parseUnit 29 = .ok (.ifCond .eq 16, 3) := by decide +kernel
theorem dX8_parseUnit_32 : decode cX8_parseUnit 32 = .ok (.aload_n 0, 1) := by decide +kernel
theorem dX8_parseUnit_33 : decode cX8_parseUnit 33 = .ok (.dup, 1) := by decide +kernel
theorem dX8_parseUnit_34 : decode cX8_parseUnit 34 = .ok (.getfield 34, 3) := by decide +kernel
theorem dX8_parseUnit_37 : decode cX8_parseUnit 37 = .ok (.iconst 1, 1) := by decide +kernel
theorem dX8_parseUnit_38 : decode cX8_parseUnit 38 = .ok (.iadd, 1) := by decide +kernel
theorem dX8_parseUnit_39 : decode cX8_parseUnit 39 = .ok (.putfield 34, 3) := by decide +kernel
theorem dX8_parseUnit_42 : decode cX8_parseUnit 42 = .ok (.goto (-37), 3) := by decide +kernel
theorem dX8_parseUnit_45 : decode cX8_parseUnit 45 = .ok (.aload_n 0, 1) := by decide +kernel
theorem dX8_parseUnit_46 : decode cX8_parseUnit 46 = .ok (.getfield 34, 3) := by decide +kernel
theorem dX8_parseUnit_49 : decode cX8_parseUnit 49 = .ok (.istore_n 3, 1) := by decide +kernel
theorem dX8_parseUnit_50 : decode cX8_parseUnit 50 = .ok (.aload_n 0, 1) := by decide +kernel
theorem dX8_parseUnit_51 : decode cX8_parseUnit 51 = .ok (.iload_n 1, 1) := by decide +kernel
theorem dX8_parseUnit_52 : decode cX8_parseUnit 52 = .ok (.invokevirtual 83, 3) := by decide +kernel
theorem dX8_parseUnit_55 : decode cX8_parseUnit 55 = .ok (.iload_n 3, 1) := by decide +kernel
theorem dX8_parseUnit_56 : decode cX8_parseUnit 56 = .ok (.iconst 1, 1) := by decide +kernel
theorem dX8_parseUnit_57 : decode cX8_parseUnit 57 = .ok (.isub, 1) := by decide +kernel
theorem dX8_parseUnit_58 : decode cX8_parseUnit 58 = .ok (.istore 4, 2) := by decide +kernel
theorem dX8_parseUnit_60 : decode cX8_parseUnit 60 = .ok (.iload 4, 2) := by decide +kernel
theorem dX8_parseUnit_62 : decode cX8_parseUnit 62 = .ok (.iload_n 2, 1) := by decide +kernel
theorem dX8_parseUnit_63 : decode cX8_parseUnit 63 = .ok (.if_icmp .lt 50, 3) := by decide +kernel
theorem dX8_parseUnit_66 : decode cX8_parseUnit 66 = .ok (.aload_n 0, 1) := by decide +kernel
theorem dX8_parseUnit_67 : decode cX8_parseUnit 67 = .ok (.getfield 26, 3) := by decide +kernel
theorem dX8_parseUnit_70 : decode cX8_parseUnit 70 = .ok (.getfield 71, 3) := by decide +kernel
theorem dX8_parseUnit_73 : decode cX8_parseUnit 73 = .ok (.iload 4, 2) := by decide +kernel
theorem dX8_parseUnit_75 : decode cX8_parseUnit 75 = .ok (.iconst 0, 1) := by decide +kernel
theorem dX8_parseUnit_76 : decode cX8_parseUnit 76 = .ok (.invokevirtual 86, 3) := by decide +kernel
theorem dX8_parseUnit_79 : decode cX8_parseUnit 79 = .ok (.istore 5, 2) := by decide +kernel
theorem dX8_parseUnit_81 : decode cX8_parseUnit 81 = .ok (.iload 5, 2) := by decide +kernel
theorem dX8_parseUnit_83 : decode cX8_parseUnit 83 = .ok (.invokestatic 79, 3) := by decide +kernel
theorem dX8_parseUnit_86 : decode cX8_parseUnit 86 = .ok (.ifCond .eq 21, 3) := by decide +kernel
theorem dX8_parseUnit_89 : decode cX8_parseUnit 89 = .ok (.aload_n 0, 1) := by decide +kernel
theorem dX8_parseUnit_90 : decode cX8_parseUnit 90 = .ok (.iload 5, 2) := by decide +kernel
theorem dX8_parseUnit_92 : decode cX8_parseUnit 92 = .ok (.bipush 33, 2) := by decide +kernel
theorem dX8_parseUnit_94 : decode cX8_parseUnit 94 = .ok (.if_icmp .ne 8, 3) := by decide +kernel
theorem dX8_parseUnit_97 : decode cX8_parseUnit 97 = .ok (.bipush (-33), 2) := by decide +kernel
theorem dX8_parseUnit_99 : decode cX8_parseUnit 99 = .ok (.goto 5, 3) := by decide +kernel
theorem dX8_parseUnit_102 : decode cX8_parseUnit 102 = .ok (.bipush (-126), 2) := by decide +kernel
theorem dX8_parseUnit_104 : decode cX8_parseUnit 104 = .ok (.invokevirtual 68, 3) := by decide +kernel
theorem dX8_parseUnit_107 : decode cX8_parseUnit 107 = .ok (.iinc 4 (-1), 3) := by decide +kernel
theorem dX8_parseUnit_110 : decode cX8_parseUnit 110 = .ok (.goto (-50), 3) := by decide +kernel
theorem dX8_parseUnit_113 : decode cX8_parseUnit 113 = .ok (.return_, 1) := by decide +kernel
theorem dX8_parseOperand_0 : decode cX8_parseOperand 0 = .ok (.aload_n 0, 1) := by decide +kernel
theorem dX8_parseOperand_1 : decode cX8_parseOperand 1 = .ok (.invokevirtual 44, 3) := by decide +kernel
theorem dX8_parseOperand_4 : decode cX8_parseOperand 4 = .ok (.istore_n 2, 1) := by decide +kernel
theorem dX8_parseOperand_5 : decode cX8_parseOperand 5 = .ok (.iload_n 2, 1) := by decide +kernel
theorem dX8_parseOperand_6 : decode cX8_parseOperand 6 = .ok (.invokestatic 90, 3) := by decide +kernel
theorem dX8_parseOperand_9 : decode cX8_parseOperand 9 = .ok (.ifCond .eq 10, 3) := by decide +kernel
theorem dX8_parseOperand_12 : decode cX8_parseOperand 12 = .ok (.aload_n 0, 1) := by decide +kernel
theorem dX8_parseOperand_13 : decode cX8_parseOperand 13 = .ok (.invokevirtual 93, 3) := by decide +kernel
theorem dX8_parseOperand_16 : decode cX8_parseOperand 16 = .ok (.goto 116, 3) := by decide +kernel
theorem dX8_parseOperand_19 : decode cX8_parseOperand 19 = .ok (.iload_n 2, 1) := by decide +kernel
theorem dX8_parseOperand_20 : decode cX8_parseOperand 20 = .ok (.invokestatic 96, 3) := by decide +kernel
theorem dX8_parseOperand_23 : decode cX8_parseOperand 23 = .ok (.iconst (-1), 1) := by decide +kernel
theorem dX8_parseOperand_24 : decode cX8_parseOperand 24 = .ok (.if_icmp .eq 26, 3) := by decide +kernel
theorem dX8_parseOperand_27 : decode cX8_parseOperand 27 = .ok (.aload_n 0, 1) := by decide +kernel
theorem dX8_parseOperand_28 : decode cX8_parseOperand 28 = .ok (.dup, 1) := by decide +kernel
theorem dX8_parseOperand_29 : decode cX8_parseOperand 29 = .ok (.getfield 34, 3) := by decide +kernel
theorem dX8_parseOperand_32 : decode cX8_parseOperand 32 = .ok (.iconst 1, 1) := by decide +kernel
theorem dX8_parseOperand_33 : decode cX8_parseOperand 33 = .ok (.iadd, 1) := by decide +kernel
theorem dX8_parseOperand_34 : decode cX8_parseOperand 34 = .ok (.putfield 34, 3) := by decide +kernel
theorem dX8_parseOperand_37 : decode cX8_parseOperand 37 = .ok (.aload_n 0, 1) := by decide +kernel
theorem dX8_parseOperand_38 : decode cX8_parseOperand 38 = .ok (.iconst (-1), 1) := by decide +kernel
theorem dX8_parseOperand_39 : decode cX8_parseOperand 39 = .ok (.iload_n 2, 1) := by decide +kernel
theorem dX8_parseOperand_40 : decode cX8_parseOperand 40 = .ok (.invokestatic 96, 3) := by decide +kernel
theorem dX8_parseOperand_43 : decode cX8_parseOperand 43 = .ok (.isub, 1) := by decide +kernel
theorem dX8_parseOperand_44 : decode cX8_parseOperand 44 = .ok (.invokevirtual 68, 3) := by decide +kernel
theorem dX8_parseOperand_47 : decode cX8_parseOperand 47 = .ok (.goto 85, 3) := by decide +kernel
theorem dX8_parseOperand_50 : decode cX8_parseOperand 50 = .ok (.iload_n 2, 1) := by decide +kernel
theorem dX8_parseOperand_51 : decode cX8_parseOperand 51 = .ok (.bipush 40, 2) := by decide +kernel
theorem dX8_parseOperand_53 : decode cX8_parseOperand 53 = .ok (.if_icmp .eq 15, 3) := by decide +kernel
theorem dX8_parseOperand_56 : decode cX8_parseOperand 56 = .ok (.aload_n 0, 1) := by decide +kernel
theorem dX8_parseOperand_57 : decode cX8_parseOperand 57 = .ok (.aload_n 0, 1) := by decide +kernel
theorem dX8_parseOperand_58 : decode cX8_parseOperand 58 = .ok (.getfield 34, 3) := by decide +kernel
theorem dX8_parseOperand_61 : decode cX8_parseOperand 61 = .ok (.iconst 1, 1) := by decide +kernel
theorem dX8_parseOperand_62 : decode cX8_parseOperand 62 = .ok (.invokevirtual 48, 3) := by decide +kernel
theorem dX8_parseOperand_65 : decode cX8_parseOperand 65 = .ok (.goto 67, 3) := by decide +kernel
theorem dX8_parseOperand_68 : decode cX8_parseOperand 68 = .ok (.iload_n 1, 1) := by decide +kernel
theorem dX8_parseOperand_69 : decode cX8_parseOperand 69 = .ok (.bipush 8, 2) := by decide +kernel
theorem dX8_parseOperand_71 : decode cX8_parseOperand 71 = .ok (.if_icmp .lt 15, 3) := by decide +kernel
theorem dX8_parseOperand_74 : decode cX8_parseOperand 74 = .ok (.aload_n 0, 1) := by decide +kernel
theorem dX8_parseOperand_75 : decode cX8_parseOperand 75 = .ok (.aload_n 0, 1) := by decide +kernel
theorem dX8_parseOperand_76 : decode cX8_parseOperand 76 = .ok (.getfield 34, 3) := by decide +kernel
theorem dX8_parseOperand_79 : decode cX8_parseOperand 79 = .ok (.iconst 3, 1) := by decide +kernel
theorem dX8_parseOperand_80 : decode cX8_parseOperand 80 = .ok (.invokevirtual 48, 3) := by decide +kernel
theorem dX8_parseOperand_83 : decode cX8_parseOperand 83 = .ok (.goto 49, 3) := by decide +kernel
theorem dX8_parseOperand_86 : decode cX8_parseOperand 86 = .ok (.aload_n 0, 1) := by decide +kernel
theorem dX8_parseOperand_87 : decode cX8_parseOperand 87 = .ok (.dup, 1) := by decide +kernel
theorem dX8_parseOperand_88 : decode cX8_parseOperand 88 = .ok (.getfield 34, 3) := by decide +kernel
theorem dX8_parseOperand_91 : decode cX8_parseOperand 91 = .ok (.iconst 1, 1) := by decide +kernel
theorem dX8_parseOperand_92 : decode cX8_parseOperand 92 = .ok (.iadd, 1) := by decide +kernel
theorem dX8_parseOperand_93 : decode cX8_parseOperand 93 = .ok (.putfield 34, 3) := by decide +kernel
theorem dX8_parseOperand_96 : decode cX8_parseOperand 96 = .ok (.aload_n 0, 1) := by decide +kernel
theorem dX8_parseOperand_97 : decode cX8_parseOperand 97 = .ok (.iconst 0, 1) := by decide +kernel
theorem dX8_parseOperand_98 : decode cX8_parseOperand 98 = .ok (.iload_n 1, 1) := by decide +kernel
theorem dX8_parseOperand_99 : decode cX8_parseOperand 99 = .ok (.iconst 1, 1) := by decide +kernel
theorem dX8_parseOperand_100 : decode cX8_parseOperand 100 = .ok (.iadd, 1) := by decide +kernel
theorem dX8_parseOperand_101 : decode cX8_parseOperand 101 = .ok (.invokevirtual 40, 3) := by decide +kernel
theorem dX8_parseOperand_104 : decode cX8_parseOperand 104 = .ok (.aload_n 0, 1) := by decide +kernel
theorem dX8_parseOperand_105 : decode cX8_parseOperand 105 = .ok (.invokevirtual 44, 3) := by decide +kernel
theorem dX8_parseOperand_108 : decode cX8_parseOperand 108 = .ok (.bipush 41, 2) := by decide +kernel
theorem dX8_parseOperand_110 : decode cX8_parseOperand 110 = .ok (.if_icmp .eq 12, 3) := by decide +kernel
theorem dX8_parseOperand_113 : decode cX8_parseOperand 113 = .ok (.aload_n 0, 1) := by decide +kernel
theorem dX8_parseOperand_114 : decode cX8_parseOperand 114 = .ok (.aload_n 0, 1) := by decide +kernel
theorem dX8_parseOperand_115 : decode cX8_parseOperand 115 = .ok (.getfield 34, 3) := by decide +kernel
theorem dX8_parseOperand_118 : decode cX8_parseOperand 118 = .ok (.iconst 1, 1) := by decide +kernel
theorem dX8_parseOperand_119 : decode cX8_parseOperand 119 = .ok (.invokevirtual 48, 3) := by decide +kernel
theorem dX8_parseOperand_122 : decode cX8_parseOperand 122 = .ok (.aload_n 0, 1) := by decide +kernel
theorem dX8_parseOperand_123 : decode cX8_parseOperand 123 = .ok (.dup, 1) := by decide +kernel
theorem dX8_parseOperand_124 : decode cX8_parseOperand 124 = .ok (.getfield 34, 3) := by decide +kernel
theorem dX8_parseOperand_127 : decode cX8_parseOperand 127 = .ok (.iconst 1, 1) := by decide +kernel
theorem dX8_parseOperand_128 : decode cX8_parseOperand 128 = .ok (.iadd, 1) := by decide +kernel
theorem dX8_parseOperand_129 : decode cX8_parseOperand 129 = .ok (.putfield 34, 3) := by decide +kernel
theorem dX8_parseOperand_132 : decode cX8_parseOperand 132 = .ok (.return_, 1) := by decide +kernel
theorem dX8_parseNumber_0 : decode cX8_parseNumber 0 = .ok (.aload_n 0, 1) := by decide +kernel
theorem dX8_parseNumber_1 : decode cX8_parseNumber 1 = .ok (.getfield 34, 3) := by decide +kernel
theorem dX8_parseNumber_4 : decode cX8_parseNumber 4 = .ok (.istore_n 1, 1) := by decide +kernel
theorem dX8_parseNumber_5 : decode cX8_parseNumber 5 = .ok (.iconst 0, 1) := by decide +kernel
theorem dX8_parseNumber_6 : decode cX8_parseNumber 6 = .ok (.istore_n 2, 1) := by decide +kernel
theorem dX8_parseNumber_7 : decode cX8_parseNumber 7 = .ok (.aload_n 0, 1) := by decide +kernel
theorem dX8_parseNumber_8 : decode cX8_parseNumber 8 = .ok (.getfield 34, 3) := by decide +kernel
theorem dX8_parseNumber_11 : decode cX8_parseNumber 11 = .ok (.aload_n 0, 1) := by decide +kernel
theorem dX8_parseNumber_12 : decode cX8_parseNumber 12 = .ok (.getfield 26, 3) := by decide +kernel
theorem dX8_parseNumber_15 : decode cX8_parseNumber 15 = .ok (.getfield 71, 3) := by decide +kernel
theorem dX8_parseNumber_18 : decode cX8_parseNumber 18 = .ok (.invokevirtual 75, 3) := by decide +kernel
theorem dX8_parseNumber_21 : decode cX8_parseNumber 21 = .ok (.if_icmp .ge 72, 3) := by decide +kernel
theorem dX8_parseNumber_24 : decode cX8_parseNumber 24 = .ok (.aload_n 0, 1) := by decide +kernel
theorem dX8_parseNumber_25 : decode cX8_parseNumber 25 = .ok (.getfield 26, 3) := by decide +kernel
theorem dX8_parseNumber_28 : decode cX8_parseNumber 28 = .ok (.getfield 71, 3) := by decide +kernel
theorem dX8_parseNumber_31 : decode cX8_parseNumber 31 = .ok (.aload_n 0, 1) := by decide +kernel
theorem dX8_parseNumber_32 : decode cX8_parseNumber 32 = .ok (.getfield 34, 3) := by decide +kernel
theorem dX8_parseNumber_35 : decode cX8_parseNumber 35 = .ok (.iconst 0, 1) := by decide +kernel
theorem dX8_parseNumber_36 : decode cX8_parseNumber 36 = .ok (.invokevirtual 86, 3) := by decide +kernel
theorem dX8_parseNumber_39 : decode cX8_parseNumber 39 = .ok (.invokestatic 90, 3) := by decide +kernel
theorem dX8_parseNumber_42 : decode cX8_parseNumber 42 = .ok (.ifCond .eq 51, 3) := by decide +kernel
theorem dX8_parseNumber_45 : decode cX8_parseNumber 45 = .ok (.aload_n 0, 1) := by decide +kernel
theorem dX8_parseNumber_46 : decode cX8_parseNumber 46 = .ok (.getfield 34, 3) := by decide +kernel
theorem dX8_parseNumber_49 : decode cX8_parseNumber 49 = .ok (.iload_n 1, 1) := by decide +kernel
theorem dX8_parseNumber_50 : decode cX8_parseNumber 50 = .ok (.isub, 1) := by decide +kernel
theorem dX8_parseNumber_51 : decode cX8_parseNumber 51 = .ok (.bipush 6, 2) := by decide +kernel
theorem dX8_parseNumber_53 : decode cX8_parseNumber 53 = .ok (.if_icmp .ge 27, 3) := by decide +kernel
theorem dX8_parseNumber_56 : decode cX8_parseNumber 56 = .ok (.bipush 10, 2) := by decide +kernel
theorem dX8_parseNumber_58 : decode cX8_parseNumber 58 = .ok (.iload_n 2, 1) := by decide +kernel
theorem dX8_parseNumber_59 : decode cX8_parseNumber 59 = .ok (.imul, 1) := by decide +kernel
theorem dX8_parseNumber_60 : decode cX8_parseNumber 60 = .ok (.aload_n 0, 1) := by decide +kernel
theorem dX8_parseNumber_61 : decode cX8_parseNumber 61 = .ok (.getfield 26, 3) := by decide +kernel
theorem dX8_parseNumber_64 : decode cX8_parseNumber 64 = .ok (.getfield 71, 3) := by decide +kernel
theorem dX8_parseNumber_67 : decode cX8_parseNumber 67 = .ok (.aload_n 0, 1) := by decide +kernel
theorem dX8_parseNumber_68 : decode cX8_parseNumber 68 = .ok (.getfield 34, 3) := by decide +kernel
theorem dX8_parseNumber_71 : decode cX8_parseNumber 71 = .ok (.iconst 0, 1) := by decide +kernel
theorem dX8_parseNumber_72 : decode cX8_parseNumber 72 = .ok (.invokevirtual 86, 3) := by decide +kernel
theorem dX8_parseNumber_75 : decode cX8_parseNumber 75 = .ok (.iadd, 1) := by decide +kernel
theorem dX8_parseNumber_76 : decode cX8_parseNumber 76 = .ok (.bipush 48, 2) := by decide +kernel
theorem dX8_parseNumber_78 : decode cX8_parseNumber 78 = .ok (.isub, 1) := by decide +kernel
theorem dX8_parseNumber_79 : decode cX8_parseNumber 79 = .ok (.istore_n 2, 1) := by decide +kernel
theorem dX8_parseNumber_80 : decode cX8_parseNumber 80 = .ok (.aload_n 0, 1) := by decide +kernel
theorem dX8_parseNumber_81 : decode cX8_parseNumber 81 = .ok (.dup, 1) := by decide +kernel
theorem dX8_parseNumber_82 : decode cX8_parseNumber 82 = .ok (.getfield 34, 3) := by decide +kernel
theorem dX8_parseNumber_85 : decode cX8_parseNumber 85 = .ok (.iconst 1, 1) := by decide +kernel
theorem dX8_parseNumber_86 : decode cX8_parseNumber 86 = .ok (.iadd, 1) := by decide +kernel
theorem dX8_parseNumber_87 : decode cX8_parseNumber 87 = .ok (.putfield 34, 3) := by decide +kernel
theorem dX8_parseNumber_90 : decode cX8_parseNumber 90 = .ok (.goto (-83), 3) := by decide +kernel
theorem dX8_parseNumber_93 : decode cX8_parseNumber 93 = .ok (.aload_n 0, 1) := by decide +kernel
theorem dX8_parseNumber_94 : decode cX8_parseNumber 94 = .ok (.getfield 34, 3) := by decide +kernel
theorem dX8_parseNumber_97 : decode cX8_parseNumber 97 = .ok (.iload_n 1, 1) := by decide +kernel
theorem dX8_parseNumber_98 : decode cX8_parseNumber 98 = .ok (.isub, 1) := by decide +kernel
theorem dX8_parseNumber_99 : decode cX8_parseNumber 99 = .ok (.bipush 6, 2) := by decide +kernel
theorem dX8_parseNumber_101 : decode cX8_parseNumber 101 = .ok (.if_icmp .le 9, 3) := by decide +kernel
theorem dX8_parseNumber_104 : decode cX8_parseNumber 104 = .ok (.aload_n 0, 1) := by decide +kernel
theorem dX8_parseNumber_105 : decode cX8_parseNumber 105 = .ok (.iload_n 1, 1) := by decide +kernel
theorem dX8_parseNumber_106 : decode cX8_parseNumber 106 = .ok (.iconst 2, 1) := by decide +kernel
theorem dX8_parseNumber_107 : decode cX8_parseNumber 107 = .ok (.invokevirtual 48, 3) := by decide +kernel
theorem dX8_parseNumber_110 : decode cX8_parseNumber 110 = .ok (.aload_n 0, 1) := by decide +kernel
theorem dX8_parseNumber_111 : decode cX8_parseNumber 111 = .ok (.iload_n 2, 1) := by decide +kernel
theorem dX8_parseNumber_112 : decode cX8_parseNumber 112 = .ok (.invokevirtual 68, 3) := by decide +kernel
theorem dX8_parseNumber_115 : decode cX8_parseNumber 115 = .ok (.return_, 1) := by decide +kernel
theorem dX8_ahead_0 : decode cX8_ahead 0 = .ok (.aload_n 0, 1) := by decide +kernel
theorem dX8_ahead_1 : decode cX8_ahead 1 = .ok (.getfield 34, 3) := by decide +kernel
theorem dX8_ahead_4 : decode cX8_ahead 4 = .ok (.aload_n 0, 1) := by decide +kernel
theorem dX8_ahead_5 : decode cX8_ahead 5 = .ok (.getfield 26, 3) := by decide +kernel
theorem dX8_ahead_8 : decode cX8_ahead 8 = .ok (.getfield 71, 3) := by decide +kernel
theorem dX8_ahead_11 : decode cX8_ahead 11 = .ok (.invokevirtual 75, 3) := by decide +kernel
theorem dX8_ahead_14 : decode cX8_ahead 14 = .ok (.if_icmp .ge 36, 3) := by decide +kernel
theorem dX8_ahead_17 : decode cX8_ahead 17 = .ok (.aload_n 0, 1) := by decide +kernel
theorem dX8_ahead_18 : decode cX8_ahead 18 = .ok (.getfield 26, 3) := by decide +kernel
theorem dX8_ahead_21 : decode cX8_ahead 21 = .ok (.getfield 71, 3) := by decide +kernel
theorem dX8_ahead_24 : decode cX8_ahead 24 = .ok (.aload_n 0, 1) := by decide +kernel
theorem dX8_ahead_25 : decode cX8_ahead 25 = .ok (.getfield 34, 3) := by decide +kernel
theorem dX8_ahead_28 : decode cX8_ahead 28 = .ok (.iconst 0, 1) := by decide +kernel
theorem dX8_ahead_29 : decode cX8_ahead 29 = .ok (.invokevirtual 86, 3) := by decide +kernel
theorem dX8_ahead_32 : decode cX8_ahead 32 = .ok (.bipush 32, 2) := by decide +kernel
theorem dX8_ahead_34 : decode cX8_ahead 34 = .ok (.if_icmp .ne 16, 3) := by decide +kernel
theorem dX8_ahead_37 : decode cX8_ahead 37 = .ok (.aload_n 0, 1) := by decide +kernel
theorem dX8_ahead_38 : decode cX8_ahead 38 = .ok (.dup, 1) := by decide +kernel
theorem dX8_ahead_39 : decode cX8_ahead 39 = .ok (.getfield 34, 3) := by decide +kernel
theorem dX8_ahead_42 : decode cX8_ahead 42 = .ok (.iconst 1, 1) := by decide +kernel
theorem dX8_ahead_43 : decode cX8_ahead 43 = .ok (.iadd, 1) := by decide +kernel
theorem dX8_ahead_44 : decode cX8_ahead 44 = .ok (.putfield 34, 3) := by decide +kernel
theorem dX8_ahead_47 : decode cX8_ahead 47 = .ok (.goto (-47), 3) := by decide +kernel
theorem dX8_ahead_50 : decode cX8_ahead 50 = .ok (.aload_n 0, 1) := by decide +kernel
theorem dX8_ahead_51 : decode cX8_ahead 51 = .ok (.getfield 34, 3) := by decide +kernel
theorem dX8_ahead_54 : decode cX8_ahead 54 = .ok (.aload_n 0, 1) := by decide +kernel
theorem dX8_ahead_55 : decode cX8_ahead 55 = .ok (.getfield 26, 3) := by decide +kernel
theorem dX8_ahead_58 : decode cX8_ahead 58 = .ok (.getfield 71, 3) := by decide +kernel
theorem dX8_ahead_61 : decode cX8_ahead 61 = .ok (.invokevirtual 75, 3) := by decide +kernel
theorem dX8_ahead_64 : decode cX8_ahead 64 = .ok (.if_icmp .ge 21, 3) := by decide +kernel
theorem dX8_ahead_67 : decode cX8_ahead 67 = .ok (.aload_n 0, 1) := by decide +kernel
theorem dX8_ahead_68 : decode cX8_ahead 68 = .ok (.getfield 26, 3) := by decide +kernel
theorem dX8_ahead_71 : decode cX8_ahead 71 = .ok (.getfield 71, 3) := by decide +kernel
theorem dX8_ahead_74 : decode cX8_ahead 74 = .ok (.aload_n 0, 1) := by decide +kernel
theorem dX8_ahead_75 : decode cX8_ahead 75 = .ok (.getfield 34, 3) := by decide +kernel
theorem dX8_ahead_78 : decode cX8_ahead 78 = .ok (.iconst 0, 1) := by decide +kernel
theorem dX8_ahead_79 : decode cX8_ahead 79 = .ok (.invokevirtual 86, 3) := by decide +kernel
theorem dX8_ahead_82 : decode cX8_ahead 82 = .ok (.goto 4, 3) := by decide +kernel
theorem dX8_ahead_85 : decode cX8_ahead 85 = .ok (.iconst (-1), 1) := by decide +kernel
theorem dX8_ahead_86 : decode cX8_ahead 86 = .ok (.ireturn, 1) := by decide +kernel
theorem dX8_stop_0 : decode cX8_stop 0 = .ok (.aload_n 0, 1) := by decide +kernel
theorem dX8_stop_1 : decode cX8_stop 1 = .ok (.getfield 37, 3) := by decide +kernel
theorem dX8_stop_4 : decode cX8_stop 4 = .ok (.iconst (-1), 1) := by decide +kernel
theorem dX8_stop_5 : decode cX8_stop 5 = .ok (.if_icmp .ne 13, 3) := by decide +kernel
theorem dX8_stop_8 : decode cX8_stop 8 = .ok (.aload_n 0, 1) := by decide +kernel
theorem dX8_stop_9 : decode cX8_stop 9 = .ok (.bipush 10, 2) := by decide +kernel
theorem dX8_stop_11 : decode cX8_stop 11 = .ok (.iload_n 1, 1) := by decide +kernel
theorem dX8_stop_12 : decode cX8_stop 12 = .ok (.imul, 1) := by decide +kernel
theorem dX8_stop_13 : decode cX8_stop 13 = .ok (.iload_n 2, 1) := by decide +kernel
theorem dX8_stop_14 : decode cX8_stop 14 = .ok (.iadd, 1) := by decide +kernel
theorem dX8_stop_15 : decode cX8_stop 15 = .ok (.putfield 37, 3) := by decide +kernel
theorem dX8_stop_18 : decode cX8_stop 18 = .ok (.return_, 1) := by decide +kernel
theorem dX8_emit_0 : decode cX8_emit 0 = .ok (.aload_n 0, 1) := by decide +kernel
theorem dX8_emit_1 : decode cX8_emit 1 = .ok (.getfield 37, 3) := by decide +kernel
theorem dX8_emit_4 : decode cX8_emit 4 = .ok (.iconst (-1), 1) := by decide +kernel
theorem dX8_emit_5 : decode cX8_emit 5 = .ok (.if_icmp .ne 35, 3) := by decide +kernel
theorem dX8_emit_8 : decode cX8_emit 8 = .ok (.aload_n 0, 1) := by decide +kernel
theorem dX8_emit_9 : decode cX8_emit 9 = .ok (.getfield 30, 3) := by decide +kernel
theorem dX8_emit_12 : decode cX8_emit 12 = .ok (.aload_n 0, 1) := by decide +kernel
theorem dX8_emit_13 : decode cX8_emit 13 = .ok (.getfield 11, 3) := by decide +kernel
theorem dX8_emit_16 : decode cX8_emit 16 = .ok (.arraylength, 1) := by decide +kernel
theorem dX8_emit_17 : decode cX8_emit 17 = .ok (.if_icmp .ge 23, 3) := by decide +kernel
theorem dX8_emit_20 : decode cX8_emit 20 = .ok (.aload_n 0, 1) := by decide +kernel
theorem dX8_emit_21 : decode cX8_emit 21 = .ok (.getfield 11, 3) := by decide +kernel
theorem dX8_emit_24 : decode cX8_emit 24 = .ok (.aload_n 0, 1) := by decide +kernel
theorem dX8_emit_25 : decode cX8_emit 25 = .ok (.getfield 30, 3) := by decide +kernel
theorem dX8_emit_28 : decode cX8_emit 28 = .ok (.iload_n 1, 1) := by decide +kernel
theorem dX8_emit_29 : decode cX8_emit 29 = .ok (.iastore, 1) := by decide +kernel
theorem dX8_emit_30 : decode cX8_emit 30 = .ok (.aload_n 0, 1) := by decide +kernel
theorem dX8_emit_31 : decode cX8_emit 31 = .ok (.dup, 1) := by decide +kernel
theorem dX8_emit_32 : decode cX8_emit 32 = .ok (.getfield 30, 3) := by decide +kernel
theorem dX8_emit_35 : decode cX8_emit 35 = .ok (.iconst 1, 1) := by decide +kernel
theorem dX8_emit_36 : decode cX8_emit 36 = .ok (.iadd, 1) := by decide +kernel
theorem dX8_emit_37 : decode cX8_emit 37 = .ok (.putfield 30, 3) := by decide +kernel
theorem dX8_emit_40 : decode cX8_emit 40 = .ok (.return_, 1) := by decide +kernel
theorem dX8_worked_0 : decode cX8_worked 0 = .ok (.iconst 0, 1) := by decide +kernel
theorem dX8_worked_1 : decode cX8_worked 1 = .ok (.istore_n 1, 1) := by decide +kernel
theorem dX8_worked_2 : decode cX8_worked 2 = .ok (.iconst 0, 1) := by decide +kernel
theorem dX8_worked_3 : decode cX8_worked 3 = .ok (.istore_n 2, 1) := by decide +kernel
theorem dX8_worked_4 : decode cX8_worked 4 = .ok (.iload_n 2, 1) := by decide +kernel
theorem dX8_worked_5 : decode cX8_worked 5 = .ok (.aload_n 0, 1) := by decide +kernel
theorem dX8_worked_6 : decode cX8_worked 6 = .ok (.getfield 30, 3) := by decide +kernel
theorem dX8_worked_9 : decode cX8_worked 9 = .ok (.if_icmp .ge 159, 3) := by decide +kernel
theorem dX8_worked_12 : decode cX8_worked 12 = .ok (.aload_n 0, 1) := by decide +kernel
theorem dX8_worked_13 : decode cX8_worked 13 = .ok (.getfield 11, 3) := by decide +kernel
theorem dX8_worked_16 : decode cX8_worked 16 = .ok (.iload_n 2, 1) := by decide +kernel
theorem dX8_worked_17 : decode cX8_worked 17 = .ok (.iaload, 1) := by decide +kernel
theorem dX8_worked_18 : decode cX8_worked 18 = .ok (.istore_n 3, 1) := by decide +kernel
theorem dX8_worked_19 : decode cX8_worked 19 = .ok (.iload_n 3, 1) := by decide +kernel
theorem dX8_worked_20 : decode cX8_worked 20 = .ok (.bipush (-33), 2) := by decide +kernel
theorem dX8_worked_22 : decode cX8_worked 22 = .ok (.if_icmp .eq 9, 3) := by decide +kernel
theorem dX8_worked_25 : decode cX8_worked 25 = .ok (.iload_n 3, 1) := by decide +kernel
theorem dX8_worked_26 : decode cX8_worked 26 = .ok (.bipush (-126), 2) := by decide +kernel
theorem dX8_worked_28 : decode cX8_worked 28 = .ok (.if_icmp .ne 54, 3) := by decide +kernel
theorem dX8_worked_31 : decode cX8_worked 31 = .ok (.iload_n 1, 1) := by decide +kernel
theorem dX8_worked_32 : decode cX8_worked 32 = .ok (.ifCond .le 130, 3) := by decide +kernel
theorem dX8_worked_35 : decode cX8_worked 35 = .ok (.aload_n 0, 1) := by decide +kernel
theorem dX8_worked_36 : decode cX8_worked 36 = .ok (.getfield 15, 3) := by decide +kernel
theorem dX8_worked_39 : decode cX8_worked 39 = .ok (.iload_n 1, 1) := by decide +kernel
theorem dX8_worked_40 : decode cX8_worked 40 = .ok (.iconst 1, 1) := by decide +kernel
theorem dX8_worked_41 : decode cX8_worked 41 = .ok (.isub, 1) := by decide +kernel
theorem dX8_worked_42 : decode cX8_worked 42 = .ok (.iload_n 3, 1) := by decide +kernel
theorem dX8_worked_43 : decode cX8_worked 43 = .ok (.bipush (-126), 2) := by decide +kernel
theorem dX8_worked_45 : decode cX8_worked 45 = .ok (.if_icmp .ne 15, 3) := by decide +kernel
theorem dX8_worked_48 : decode cX8_worked 48 = .ok (.aload_n 0, 1) := by decide +kernel
theorem dX8_worked_49 : decode cX8_worked 49 = .ok (.getfield 15, 3) := by decide +kernel
theorem dX8_worked_52 : decode cX8_worked 52 = .ok (.iload_n 1, 1) := by decide +kernel
theorem dX8_worked_53 : decode cX8_worked 53 = .ok (.iconst 1, 1) := by decide +kernel
theorem dX8_worked_54 : decode cX8_worked 54 = .ok (.isub, 1) := by decide +kernel
theorem dX8_worked_55 : decode cX8_worked 55 = .ok (.laload, 1) := by decide +kernel
theorem dX8_worked_56 : decode cX8_worked 56 = .ok (.lneg, 1) := by decide +kernel
theorem dX8_worked_57 : decode cX8_worked 57 = .ok (.goto 21, 3) := by decide +kernel
theorem dX8_worked_60 : decode cX8_worked 60 = .ok (.aload_n 0, 1) := by decide +kernel
theorem dX8_worked_61 : decode cX8_worked 61 = .ok (.getfield 15, 3) := by decide +kernel
theorem dX8_worked_64 : decode cX8_worked 64 = .ok (.iload_n 1, 1) := by decide +kernel
theorem dX8_worked_65 : decode cX8_worked 65 = .ok (.iconst 1, 1) := by decide +kernel
theorem dX8_worked_66 : decode cX8_worked 66 = .ok (.isub, 1) := by decide +kernel
theorem dX8_worked_67 : decode cX8_worked 67 = .ok (.laload, 1) := by decide +kernel
theorem dX8_worked_68 : decode cX8_worked 68 = .ok (.lconst 0, 1) := by decide +kernel
theorem dX8_worked_69 : decode cX8_worked 69 = .ok (.lcmp, 1) := by decide +kernel
theorem dX8_worked_70 : decode cX8_worked 70 = .ok (.ifCond .ne 7, 3) := by decide +kernel
theorem dX8_worked_73 : decode cX8_worked 73 = .ok (.lconst 1, 1) := by decide +kernel
theorem dX8_worked_74 : decode cX8_worked 74 = .ok (.goto 4, 3) := by decide +kernel
theorem dX8_worked_77 : decode cX8_worked 77 = .ok (.lconst 0, 1) := by decide +kernel
theorem dX8_worked_78 : decode cX8_worked 78 = .ok (.lastore, 1) := by decide +kernel
theorem dX8_worked_79 : decode cX8_worked 79 = .ok (.goto 83, 3) := by decide +kernel
theorem dX8_worked_82 : decode cX8_worked 82 = .ok (.iload_n 3, 1) := by decide +kernel
theorem dX8_worked_83 : decode cX8_worked 83 = .ok (.bipush (-6), 2) := by decide +kernel
theorem dX8_worked_85 : decode cX8_worked 85 = .ok (.if_icmp .ge 41, 3) := by decide +kernel
theorem dX8_worked_88 : decode cX8_worked 88 = .ok (.iload_n 1, 1) := by decide +kernel
theorem dX8_worked_89 : decode cX8_worked 89 = .ok (.iconst 1, 1) := by decide +kernel
theorem dX8_worked_90 : decode cX8_worked 90 = .ok (.if_icmp .le 72, 3) := by decide +kernel
theorem dX8_worked_93 : decode cX8_worked 93 = .ok (.iinc 1 (-1), 3) := by decide +kernel
theorem dX8_worked_96 : decode cX8_worked 96 = .ok (.aload_n 0, 1) := by decide +kernel
theorem dX8_worked_97 : decode cX8_worked 97 = .ok (.getfield 15, 3) := by decide +kernel
theorem dX8_worked_100 : decode cX8_worked 100 = .ok (.iload_n 1, 1) := by decide +kernel
theorem dX8_worked_101 : decode cX8_worked 101 = .ok (.iconst 1, 1) := by decide +kernel
theorem dX8_worked_102 : decode cX8_worked 102 = .ok (.isub, 1) := by decide +kernel
theorem dX8_worked_103 : decode cX8_worked 103 = .ok (.iload_n 3, 1) := by decide +kernel
theorem dX8_worked_104 : decode cX8_worked 104 = .ok (.ineg, 1) := by decide +kernel
theorem dX8_worked_105 : decode cX8_worked 105 = .ok (.aload_n 0, 1) := by decide +kernel
theorem dX8_worked_106 : decode cX8_worked 106 = .ok (.getfield 15, 3) := by decide +kernel
theorem dX8_worked_109 : decode cX8_worked 109 = .ok (.iload_n 1, 1) := by decide +kernel
theorem dX8_worked_110 : decode cX8_worked 110 = .ok (.iconst 1, 1) := by decide +kernel
theorem dX8_worked_111 : decode cX8_worked 111 = .ok (.isub, 1) := by decide +kernel
theorem dX8_worked_112 : decode cX8_worked 112 = .ok (.laload, 1) := by decide +kernel
theorem dX8_worked_113 : decode cX8_worked 113 = .ok (.aload_n 0, 1) := by decide +kernel
theorem dX8_worked_114 : decode cX8_worked 114 = .ok (.getfield 15, 3) := by decide +kernel
theorem dX8_worked_117 : decode cX8_worked 117 = .ok (.iload_n 1, 1) := by decide +kernel
theorem dX8_worked_118 : decode cX8_worked 118 = .ok (.laload, 1) := by decide +kernel
theorem dX8_worked_119 : decode cX8_worked 119 = .ok (.invokestatic 99, 3) := by decide +kernel
theorem dX8_worked_122 : decode cX8_worked 122 = .ok (.lastore, 1) := by decide +kernel
theorem dX8_worked_123 : decode cX8_worked 123 = .ok (.goto 39, 3) := by decide +kernel
theorem dX8_worked_126 : decode cX8_worked 126 = .ok (.iload_n 1, 1) := by decide +kernel
theorem dX8_worked_127 : decode cX8_worked 127 = .ok (.aload_n 0, 1) := by decide +kernel
theorem dX8_worked_128 : decode cX8_worked 128 = .ok (.getfield 15, 3) := by decide +kernel
theorem dX8_worked_131 : decode cX8_worked 131 = .ok (.arraylength, 1) := by decide +kernel
theorem dX8_worked_132 : decode cX8_worked 132 = .ok (.if_icmp .ge 30, 3) := by decide +kernel
theorem dX8_worked_135 : decode cX8_worked 135 = .ok (.aload_n 0, 1) := by decide +kernel
theorem dX8_worked_136 : decode cX8_worked 136 = .ok (.getfield 15, 3) := by decide +kernel
theorem dX8_worked_139 : decode cX8_worked 139 = .ok (.iload_n 1, 1) := by decide +kernel
theorem dX8_worked_140 : decode cX8_worked 140 = .ok (.iload_n 3, 1) := by decide +kernel
theorem dX8_worked_141 : decode cX8_worked 141 = .ok (.ifCond .lt 8, 3) := by decide +kernel
theorem dX8_worked_144 : decode cX8_worked 144 = .ok (.iload_n 3, 1) := by decide +kernel
theorem dX8_worked_145 : decode cX8_worked 145 = .ok (.i2l, 1) := by decide +kernel
theorem dX8_worked_146 : decode cX8_worked 146 = .ok (.goto 12, 3) := by decide +kernel
theorem dX8_worked_149 : decode cX8_worked 149 = .ok (.aload_n 0, 1) := by decide +kernel
theorem dX8_worked_150 : decode cX8_worked 150 = .ok (.getfield 19, 3) := by decide +kernel
theorem dX8_worked_153 : decode cX8_worked 153 = .ok (.iconst (-1), 1) := by decide +kernel
theorem dX8_worked_154 : decode cX8_worked 154 = .ok (.iload_n 3, 1) := by decide +kernel
theorem dX8_worked_155 : decode cX8_worked 155 = .ok (.isub, 1) := by decide +kernel
theorem dX8_worked_156 : decode cX8_worked 156 = .ok (.iaload, 1) := by decide +kernel
theorem dX8_worked_157 : decode cX8_worked 157 = .ok (.i2l, 1) := by decide +kernel
theorem dX8_worked_158 : decode cX8_worked 158 = .ok (.lastore, 1) := by decide +kernel
theorem dX8_worked_159 : decode cX8_worked 159 = .ok (.iinc 1 1, 3) := by decide +kernel
theorem dX8_worked_162 : decode cX8_worked 162 = .ok (.iinc 2 1, 3) := by decide +kernel
theorem dX8_worked_165 : decode cX8_worked 165 = .ok (.goto (-161), 3) := by decide +kernel
theorem dX8_worked_168 : decode cX8_worked 168 = .ok (.iload_n 1, 1) := by decide +kernel
theorem dX8_worked_169 : decode cX8_worked 169 = .ok (.ifCond .le 12, 3) := by decide +kernel
theorem dX8_worked_172 : decode cX8_worked 172 = .ok (.aload_n 0, 1) := by decide +kernel
theorem dX8_worked_173 : decode cX8_worked 173 = .ok (.getfield 15, 3) := by decide +kernel
theorem dX8_worked_176 : decode cX8_worked 176 = .ok (.iconst 0, 1) := by decide +kernel
theorem dX8_worked_177 : decode cX8_worked 177 = .ok (.laload, 1) := by decide +kernel
theorem dX8_worked_178 : decode cX8_worked 178 = .ok (.goto 4, 3) := by decide +kernel
theorem dX8_worked_181 : decode cX8_worked 181 = .ok (.lconst 0, 1) := by decide +kernel
theorem dX8_worked_182 : decode cX8_worked 182 = .ok (.lreturn, 1) := by decide +kernel
theorem dX8_joined_0 : decode cX8_joined 0 = .ok (.iload_n 0, 1) := by decide +kernel
theorem dX8_joined_1 : decode cX8_joined 1 = .ok (.lookupswitch 159 #[(38, 93), (42, 155), (43, 147), (45, 151), (60, 111), (61, 135), (62, 123), (124, 75)], 75) := by decide +kernel
theorem dX8_joined_76 : decode cX8_joined 76 = .ok (.lload_n 1, 1) := by decide +kernel
theorem dX8_joined_77 : decode cX8_joined 77 = .ok (.lconst 0, 1) := by decide +kernel
theorem dX8_joined_78 : decode cX8_joined 78 = .ok (.lcmp, 1) := by decide +kernel
theorem dX8_joined_79 : decode cX8_joined 79 = .ok (.ifCond .ne 9, 3) := by decide +kernel
theorem dX8_joined_82 : decode cX8_joined 82 = .ok (.lload_n 3, 1) := by decide +kernel
theorem dX8_joined_83 : decode cX8_joined 83 = .ok (.lconst 0, 1) := by decide +kernel
theorem dX8_joined_84 : decode cX8_joined 84 = .ok (.lcmp, 1) := by decide +kernel
theorem dX8_joined_85 : decode cX8_joined 85 = .ok (.ifCond .eq 7, 3) := by decide +kernel
theorem dX8_joined_88 : decode cX8_joined 88 = .ok (.lconst 1, 1) := by decide +kernel
theorem dX8_joined_89 : decode cX8_joined 89 = .ok (.goto 4, 3) := by decide +kernel
theorem dX8_joined_92 : decode cX8_joined 92 = .ok (.lconst 0, 1) := by decide +kernel
theorem dX8_joined_93 : decode cX8_joined 93 = .ok (.lreturn, 1) := by decide +kernel
theorem dX8_joined_94 : decode cX8_joined 94 = .ok (.lload_n 1, 1) := by decide +kernel
theorem dX8_joined_95 : decode cX8_joined 95 = .ok (.lconst 0, 1) := by decide +kernel
theorem dX8_joined_96 : decode cX8_joined 96 = .ok (.lcmp, 1) := by decide +kernel
theorem dX8_joined_97 : decode cX8_joined 97 = .ok (.ifCond .eq 13, 3) := by decide +kernel
theorem dX8_joined_100 : decode cX8_joined 100 = .ok (.lload_n 3, 1) := by decide +kernel
theorem dX8_joined_101 : decode cX8_joined 101 = .ok (.lconst 0, 1) := by decide +kernel
theorem dX8_joined_102 : decode cX8_joined 102 = .ok (.lcmp, 1) := by decide +kernel
theorem dX8_joined_103 : decode cX8_joined 103 = .ok (.ifCond .eq 7, 3) := by decide +kernel
theorem dX8_joined_106 : decode cX8_joined 106 = .ok (.lconst 1, 1) := by decide +kernel
theorem dX8_joined_107 : decode cX8_joined 107 = .ok (.goto 4, 3) := by decide +kernel
theorem dX8_joined_110 : decode cX8_joined 110 = .ok (.lconst 0, 1) := by decide +kernel
theorem dX8_joined_111 : decode cX8_joined 111 = .ok (.lreturn, 1) := by decide +kernel
theorem dX8_joined_112 : decode cX8_joined 112 = .ok (.lload_n 1, 1) := by decide +kernel
theorem dX8_joined_113 : decode cX8_joined 113 = .ok (.lload_n 3, 1) := by decide +kernel
theorem dX8_joined_114 : decode cX8_joined 114 = .ok (.lcmp, 1) := by decide +kernel
theorem dX8_joined_115 : decode cX8_joined 115 = .ok (.ifCond .ge 7, 3) := by decide +kernel
theorem dX8_joined_118 : decode cX8_joined 118 = .ok (.lconst 1, 1) := by decide +kernel
theorem dX8_joined_119 : decode cX8_joined 119 = .ok (.goto 4, 3) := by decide +kernel
theorem dX8_joined_122 : decode cX8_joined 122 = .ok (.lconst 0, 1) := by decide +kernel
theorem dX8_joined_123 : decode cX8_joined 123 = .ok (.lreturn, 1) := by decide +kernel
theorem dX8_joined_124 : decode cX8_joined 124 = .ok (.lload_n 1, 1) := by decide +kernel
theorem dX8_joined_125 : decode cX8_joined 125 = .ok (.lload_n 3, 1) := by decide +kernel
theorem dX8_joined_126 : decode cX8_joined 126 = .ok (.lcmp, 1) := by decide +kernel
theorem dX8_joined_127 : decode cX8_joined 127 = .ok (.ifCond .le 7, 3) := by decide +kernel
theorem dX8_joined_130 : decode cX8_joined 130 = .ok (.lconst 1, 1) := by decide +kernel
theorem dX8_joined_131 : decode cX8_joined 131 = .ok (.goto 4, 3) := by decide +kernel
theorem dX8_joined_134 : decode cX8_joined 134 = .ok (.lconst 0, 1) := by decide +kernel
theorem dX8_joined_135 : decode cX8_joined 135 = .ok (.lreturn, 1) := by decide +kernel
theorem dX8_joined_136 : decode cX8_joined 136 = .ok (.lload_n 1, 1) := by decide +kernel
theorem dX8_joined_137 : decode cX8_joined 137 = .ok (.lload_n 3, 1) := by decide +kernel
theorem dX8_joined_138 : decode cX8_joined 138 = .ok (.lcmp, 1) := by decide +kernel
theorem dX8_joined_139 : decode cX8_joined 139 = .ok (.ifCond .ne 7, 3) := by decide +kernel
theorem dX8_joined_142 : decode cX8_joined 142 = .ok (.lconst 1, 1) := by decide +kernel
theorem dX8_joined_143 : decode cX8_joined 143 = .ok (.goto 4, 3) := by decide +kernel
theorem dX8_joined_146 : decode cX8_joined 146 = .ok (.lconst 0, 1) := by decide +kernel
theorem dX8_joined_147 : decode cX8_joined 147 = .ok (.lreturn, 1) := by decide +kernel
theorem dX8_joined_148 : decode cX8_joined 148 = .ok (.lload_n 1, 1) := by decide +kernel
theorem dX8_joined_149 : decode cX8_joined 149 = .ok (.lload_n 3, 1) := by decide +kernel
theorem dX8_joined_150 : decode cX8_joined 150 = .ok (.ladd, 1) := by decide +kernel
theorem dX8_joined_151 : decode cX8_joined 151 = .ok (.lreturn, 1) := by decide +kernel
theorem dX8_joined_152 : decode cX8_joined 152 = .ok (.lload_n 1, 1) := by decide +kernel
theorem dX8_joined_153 : decode cX8_joined 153 = .ok (.lload_n 3, 1) := by decide +kernel
theorem dX8_joined_154 : decode cX8_joined 154 = .ok (.lsub, 1) := by decide +kernel
theorem dX8_joined_155 : decode cX8_joined 155 = .ok (.lreturn, 1) := by decide +kernel
theorem dX8_joined_156 : decode cX8_joined 156 = .ok (.lload_n 1, 1) := by decide +kernel
theorem dX8_joined_157 : decode cX8_joined 157 = .ok (.lload_n 3, 1) := by decide +kernel
theorem dX8_joined_158 : decode cX8_joined 158 = .ok (.lmul, 1) := by decide +kernel
theorem dX8_joined_159 : decode cX8_joined 159 = .ok (.lreturn, 1) := by decide +kernel
theorem dX8_joined_160 : decode cX8_joined 160 = .ok (.lload_n 3, 1) := by decide +kernel
theorem dX8_joined_161 : decode cX8_joined 161 = .ok (.lconst 0, 1) := by decide +kernel
theorem dX8_joined_162 : decode cX8_joined 162 = .ok (.lcmp, 1) := by decide +kernel
theorem dX8_joined_163 : decode cX8_joined 163 = .ok (.ifCond .ne 7, 3) := by decide +kernel
theorem dX8_joined_166 : decode cX8_joined 166 = .ok (.lconst 0, 1) := by decide +kernel
theorem dX8_joined_167 : decode cX8_joined 167 = .ok (.goto 6, 3) := by decide +kernel
theorem dX8_joined_170 : decode cX8_joined 170 = .ok (.lload_n 1, 1) := by decide +kernel
theorem dX8_joined_171 : decode cX8_joined 171 = .ok (.lload_n 3, 1) := by decide +kernel
theorem dX8_joined_172 : decode cX8_joined 172 = .ok (.ldiv, 1) := by decide +kernel
theorem dX8_joined_173 : decode cX8_joined 173 = .ok (.lreturn, 1) := by decide +kernel
theorem dX8_rankOf_0 : decode cX8_rankOf 0 = .ok (.iload_n 0, 1) := by decide +kernel
theorem dX8_rankOf_1 : decode cX8_rankOf 1 = .ok (.lookupswitch 93 #[(38, 85), (42, 91), (43, 89), (45, 89), (47, 91), (60, 87), (61, 87), (62, 87), (124, 83)], 83) := by decide +kernel
theorem dX8_rankOf_84 : decode cX8_rankOf 84 = .ok (.iconst 0, 1) := by decide +kernel
theorem dX8_rankOf_85 : decode cX8_rankOf 85 = .ok (.ireturn, 1) := by decide +kernel
theorem dX8_rankOf_86 : decode cX8_rankOf 86 = .ok (.iconst 1, 1) := by decide +kernel
theorem dX8_rankOf_87 : decode cX8_rankOf 87 = .ok (.ireturn, 1) := by decide +kernel
theorem dX8_rankOf_88 : decode cX8_rankOf 88 = .ok (.iconst 2, 1) := by decide +kernel
theorem dX8_rankOf_89 : decode cX8_rankOf 89 = .ok (.ireturn, 1) := by decide +kernel
theorem dX8_rankOf_90 : decode cX8_rankOf 90 = .ok (.iconst 3, 1) := by decide +kernel
theorem dX8_rankOf_91 : decode cX8_rankOf 91 = .ok (.ireturn, 1) := by decide +kernel
theorem dX8_rankOf_92 : decode cX8_rankOf 92 = .ok (.iconst 4, 1) := by decide +kernel
theorem dX8_rankOf_93 : decode cX8_rankOf 93 = .ok (.ireturn, 1) := by decide +kernel
theorem dX8_rankOf_94 : decode cX8_rankOf 94 = .ok (.iconst (-1), 1) := by decide +kernel
theorem dX8_rankOf_95 : decode cX8_rankOf 95 = .ok (.ireturn, 1) := by decide +kernel
theorem dX8_nameOf_0 : decode cX8_nameOf 0 = .ok (.iload_n 0, 1) := by decide +kernel
theorem dX8_nameOf_1 : decode cX8_nameOf 1 = .ok (.tableswitch 99 98 115 #[95, 87, 99, 99, 97, 99, 99, 99, 99, 99, 99, 99, 99, 91, 93, 99, 99, 89], 87) := by decide +kernel
theorem dX8_nameOf_88 : decode cX8_nameOf 88 = .ok (.iconst 0, 1) := by decide +kernel
theorem dX8_nameOf_89 : decode cX8_nameOf 89 = .ok (.ireturn, 1) := by decide +kernel
theorem dX8_nameOf_90 : decode cX8_nameOf 90 = .ok (.iconst 1, 1) := by decide +kernel
theorem dX8_nameOf_91 : decode cX8_nameOf 91 = .ok (.ireturn, 1) := by decide +kernel
theorem dX8_nameOf_92 : decode cX8_nameOf 92 = .ok (.iconst 2, 1) := by decide +kernel
theorem dX8_nameOf_93 : decode cX8_nameOf 93 = .ok (.ireturn, 1) := by decide +kernel
theorem dX8_nameOf_94 : decode cX8_nameOf 94 = .ok (.iconst 3, 1) := by decide +kernel
theorem dX8_nameOf_95 : decode cX8_nameOf 95 = .ok (.ireturn, 1) := by decide +kernel
theorem dX8_nameOf_96 : decode cX8_nameOf 96 = .ok (.iconst 4, 1) := by decide +kernel
theorem dX8_nameOf_97 : decode cX8_nameOf 97 = .ok (.ireturn, 1) := by decide +kernel
theorem dX8_nameOf_98 : decode cX8_nameOf 98 = .ok (.iconst 5, 1) := by decide +kernel
theorem dX8_nameOf_99 : decode cX8_nameOf 99 = .ok (.ireturn, 1) := by decide +kernel
theorem dX8_nameOf_100 : decode cX8_nameOf 100 = .ok (.iconst (-1), 1) := by decide +kernel
theorem dX8_nameOf_101 : decode cX8_nameOf 101 = .ok (.ireturn, 1) := by decide +kernel
theorem dX8_isPrefix_0 : decode cX8_isPrefix 0 = .ok (.iload_n 0, 1) := by decide +kernel
theorem dX8_isPrefix_1 : decode cX8_isPrefix 1 = .ok (.bipush 33, 2) := by decide +kernel
theorem dX8_isPrefix_3 : decode cX8_isPrefix 3 = .ok (.if_icmp .eq 9, 3) := by decide +kernel
theorem dX8_isPrefix_6 : decode cX8_isPrefix 6 = .ok (.iload_n 0, 1) := by decide +kernel
theorem dX8_isPrefix_7 : decode cX8_isPrefix 7 = .ok (.bipush 45, 2) := by decide +kernel
theorem dX8_isPrefix_9 : decode cX8_isPrefix 9 = .ok (.if_icmp .ne 7, 3) := by decide +kernel
theorem dX8_isPrefix_12 : decode cX8_isPrefix 12 = .ok (.iconst 1, 1) := by decide +kernel
theorem dX8_isPrefix_13 : decode cX8_isPrefix 13 = .ok (.goto 4, 3) := by decide +kernel
theorem dX8_isPrefix_16 : decode cX8_isPrefix 16 = .ok (.iconst 0, 1) := by decide +kernel
theorem dX8_isPrefix_17 : decode cX8_isPrefix 17 = .ok (.ireturn, 1) := by decide +kernel
theorem dX8_isDigit_0 : decode cX8_isDigit 0 = .ok (.iload_n 0, 1) := by decide +kernel
theorem dX8_isDigit_1 : decode cX8_isDigit 1 = .ok (.bipush 48, 2) := by decide +kernel
theorem dX8_isDigit_3 : decode cX8_isDigit 3 = .ok (.if_icmp .lt 13, 3) := by decide +kernel
theorem dX8_isDigit_6 : decode cX8_isDigit 6 = .ok (.iload_n 0, 1) := by decide +kernel
theorem dX8_isDigit_7 : decode cX8_isDigit 7 = .ok (.bipush 57, 2) := by decide +kernel
theorem dX8_isDigit_9 : decode cX8_isDigit 9 = .ok (.if_icmp .gt 7, 3) := by decide +kernel
theorem dX8_isDigit_12 : decode cX8_isDigit 12 = .ok (.iconst 1, 1) := by decide +kernel
theorem dX8_isDigit_13 : decode cX8_isDigit 13 = .ok (.goto 4, 3) := by decide +kernel
theorem dX8_isDigit_16 : decode cX8_isDigit 16 = .ok (.iconst 0, 1) := by decide +kernel
theorem dX8_isDigit_17 : decode cX8_isDigit 17 = .ok (.ireturn, 1) := by decide +kernel
theorem dX9_init_0 : decode cX9_init 0 = .ok (.aload_n 0, 1) := by decide +kernel
theorem dX9_init_1 : decode cX9_init 1 = .ok (.invokespecial 3, 3) := by decide +kernel
theorem dX9_init_4 : decode cX9_init 4 = .ok (.aload_n 0, 1) := by decide +kernel
theorem dX9_init_5 : decode cX9_init 5 = .ok (.new 9, 3) := by decide +kernel
theorem dX9_init_8 : decode cX9_init 8 = .ok (.dup, 1) := by decide +kernel
theorem dX9_init_9 : decode cX9_init 9 = .ok (.getstatic 11, 3) := by decide +kernel
theorem dX9_init_12 : decode cX9_init 12 = .ok (.iconst 3, 1) := by decide +kernel
theorem dX9_init_13 : decode cX9_init 13 = .ok (.iaload, 1) := by decide +kernel
theorem dX9_init_14 : decode cX9_init 14 = .ok (.iconst 5, 1) := by decide +kernel
theorem dX9_init_15 : decode cX9_init 15 = .ok (.invokespecial 15, 3) := by decide +kernel
theorem dX9_init_18 : decode cX9_init 18 = .ok (.putfield 18, 3) := by decide +kernel
theorem dX9_init_21 : decode cX9_init 21 = .ok (.aload_n 0, 1) := by decide +kernel
theorem dX9_init_22 : decode cX9_init 22 = .ok (.new 9, 3) := by decide +kernel
theorem dX9_init_25 : decode cX9_init 25 = .ok (.dup, 1) := by decide +kernel
theorem dX9_init_26 : decode cX9_init 26 = .ok (.getstatic 11, 3) := by decide +kernel
theorem dX9_init_29 : decode cX9_init 29 = .ok (.iconst 4, 1) := by decide +kernel
theorem dX9_init_30 : decode cX9_init 30 = .ok (.iaload, 1) := by decide +kernel
theorem dX9_init_31 : decode cX9_init 31 = .ok (.bipush 16, 2) := by decide +kernel
theorem dX9_init_33 : decode cX9_init 33 = .ok (.invokespecial 15, 3) := by decide +kernel
theorem dX9_init_36 : decode cX9_init 36 = .ok (.putfield 24, 3) := by decide +kernel
theorem dX9_init_39 : decode cX9_init 39 = .ok (.aload_n 0, 1) := by decide +kernel
theorem dX9_init_40 : decode cX9_init 40 = .ok (.new 9, 3) := by decide +kernel
theorem dX9_init_43 : decode cX9_init 43 = .ok (.dup, 1) := by decide +kernel
theorem dX9_init_44 : decode cX9_init 44 = .ok (.getstatic 11, 3) := by decide +kernel
theorem dX9_init_47 : decode cX9_init 47 = .ok (.iconst 5, 1) := by decide +kernel
theorem dX9_init_48 : decode cX9_init 48 = .ok (.iaload, 1) := by decide +kernel
theorem dX9_init_49 : decode cX9_init 49 = .ok (.bipush 8, 2) := by decide +kernel
theorem dX9_init_51 : decode cX9_init 51 = .ok (.invokespecial 15, 3) := by decide +kernel
theorem dX9_init_54 : decode cX9_init 54 = .ok (.putfield 27, 3) := by decide +kernel
theorem dX9_init_57 : decode cX9_init 57 = .ok (.aload_n 0, 1) := by decide +kernel
theorem dX9_init_58 : decode cX9_init 58 = .ok (.new 9, 3) := by decide +kernel
theorem dX9_init_61 : decode cX9_init 61 = .ok (.dup, 1) := by decide +kernel
theorem dX9_init_62 : decode cX9_init 62 = .ok (.getstatic 11, 3) := by decide +kernel
theorem dX9_init_65 : decode cX9_init 65 = .ok (.bipush 6, 2) := by decide +kernel
theorem dX9_init_67 : decode cX9_init 67 = .ok (.iaload, 1) := by decide +kernel
theorem dX9_init_68 : decode cX9_init 68 = .ok (.bipush 10, 2) := by decide +kernel
theorem dX9_init_70 : decode cX9_init 70 = .ok (.invokespecial 15, 3) := by decide +kernel
theorem dX9_init_73 : decode cX9_init 73 = .ok (.putfield 30, 3) := by decide +kernel
theorem dX9_init_76 : decode cX9_init 76 = .ok (.aload_n 0, 1) := by decide +kernel
theorem dX9_init_77 : decode cX9_init 77 = .ok (.new 9, 3) := by decide +kernel
theorem dX9_init_80 : decode cX9_init 80 = .ok (.dup, 1) := by decide +kernel
theorem dX9_init_81 : decode cX9_init 81 = .ok (.iconst 1, 1) := by decide +kernel
theorem dX9_init_82 : decode cX9_init 82 = .ok (.bipush 40, 2) := by decide +kernel
theorem dX9_init_84 : decode cX9_init 84 = .ok (.invokespecial 15, 3) := by decide +kernel
theorem dX9_init_87 : decode cX9_init 87 = .ok (.putfield 33, 3) := by decide +kernel
theorem dX9_init_90 : decode cX9_init 90 = .ok (.aload_n 0, 1) := by decide +kernel
theorem dX9_init_91 : decode cX9_init 91 = .ok (.iconst 3, 1) := by decide +kernel
theorem dX9_init_92 : decode cX9_init 92 = .ok (.newarray .int, 2) := by decide +kernel
theorem dX9_init_94 : decode cX9_init 94 = .ok (.dup, 1) := by decide +kernel
theorem dX9_init_95 : decode cX9_init 95 = .ok (.iconst 0, 1) := by decide +kernel
theorem dX9_init_96 : decode cX9_init 96 = .ok (.iconst 1, 1) := by decide +kernel
theorem dX9_init_97 : decode cX9_init 97 = .ok (.iastore, 1) := by decide +kernel
theorem dX9_init_98 : decode cX9_init 98 = .ok (.dup, 1) := by decide +kernel
theorem dX9_init_99 : decode cX9_init 99 = .ok (.iconst 1, 1) := by decide +kernel
theorem dX9_init_100 : decode cX9_init 100 = .ok (.iconst 0, 1) := by decide +kernel
theorem dX9_init_101 : decode cX9_init 101 = .ok (.iastore, 1) := by decide +kernel
theorem dX9_init_102 : decode cX9_init 102 = .ok (.dup, 1) := by decide +kernel
theorem dX9_init_103 : decode cX9_init 103 = .ok (.iconst 2, 1) := by decide +kernel
theorem dX9_init_104 : decode cX9_init 104 = .ok (.bipush 60, 2) := by decide +kernel
theorem dX9_init_106 : decode cX9_init 106 = .ok (.iastore, 1) := by decide +kernel
theorem dX9_init_107 : decode cX9_init 107 = .ok (.putfield 36, 3) := by decide +kernel
theorem dX9_init_110 : decode cX9_init 110 = .ok (.aload_n 0, 1) := by decide +kernel
theorem dX9_init_111 : decode cX9_init 111 = .ok (.iconst 5, 1) := by decide +kernel
theorem dX9_init_112 : decode cX9_init 112 = .ok (.newarray .int, 2) := by decide +kernel
theorem dX9_init_114 : decode cX9_init 114 = .ok (.putfield 39, 3) := by decide +kernel
theorem dX9_init_117 : decode cX9_init 117 = .ok (.return_, 1) := by decide +kernel
theorem dX9_rowsOf_0 : decode cX9_rowsOf 0 = .ok (.iload_n 1, 1) := by decide +kernel
theorem dX9_rowsOf_1 : decode cX9_rowsOf 1 = .ok (.tableswitch 42 4 6 #[27, 32, 37], 27) := by decide +kernel
theorem dX9_rowsOf_28 : decode cX9_rowsOf 28 = .ok (.aload_n 0, 1) := by decide +kernel
theorem dX9_rowsOf_29 : decode cX9_rowsOf 29 = .ok (.getfield 24, 3) := by decide +kernel
theorem dX9_rowsOf_32 : decode cX9_rowsOf 32 = .ok (.areturn, 1) := by decide +kernel
theorem dX9_rowsOf_33 : decode cX9_rowsOf 33 = .ok (.aload_n 0, 1) := by decide +kernel
theorem dX9_rowsOf_34 : decode cX9_rowsOf 34 = .ok (.getfield 27, 3) := by decide +kernel
theorem dX9_rowsOf_37 : decode cX9_rowsOf 37 = .ok (.areturn, 1) := by decide +kernel
theorem dX9_rowsOf_38 : decode cX9_rowsOf 38 = .ok (.aload_n 0, 1) := by decide +kernel
theorem dX9_rowsOf_39 : decode cX9_rowsOf 39 = .ok (.getfield 30, 3) := by decide +kernel
theorem dX9_rowsOf_42 : decode cX9_rowsOf 42 = .ok (.areturn, 1) := by decide +kernel
theorem dX9_rowsOf_43 : decode cX9_rowsOf 43 = .ok (.aload_n 0, 1) := by decide +kernel
theorem dX9_rowsOf_44 : decode cX9_rowsOf 44 = .ok (.getfield 18, 3) := by decide +kernel
theorem dX9_rowsOf_47 : decode cX9_rowsOf 47 = .ok (.areturn, 1) := by decide +kernel
theorem dX9_isAsTold_0 : decode cX9_isAsTold 0 = .ok (.iload_n 1, 1) := by decide +kernel
theorem dX9_isAsTold_1 : decode cX9_isAsTold 1 = .ok (.ifCond .lt 22, 3) := by decide +kernel
theorem dX9_isAsTold_4 : decode cX9_isAsTold 4 = .ok (.iload_n 1, 1) := by decide +kernel
theorem dX9_isAsTold_5 : decode cX9_isAsTold 5 = .ok (.bipush 7, 2) := by decide +kernel
theorem dX9_isAsTold_7 : decode cX9_isAsTold 7 = .ok (.if_icmp .ge 16, 3) := by decide +kernel
theorem dX9_isAsTold_10 : decode cX9_isAsTold 10 = .ok (.iload_n 2, 1) := by decide +kernel
theorem dX9_isAsTold_11 : decode cX9_isAsTold 11 = .ok (.ifCond .lt 12, 3) := by decide +kernel
theorem dX9_isAsTold_14 : decode cX9_isAsTold 14 = .ok (.iload_n 2, 1) := by decide +kernel
theorem dX9_isAsTold_15 : decode cX9_isAsTold 15 = .ok (.getstatic 11, 3) := by decide +kernel
theorem dX9_isAsTold_18 : decode cX9_isAsTold 18 = .ok (.iload_n 1, 1) := by decide +kernel
theorem dX9_isAsTold_19 : decode cX9_isAsTold 19 = .ok (.iaload, 1) := by decide +kernel
theorem dX9_isAsTold_20 : decode cX9_isAsTold 20 = .ok (.if_icmp .lt 5, 3) := by decide +kernel
theorem dX9_isAsTold_23 : decode cX9_isAsTold 23 = .ok (.iconst 0, 1) := by decide +kernel
theorem dX9_isAsTold_24 : decode cX9_isAsTold 24 = .ok (.ireturn, 1) := by decide +kernel
theorem dX9_isAsTold_25 : decode cX9_isAsTold 25 = .ok (.iconst 3, 1) := by decide +kernel
theorem dX9_isAsTold_26 : decode cX9_isAsTold 26 = .ok (.iload_n 1, 1) := by decide +kernel
theorem dX9_isAsTold_27 : decode cX9_isAsTold 27 = .ok (.imul, 1) := by decide +kernel
theorem dX9_isAsTold_28 : decode cX9_isAsTold 28 = .ok (.iload_n 2, 1) := by decide +kernel
theorem dX9_isAsTold_29 : decode cX9_isAsTold 29 = .ok (.iadd, 1) := by decide +kernel
theorem dX9_isAsTold_30 : decode cX9_isAsTold 30 = .ok (.istore 5, 2) := by decide +kernel
theorem dX9_isAsTold_32 : decode cX9_isAsTold 32 = .ok (.iload_n 3, 1) := by decide +kernel
theorem dX9_isAsTold_33 : decode cX9_isAsTold 33 = .ok (.getstatic 42, 3) := by decide +kernel
theorem dX9_isAsTold_36 : decode cX9_isAsTold 36 = .ok (.iload 5, 2) := by decide +kernel
theorem dX9_isAsTold_38 : decode cX9_isAsTold 38 = .ok (.iaload, 1) := by decide +kernel
theorem dX9_isAsTold_39 : decode cX9_isAsTold 39 = .ok (.if_icmp .lt 13, 3) := by decide +kernel
theorem dX9_isAsTold_42 : decode cX9_isAsTold 42 = .ok (.iload_n 3, 1) := by decide +kernel
theorem dX9_isAsTold_43 : decode cX9_isAsTold 43 = .ok (.getstatic 45, 3) := by decide +kernel
theorem dX9_isAsTold_46 : decode cX9_isAsTold 46 = .ok (.iload 5, 2) := by decide +kernel
theorem dX9_isAsTold_48 : decode cX9_isAsTold 48 = .ok (.iaload, 1) := by decide +kernel
theorem dX9_isAsTold_49 : decode cX9_isAsTold 49 = .ok (.if_icmp .le 5, 3) := by decide +kernel
theorem dX9_isAsTold_52 : decode cX9_isAsTold 52 = .ok (.iconst 0, 1) := by decide +kernel
theorem dX9_isAsTold_53 : decode cX9_isAsTold 53 = .ok (.ireturn, 1) := by decide +kernel
theorem dX9_isAsTold_54 : decode cX9_isAsTold 54 = .ok (.iload_n 1, 1) := by decide +kernel
theorem dX9_isAsTold_55 : decode cX9_isAsTold 55 = .ok (.iconst 4, 1) := by decide +kernel
theorem dX9_isAsTold_56 : decode cX9_isAsTold 56 = .ok (.if_icmp .eq 5, 3) := by decide +kernel
theorem dX9_isAsTold_59 : decode cX9_isAsTold 59 = .ok (.iconst 1, 1) := by decide +kernel
theorem dX9_isAsTold_60 : decode cX9_isAsTold 60 = .ok (.ireturn, 1) := by decide +kernel
theorem dX9_isAsTold_61 : decode cX9_isAsTold 61 = .ok (.iload_n 2, 1) := by decide +kernel
theorem dX9_isAsTold_62 : decode cX9_isAsTold 62 = .ok (.ifCond .ne 22, 3) := by decide +kernel
theorem dX9_isAsTold_65 : decode cX9_isAsTold 65 = .ok (.iload_n 3, 1) := by decide +kernel
theorem dX9_isAsTold_66 : decode cX9_isAsTold 66 = .ok (.aload_n 0, 1) := by decide +kernel
theorem dX9_isAsTold_67 : decode cX9_isAsTold 67 = .ok (.getfield 18, 3) := by decide +kernel
theorem dX9_isAsTold_70 : decode cX9_isAsTold 70 = .ok (.invokevirtual 48, 3) := by decide +kernel
theorem dX9_isAsTold_73 : decode cX9_isAsTold 73 = .ok (.if_icmp .ge 7, 3) := by decide +kernel
theorem dX9_isAsTold_76 : decode cX9_isAsTold 76 = .ok (.iconst 1, 1) := by decide +kernel
theorem dX9_isAsTold_77 : decode cX9_isAsTold 77 = .ok (.goto 23, 3) := by decide +kernel
theorem dX9_isAsTold_80 : decode cX9_isAsTold 80 = .ok (.iconst 0, 1) := by decide +kernel
theorem dX9_isAsTold_81 : decode cX9_isAsTold 81 = .ok (.goto 19, 3) := by decide +kernel
theorem dX9_isAsTold_84 : decode cX9_isAsTold 84 = .ok (.iload_n 2, 1) := by decide +kernel
theorem dX9_isAsTold_85 : decode cX9_isAsTold 85 = .ok (.iconst 1, 1) := by decide +kernel
theorem dX9_isAsTold_86 : decode cX9_isAsTold 86 = .ok (.if_icmp .eq 9, 3) := by decide +kernel
theorem dX9_isAsTold_89 : decode cX9_isAsTold 89 = .ok (.iload_n 3, 1) := by decide +kernel
theorem dX9_isAsTold_90 : decode cX9_isAsTold 90 = .ok (.iload 4, 2) := by decide +kernel
theorem dX9_isAsTold_92 : decode cX9_isAsTold 92 = .ok (.if_icmp .le 7, 3) := by decide +kernel
theorem dX9_isAsTold_95 : decode cX9_isAsTold 95 = .ok (.iconst 1, 1) := by decide +kernel
theorem dX9_isAsTold_96 : decode cX9_isAsTold 96 = .ok (.goto 4, 3) := by decide +kernel
theorem dX9_isAsTold_99 : decode cX9_isAsTold 99 = .ok (.iconst 0, 1) := by decide +kernel
theorem dX9_isAsTold_100 : decode cX9_isAsTold 100 = .ok (.ireturn, 1) := by decide +kernel
theorem dX9_forget_0 : decode cX9_forget 0 = .ok (.aload_n 0, 1) := by decide +kernel
theorem dX9_forget_1 : decode cX9_forget 1 = .ok (.getfield 18, 3) := by decide +kernel
theorem dX9_forget_4 : decode cX9_forget 4 = .ok (.invokevirtual 52, 3) := by decide +kernel
theorem dX9_forget_7 : decode cX9_forget 7 = .ok (.pop, 1) := by decide +kernel
theorem dX9_forget_8 : decode cX9_forget 8 = .ok (.aload_n 0, 1) := by decide +kernel
theorem dX9_forget_9 : decode cX9_forget 9 = .ok (.getfield 24, 3) := by decide +kernel
theorem dX9_forget_12 : decode cX9_forget 12 = .ok (.invokevirtual 52, 3) := by decide +kernel
theorem dX9_forget_15 : decode cX9_forget 15 = .ok (.pop, 1) := by decide +kernel
theorem dX9_forget_16 : decode cX9_forget 16 = .ok (.aload_n 0, 1) := by decide +kernel
theorem dX9_forget_17 : decode cX9_forget 17 = .ok (.getfield 27, 3) := by decide +kernel
theorem dX9_forget_20 : decode cX9_forget 20 = .ok (.invokevirtual 52, 3) := by decide +kernel
theorem dX9_forget_23 : decode cX9_forget 23 = .ok (.pop, 1) := by decide +kernel
theorem dX9_forget_24 : decode cX9_forget 24 = .ok (.aload_n 0, 1) := by decide +kernel
theorem dX9_forget_25 : decode cX9_forget 25 = .ok (.getfield 30, 3) := by decide +kernel
theorem dX9_forget_28 : decode cX9_forget 28 = .ok (.invokevirtual 52, 3) := by decide +kernel
theorem dX9_forget_31 : decode cX9_forget 31 = .ok (.pop, 1) := by decide +kernel
theorem dX9_forget_32 : decode cX9_forget 32 = .ok (.aload_n 0, 1) := by decide +kernel
theorem dX9_forget_33 : decode cX9_forget 33 = .ok (.getfield 36, 3) := by decide +kernel
theorem dX9_forget_36 : decode cX9_forget 36 = .ok (.iconst 0, 1) := by decide +kernel
theorem dX9_forget_37 : decode cX9_forget 37 = .ok (.iconst 1, 1) := by decide +kernel
theorem dX9_forget_38 : decode cX9_forget 38 = .ok (.iastore, 1) := by decide +kernel
theorem dX9_forget_39 : decode cX9_forget 39 = .ok (.aload_n 0, 1) := by decide +kernel
theorem dX9_forget_40 : decode cX9_forget 40 = .ok (.getfield 36, 3) := by decide +kernel
theorem dX9_forget_43 : decode cX9_forget 43 = .ok (.iconst 1, 1) := by decide +kernel
theorem dX9_forget_44 : decode cX9_forget 44 = .ok (.iconst 0, 1) := by decide +kernel
theorem dX9_forget_45 : decode cX9_forget 45 = .ok (.iastore, 1) := by decide +kernel
theorem dX9_forget_46 : decode cX9_forget 46 = .ok (.aload_n 0, 1) := by decide +kernel
theorem dX9_forget_47 : decode cX9_forget 47 = .ok (.getfield 36, 3) := by decide +kernel
theorem dX9_forget_50 : decode cX9_forget 50 = .ok (.iconst 2, 1) := by decide +kernel
theorem dX9_forget_51 : decode cX9_forget 51 = .ok (.bipush 60, 2) := by decide +kernel
theorem dX9_forget_53 : decode cX9_forget 53 = .ok (.iastore, 1) := by decide +kernel
theorem dX9_forget_54 : decode cX9_forget 54 = .ok (.return_, 1) := by decide +kernel
theorem dX9_copy_0 : decode cX9_copy 0 = .ok (.aload_n 1, 1) := by decide +kernel
theorem dX9_copy_1 : decode cX9_copy 1 = .ok (.ifnonnull 4, 3) := by decide +kernel
theorem dX9_copy_4 : decode cX9_copy 4 = .ok (.return_, 1) := by decide +kernel
theorem dX9_copy_5 : decode cX9_copy 5 = .ok (.aload_n 0, 1) := by decide +kernel
theorem dX9_copy_6 : decode cX9_copy 6 = .ok (.getfield 18, 3) := by decide +kernel
theorem dX9_copy_9 : decode cX9_copy 9 = .ok (.aload_n 1, 1) := by decide +kernel
theorem dX9_copy_10 : decode cX9_copy 10 = .ok (.getfield 18, 3) := by decide +kernel
theorem dX9_copy_13 : decode cX9_copy 13 = .ok (.invokevirtual 55, 3) := by decide +kernel
theorem dX9_copy_16 : decode cX9_copy 16 = .ok (.aload_n 0, 1) := by decide +kernel
theorem dX9_copy_17 : decode cX9_copy 17 = .ok (.getfield 24, 3) := by decide +kernel
theorem dX9_copy_20 : decode cX9_copy 20 = .ok (.aload_n 1, 1) := by decide +kernel
theorem dX9_copy_21 : decode cX9_copy 21 = .ok (.getfield 24, 3) := by decide +kernel
theorem dX9_copy_24 : decode cX9_copy 24 = .ok (.invokevirtual 55, 3) := by decide +kernel
theorem dX9_copy_27 : decode cX9_copy 27 = .ok (.aload_n 0, 1) := by decide +kernel
theorem dX9_copy_28 : decode cX9_copy 28 = .ok (.getfield 27, 3) := by decide +kernel
theorem dX9_copy_31 : decode cX9_copy 31 = .ok (.aload_n 1, 1) := by decide +kernel
theorem dX9_copy_32 : decode cX9_copy 32 = .ok (.getfield 27, 3) := by decide +kernel
theorem dX9_copy_35 : decode cX9_copy 35 = .ok (.invokevirtual 55, 3) := by decide +kernel
theorem dX9_copy_38 : decode cX9_copy 38 = .ok (.aload_n 0, 1) := by decide +kernel
theorem dX9_copy_39 : decode cX9_copy 39 = .ok (.getfield 30, 3) := by decide +kernel
theorem dX9_copy_42 : decode cX9_copy 42 = .ok (.aload_n 1, 1) := by decide +kernel
theorem dX9_copy_43 : decode cX9_copy 43 = .ok (.getfield 30, 3) := by decide +kernel
theorem dX9_copy_46 : decode cX9_copy 46 = .ok (.invokevirtual 55, 3) := by decide +kernel
theorem dX9_copy_49 : decode cX9_copy 49 = .ok (.aload_n 0, 1) := by decide +kernel
theorem dX9_copy_50 : decode cX9_copy 50 = .ok (.getfield 33, 3) := by decide +kernel
theorem dX9_copy_53 : decode cX9_copy 53 = .ok (.aload_n 1, 1) := by decide +kernel
theorem dX9_copy_54 : decode cX9_copy 54 = .ok (.getfield 33, 3) := by decide +kernel
theorem dX9_copy_57 : decode cX9_copy 57 = .ok (.invokevirtual 55, 3) := by decide +kernel
theorem dX9_copy_60 : decode cX9_copy 60 = .ok (.aload_n 1, 1) := by decide +kernel
theorem dX9_copy_61 : decode cX9_copy 61 = .ok (.getfield 36, 3) := by decide +kernel
theorem dX9_copy_64 : decode cX9_copy 64 = .ok (.iconst 0, 1) := by decide +kernel
theorem dX9_copy_65 : decode cX9_copy 65 = .ok (.aload_n 0, 1) := by decide +kernel
theorem dX9_copy_66 : decode cX9_copy 66 = .ok (.getfield 36, 3) := by decide +kernel
theorem dX9_copy_69 : decode cX9_copy 69 = .ok (.iconst 0, 1) := by decide +kernel
theorem dX9_copy_70 : decode cX9_copy 70 = .ok (.aload_n 0, 1) := by decide +kernel
theorem dX9_copy_71 : decode cX9_copy 71 = .ok (.getfield 36, 3) := by decide +kernel
theorem dX9_copy_74 : decode cX9_copy 74 = .ok (.arraylength, 1) := by decide +kernel
theorem dX9_copy_75 : decode cX9_copy 75 = .ok (.invokestatic 59, 3) := by decide +kernel
theorem dX9_copy_78 : decode cX9_copy 78 = .ok (.aload_n 1, 1) := by decide +kernel
theorem dX9_copy_79 : decode cX9_copy 79 = .ok (.getfield 39, 3) := by decide +kernel
theorem dX9_copy_82 : decode cX9_copy 82 = .ok (.iconst 0, 1) := by decide +kernel
theorem dX9_copy_83 : decode cX9_copy 83 = .ok (.aload_n 0, 1) := by decide +kernel
theorem dX9_copy_84 : decode cX9_copy 84 = .ok (.getfield 39, 3) := by decide +kernel
theorem dX9_copy_87 : decode cX9_copy 87 = .ok (.iconst 0, 1) := by decide +kernel
theorem dX9_copy_88 : decode cX9_copy 88 = .ok (.aload_n 0, 1) := by decide +kernel
theorem dX9_copy_89 : decode cX9_copy 89 = .ok (.getfield 39, 3) := by decide +kernel
theorem dX9_copy_92 : decode cX9_copy 92 = .ok (.arraylength, 1) := by decide +kernel
theorem dX9_copy_93 : decode cX9_copy 93 = .ok (.invokestatic 59, 3) := by decide +kernel
theorem dX9_copy_96 : decode cX9_copy 96 = .ok (.return_, 1) := by decide +kernel
theorem dX9_mixed_0 : decode cX9_mixed 0 = .ok (.lload_n 1, 1) := by decide +kernel
theorem dX9_mixed_1 : decode cX9_mixed 1 = .ok (.aload_n 0, 1) := by decide +kernel
theorem dX9_mixed_2 : decode cX9_mixed 2 = .ok (.getfield 36, 3) := by decide +kernel
theorem dX9_mixed_5 : decode cX9_mixed 5 = .ok (.invokestatic 65, 3) := by decide +kernel
theorem dX9_mixed_8 : decode cX9_mixed 8 = .ok (.lstore_n 3, 1) := by decide +kernel
theorem dX9_mixed_9 : decode cX9_mixed 9 = .ok (.aload_n 0, 1) := by decide +kernel
theorem dX9_mixed_10 : decode cX9_mixed 10 = .ok (.getfield 30, 3) := by decide +kernel
theorem dX9_mixed_13 : decode cX9_mixed 13 = .ok (.aload_n 0, 1) := by decide +kernel
theorem dX9_mixed_14 : decode cX9_mixed 14 = .ok (.getfield 27, 3) := by decide +kernel
theorem dX9_mixed_17 : decode cX9_mixed 17 = .ok (.aload_n 0, 1) := by decide +kernel
theorem dX9_mixed_18 : decode cX9_mixed 18 = .ok (.getfield 24, 3) := by decide +kernel
theorem dX9_mixed_21 : decode cX9_mixed 21 = .ok (.aload_n 0, 1) := by decide +kernel
theorem dX9_mixed_22 : decode cX9_mixed 22 = .ok (.getfield 18, 3) := by decide +kernel
theorem dX9_mixed_25 : decode cX9_mixed 25 = .ok (.lload_n 3, 1) := by decide +kernel
theorem dX9_mixed_26 : decode cX9_mixed 26 = .ok (.invokevirtual 69, 3) := by decide +kernel
theorem dX9_mixed_29 : decode cX9_mixed 29 = .ok (.invokevirtual 69, 3) := by decide +kernel
theorem dX9_mixed_32 : decode cX9_mixed 32 = .ok (.invokevirtual 69, 3) := by decide +kernel
theorem dX9_mixed_35 : decode cX9_mixed 35 = .ok (.invokevirtual 69, 3) := by decide +kernel
theorem dX9_mixed_38 : decode cX9_mixed 38 = .ok (.lstore_n 3, 1) := by decide +kernel
theorem dX9_mixed_39 : decode cX9_mixed 39 = .ok (.aload_n 0, 1) := by decide +kernel
theorem dX9_mixed_40 : decode cX9_mixed 40 = .ok (.getfield 33, 3) := by decide +kernel
theorem dX9_mixed_43 : decode cX9_mixed 43 = .ok (.lload_n 3, 1) := by decide +kernel
theorem dX9_mixed_44 : decode cX9_mixed 44 = .ok (.aload_n 0, 1) := by decide +kernel
theorem dX9_mixed_45 : decode cX9_mixed 45 = .ok (.getfield 39, 3) := by decide +kernel
theorem dX9_mixed_48 : decode cX9_mixed 48 = .ok (.invokestatic 65, 3) := by decide +kernel
theorem dX9_mixed_51 : decode cX9_mixed 51 = .ok (.invokevirtual 69, 3) := by decide +kernel
theorem dX9_mixed_54 : decode cX9_mixed 54 = .ok (.lreturn, 1) := by decide +kernel
theorem dX9_mixedWith_0 : decode cX9_mixedWith 0 = .ok (.lload_n 0, 1) := by decide +kernel
theorem dX9_mixedWith_1 : decode cX9_mixedWith 1 = .ok (.lstore_n 3, 1) := by decide +kernel
theorem dX9_mixedWith_2 : decode cX9_mixedWith 2 = .ok (.aload_n 2, 1) := by decide +kernel
theorem dX9_mixedWith_3 : decode cX9_mixedWith 3 = .ok (.astore 5, 2) := by decide +kernel
theorem dX9_mixedWith_5 : decode cX9_mixedWith 5 = .ok (.aload 5, 2) := by decide +kernel
theorem dX9_mixedWith_7 : decode cX9_mixedWith 7 = .ok (.arraylength, 1) := by decide +kernel
theorem dX9_mixedWith_8 : decode cX9_mixedWith 8 = .ok (.istore 6, 2) := by decide +kernel
theorem dX9_mixedWith_10 : decode cX9_mixedWith 10 = .ok (.iconst 0, 1) := by decide +kernel
theorem dX9_mixedWith_11 : decode cX9_mixedWith 11 = .ok (.istore 7, 2) := by decide +kernel
theorem dX9_mixedWith_13 : decode cX9_mixedWith 13 = .ok (.iload 7, 2) := by decide +kernel
theorem dX9_mixedWith_15 : decode cX9_mixedWith 15 = .ok (.iload 6, 2) := by decide +kernel
theorem dX9_mixedWith_17 : decode cX9_mixedWith 17 = .ok (.if_icmp .ge 26, 3) := by decide +kernel
theorem dX9_mixedWith_20 : decode cX9_mixedWith 20 = .ok (.aload 5, 2) := by decide +kernel
theorem dX9_mixedWith_22 : decode cX9_mixedWith 22 = .ok (.iload 7, 2) := by decide +kernel
theorem dX9_mixedWith_24 : decode cX9_mixedWith 24 = .ok (.iaload, 1) := by decide +kernel
theorem dX9_mixedWith_25 : decode cX9_mixedWith 25 = .ok (.istore 8, 2) := by decide +kernel
theorem dX9_mixedWith_27 : decode cX9_mixedWith 27 = .ok (.ldc2_w 73, 3) := by decide +kernel
theorem dX9_mixedWith_30 : decode cX9_mixedWith 30 = .ok (.lload_n 3, 1) := by decide +kernel
theorem dX9_mixedWith_31 : decode cX9_mixedWith 31 = .ok (.lmul, 1) := by decide +kernel
theorem dX9_mixedWith_32 : decode cX9_mixedWith 32 = .ok (.iload 8, 2) := by decide +kernel
theorem dX9_mixedWith_34 : decode cX9_mixedWith 34 = .ok (.i2l, 1) := by decide +kernel
theorem dX9_mixedWith_35 : decode cX9_mixedWith 35 = .ok (.ladd, 1) := by decide +kernel
theorem dX9_mixedWith_36 : decode cX9_mixedWith 36 = .ok (.lstore_n 3, 1) := by decide +kernel
theorem dX9_mixedWith_37 : decode cX9_mixedWith 37 = .ok (.iinc 7 1, 3) := by decide +kernel
theorem dX9_mixedWith_40 : decode cX9_mixedWith 40 = .ok (.goto (-27), 3) := by decide +kernel
theorem dX9_mixedWith_43 : decode cX9_mixedWith 43 = .ok (.lload_n 3, 1) := by decide +kernel
theorem dX9_mixedWith_44 : decode cX9_mixedWith 44 = .ok (.lreturn, 1) := by decide +kernel
theorem dX10_init_0 : decode cX10_init 0 = .ok (.aload_n 0, 1) := by decide +kernel
theorem dX10_init_1 : decode cX10_init 1 = .ok (.invokespecial 1, 3) := by decide +kernel
theorem dX10_init_4 : decode cX10_init 4 = .ok (.aload_n 0, 1) := by decide +kernel
theorem dX10_init_5 : decode cX10_init 5 = .ok (.new 7, 3) := by decide +kernel
theorem dX10_init_8 : decode cX10_init 8 = .ok (.dup, 1) := by decide +kernel
theorem dX10_init_9 : decode cX10_init 9 = .ok (.invokespecial 9, 3) := by decide +kernel
theorem dX10_init_12 : decode cX10_init 12 = .ok (.putfield 10, 3) := by decide +kernel
theorem dX10_init_15 : decode cX10_init 15 = .ok (.aload_n 0, 1) := by decide +kernel
theorem dX10_init_16 : decode cX10_init 16 = .ok (.new 16, 3) := by decide +kernel
theorem dX10_init_19 : decode cX10_init 19 = .ok (.dup, 1) := by decide +kernel
theorem dX10_init_20 : decode cX10_init 20 = .ok (.invokespecial 18, 3) := by decide +kernel
theorem dX10_init_23 : decode cX10_init 23 = .ok (.putfield 19, 3) := by decide +kernel
theorem dX10_init_26 : decode cX10_init 26 = .ok (.aload_n 0, 1) := by decide +kernel
theorem dX10_init_27 : decode cX10_init 27 = .ok (.new 23, 3) := by decide +kernel
theorem dX10_init_30 : decode cX10_init 30 = .ok (.dup, 1) := by decide +kernel
theorem dX10_init_31 : decode cX10_init 31 = .ok (.invokespecial 25, 3) := by decide +kernel
theorem dX10_init_34 : decode cX10_init 34 = .ok (.putfield 26, 3) := by decide +kernel
theorem dX10_init_37 : decode cX10_init 37 = .ok (.aload_n 0, 1) := by decide +kernel
theorem dX10_init_38 : decode cX10_init 38 = .ok (.new 23, 3) := by decide +kernel
theorem dX10_init_41 : decode cX10_init 41 = .ok (.dup, 1) := by decide +kernel
theorem dX10_init_42 : decode cX10_init 42 = .ok (.invokespecial 25, 3) := by decide +kernel
theorem dX10_init_45 : decode cX10_init 45 = .ok (.putfield 30, 3) := by decide +kernel
theorem dX10_init_48 : decode cX10_init 48 = .ok (.aload_n 0, 1) := by decide +kernel
theorem dX10_init_49 : decode cX10_init 49 = .ok (.iconst 2, 1) := by decide +kernel
theorem dX10_init_50 : decode cX10_init 50 = .ok (.newarray .boolean, 2) := by decide +kernel
theorem dX10_init_52 : decode cX10_init 52 = .ok (.putfield 33, 3) := by decide +kernel
theorem dX10_init_55 : decode cX10_init 55 = .ok (.aload_n 0, 1) := by decide +kernel
theorem dX10_init_56 : decode cX10_init 56 = .ok (.iconst 3, 1) := by decide +kernel
theorem dX10_init_57 : decode cX10_init 57 = .ok (.newarray .int, 2) := by decide +kernel
theorem dX10_init_59 : decode cX10_init 59 = .ok (.putfield 37, 3) := by decide +kernel
theorem dX10_init_62 : decode cX10_init 62 = .ok (.new 23, 3) := by decide +kernel
theorem dX10_init_65 : decode cX10_init 65 = .ok (.dup, 1) := by decide +kernel
theorem dX10_init_66 : decode cX10_init 66 = .ok (.invokespecial 25, 3) := by decide +kernel
theorem dX10_init_69 : decode cX10_init 69 = .ok (.astore_n 1, 1) := by decide +kernel
theorem dX10_init_70 : decode cX10_init 70 = .ok (.new 23, 3) := by decide +kernel
theorem dX10_init_73 : decode cX10_init 73 = .ok (.dup, 1) := by decide +kernel
theorem dX10_init_74 : decode cX10_init 74 = .ok (.invokespecial 25, 3) := by decide +kernel
theorem dX10_init_77 : decode cX10_init 77 = .ok (.astore_n 2, 1) := by decide +kernel
theorem dX10_init_78 : decode cX10_init 78 = .ok (.new 41, 3) := by decide +kernel
theorem dX10_init_81 : decode cX10_init 81 = .ok (.dup, 1) := by decide +kernel
theorem dX10_init_82 : decode cX10_init 82 = .ok (.iconst 1, 1) := by decide +kernel
theorem dX10_init_83 : decode cX10_init 83 = .ok (.sipush 250, 3) := by decide +kernel
theorem dX10_init_86 : decode cX10_init 86 = .ok (.invokespecial 43, 3) := by decide +kernel
theorem dX10_init_89 : decode cX10_init 89 = .ok (.astore_n 3, 1) := by decide +kernel
theorem dX10_init_90 : decode cX10_init 90 = .ok (.new 46, 3) := by decide +kernel
theorem dX10_init_93 : decode cX10_init 93 = .ok (.dup, 1) := by decide +kernel
theorem dX10_init_94 : decode cX10_init 94 = .ok (.aload_n 1, 1) := by decide +kernel
theorem dX10_init_95 : decode cX10_init 95 = .ok (.invokespecial 48, 3) := by decide +kernel
theorem dX10_init_98 : decode cX10_init 98 = .ok (.astore 4, 2) := by decide +kernel
theorem dX10_init_100 : decode cX10_init 100 = .ok (.new 51, 3) := by decide +kernel
theorem dX10_init_103 : decode cX10_init 103 = .ok (.dup, 1) := by decide +kernel
theorem dX10_init_104 : decode cX10_init 104 = .ok (.aload_n 1, 1) := by decide +kernel
theorem dX10_init_105 : decode cX10_init 105 = .ok (.aload 4, 2) := by decide +kernel
theorem dX10_init_107 : decode cX10_init 107 = .ok (.invokespecial 53, 3) := by decide +kernel
theorem dX10_init_110 : decode cX10_init 110 = .ok (.astore 5, 2) := by decide +kernel
theorem dX10_init_112 : decode cX10_init 112 = .ok (.aload_n 0, 1) := by decide +kernel
theorem dX10_init_113 : decode cX10_init 113 = .ok (.new 56, 3) := by decide +kernel
theorem dX10_init_116 : decode cX10_init 116 = .ok (.dup, 1) := by decide +kernel
theorem dX10_init_117 : decode cX10_init 117 = .ok (.aload_n 3, 1) := by decide +kernel
theorem dX10_init_118 : decode cX10_init 118 = .ok (.aload_n 2, 1) := by decide +kernel
theorem dX10_init_119 : decode cX10_init 119 = .ok (.invokespecial 58, 3) := by decide +kernel
theorem dX10_init_122 : decode cX10_init 122 = .ok (.putfield 61, 3) := by decide +kernel
theorem dX10_init_125 : decode cX10_init 125 = .ok (.aload_n 0, 1) := by decide +kernel
theorem dX10_init_126 : decode cX10_init 126 = .ok (.new 65, 3) := by decide +kernel
theorem dX10_init_129 : decode cX10_init 129 = .ok (.dup, 1) := by decide +kernel
theorem dX10_init_130 : decode cX10_init 130 = .ok (.aload_n 1, 1) := by decide +kernel
theorem dX10_init_131 : decode cX10_init 131 = .ok (.invokespecial 67, 3) := by decide +kernel
theorem dX10_init_134 : decode cX10_init 134 = .ok (.putfield 68, 3) := by decide +kernel
theorem dX10_init_137 : decode cX10_init 137 = .ok (.aload_n 0, 1) := by decide +kernel
theorem dX10_init_138 : decode cX10_init 138 = .ok (.new 72, 3) := by decide +kernel
theorem dX10_init_141 : decode cX10_init 141 = .ok (.dup, 1) := by decide +kernel
theorem dX10_init_142 : decode cX10_init 142 = .ok (.aload_n 1, 1) := by decide +kernel
theorem dX10_init_143 : decode cX10_init 143 = .ok (.aload 5, 2) := by decide +kernel
theorem dX10_init_145 : decode cX10_init 145 = .ok (.invokespecial 74, 3) := by decide +kernel
theorem dX10_init_148 : decode cX10_init 148 = .ok (.putfield 77, 3) := by decide +kernel
theorem dX10_init_151 : decode cX10_init 151 = .ok (.aload_n 0, 1) := by decide +kernel
theorem dX10_init_152 : decode cX10_init 152 = .ok (.aload_n 1, 1) := by decide +kernel
theorem dX10_init_153 : decode cX10_init 153 = .ok (.putfield 81, 3) := by decide +kernel
theorem dX10_init_156 : decode cX10_init 156 = .ok (.aload_n 0, 1) := by decide +kernel
theorem dX10_init_157 : decode cX10_init 157 = .ok (.aload_n 2, 1) := by decide +kernel
theorem dX10_init_158 : decode cX10_init 158 = .ok (.putfield 84, 3) := by decide +kernel
theorem dX10_init_161 : decode cX10_init 161 = .ok (.aload_n 0, 1) := by decide +kernel
theorem dX10_init_162 : decode cX10_init 162 = .ok (.aload_n 3, 1) := by decide +kernel
theorem dX10_init_163 : decode cX10_init 163 = .ok (.putfield 87, 3) := by decide +kernel
theorem dX10_init_166 : decode cX10_init 166 = .ok (.aload_n 0, 1) := by decide +kernel
theorem dX10_init_167 : decode cX10_init 167 = .ok (.aload 4, 2) := by decide +kernel
theorem dX10_init_169 : decode cX10_init 169 = .ok (.putfield 91, 3) := by decide +kernel
theorem dX10_init_172 : decode cX10_init 172 = .ok (.aload_n 0, 1) := by decide +kernel
theorem dX10_init_173 : decode cX10_init 173 = .ok (.aload 5, 2) := by decide +kernel
theorem dX10_init_175 : decode cX10_init 175 = .ok (.putfield 95, 3) := by decide +kernel
theorem dX10_init_178 : decode cX10_init 178 = .ok (.return_, 1) := by decide +kernel
theorem dX10_put_0 : decode cX10_put 0 = .ok (.iload_n 1, 1) := by decide +kernel
theorem dX10_put_1 : decode cX10_put 1 = .ok (.ifCond .lt 22, 3) := by decide +kernel
theorem dX10_put_4 : decode cX10_put 4 = .ok (.iload_n 1, 1) := by decide +kernel
theorem dX10_put_5 : decode cX10_put 5 = .ok (.iconst 2, 1) := by decide +kernel
theorem dX10_put_6 : decode cX10_put 6 = .ok (.if_icmp .gt 17, 3) := by decide +kernel
theorem dX10_put_9 : decode cX10_put 9 = .ok (.aload_n 0, 1) := by decide +kernel
theorem dX10_put_10 : decode cX10_put 10 = .ok (.getfield 81, 3) := by decide +kernel
theorem dX10_put_13 : decode cX10_put 13 = .ok (.iload_n 1, 1) := by decide +kernel
theorem dX10_put_14 : decode cX10_put 14 = .ok (.iconst 0, 1) := by decide +kernel
theorem dX10_put_15 : decode cX10_put 15 = .ok (.iload_n 2, 1) := by decide +kernel
theorem dX10_put_16 : decode cX10_put 16 = .ok (.iconst 0, 1) := by decide +kernel
theorem dX10_put_17 : decode cX10_put 17 = .ok (.invokevirtual 99, 3) := by decide +kernel
theorem dX10_put_20 : decode cX10_put 20 = .ok (.ifCond .ne 10, 3) := by decide +kernel
theorem dX10_put_23 : decode cX10_put 23 = .ok (.aload_n 0, 1) := by decide +kernel
theorem dX10_put_24 : decode cX10_put 24 = .ok (.bipush (-2), 2) := by decide +kernel
theorem dX10_put_26 : decode cX10_put 26 = .ok (.invokevirtual 103, 3) := by decide +kernel
theorem dX10_put_29 : decode cX10_put 29 = .ok (.ireturn, 1) := by decide +kernel
theorem dX10_put_30 : decode cX10_put 30 = .ok (.aload_n 0, 1) := by decide +kernel
theorem dX10_put_31 : decode cX10_put 31 = .ok (.getfield 81, 3) := by decide +kernel
theorem dX10_put_34 : decode cX10_put 34 = .ok (.getfield 107, 3) := by decide +kernel
theorem dX10_put_37 : decode cX10_put 37 = .ok (.iload_n 1, 1) := by decide +kernel
theorem dX10_put_38 : decode cX10_put 38 = .ok (.iaload, 1) := by decide +kernel
theorem dX10_put_39 : decode cX10_put 39 = .ok (.istore_n 3, 1) := by decide +kernel
theorem dX10_put_40 : decode cX10_put 40 = .ok (.aload_n 0, 1) := by decide +kernel
theorem dX10_put_41 : decode cX10_put 41 = .ok (.getfield 81, 3) := by decide +kernel
theorem dX10_put_44 : decode cX10_put 44 = .ok (.getfield 107, 3) := by decide +kernel
theorem dX10_put_47 : decode cX10_put 47 = .ok (.iload_n 1, 1) := by decide +kernel
theorem dX10_put_48 : decode cX10_put 48 = .ok (.iload_n 2, 1) := by decide +kernel
theorem dX10_put_49 : decode cX10_put 49 = .ok (.iastore, 1) := by decide +kernel
theorem dX10_put_50 : decode cX10_put 50 = .ok (.aload_n 0, 1) := by decide +kernel
theorem dX10_put_51 : decode cX10_put 51 = .ok (.invokevirtual 110, 3) := by decide +kernel
theorem dX10_put_54 : decode cX10_put 54 = .ok (.iload_n 3, 1) := by decide +kernel
theorem dX10_put_55 : decode cX10_put 55 = .ok (.ireturn, 1) := by decide +kernel
theorem dX10_person_0 : decode cX10_person 0 = .ok (.aload_n 0, 1) := by decide +kernel
theorem dX10_person_1 : decode cX10_person 1 = .ok (.iconst 3, 1) := by decide +kernel
theorem dX10_person_2 : decode cX10_person 2 = .ok (.iload_n 1, 1) := by decide +kernel
theorem dX10_person_3 : decode cX10_person 3 = .ok (.iload_n 2, 1) := by decide +kernel
theorem dX10_person_4 : decode cX10_person 4 = .ok (.iconst 0, 1) := by decide +kernel
theorem dX10_person_5 : decode cX10_person 5 = .ok (.invokevirtual 113, 3) := by decide +kernel
theorem dX10_person_8 : decode cX10_person 8 = .ok (.ireturn, 1) := by decide +kernel
theorem dX10_talk_0 : decode cX10_talk 0 = .ok (.aload_n 0, 1) := by decide +kernel
theorem dX10_talk_1 : decode cX10_talk 1 = .ok (.iconst 4, 1) := by decide +kernel
theorem dX10_talk_2 : decode cX10_talk 2 = .ok (.iload_n 1, 1) := by decide +kernel
theorem dX10_talk_3 : decode cX10_talk 3 = .ok (.iload_n 2, 1) := by decide +kernel
theorem dX10_talk_4 : decode cX10_talk 4 = .ok (.iload_n 3, 1) := by decide +kernel
theorem dX10_talk_5 : decode cX10_talk 5 = .ok (.invokevirtual 113, 3) := by decide +kernel
theorem dX10_talk_8 : decode cX10_talk 8 = .ok (.ireturn, 1) := by decide +kernel
theorem dX10_due_0 : decode cX10_due 0 = .ok (.aload_n 0, 1) := by decide +kernel
theorem dX10_due_1 : decode cX10_due 1 = .ok (.iconst 5, 1) := by decide +kernel
theorem dX10_due_2 : decode cX10_due 2 = .ok (.iload_n 1, 1) := by decide +kernel
theorem dX10_due_3 : decode cX10_due 3 = .ok (.iload_n 2, 1) := by decide +kernel
theorem dX10_due_4 : decode cX10_due 4 = .ok (.iload_n 3, 1) := by decide +kernel
theorem dX10_due_5 : decode cX10_due 5 = .ok (.invokevirtual 113, 3) := by decide +kernel
theorem dX10_due_8 : decode cX10_due 8 = .ok (.ireturn, 1) := by decide +kernel
theorem dX10_sight_0 : decode cX10_sight 0 = .ok (.aload_n 0, 1) := by decide +kernel
theorem dX10_sight_1 : decode cX10_sight 1 = .ok (.bipush 6, 2) := by decide +kernel
theorem dX10_sight_3 : decode cX10_sight 3 = .ok (.iload_n 1, 1) := by decide +kernel
theorem dX10_sight_4 : decode cX10_sight 4 = .ok (.iload_n 2, 1) := by decide +kernel
theorem dX10_sight_5 : decode cX10_sight 5 = .ok (.iconst 0, 1) := by decide +kernel
theorem dX10_sight_6 : decode cX10_sight 6 = .ok (.invokevirtual 113, 3) := by decide +kernel
theorem dX10_sight_9 : decode cX10_sight 9 = .ok (.ireturn, 1) := by decide +kernel
theorem dX10_clears_0 : decode cX10_clears 0 = .ok (.iload_n 1, 1) := by decide +kernel
theorem dX10_clears_1 : decode cX10_clears 1 = .ok (.ifCond .lt 8, 3) := by decide +kernel
theorem dX10_clears_4 : decode cX10_clears 4 = .ok (.iload_n 1, 1) := by decide +kernel
theorem dX10_clears_5 : decode cX10_clears 5 = .ok (.iconst 2, 1) := by decide +kernel
theorem dX10_clears_6 : decode cX10_clears 6 = .ok (.if_icmp .le 10, 3) := by decide +kernel
theorem dX10_clears_9 : decode cX10_clears 9 = .ok (.aload_n 0, 1) := by decide +kernel
theorem dX10_clears_10 : decode cX10_clears 10 = .ok (.bipush (-2), 2) := by decide +kernel
theorem dX10_clears_12 : decode cX10_clears 12 = .ok (.invokevirtual 103, 3) := by decide +kernel
theorem dX10_clears_15 : decode cX10_clears 15 = .ok (.ireturn, 1) := by decide +kernel
theorem dX10_clears_16 : decode cX10_clears 16 = .ok (.aload_n 0, 1) := by decide +kernel
theorem dX10_clears_17 : decode cX10_clears 17 = .ok (.invokevirtual 110, 3) := by decide +kernel
theorem dX10_clears_20 : decode cX10_clears 20 = .ok (.aload_n 0, 1) := by decide +kernel
theorem dX10_clears_21 : decode cX10_clears 21 = .ok (.getfield 81, 3) := by decide +kernel
theorem dX10_clears_24 : decode cX10_clears 24 = .ok (.iconst 4, 1) := by decide +kernel
theorem dX10_clears_25 : decode cX10_clears 25 = .ok (.iload_n 1, 1) := by decide +kernel
theorem dX10_clears_26 : decode cX10_clears 26 = .ok (.iadd, 1) := by decide +kernel
theorem dX10_clears_27 : decode cX10_clears 27 = .ok (.invokevirtual 117, 3) := by decide +kernel
theorem dX10_clears_30 : decode cX10_clears 30 = .ok (.invokevirtual 121, 3) := by decide +kernel
theorem dX10_clears_33 : decode cX10_clears 33 = .ok (.ireturn, 1) := by decide +kernel
theorem dX10_type_0 : decode cX10_type 0 = .ok (.iload_n 3, 1) := by decide +kernel
theorem dX10_type_1 : decode cX10_type 1 = .ok (.iconst 1, 1) := by decide +kernel
theorem dX10_type_2 : decode cX10_type 2 = .ok (.if_icmp .lt 9, 3) := by decide +kernel
theorem dX10_type_5 : decode cX10_type 5 = .ok (.iload_n 3, 1) := by decide +kernel
theorem dX10_type_6 : decode cX10_type 6 = .ok (.bipush 8, 2) := by decide +kernel
theorem dX10_type_8 : decode cX10_type 8 = .ok (.if_icmp .le 10, 3) := by decide +kernel
theorem dX10_type_11 : decode cX10_type 11 = .ok (.aload_n 0, 1) := by decide +kernel
theorem dX10_type_12 : decode cX10_type 12 = .ok (.bipush (-2), 2) := by decide +kernel
theorem dX10_type_14 : decode cX10_type 14 = .ok (.invokevirtual 103, 3) := by decide +kernel
theorem dX10_type_17 : decode cX10_type 17 = .ok (.ireturn, 1) := by decide +kernel
theorem dX10_type_18 : decode cX10_type 18 = .ok (.aload_n 0, 1) := by decide +kernel
theorem dX10_type_19 : decode cX10_type 19 = .ok (.getfield 87, 3) := by decide +kernel
theorem dX10_type_22 : decode cX10_type 22 = .ok (.invokevirtual 125, 3) := by decide +kernel
theorem dX10_type_25 : decode cX10_type 25 = .ok (.iload_n 3, 1) := by decide +kernel
theorem dX10_type_26 : decode cX10_type 26 = .ok (.iadd, 1) := by decide +kernel
theorem dX10_type_27 : decode cX10_type 27 = .ok (.aload_n 0, 1) := by decide +kernel
theorem dX10_type_28 : decode cX10_type 28 = .ok (.getfield 87, 3) := by decide +kernel
theorem dX10_type_31 : decode cX10_type 31 = .ok (.invokevirtual 128, 3) := by decide +kernel
theorem dX10_type_34 : decode cX10_type 34 = .ok (.if_icmp .le 10, 3) := by decide +kernel
theorem dX10_type_37 : decode cX10_type 37 = .ok (.aload_n 0, 1) := by decide +kernel
theorem dX10_type_38 : decode cX10_type 38 = .ok (.bipush (-4), 2) := by decide +kernel
theorem dX10_type_40 : decode cX10_type 40 = .ok (.invokevirtual 103, 3) := by decide +kernel
theorem dX10_type_43 : decode cX10_type 43 = .ok (.ireturn, 1) := by decide +kernel
theorem dX10_type_44 : decode cX10_type 44 = .ok (.iload_n 3, 1) := by decide +kernel
theorem dX10_type_45 : decode cX10_type 45 = .ok (.iconst 1, 1) := by decide +kernel
theorem dX10_type_46 : decode cX10_type 46 = .ok (.isub, 1) := by decide +kernel
theorem dX10_type_47 : decode cX10_type 47 = .ok (.istore 4, 2) := by decide +kernel
theorem dX10_type_49 : decode cX10_type 49 = .ok (.iload 4, 2) := by decide +kernel
theorem dX10_type_51 : decode cX10_type 51 = .ok (.ifCond .lt 31, 3) := by decide +kernel
theorem dX10_type_54 : decode cX10_type 54 = .ok (.aload_n 0, 1) := by decide +kernel
theorem dX10_type_55 : decode cX10_type 55 = .ok (.getfield 87, 3) := by decide +kernel
theorem dX10_type_58 : decode cX10_type 58 = .ok (.lload_n 1, 1) := by decide +kernel
theorem dX10_type_59 : decode cX10_type 59 = .ok (.bipush 8, 2) := by decide +kernel
theorem dX10_type_61 : decode cX10_type 61 = .ok (.iload 4, 2) := by decide +kernel
theorem dX10_type_63 : decode cX10_type 63 = .ok (.imul, 1) := by decide +kernel
theorem dX10_type_64 : decode cX10_type 64 = .ok (.lshr, 1) := by decide +kernel
theorem dX10_type_65 : decode cX10_type 65 = .ok (.l2i, 1) := by decide +kernel
theorem dX10_type_66 : decode cX10_type 66 = .ok (.sipush 255, 3) := by decide +kernel
theorem dX10_type_69 : decode cX10_type 69 = .ok (.iand, 1) := by decide +kernel
theorem dX10_type_70 : decode cX10_type 70 = .ok (.iconst 0, 1) := by decide +kernel
theorem dX10_type_71 : decode cX10_type 71 = .ok (.iconst 0, 1) := by decide +kernel
theorem dX10_type_72 : decode cX10_type 72 = .ok (.invokevirtual 131, 3) := by decide +kernel
theorem dX10_type_75 : decode cX10_type 75 = .ok (.pop, 1) := by decide +kernel
theorem dX10_type_76 : decode cX10_type 76 = .ok (.iinc 4 (-1), 3) := by decide +kernel
theorem dX10_type_79 : decode cX10_type 79 = .ok (.goto (-30), 3) := by decide +kernel
theorem dX10_type_82 : decode cX10_type 82 = .ok (.aload_n 0, 1) := by decide +kernel
theorem dX10_type_83 : decode cX10_type 83 = .ok (.getfield 87, 3) := by decide +kernel
theorem dX10_type_86 : decode cX10_type 86 = .ok (.invokevirtual 125, 3) := by decide +kernel
theorem dX10_type_89 : decode cX10_type 89 = .ok (.ireturn, 1) := by decide +kernel
theorem dX10_wipe_0 : decode cX10_wipe 0 = .ok (.aload_n 0, 1) := by decide +kernel
theorem dX10_wipe_1 : decode cX10_wipe 1 = .ok (.getfield 87, 3) := by decide +kernel
theorem dX10_wipe_4 : decode cX10_wipe 4 = .ok (.invokevirtual 121, 3) := by decide +kernel
theorem dX10_wipe_7 : decode cX10_wipe 7 = .ok (.ireturn, 1) := by decide +kernel
theorem dX10_read_0 : decode cX10_read 0 = .ok (.aload_n 0, 1) := by decide +kernel
theorem dX10_read_1 : decode cX10_read 1 = .ok (.getfield 84, 3) := by decide +kernel
theorem dX10_read_4 : decode cX10_read 4 = .ok (.aload_n 0, 1) := by decide +kernel
theorem dX10_read_5 : decode cX10_read 5 = .ok (.getfield 81, 3) := by decide +kernel
theorem dX10_read_8 : decode cX10_read 8 = .ok (.invokevirtual 135, 3) := by decide +kernel
theorem dX10_read_11 : decode cX10_read 11 = .ok (.aload_n 0, 1) := by decide +kernel
theorem dX10_read_12 : decode cX10_read 12 = .ok (.getfield 84, 3) := by decide +kernel
theorem dX10_read_15 : decode cX10_read 15 = .ok (.invokevirtual 138, 3) := by decide +kernel
theorem dX10_read_18 : decode cX10_read 18 = .ok (.aload_n 0, 1) := by decide +kernel
theorem dX10_read_19 : decode cX10_read 19 = .ok (.getfield 61, 3) := by decide +kernel
theorem dX10_read_22 : decode cX10_read 22 = .ok (.invokevirtual 141, 3) := by decide +kernel
theorem dX10_read_25 : decode cX10_read 25 = .ok (.istore_n 1, 1) := by decide +kernel
theorem dX10_read_26 : decode cX10_read 26 = .ok (.iload_n 1, 1) := by decide +kernel
theorem dX10_read_27 : decode cX10_read 27 = .ok (.ifCond .lt 18, 3) := by decide +kernel
theorem dX10_read_30 : decode cX10_read 30 = .ok (.aload_n 0, 1) := by decide +kernel
theorem dX10_read_31 : decode cX10_read 31 = .ok (.getfield 81, 3) := by decide +kernel
theorem dX10_read_34 : decode cX10_read 34 = .ok (.aload_n 0, 1) := by decide +kernel
theorem dX10_read_35 : decode cX10_read 35 = .ok (.getfield 84, 3) := by decide +kernel
theorem dX10_read_38 : decode cX10_read 38 = .ok (.invokevirtual 135, 3) := by decide +kernel
theorem dX10_read_41 : decode cX10_read 41 = .ok (.aload_n 0, 1) := by decide +kernel
theorem dX10_read_42 : decode cX10_read 42 = .ok (.invokevirtual 110, 3) := by decide +kernel
theorem dX10_read_45 : decode cX10_read 45 = .ok (.iload_n 1, 1) := by decide +kernel
theorem dX10_read_46 : decode cX10_read 46 = .ok (.ireturn, 1) := by decide +kernel
theorem dX10_write_0 : decode cX10_write 0 = .ok (.iload_n 1, 1) := by decide +kernel
theorem dX10_write_1 : decode cX10_write 1 = .ok (.ifCond .lt 9, 3) := by decide +kernel
theorem dX10_write_4 : decode cX10_write 4 = .ok (.iload_n 1, 1) := by decide +kernel
theorem dX10_write_5 : decode cX10_write 5 = .ok (.bipush 127, 2) := by decide +kernel
theorem dX10_write_7 : decode cX10_write 7 = .ok (.if_icmp .le 10, 3) := by decide +kernel
theorem dX10_write_10 : decode cX10_write 10 = .ok (.aload_n 0, 1) := by decide +kernel
theorem dX10_write_11 : decode cX10_write 11 = .ok (.bipush (-2), 2) := by decide +kernel
theorem dX10_write_13 : decode cX10_write 13 = .ok (.invokevirtual 103, 3) := by decide +kernel
theorem dX10_write_16 : decode cX10_write 16 = .ok (.ireturn, 1) := by decide +kernel
theorem dX10_write_17 : decode cX10_write 17 = .ok (.aload_n 0, 1) := by decide +kernel
theorem dX10_write_18 : decode cX10_write 18 = .ok (.getfield 81, 3) := by decide +kernel
theorem dX10_write_21 : decode cX10_write 21 = .ok (.getfield 144, 3) := by decide +kernel
theorem dX10_write_24 : decode cX10_write 24 = .ok (.invokevirtual 146, 3) := by decide +kernel
theorem dX10_write_27 : decode cX10_write 27 = .ok (.ifCond .eq 10, 3) := by decide +kernel
theorem dX10_write_30 : decode cX10_write 30 = .ok (.aload_n 0, 1) := by decide +kernel
theorem dX10_write_31 : decode cX10_write 31 = .ok (.bipush (-4), 2) := by decide +kernel
theorem dX10_write_33 : decode cX10_write 33 = .ok (.invokevirtual 103, 3) := by decide +kernel
theorem dX10_write_36 : decode cX10_write 36 = .ok (.ireturn, 1) := by decide +kernel
theorem dX10_write_37 : decode cX10_write 37 = .ok (.aload_n 0, 1) := by decide +kernel
theorem dX10_write_38 : decode cX10_write 38 = .ok (.invokevirtual 110, 3) := by decide +kernel
theorem dX10_write_41 : decode cX10_write 41 = .ok (.aload_n 0, 1) := by decide +kernel
theorem dX10_write_42 : decode cX10_write 42 = .ok (.getfield 81, 3) := by decide +kernel
theorem dX10_write_45 : decode cX10_write 45 = .ok (.getfield 144, 3) := by decide +kernel
theorem dX10_write_48 : decode cX10_write 48 = .ok (.iload_n 1, 1) := by decide +kernel
theorem dX10_write_49 : decode cX10_write 49 = .ok (.iconst 0, 1) := by decide +kernel
theorem dX10_write_50 : decode cX10_write 50 = .ok (.iconst 0, 1) := by decide +kernel
theorem dX10_write_51 : decode cX10_write 51 = .ok (.invokevirtual 131, 3) := by decide +kernel
theorem dX10_write_54 : decode cX10_write 54 = .ok (.iconst 1, 1) := by decide +kernel
theorem dX10_write_55 : decode cX10_write 55 = .ok (.iadd, 1) := by decide +kernel
theorem dX10_write_56 : decode cX10_write 56 = .ok (.ireturn, 1) := by decide +kernel
theorem dX10_erase_0 : decode cX10_erase 0 = .ok (.aload_n 0, 1) := by decide +kernel
theorem dX10_erase_1 : decode cX10_erase 1 = .ok (.invokevirtual 110, 3) := by decide +kernel
theorem dX10_erase_4 : decode cX10_erase 4 = .ok (.aload_n 0, 1) := by decide +kernel
theorem dX10_erase_5 : decode cX10_erase 5 = .ok (.getfield 81, 3) := by decide +kernel
theorem dX10_erase_8 : decode cX10_erase 8 = .ok (.getfield 144, 3) := by decide +kernel
theorem dX10_erase_11 : decode cX10_erase 11 = .ok (.invokevirtual 121, 3) := by decide +kernel
theorem dX10_erase_14 : decode cX10_erase 14 = .ok (.ireturn, 1) := by decide +kernel
theorem dX10_fault_0 : decode cX10_fault 0 = .ok (.aload_n 0, 1) := by decide +kernel
theorem dX10_fault_1 : decode cX10_fault 1 = .ok (.getfield 91, 3) := by decide +kernel
theorem dX10_fault_4 : decode cX10_fault 4 = .ok (.invokevirtual 150, 3) := by decide +kernel
theorem dX10_fault_7 : decode cX10_fault 7 = .ok (.aload_n 0, 1) := by decide +kernel
theorem dX10_fault_8 : decode cX10_fault 8 = .ok (.getfield 91, 3) := by decide +kernel
theorem dX10_fault_11 : decode cX10_fault 11 = .ok (.invokevirtual 153, 3) := by decide +kernel
theorem dX10_fault_14 : decode cX10_fault 14 = .ok (.ireturn, 1) := by decide +kernel
theorem dX10_clock_0 : decode cX10_clock 0 = .ok (.iload_n 1, 1) := by decide +kernel
theorem dX10_clock_1 : decode cX10_clock 1 = .ok (.invokestatic 156, 3) := by decide +kernel
theorem dX10_clock_4 : decode cX10_clock 4 = .ok (.ifCond .eq 14, 3) := by decide +kernel
theorem dX10_clock_7 : decode cX10_clock 7 = .ok (.iload_n 2, 1) := by decide +kernel
theorem dX10_clock_8 : decode cX10_clock 8 = .ok (.iconst 0, 1) := by decide +kernel
theorem dX10_clock_9 : decode cX10_clock 9 = .ok (.sipush 240, 3) := by decide +kernel
theorem dX10_clock_12 : decode cX10_clock 12 = .ok (.invokestatic 160, 3) := by decide +kernel
theorem dX10_clock_15 : decode cX10_clock 15 = .ok (.ifCond .ne 10, 3) := by decide +kernel
theorem dX10_clock_18 : decode cX10_clock 18 = .ok (.aload_n 0, 1) := by decide +kernel
theorem dX10_clock_19 : decode cX10_clock 19 = .ok (.bipush (-2), 2) := by decide +kernel
theorem dX10_clock_21 : decode cX10_clock 21 = .ok (.invokevirtual 103, 3) := by decide +kernel
theorem dX10_clock_24 : decode cX10_clock 24 = .ok (.ireturn, 1) := by decide +kernel
theorem dX10_clock_25 : decode cX10_clock 25 = .ok (.aload_n 0, 1) := by decide +kernel
theorem dX10_clock_26 : decode cX10_clock 26 = .ok (.invokevirtual 164, 3) := by decide +kernel
theorem dX10_clock_29 : decode cX10_clock 29 = .ok (.aload_n 0, 1) := by decide +kernel
theorem dX10_clock_30 : decode cX10_clock 30 = .ok (.getfield 95, 3) := by decide +kernel
theorem dX10_clock_33 : decode cX10_clock 33 = .ok (.iload_n 1, 1) := by decide +kernel
theorem dX10_clock_34 : decode cX10_clock 34 = .ok (.iload_n 2, 1) := by decide +kernel
theorem dX10_clock_35 : decode cX10_clock 35 = .ok (.invokevirtual 167, 3) := by decide +kernel
theorem dX10_clock_38 : decode cX10_clock 38 = .ok (.ireturn, 1) := by decide +kernel
theorem dX10_counts_0 : decode cX10_counts 0 = .ok (.iload_n 1, 1) := by decide +kernel
theorem dX10_counts_1 : decode cX10_counts 1 = .ok (.iconst 0, 1) := by decide +kernel
theorem dX10_counts_2 : decode cX10_counts 2 = .ok (.aload_n 0, 1) := by decide +kernel
theorem dX10_counts_3 : decode cX10_counts 3 = .ok (.getfield 81, 3) := by decide +kernel
theorem dX10_counts_6 : decode cX10_counts 6 = .ok (.getfield 171, 3) := by decide +kernel
theorem dX10_counts_9 : decode cX10_counts 9 = .ok (.invokevirtual 125, 3) := by decide +kernel
theorem dX10_counts_12 : decode cX10_counts 12 = .ok (.iconst 1, 1) := by decide +kernel
theorem dX10_counts_13 : decode cX10_counts 13 = .ok (.isub, 1) := by decide +kernel
theorem dX10_counts_14 : decode cX10_counts 14 = .ok (.invokestatic 160, 3) := by decide +kernel
theorem dX10_counts_17 : decode cX10_counts 17 = .ok (.ifCond .eq 14, 3) := by decide +kernel
theorem dX10_counts_20 : decode cX10_counts 20 = .ok (.iload_n 2, 1) := by decide +kernel
theorem dX10_counts_21 : decode cX10_counts 21 = .ok (.iconst 0, 1) := by decide +kernel
theorem dX10_counts_22 : decode cX10_counts 22 = .ok (.sipush 239, 3) := by decide +kernel
theorem dX10_counts_25 : decode cX10_counts 25 = .ok (.invokestatic 160, 3) := by decide +kernel
theorem dX10_counts_28 : decode cX10_counts 28 = .ok (.ifCond .ne 10, 3) := by decide +kernel
theorem dX10_counts_31 : decode cX10_counts 31 = .ok (.aload_n 0, 1) := by decide +kernel
theorem dX10_counts_32 : decode cX10_counts 32 = .ok (.bipush (-2), 2) := by decide +kernel
theorem dX10_counts_34 : decode cX10_counts 34 = .ok (.invokevirtual 103, 3) := by decide +kernel
theorem dX10_counts_37 : decode cX10_counts 37 = .ok (.ireturn, 1) := by decide +kernel
theorem dX10_counts_38 : decode cX10_counts 38 = .ok (.aload_n 0, 1) := by decide +kernel
theorem dX10_counts_39 : decode cX10_counts 39 = .ok (.invokevirtual 164, 3) := by decide +kernel
theorem dX10_counts_42 : decode cX10_counts 42 = .ok (.aload_n 0, 1) := by decide +kernel
theorem dX10_counts_43 : decode cX10_counts 43 = .ok (.getfield 95, 3) := by decide +kernel
theorem dX10_counts_46 : decode cX10_counts 46 = .ok (.iload_n 1, 1) := by decide +kernel
theorem dX10_counts_47 : decode cX10_counts 47 = .ok (.iload_n 2, 1) := by decide +kernel
theorem dX10_counts_48 : decode cX10_counts 48 = .ok (.invokevirtual 174, 3) := by decide +kernel
theorem dX10_counts_51 : decode cX10_counts 51 = .ok (.ireturn, 1) := by decide +kernel
theorem dX10_sun_0 : decode cX10_sun 0 = .ok (.iload_n 1, 1) := by decide +kernel
theorem dX10_sun_1 : decode cX10_sun 1 = .ok (.invokestatic 156, 3) := by decide +kernel
theorem dX10_sun_4 : decode cX10_sun 4 = .ok (.ifCond .eq 14, 3) := by decide +kernel
theorem dX10_sun_7 : decode cX10_sun 7 = .ok (.iload_n 2, 1) := by decide +kernel
theorem dX10_sun_8 : decode cX10_sun 8 = .ok (.iconst 0, 1) := by decide +kernel
theorem dX10_sun_9 : decode cX10_sun 9 = .ok (.sipush 999, 3) := by decide +kernel
theorem dX10_sun_12 : decode cX10_sun 12 = .ok (.invokestatic 160, 3) := by decide +kernel
theorem dX10_sun_15 : decode cX10_sun 15 = .ok (.ifCond .ne 10, 3) := by decide +kernel
theorem dX10_sun_18 : decode cX10_sun 18 = .ok (.aload_n 0, 1) := by decide +kernel
theorem dX10_sun_19 : decode cX10_sun 19 = .ok (.bipush (-2), 2) := by decide +kernel
theorem dX10_sun_21 : decode cX10_sun 21 = .ok (.invokevirtual 103, 3) := by decide +kernel
theorem dX10_sun_24 : decode cX10_sun 24 = .ok (.ireturn, 1) := by decide +kernel
theorem dX10_sun_25 : decode cX10_sun 25 = .ok (.aload_n 0, 1) := by decide +kernel
theorem dX10_sun_26 : decode cX10_sun 26 = .ok (.invokevirtual 164, 3) := by decide +kernel
theorem dX10_sun_29 : decode cX10_sun 29 = .ok (.aload_n 0, 1) := by decide +kernel
theorem dX10_sun_30 : decode cX10_sun 30 = .ok (.getfield 95, 3) := by decide +kernel
theorem dX10_sun_33 : decode cX10_sun 33 = .ok (.iload_n 1, 1) := by decide +kernel
theorem dX10_sun_34 : decode cX10_sun 34 = .ok (.iload_n 2, 1) := by decide +kernel
theorem dX10_sun_35 : decode cX10_sun 35 = .ok (.invokevirtual 177, 3) := by decide +kernel
theorem dX10_sun_38 : decode cX10_sun 38 = .ok (.ireturn, 1) := by decide +kernel
theorem dX10_letter_0 : decode cX10_letter 0 = .ok (.iload_n 1, 1) := by decide +kernel
theorem dX10_letter_1 : decode cX10_letter 1 = .ok (.invokestatic 156, 3) := by decide +kernel
theorem dX10_letter_4 : decode cX10_letter 4 = .ok (.ifCond .eq 25, 3) := by decide +kernel
theorem dX10_letter_7 : decode cX10_letter 7 = .ok (.iload_n 2, 1) := by decide +kernel
theorem dX10_letter_8 : decode cX10_letter 8 = .ok (.iconst 0, 1) := by decide +kernel
theorem dX10_letter_9 : decode cX10_letter 9 = .ok (.sipush 999, 3) := by decide +kernel
theorem dX10_letter_12 : decode cX10_letter 12 = .ok (.invokestatic 160, 3) := by decide +kernel
theorem dX10_letter_15 : decode cX10_letter 15 = .ok (.ifCond .eq 14, 3) := by decide +kernel
theorem dX10_letter_18 : decode cX10_letter 18 = .ok (.iload_n 3, 1) := by decide +kernel
theorem dX10_letter_19 : decode cX10_letter 19 = .ok (.iconst 0, 1) := by decide +kernel
theorem dX10_letter_20 : decode cX10_letter 20 = .ok (.sipush 240, 3) := by decide +kernel
theorem dX10_letter_23 : decode cX10_letter 23 = .ok (.invokestatic 160, 3) := by decide +kernel
theorem dX10_letter_26 : decode cX10_letter 26 = .ok (.ifCond .ne 10, 3) := by decide +kernel
theorem dX10_letter_29 : decode cX10_letter 29 = .ok (.aload_n 0, 1) := by decide +kernel
theorem dX10_letter_30 : decode cX10_letter 30 = .ok (.bipush (-2), 2) := by decide +kernel
theorem dX10_letter_32 : decode cX10_letter 32 = .ok (.invokevirtual 103, 3) := by decide +kernel
theorem dX10_letter_35 : decode cX10_letter 35 = .ok (.ireturn, 1) := by decide +kernel
theorem dX10_letter_36 : decode cX10_letter 36 = .ok (.aload_n 0, 1) := by decide +kernel
theorem dX10_letter_37 : decode cX10_letter 37 = .ok (.invokevirtual 164, 3) := by decide +kernel
theorem dX10_letter_40 : decode cX10_letter 40 = .ok (.aload_n 0, 1) := by decide +kernel
theorem dX10_letter_41 : decode cX10_letter 41 = .ok (.getfield 95, 3) := by decide +kernel
theorem dX10_letter_44 : decode cX10_letter 44 = .ok (.iload_n 1, 1) := by decide +kernel
theorem dX10_letter_45 : decode cX10_letter 45 = .ok (.iload_n 2, 1) := by decide +kernel
theorem dX10_letter_46 : decode cX10_letter 46 = .ok (.invokevirtual 177, 3) := by decide +kernel
theorem dX10_letter_49 : decode cX10_letter 49 = .ok (.istore 4, 2) := by decide +kernel
theorem dX10_letter_51 : decode cX10_letter 51 = .ok (.iload 4, 2) := by decide +kernel
theorem dX10_letter_53 : decode cX10_letter 53 = .ok (.iconst (-1), 1) := by decide +kernel
theorem dX10_letter_54 : decode cX10_letter 54 = .ok (.if_icmp .eq 13, 3) := by decide +kernel
theorem dX10_letter_57 : decode cX10_letter 57 = .ok (.iload 4, 2) := by decide +kernel
theorem dX10_letter_59 : decode cX10_letter 59 = .ok (.iload_n 3, 1) := by decide +kernel
theorem dX10_letter_60 : decode cX10_letter 60 = .ok (.iadd, 1) := by decide +kernel
theorem dX10_letter_61 : decode cX10_letter 61 = .ok (.sipush 240, 3) := by decide +kernel
theorem dX10_letter_64 : decode cX10_letter 64 = .ok (.if_icmp .le 5, 3) := by decide +kernel
theorem dX10_letter_67 : decode cX10_letter 67 = .ok (.iconst (-1), 1) := by decide +kernel
theorem dX10_letter_68 : decode cX10_letter 68 = .ok (.ireturn, 1) := by decide +kernel
theorem dX10_letter_69 : decode cX10_letter 69 = .ok (.aload_n 0, 1) := by decide +kernel
theorem dX10_letter_70 : decode cX10_letter 70 = .ok (.getfield 95, 3) := by decide +kernel
theorem dX10_letter_73 : decode cX10_letter 73 = .ok (.iconst 1, 1) := by decide +kernel
theorem dX10_letter_74 : decode cX10_letter 74 = .ok (.iload_n 1, 1) := by decide +kernel
theorem dX10_letter_75 : decode cX10_letter 75 = .ok (.isub, 1) := by decide +kernel
theorem dX10_letter_76 : decode cX10_letter 76 = .ok (.iload 4, 2) := by decide +kernel
theorem dX10_letter_78 : decode cX10_letter 78 = .ok (.iload_n 3, 1) := by decide +kernel
theorem dX10_letter_79 : decode cX10_letter 79 = .ok (.iadd, 1) := by decide +kernel
theorem dX10_letter_80 : decode cX10_letter 80 = .ok (.invokevirtual 167, 3) := by decide +kernel
theorem dX10_letter_83 : decode cX10_letter 83 = .ok (.ireturn, 1) := by decide +kernel
theorem dX10_turns_0 : decode cX10_turns 0 = .ok (.iload_n 1, 1) := by decide +kernel
theorem dX10_turns_1 : decode cX10_turns 1 = .ok (.iconst 1, 1) := by decide +kernel
theorem dX10_turns_2 : decode cX10_turns 2 = .ok (.bipush 60, 2) := by decide +kernel
theorem dX10_turns_4 : decode cX10_turns 4 = .ok (.invokestatic 160, 3) := by decide +kernel
theorem dX10_turns_7 : decode cX10_turns 7 = .ok (.ifCond .ne 10, 3) := by decide +kernel
theorem dX10_turns_10 : decode cX10_turns 10 = .ok (.aload_n 0, 1) := by decide +kernel
theorem dX10_turns_11 : decode cX10_turns 11 = .ok (.bipush (-2), 2) := by decide +kernel
theorem dX10_turns_13 : decode cX10_turns 13 = .ok (.invokevirtual 103, 3) := by decide +kernel
theorem dX10_turns_16 : decode cX10_turns 16 = .ok (.ireturn, 1) := by decide +kernel
theorem dX10_turns_17 : decode cX10_turns 17 = .ok (.aload_n 0, 1) := by decide +kernel
theorem dX10_turns_18 : decode cX10_turns 18 = .ok (.getfield 81, 3) := by decide +kernel
theorem dX10_turns_21 : decode cX10_turns 21 = .ok (.getfield 171, 3) := by decide +kernel
theorem dX10_turns_24 : decode cX10_turns 24 = .ok (.invokevirtual 125, 3) := by decide +kernel
theorem dX10_turns_27 : decode cX10_turns 27 = .ok (.ifCond .ne 10, 3) := by decide +kernel
theorem dX10_turns_30 : decode cX10_turns 30 = .ok (.aload_n 0, 1) := by decide +kernel
theorem dX10_turns_31 : decode cX10_turns 31 = .ok (.bipush (-3), 2) := by decide +kernel
theorem dX10_turns_33 : decode cX10_turns 33 = .ok (.invokevirtual 103, 3) := by decide +kernel
theorem dX10_turns_36 : decode cX10_turns 36 = .ok (.ireturn, 1) := by decide +kernel
theorem dX10_turns_37 : decode cX10_turns 37 = .ok (.aload_n 0, 1) := by decide +kernel
theorem dX10_turns_38 : decode cX10_turns 38 = .ok (.invokevirtual 164, 3) := by decide +kernel
theorem dX10_turns_41 : decode cX10_turns 41 = .ok (.aload_n 0, 1) := by decide +kernel
theorem dX10_turns_42 : decode cX10_turns 42 = .ok (.getfield 95, 3) := by decide +kernel
theorem dX10_turns_45 : decode cX10_turns 45 = .ok (.iload_n 1, 1) := by decide +kernel
theorem dX10_turns_46 : decode cX10_turns 46 = .ok (.invokevirtual 180, 3) := by decide +kernel
theorem dX10_turns_49 : decode cX10_turns 49 = .ok (.ireturn, 1) := by decide +kernel
theorem dX10_paid_0 : decode cX10_paid 0 = .ok (.iload_n 1, 1) := by decide +kernel
theorem dX10_paid_1 : decode cX10_paid 1 = .ok (.iconst (-1), 1) := by decide +kernel
theorem dX10_paid_2 : decode cX10_paid 2 = .ok (.aload_n 0, 1) := by decide +kernel
theorem dX10_paid_3 : decode cX10_paid 3 = .ok (.getfield 81, 3) := by decide +kernel
theorem dX10_paid_6 : decode cX10_paid 6 = .ok (.getfield 183, 3) := by decide +kernel
theorem dX10_paid_9 : decode cX10_paid 9 = .ok (.invokevirtual 125, 3) := by decide +kernel
theorem dX10_paid_12 : decode cX10_paid 12 = .ok (.iconst 1, 1) := by decide +kernel
theorem dX10_paid_13 : decode cX10_paid 13 = .ok (.isub, 1) := by decide +kernel
theorem dX10_paid_14 : decode cX10_paid 14 = .ok (.invokestatic 160, 3) := by decide +kernel
theorem dX10_paid_17 : decode cX10_paid 17 = .ok (.ifCond .ne 8, 3) := by decide +kernel
theorem dX10_paid_20 : decode cX10_paid 20 = .ok (.aload_n 0, 1) := by decide +kernel
theorem dX10_paid_21 : decode cX10_paid 21 = .ok (.invokevirtual 186, 3) := by decide +kernel
theorem dX10_paid_24 : decode cX10_paid 24 = .ok (.ireturn, 1) := by decide +kernel
theorem dX10_paid_25 : decode cX10_paid 25 = .ok (.aload_n 0, 1) := by decide +kernel
theorem dX10_paid_26 : decode cX10_paid 26 = .ok (.invokevirtual 164, 3) := by decide +kernel
theorem dX10_paid_29 : decode cX10_paid 29 = .ok (.iload_n 1, 1) := by decide +kernel
theorem dX10_paid_30 : decode cX10_paid 30 = .ok (.iconst (-1), 1) := by decide +kernel
theorem dX10_paid_31 : decode cX10_paid 31 = .ok (.if_icmp .eq 17, 3) := by decide +kernel
theorem dX10_paid_34 : decode cX10_paid 34 = .ok (.aload_n 0, 1) := by decide +kernel
theorem dX10_paid_35 : decode cX10_paid 35 = .ok (.iload_n 1, 1) := by decide +kernel
theorem dX10_paid_36 : decode cX10_paid 36 = .ok (.invokevirtual 189, 3) := by decide +kernel
theorem dX10_paid_39 : decode cX10_paid 39 = .ok (.ifCond .eq 7, 3) := by decide +kernel
theorem dX10_paid_42 : decode cX10_paid 42 = .ok (.iconst 1, 1) := by decide +kernel
theorem dX10_paid_43 : decode cX10_paid 43 = .ok (.goto 4, 3) := by decide +kernel
theorem dX10_paid_46 : decode cX10_paid 46 = .ok (.iconst 0, 1) := by decide +kernel
theorem dX10_paid_47 : decode cX10_paid 47 = .ok (.ireturn, 1) := by decide +kernel
theorem dX10_paid_48 : decode cX10_paid 48 = .ok (.iconst 0, 1) := by decide +kernel
theorem dX10_paid_49 : decode cX10_paid 49 = .ok (.istore_n 2, 1) := by decide +kernel
theorem dX10_paid_50 : decode cX10_paid 50 = .ok (.iconst 0, 1) := by decide +kernel
theorem dX10_paid_51 : decode cX10_paid 51 = .ok (.istore_n 3, 1) := by decide +kernel
theorem dX10_paid_52 : decode cX10_paid 52 = .ok (.iload_n 3, 1) := by decide +kernel
theorem dX10_paid_53 : decode cX10_paid 53 = .ok (.aload_n 0, 1) := by decide +kernel
theorem dX10_paid_54 : decode cX10_paid 54 = .ok (.getfield 81, 3) := by decide +kernel
theorem dX10_paid_57 : decode cX10_paid 57 = .ok (.getfield 183, 3) := by decide +kernel
theorem dX10_paid_60 : decode cX10_paid 60 = .ok (.invokevirtual 125, 3) := by decide +kernel
theorem dX10_paid_63 : decode cX10_paid 63 = .ok (.if_icmp .ge 32, 3) := by decide +kernel
theorem dX10_paid_66 : decode cX10_paid 66 = .ok (.aload_n 0, 1) := by decide +kernel
theorem dX10_paid_67 : decode cX10_paid 67 = .ok (.iload_n 3, 1) := by decide +kernel
theorem dX10_paid_68 : decode cX10_paid 68 = .ok (.invokevirtual 189, 3) := by decide +kernel
theorem dX10_paid_71 : decode cX10_paid 71 = .ok (.ifCond .eq 18, 3) := by decide +kernel
theorem dX10_paid_74 : decode cX10_paid 74 = .ok (.iload_n 2, 1) := by decide +kernel
theorem dX10_paid_75 : decode cX10_paid 75 = .ok (.aload_n 0, 1) := by decide +kernel
theorem dX10_paid_76 : decode cX10_paid 76 = .ok (.getfield 81, 3) := by decide +kernel
theorem dX10_paid_79 : decode cX10_paid 79 = .ok (.getfield 183, 3) := by decide +kernel
theorem dX10_paid_82 : decode cX10_paid 82 = .ok (.iload_n 3, 1) := by decide +kernel
theorem dX10_paid_83 : decode cX10_paid 83 = .ok (.iconst 2, 1) := by decide +kernel
theorem dX10_paid_84 : decode cX10_paid 84 = .ok (.invokevirtual 192, 3) := by decide +kernel
theorem dX10_paid_87 : decode cX10_paid 87 = .ok (.iadd, 1) := by decide +kernel
theorem dX10_paid_88 : decode cX10_paid 88 = .ok (.istore_n 2, 1) := by decide +kernel
theorem dX10_paid_89 : decode cX10_paid 89 = .ok (.iinc 3 1, 3) := by decide +kernel
theorem dX10_paid_92 : decode cX10_paid 92 = .ok (.goto (-40), 3) := by decide +kernel
theorem dX10_paid_95 : decode cX10_paid 95 = .ok (.iload_n 2, 1) := by decide +kernel
theorem dX10_paid_96 : decode cX10_paid 96 = .ok (.ireturn, 1) := by decide +kernel
theorem dX10_best_0 : decode cX10_best 0 = .ok (.iload_n 1, 1) := by decide +kernel
theorem dX10_best_1 : decode cX10_best 1 = .ok (.invokestatic 195, 3) := by decide +kernel
theorem dX10_best_4 : decode cX10_best 4 = .ok (.ifCond .ne 8, 3) := by decide +kernel
theorem dX10_best_7 : decode cX10_best 7 = .ok (.aload_n 0, 1) := by decide +kernel
theorem dX10_best_8 : decode cX10_best 8 = .ok (.invokevirtual 186, 3) := by decide +kernel
theorem dX10_best_11 : decode cX10_best 11 = .ok (.ireturn, 1) := by decide +kernel
theorem dX10_best_12 : decode cX10_best 12 = .ok (.aload_n 0, 1) := by decide +kernel
theorem dX10_best_13 : decode cX10_best 13 = .ok (.getfield 68, 3) := by decide +kernel
theorem dX10_best_16 : decode cX10_best 16 = .ok (.iconst 0, 1) := by decide +kernel
theorem dX10_best_17 : decode cX10_best 17 = .ok (.iload_n 1, 1) := by decide +kernel
theorem dX10_best_18 : decode cX10_best 18 = .ok (.invokevirtual 198, 3) := by decide +kernel
theorem dX10_best_21 : decode cX10_best 21 = .ok (.ireturn, 1) := by decide +kernel
theorem dX10_step_0 : decode cX10_step 0 = .ok (.iload_n 1, 1) := by decide +kernel
theorem dX10_step_1 : decode cX10_step 1 = .ok (.invokestatic 195, 3) := by decide +kernel
theorem dX10_step_4 : decode cX10_step 4 = .ok (.ifCond .eq 13, 3) := by decide +kernel
theorem dX10_step_7 : decode cX10_step 7 = .ok (.iload_n 2, 1) := by decide +kernel
theorem dX10_step_8 : decode cX10_step 8 = .ok (.iconst 0, 1) := by decide +kernel
theorem dX10_step_9 : decode cX10_step 9 = .ok (.bipush 98, 2) := by decide +kernel
theorem dX10_step_11 : decode cX10_step 11 = .ok (.invokestatic 160, 3) := by decide +kernel
theorem dX10_step_14 : decode cX10_step 14 = .ok (.ifCond .ne 10, 3) := by decide +kernel
theorem dX10_step_17 : decode cX10_step 17 = .ok (.aload_n 0, 1) := by decide +kernel
theorem dX10_step_18 : decode cX10_step 18 = .ok (.bipush (-2), 2) := by decide +kernel
theorem dX10_step_20 : decode cX10_step 20 = .ok (.invokevirtual 103, 3) := by decide +kernel
theorem dX10_step_23 : decode cX10_step 23 = .ok (.ireturn, 1) := by decide +kernel
theorem dX10_step_24 : decode cX10_step 24 = .ok (.aload_n 0, 1) := by decide +kernel
theorem dX10_step_25 : decode cX10_step 25 = .ok (.getfield 68, 3) := by decide +kernel
theorem dX10_step_28 : decode cX10_step 28 = .ok (.iload_n 2, 1) := by decide +kernel
theorem dX10_step_29 : decode cX10_step 29 = .ok (.iload_n 1, 1) := by decide +kernel
theorem dX10_step_30 : decode cX10_step 30 = .ok (.invokevirtual 201, 3) := by decide +kernel
theorem dX10_step_33 : decode cX10_step 33 = .ok (.ireturn, 1) := by decide +kernel
theorem dX10_minute_0 : decode cX10_minute 0 = .ok (.iload_n 1, 1) := by decide +kernel
theorem dX10_minute_1 : decode cX10_minute 1 = .ok (.invokestatic 195, 3) := by decide +kernel
theorem dX10_minute_4 : decode cX10_minute 4 = .ok (.ifCond .ne 8, 3) := by decide +kernel
theorem dX10_minute_7 : decode cX10_minute 7 = .ok (.aload_n 0, 1) := by decide +kernel
theorem dX10_minute_8 : decode cX10_minute 8 = .ok (.invokevirtual 186, 3) := by decide +kernel
theorem dX10_minute_11 : decode cX10_minute 11 = .ok (.ireturn, 1) := by decide +kernel
theorem dX10_minute_12 : decode cX10_minute 12 = .ok (.aload_n 0, 1) := by decide +kernel
theorem dX10_minute_13 : decode cX10_minute 13 = .ok (.getfield 68, 3) := by decide +kernel
theorem dX10_minute_16 : decode cX10_minute 16 = .ok (.iconst 1, 1) := by decide +kernel
theorem dX10_minute_17 : decode cX10_minute 17 = .ok (.iload_n 1, 1) := by decide +kernel
theorem dX10_minute_18 : decode cX10_minute 18 = .ok (.invokevirtual 198, 3) := by decide +kernel
theorem dX10_minute_21 : decode cX10_minute 21 = .ok (.aload_n 0, 1) := by decide +kernel
theorem dX10_minute_22 : decode cX10_minute 22 = .ok (.getfield 68, 3) := by decide +kernel
theorem dX10_minute_25 : decode cX10_minute 25 = .ok (.iconst 0, 1) := by decide +kernel
theorem dX10_minute_26 : decode cX10_minute 26 = .ok (.iload_n 1, 1) := by decide +kernel
theorem dX10_minute_27 : decode cX10_minute 27 = .ok (.invokevirtual 198, 3) := by decide +kernel
theorem dX10_minute_30 : decode cX10_minute 30 = .ok (.isub, 1) := by decide +kernel
theorem dX10_minute_31 : decode cX10_minute 31 = .ok (.ireturn, 1) := by decide +kernel
theorem dX10_stake_0 : decode cX10_stake 0 = .ok (.iload_n 1, 1) := by decide +kernel
theorem dX10_stake_1 : decode cX10_stake 1 = .ok (.iconst 0, 1) := by decide +kernel
theorem dX10_stake_2 : decode cX10_stake 2 = .ok (.bipush 20, 2) := by decide +kernel
theorem dX10_stake_4 : decode cX10_stake 4 = .ok (.invokestatic 160, 3) := by decide +kernel
theorem dX10_stake_7 : decode cX10_stake 7 = .ok (.ifCond .eq 47, 3) := by decide +kernel
theorem dX10_stake_10 : decode cX10_stake 10 = .ok (.iload_n 2, 1) := by decide +kernel
theorem dX10_stake_11 : decode cX10_stake 11 = .ok (.iconst 0, 1) := by decide +kernel
theorem dX10_stake_12 : decode cX10_stake 12 = .ok (.bipush 20, 2) := by decide +kernel
theorem dX10_stake_14 : decode cX10_stake 14 = .ok (.invokestatic 160, 3) := by decide +kernel
theorem dX10_stake_17 : decode cX10_stake 17 = .ok (.ifCond .eq 37, 3) := by decide +kernel
theorem dX10_stake_20 : decode cX10_stake 20 = .ok (.iload_n 3, 1) := by decide +kernel
theorem dX10_stake_21 : decode cX10_stake 21 = .ok (.bipush (-99), 2) := by decide +kernel
theorem dX10_stake_23 : decode cX10_stake 23 = .ok (.bipush 99, 2) := by decide +kernel
theorem dX10_stake_25 : decode cX10_stake 25 = .ok (.invokestatic 160, 3) := by decide +kernel
theorem dX10_stake_28 : decode cX10_stake 28 = .ok (.ifCond .eq 26, 3) := by decide +kernel
theorem dX10_stake_31 : decode cX10_stake 31 = .ok (.iload 4, 2) := by decide +kernel
theorem dX10_stake_33 : decode cX10_stake 33 = .ok (.bipush (-99), 2) := by decide +kernel
theorem dX10_stake_35 : decode cX10_stake 35 = .ok (.bipush 99, 2) := by decide +kernel
theorem dX10_stake_37 : decode cX10_stake 37 = .ok (.invokestatic 160, 3) := by decide +kernel
theorem dX10_stake_40 : decode cX10_stake 40 = .ok (.ifCond .eq 14, 3) := by decide +kernel
theorem dX10_stake_43 : decode cX10_stake 43 = .ok (.iload 5, 2) := by decide +kernel
theorem dX10_stake_45 : decode cX10_stake 45 = .ok (.iconst 0, 1) := by decide +kernel
theorem dX10_stake_46 : decode cX10_stake 46 = .ok (.bipush 99, 2) := by decide +kernel
theorem dX10_stake_48 : decode cX10_stake 48 = .ok (.invokestatic 160, 3) := by decide +kernel
theorem dX10_stake_51 : decode cX10_stake 51 = .ok (.ifCond .ne 10, 3) := by decide +kernel
theorem dX10_stake_54 : decode cX10_stake 54 = .ok (.aload_n 0, 1) := by decide +kernel
theorem dX10_stake_55 : decode cX10_stake 55 = .ok (.bipush (-2), 2) := by decide +kernel
theorem dX10_stake_57 : decode cX10_stake 57 = .ok (.invokevirtual 103, 3) := by decide +kernel
theorem dX10_stake_60 : decode cX10_stake 60 = .ok (.ireturn, 1) := by decide +kernel
theorem dX10_stake_61 : decode cX10_stake 61 = .ok (.aload_n 0, 1) := by decide +kernel
theorem dX10_stake_62 : decode cX10_stake 62 = .ok (.getfield 81, 3) := by decide +kernel
theorem dX10_stake_65 : decode cX10_stake 65 = .ok (.getfield 204, 3) := by decide +kernel
theorem dX10_stake_68 : decode cX10_stake 68 = .ok (.iconst 0, 1) := by decide +kernel
theorem dX10_stake_69 : decode cX10_stake 69 = .ok (.iload_n 1, 1) := by decide +kernel
theorem dX10_stake_70 : decode cX10_stake 70 = .ok (.iastore, 1) := by decide +kernel
theorem dX10_stake_71 : decode cX10_stake 71 = .ok (.aload_n 0, 1) := by decide +kernel
theorem dX10_stake_72 : decode cX10_stake 72 = .ok (.getfield 81, 3) := by decide +kernel
theorem dX10_stake_75 : decode cX10_stake 75 = .ok (.getfield 204, 3) := by decide +kernel
theorem dX10_stake_78 : decode cX10_stake 78 = .ok (.iconst 1, 1) := by decide +kernel
theorem dX10_stake_79 : decode cX10_stake 79 = .ok (.iload_n 2, 1) := by decide +kernel
theorem dX10_stake_80 : decode cX10_stake 80 = .ok (.iastore, 1) := by decide +kernel
theorem dX10_stake_81 : decode cX10_stake 81 = .ok (.aload_n 0, 1) := by decide +kernel
theorem dX10_stake_82 : decode cX10_stake 82 = .ok (.getfield 81, 3) := by decide +kernel
theorem dX10_stake_85 : decode cX10_stake 85 = .ok (.getfield 204, 3) := by decide +kernel
theorem dX10_stake_88 : decode cX10_stake 88 = .ok (.iconst 2, 1) := by decide +kernel
theorem dX10_stake_89 : decode cX10_stake 89 = .ok (.iload_n 3, 1) := by decide +kernel
theorem dX10_stake_90 : decode cX10_stake 90 = .ok (.iastore, 1) := by decide +kernel
theorem dX10_stake_91 : decode cX10_stake 91 = .ok (.aload_n 0, 1) := by decide +kernel
theorem dX10_stake_92 : decode cX10_stake 92 = .ok (.getfield 81, 3) := by decide +kernel
theorem dX10_stake_95 : decode cX10_stake 95 = .ok (.getfield 204, 3) := by decide +kernel
theorem dX10_stake_98 : decode cX10_stake 98 = .ok (.iconst 3, 1) := by decide +kernel
theorem dX10_stake_99 : decode cX10_stake 99 = .ok (.iload 4, 2) := by decide +kernel
theorem dX10_stake_101 : decode cX10_stake 101 = .ok (.iastore, 1) := by decide +kernel
theorem dX10_stake_102 : decode cX10_stake 102 = .ok (.aload_n 0, 1) := by decide +kernel
theorem dX10_stake_103 : decode cX10_stake 103 = .ok (.getfield 81, 3) := by decide +kernel
theorem dX10_stake_106 : decode cX10_stake 106 = .ok (.getfield 204, 3) := by decide +kernel
theorem dX10_stake_109 : decode cX10_stake 109 = .ok (.iconst 4, 1) := by decide +kernel
theorem dX10_stake_110 : decode cX10_stake 110 = .ok (.iload 5, 2) := by decide +kernel
theorem dX10_stake_112 : decode cX10_stake 112 = .ok (.iastore, 1) := by decide +kernel
theorem dX10_stake_113 : decode cX10_stake 113 = .ok (.iconst 1, 1) := by decide +kernel
theorem dX10_stake_114 : decode cX10_stake 114 = .ok (.ireturn, 1) := by decide +kernel
theorem dX10_silence_0 : decode cX10_silence 0 = .ok (.iload_n 1, 1) := by decide +kernel
theorem dX10_silence_1 : decode cX10_silence 1 = .ok (.iconst 0, 1) := by decide +kernel
theorem dX10_silence_2 : decode cX10_silence 2 = .ok (.bipush 40, 2) := by decide +kernel
theorem dX10_silence_4 : decode cX10_silence 4 = .ok (.invokestatic 160, 3) := by decide +kernel
theorem dX10_silence_7 : decode cX10_silence 7 = .ok (.ifCond .eq 22, 3) := by decide +kernel
theorem dX10_silence_10 : decode cX10_silence 10 = .ok (.iload_n 2, 1) := by decide +kernel
theorem dX10_silence_11 : decode cX10_silence 11 = .ok (.iconst 1, 1) := by decide +kernel
theorem dX10_silence_12 : decode cX10_silence 12 = .ok (.bipush 20, 2) := by decide +kernel
theorem dX10_silence_14 : decode cX10_silence 14 = .ok (.invokestatic 160, 3) := by decide +kernel
theorem dX10_silence_17 : decode cX10_silence 17 = .ok (.ifCond .eq 12, 3) := by decide +kernel
theorem dX10_silence_20 : decode cX10_silence 20 = .ok (.iload_n 3, 1) := by decide +kernel
theorem dX10_silence_21 : decode cX10_silence 21 = .ok (.iconst 0, 1) := by decide +kernel
theorem dX10_silence_22 : decode cX10_silence 22 = .ok (.iconst 3, 1) := by decide +kernel
theorem dX10_silence_23 : decode cX10_silence 23 = .ok (.invokestatic 160, 3) := by decide +kernel
theorem dX10_silence_26 : decode cX10_silence 26 = .ok (.ifCond .ne 8, 3) := by decide +kernel
theorem dX10_silence_29 : decode cX10_silence 29 = .ok (.aload_n 0, 1) := by decide +kernel
theorem dX10_silence_30 : decode cX10_silence 30 = .ok (.invokevirtual 186, 3) := by decide +kernel
theorem dX10_silence_33 : decode cX10_silence 33 = .ok (.ireturn, 1) := by decide +kernel
theorem dX10_silence_34 : decode cX10_silence 34 = .ok (.aload_n 0, 1) := by decide +kernel
theorem dX10_silence_35 : decode cX10_silence 35 = .ok (.getfield 10, 3) := by decide +kernel
theorem dX10_silence_38 : decode cX10_silence 38 = .ok (.aload_n 0, 1) := by decide +kernel
theorem dX10_silence_39 : decode cX10_silence 39 = .ok (.getfield 81, 3) := by decide +kernel
theorem dX10_silence_42 : decode cX10_silence 42 = .ok (.getfield 204, 3) := by decide +kernel
theorem dX10_silence_45 : decode cX10_silence 45 = .ok (.iload_n 1, 1) := by decide +kernel
theorem dX10_silence_46 : decode cX10_silence 46 = .ok (.iload_n 2, 1) := by decide +kernel
theorem dX10_silence_47 : decode cX10_silence 47 = .ok (.invokevirtual 207, 3) := by decide +kernel
theorem dX10_silence_50 : decode cX10_silence 50 = .ok (.aload_n 0, 1) := by decide +kernel
theorem dX10_silence_51 : decode cX10_silence 51 = .ok (.getfield 10, 3) := by decide +kernel
theorem dX10_silence_54 : decode cX10_silence 54 = .ok (.iload_n 3, 1) := by decide +kernel
theorem dX10_silence_55 : decode cX10_silence 55 = .ok (.invokevirtual 211, 3) := by decide +kernel
theorem dX10_silence_58 : decode cX10_silence 58 = .ok (.ireturn, 1) := by decide +kernel
theorem dX10_night_0 : decode cX10_night 0 = .ok (.iload_n 1, 1) := by decide +kernel
theorem dX10_night_1 : decode cX10_night 1 = .ok (.iconst 0, 1) := by decide +kernel
theorem dX10_night_2 : decode cX10_night 2 = .ok (.bipush 60, 2) := by decide +kernel
theorem dX10_night_4 : decode cX10_night 4 = .ok (.invokestatic 160, 3) := by decide +kernel
theorem dX10_night_7 : decode cX10_night 7 = .ok (.ifCond .eq 23, 3) := by decide +kernel
theorem dX10_night_10 : decode cX10_night 10 = .ok (.iload_n 2, 1) := by decide +kernel
theorem dX10_night_11 : decode cX10_night 11 = .ok (.iconst 0, 1) := by decide +kernel
theorem dX10_night_12 : decode cX10_night 12 = .ok (.bipush 10, 2) := by decide +kernel
theorem dX10_night_14 : decode cX10_night 14 = .ok (.invokestatic 160, 3) := by decide +kernel
theorem dX10_night_17 : decode cX10_night 17 = .ok (.ifCond .eq 13, 3) := by decide +kernel
theorem dX10_night_20 : decode cX10_night 20 = .ok (.iload_n 3, 1) := by decide +kernel
theorem dX10_night_21 : decode cX10_night 21 = .ok (.iconst 0, 1) := by decide +kernel
theorem dX10_night_22 : decode cX10_night 22 = .ok (.bipush 60, 2) := by decide +kernel
theorem dX10_night_24 : decode cX10_night 24 = .ok (.invokestatic 160, 3) := by decide +kernel
theorem dX10_night_27 : decode cX10_night 27 = .ok (.ifCond .ne 10, 3) := by decide +kernel
theorem dX10_night_30 : decode cX10_night 30 = .ok (.aload_n 0, 1) := by decide +kernel
theorem dX10_night_31 : decode cX10_night 31 = .ok (.bipush (-2), 2) := by decide +kernel
theorem dX10_night_33 : decode cX10_night 33 = .ok (.invokevirtual 103, 3) := by decide +kernel
theorem dX10_night_36 : decode cX10_night 36 = .ok (.ireturn, 1) := by decide +kernel
theorem dX10_night_37 : decode cX10_night 37 = .ok (.aload_n 0, 1) := by decide +kernel
theorem dX10_night_38 : decode cX10_night 38 = .ok (.getfield 19, 3) := by decide +kernel
theorem dX10_night_41 : decode cX10_night 41 = .ok (.iload_n 1, 1) := by decide +kernel
theorem dX10_night_42 : decode cX10_night 42 = .ok (.iload_n 2, 1) := by decide +kernel
theorem dX10_night_43 : decode cX10_night 43 = .ok (.iload_n 3, 1) := by decide +kernel
theorem dX10_night_44 : decode cX10_night 44 = .ok (.invokevirtual 214, 3) := by decide +kernel
theorem dX10_night_47 : decode cX10_night 47 = .ok (.iconst 1, 1) := by decide +kernel
theorem dX10_night_48 : decode cX10_night 48 = .ok (.ireturn, 1) := by decide +kernel
theorem dX10_who_0 : decode cX10_who 0 = .ok (.iload_n 1, 1) := by decide +kernel
theorem dX10_who_1 : decode cX10_who 1 = .ok (.iconst 0, 1) := by decide +kernel
theorem dX10_who_2 : decode cX10_who 2 = .ok (.iconst 2, 1) := by decide +kernel
theorem dX10_who_3 : decode cX10_who 3 = .ok (.invokestatic 160, 3) := by decide +kernel
theorem dX10_who_6 : decode cX10_who 6 = .ok (.ifCond .ne 10, 3) := by decide +kernel
theorem dX10_who_9 : decode cX10_who 9 = .ok (.aload_n 0, 1) := by decide +kernel
theorem dX10_who_10 : decode cX10_who 10 = .ok (.bipush (-2), 2) := by decide +kernel
theorem dX10_who_12 : decode cX10_who 12 = .ok (.invokevirtual 103, 3) := by decide +kernel
theorem dX10_who_15 : decode cX10_who 15 = .ok (.ireturn, 1) := by decide +kernel
theorem dX10_who_16 : decode cX10_who 16 = .ok (.aload_n 0, 1) := by decide +kernel
theorem dX10_who_17 : decode cX10_who 17 = .ok (.invokevirtual 164, 3) := by decide +kernel
theorem dX10_who_20 : decode cX10_who 20 = .ok (.aload_n 0, 1) := by decide +kernel
theorem dX10_who_21 : decode cX10_who 21 = .ok (.getfield 77, 3) := by decide +kernel
theorem dX10_who_24 : decode cX10_who 24 = .ok (.invokevirtual 218, 3) := by decide +kernel
theorem dX10_who_27 : decode cX10_who 27 = .ok (.aload_n 0, 1) := by decide +kernel
theorem dX10_who_28 : decode cX10_who 28 = .ok (.getfield 77, 3) := by decide +kernel
theorem dX10_who_31 : decode cX10_who 31 = .ok (.iload_n 1, 1) := by decide +kernel
theorem dX10_who_32 : decode cX10_who 32 = .ok (.invokevirtual 219, 3) := by decide +kernel
theorem dX10_who_35 : decode cX10_who 35 = .ok (.ireturn, 1) := by decide +kernel
theorem dX10_sign_0 : decode cX10_sign 0 = .ok (.iload_n 1, 1) := by decide +kernel
theorem dX10_sign_1 : decode cX10_sign 1 = .ok (.iconst 0, 1) := by decide +kernel
theorem dX10_sign_2 : decode cX10_sign 2 = .ok (.iconst 2, 1) := by decide +kernel
theorem dX10_sign_3 : decode cX10_sign 3 = .ok (.invokestatic 160, 3) := by decide +kernel
theorem dX10_sign_6 : decode cX10_sign 6 = .ok (.ifCond .ne 10, 3) := by decide +kernel
theorem dX10_sign_9 : decode cX10_sign 9 = .ok (.aload_n 0, 1) := by decide +kernel
theorem dX10_sign_10 : decode cX10_sign 10 = .ok (.bipush (-2), 2) := by decide +kernel
theorem dX10_sign_12 : decode cX10_sign 12 = .ok (.invokevirtual 103, 3) := by decide +kernel
theorem dX10_sign_15 : decode cX10_sign 15 = .ok (.ireturn, 1) := by decide +kernel
theorem dX10_sign_16 : decode cX10_sign 16 = .ok (.aload_n 0, 1) := by decide +kernel
theorem dX10_sign_17 : decode cX10_sign 17 = .ok (.getfield 19, 3) := by decide +kernel
theorem dX10_sign_20 : decode cX10_sign 20 = .ok (.iload_n 1, 1) := by decide +kernel
theorem dX10_sign_21 : decode cX10_sign 21 = .ok (.invokevirtual 222, 3) := by decide +kernel
theorem dX10_sign_24 : decode cX10_sign 24 = .ok (.ireturn, 1) := by decide +kernel
theorem dX10_limb_0 : decode cX10_limb 0 = .ok (.iload_n 1, 1) := by decide +kernel
theorem dX10_limb_1 : decode cX10_limb 1 = .ok (.iconst 0, 1) := by decide +kernel
theorem dX10_limb_2 : decode cX10_limb 2 = .ok (.iconst 1, 1) := by decide +kernel
theorem dX10_limb_3 : decode cX10_limb 3 = .ok (.invokestatic 160, 3) := by decide +kernel
theorem dX10_limb_6 : decode cX10_limb 6 = .ok (.ifCond .eq 7, 3) := by decide +kernel
theorem dX10_limb_9 : decode cX10_limb 9 = .ok (.iload_n 2, 1) := by decide +kernel
theorem dX10_limb_10 : decode cX10_limb 10 = .ok (.ifCond .ge 10, 3) := by decide +kernel
theorem dX10_limb_13 : decode cX10_limb 13 = .ok (.aload_n 0, 1) := by decide +kernel
theorem dX10_limb_14 : decode cX10_limb 14 = .ok (.bipush (-2), 2) := by decide +kernel
theorem dX10_limb_16 : decode cX10_limb 16 = .ok (.invokevirtual 103, 3) := by decide +kernel
theorem dX10_limb_19 : decode cX10_limb 19 = .ok (.ireturn, 1) := by decide +kernel
theorem dX10_limb_20 : decode cX10_limb 20 = .ok (.aload_n 0, 1) := by decide +kernel
theorem dX10_limb_21 : decode cX10_limb 21 = .ok (.getfield 19, 3) := by decide +kernel
theorem dX10_limb_24 : decode cX10_limb 24 = .ok (.iload_n 1, 1) := by decide +kernel
theorem dX10_limb_25 : decode cX10_limb 25 = .ok (.iload_n 2, 1) := by decide +kernel
theorem dX10_limb_26 : decode cX10_limb 26 = .ok (.invokevirtual 225, 3) := by decide +kernel
theorem dX10_limb_29 : decode cX10_limb 29 = .ok (.ireturn, 1) := by decide +kernel
theorem dX10_image_0 : decode cX10_image 0 = .ok (.iload_n 1, 1) := by decide +kernel
theorem dX10_image_1 : decode cX10_image 1 = .ok (.iconst 0, 1) := by decide +kernel
theorem dX10_image_2 : decode cX10_image 2 = .ok (.iconst 1, 1) := by decide +kernel
theorem dX10_image_3 : decode cX10_image 3 = .ok (.invokestatic 160, 3) := by decide +kernel
theorem dX10_image_6 : decode cX10_image 6 = .ok (.ifCond .ne 10, 3) := by decide +kernel
theorem dX10_image_9 : decode cX10_image 9 = .ok (.aload_n 0, 1) := by decide +kernel
theorem dX10_image_10 : decode cX10_image 10 = .ok (.bipush (-2), 2) := by decide +kernel
theorem dX10_image_12 : decode cX10_image 12 = .ok (.invokevirtual 103, 3) := by decide +kernel
theorem dX10_image_15 : decode cX10_image 15 = .ok (.ireturn, 1) := by decide +kernel
theorem dX10_image_16 : decode cX10_image 16 = .ok (.aload_n 0, 1) := by decide +kernel
theorem dX10_image_17 : decode cX10_image 17 = .ok (.iload_n 1, 1) := by decide +kernel
theorem dX10_image_18 : decode cX10_image 18 = .ok (.invokevirtual 228, 3) := by decide +kernel
theorem dX10_image_21 : decode cX10_image 21 = .ok (.aload_n 0, 1) := by decide +kernel
theorem dX10_image_22 : decode cX10_image 22 = .ok (.getfield 81, 3) := by decide +kernel
theorem dX10_image_25 : decode cX10_image 25 = .ok (.invokevirtual 135, 3) := by decide +kernel
theorem dX10_image_28 : decode cX10_image 28 = .ok (.aload_n 0, 1) := by decide +kernel
theorem dX10_image_29 : decode cX10_image 29 = .ok (.getfield 33, 3) := by decide +kernel
theorem dX10_image_32 : decode cX10_image 32 = .ok (.iload_n 1, 1) := by decide +kernel
theorem dX10_image_33 : decode cX10_image 33 = .ok (.iconst 1, 1) := by decide +kernel
theorem dX10_image_34 : decode cX10_image 34 = .ok (.bastore, 1) := by decide +kernel
theorem dX10_image_35 : decode cX10_image 35 = .ok (.iconst 1, 1) := by decide +kernel
theorem dX10_image_36 : decode cX10_image 36 = .ok (.ireturn, 1) := by decide +kernel
theorem dX10_from_0 : decode cX10_from 0 = .ok (.iload_n 1, 1) := by decide +kernel
theorem dX10_from_1 : decode cX10_from 1 = .ok (.iconst 0, 1) := by decide +kernel
theorem dX10_from_2 : decode cX10_from 2 = .ok (.iconst 1, 1) := by decide +kernel
theorem dX10_from_3 : decode cX10_from 3 = .ok (.invokestatic 160, 3) := by decide +kernel
theorem dX10_from_6 : decode cX10_from 6 = .ok (.ifCond .ne 10, 3) := by decide +kernel
theorem dX10_from_9 : decode cX10_from 9 = .ok (.aload_n 0, 1) := by decide +kernel
theorem dX10_from_10 : decode cX10_from 10 = .ok (.bipush (-2), 2) := by decide +kernel
theorem dX10_from_12 : decode cX10_from 12 = .ok (.invokevirtual 103, 3) := by decide +kernel
theorem dX10_from_15 : decode cX10_from 15 = .ok (.ireturn, 1) := by decide +kernel
theorem dX10_from_16 : decode cX10_from 16 = .ok (.aload_n 0, 1) := by decide +kernel
theorem dX10_from_17 : decode cX10_from 17 = .ok (.getfield 33, 3) := by decide +kernel
theorem dX10_from_20 : decode cX10_from 20 = .ok (.iload_n 1, 1) := by decide +kernel
theorem dX10_from_21 : decode cX10_from 21 = .ok (.baload, 1) := by decide +kernel
theorem dX10_from_22 : decode cX10_from 22 = .ok (.ifCond .ne 10, 3) := by decide +kernel
theorem dX10_from_25 : decode cX10_from 25 = .ok (.aload_n 0, 1) := by decide +kernel
theorem dX10_from_26 : decode cX10_from 26 = .ok (.bipush (-3), 2) := by decide +kernel
theorem dX10_from_28 : decode cX10_from 28 = .ok (.invokevirtual 103, 3) := by decide +kernel
theorem dX10_from_31 : decode cX10_from 31 = .ok (.ireturn, 1) := by decide +kernel
theorem dX10_from_32 : decode cX10_from 32 = .ok (.aload_n 0, 1) := by decide +kernel
theorem dX10_from_33 : decode cX10_from 33 = .ok (.getfield 81, 3) := by decide +kernel
theorem dX10_from_36 : decode cX10_from 36 = .ok (.aload_n 0, 1) := by decide +kernel
theorem dX10_from_37 : decode cX10_from 37 = .ok (.iload_n 1, 1) := by decide +kernel
theorem dX10_from_38 : decode cX10_from 38 = .ok (.invokevirtual 228, 3) := by decide +kernel
theorem dX10_from_41 : decode cX10_from 41 = .ok (.invokevirtual 135, 3) := by decide +kernel
theorem dX10_from_44 : decode cX10_from 44 = .ok (.aload_n 0, 1) := by decide +kernel
theorem dX10_from_45 : decode cX10_from 45 = .ok (.invokevirtual 110, 3) := by decide +kernel
theorem dX10_from_48 : decode cX10_from 48 = .ok (.iconst 1, 1) := by decide +kernel
theorem dX10_from_49 : decode cX10_from 49 = .ok (.ireturn, 1) := by decide +kernel
theorem dX10_status_0 : decode cX10_status 0 = .ok (.iload_n 1, 1) := by decide +kernel
theorem dX10_status_1 : decode cX10_status 1 = .ok (.iconst 0, 1) := by decide +kernel
theorem dX10_status_2 : decode cX10_status 2 = .ok (.iconst 2, 1) := by decide +kernel
theorem dX10_status_3 : decode cX10_status 3 = .ok (.invokestatic 160, 3) := by decide +kernel
theorem dX10_status_6 : decode cX10_status 6 = .ok (.ifCond .ne 12, 3) := by decide +kernel
theorem dX10_status_9 : decode cX10_status 9 = .ok (.aload_n 0, 1) := by decide +kernel
theorem dX10_status_10 : decode cX10_status 10 = .ok (.bipush (-2), 2) := by decide +kernel
theorem dX10_status_12 : decode cX10_status 12 = .ok (.invokevirtual 103, 3) := by decide +kernel
theorem dX10_status_15 : decode cX10_status 15 = .ok (.pop, 1) := by decide +kernel
theorem dX10_status_16 : decode cX10_status 16 = .ok (.iconst (-1), 1) := by decide +kernel
theorem dX10_status_17 : decode cX10_status 17 = .ok (.ireturn, 1) := by decide +kernel
theorem dX10_status_18 : decode cX10_status 18 = .ok (.aload_n 0, 1) := by decide +kernel
theorem dX10_status_19 : decode cX10_status 19 = .ok (.getfield 37, 3) := by decide +kernel
theorem dX10_status_22 : decode cX10_status 22 = .ok (.iload_n 1, 1) := by decide +kernel
theorem dX10_status_23 : decode cX10_status 23 = .ok (.iaload, 1) := by decide +kernel
theorem dX10_status_24 : decode cX10_status 24 = .ok (.ireturn, 1) := by decide +kernel
theorem dX10_count_0 : decode cX10_count 0 = .ok (.iload_n 1, 1) := by decide +kernel
theorem dX10_count_1 : decode cX10_count 1 = .ok (.iconst 0, 1) := by decide +kernel
theorem dX10_count_2 : decode cX10_count 2 = .ok (.iconst 5, 1) := by decide +kernel
theorem dX10_count_3 : decode cX10_count 3 = .ok (.invokestatic 160, 3) := by decide +kernel
theorem dX10_count_6 : decode cX10_count 6 = .ok (.ifCond .ne 10, 3) := by decide +kernel
theorem dX10_count_9 : decode cX10_count 9 = .ok (.aload_n 0, 1) := by decide +kernel
theorem dX10_count_10 : decode cX10_count 10 = .ok (.bipush (-2), 2) := by decide +kernel
theorem dX10_count_12 : decode cX10_count 12 = .ok (.invokevirtual 103, 3) := by decide +kernel
theorem dX10_count_15 : decode cX10_count 15 = .ok (.ireturn, 1) := by decide +kernel
theorem dX10_count_16 : decode cX10_count 16 = .ok (.aload_n 0, 1) := by decide +kernel
theorem dX10_count_17 : decode cX10_count 17 = .ok (.iload_n 1, 1) := by decide +kernel
theorem dX10_count_18 : decode cX10_count 18 = .ok (.invokevirtual 232, 3) := by decide +kernel
theorem dX10_count_21 : decode cX10_count 21 = .ok (.ireturn, 1) := by decide +kernel
theorem dX10_digest_0 : decode cX10_digest 0 = .ok (.ldc2_w 235, 3) := by decide +kernel
theorem dX10_digest_3 : decode cX10_digest 3 = .ok (.lstore_n 1, 1) := by decide +kernel
theorem dX10_digest_4 : decode cX10_digest 4 = .ok (.iconst 0, 1) := by decide +kernel
theorem dX10_digest_5 : decode cX10_digest 5 = .ok (.istore_n 3, 1) := by decide +kernel
theorem dX10_digest_6 : decode cX10_digest 6 = .ok (.iload_n 3, 1) := by decide +kernel
theorem dX10_digest_7 : decode cX10_digest 7 = .ok (.iconst 5, 1) := by decide +kernel
theorem dX10_digest_8 : decode cX10_digest 8 = .ok (.if_icmp .gt 22, 3) := by decide +kernel
theorem dX10_digest_11 : decode cX10_digest 11 = .ok (.ldc2_w 237, 3) := by decide +kernel
theorem dX10_digest_14 : decode cX10_digest 14 = .ok (.lload_n 1, 1) := by decide +kernel
theorem dX10_digest_15 : decode cX10_digest 15 = .ok (.lmul, 1) := by decide +kernel
theorem dX10_digest_16 : decode cX10_digest 16 = .ok (.aload_n 0, 1) := by decide +kernel
theorem dX10_digest_17 : decode cX10_digest 17 = .ok (.iload_n 3, 1) := by decide +kernel
theorem dX10_digest_18 : decode cX10_digest 18 = .ok (.invokevirtual 232, 3) := by decide +kernel
theorem dX10_digest_21 : decode cX10_digest 21 = .ok (.i2l, 1) := by decide +kernel
theorem dX10_digest_22 : decode cX10_digest 22 = .ok (.ladd, 1) := by decide +kernel
theorem dX10_digest_23 : decode cX10_digest 23 = .ok (.lstore_n 1, 1) := by decide +kernel
theorem dX10_digest_24 : decode cX10_digest 24 = .ok (.iinc 3 1, 3) := by decide +kernel
theorem dX10_digest_27 : decode cX10_digest 27 = .ok (.goto (-21), 3) := by decide +kernel
theorem dX10_digest_30 : decode cX10_digest 30 = .ok (.aload_n 0, 1) := by decide +kernel
theorem dX10_digest_31 : decode cX10_digest 31 = .ok (.getfield 19, 3) := by decide +kernel
theorem dX10_digest_34 : decode cX10_digest 34 = .ok (.aload_n 0, 1) := by decide +kernel
theorem dX10_digest_35 : decode cX10_digest 35 = .ok (.getfield 81, 3) := by decide +kernel
theorem dX10_digest_38 : decode cX10_digest 38 = .ok (.lload_n 1, 1) := by decide +kernel
theorem dX10_digest_39 : decode cX10_digest 39 = .ok (.invokevirtual 239, 3) := by decide +kernel
theorem dX10_digest_42 : decode cX10_digest 42 = .ok (.invokevirtual 243, 3) := by decide +kernel
theorem dX10_digest_45 : decode cX10_digest 45 = .ok (.lreturn, 1) := by decide +kernel
theorem dX10_isIn_0 : decode cX10_isIn 0 = .ok (.iload_n 0, 1) := by decide +kernel
theorem dX10_isIn_1 : decode cX10_isIn 1 = .ok (.iload_n 1, 1) := by decide +kernel
theorem dX10_isIn_2 : decode cX10_isIn 2 = .ok (.if_icmp .lt 12, 3) := by decide +kernel
theorem dX10_isIn_5 : decode cX10_isIn 5 = .ok (.iload_n 0, 1) := by decide +kernel
theorem dX10_isIn_6 : decode cX10_isIn 6 = .ok (.iload_n 2, 1) := by decide +kernel
theorem dX10_isIn_7 : decode cX10_isIn 7 = .ok (.if_icmp .gt 7, 3) := by decide +kernel
theorem dX10_isIn_10 : decode cX10_isIn 10 = .ok (.iconst 1, 1) := by decide +kernel
theorem dX10_isIn_11 : decode cX10_isIn 11 = .ok (.goto 4, 3) := by decide +kernel
theorem dX10_isIn_14 : decode cX10_isIn 14 = .ok (.iconst 0, 1) := by decide +kernel
theorem dX10_isIn_15 : decode cX10_isIn 15 = .ok (.ireturn, 1) := by decide +kernel
theorem dX10_isValley_0 : decode cX10_isValley 0 = .ok (.iload_n 0, 1) := by decide +kernel
theorem dX10_isValley_1 : decode cX10_isValley 1 = .ok (.iconst 0, 1) := by decide +kernel
theorem dX10_isValley_2 : decode cX10_isValley 2 = .ok (.iconst 1, 1) := by decide +kernel
theorem dX10_isValley_3 : decode cX10_isValley 3 = .ok (.invokestatic 160, 3) := by decide +kernel
theorem dX10_isValley_6 : decode cX10_isValley 6 = .ok (.ireturn, 1) := by decide +kernel
theorem dX10_isPrice_0 : decode cX10_isPrice 0 = .ok (.iload_n 0, 1) := by decide +kernel
theorem dX10_isPrice_1 : decode cX10_isPrice 1 = .ok (.iconst 0, 1) := by decide +kernel
theorem dX10_isPrice_2 : decode cX10_isPrice 2 = .ok (.bipush 9, 2) := by decide +kernel
theorem dX10_isPrice_4 : decode cX10_isPrice 4 = .ok (.invokestatic 160, 3) := by decide +kernel
theorem dX10_isPrice_7 : decode cX10_isPrice 7 = .ok (.ireturn, 1) := by decide +kernel
theorem dX10_refuse_0 : decode cX10_refuse 0 = .ok (.bipush (-2), 2) := by decide +kernel
theorem dX10_refuse_2 : decode cX10_refuse 2 = .ok (.iload_n 1, 1) := by decide +kernel
theorem dX10_refuse_3 : decode cX10_refuse 3 = .ok (.isub, 1) := by decide +kernel
theorem dX10_refuse_4 : decode cX10_refuse 4 = .ok (.istore_n 2, 1) := by decide +kernel
theorem dX10_refuse_5 : decode cX10_refuse 5 = .ok (.iload_n 2, 1) := by decide +kernel
theorem dX10_refuse_6 : decode cX10_refuse 6 = .ok (.iconst 0, 1) := by decide +kernel
theorem dX10_refuse_7 : decode cX10_refuse 7 = .ok (.iconst 2, 1) := by decide +kernel
theorem dX10_refuse_8 : decode cX10_refuse 8 = .ok (.invokestatic 160, 3) := by decide +kernel
theorem dX10_refuse_11 : decode cX10_refuse 11 = .ok (.ifCond .eq 13, 3) := by decide +kernel
theorem dX10_refuse_14 : decode cX10_refuse 14 = .ok (.aload_n 0, 1) := by decide +kernel
theorem dX10_refuse_15 : decode cX10_refuse 15 = .ok (.getfield 37, 3) := by decide +kernel
theorem dX10_refuse_18 : decode cX10_refuse 18 = .ok (.iload_n 2, 1) := by decide +kernel
theorem dX10_refuse_19 : decode cX10_refuse 19 = .ok (.dup2, 1) := by decide +kernel
theorem dX10_refuse_20 : decode cX10_refuse 20 = .ok (.iaload, 1) := by decide +kernel
theorem dX10_refuse_21 : decode cX10_refuse 21 = .ok (.iconst 1, 1) := by decide +kernel
theorem dX10_refuse_22 : decode cX10_refuse 22 = .ok (.iadd, 1) := by decide +kernel
theorem dX10_refuse_23 : decode cX10_refuse 23 = .ok (.iastore, 1) := by decide +kernel
theorem dX10_refuse_24 : decode cX10_refuse 24 = .ok (.iload_n 1, 1) := by decide +kernel
theorem dX10_refuse_25 : decode cX10_refuse 25 = .ok (.ireturn, 1) := by decide +kernel
theorem dX10_refuseWorth_0 : decode cX10_refuseWorth 0 = .ok (.aload_n 0, 1) := by decide +kernel
theorem dX10_refuseWorth_1 : decode cX10_refuseWorth 1 = .ok (.bipush (-2), 2) := by decide +kernel
theorem dX10_refuseWorth_3 : decode cX10_refuseWorth 3 = .ok (.invokevirtual 103, 3) := by decide +kernel
theorem dX10_refuseWorth_6 : decode cX10_refuseWorth 6 = .ok (.pop, 1) := by decide +kernel
theorem dX10_refuseWorth_7 : decode cX10_refuseWorth 7 = .ok (.sipush (-10000), 3) := by decide +kernel
theorem dX10_refuseWorth_10 : decode cX10_refuseWorth 10 = .ok (.ireturn, 1) := by decide +kernel
theorem dX10_changed_0 : decode cX10_changed 0 = .ok (.aload_n 0, 1) := by decide +kernel
theorem dX10_changed_1 : decode cX10_changed 1 = .ok (.getfield 91, 3) := by decide +kernel
theorem dX10_changed_4 : decode cX10_changed 4 = .ok (.invokevirtual 244, 3) := by decide +kernel
theorem dX10_changed_7 : decode cX10_changed 7 = .ok (.aload_n 0, 1) := by decide +kernel
theorem dX10_changed_8 : decode cX10_changed 8 = .ok (.getfield 95, 3) := by decide +kernel
theorem dX10_changed_11 : decode cX10_changed 11 = .ok (.invokevirtual 247, 3) := by decide +kernel
theorem dX10_changed_14 : decode cX10_changed 14 = .ok (.aload_n 0, 1) := by decide +kernel
theorem dX10_changed_15 : decode cX10_changed 15 = .ok (.getfield 68, 3) := by decide +kernel
theorem dX10_changed_18 : decode cX10_changed 18 = .ok (.invokevirtual 248, 3) := by decide +kernel
theorem dX10_changed_21 : decode cX10_changed 21 = .ok (.aload_n 0, 1) := by decide +kernel
theorem dX10_changed_22 : decode cX10_changed 22 = .ok (.getfield 77, 3) := by decide +kernel
theorem dX10_changed_25 : decode cX10_changed 25 = .ok (.invokevirtual 249, 3) := by decide +kernel
theorem dX10_changed_28 : decode cX10_changed 28 = .ok (.return_, 1) := by decide +kernel
theorem dX10_prepare_0 : decode cX10_prepare 0 = .ok (.aload_n 0, 1) := by decide +kernel
theorem dX10_prepare_1 : decode cX10_prepare 1 = .ok (.getfield 91, 3) := by decide +kernel
theorem dX10_prepare_4 : decode cX10_prepare 4 = .ok (.invokevirtual 150, 3) := by decide +kernel
theorem dX10_prepare_7 : decode cX10_prepare 7 = .ok (.aload_n 0, 1) := by decide +kernel
theorem dX10_prepare_8 : decode cX10_prepare 8 = .ok (.getfield 95, 3) := by decide +kernel
theorem dX10_prepare_11 : decode cX10_prepare 11 = .ok (.invokevirtual 250, 3) := by decide +kernel
theorem dX10_prepare_14 : decode cX10_prepare 14 = .ok (.return_, 1) := by decide +kernel
theorem dX10_enter_0 : decode cX10_enter 0 = .ok (.aload_n 0, 1) := by decide +kernel
theorem dX10_enter_1 : decode cX10_enter 1 = .ok (.getfield 81, 3) := by decide +kernel
theorem dX10_enter_4 : decode cX10_enter 4 = .ok (.iload_n 1, 1) := by decide +kernel
theorem dX10_enter_5 : decode cX10_enter 5 = .ok (.iconst 0, 1) := by decide +kernel
theorem dX10_enter_6 : decode cX10_enter 6 = .ok (.iload_n 2, 1) := by decide +kernel
theorem dX10_enter_7 : decode cX10_enter 7 = .ok (.iconst 0, 1) := by decide +kernel
theorem dX10_enter_8 : decode cX10_enter 8 = .ok (.invokevirtual 99, 3) := by decide +kernel
theorem dX10_enter_11 : decode cX10_enter 11 = .ok (.ifCond .eq 41, 3) := by decide +kernel
theorem dX10_enter_14 : decode cX10_enter 14 = .ok (.aload_n 0, 1) := by decide +kernel
theorem dX10_enter_15 : decode cX10_enter 15 = .ok (.getfield 81, 3) := by decide +kernel
theorem dX10_enter_18 : decode cX10_enter 18 = .ok (.iload_n 1, 1) := by decide +kernel
theorem dX10_enter_19 : decode cX10_enter 19 = .ok (.iconst 1, 1) := by decide +kernel
theorem dX10_enter_20 : decode cX10_enter 20 = .ok (.iload_n 3, 1) := by decide +kernel
theorem dX10_enter_21 : decode cX10_enter 21 = .ok (.iload_n 2, 1) := by decide +kernel
theorem dX10_enter_22 : decode cX10_enter 22 = .ok (.invokevirtual 99, 3) := by decide +kernel
theorem dX10_enter_25 : decode cX10_enter 25 = .ok (.ifCond .eq 27, 3) := by decide +kernel
theorem dX10_enter_28 : decode cX10_enter 28 = .ok (.getstatic 251, 3) := by decide +kernel
theorem dX10_enter_31 : decode cX10_enter 31 = .ok (.iload_n 1, 1) := by decide +kernel
theorem dX10_enter_32 : decode cX10_enter 32 = .ok (.iaload, 1) := by decide +kernel
theorem dX10_enter_33 : decode cX10_enter 33 = .ok (.iconst 3, 1) := by decide +kernel
theorem dX10_enter_34 : decode cX10_enter 34 = .ok (.if_icmp .ne 25, 3) := by decide +kernel
theorem dX10_enter_37 : decode cX10_enter 37 = .ok (.aload_n 0, 1) := by decide +kernel
theorem dX10_enter_38 : decode cX10_enter 38 = .ok (.getfield 81, 3) := by decide +kernel
theorem dX10_enter_41 : decode cX10_enter 41 = .ok (.iload_n 1, 1) := by decide +kernel
theorem dX10_enter_42 : decode cX10_enter 42 = .ok (.iconst 2, 1) := by decide +kernel
theorem dX10_enter_43 : decode cX10_enter 43 = .ok (.iload 4, 2) := by decide +kernel
theorem dX10_enter_45 : decode cX10_enter 45 = .ok (.iload_n 3, 1) := by decide +kernel
theorem dX10_enter_46 : decode cX10_enter 46 = .ok (.invokevirtual 99, 3) := by decide +kernel
theorem dX10_enter_49 : decode cX10_enter 49 = .ok (.ifCond .ne 10, 3) := by decide +kernel
theorem dX10_enter_52 : decode cX10_enter 52 = .ok (.aload_n 0, 1) := by decide +kernel
theorem dX10_enter_53 : decode cX10_enter 53 = .ok (.bipush (-2), 2) := by decide +kernel
theorem dX10_enter_55 : decode cX10_enter 55 = .ok (.invokevirtual 103, 3) := by decide +kernel
theorem dX10_enter_58 : decode cX10_enter 58 = .ok (.ireturn, 1) := by decide +kernel
theorem dX10_enter_59 : decode cX10_enter 59 = .ok (.aload_n 0, 1) := by decide +kernel
theorem dX10_enter_60 : decode cX10_enter 60 = .ok (.getfield 81, 3) := by decide +kernel
theorem dX10_enter_63 : decode cX10_enter 63 = .ok (.iload_n 1, 1) := by decide +kernel
theorem dX10_enter_64 : decode cX10_enter 64 = .ok (.invokevirtual 117, 3) := by decide +kernel
theorem dX10_enter_67 : decode cX10_enter 67 = .ok (.astore 5, 2) := by decide +kernel
theorem dX10_enter_69 : decode cX10_enter 69 = .ok (.aload 5, 2) := by decide +kernel
theorem dX10_enter_71 : decode cX10_enter 71 = .ok (.invokevirtual 146, 3) := by decide +kernel
theorem dX10_enter_74 : decode cX10_enter 74 = .ok (.ifCond .eq 10, 3) := by decide +kernel
theorem dX10_enter_77 : decode cX10_enter 77 = .ok (.aload_n 0, 1) := by decide +kernel
theorem dX10_enter_78 : decode cX10_enter 78 = .ok (.bipush (-4), 2) := by decide +kernel
theorem dX10_enter_80 : decode cX10_enter 80 = .ok (.invokevirtual 103, 3) := by decide +kernel
theorem dX10_enter_83 : decode cX10_enter 83 = .ok (.ireturn, 1) := by decide +kernel
theorem dX10_enter_84 : decode cX10_enter 84 = .ok (.aload_n 0, 1) := by decide +kernel
theorem dX10_enter_85 : decode cX10_enter 85 = .ok (.invokevirtual 110, 3) := by decide +kernel
theorem dX10_enter_88 : decode cX10_enter 88 = .ok (.aload 5, 2) := by decide +kernel
theorem dX10_enter_90 : decode cX10_enter 90 = .ok (.iload_n 2, 1) := by decide +kernel
theorem dX10_enter_91 : decode cX10_enter 91 = .ok (.iload_n 3, 1) := by decide +kernel
theorem dX10_enter_92 : decode cX10_enter 92 = .ok (.iload 4, 2) := by decide +kernel
theorem dX10_enter_94 : decode cX10_enter 94 = .ok (.invokevirtual 131, 3) := by decide +kernel
theorem dX10_enter_97 : decode cX10_enter 97 = .ok (.ireturn, 1) := by decide +kernel
theorem dX10_isPaid_0 : decode cX10_isPaid 0 = .ok (.aload_n 0, 1) := by decide +kernel
theorem dX10_isPaid_1 : decode cX10_isPaid 1 = .ok (.getfield 95, 3) := by decide +kernel
theorem dX10_isPaid_4 : decode cX10_isPaid 4 = .ok (.iconst 0, 1) := by decide +kernel
theorem dX10_isPaid_5 : decode cX10_isPaid 5 = .ok (.aload_n 0, 1) := by decide +kernel
theorem dX10_isPaid_6 : decode cX10_isPaid 6 = .ok (.getfield 81, 3) := by decide +kernel
theorem dX10_isPaid_9 : decode cX10_isPaid 9 = .ok (.getfield 183, 3) := by decide +kernel
theorem dX10_isPaid_12 : decode cX10_isPaid 12 = .ok (.iload_n 1, 1) := by decide +kernel
theorem dX10_isPaid_13 : decode cX10_isPaid 13 = .ok (.iconst 1, 1) := by decide +kernel
theorem dX10_isPaid_14 : decode cX10_isPaid 14 = .ok (.invokevirtual 192, 3) := by decide +kernel
theorem dX10_isPaid_17 : decode cX10_isPaid 17 = .ok (.invokevirtual 167, 3) := by decide +kernel
theorem dX10_isPaid_20 : decode cX10_isPaid 20 = .ok (.aload_n 0, 1) := by decide +kernel
theorem dX10_isPaid_21 : decode cX10_isPaid 21 = .ok (.getfield 81, 3) := by decide +kernel
theorem dX10_isPaid_24 : decode cX10_isPaid 24 = .ok (.getfield 183, 3) := by decide +kernel
theorem dX10_isPaid_27 : decode cX10_isPaid 27 = .ok (.iload_n 1, 1) := by decide +kernel
theorem dX10_isPaid_28 : decode cX10_isPaid 28 = .ok (.iconst 0, 1) := by decide +kernel
theorem dX10_isPaid_29 : decode cX10_isPaid 29 = .ok (.invokevirtual 192, 3) := by decide +kernel
theorem dX10_isPaid_32 : decode cX10_isPaid 32 = .ok (.if_icmp .lt 7, 3) := by decide +kernel
theorem dX10_isPaid_35 : decode cX10_isPaid 35 = .ok (.iconst 1, 1) := by decide +kernel
theorem dX10_isPaid_36 : decode cX10_isPaid 36 = .ok (.goto 4, 3) := by decide +kernel
theorem dX10_isPaid_39 : decode cX10_isPaid 39 = .ok (.iconst 0, 1) := by decide +kernel
theorem dX10_isPaid_40 : decode cX10_isPaid 40 = .ok (.ireturn, 1) := by decide +kernel
theorem dX10_imageOf_0 : decode cX10_imageOf 0 = .ok (.iload_n 1, 1) := by decide +kernel
theorem dX10_imageOf_1 : decode cX10_imageOf 1 = .ok (.ifCond .ne 10, 3) := by decide +kernel
theorem dX10_imageOf_4 : decode cX10_imageOf 4 = .ok (.aload_n 0, 1) := by decide +kernel
theorem dX10_imageOf_5 : decode cX10_imageOf 5 = .ok (.getfield 26, 3) := by decide +kernel
theorem dX10_imageOf_8 : decode cX10_imageOf 8 = .ok (.goto 7, 3) := by decide +kernel
theorem dX10_imageOf_11 : decode cX10_imageOf 11 = .ok (.aload_n 0, 1) := by decide +kernel
theorem dX10_imageOf_12 : decode cX10_imageOf 12 = .ok (.getfield 30, 3) := by decide +kernel
theorem dX10_imageOf_15 : decode cX10_imageOf 15 = .ok (.areturn, 1) := by decide +kernel
theorem dX10_sizeOf_0 : decode cX10_sizeOf 0 = .ok (.iload_n 1, 1) := by decide +kernel
theorem dX10_sizeOf_1 : decode cX10_sizeOf 1 = .ok (.tableswitch 87 0 4 #[35, 46, 57, 68, 79], 35) := by decide +kernel
theorem dX10_sizeOf_36 : decode cX10_sizeOf 36 = .ok (.aload_n 0, 1) := by decide +kernel
theorem dX10_sizeOf_37 : decode cX10_sizeOf 37 = .ok (.getfield 81, 3) := by decide +kernel
theorem dX10_sizeOf_40 : decode cX10_sizeOf 40 = .ok (.getfield 171, 3) := by decide +kernel
theorem dX10_sizeOf_43 : decode cX10_sizeOf 43 = .ok (.invokevirtual 125, 3) := by decide +kernel
theorem dX10_sizeOf_46 : decode cX10_sizeOf 46 = .ok (.ireturn, 1) := by decide +kernel
theorem dX10_sizeOf_47 : decode cX10_sizeOf 47 = .ok (.aload_n 0, 1) := by decide +kernel
theorem dX10_sizeOf_48 : decode cX10_sizeOf 48 = .ok (.getfield 81, 3) := by decide +kernel
theorem dX10_sizeOf_51 : decode cX10_sizeOf 51 = .ok (.getfield 254, 3) := by decide +kernel
theorem dX10_sizeOf_54 : decode cX10_sizeOf 54 = .ok (.invokevirtual 125, 3) := by decide +kernel
theorem dX10_sizeOf_57 : decode cX10_sizeOf 57 = .ok (.ireturn, 1) := by decide +kernel
theorem dX10_sizeOf_58 : decode cX10_sizeOf 58 = .ok (.aload_n 0, 1) := by decide +kernel
theorem dX10_sizeOf_59 : decode cX10_sizeOf 59 = .ok (.getfield 81, 3) := by decide +kernel
theorem dX10_sizeOf_62 : decode cX10_sizeOf 62 = .ok (.getfield 183, 3) := by decide +kernel
theorem dX10_sizeOf_65 : decode cX10_sizeOf 65 = .ok (.invokevirtual 125, 3) := by decide +kernel
theorem dX10_sizeOf_68 : decode cX10_sizeOf 68 = .ok (.ireturn, 1) := by decide +kernel
theorem dX10_sizeOf_69 : decode cX10_sizeOf 69 = .ok (.aload_n 0, 1) := by decide +kernel
theorem dX10_sizeOf_70 : decode cX10_sizeOf 70 = .ok (.getfield 81, 3) := by decide +kernel
theorem dX10_sizeOf_73 : decode cX10_sizeOf 73 = .ok (.getfield 257, 3) := by decide +kernel
theorem dX10_sizeOf_76 : decode cX10_sizeOf 76 = .ok (.invokevirtual 125, 3) := by decide +kernel
theorem dX10_sizeOf_79 : decode cX10_sizeOf 79 = .ok (.ireturn, 1) := by decide +kernel
theorem dX10_sizeOf_80 : decode cX10_sizeOf 80 = .ok (.aload_n 0, 1) := by decide +kernel
theorem dX10_sizeOf_81 : decode cX10_sizeOf 81 = .ok (.getfield 87, 3) := by decide +kernel
theorem dX10_sizeOf_84 : decode cX10_sizeOf 84 = .ok (.invokevirtual 125, 3) := by decide +kernel
theorem dX10_sizeOf_87 : decode cX10_sizeOf 87 = .ok (.ireturn, 1) := by decide +kernel
theorem dX10_sizeOf_88 : decode cX10_sizeOf 88 = .ok (.aload_n 0, 1) := by decide +kernel
theorem dX10_sizeOf_89 : decode cX10_sizeOf 89 = .ok (.getfield 81, 3) := by decide +kernel
theorem dX10_sizeOf_92 : decode cX10_sizeOf 92 = .ok (.getfield 144, 3) := by decide +kernel
theorem dX10_sizeOf_95 : decode cX10_sizeOf 95 = .ok (.invokevirtual 125, 3) := by decide +kernel
theorem dX10_sizeOf_98 : decode cX10_sizeOf 98 = .ok (.ireturn, 1) := by decide +kernel
theorem dX11_init_0 : decode cX11_init 0 = .ok (.aload_n 0, 1) := by decide +kernel
theorem dX11_init_1 : decode cX11_init 1 = .ok (.invokespecial 1, 3) := by decide +kernel
theorem dX11_init_4 : decode cX11_init 4 = .ok (.aload_n 0, 1) := by decide +kernel
theorem dX11_init_5 : decode cX11_init 5 = .ok (.sipush 155, 3) := by decide +kernel
theorem dX11_init_8 : decode cX11_init 8 = .ok (.newarray .int, 2) := by decide +kernel
theorem dX11_init_10 : decode cX11_init 10 = .ok (.putfield 7, 3) := by decide +kernel
theorem dX11_init_13 : decode cX11_init 13 = .ok (.aload_n 0, 1) := by decide +kernel
theorem dX11_init_14 : decode cX11_init 14 = .ok (.sipush 310, 3) := by decide +kernel
theorem dX11_init_17 : decode cX11_init 17 = .ok (.newarray .int, 2) := by decide +kernel
theorem dX11_init_19 : decode cX11_init 19 = .ok (.putfield 13, 3) := by decide +kernel
theorem dX11_init_22 : decode cX11_init 22 = .ok (.aload_n 0, 1) := by decide +kernel
theorem dX11_init_23 : decode cX11_init 23 = .ok (.iconst 2, 1) := by decide +kernel
theorem dX11_init_24 : decode cX11_init 24 = .ok (.newarray .boolean, 2) := by decide +kernel
theorem dX11_init_26 : decode cX11_init 26 = .ok (.putfield 16, 3) := by decide +kernel
theorem dX11_init_29 : decode cX11_init 29 = .ok (.aload_n 0, 1) := by decide +kernel
theorem dX11_init_30 : decode cX11_init 30 = .ok (.sipush 250, 3) := by decide +kernel
theorem dX11_init_33 : decode cX11_init 33 = .ok (.newarray .int, 2) := by decide +kernel
theorem dX11_init_35 : decode cX11_init 35 = .ok (.putfield 20, 3) := by decide +kernel
theorem dX11_init_38 : decode cX11_init 38 = .ok (.aload_n 0, 1) := by decide +kernel
theorem dX11_init_39 : decode cX11_init 39 = .ok (.iconst 1, 1) := by decide +kernel
theorem dX11_init_40 : decode cX11_init 40 = .ok (.putfield 23, 3) := by decide +kernel
theorem dX11_init_43 : decode cX11_init 43 = .ok (.aload_n 0, 1) := by decide +kernel
theorem dX11_init_44 : decode cX11_init 44 = .ok (.bipush 8, 2) := by decide +kernel
theorem dX11_init_46 : decode cX11_init 46 = .ok (.newarray .int, 2) := by decide +kernel
theorem dX11_init_48 : decode cX11_init 48 = .ok (.putfield 27, 3) := by decide +kernel
theorem dX11_init_51 : decode cX11_init 51 = .ok (.aload_n 0, 1) := by decide +kernel
theorem dX11_init_52 : decode cX11_init 52 = .ok (.bipush 8, 2) := by decide +kernel
theorem dX11_init_54 : decode cX11_init 54 = .ok (.newarray .int, 2) := by decide +kernel
theorem dX11_init_56 : decode cX11_init 56 = .ok (.putfield 30, 3) := by decide +kernel
theorem dX11_init_59 : decode cX11_init 59 = .ok (.aload_n 0, 1) := by decide +kernel
theorem dX11_init_60 : decode cX11_init 60 = .ok (.iconst 3, 1) := by decide +kernel
theorem dX11_init_61 : decode cX11_init 61 = .ok (.newarray .int, 2) := by decide +kernel
theorem dX11_init_63 : decode cX11_init 63 = .ok (.putfield 33, 3) := by decide +kernel
theorem dX11_init_66 : decode cX11_init 66 = .ok (.aload_n 0, 1) := by decide +kernel
theorem dX11_init_67 : decode cX11_init 67 = .ok (.sipush 155, 3) := by decide +kernel
theorem dX11_init_70 : decode cX11_init 70 = .ok (.newarray .int, 2) := by decide +kernel
theorem dX11_init_72 : decode cX11_init 72 = .ok (.putfield 36, 3) := by decide +kernel
theorem dX11_init_75 : decode cX11_init 75 = .ok (.aload_n 0, 1) := by decide +kernel
theorem dX11_init_76 : decode cX11_init 76 = .ok (.bipush 80, 2) := by decide +kernel
theorem dX11_init_78 : decode cX11_init 78 = .ok (.newarray .int, 2) := by decide +kernel
theorem dX11_init_80 : decode cX11_init 80 = .ok (.putfield 39, 3) := by decide +kernel
theorem dX11_init_83 : decode cX11_init 83 = .ok (.aload_n 0, 1) := by decide +kernel
theorem dX11_init_84 : decode cX11_init 84 = .ok (.bipush 80, 2) := by decide +kernel
theorem dX11_init_86 : decode cX11_init 86 = .ok (.newarray .int, 2) := by decide +kernel
theorem dX11_init_88 : decode cX11_init 88 = .ok (.putfield 42, 3) := by decide +kernel
theorem dX11_init_91 : decode cX11_init 91 = .ok (.aload_n 0, 1) := by decide +kernel
theorem dX11_init_92 : decode cX11_init 92 = .ok (.bipush 9, 2) := by decide +kernel
theorem dX11_init_94 : decode cX11_init 94 = .ok (.newarray .boolean, 2) := by decide +kernel
theorem dX11_init_96 : decode cX11_init 96 = .ok (.putfield 45, 3) := by decide +kernel
theorem dX11_init_99 : decode cX11_init 99 = .ok (.aload_n 0, 1) := by decide +kernel
theorem dX11_init_100 : decode cX11_init 100 = .ok (.bipush 41, 2) := by decide +kernel
theorem dX11_init_102 : decode cX11_init 102 = .ok (.newarray .long, 2) := by decide +kernel
theorem dX11_init_104 : decode cX11_init 104 = .ok (.putfield 48, 3) := by decide +kernel
theorem dX11_init_107 : decode cX11_init 107 = .ok (.aload_n 0, 1) := by decide +kernel
theorem dX11_init_108 : decode cX11_init 108 = .ok (.sipush 482, 3) := by decide +kernel
theorem dX11_init_111 : decode cX11_init 111 = .ok (.newarray .int, 2) := by decide +kernel
theorem dX11_init_113 : decode cX11_init 113 = .ok (.putfield 52, 3) := by decide +kernel
theorem dX11_init_116 : decode cX11_init 116 = .ok (.aload_n 0, 1) := by decide +kernel
theorem dX11_init_117 : decode cX11_init 117 = .ok (.sipush 1200, 3) := by decide +kernel
theorem dX11_init_120 : decode cX11_init 120 = .ok (.newarray .int, 2) := by decide +kernel
theorem dX11_init_122 : decode cX11_init 122 = .ok (.putfield 55, 3) := by decide +kernel
theorem dX11_init_125 : decode cX11_init 125 = .ok (.aload_n 0, 1) := by decide +kernel
theorem dX11_init_126 : decode cX11_init 126 = .ok (.sipush 1200, 3) := by decide +kernel
theorem dX11_init_129 : decode cX11_init 129 = .ok (.newarray .boolean, 2) := by decide +kernel
theorem dX11_init_131 : decode cX11_init 131 = .ok (.putfield 58, 3) := by decide +kernel
theorem dX11_init_134 : decode cX11_init 134 = .ok (.aload_n 0, 1) := by decide +kernel
theorem dX11_init_135 : decode cX11_init 135 = .ok (.sipush 10000, 3) := by decide +kernel
theorem dX11_init_138 : decode cX11_init 138 = .ok (.newarray .int, 2) := by decide +kernel
theorem dX11_init_140 : decode cX11_init 140 = .ok (.putfield 61, 3) := by decide +kernel
theorem dX11_init_143 : decode cX11_init 143 = .ok (.aload_n 0, 1) := by decide +kernel
theorem dX11_init_144 : decode cX11_init 144 = .ok (.sipush 861, 3) := by decide +kernel
theorem dX11_init_147 : decode cX11_init 147 = .ok (.newarray .int, 2) := by decide +kernel
theorem dX11_init_149 : decode cX11_init 149 = .ok (.putfield 64, 3) := by decide +kernel
theorem dX11_init_152 : decode cX11_init 152 = .ok (.aload_n 0, 1) := by decide +kernel
theorem dX11_init_153 : decode cX11_init 153 = .ok (.sipush 861, 3) := by decide +kernel
theorem dX11_init_156 : decode cX11_init 156 = .ok (.newarray .int, 2) := by decide +kernel
theorem dX11_init_158 : decode cX11_init 158 = .ok (.putfield 67, 3) := by decide +kernel
theorem dX11_init_161 : decode cX11_init 161 = .ok (.aload_n 0, 1) := by decide +kernel
theorem dX11_init_162 : decode cX11_init 162 = .ok (.sipush 861, 3) := by decide +kernel
theorem dX11_init_165 : decode cX11_init 165 = .ok (.newarray .boolean, 2) := by decide +kernel
theorem dX11_init_167 : decode cX11_init 167 = .ok (.putfield 70, 3) := by decide +kernel
theorem dX11_init_170 : decode cX11_init 170 = .ok (.aload_n 0, 1) := by decide +kernel
theorem dX11_init_171 : decode cX11_init 171 = .ok (.sipush 512, 3) := by decide +kernel
theorem dX11_init_174 : decode cX11_init 174 = .ok (.newarray .long, 2) := by decide +kernel
theorem dX11_init_176 : decode cX11_init 176 = .ok (.putfield 73, 3) := by decide +kernel
theorem dX11_init_179 : decode cX11_init 179 = .ok (.aload_n 0, 1) := by decide +kernel
theorem dX11_init_180 : decode cX11_init 180 = .ok (.getfield 7, 3) := by decide +kernel
theorem dX11_init_183 : decode cX11_init 183 = .ok (.iconst 0, 1) := by decide +kernel
theorem dX11_init_184 : decode cX11_init 184 = .ok (.iconst 1, 1) := by decide +kernel
theorem dX11_init_185 : decode cX11_init 185 = .ok (.iastore, 1) := by decide +kernel
theorem dX11_init_186 : decode cX11_init 186 = .ok (.aload_n 0, 1) := by decide +kernel
theorem dX11_init_187 : decode cX11_init 187 = .ok (.getfield 7, 3) := by decide +kernel
theorem dX11_init_190 : decode cX11_init 190 = .ok (.iconst 2, 1) := by decide +kernel
theorem dX11_init_191 : decode cX11_init 191 = .ok (.bipush 60, 2) := by decide +kernel
theorem dX11_init_193 : decode cX11_init 193 = .ok (.iastore, 1) := by decide +kernel
theorem dX11_init_194 : decode cX11_init 194 = .ok (.aload_n 0, 1) := by decide +kernel
theorem dX11_init_195 : decode cX11_init 195 = .ok (.getfield 30, 3) := by decide +kernel
theorem dX11_init_198 : decode cX11_init 198 = .ok (.iconst 0, 1) := by decide +kernel
theorem dX11_init_199 : decode cX11_init 199 = .ok (.iconst 1, 1) := by decide +kernel
theorem dX11_init_200 : decode cX11_init 200 = .ok (.iastore, 1) := by decide +kernel
theorem dX11_init_201 : decode cX11_init 201 = .ok (.return_, 1) := by decide +kernel
theorem dX11_in_0 : decode cX11_in 0 = .ok (.lload_n 0, 1) := by decide +kernel
theorem dX11_in_1 : decode cX11_in 1 = .ok (.lload_n 2, 1) := by decide +kernel
theorem dX11_in_2 : decode cX11_in 2 = .ok (.lcmp, 1) := by decide +kernel
theorem dX11_in_3 : decode cX11_in 3 = .ok (.ifCond .lt 14, 3) := by decide +kernel
theorem dX11_in_6 : decode cX11_in 6 = .ok (.lload_n 0, 1) := by decide +kernel
theorem dX11_in_7 : decode cX11_in 7 = .ok (.lload 4, 2) := by decide +kernel
theorem dX11_in_9 : decode cX11_in 9 = .ok (.lcmp, 1) := by decide +kernel
theorem dX11_in_10 : decode cX11_in 10 = .ok (.ifCond .gt 7, 3) := by decide +kernel
theorem dX11_in_13 : decode cX11_in 13 = .ok (.iconst 1, 1) := by decide +kernel
theorem dX11_in_14 : decode cX11_in 14 = .ok (.goto 4, 3) := by decide +kernel
theorem dX11_in_17 : decode cX11_in 17 = .ok (.iconst 0, 1) := by decide +kernel
theorem dX11_in_18 : decode cX11_in 18 = .ok (.ireturn, 1) := by decide +kernel
theorem dX11_refuse_0 : decode cX11_refuse 0 = .ok (.aload_n 0, 1) := by decide +kernel
theorem dX11_refuse_1 : decode cX11_refuse 1 = .ok (.getfield 33, 3) := by decide +kernel
theorem dX11_refuse_4 : decode cX11_refuse 4 = .ok (.bipush (-2), 2) := by decide +kernel
theorem dX11_refuse_6 : decode cX11_refuse 6 = .ok (.iload_n 1, 1) := by decide +kernel
theorem dX11_refuse_7 : decode cX11_refuse 7 = .ok (.isub, 1) := by decide +kernel
theorem dX11_refuse_8 : decode cX11_refuse 8 = .ok (.dup2, 1) := by decide +kernel
theorem dX11_refuse_9 : decode cX11_refuse 9 = .ok (.iaload, 1) := by decide +kernel
theorem dX11_refuse_10 : decode cX11_refuse 10 = .ok (.iconst 1, 1) := by decide +kernel
theorem dX11_refuse_11 : decode cX11_refuse 11 = .ok (.iadd, 1) := by decide +kernel
theorem dX11_refuse_12 : decode cX11_refuse 12 = .ok (.iastore, 1) := by decide +kernel
theorem dX11_refuse_13 : decode cX11_refuse 13 = .ok (.iload_n 1, 1) := by decide +kernel
theorem dX11_refuse_14 : decode cX11_refuse 14 = .ok (.ireturn, 1) := by decide +kernel
theorem dX11_worse_0 : decode cX11_worse 0 = .ok (.aload_n 0, 1) := by decide +kernel
theorem dX11_worse_1 : decode cX11_worse 1 = .ok (.getfield 33, 3) := by decide +kernel
theorem dX11_worse_4 : decode cX11_worse 4 = .ok (.iconst 0, 1) := by decide +kernel
theorem dX11_worse_5 : decode cX11_worse 5 = .ok (.dup2, 1) := by decide +kernel
theorem dX11_worse_6 : decode cX11_worse 6 = .ok (.iaload, 1) := by decide +kernel
theorem dX11_worse_7 : decode cX11_worse 7 = .ok (.iconst 1, 1) := by decide +kernel
theorem dX11_worse_8 : decode cX11_worse 8 = .ok (.iadd, 1) := by decide +kernel
theorem dX11_worse_9 : decode cX11_worse 9 = .ok (.iastore, 1) := by decide +kernel
theorem dX11_worse_10 : decode cX11_worse 10 = .ok (.sipush (-10000), 3) := by decide +kernel
theorem dX11_worse_13 : decode cX11_worse 13 = .ok (.ireturn, 1) := by decide +kernel
theorem dX11_isPut_0 : decode cX11_isPut 0 = .ok (.iload_n 0, 1) := by decide +kernel
theorem dX11_isPut_1 : decode cX11_isPut 1 = .ok (.ifCond .ne 15, 3) := by decide +kernel
theorem dX11_isPut_4 : decode cX11_isPut 4 = .ok (.iload_n 1, 1) := by decide +kernel
theorem dX11_isPut_5 : decode cX11_isPut 5 = .ok (.i2l, 1) := by decide +kernel
theorem dX11_isPut_6 : decode cX11_isPut 6 = .ok (.lconst 1, 1) := by decide +kernel
theorem dX11_isPut_7 : decode cX11_isPut 7 = .ok (.ldc2_w 76, 3) := by decide +kernel
theorem dX11_isPut_10 : decode cX11_isPut 10 = .ok (.invokestatic 78, 3) := by decide +kernel
theorem dX11_isPut_13 : decode cX11_isPut 13 = .ok (.goto 40, 3) := by decide +kernel
theorem dX11_isPut_16 : decode cX11_isPut 16 = .ok (.iload_n 0, 1) := by decide +kernel
theorem dX11_isPut_17 : decode cX11_isPut 17 = .ok (.iconst 1, 1) := by decide +kernel
theorem dX11_isPut_18 : decode cX11_isPut 18 = .ok (.if_icmp .ne 13, 3) := by decide +kernel
theorem dX11_isPut_21 : decode cX11_isPut 21 = .ok (.iload_n 1, 1) := by decide +kernel
theorem dX11_isPut_22 : decode cX11_isPut 22 = .ok (.i2l, 1) := by decide +kernel
theorem dX11_isPut_23 : decode cX11_isPut 23 = .ok (.lconst 0, 1) := by decide +kernel
theorem dX11_isPut_24 : decode cX11_isPut 24 = .ok (.lconst 1, 1) := by decide +kernel
theorem dX11_isPut_25 : decode cX11_isPut 25 = .ok (.invokestatic 78, 3) := by decide +kernel
theorem dX11_isPut_28 : decode cX11_isPut 28 = .ok (.goto 25, 3) := by decide +kernel
theorem dX11_isPut_31 : decode cX11_isPut 31 = .ok (.iload_n 0, 1) := by decide +kernel
theorem dX11_isPut_32 : decode cX11_isPut 32 = .ok (.iconst 2, 1) := by decide +kernel
theorem dX11_isPut_33 : decode cX11_isPut 33 = .ok (.if_icmp .ne 19, 3) := by decide +kernel
theorem dX11_isPut_36 : decode cX11_isPut 36 = .ok (.iload_n 1, 1) := by decide +kernel
theorem dX11_isPut_37 : decode cX11_isPut 37 = .ok (.i2l, 1) := by decide +kernel
theorem dX11_isPut_38 : decode cX11_isPut 38 = .ok (.lconst 0, 1) := by decide +kernel
theorem dX11_isPut_39 : decode cX11_isPut 39 = .ok (.ldc2_w 82, 3) := by decide +kernel
theorem dX11_isPut_42 : decode cX11_isPut 42 = .ok (.invokestatic 78, 3) := by decide +kernel
theorem dX11_isPut_45 : decode cX11_isPut 45 = .ok (.ifCond .eq 7, 3) := by decide +kernel
theorem dX11_isPut_48 : decode cX11_isPut 48 = .ok (.iconst 1, 1) := by decide +kernel
theorem dX11_isPut_49 : decode cX11_isPut 49 = .ok (.goto 4, 3) := by decide +kernel
theorem dX11_isPut_52 : decode cX11_isPut 52 = .ok (.iconst 0, 1) := by decide +kernel
theorem dX11_isPut_53 : decode cX11_isPut 53 = .ok (.ireturn, 1) := by decide +kernel
theorem dX11_put_0 : decode cX11_put 0 = .ok (.iload_n 1, 1) := by decide +kernel
theorem dX11_put_1 : decode cX11_put 1 = .ok (.iload_n 2, 1) := by decide +kernel
theorem dX11_put_2 : decode cX11_put 2 = .ok (.invokestatic 84, 3) := by decide +kernel
theorem dX11_put_5 : decode cX11_put 5 = .ok (.ifCond .ne 10, 3) := by decide +kernel
theorem dX11_put_8 : decode cX11_put 8 = .ok (.aload_n 0, 1) := by decide +kernel
theorem dX11_put_9 : decode cX11_put 9 = .ok (.bipush (-2), 2) := by decide +kernel
theorem dX11_put_11 : decode cX11_put 11 = .ok (.invokevirtual 88, 3) := by decide +kernel
theorem dX11_put_14 : decode cX11_put 14 = .ok (.ireturn, 1) := by decide +kernel
theorem dX11_put_15 : decode cX11_put 15 = .ok (.aload_n 0, 1) := by decide +kernel
theorem dX11_put_16 : decode cX11_put 16 = .ok (.getfield 7, 3) := by decide +kernel
theorem dX11_put_19 : decode cX11_put 19 = .ok (.iconst 0, 1) := by decide +kernel
theorem dX11_put_20 : decode cX11_put 20 = .ok (.iload_n 1, 1) := by decide +kernel
theorem dX11_put_21 : decode cX11_put 21 = .ok (.iadd, 1) := by decide +kernel
theorem dX11_put_22 : decode cX11_put 22 = .ok (.iaload, 1) := by decide +kernel
theorem dX11_put_23 : decode cX11_put 23 = .ok (.istore_n 3, 1) := by decide +kernel
theorem dX11_put_24 : decode cX11_put 24 = .ok (.aload_n 0, 1) := by decide +kernel
theorem dX11_put_25 : decode cX11_put 25 = .ok (.getfield 7, 3) := by decide +kernel
theorem dX11_put_28 : decode cX11_put 28 = .ok (.iconst 0, 1) := by decide +kernel
theorem dX11_put_29 : decode cX11_put 29 = .ok (.iload_n 1, 1) := by decide +kernel
theorem dX11_put_30 : decode cX11_put 30 = .ok (.iadd, 1) := by decide +kernel
theorem dX11_put_31 : decode cX11_put 31 = .ok (.iload_n 2, 1) := by decide +kernel
theorem dX11_put_32 : decode cX11_put 32 = .ok (.iastore, 1) := by decide +kernel
theorem dX11_put_33 : decode cX11_put 33 = .ok (.iload_n 3, 1) := by decide +kernel
theorem dX11_put_34 : decode cX11_put 34 = .ok (.ireturn, 1) := by decide +kernel
theorem dX11_person_0 : decode cX11_person 0 = .ok (.iload_n 1, 1) := by decide +kernel
theorem dX11_person_1 : decode cX11_person 1 = .ok (.i2l, 1) := by decide +kernel
theorem dX11_person_2 : decode cX11_person 2 = .ok (.lconst 0, 1) := by decide +kernel
theorem dX11_person_3 : decode cX11_person 3 = .ok (.ldc2_w 92, 3) := by decide +kernel
theorem dX11_person_6 : decode cX11_person 6 = .ok (.invokestatic 78, 3) := by decide +kernel
theorem dX11_person_9 : decode cX11_person 9 = .ok (.ifCond .eq 13, 3) := by decide +kernel
theorem dX11_person_12 : decode cX11_person 12 = .ok (.iload_n 2, 1) := by decide +kernel
theorem dX11_person_13 : decode cX11_person 13 = .ok (.i2l, 1) := by decide +kernel
theorem dX11_person_14 : decode cX11_person 14 = .ok (.lconst 0, 1) := by decide +kernel
theorem dX11_person_15 : decode cX11_person 15 = .ok (.lconst 1, 1) := by decide +kernel
theorem dX11_person_16 : decode cX11_person 16 = .ok (.invokestatic 78, 3) := by decide +kernel
theorem dX11_person_19 : decode cX11_person 19 = .ok (.ifCond .ne 10, 3) := by decide +kernel
theorem dX11_person_22 : decode cX11_person 22 = .ok (.aload_n 0, 1) := by decide +kernel
theorem dX11_person_23 : decode cX11_person 23 = .ok (.bipush (-2), 2) := by decide +kernel
theorem dX11_person_25 : decode cX11_person 25 = .ok (.invokevirtual 88, 3) := by decide +kernel
theorem dX11_person_28 : decode cX11_person 28 = .ok (.ireturn, 1) := by decide +kernel
theorem dX11_person_29 : decode cX11_person 29 = .ok (.aload_n 0, 1) := by decide +kernel
theorem dX11_person_30 : decode cX11_person 30 = .ok (.getfield 7, 3) := by decide +kernel
theorem dX11_person_33 : decode cX11_person 33 = .ok (.iconst 3, 1) := by decide +kernel
theorem dX11_person_34 : decode cX11_person 34 = .ok (.iaload, 1) := by decide +kernel
theorem dX11_person_35 : decode cX11_person 35 = .ok (.iconst 5, 1) := by decide +kernel
theorem dX11_person_36 : decode cX11_person 36 = .ok (.if_icmp .ne 10, 3) := by decide +kernel
theorem dX11_person_39 : decode cX11_person 39 = .ok (.aload_n 0, 1) := by decide +kernel
theorem dX11_person_40 : decode cX11_person 40 = .ok (.bipush (-4), 2) := by decide +kernel
theorem dX11_person_42 : decode cX11_person 42 = .ok (.invokevirtual 88, 3) := by decide +kernel
theorem dX11_person_45 : decode cX11_person 45 = .ok (.ireturn, 1) := by decide +kernel
theorem dX11_person_46 : decode cX11_person 46 = .ok (.aload_n 0, 1) := by decide +kernel
theorem dX11_person_47 : decode cX11_person 47 = .ok (.getfield 7, 3) := by decide +kernel
theorem dX11_person_50 : decode cX11_person 50 = .ok (.iconst 3, 1) := by decide +kernel
theorem dX11_person_51 : decode cX11_person 51 = .ok (.iaload, 1) := by decide +kernel
theorem dX11_person_52 : decode cX11_person 52 = .ok (.istore_n 3, 1) := by decide +kernel
theorem dX11_person_53 : decode cX11_person 53 = .ok (.aload_n 0, 1) := by decide +kernel
theorem dX11_person_54 : decode cX11_person 54 = .ok (.getfield 7, 3) := by decide +kernel
theorem dX11_person_57 : decode cX11_person 57 = .ok (.bipush 13, 2) := by decide +kernel
theorem dX11_person_59 : decode cX11_person 59 = .ok (.iload_n 3, 1) := by decide +kernel
theorem dX11_person_60 : decode cX11_person 60 = .ok (.iadd, 1) := by decide +kernel
theorem dX11_person_61 : decode cX11_person 61 = .ok (.iload_n 1, 1) := by decide +kernel
theorem dX11_person_62 : decode cX11_person 62 = .ok (.iastore, 1) := by decide +kernel
theorem dX11_person_63 : decode cX11_person 63 = .ok (.aload_n 0, 1) := by decide +kernel
theorem dX11_person_64 : decode cX11_person 64 = .ok (.getfield 7, 3) := by decide +kernel
theorem dX11_person_67 : decode cX11_person 67 = .ok (.bipush 18, 2) := by decide +kernel
theorem dX11_person_69 : decode cX11_person 69 = .ok (.iload_n 3, 1) := by decide +kernel
theorem dX11_person_70 : decode cX11_person 70 = .ok (.iadd, 1) := by decide +kernel
theorem dX11_person_71 : decode cX11_person 71 = .ok (.iload_n 2, 1) := by decide +kernel
theorem dX11_person_72 : decode cX11_person 72 = .ok (.iastore, 1) := by decide +kernel
theorem dX11_person_73 : decode cX11_person 73 = .ok (.aload_n 0, 1) := by decide +kernel
theorem dX11_person_74 : decode cX11_person 74 = .ok (.getfield 7, 3) := by decide +kernel
theorem dX11_person_77 : decode cX11_person 77 = .ok (.iconst 3, 1) := by decide +kernel
theorem dX11_person_78 : decode cX11_person 78 = .ok (.dup2, 1) := by decide +kernel
theorem dX11_person_79 : decode cX11_person 79 = .ok (.iaload, 1) := by decide +kernel
theorem dX11_person_80 : decode cX11_person 80 = .ok (.iconst 1, 1) := by decide +kernel
theorem dX11_person_81 : decode cX11_person 81 = .ok (.iadd, 1) := by decide +kernel
theorem dX11_person_82 : decode cX11_person 82 = .ok (.iastore, 1) := by decide +kernel
theorem dX11_person_83 : decode cX11_person 83 = .ok (.iload_n 3, 1) := by decide +kernel
theorem dX11_person_84 : decode cX11_person 84 = .ok (.ireturn, 1) := by decide +kernel
theorem dX11_talk_0 : decode cX11_talk 0 = .ok (.iload_n 1, 1) := by decide +kernel
theorem dX11_talk_1 : decode cX11_talk 1 = .ok (.i2l, 1) := by decide +kernel
theorem dX11_talk_2 : decode cX11_talk 2 = .ok (.lconst 0, 1) := by decide +kernel
theorem dX11_talk_3 : decode cX11_talk 3 = .ok (.aload_n 0, 1) := by decide +kernel
theorem dX11_talk_4 : decode cX11_talk 4 = .ok (.getfield 7, 3) := by decide +kernel
theorem dX11_talk_7 : decode cX11_talk 7 = .ok (.iconst 3, 1) := by decide +kernel
theorem dX11_talk_8 : decode cX11_talk 8 = .ok (.iaload, 1) := by decide +kernel
theorem dX11_talk_9 : decode cX11_talk 9 = .ok (.iconst 1, 1) := by decide +kernel
theorem dX11_talk_10 : decode cX11_talk 10 = .ok (.isub, 1) := by decide +kernel
theorem dX11_talk_11 : decode cX11_talk 11 = .ok (.i2l, 1) := by decide +kernel
theorem dX11_talk_12 : decode cX11_talk 12 = .ok (.invokestatic 78, 3) := by decide +kernel
theorem dX11_talk_15 : decode cX11_talk 15 = .ok (.ifCond .eq 19, 3) := by decide +kernel
theorem dX11_talk_18 : decode cX11_talk 18 = .ok (.iload_n 2, 1) := by decide +kernel
theorem dX11_talk_19 : decode cX11_talk 19 = .ok (.ifCond .lt 15, 3) := by decide +kernel
theorem dX11_talk_22 : decode cX11_talk 22 = .ok (.iload_n 2, 1) := by decide +kernel
theorem dX11_talk_23 : decode cX11_talk 23 = .ok (.iload_n 3, 1) := by decide +kernel
theorem dX11_talk_24 : decode cX11_talk 24 = .ok (.if_icmp .ge 10, 3) := by decide +kernel
theorem dX11_talk_27 : decode cX11_talk 27 = .ok (.iload_n 3, 1) := by decide +kernel
theorem dX11_talk_28 : decode cX11_talk 28 = .ok (.sipush 240, 3) := by decide +kernel
theorem dX11_talk_31 : decode cX11_talk 31 = .ok (.if_icmp .le 10, 3) := by decide +kernel
theorem dX11_talk_34 : decode cX11_talk 34 = .ok (.aload_n 0, 1) := by decide +kernel
theorem dX11_talk_35 : decode cX11_talk 35 = .ok (.bipush (-2), 2) := by decide +kernel
theorem dX11_talk_37 : decode cX11_talk 37 = .ok (.invokevirtual 88, 3) := by decide +kernel
theorem dX11_talk_40 : decode cX11_talk 40 = .ok (.ireturn, 1) := by decide +kernel
theorem dX11_talk_41 : decode cX11_talk 41 = .ok (.aload_n 0, 1) := by decide +kernel
theorem dX11_talk_42 : decode cX11_talk 42 = .ok (.getfield 7, 3) := by decide +kernel
theorem dX11_talk_45 : decode cX11_talk 45 = .ok (.iconst 4, 1) := by decide +kernel
theorem dX11_talk_46 : decode cX11_talk 46 = .ok (.iaload, 1) := by decide +kernel
theorem dX11_talk_47 : decode cX11_talk 47 = .ok (.bipush 16, 2) := by decide +kernel
theorem dX11_talk_49 : decode cX11_talk 49 = .ok (.if_icmp .ne 10, 3) := by decide +kernel
theorem dX11_talk_52 : decode cX11_talk 52 = .ok (.aload_n 0, 1) := by decide +kernel
theorem dX11_talk_53 : decode cX11_talk 53 = .ok (.bipush (-4), 2) := by decide +kernel
theorem dX11_talk_55 : decode cX11_talk 55 = .ok (.invokevirtual 88, 3) := by decide +kernel
theorem dX11_talk_58 : decode cX11_talk 58 = .ok (.ireturn, 1) := by decide +kernel
theorem dX11_talk_59 : decode cX11_talk 59 = .ok (.aload_n 0, 1) := by decide +kernel
theorem dX11_talk_60 : decode cX11_talk 60 = .ok (.getfield 7, 3) := by decide +kernel
theorem dX11_talk_63 : decode cX11_talk 63 = .ok (.iconst 4, 1) := by decide +kernel
theorem dX11_talk_64 : decode cX11_talk 64 = .ok (.iaload, 1) := by decide +kernel
theorem dX11_talk_65 : decode cX11_talk 65 = .ok (.istore 4, 2) := by decide +kernel
theorem dX11_talk_67 : decode cX11_talk 67 = .ok (.aload_n 0, 1) := by decide +kernel
theorem dX11_talk_68 : decode cX11_talk 68 = .ok (.getfield 7, 3) := by decide +kernel
theorem dX11_talk_71 : decode cX11_talk 71 = .ok (.bipush 23, 2) := by decide +kernel
theorem dX11_talk_73 : decode cX11_talk 73 = .ok (.iload 4, 2) := by decide +kernel
theorem dX11_talk_75 : decode cX11_talk 75 = .ok (.iadd, 1) := by decide +kernel
theorem dX11_talk_76 : decode cX11_talk 76 = .ok (.iload_n 1, 1) := by decide +kernel
theorem dX11_talk_77 : decode cX11_talk 77 = .ok (.iastore, 1) := by decide +kernel
theorem dX11_talk_78 : decode cX11_talk 78 = .ok (.aload_n 0, 1) := by decide +kernel
theorem dX11_talk_79 : decode cX11_talk 79 = .ok (.getfield 7, 3) := by decide +kernel
theorem dX11_talk_82 : decode cX11_talk 82 = .ok (.bipush 39, 2) := by decide +kernel
theorem dX11_talk_84 : decode cX11_talk 84 = .ok (.iload 4, 2) := by decide +kernel
theorem dX11_talk_86 : decode cX11_talk 86 = .ok (.iadd, 1) := by decide +kernel
theorem dX11_talk_87 : decode cX11_talk 87 = .ok (.iload_n 2, 1) := by decide +kernel
theorem dX11_talk_88 : decode cX11_talk 88 = .ok (.iastore, 1) := by decide +kernel
theorem dX11_talk_89 : decode cX11_talk 89 = .ok (.aload_n 0, 1) := by decide +kernel
theorem dX11_talk_90 : decode cX11_talk 90 = .ok (.getfield 7, 3) := by decide +kernel
theorem dX11_talk_93 : decode cX11_talk 93 = .ok (.bipush 55, 2) := by decide +kernel
theorem dX11_talk_95 : decode cX11_talk 95 = .ok (.iload 4, 2) := by decide +kernel
theorem dX11_talk_97 : decode cX11_talk 97 = .ok (.iadd, 1) := by decide +kernel
theorem dX11_talk_98 : decode cX11_talk 98 = .ok (.iload_n 3, 1) := by decide +kernel
theorem dX11_talk_99 : decode cX11_talk 99 = .ok (.iastore, 1) := by decide +kernel
theorem dX11_talk_100 : decode cX11_talk 100 = .ok (.aload_n 0, 1) := by decide +kernel
theorem dX11_talk_101 : decode cX11_talk 101 = .ok (.getfield 7, 3) := by decide +kernel
theorem dX11_talk_104 : decode cX11_talk 104 = .ok (.iconst 4, 1) := by decide +kernel
theorem dX11_talk_105 : decode cX11_talk 105 = .ok (.dup2, 1) := by decide +kernel
theorem dX11_talk_106 : decode cX11_talk 106 = .ok (.iaload, 1) := by decide +kernel
theorem dX11_talk_107 : decode cX11_talk 107 = .ok (.iconst 1, 1) := by decide +kernel
theorem dX11_talk_108 : decode cX11_talk 108 = .ok (.iadd, 1) := by decide +kernel
theorem dX11_talk_109 : decode cX11_talk 109 = .ok (.iastore, 1) := by decide +kernel
theorem dX11_talk_110 : decode cX11_talk 110 = .ok (.iload 4, 2) := by decide +kernel
theorem dX11_talk_112 : decode cX11_talk 112 = .ok (.ireturn, 1) := by decide +kernel
theorem dX11_due_0 : decode cX11_due 0 = .ok (.iload_n 1, 1) := by decide +kernel
theorem dX11_due_1 : decode cX11_due 1 = .ok (.i2l, 1) := by decide +kernel
theorem dX11_due_2 : decode cX11_due 2 = .ok (.lconst 0, 1) := by decide +kernel
theorem dX11_due_3 : decode cX11_due 3 = .ok (.ldc2_w 94, 3) := by decide +kernel
theorem dX11_due_6 : decode cX11_due 6 = .ok (.invokestatic 78, 3) := by decide +kernel
theorem dX11_due_9 : decode cX11_due 9 = .ok (.ifCond .eq 29, 3) := by decide +kernel
theorem dX11_due_12 : decode cX11_due 12 = .ok (.iload_n 2, 1) := by decide +kernel
theorem dX11_due_13 : decode cX11_due 13 = .ok (.i2l, 1) := by decide +kernel
theorem dX11_due_14 : decode cX11_due 14 = .ok (.lconst 0, 1) := by decide +kernel
theorem dX11_due_15 : decode cX11_due 15 = .ok (.ldc2_w 94, 3) := by decide +kernel
theorem dX11_due_18 : decode cX11_due 18 = .ok (.invokestatic 78, 3) := by decide +kernel
theorem dX11_due_21 : decode cX11_due 21 = .ok (.ifCond .eq 17, 3) := by decide +kernel
theorem dX11_due_24 : decode cX11_due 24 = .ok (.iload_n 3, 1) := by decide +kernel
theorem dX11_due_25 : decode cX11_due 25 = .ok (.i2l, 1) := by decide +kernel
theorem dX11_due_26 : decode cX11_due 26 = .ok (.ldc2_w 96, 3) := by decide +kernel
theorem dX11_due_29 : decode cX11_due 29 = .ok (.ldc2_w 94, 3) := by decide +kernel
theorem dX11_due_32 : decode cX11_due 32 = .ok (.invokestatic 78, 3) := by decide +kernel
theorem dX11_due_35 : decode cX11_due 35 = .ok (.ifCond .ne 10, 3) := by decide +kernel
theorem dX11_due_38 : decode cX11_due 38 = .ok (.aload_n 0, 1) := by decide +kernel
theorem dX11_due_39 : decode cX11_due 39 = .ok (.bipush (-2), 2) := by decide +kernel
theorem dX11_due_41 : decode cX11_due 41 = .ok (.invokevirtual 88, 3) := by decide +kernel
theorem dX11_due_44 : decode cX11_due 44 = .ok (.ireturn, 1) := by decide +kernel
theorem dX11_due_45 : decode cX11_due 45 = .ok (.aload_n 0, 1) := by decide +kernel
theorem dX11_due_46 : decode cX11_due 46 = .ok (.getfield 7, 3) := by decide +kernel
theorem dX11_due_49 : decode cX11_due 49 = .ok (.iconst 5, 1) := by decide +kernel
theorem dX11_due_50 : decode cX11_due 50 = .ok (.iaload, 1) := by decide +kernel
theorem dX11_due_51 : decode cX11_due 51 = .ok (.bipush 8, 2) := by decide +kernel
theorem dX11_due_53 : decode cX11_due 53 = .ok (.if_icmp .ne 10, 3) := by decide +kernel
theorem dX11_due_56 : decode cX11_due 56 = .ok (.aload_n 0, 1) := by decide +kernel
theorem dX11_due_57 : decode cX11_due 57 = .ok (.bipush (-4), 2) := by decide +kernel
theorem dX11_due_59 : decode cX11_due 59 = .ok (.invokevirtual 88, 3) := by decide +kernel
theorem dX11_due_62 : decode cX11_due 62 = .ok (.ireturn, 1) := by decide +kernel
theorem dX11_due_63 : decode cX11_due 63 = .ok (.aload_n 0, 1) := by decide +kernel
theorem dX11_due_64 : decode cX11_due 64 = .ok (.getfield 7, 3) := by decide +kernel
theorem dX11_due_67 : decode cX11_due 67 = .ok (.iconst 5, 1) := by decide +kernel
theorem dX11_due_68 : decode cX11_due 68 = .ok (.iaload, 1) := by decide +kernel
theorem dX11_due_69 : decode cX11_due 69 = .ok (.istore 4, 2) := by decide +kernel
theorem dX11_due_71 : decode cX11_due 71 = .ok (.aload_n 0, 1) := by decide +kernel
theorem dX11_due_72 : decode cX11_due 72 = .ok (.getfield 7, 3) := by decide +kernel
theorem dX11_due_75 : decode cX11_due 75 = .ok (.bipush 71, 2) := by decide +kernel
theorem dX11_due_77 : decode cX11_due 77 = .ok (.iload 4, 2) := by decide +kernel
theorem dX11_due_79 : decode cX11_due 79 = .ok (.iadd, 1) := by decide +kernel
theorem dX11_due_80 : decode cX11_due 80 = .ok (.iload_n 1, 1) := by decide +kernel
theorem dX11_due_81 : decode cX11_due 81 = .ok (.iastore, 1) := by decide +kernel
theorem dX11_due_82 : decode cX11_due 82 = .ok (.aload_n 0, 1) := by decide +kernel
theorem dX11_due_83 : decode cX11_due 83 = .ok (.getfield 7, 3) := by decide +kernel
theorem dX11_due_86 : decode cX11_due 86 = .ok (.bipush 79, 2) := by decide +kernel
theorem dX11_due_88 : decode cX11_due 88 = .ok (.iload 4, 2) := by decide +kernel
theorem dX11_due_90 : decode cX11_due 90 = .ok (.iadd, 1) := by decide +kernel
theorem dX11_due_91 : decode cX11_due 91 = .ok (.iload_n 2, 1) := by decide +kernel
theorem dX11_due_92 : decode cX11_due 92 = .ok (.iastore, 1) := by decide +kernel
theorem dX11_due_93 : decode cX11_due 93 = .ok (.aload_n 0, 1) := by decide +kernel
theorem dX11_due_94 : decode cX11_due 94 = .ok (.getfield 7, 3) := by decide +kernel
theorem dX11_due_97 : decode cX11_due 97 = .ok (.bipush 87, 2) := by decide +kernel
theorem dX11_due_99 : decode cX11_due 99 = .ok (.iload 4, 2) := by decide +kernel
theorem dX11_due_101 : decode cX11_due 101 = .ok (.iadd, 1) := by decide +kernel
theorem dX11_due_102 : decode cX11_due 102 = .ok (.iload_n 3, 1) := by decide +kernel
theorem dX11_due_103 : decode cX11_due 103 = .ok (.iastore, 1) := by decide +kernel
theorem dX11_due_104 : decode cX11_due 104 = .ok (.aload_n 0, 1) := by decide +kernel
theorem dX11_due_105 : decode cX11_due 105 = .ok (.getfield 7, 3) := by decide +kernel
theorem dX11_due_108 : decode cX11_due 108 = .ok (.iconst 5, 1) := by decide +kernel
theorem dX11_due_109 : decode cX11_due 109 = .ok (.dup2, 1) := by decide +kernel
theorem dX11_due_110 : decode cX11_due 110 = .ok (.iaload, 1) := by decide +kernel
theorem dX11_due_111 : decode cX11_due 111 = .ok (.iconst 1, 1) := by decide +kernel
theorem dX11_due_112 : decode cX11_due 112 = .ok (.iadd, 1) := by decide +kernel
theorem dX11_due_113 : decode cX11_due 113 = .ok (.iastore, 1) := by decide +kernel
theorem dX11_due_114 : decode cX11_due 114 = .ok (.iload 4, 2) := by decide +kernel
theorem dX11_due_116 : decode cX11_due 116 = .ok (.ireturn, 1) := by decide +kernel
theorem dX11_sight_0 : decode cX11_sight 0 = .ok (.iload_n 1, 1) := by decide +kernel
theorem dX11_sight_1 : decode cX11_sight 1 = .ok (.i2l, 1) := by decide +kernel
theorem dX11_sight_2 : decode cX11_sight 2 = .ok (.lconst 0, 1) := by decide +kernel
theorem dX11_sight_3 : decode cX11_sight 3 = .ok (.ldc2_w 82, 3) := by decide +kernel
theorem dX11_sight_6 : decode cX11_sight 6 = .ok (.invokestatic 78, 3) := by decide +kernel
theorem dX11_sight_9 : decode cX11_sight 9 = .ok (.ifCond .eq 15, 3) := by decide +kernel
theorem dX11_sight_12 : decode cX11_sight 12 = .ok (.iload_n 2, 1) := by decide +kernel
theorem dX11_sight_13 : decode cX11_sight 13 = .ok (.i2l, 1) := by decide +kernel
theorem dX11_sight_14 : decode cX11_sight 14 = .ok (.lconst 0, 1) := by decide +kernel
