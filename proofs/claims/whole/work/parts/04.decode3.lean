theorem dX11_sight_15 : decode cX11_sight 15 = .ok (.ldc2_w 98, 3) := by decide +kernel
theorem dX11_sight_18 : decode cX11_sight 18 = .ok (.invokestatic 78, 3) := by decide +kernel
theorem dX11_sight_21 : decode cX11_sight 21 = .ok (.ifCond .ne 10, 3) := by decide +kernel
theorem dX11_sight_24 : decode cX11_sight 24 = .ok (.aload_n 0, 1) := by decide +kernel
theorem dX11_sight_25 : decode cX11_sight 25 = .ok (.bipush (-2), 2) := by decide +kernel
theorem dX11_sight_27 : decode cX11_sight 27 = .ok (.invokevirtual 88, 3) := by decide +kernel
theorem dX11_sight_30 : decode cX11_sight 30 = .ok (.ireturn, 1) := by decide +kernel
theorem dX11_sight_31 : decode cX11_sight 31 = .ok (.aload_n 0, 1) := by decide +kernel
theorem dX11_sight_32 : decode cX11_sight 32 = .ok (.getfield 7, 3) := by decide +kernel
theorem dX11_sight_35 : decode cX11_sight 35 = .ok (.bipush 6, 2) := by decide +kernel
theorem dX11_sight_37 : decode cX11_sight 37 = .ok (.iaload, 1) := by decide +kernel
theorem dX11_sight_38 : decode cX11_sight 38 = .ok (.bipush 10, 2) := by decide +kernel
theorem dX11_sight_40 : decode cX11_sight 40 = .ok (.if_icmp .ne 10, 3) := by decide +kernel
theorem dX11_sight_43 : decode cX11_sight 43 = .ok (.aload_n 0, 1) := by decide +kernel
theorem dX11_sight_44 : decode cX11_sight 44 = .ok (.bipush (-4), 2) := by decide +kernel
theorem dX11_sight_46 : decode cX11_sight 46 = .ok (.invokevirtual 88, 3) := by decide +kernel
theorem dX11_sight_49 : decode cX11_sight 49 = .ok (.ireturn, 1) := by decide +kernel
theorem dX11_sight_50 : decode cX11_sight 50 = .ok (.aload_n 0, 1) := by decide +kernel
theorem dX11_sight_51 : decode cX11_sight 51 = .ok (.getfield 7, 3) := by decide +kernel
theorem dX11_sight_54 : decode cX11_sight 54 = .ok (.bipush 6, 2) := by decide +kernel
theorem dX11_sight_56 : decode cX11_sight 56 = .ok (.iaload, 1) := by decide +kernel
theorem dX11_sight_57 : decode cX11_sight 57 = .ok (.istore_n 3, 1) := by decide +kernel
theorem dX11_sight_58 : decode cX11_sight 58 = .ok (.aload_n 0, 1) := by decide +kernel
theorem dX11_sight_59 : decode cX11_sight 59 = .ok (.getfield 7, 3) := by decide +kernel
theorem dX11_sight_62 : decode cX11_sight 62 = .ok (.bipush 95, 2) := by decide +kernel
theorem dX11_sight_64 : decode cX11_sight 64 = .ok (.iload_n 3, 1) := by decide +kernel
theorem dX11_sight_65 : decode cX11_sight 65 = .ok (.iadd, 1) := by decide +kernel
theorem dX11_sight_66 : decode cX11_sight 66 = .ok (.iload_n 1, 1) := by decide +kernel
theorem dX11_sight_67 : decode cX11_sight 67 = .ok (.iastore, 1) := by decide +kernel
theorem dX11_sight_68 : decode cX11_sight 68 = .ok (.aload_n 0, 1) := by decide +kernel
theorem dX11_sight_69 : decode cX11_sight 69 = .ok (.getfield 7, 3) := by decide +kernel
theorem dX11_sight_72 : decode cX11_sight 72 = .ok (.bipush 105, 2) := by decide +kernel
theorem dX11_sight_74 : decode cX11_sight 74 = .ok (.iload_n 3, 1) := by decide +kernel
theorem dX11_sight_75 : decode cX11_sight 75 = .ok (.iadd, 1) := by decide +kernel
theorem dX11_sight_76 : decode cX11_sight 76 = .ok (.iload_n 2, 1) := by decide +kernel
theorem dX11_sight_77 : decode cX11_sight 77 = .ok (.iastore, 1) := by decide +kernel
theorem dX11_sight_78 : decode cX11_sight 78 = .ok (.aload_n 0, 1) := by decide +kernel
theorem dX11_sight_79 : decode cX11_sight 79 = .ok (.getfield 7, 3) := by decide +kernel
theorem dX11_sight_82 : decode cX11_sight 82 = .ok (.bipush 6, 2) := by decide +kernel
theorem dX11_sight_84 : decode cX11_sight 84 = .ok (.dup2, 1) := by decide +kernel
theorem dX11_sight_85 : decode cX11_sight 85 = .ok (.iaload, 1) := by decide +kernel
theorem dX11_sight_86 : decode cX11_sight 86 = .ok (.iconst 1, 1) := by decide +kernel
theorem dX11_sight_87 : decode cX11_sight 87 = .ok (.iadd, 1) := by decide +kernel
theorem dX11_sight_88 : decode cX11_sight 88 = .ok (.iastore, 1) := by decide +kernel
theorem dX11_sight_89 : decode cX11_sight 89 = .ok (.iload_n 3, 1) := by decide +kernel
theorem dX11_sight_90 : decode cX11_sight 90 = .ok (.ireturn, 1) := by decide +kernel
theorem dX11_clears_0 : decode cX11_clears 0 = .ok (.iload_n 1, 1) := by decide +kernel
theorem dX11_clears_1 : decode cX11_clears 1 = .ok (.i2l, 1) := by decide +kernel
theorem dX11_clears_2 : decode cX11_clears 2 = .ok (.lconst 0, 1) := by decide +kernel
theorem dX11_clears_3 : decode cX11_clears 3 = .ok (.ldc2_w 100, 3) := by decide +kernel
theorem dX11_clears_6 : decode cX11_clears 6 = .ok (.invokestatic 78, 3) := by decide +kernel
theorem dX11_clears_9 : decode cX11_clears 9 = .ok (.ifCond .ne 10, 3) := by decide +kernel
theorem dX11_clears_12 : decode cX11_clears 12 = .ok (.aload_n 0, 1) := by decide +kernel
theorem dX11_clears_13 : decode cX11_clears 13 = .ok (.bipush (-2), 2) := by decide +kernel
theorem dX11_clears_15 : decode cX11_clears 15 = .ok (.invokevirtual 88, 3) := by decide +kernel
theorem dX11_clears_18 : decode cX11_clears 18 = .ok (.ireturn, 1) := by decide +kernel
theorem dX11_clears_19 : decode cX11_clears 19 = .ok (.aload_n 0, 1) := by decide +kernel
theorem dX11_clears_20 : decode cX11_clears 20 = .ok (.getfield 7, 3) := by decide +kernel
theorem dX11_clears_23 : decode cX11_clears 23 = .ok (.iconst 4, 1) := by decide +kernel
theorem dX11_clears_24 : decode cX11_clears 24 = .ok (.iload_n 1, 1) := by decide +kernel
theorem dX11_clears_25 : decode cX11_clears 25 = .ok (.iadd, 1) := by decide +kernel
theorem dX11_clears_26 : decode cX11_clears 26 = .ok (.iaload, 1) := by decide +kernel
theorem dX11_clears_27 : decode cX11_clears 27 = .ok (.istore_n 2, 1) := by decide +kernel
theorem dX11_clears_28 : decode cX11_clears 28 = .ok (.aload_n 0, 1) := by decide +kernel
theorem dX11_clears_29 : decode cX11_clears 29 = .ok (.getfield 7, 3) := by decide +kernel
theorem dX11_clears_32 : decode cX11_clears 32 = .ok (.iconst 4, 1) := by decide +kernel
theorem dX11_clears_33 : decode cX11_clears 33 = .ok (.iload_n 1, 1) := by decide +kernel
theorem dX11_clears_34 : decode cX11_clears 34 = .ok (.iadd, 1) := by decide +kernel
theorem dX11_clears_35 : decode cX11_clears 35 = .ok (.iconst 0, 1) := by decide +kernel
theorem dX11_clears_36 : decode cX11_clears 36 = .ok (.iastore, 1) := by decide +kernel
theorem dX11_clears_37 : decode cX11_clears 37 = .ok (.iload_n 2, 1) := by decide +kernel
theorem dX11_clears_38 : decode cX11_clears 38 = .ok (.ireturn, 1) := by decide +kernel
theorem dX11_type_0 : decode cX11_type 0 = .ok (.iload_n 3, 1) := by decide +kernel
theorem dX11_type_1 : decode cX11_type 1 = .ok (.i2l, 1) := by decide +kernel
theorem dX11_type_2 : decode cX11_type 2 = .ok (.lconst 1, 1) := by decide +kernel
theorem dX11_type_3 : decode cX11_type 3 = .ok (.ldc2_w 102, 3) := by decide +kernel
theorem dX11_type_6 : decode cX11_type 6 = .ok (.invokestatic 78, 3) := by decide +kernel
theorem dX11_type_9 : decode cX11_type 9 = .ok (.ifCond .ne 10, 3) := by decide +kernel
theorem dX11_type_12 : decode cX11_type 12 = .ok (.aload_n 0, 1) := by decide +kernel
theorem dX11_type_13 : decode cX11_type 13 = .ok (.bipush (-2), 2) := by decide +kernel
theorem dX11_type_15 : decode cX11_type 15 = .ok (.invokevirtual 88, 3) := by decide +kernel
theorem dX11_type_18 : decode cX11_type 18 = .ok (.ireturn, 1) := by decide +kernel
theorem dX11_type_19 : decode cX11_type 19 = .ok (.aload_n 0, 1) := by decide +kernel
theorem dX11_type_20 : decode cX11_type 20 = .ok (.getfield 104, 3) := by decide +kernel
theorem dX11_type_23 : decode cX11_type 23 = .ok (.iload_n 3, 1) := by decide +kernel
theorem dX11_type_24 : decode cX11_type 24 = .ok (.iadd, 1) := by decide +kernel
theorem dX11_type_25 : decode cX11_type 25 = .ok (.sipush 250, 3) := by decide +kernel
theorem dX11_type_28 : decode cX11_type 28 = .ok (.if_icmp .le 10, 3) := by decide +kernel
theorem dX11_type_31 : decode cX11_type 31 = .ok (.aload_n 0, 1) := by decide +kernel
theorem dX11_type_32 : decode cX11_type 32 = .ok (.bipush (-4), 2) := by decide +kernel
theorem dX11_type_34 : decode cX11_type 34 = .ok (.invokevirtual 88, 3) := by decide +kernel
theorem dX11_type_37 : decode cX11_type 37 = .ok (.ireturn, 1) := by decide +kernel
theorem dX11_type_38 : decode cX11_type 38 = .ok (.iload_n 3, 1) := by decide +kernel
theorem dX11_type_39 : decode cX11_type 39 = .ok (.iconst 1, 1) := by decide +kernel
theorem dX11_type_40 : decode cX11_type 40 = .ok (.isub, 1) := by decide +kernel
theorem dX11_type_41 : decode cX11_type 41 = .ok (.istore 4, 2) := by decide +kernel
theorem dX11_type_43 : decode cX11_type 43 = .ok (.iload 4, 2) := by decide +kernel
theorem dX11_type_45 : decode cX11_type 45 = .ok (.ifCond .lt 40, 3) := by decide +kernel
theorem dX11_type_48 : decode cX11_type 48 = .ok (.aload_n 0, 1) := by decide +kernel
theorem dX11_type_49 : decode cX11_type 49 = .ok (.getfield 20, 3) := by decide +kernel
theorem dX11_type_52 : decode cX11_type 52 = .ok (.aload_n 0, 1) := by decide +kernel
theorem dX11_type_53 : decode cX11_type 53 = .ok (.getfield 104, 3) := by decide +kernel
theorem dX11_type_56 : decode cX11_type 56 = .ok (.lload_n 1, 1) := by decide +kernel
theorem dX11_type_57 : decode cX11_type 57 = .ok (.bipush 8, 2) := by decide +kernel
theorem dX11_type_59 : decode cX11_type 59 = .ok (.iload 4, 2) := by decide +kernel
theorem dX11_type_61 : decode cX11_type 61 = .ok (.imul, 1) := by decide +kernel
theorem dX11_type_62 : decode cX11_type 62 = .ok (.lshr, 1) := by decide +kernel
theorem dX11_type_63 : decode cX11_type 63 = .ok (.ldc2_w 107, 3) := by decide +kernel
theorem dX11_type_66 : decode cX11_type 66 = .ok (.land, 1) := by decide +kernel
theorem dX11_type_67 : decode cX11_type 67 = .ok (.l2i, 1) := by decide +kernel
theorem dX11_type_68 : decode cX11_type 68 = .ok (.iastore, 1) := by decide +kernel
theorem dX11_type_69 : decode cX11_type 69 = .ok (.aload_n 0, 1) := by decide +kernel
theorem dX11_type_70 : decode cX11_type 70 = .ok (.dup, 1) := by decide +kernel
theorem dX11_type_71 : decode cX11_type 71 = .ok (.getfield 104, 3) := by decide +kernel
theorem dX11_type_74 : decode cX11_type 74 = .ok (.iconst 1, 1) := by decide +kernel
theorem dX11_type_75 : decode cX11_type 75 = .ok (.iadd, 1) := by decide +kernel
theorem dX11_type_76 : decode cX11_type 76 = .ok (.putfield 104, 3) := by decide +kernel
theorem dX11_type_79 : decode cX11_type 79 = .ok (.iinc 4 (-1), 3) := by decide +kernel
theorem dX11_type_82 : decode cX11_type 82 = .ok (.goto (-39), 3) := by decide +kernel
theorem dX11_type_85 : decode cX11_type 85 = .ok (.aload_n 0, 1) := by decide +kernel
theorem dX11_type_86 : decode cX11_type 86 = .ok (.getfield 104, 3) := by decide +kernel
theorem dX11_type_89 : decode cX11_type 89 = .ok (.ireturn, 1) := by decide +kernel
theorem dX11_wipe_0 : decode cX11_wipe 0 = .ok (.aload_n 0, 1) := by decide +kernel
theorem dX11_wipe_1 : decode cX11_wipe 1 = .ok (.getfield 104, 3) := by decide +kernel
theorem dX11_wipe_4 : decode cX11_wipe 4 = .ok (.istore_n 1, 1) := by decide +kernel
theorem dX11_wipe_5 : decode cX11_wipe 5 = .ok (.aload_n 0, 1) := by decide +kernel
theorem dX11_wipe_6 : decode cX11_wipe 6 = .ok (.iconst 0, 1) := by decide +kernel
theorem dX11_wipe_7 : decode cX11_wipe 7 = .ok (.putfield 104, 3) := by decide +kernel
theorem dX11_wipe_10 : decode cX11_wipe 10 = .ok (.iload_n 1, 1) := by decide +kernel
theorem dX11_wipe_11 : decode cX11_wipe 11 = .ok (.ireturn, 1) := by decide +kernel
theorem dX11_isLetter_0 : decode cX11_isLetter 0 = .ok (.iload_n 0, 1) := by decide +kernel
theorem dX11_isLetter_1 : decode cX11_isLetter 1 = .ok (.i2l, 1) := by decide +kernel
theorem dX11_isLetter_2 : decode cX11_isLetter 2 = .ok (.ldc2_w 109, 3) := by decide +kernel
theorem dX11_isLetter_5 : decode cX11_isLetter 5 = .ok (.ldc2_w 111, 3) := by decide +kernel
theorem dX11_isLetter_8 : decode cX11_isLetter 8 = .ok (.invokestatic 78, 3) := by decide +kernel
theorem dX11_isLetter_11 : decode cX11_isLetter 11 = .ok (.ireturn, 1) := by decide +kernel
theorem dX11_isFigure_0 : decode cX11_isFigure 0 = .ok (.iload_n 0, 1) := by decide +kernel
theorem dX11_isFigure_1 : decode cX11_isFigure 1 = .ok (.i2l, 1) := by decide +kernel
theorem dX11_isFigure_2 : decode cX11_isFigure 2 = .ok (.ldc2_w 113, 3) := by decide +kernel
theorem dX11_isFigure_5 : decode cX11_isFigure 5 = .ok (.ldc2_w 115, 3) := by decide +kernel
theorem dX11_isFigure_8 : decode cX11_isFigure 8 = .ok (.invokestatic 78, 3) := by decide +kernel
theorem dX11_isFigure_11 : decode cX11_isFigure 11 = .ok (.ireturn, 1) := by decide +kernel
theorem dX11_next_0 : decode cX11_next 0 = .ok (.aload_n 0, 1) := by decide +kernel
theorem dX11_next_1 : decode cX11_next 1 = .ok (.getfield 117, 3) := by decide +kernel
theorem dX11_next_4 : decode cX11_next 4 = .ok (.aload_n 0, 1) := by decide +kernel
theorem dX11_next_5 : decode cX11_next 5 = .ok (.getfield 104, 3) := by decide +kernel
theorem dX11_next_8 : decode cX11_next 8 = .ok (.if_icmp .ge 30, 3) := by decide +kernel
theorem dX11_next_11 : decode cX11_next 11 = .ok (.aload_n 0, 1) := by decide +kernel
theorem dX11_next_12 : decode cX11_next 12 = .ok (.getfield 20, 3) := by decide +kernel
theorem dX11_next_15 : decode cX11_next 15 = .ok (.aload_n 0, 1) := by decide +kernel
theorem dX11_next_16 : decode cX11_next 16 = .ok (.getfield 117, 3) := by decide +kernel
theorem dX11_next_19 : decode cX11_next 19 = .ok (.iaload, 1) := by decide +kernel
theorem dX11_next_20 : decode cX11_next 20 = .ok (.bipush 32, 2) := by decide +kernel
theorem dX11_next_22 : decode cX11_next 22 = .ok (.if_icmp .ne 16, 3) := by decide +kernel
theorem dX11_next_25 : decode cX11_next 25 = .ok (.aload_n 0, 1) := by decide +kernel
theorem dX11_next_26 : decode cX11_next 26 = .ok (.dup, 1) := by decide +kernel
theorem dX11_next_27 : decode cX11_next 27 = .ok (.getfield 117, 3) := by decide +kernel
theorem dX11_next_30 : decode cX11_next 30 = .ok (.iconst 1, 1) := by decide +kernel
theorem dX11_next_31 : decode cX11_next 31 = .ok (.iadd, 1) := by decide +kernel
theorem dX11_next_32 : decode cX11_next 32 = .ok (.putfield 117, 3) := by decide +kernel
theorem dX11_next_35 : decode cX11_next 35 = .ok (.goto (-35), 3) := by decide +kernel
theorem dX11_next_38 : decode cX11_next 38 = .ok (.aload_n 0, 1) := by decide +kernel
theorem dX11_next_39 : decode cX11_next 39 = .ok (.aload_n 0, 1) := by decide +kernel
theorem dX11_next_40 : decode cX11_next 40 = .ok (.getfield 117, 3) := by decide +kernel
theorem dX11_next_43 : decode cX11_next 43 = .ok (.putfield 120, 3) := by decide +kernel
theorem dX11_next_46 : decode cX11_next 46 = .ok (.aload_n 0, 1) := by decide +kernel
theorem dX11_next_47 : decode cX11_next 47 = .ok (.lconst 0, 1) := by decide +kernel
theorem dX11_next_48 : decode cX11_next 48 = .ok (.putfield 123, 3) := by decide +kernel
theorem dX11_next_51 : decode cX11_next 51 = .ok (.aload_n 0, 1) := by decide +kernel
theorem dX11_next_52 : decode cX11_next 52 = .ok (.getfield 117, 3) := by decide +kernel
theorem dX11_next_55 : decode cX11_next 55 = .ok (.aload_n 0, 1) := by decide +kernel
theorem dX11_next_56 : decode cX11_next 56 = .ok (.getfield 104, 3) := by decide +kernel
theorem dX11_next_59 : decode cX11_next 59 = .ok (.if_icmp .ge 15, 3) := by decide +kernel
theorem dX11_next_62 : decode cX11_next 62 = .ok (.aload_n 0, 1) := by decide +kernel
theorem dX11_next_63 : decode cX11_next 63 = .ok (.getfield 20, 3) := by decide +kernel
theorem dX11_next_66 : decode cX11_next 66 = .ok (.aload_n 0, 1) := by decide +kernel
theorem dX11_next_67 : decode cX11_next 67 = .ok (.getfield 117, 3) := by decide +kernel
theorem dX11_next_70 : decode cX11_next 70 = .ok (.iaload, 1) := by decide +kernel
theorem dX11_next_71 : decode cX11_next 71 = .ok (.goto 4, 3) := by decide +kernel
theorem dX11_next_74 : decode cX11_next 74 = .ok (.iconst (-1), 1) := by decide +kernel
theorem dX11_next_75 : decode cX11_next 75 = .ok (.istore_n 1, 1) := by decide +kernel
theorem dX11_next_76 : decode cX11_next 76 = .ok (.aload_n 0, 1) := by decide +kernel
theorem dX11_next_77 : decode cX11_next 77 = .ok (.iload_n 1, 1) := by decide +kernel
theorem dX11_next_78 : decode cX11_next 78 = .ok (.ifCond .ge 7, 3) := by decide +kernel
theorem dX11_next_81 : decode cX11_next 81 = .ok (.iconst 0, 1) := by decide +kernel
theorem dX11_next_82 : decode cX11_next 82 = .ok (.goto 46, 3) := by decide +kernel
theorem dX11_next_85 : decode cX11_next 85 = .ok (.iload_n 1, 1) := by decide +kernel
theorem dX11_next_86 : decode cX11_next 86 = .ok (.invokestatic 127, 3) := by decide +kernel
theorem dX11_next_89 : decode cX11_next 89 = .ok (.ifCond .eq 7, 3) := by decide +kernel
theorem dX11_next_92 : decode cX11_next 92 = .ok (.iconst 1, 1) := by decide +kernel
theorem dX11_next_93 : decode cX11_next 93 = .ok (.goto 35, 3) := by decide +kernel
theorem dX11_next_96 : decode cX11_next 96 = .ok (.iload_n 1, 1) := by decide +kernel
theorem dX11_next_97 : decode cX11_next 97 = .ok (.invokestatic 131, 3) := by decide +kernel
theorem dX11_next_100 : decode cX11_next 100 = .ok (.ifCond .eq 7, 3) := by decide +kernel
theorem dX11_next_103 : decode cX11_next 103 = .ok (.iconst 2, 1) := by decide +kernel
theorem dX11_next_104 : decode cX11_next 104 = .ok (.goto 24, 3) := by decide +kernel
theorem dX11_next_107 : decode cX11_next 107 = .ok (.iload_n 1, 1) := by decide +kernel
theorem dX11_next_108 : decode cX11_next 108 = .ok (.bipush 45, 2) := by decide +kernel
theorem dX11_next_110 : decode cX11_next 110 = .ok (.if_icmp .ne 7, 3) := by decide +kernel
theorem dX11_next_113 : decode cX11_next 113 = .ok (.iconst 3, 1) := by decide +kernel
theorem dX11_next_114 : decode cX11_next 114 = .ok (.goto 14, 3) := by decide +kernel
theorem dX11_next_117 : decode cX11_next 117 = .ok (.iload_n 1, 1) := by decide +kernel
theorem dX11_next_118 : decode cX11_next 118 = .ok (.bipush 59, 2) := by decide +kernel
theorem dX11_next_120 : decode cX11_next 120 = .ok (.if_icmp .ne 7, 3) := by decide +kernel
theorem dX11_next_123 : decode cX11_next 123 = .ok (.iconst 4, 1) := by decide +kernel
theorem dX11_next_124 : decode cX11_next 124 = .ok (.goto 4, 3) := by decide +kernel
theorem dX11_next_127 : decode cX11_next 127 = .ok (.iconst 5, 1) := by decide +kernel
theorem dX11_next_128 : decode cX11_next 128 = .ok (.putfield 134, 3) := by decide +kernel
theorem dX11_next_131 : decode cX11_next 131 = .ok (.aload_n 0, 1) := by decide +kernel
theorem dX11_next_132 : decode cX11_next 132 = .ok (.dup, 1) := by decide +kernel
theorem dX11_next_133 : decode cX11_next 133 = .ok (.getfield 117, 3) := by decide +kernel
theorem dX11_next_136 : decode cX11_next 136 = .ok (.aload_n 0, 1) := by decide +kernel
theorem dX11_next_137 : decode cX11_next 137 = .ok (.getfield 134, 3) := by decide +kernel
theorem dX11_next_140 : decode cX11_next 140 = .ok (.iconst 3, 1) := by decide +kernel
theorem dX11_next_141 : decode cX11_next 141 = .ok (.if_icmp .eq 11, 3) := by decide +kernel
theorem dX11_next_144 : decode cX11_next 144 = .ok (.aload_n 0, 1) := by decide +kernel
theorem dX11_next_145 : decode cX11_next 145 = .ok (.getfield 134, 3) := by decide +kernel
theorem dX11_next_148 : decode cX11_next 148 = .ok (.iconst 4, 1) := by decide +kernel
theorem dX11_next_149 : decode cX11_next 149 = .ok (.if_icmp .ne 7, 3) := by decide +kernel
theorem dX11_next_152 : decode cX11_next 152 = .ok (.iconst 1, 1) := by decide +kernel
theorem dX11_next_153 : decode cX11_next 153 = .ok (.goto 4, 3) := by decide +kernel
theorem dX11_next_156 : decode cX11_next 156 = .ok (.iconst 0, 1) := by decide +kernel
theorem dX11_next_157 : decode cX11_next 157 = .ok (.iadd, 1) := by decide +kernel
theorem dX11_next_158 : decode cX11_next 158 = .ok (.putfield 117, 3) := by decide +kernel
theorem dX11_next_161 : decode cX11_next 161 = .ok (.aload_n 0, 1) := by decide +kernel
theorem dX11_next_162 : decode cX11_next 162 = .ok (.getfield 134, 3) := by decide +kernel
theorem dX11_next_165 : decode cX11_next 165 = .ok (.iconst 1, 1) := by decide +kernel
theorem dX11_next_166 : decode cX11_next 166 = .ok (.if_icmp .ne 89, 3) := by decide +kernel
theorem dX11_next_169 : decode cX11_next 169 = .ok (.aload_n 0, 1) := by decide +kernel
theorem dX11_next_170 : decode cX11_next 170 = .ok (.getfield 117, 3) := by decide +kernel
theorem dX11_next_173 : decode cX11_next 173 = .ok (.aload_n 0, 1) := by decide +kernel
theorem dX11_next_174 : decode cX11_next 174 = .ok (.getfield 104, 3) := by decide +kernel
theorem dX11_next_177 : decode cX11_next 177 = .ok (.if_icmp .ge 78, 3) := by decide +kernel
theorem dX11_next_180 : decode cX11_next 180 = .ok (.aload_n 0, 1) := by decide +kernel
theorem dX11_next_181 : decode cX11_next 181 = .ok (.getfield 20, 3) := by decide +kernel
theorem dX11_next_184 : decode cX11_next 184 = .ok (.aload_n 0, 1) := by decide +kernel
theorem dX11_next_185 : decode cX11_next 185 = .ok (.getfield 117, 3) := by decide +kernel
theorem dX11_next_188 : decode cX11_next 188 = .ok (.iaload, 1) := by decide +kernel
theorem dX11_next_189 : decode cX11_next 189 = .ok (.invokestatic 127, 3) := by decide +kernel
theorem dX11_next_192 : decode cX11_next 192 = .ok (.ifCond .eq 63, 3) := by decide +kernel
theorem dX11_next_195 : decode cX11_next 195 = .ok (.aload_n 0, 1) := by decide +kernel
theorem dX11_next_196 : decode cX11_next 196 = .ok (.aload_n 0, 1) := by decide +kernel
theorem dX11_next_197 : decode cX11_next 197 = .ok (.getfield 117, 3) := by decide +kernel
theorem dX11_next_200 : decode cX11_next 200 = .ok (.aload_n 0, 1) := by decide +kernel
theorem dX11_next_201 : decode cX11_next 201 = .ok (.getfield 120, 3) := by decide +kernel
theorem dX11_next_204 : decode cX11_next 204 = .ok (.isub, 1) := by decide +kernel
theorem dX11_next_205 : decode cX11_next 205 = .ok (.bipush 7, 2) := by decide +kernel
theorem dX11_next_207 : decode cX11_next 207 = .ok (.if_icmp .ge 29, 3) := by decide +kernel
theorem dX11_next_210 : decode cX11_next 210 = .ok (.ldc2_w 137, 3) := by decide +kernel
theorem dX11_next_213 : decode cX11_next 213 = .ok (.aload_n 0, 1) := by decide +kernel
theorem dX11_next_214 : decode cX11_next 214 = .ok (.getfield 123, 3) := by decide +kernel
theorem dX11_next_217 : decode cX11_next 217 = .ok (.lmul, 1) := by decide +kernel
theorem dX11_next_218 : decode cX11_next 218 = .ok (.aload_n 0, 1) := by decide +kernel
theorem dX11_next_219 : decode cX11_next 219 = .ok (.getfield 20, 3) := by decide +kernel
theorem dX11_next_222 : decode cX11_next 222 = .ok (.aload_n 0, 1) := by decide +kernel
theorem dX11_next_223 : decode cX11_next 223 = .ok (.getfield 117, 3) := by decide +kernel
theorem dX11_next_226 : decode cX11_next 226 = .ok (.iaload, 1) := by decide +kernel
theorem dX11_next_227 : decode cX11_next 227 = .ok (.i2l, 1) := by decide +kernel
theorem dX11_next_228 : decode cX11_next 228 = .ok (.ladd, 1) := by decide +kernel
theorem dX11_next_229 : decode cX11_next 229 = .ok (.ldc2_w 139, 3) := by decide +kernel
theorem dX11_next_232 : decode cX11_next 232 = .ok (.lsub, 1) := by decide +kernel
theorem dX11_next_233 : decode cX11_next 233 = .ok (.goto 6, 3) := by decide +kernel
theorem dX11_next_236 : decode cX11_next 236 = .ok (.ldc2_w 141, 3) := by decide +kernel
theorem dX11_next_239 : decode cX11_next 239 = .ok (.putfield 123, 3) := by decide +kernel
theorem dX11_next_242 : decode cX11_next 242 = .ok (.aload_n 0, 1) := by decide +kernel
theorem dX11_next_243 : decode cX11_next 243 = .ok (.dup, 1) := by decide +kernel
theorem dX11_next_244 : decode cX11_next 244 = .ok (.getfield 117, 3) := by decide +kernel
theorem dX11_next_247 : decode cX11_next 247 = .ok (.iconst 1, 1) := by decide +kernel
theorem dX11_next_248 : decode cX11_next 248 = .ok (.iadd, 1) := by decide +kernel
theorem dX11_next_249 : decode cX11_next 249 = .ok (.putfield 117, 3) := by decide +kernel
theorem dX11_next_252 : decode cX11_next 252 = .ok (.goto (-91), 3) := by decide +kernel
theorem dX11_next_255 : decode cX11_next 255 = .ok (.aload_n 0, 1) := by decide +kernel
theorem dX11_next_256 : decode cX11_next 256 = .ok (.getfield 134, 3) := by decide +kernel
theorem dX11_next_259 : decode cX11_next 259 = .ok (.iconst 2, 1) := by decide +kernel
theorem dX11_next_260 : decode cX11_next 260 = .ok (.if_icmp .ne 88, 3) := by decide +kernel
theorem dX11_next_263 : decode cX11_next 263 = .ok (.aload_n 0, 1) := by decide +kernel
theorem dX11_next_264 : decode cX11_next 264 = .ok (.getfield 117, 3) := by decide +kernel
theorem dX11_next_267 : decode cX11_next 267 = .ok (.aload_n 0, 1) := by decide +kernel
theorem dX11_next_268 : decode cX11_next 268 = .ok (.getfield 104, 3) := by decide +kernel
theorem dX11_next_271 : decode cX11_next 271 = .ok (.if_icmp .ge 77, 3) := by decide +kernel
theorem dX11_next_274 : decode cX11_next 274 = .ok (.aload_n 0, 1) := by decide +kernel
theorem dX11_next_275 : decode cX11_next 275 = .ok (.getfield 20, 3) := by decide +kernel
theorem dX11_next_278 : decode cX11_next 278 = .ok (.aload_n 0, 1) := by decide +kernel
theorem dX11_next_279 : decode cX11_next 279 = .ok (.getfield 117, 3) := by decide +kernel
theorem dX11_next_282 : decode cX11_next 282 = .ok (.iaload, 1) := by decide +kernel
theorem dX11_next_283 : decode cX11_next 283 = .ok (.invokestatic 131, 3) := by decide +kernel
theorem dX11_next_286 : decode cX11_next 286 = .ok (.ifCond .eq 62, 3) := by decide +kernel
theorem dX11_next_289 : decode cX11_next 289 = .ok (.aload_n 0, 1) := by decide +kernel
theorem dX11_next_290 : decode cX11_next 290 = .ok (.aload_n 0, 1) := by decide +kernel
theorem dX11_next_291 : decode cX11_next 291 = .ok (.getfield 117, 3) := by decide +kernel
theorem dX11_next_294 : decode cX11_next 294 = .ok (.aload_n 0, 1) := by decide +kernel
theorem dX11_next_295 : decode cX11_next 295 = .ok (.getfield 120, 3) := by decide +kernel
theorem dX11_next_298 : decode cX11_next 298 = .ok (.isub, 1) := by decide +kernel
theorem dX11_next_299 : decode cX11_next 299 = .ok (.iconst 3, 1) := by decide +kernel
theorem dX11_next_300 : decode cX11_next 300 = .ok (.if_icmp .ge 29, 3) := by decide +kernel
theorem dX11_next_303 : decode cX11_next 303 = .ok (.ldc2_w 143, 3) := by decide +kernel
theorem dX11_next_306 : decode cX11_next 306 = .ok (.aload_n 0, 1) := by decide +kernel
theorem dX11_next_307 : decode cX11_next 307 = .ok (.getfield 123, 3) := by decide +kernel
theorem dX11_next_310 : decode cX11_next 310 = .ok (.lmul, 1) := by decide +kernel
theorem dX11_next_311 : decode cX11_next 311 = .ok (.aload_n 0, 1) := by decide +kernel
theorem dX11_next_312 : decode cX11_next 312 = .ok (.getfield 20, 3) := by decide +kernel
theorem dX11_next_315 : decode cX11_next 315 = .ok (.aload_n 0, 1) := by decide +kernel
theorem dX11_next_316 : decode cX11_next 316 = .ok (.getfield 117, 3) := by decide +kernel
theorem dX11_next_319 : decode cX11_next 319 = .ok (.iaload, 1) := by decide +kernel
theorem dX11_next_320 : decode cX11_next 320 = .ok (.i2l, 1) := by decide +kernel
theorem dX11_next_321 : decode cX11_next 321 = .ok (.ladd, 1) := by decide +kernel
theorem dX11_next_322 : decode cX11_next 322 = .ok (.ldc2_w 113, 3) := by decide +kernel
theorem dX11_next_325 : decode cX11_next 325 = .ok (.lsub, 1) := by decide +kernel
theorem dX11_next_326 : decode cX11_next 326 = .ok (.goto 6, 3) := by decide +kernel
theorem dX11_next_329 : decode cX11_next 329 = .ok (.ldc2_w 145, 3) := by decide +kernel
theorem dX11_next_332 : decode cX11_next 332 = .ok (.putfield 123, 3) := by decide +kernel
theorem dX11_next_335 : decode cX11_next 335 = .ok (.aload_n 0, 1) := by decide +kernel
theorem dX11_next_336 : decode cX11_next 336 = .ok (.dup, 1) := by decide +kernel
theorem dX11_next_337 : decode cX11_next 337 = .ok (.getfield 117, 3) := by decide +kernel
theorem dX11_next_340 : decode cX11_next 340 = .ok (.iconst 1, 1) := by decide +kernel
theorem dX11_next_341 : decode cX11_next 341 = .ok (.iadd, 1) := by decide +kernel
theorem dX11_next_342 : decode cX11_next 342 = .ok (.putfield 117, 3) := by decide +kernel
theorem dX11_next_345 : decode cX11_next 345 = .ok (.goto (-90), 3) := by decide +kernel
theorem dX11_next_348 : decode cX11_next 348 = .ok (.return_, 1) := by decide +kernel
theorem dX11_takes_0 : decode cX11_takes 0 = .ok (.aload_n 0, 1) := by decide +kernel
theorem dX11_takes_1 : decode cX11_takes 1 = .ok (.invokevirtual 147, 3) := by decide +kernel
theorem dX11_takes_4 : decode cX11_takes 4 = .ok (.aload_n 0, 1) := by decide +kernel
theorem dX11_takes_5 : decode cX11_takes 5 = .ok (.getfield 134, 3) := by decide +kernel
theorem dX11_takes_8 : decode cX11_takes 8 = .ok (.iconst 2, 1) := by decide +kernel
theorem dX11_takes_9 : decode cX11_takes 9 = .ok (.if_icmp .ne 21, 3) := by decide +kernel
theorem dX11_takes_12 : decode cX11_takes 12 = .ok (.aload_n 0, 1) := by decide +kernel
theorem dX11_takes_13 : decode cX11_takes 13 = .ok (.getfield 123, 3) := by decide +kernel
theorem dX11_takes_16 : decode cX11_takes 16 = .ok (.iload_n 1, 1) := by decide +kernel
theorem dX11_takes_17 : decode cX11_takes 17 = .ok (.i2l, 1) := by decide +kernel
theorem dX11_takes_18 : decode cX11_takes 18 = .ok (.iload_n 2, 1) := by decide +kernel
theorem dX11_takes_19 : decode cX11_takes 19 = .ok (.i2l, 1) := by decide +kernel
theorem dX11_takes_20 : decode cX11_takes 20 = .ok (.invokestatic 78, 3) := by decide +kernel
theorem dX11_takes_23 : decode cX11_takes 23 = .ok (.ifCond .eq 7, 3) := by decide +kernel
theorem dX11_takes_26 : decode cX11_takes 26 = .ok (.iconst 1, 1) := by decide +kernel
theorem dX11_takes_27 : decode cX11_takes 27 = .ok (.goto 4, 3) := by decide +kernel
theorem dX11_takes_30 : decode cX11_takes 30 = .ok (.iconst 0, 1) := by decide +kernel
theorem dX11_takes_31 : decode cX11_takes 31 = .ok (.ireturn, 1) := by decide +kernel
theorem dX11_stops_0 : decode cX11_stops 0 = .ok (.aload_n 0, 1) := by decide +kernel
theorem dX11_stops_1 : decode cX11_stops 1 = .ok (.invokevirtual 147, 3) := by decide +kernel
theorem dX11_stops_4 : decode cX11_stops 4 = .ok (.aload_n 0, 1) := by decide +kernel
theorem dX11_stops_5 : decode cX11_stops 5 = .ok (.getfield 134, 3) := by decide +kernel
theorem dX11_stops_8 : decode cX11_stops 8 = .ok (.iconst 4, 1) := by decide +kernel
theorem dX11_stops_9 : decode cX11_stops 9 = .ok (.if_icmp .ne 7, 3) := by decide +kernel
theorem dX11_stops_12 : decode cX11_stops 12 = .ok (.iconst 1, 1) := by decide +kernel
theorem dX11_stops_13 : decode cX11_stops 13 = .ok (.goto 4, 3) := by decide +kernel
theorem dX11_stops_16 : decode cX11_stops 16 = .ok (.iconst 0, 1) := by decide +kernel
theorem dX11_stops_17 : decode cX11_stops 17 = .ok (.ireturn, 1) := by decide +kernel
theorem dX11_takesPut_0 : decode cX11_takesPut 0 = .ok (.aload_n 0, 1) := by decide +kernel
theorem dX11_takesPut_1 : decode cX11_takesPut 1 = .ok (.iload_n 1, 1) := by decide +kernel
theorem dX11_takesPut_2 : decode cX11_takesPut 2 = .ok (.ifCond .ne 7, 3) := by decide +kernel
theorem dX11_takesPut_5 : decode cX11_takesPut 5 = .ok (.iconst 1, 1) := by decide +kernel
theorem dX11_takesPut_6 : decode cX11_takesPut 6 = .ok (.goto 4, 3) := by decide +kernel
theorem dX11_takesPut_9 : decode cX11_takesPut 9 = .ok (.iconst 0, 1) := by decide +kernel
theorem dX11_takesPut_10 : decode cX11_takesPut 10 = .ok (.iload_n 1, 1) := by decide +kernel
theorem dX11_takesPut_11 : decode cX11_takesPut 11 = .ok (.ifCond .ne 7, 3) := by decide +kernel
theorem dX11_takesPut_14 : decode cX11_takesPut 14 = .ok (.iconst 4, 1) := by decide +kernel
theorem dX11_takesPut_15 : decode cX11_takesPut 15 = .ok (.goto 15, 3) := by decide +kernel
theorem dX11_takesPut_18 : decode cX11_takesPut 18 = .ok (.iload_n 1, 1) := by decide +kernel
theorem dX11_takesPut_19 : decode cX11_takesPut 19 = .ok (.iconst 1, 1) := by decide +kernel
theorem dX11_takesPut_20 : decode cX11_takesPut 20 = .ok (.if_icmp .ne 7, 3) := by decide +kernel
theorem dX11_takesPut_23 : decode cX11_takesPut 23 = .ok (.iconst 1, 1) := by decide +kernel
theorem dX11_takesPut_24 : decode cX11_takesPut 24 = .ok (.goto 6, 3) := by decide +kernel
theorem dX11_takesPut_27 : decode cX11_takesPut 27 = .ok (.sipush 240, 3) := by decide +kernel
theorem dX11_takesPut_30 : decode cX11_takesPut 30 = .ok (.invokevirtual 150, 3) := by decide +kernel
theorem dX11_takesPut_33 : decode cX11_takesPut 33 = .ok (.ifCond .ne 5, 3) := by decide +kernel
theorem dX11_takesPut_36 : decode cX11_takesPut 36 = .ok (.iconst 0, 1) := by decide +kernel
theorem dX11_takesPut_37 : decode cX11_takesPut 37 = .ok (.ireturn, 1) := by decide +kernel
theorem dX11_takesPut_38 : decode cX11_takesPut 38 = .ok (.aload_n 0, 1) := by decide +kernel
theorem dX11_takesPut_39 : decode cX11_takesPut 39 = .ok (.getfield 36, 3) := by decide +kernel
theorem dX11_takesPut_42 : decode cX11_takesPut 42 = .ok (.iconst 0, 1) := by decide +kernel
theorem dX11_takesPut_43 : decode cX11_takesPut 43 = .ok (.iload_n 1, 1) := by decide +kernel
theorem dX11_takesPut_44 : decode cX11_takesPut 44 = .ok (.iadd, 1) := by decide +kernel
theorem dX11_takesPut_45 : decode cX11_takesPut 45 = .ok (.aload_n 0, 1) := by decide +kernel
theorem dX11_takesPut_46 : decode cX11_takesPut 46 = .ok (.getfield 123, 3) := by decide +kernel
theorem dX11_takesPut_49 : decode cX11_takesPut 49 = .ok (.l2i, 1) := by decide +kernel
theorem dX11_takesPut_50 : decode cX11_takesPut 50 = .ok (.iastore, 1) := by decide +kernel
theorem dX11_takesPut_51 : decode cX11_takesPut 51 = .ok (.aload_n 0, 1) := by decide +kernel
theorem dX11_takesPut_52 : decode cX11_takesPut 52 = .ok (.invokevirtual 153, 3) := by decide +kernel
theorem dX11_takesPut_55 : decode cX11_takesPut 55 = .ok (.ireturn, 1) := by decide +kernel
theorem dX11_takesPerson_0 : decode cX11_takesPerson 0 = .ok (.aload_n 0, 1) := by decide +kernel
theorem dX11_takesPerson_1 : decode cX11_takesPerson 1 = .ok (.getfield 36, 3) := by decide +kernel
theorem dX11_takesPerson_4 : decode cX11_takesPerson 4 = .ok (.iconst 3, 1) := by decide +kernel
theorem dX11_takesPerson_5 : decode cX11_takesPerson 5 = .ok (.iaload, 1) := by decide +kernel
theorem dX11_takesPerson_6 : decode cX11_takesPerson 6 = .ok (.istore_n 1, 1) := by decide +kernel
theorem dX11_takesPerson_7 : decode cX11_takesPerson 7 = .ok (.iload_n 1, 1) := by decide +kernel
theorem dX11_takesPerson_8 : decode cX11_takesPerson 8 = .ok (.iconst 5, 1) := by decide +kernel
theorem dX11_takesPerson_9 : decode cX11_takesPerson 9 = .ok (.if_icmp .eq 12, 3) := by decide +kernel
theorem dX11_takesPerson_12 : decode cX11_takesPerson 12 = .ok (.aload_n 0, 1) := by decide +kernel
theorem dX11_takesPerson_13 : decode cX11_takesPerson 13 = .ok (.iconst 0, 1) := by decide +kernel
theorem dX11_takesPerson_14 : decode cX11_takesPerson 14 = .ok (.iconst 5, 1) := by decide +kernel
theorem dX11_takesPerson_15 : decode cX11_takesPerson 15 = .ok (.invokevirtual 150, 3) := by decide +kernel
theorem dX11_takesPerson_18 : decode cX11_takesPerson 18 = .ok (.ifCond .ne 5, 3) := by decide +kernel
theorem dX11_takesPerson_21 : decode cX11_takesPerson 21 = .ok (.iconst 0, 1) := by decide +kernel
theorem dX11_takesPerson_22 : decode cX11_takesPerson 22 = .ok (.ireturn, 1) := by decide +kernel
theorem dX11_takesPerson_23 : decode cX11_takesPerson 23 = .ok (.aload_n 0, 1) := by decide +kernel
theorem dX11_takesPerson_24 : decode cX11_takesPerson 24 = .ok (.getfield 36, 3) := by decide +kernel
theorem dX11_takesPerson_27 : decode cX11_takesPerson 27 = .ok (.bipush 13, 2) := by decide +kernel
theorem dX11_takesPerson_29 : decode cX11_takesPerson 29 = .ok (.iload_n 1, 1) := by decide +kernel
theorem dX11_takesPerson_30 : decode cX11_takesPerson 30 = .ok (.iadd, 1) := by decide +kernel
theorem dX11_takesPerson_31 : decode cX11_takesPerson 31 = .ok (.aload_n 0, 1) := by decide +kernel
theorem dX11_takesPerson_32 : decode cX11_takesPerson 32 = .ok (.getfield 123, 3) := by decide +kernel
theorem dX11_takesPerson_35 : decode cX11_takesPerson 35 = .ok (.l2i, 1) := by decide +kernel
theorem dX11_takesPerson_36 : decode cX11_takesPerson 36 = .ok (.iastore, 1) := by decide +kernel
theorem dX11_takesPerson_37 : decode cX11_takesPerson 37 = .ok (.aload_n 0, 1) := by decide +kernel
theorem dX11_takesPerson_38 : decode cX11_takesPerson 38 = .ok (.iconst 0, 1) := by decide +kernel
theorem dX11_takesPerson_39 : decode cX11_takesPerson 39 = .ok (.iconst 1, 1) := by decide +kernel
theorem dX11_takesPerson_40 : decode cX11_takesPerson 40 = .ok (.invokevirtual 150, 3) := by decide +kernel
theorem dX11_takesPerson_43 : decode cX11_takesPerson 43 = .ok (.ifCond .ne 5, 3) := by decide +kernel
theorem dX11_takesPerson_46 : decode cX11_takesPerson 46 = .ok (.iconst 0, 1) := by decide +kernel
theorem dX11_takesPerson_47 : decode cX11_takesPerson 47 = .ok (.ireturn, 1) := by decide +kernel
theorem dX11_takesPerson_48 : decode cX11_takesPerson 48 = .ok (.aload_n 0, 1) := by decide +kernel
theorem dX11_takesPerson_49 : decode cX11_takesPerson 49 = .ok (.getfield 36, 3) := by decide +kernel
theorem dX11_takesPerson_52 : decode cX11_takesPerson 52 = .ok (.bipush 18, 2) := by decide +kernel
theorem dX11_takesPerson_54 : decode cX11_takesPerson 54 = .ok (.iload_n 1, 1) := by decide +kernel
theorem dX11_takesPerson_55 : decode cX11_takesPerson 55 = .ok (.iadd, 1) := by decide +kernel
theorem dX11_takesPerson_56 : decode cX11_takesPerson 56 = .ok (.aload_n 0, 1) := by decide +kernel
theorem dX11_takesPerson_57 : decode cX11_takesPerson 57 = .ok (.getfield 123, 3) := by decide +kernel
theorem dX11_takesPerson_60 : decode cX11_takesPerson 60 = .ok (.l2i, 1) := by decide +kernel
theorem dX11_takesPerson_61 : decode cX11_takesPerson 61 = .ok (.iastore, 1) := by decide +kernel
theorem dX11_takesPerson_62 : decode cX11_takesPerson 62 = .ok (.aload_n 0, 1) := by decide +kernel
theorem dX11_takesPerson_63 : decode cX11_takesPerson 63 = .ok (.getfield 36, 3) := by decide +kernel
theorem dX11_takesPerson_66 : decode cX11_takesPerson 66 = .ok (.iconst 3, 1) := by decide +kernel
theorem dX11_takesPerson_67 : decode cX11_takesPerson 67 = .ok (.dup2, 1) := by decide +kernel
theorem dX11_takesPerson_68 : decode cX11_takesPerson 68 = .ok (.iaload, 1) := by decide +kernel
theorem dX11_takesPerson_69 : decode cX11_takesPerson 69 = .ok (.iconst 1, 1) := by decide +kernel
theorem dX11_takesPerson_70 : decode cX11_takesPerson 70 = .ok (.iadd, 1) := by decide +kernel
theorem dX11_takesPerson_71 : decode cX11_takesPerson 71 = .ok (.iastore, 1) := by decide +kernel
theorem dX11_takesPerson_72 : decode cX11_takesPerson 72 = .ok (.aload_n 0, 1) := by decide +kernel
theorem dX11_takesPerson_73 : decode cX11_takesPerson 73 = .ok (.invokevirtual 153, 3) := by decide +kernel
theorem dX11_takesPerson_76 : decode cX11_takesPerson 76 = .ok (.ireturn, 1) := by decide +kernel
theorem dX11_takesTalk_0 : decode cX11_takesTalk 0 = .ok (.aload_n 0, 1) := by decide +kernel
theorem dX11_takesTalk_1 : decode cX11_takesTalk 1 = .ok (.getfield 36, 3) := by decide +kernel
theorem dX11_takesTalk_4 : decode cX11_takesTalk 4 = .ok (.iconst 4, 1) := by decide +kernel
theorem dX11_takesTalk_5 : decode cX11_takesTalk 5 = .ok (.iaload, 1) := by decide +kernel
theorem dX11_takesTalk_6 : decode cX11_takesTalk 6 = .ok (.istore_n 1, 1) := by decide +kernel
theorem dX11_takesTalk_7 : decode cX11_takesTalk 7 = .ok (.iload_n 1, 1) := by decide +kernel
theorem dX11_takesTalk_8 : decode cX11_takesTalk 8 = .ok (.bipush 16, 2) := by decide +kernel
theorem dX11_takesTalk_10 : decode cX11_takesTalk 10 = .ok (.if_icmp .eq 19, 3) := by decide +kernel
theorem dX11_takesTalk_13 : decode cX11_takesTalk 13 = .ok (.aload_n 0, 1) := by decide +kernel
theorem dX11_takesTalk_14 : decode cX11_takesTalk 14 = .ok (.iconst 0, 1) := by decide +kernel
theorem dX11_takesTalk_15 : decode cX11_takesTalk 15 = .ok (.aload_n 0, 1) := by decide +kernel
theorem dX11_takesTalk_16 : decode cX11_takesTalk 16 = .ok (.getfield 36, 3) := by decide +kernel
theorem dX11_takesTalk_19 : decode cX11_takesTalk 19 = .ok (.iconst 3, 1) := by decide +kernel
theorem dX11_takesTalk_20 : decode cX11_takesTalk 20 = .ok (.iaload, 1) := by decide +kernel
theorem dX11_takesTalk_21 : decode cX11_takesTalk 21 = .ok (.iconst 1, 1) := by decide +kernel
theorem dX11_takesTalk_22 : decode cX11_takesTalk 22 = .ok (.isub, 1) := by decide +kernel
theorem dX11_takesTalk_23 : decode cX11_takesTalk 23 = .ok (.invokevirtual 150, 3) := by decide +kernel
theorem dX11_takesTalk_26 : decode cX11_takesTalk 26 = .ok (.ifCond .ne 5, 3) := by decide +kernel
theorem dX11_takesTalk_29 : decode cX11_takesTalk 29 = .ok (.iconst 0, 1) := by decide +kernel
theorem dX11_takesTalk_30 : decode cX11_takesTalk 30 = .ok (.ireturn, 1) := by decide +kernel
theorem dX11_takesTalk_31 : decode cX11_takesTalk 31 = .ok (.aload_n 0, 1) := by decide +kernel
theorem dX11_takesTalk_32 : decode cX11_takesTalk 32 = .ok (.getfield 36, 3) := by decide +kernel
theorem dX11_takesTalk_35 : decode cX11_takesTalk 35 = .ok (.bipush 23, 2) := by decide +kernel
theorem dX11_takesTalk_37 : decode cX11_takesTalk 37 = .ok (.iload_n 1, 1) := by decide +kernel
theorem dX11_takesTalk_38 : decode cX11_takesTalk 38 = .ok (.iadd, 1) := by decide +kernel
theorem dX11_takesTalk_39 : decode cX11_takesTalk 39 = .ok (.aload_n 0, 1) := by decide +kernel
theorem dX11_takesTalk_40 : decode cX11_takesTalk 40 = .ok (.getfield 123, 3) := by decide +kernel
theorem dX11_takesTalk_43 : decode cX11_takesTalk 43 = .ok (.l2i, 1) := by decide +kernel
theorem dX11_takesTalk_44 : decode cX11_takesTalk 44 = .ok (.iastore, 1) := by decide +kernel
theorem dX11_takesTalk_45 : decode cX11_takesTalk 45 = .ok (.aload_n 0, 1) := by decide +kernel
theorem dX11_takesTalk_46 : decode cX11_takesTalk 46 = .ok (.iconst 0, 1) := by decide +kernel
theorem dX11_takesTalk_47 : decode cX11_takesTalk 47 = .ok (.sipush 239, 3) := by decide +kernel
theorem dX11_takesTalk_50 : decode cX11_takesTalk 50 = .ok (.invokevirtual 150, 3) := by decide +kernel
theorem dX11_takesTalk_53 : decode cX11_takesTalk 53 = .ok (.ifCond .ne 5, 3) := by decide +kernel
theorem dX11_takesTalk_56 : decode cX11_takesTalk 56 = .ok (.iconst 0, 1) := by decide +kernel
theorem dX11_takesTalk_57 : decode cX11_takesTalk 57 = .ok (.ireturn, 1) := by decide +kernel
theorem dX11_takesTalk_58 : decode cX11_takesTalk 58 = .ok (.aload_n 0, 1) := by decide +kernel
theorem dX11_takesTalk_59 : decode cX11_takesTalk 59 = .ok (.getfield 36, 3) := by decide +kernel
theorem dX11_takesTalk_62 : decode cX11_takesTalk 62 = .ok (.bipush 39, 2) := by decide +kernel
theorem dX11_takesTalk_64 : decode cX11_takesTalk 64 = .ok (.iload_n 1, 1) := by decide +kernel
theorem dX11_takesTalk_65 : decode cX11_takesTalk 65 = .ok (.iadd, 1) := by decide +kernel
theorem dX11_takesTalk_66 : decode cX11_takesTalk 66 = .ok (.aload_n 0, 1) := by decide +kernel
theorem dX11_takesTalk_67 : decode cX11_takesTalk 67 = .ok (.getfield 123, 3) := by decide +kernel
theorem dX11_takesTalk_70 : decode cX11_takesTalk 70 = .ok (.l2i, 1) := by decide +kernel
theorem dX11_takesTalk_71 : decode cX11_takesTalk 71 = .ok (.iastore, 1) := by decide +kernel
theorem dX11_takesTalk_72 : decode cX11_takesTalk 72 = .ok (.aload_n 0, 1) := by decide +kernel
theorem dX11_takesTalk_73 : decode cX11_takesTalk 73 = .ok (.aload_n 0, 1) := by decide +kernel
theorem dX11_takesTalk_74 : decode cX11_takesTalk 74 = .ok (.getfield 123, 3) := by decide +kernel
theorem dX11_takesTalk_77 : decode cX11_takesTalk 77 = .ok (.l2i, 1) := by decide +kernel
theorem dX11_takesTalk_78 : decode cX11_takesTalk 78 = .ok (.iconst 1, 1) := by decide +kernel
theorem dX11_takesTalk_79 : decode cX11_takesTalk 79 = .ok (.iadd, 1) := by decide +kernel
theorem dX11_takesTalk_80 : decode cX11_takesTalk 80 = .ok (.sipush 240, 3) := by decide +kernel
theorem dX11_takesTalk_83 : decode cX11_takesTalk 83 = .ok (.invokevirtual 150, 3) := by decide +kernel
theorem dX11_takesTalk_86 : decode cX11_takesTalk 86 = .ok (.ifCond .ne 5, 3) := by decide +kernel
theorem dX11_takesTalk_89 : decode cX11_takesTalk 89 = .ok (.iconst 0, 1) := by decide +kernel
theorem dX11_takesTalk_90 : decode cX11_takesTalk 90 = .ok (.ireturn, 1) := by decide +kernel
theorem dX11_takesTalk_91 : decode cX11_takesTalk 91 = .ok (.aload_n 0, 1) := by decide +kernel
theorem dX11_takesTalk_92 : decode cX11_takesTalk 92 = .ok (.getfield 36, 3) := by decide +kernel
theorem dX11_takesTalk_95 : decode cX11_takesTalk 95 = .ok (.bipush 55, 2) := by decide +kernel
theorem dX11_takesTalk_97 : decode cX11_takesTalk 97 = .ok (.iload_n 1, 1) := by decide +kernel
theorem dX11_takesTalk_98 : decode cX11_takesTalk 98 = .ok (.iadd, 1) := by decide +kernel
theorem dX11_takesTalk_99 : decode cX11_takesTalk 99 = .ok (.aload_n 0, 1) := by decide +kernel
theorem dX11_takesTalk_100 : decode cX11_takesTalk 100 = .ok (.getfield 123, 3) := by decide +kernel
theorem dX11_takesTalk_103 : decode cX11_takesTalk 103 = .ok (.l2i, 1) := by decide +kernel
theorem dX11_takesTalk_104 : decode cX11_takesTalk 104 = .ok (.iastore, 1) := by decide +kernel
theorem dX11_takesTalk_105 : decode cX11_takesTalk 105 = .ok (.aload_n 0, 1) := by decide +kernel
theorem dX11_takesTalk_106 : decode cX11_takesTalk 106 = .ok (.getfield 36, 3) := by decide +kernel
theorem dX11_takesTalk_109 : decode cX11_takesTalk 109 = .ok (.iconst 4, 1) := by decide +kernel
theorem dX11_takesTalk_110 : decode cX11_takesTalk 110 = .ok (.dup2, 1) := by decide +kernel
theorem dX11_takesTalk_111 : decode cX11_takesTalk 111 = .ok (.iaload, 1) := by decide +kernel
theorem dX11_takesTalk_112 : decode cX11_takesTalk 112 = .ok (.iconst 1, 1) := by decide +kernel
theorem dX11_takesTalk_113 : decode cX11_takesTalk 113 = .ok (.iadd, 1) := by decide +kernel
theorem dX11_takesTalk_114 : decode cX11_takesTalk 114 = .ok (.iastore, 1) := by decide +kernel
theorem dX11_takesTalk_115 : decode cX11_takesTalk 115 = .ok (.aload_n 0, 1) := by decide +kernel
theorem dX11_takesTalk_116 : decode cX11_takesTalk 116 = .ok (.invokevirtual 153, 3) := by decide +kernel
theorem dX11_takesTalk_119 : decode cX11_takesTalk 119 = .ok (.ireturn, 1) := by decide +kernel
theorem dX11_takesDue_0 : decode cX11_takesDue 0 = .ok (.aload_n 0, 1) := by decide +kernel
theorem dX11_takesDue_1 : decode cX11_takesDue 1 = .ok (.getfield 36, 3) := by decide +kernel
theorem dX11_takesDue_4 : decode cX11_takesDue 4 = .ok (.iconst 5, 1) := by decide +kernel
theorem dX11_takesDue_5 : decode cX11_takesDue 5 = .ok (.iaload, 1) := by decide +kernel
theorem dX11_takesDue_6 : decode cX11_takesDue 6 = .ok (.istore_n 1, 1) := by decide +kernel
theorem dX11_takesDue_7 : decode cX11_takesDue 7 = .ok (.iload_n 1, 1) := by decide +kernel
theorem dX11_takesDue_8 : decode cX11_takesDue 8 = .ok (.bipush 8, 2) := by decide +kernel
theorem dX11_takesDue_10 : decode cX11_takesDue 10 = .ok (.if_icmp .eq 13, 3) := by decide +kernel
theorem dX11_takesDue_13 : decode cX11_takesDue 13 = .ok (.aload_n 0, 1) := by decide +kernel
theorem dX11_takesDue_14 : decode cX11_takesDue 14 = .ok (.iconst 0, 1) := by decide +kernel
theorem dX11_takesDue_15 : decode cX11_takesDue 15 = .ok (.bipush 99, 2) := by decide +kernel
theorem dX11_takesDue_17 : decode cX11_takesDue 17 = .ok (.invokevirtual 150, 3) := by decide +kernel
theorem dX11_takesDue_20 : decode cX11_takesDue 20 = .ok (.ifCond .ne 5, 3) := by decide +kernel
theorem dX11_takesDue_23 : decode cX11_takesDue 23 = .ok (.iconst 0, 1) := by decide +kernel
theorem dX11_takesDue_24 : decode cX11_takesDue 24 = .ok (.ireturn, 1) := by decide +kernel
theorem dX11_takesDue_25 : decode cX11_takesDue 25 = .ok (.aload_n 0, 1) := by decide +kernel
theorem dX11_takesDue_26 : decode cX11_takesDue 26 = .ok (.getfield 36, 3) := by decide +kernel
theorem dX11_takesDue_29 : decode cX11_takesDue 29 = .ok (.bipush 71, 2) := by decide +kernel
theorem dX11_takesDue_31 : decode cX11_takesDue 31 = .ok (.iload_n 1, 1) := by decide +kernel
theorem dX11_takesDue_32 : decode cX11_takesDue 32 = .ok (.iadd, 1) := by decide +kernel
theorem dX11_takesDue_33 : decode cX11_takesDue 33 = .ok (.aload_n 0, 1) := by decide +kernel
theorem dX11_takesDue_34 : decode cX11_takesDue 34 = .ok (.getfield 123, 3) := by decide +kernel
theorem dX11_takesDue_37 : decode cX11_takesDue 37 = .ok (.l2i, 1) := by decide +kernel
theorem dX11_takesDue_38 : decode cX11_takesDue 38 = .ok (.iastore, 1) := by decide +kernel
theorem dX11_takesDue_39 : decode cX11_takesDue 39 = .ok (.aload_n 0, 1) := by decide +kernel
theorem dX11_takesDue_40 : decode cX11_takesDue 40 = .ok (.iconst 0, 1) := by decide +kernel
theorem dX11_takesDue_41 : decode cX11_takesDue 41 = .ok (.bipush 99, 2) := by decide +kernel
theorem dX11_takesDue_43 : decode cX11_takesDue 43 = .ok (.invokevirtual 150, 3) := by decide +kernel
theorem dX11_takesDue_46 : decode cX11_takesDue 46 = .ok (.ifCond .ne 5, 3) := by decide +kernel
theorem dX11_takesDue_49 : decode cX11_takesDue 49 = .ok (.iconst 0, 1) := by decide +kernel
theorem dX11_takesDue_50 : decode cX11_takesDue 50 = .ok (.ireturn, 1) := by decide +kernel
theorem dX11_takesDue_51 : decode cX11_takesDue 51 = .ok (.aload_n 0, 1) := by decide +kernel
theorem dX11_takesDue_52 : decode cX11_takesDue 52 = .ok (.getfield 36, 3) := by decide +kernel
theorem dX11_takesDue_55 : decode cX11_takesDue 55 = .ok (.bipush 79, 2) := by decide +kernel
theorem dX11_takesDue_57 : decode cX11_takesDue 57 = .ok (.iload_n 1, 1) := by decide +kernel
theorem dX11_takesDue_58 : decode cX11_takesDue 58 = .ok (.iadd, 1) := by decide +kernel
theorem dX11_takesDue_59 : decode cX11_takesDue 59 = .ok (.aload_n 0, 1) := by decide +kernel
theorem dX11_takesDue_60 : decode cX11_takesDue 60 = .ok (.getfield 123, 3) := by decide +kernel
theorem dX11_takesDue_63 : decode cX11_takesDue 63 = .ok (.l2i, 1) := by decide +kernel
theorem dX11_takesDue_64 : decode cX11_takesDue 64 = .ok (.iastore, 1) := by decide +kernel
theorem dX11_takesDue_65 : decode cX11_takesDue 65 = .ok (.aload_n 0, 1) := by decide +kernel
theorem dX11_takesDue_66 : decode cX11_takesDue 66 = .ok (.invokevirtual 147, 3) := by decide +kernel
theorem dX11_takesDue_69 : decode cX11_takesDue 69 = .ok (.iconst 1, 1) := by decide +kernel
theorem dX11_takesDue_70 : decode cX11_takesDue 70 = .ok (.istore_n 2, 1) := by decide +kernel
theorem dX11_takesDue_71 : decode cX11_takesDue 71 = .ok (.aload_n 0, 1) := by decide +kernel
theorem dX11_takesDue_72 : decode cX11_takesDue 72 = .ok (.getfield 134, 3) := by decide +kernel
theorem dX11_takesDue_75 : decode cX11_takesDue 75 = .ok (.iconst 3, 1) := by decide +kernel
theorem dX11_takesDue_76 : decode cX11_takesDue 76 = .ok (.if_icmp .ne 9, 3) := by decide +kernel
theorem dX11_takesDue_79 : decode cX11_takesDue 79 = .ok (.iconst (-1), 1) := by decide +kernel
theorem dX11_takesDue_80 : decode cX11_takesDue 80 = .ok (.istore_n 2, 1) := by decide +kernel
theorem dX11_takesDue_81 : decode cX11_takesDue 81 = .ok (.aload_n 0, 1) := by decide +kernel
theorem dX11_takesDue_82 : decode cX11_takesDue 82 = .ok (.invokevirtual 147, 3) := by decide +kernel
theorem dX11_takesDue_85 : decode cX11_takesDue 85 = .ok (.aload_n 0, 1) := by decide +kernel
theorem dX11_takesDue_86 : decode cX11_takesDue 86 = .ok (.getfield 134, 3) := by decide +kernel
theorem dX11_takesDue_89 : decode cX11_takesDue 89 = .ok (.iconst 2, 1) := by decide +kernel
theorem dX11_takesDue_90 : decode cX11_takesDue 90 = .ok (.if_icmp .ne 17, 3) := by decide +kernel
theorem dX11_takesDue_93 : decode cX11_takesDue 93 = .ok (.aload_n 0, 1) := by decide +kernel
theorem dX11_takesDue_94 : decode cX11_takesDue 94 = .ok (.getfield 123, 3) := by decide +kernel
theorem dX11_takesDue_97 : decode cX11_takesDue 97 = .ok (.lconst 0, 1) := by decide +kernel
theorem dX11_takesDue_98 : decode cX11_takesDue 98 = .ok (.ldc2_w 94, 3) := by decide +kernel
theorem dX11_takesDue_101 : decode cX11_takesDue 101 = .ok (.invokestatic 78, 3) := by decide +kernel
theorem dX11_takesDue_104 : decode cX11_takesDue 104 = .ok (.ifCond .ne 5, 3) := by decide +kernel
theorem dX11_takesDue_107 : decode cX11_takesDue 107 = .ok (.iconst 0, 1) := by decide +kernel
theorem dX11_takesDue_108 : decode cX11_takesDue 108 = .ok (.ireturn, 1) := by decide +kernel
theorem dX11_takesDue_109 : decode cX11_takesDue 109 = .ok (.aload_n 0, 1) := by decide +kernel
theorem dX11_takesDue_110 : decode cX11_takesDue 110 = .ok (.getfield 36, 3) := by decide +kernel
theorem dX11_takesDue_113 : decode cX11_takesDue 113 = .ok (.bipush 87, 2) := by decide +kernel
theorem dX11_takesDue_115 : decode cX11_takesDue 115 = .ok (.iload_n 1, 1) := by decide +kernel
theorem dX11_takesDue_116 : decode cX11_takesDue 116 = .ok (.iadd, 1) := by decide +kernel
theorem dX11_takesDue_117 : decode cX11_takesDue 117 = .ok (.iload_n 2, 1) := by decide +kernel
theorem dX11_takesDue_118 : decode cX11_takesDue 118 = .ok (.aload_n 0, 1) := by decide +kernel
theorem dX11_takesDue_119 : decode cX11_takesDue 119 = .ok (.getfield 123, 3) := by decide +kernel
theorem dX11_takesDue_122 : decode cX11_takesDue 122 = .ok (.l2i, 1) := by decide +kernel
theorem dX11_takesDue_123 : decode cX11_takesDue 123 = .ok (.imul, 1) := by decide +kernel
theorem dX11_takesDue_124 : decode cX11_takesDue 124 = .ok (.iastore, 1) := by decide +kernel
theorem dX11_takesDue_125 : decode cX11_takesDue 125 = .ok (.aload_n 0, 1) := by decide +kernel
theorem dX11_takesDue_126 : decode cX11_takesDue 126 = .ok (.getfield 36, 3) := by decide +kernel
theorem dX11_takesDue_129 : decode cX11_takesDue 129 = .ok (.iconst 5, 1) := by decide +kernel
theorem dX11_takesDue_130 : decode cX11_takesDue 130 = .ok (.dup2, 1) := by decide +kernel
theorem dX11_takesDue_131 : decode cX11_takesDue 131 = .ok (.iaload, 1) := by decide +kernel
theorem dX11_takesDue_132 : decode cX11_takesDue 132 = .ok (.iconst 1, 1) := by decide +kernel
theorem dX11_takesDue_133 : decode cX11_takesDue 133 = .ok (.iadd, 1) := by decide +kernel
theorem dX11_takesDue_134 : decode cX11_takesDue 134 = .ok (.iastore, 1) := by decide +kernel
theorem dX11_takesDue_135 : decode cX11_takesDue 135 = .ok (.aload_n 0, 1) := by decide +kernel
theorem dX11_takesDue_136 : decode cX11_takesDue 136 = .ok (.invokevirtual 153, 3) := by decide +kernel
theorem dX11_takesDue_139 : decode cX11_takesDue 139 = .ok (.ireturn, 1) := by decide +kernel
theorem dX11_takesSight_0 : decode cX11_takesSight 0 = .ok (.aload_n 0, 1) := by decide +kernel
theorem dX11_takesSight_1 : decode cX11_takesSight 1 = .ok (.getfield 36, 3) := by decide +kernel
theorem dX11_takesSight_4 : decode cX11_takesSight 4 = .ok (.bipush 6, 2) := by decide +kernel
theorem dX11_takesSight_6 : decode cX11_takesSight 6 = .ok (.iaload, 1) := by decide +kernel
theorem dX11_takesSight_7 : decode cX11_takesSight 7 = .ok (.istore_n 1, 1) := by decide +kernel
theorem dX11_takesSight_8 : decode cX11_takesSight 8 = .ok (.iload_n 1, 1) := by decide +kernel
theorem dX11_takesSight_9 : decode cX11_takesSight 9 = .ok (.bipush 10, 2) := by decide +kernel
theorem dX11_takesSight_11 : decode cX11_takesSight 11 = .ok (.if_icmp .eq 14, 3) := by decide +kernel
theorem dX11_takesSight_14 : decode cX11_takesSight 14 = .ok (.aload_n 0, 1) := by decide +kernel
theorem dX11_takesSight_15 : decode cX11_takesSight 15 = .ok (.iconst 0, 1) := by decide +kernel
theorem dX11_takesSight_16 : decode cX11_takesSight 16 = .ok (.sipush 240, 3) := by decide +kernel
theorem dX11_takesSight_19 : decode cX11_takesSight 19 = .ok (.invokevirtual 150, 3) := by decide +kernel
theorem dX11_takesSight_22 : decode cX11_takesSight 22 = .ok (.ifCond .ne 5, 3) := by decide +kernel
theorem dX11_takesSight_25 : decode cX11_takesSight 25 = .ok (.iconst 0, 1) := by decide +kernel
theorem dX11_takesSight_26 : decode cX11_takesSight 26 = .ok (.ireturn, 1) := by decide +kernel
theorem dX11_takesSight_27 : decode cX11_takesSight 27 = .ok (.aload_n 0, 1) := by decide +kernel
theorem dX11_takesSight_28 : decode cX11_takesSight 28 = .ok (.getfield 36, 3) := by decide +kernel
theorem dX11_takesSight_31 : decode cX11_takesSight 31 = .ok (.bipush 95, 2) := by decide +kernel
theorem dX11_takesSight_33 : decode cX11_takesSight 33 = .ok (.iload_n 1, 1) := by decide +kernel
theorem dX11_takesSight_34 : decode cX11_takesSight 34 = .ok (.iadd, 1) := by decide +kernel
theorem dX11_takesSight_35 : decode cX11_takesSight 35 = .ok (.aload_n 0, 1) := by decide +kernel
theorem dX11_takesSight_36 : decode cX11_takesSight 36 = .ok (.getfield 123, 3) := by decide +kernel
theorem dX11_takesSight_39 : decode cX11_takesSight 39 = .ok (.l2i, 1) := by decide +kernel
theorem dX11_takesSight_40 : decode cX11_takesSight 40 = .ok (.iastore, 1) := by decide +kernel
theorem dX11_takesSight_41 : decode cX11_takesSight 41 = .ok (.aload_n 0, 1) := by decide +kernel
theorem dX11_takesSight_42 : decode cX11_takesSight 42 = .ok (.iconst 0, 1) := by decide +kernel
theorem dX11_takesSight_43 : decode cX11_takesSight 43 = .ok (.sipush 999, 3) := by decide +kernel
theorem dX11_takesSight_46 : decode cX11_takesSight 46 = .ok (.invokevirtual 150, 3) := by decide +kernel
theorem dX11_takesSight_49 : decode cX11_takesSight 49 = .ok (.ifCond .ne 5, 3) := by decide +kernel
theorem dX11_takesSight_52 : decode cX11_takesSight 52 = .ok (.iconst 0, 1) := by decide +kernel
theorem dX11_takesSight_53 : decode cX11_takesSight 53 = .ok (.ireturn, 1) := by decide +kernel
theorem dX11_takesSight_54 : decode cX11_takesSight 54 = .ok (.aload_n 0, 1) := by decide +kernel
theorem dX11_takesSight_55 : decode cX11_takesSight 55 = .ok (.getfield 36, 3) := by decide +kernel
theorem dX11_takesSight_58 : decode cX11_takesSight 58 = .ok (.bipush 105, 2) := by decide +kernel
theorem dX11_takesSight_60 : decode cX11_takesSight 60 = .ok (.iload_n 1, 1) := by decide +kernel
theorem dX11_takesSight_61 : decode cX11_takesSight 61 = .ok (.iadd, 1) := by decide +kernel
theorem dX11_takesSight_62 : decode cX11_takesSight 62 = .ok (.aload_n 0, 1) := by decide +kernel
theorem dX11_takesSight_63 : decode cX11_takesSight 63 = .ok (.getfield 123, 3) := by decide +kernel
theorem dX11_takesSight_66 : decode cX11_takesSight 66 = .ok (.l2i, 1) := by decide +kernel
theorem dX11_takesSight_67 : decode cX11_takesSight 67 = .ok (.iastore, 1) := by decide +kernel
theorem dX11_takesSight_68 : decode cX11_takesSight 68 = .ok (.aload_n 0, 1) := by decide +kernel
theorem dX11_takesSight_69 : decode cX11_takesSight 69 = .ok (.getfield 36, 3) := by decide +kernel
theorem dX11_takesSight_72 : decode cX11_takesSight 72 = .ok (.bipush 6, 2) := by decide +kernel
theorem dX11_takesSight_74 : decode cX11_takesSight 74 = .ok (.dup2, 1) := by decide +kernel
theorem dX11_takesSight_75 : decode cX11_takesSight 75 = .ok (.iaload, 1) := by decide +kernel
theorem dX11_takesSight_76 : decode cX11_takesSight 76 = .ok (.iconst 1, 1) := by decide +kernel
theorem dX11_takesSight_77 : decode cX11_takesSight 77 = .ok (.iadd, 1) := by decide +kernel
theorem dX11_takesSight_78 : decode cX11_takesSight 78 = .ok (.iastore, 1) := by decide +kernel
theorem dX11_takesSight_79 : decode cX11_takesSight 79 = .ok (.aload_n 0, 1) := by decide +kernel
theorem dX11_takesSight_80 : decode cX11_takesSight 80 = .ok (.invokevirtual 153, 3) := by decide +kernel
theorem dX11_takesSight_83 : decode cX11_takesSight 83 = .ok (.ireturn, 1) := by decide +kernel
theorem dX11_takesAll_0 : decode cX11_takesAll 0 = .ok (.iconst 0, 1) := by decide +kernel
theorem dX11_takesAll_1 : decode cX11_takesAll 1 = .ok (.istore_n 1, 1) := by decide +kernel
theorem dX11_takesAll_2 : decode cX11_takesAll 2 = .ok (.iload_n 1, 1) := by decide +kernel
theorem dX11_takesAll_3 : decode cX11_takesAll 3 = .ok (.sipush 155, 3) := by decide +kernel
theorem dX11_takesAll_6 : decode cX11_takesAll 6 = .ok (.if_icmp .ge 31, 3) := by decide +kernel
theorem dX11_takesAll_9 : decode cX11_takesAll 9 = .ok (.aload_n 0, 1) := by decide +kernel
theorem dX11_takesAll_10 : decode cX11_takesAll 10 = .ok (.getfield 36, 3) := by decide +kernel
theorem dX11_takesAll_13 : decode cX11_takesAll 13 = .ok (.iload_n 1, 1) := by decide +kernel
theorem dX11_takesAll_14 : decode cX11_takesAll 14 = .ok (.iload_n 1, 1) := by decide +kernel
theorem dX11_takesAll_15 : decode cX11_takesAll 15 = .ok (.bipush 13, 2) := by decide +kernel
theorem dX11_takesAll_17 : decode cX11_takesAll 17 = .ok (.if_icmp .ge 12, 3) := by decide +kernel
theorem dX11_takesAll_20 : decode cX11_takesAll 20 = .ok (.aload_n 0, 1) := by decide +kernel
theorem dX11_takesAll_21 : decode cX11_takesAll 21 = .ok (.getfield 7, 3) := by decide +kernel
theorem dX11_takesAll_24 : decode cX11_takesAll 24 = .ok (.iload_n 1, 1) := by decide +kernel
theorem dX11_takesAll_25 : decode cX11_takesAll 25 = .ok (.iaload, 1) := by decide +kernel
theorem dX11_takesAll_26 : decode cX11_takesAll 26 = .ok (.goto 4, 3) := by decide +kernel
theorem dX11_takesAll_29 : decode cX11_takesAll 29 = .ok (.iconst 0, 1) := by decide +kernel
theorem dX11_takesAll_30 : decode cX11_takesAll 30 = .ok (.iastore, 1) := by decide +kernel
theorem dX11_takesAll_31 : decode cX11_takesAll 31 = .ok (.iinc 1 1, 3) := by decide +kernel
theorem dX11_takesAll_34 : decode cX11_takesAll 34 = .ok (.goto (-32), 3) := by decide +kernel
theorem dX11_takesAll_37 : decode cX11_takesAll 37 = .ok (.aload_n 0, 1) := by decide +kernel
theorem dX11_takesAll_38 : decode cX11_takesAll 38 = .ok (.getfield 36, 3) := by decide +kernel
theorem dX11_takesAll_41 : decode cX11_takesAll 41 = .ok (.iconst 0, 1) := by decide +kernel
theorem dX11_takesAll_42 : decode cX11_takesAll 42 = .ok (.iconst 1, 1) := by decide +kernel
theorem dX11_takesAll_43 : decode cX11_takesAll 43 = .ok (.iastore, 1) := by decide +kernel
theorem dX11_takesAll_44 : decode cX11_takesAll 44 = .ok (.aload_n 0, 1) := by decide +kernel
theorem dX11_takesAll_45 : decode cX11_takesAll 45 = .ok (.getfield 36, 3) := by decide +kernel
theorem dX11_takesAll_48 : decode cX11_takesAll 48 = .ok (.iconst 1, 1) := by decide +kernel
theorem dX11_takesAll_49 : decode cX11_takesAll 49 = .ok (.iconst 0, 1) := by decide +kernel
theorem dX11_takesAll_50 : decode cX11_takesAll 50 = .ok (.iastore, 1) := by decide +kernel
theorem dX11_takesAll_51 : decode cX11_takesAll 51 = .ok (.aload_n 0, 1) := by decide +kernel
theorem dX11_takesAll_52 : decode cX11_takesAll 52 = .ok (.getfield 36, 3) := by decide +kernel
theorem dX11_takesAll_55 : decode cX11_takesAll 55 = .ok (.iconst 2, 1) := by decide +kernel
theorem dX11_takesAll_56 : decode cX11_takesAll 56 = .ok (.bipush 60, 2) := by decide +kernel
theorem dX11_takesAll_58 : decode cX11_takesAll 58 = .ok (.iastore, 1) := by decide +kernel
theorem dX11_takesAll_59 : decode cX11_takesAll 59 = .ok (.iconst 3, 1) := by decide +kernel
theorem dX11_takesAll_60 : decode cX11_takesAll 60 = .ok (.istore_n 1, 1) := by decide +kernel
theorem dX11_takesAll_61 : decode cX11_takesAll 61 = .ok (.iload_n 1, 1) := by decide +kernel
theorem dX11_takesAll_62 : decode cX11_takesAll 62 = .ok (.bipush 6, 2) := by decide +kernel
theorem dX11_takesAll_64 : decode cX11_takesAll 64 = .ok (.if_icmp .gt 16, 3) := by decide +kernel
theorem dX11_takesAll_67 : decode cX11_takesAll 67 = .ok (.aload_n 0, 1) := by decide +kernel
theorem dX11_takesAll_68 : decode cX11_takesAll 68 = .ok (.getfield 36, 3) := by decide +kernel
theorem dX11_takesAll_71 : decode cX11_takesAll 71 = .ok (.iload_n 1, 1) := by decide +kernel
theorem dX11_takesAll_72 : decode cX11_takesAll 72 = .ok (.iconst 0, 1) := by decide +kernel
theorem dX11_takesAll_73 : decode cX11_takesAll 73 = .ok (.iastore, 1) := by decide +kernel
theorem dX11_takesAll_74 : decode cX11_takesAll 74 = .ok (.iinc 1 1, 3) := by decide +kernel
theorem dX11_takesAll_77 : decode cX11_takesAll 77 = .ok (.goto (-16), 3) := by decide +kernel
theorem dX11_takesAll_80 : decode cX11_takesAll 80 = .ok (.aload_n 0, 1) := by decide +kernel
theorem dX11_takesAll_81 : decode cX11_takesAll 81 = .ok (.iconst 0, 1) := by decide +kernel
theorem dX11_takesAll_82 : decode cX11_takesAll 82 = .ok (.putfield 117, 3) := by decide +kernel
theorem dX11_takesAll_85 : decode cX11_takesAll 85 = .ok (.iconst 0, 1) := by decide +kernel
theorem dX11_takesAll_86 : decode cX11_takesAll 86 = .ok (.istore_n 1, 1) := by decide +kernel
theorem dX11_takesAll_87 : decode cX11_takesAll 87 = .ok (.aload_n 0, 1) := by decide +kernel
theorem dX11_takesAll_88 : decode cX11_takesAll 88 = .ok (.invokevirtual 147, 3) := by decide +kernel
theorem dX11_takesAll_91 : decode cX11_takesAll 91 = .ok (.aload_n 0, 1) := by decide +kernel
theorem dX11_takesAll_92 : decode cX11_takesAll 92 = .ok (.getfield 134, 3) := by decide +kernel
theorem dX11_takesAll_95 : decode cX11_takesAll 95 = .ok (.ifCond .eq 180, 3) := by decide +kernel
theorem dX11_takesAll_98 : decode cX11_takesAll 98 = .ok (.aload_n 0, 1) := by decide +kernel
theorem dX11_takesAll_99 : decode cX11_takesAll 99 = .ok (.getfield 134, 3) := by decide +kernel
theorem dX11_takesAll_102 : decode cX11_takesAll 102 = .ok (.iconst 1, 1) := by decide +kernel
theorem dX11_takesAll_103 : decode cX11_takesAll 103 = .ok (.if_icmp .ne 154, 3) := by decide +kernel
theorem dX11_takesAll_106 : decode cX11_takesAll 106 = .ok (.aload_n 0, 1) := by decide +kernel
theorem dX11_takesAll_107 : decode cX11_takesAll 107 = .ok (.getfield 123, 3) := by decide +kernel
theorem dX11_takesAll_110 : decode cX11_takesAll 110 = .ok (.ldc2_w 157, 3) := by decide +kernel
theorem dX11_takesAll_113 : decode cX11_takesAll 113 = .ok (.lcmp, 1) := by decide +kernel
theorem dX11_takesAll_114 : decode cX11_takesAll 114 = .ok (.ifCond .ne 14, 3) := by decide +kernel
theorem dX11_takesAll_117 : decode cX11_takesAll 117 = .ok (.aload_n 0, 1) := by decide +kernel
theorem dX11_takesAll_118 : decode cX11_takesAll 118 = .ok (.iconst 0, 1) := by decide +kernel
theorem dX11_takesAll_119 : decode cX11_takesAll 119 = .ok (.invokevirtual 159, 3) := by decide +kernel
theorem dX11_takesAll_122 : decode cX11_takesAll 122 = .ok (.ifCond .eq 135, 3) := by decide +kernel
theorem dX11_takesAll_125 : decode cX11_takesAll 125 = .ok (.goto 128, 3) := by decide +kernel
theorem dX11_takesAll_128 : decode cX11_takesAll 128 = .ok (.aload_n 0, 1) := by decide +kernel
theorem dX11_takesAll_129 : decode cX11_takesAll 129 = .ok (.getfield 123, 3) := by decide +kernel
theorem dX11_takesAll_132 : decode cX11_takesAll 132 = .ok (.ldc2_w 162, 3) := by decide +kernel
theorem dX11_takesAll_135 : decode cX11_takesAll 135 = .ok (.lcmp, 1) := by decide +kernel
theorem dX11_takesAll_136 : decode cX11_takesAll 136 = .ok (.ifCond .ne 14, 3) := by decide +kernel
theorem dX11_takesAll_139 : decode cX11_takesAll 139 = .ok (.aload_n 0, 1) := by decide +kernel
theorem dX11_takesAll_140 : decode cX11_takesAll 140 = .ok (.iconst 1, 1) := by decide +kernel
theorem dX11_takesAll_141 : decode cX11_takesAll 141 = .ok (.invokevirtual 159, 3) := by decide +kernel
theorem dX11_takesAll_144 : decode cX11_takesAll 144 = .ok (.ifCond .eq 113, 3) := by decide +kernel
theorem dX11_takesAll_147 : decode cX11_takesAll 147 = .ok (.goto 106, 3) := by decide +kernel
theorem dX11_takesAll_150 : decode cX11_takesAll 150 = .ok (.aload_n 0, 1) := by decide +kernel
theorem dX11_takesAll_151 : decode cX11_takesAll 151 = .ok (.getfield 123, 3) := by decide +kernel
theorem dX11_takesAll_154 : decode cX11_takesAll 154 = .ok (.ldc2_w 164, 3) := by decide +kernel
theorem dX11_takesAll_157 : decode cX11_takesAll 157 = .ok (.lcmp, 1) := by decide +kernel
theorem dX11_takesAll_158 : decode cX11_takesAll 158 = .ok (.ifCond .ne 14, 3) := by decide +kernel
theorem dX11_takesAll_161 : decode cX11_takesAll 161 = .ok (.aload_n 0, 1) := by decide +kernel
theorem dX11_takesAll_162 : decode cX11_takesAll 162 = .ok (.iconst 2, 1) := by decide +kernel
theorem dX11_takesAll_163 : decode cX11_takesAll 163 = .ok (.invokevirtual 159, 3) := by decide +kernel
theorem dX11_takesAll_166 : decode cX11_takesAll 166 = .ok (.ifCond .eq 91, 3) := by decide +kernel
theorem dX11_takesAll_169 : decode cX11_takesAll 169 = .ok (.goto 84, 3) := by decide +kernel
theorem dX11_takesAll_172 : decode cX11_takesAll 172 = .ok (.aload_n 0, 1) := by decide +kernel
theorem dX11_takesAll_173 : decode cX11_takesAll 173 = .ok (.getfield 123, 3) := by decide +kernel
theorem dX11_takesAll_176 : decode cX11_takesAll 176 = .ok (.ldc2_w 166, 3) := by decide +kernel
theorem dX11_takesAll_179 : decode cX11_takesAll 179 = .ok (.lcmp, 1) := by decide +kernel
theorem dX11_takesAll_180 : decode cX11_takesAll 180 = .ok (.ifCond .ne 13, 3) := by decide +kernel
theorem dX11_takesAll_183 : decode cX11_takesAll 183 = .ok (.aload_n 0, 1) := by decide +kernel
theorem dX11_takesAll_184 : decode cX11_takesAll 184 = .ok (.invokevirtual 168, 3) := by decide +kernel
theorem dX11_takesAll_187 : decode cX11_takesAll 187 = .ok (.ifCond .eq 70, 3) := by decide +kernel
theorem dX11_takesAll_190 : decode cX11_takesAll 190 = .ok (.goto 63, 3) := by decide +kernel
theorem dX11_takesAll_193 : decode cX11_takesAll 193 = .ok (.aload_n 0, 1) := by decide +kernel
theorem dX11_takesAll_194 : decode cX11_takesAll 194 = .ok (.getfield 123, 3) := by decide +kernel
theorem dX11_takesAll_197 : decode cX11_takesAll 197 = .ok (.ldc2_w 171, 3) := by decide +kernel
theorem dX11_takesAll_200 : decode cX11_takesAll 200 = .ok (.lcmp, 1) := by decide +kernel
theorem dX11_takesAll_201 : decode cX11_takesAll 201 = .ok (.ifCond .ne 13, 3) := by decide +kernel
theorem dX11_takesAll_204 : decode cX11_takesAll 204 = .ok (.aload_n 0, 1) := by decide +kernel
theorem dX11_takesAll_205 : decode cX11_takesAll 205 = .ok (.invokevirtual 173, 3) := by decide +kernel
theorem dX11_takesAll_208 : decode cX11_takesAll 208 = .ok (.ifCond .eq 49, 3) := by decide +kernel
theorem dX11_takesAll_211 : decode cX11_takesAll 211 = .ok (.goto 42, 3) := by decide +kernel
theorem dX11_takesAll_214 : decode cX11_takesAll 214 = .ok (.aload_n 0, 1) := by decide +kernel
theorem dX11_takesAll_215 : decode cX11_takesAll 215 = .ok (.getfield 123, 3) := by decide +kernel
theorem dX11_takesAll_218 : decode cX11_takesAll 218 = .ok (.ldc2_w 176, 3) := by decide +kernel
theorem dX11_takesAll_221 : decode cX11_takesAll 221 = .ok (.lcmp, 1) := by decide +kernel
theorem dX11_takesAll_222 : decode cX11_takesAll 222 = .ok (.ifCond .ne 13, 3) := by decide +kernel
theorem dX11_takesAll_225 : decode cX11_takesAll 225 = .ok (.aload_n 0, 1) := by decide +kernel
theorem dX11_takesAll_226 : decode cX11_takesAll 226 = .ok (.invokevirtual 178, 3) := by decide +kernel
theorem dX11_takesAll_229 : decode cX11_takesAll 229 = .ok (.ifCond .eq 28, 3) := by decide +kernel
theorem dX11_takesAll_232 : decode cX11_takesAll 232 = .ok (.goto 21, 3) := by decide +kernel
theorem dX11_takesAll_235 : decode cX11_takesAll 235 = .ok (.aload_n 0, 1) := by decide +kernel
theorem dX11_takesAll_236 : decode cX11_takesAll 236 = .ok (.getfield 123, 3) := by decide +kernel
theorem dX11_takesAll_239 : decode cX11_takesAll 239 = .ok (.ldc2_w 181, 3) := by decide +kernel
theorem dX11_takesAll_242 : decode cX11_takesAll 242 = .ok (.lcmp, 1) := by decide +kernel
theorem dX11_takesAll_243 : decode cX11_takesAll 243 = .ok (.ifCond .ne 14, 3) := by decide +kernel
theorem dX11_takesAll_246 : decode cX11_takesAll 246 = .ok (.aload_n 0, 1) := by decide +kernel
theorem dX11_takesAll_247 : decode cX11_takesAll 247 = .ok (.invokevirtual 183, 3) := by decide +kernel
theorem dX11_takesAll_250 : decode cX11_takesAll 250 = .ok (.ifCond .eq 7, 3) := by decide +kernel
theorem dX11_takesAll_253 : decode cX11_takesAll 253 = .ok (.iconst 1, 1) := by decide +kernel
theorem dX11_takesAll_254 : decode cX11_takesAll 254 = .ok (.goto 4, 3) := by decide +kernel
theorem dX11_takesAll_257 : decode cX11_takesAll 257 = .ok (.iconst 0, 1) := by decide +kernel
theorem dX11_takesAll_258 : decode cX11_takesAll 258 = .ok (.istore_n 2, 1) := by decide +kernel
theorem dX11_takesAll_259 : decode cX11_takesAll 259 = .ok (.iload_n 2, 1) := by decide +kernel
theorem dX11_takesAll_260 : decode cX11_takesAll 260 = .ok (.ifCond .ne 5, 3) := by decide +kernel
theorem dX11_takesAll_263 : decode cX11_takesAll 263 = .ok (.iconst (-1), 1) := by decide +kernel
theorem dX11_takesAll_264 : decode cX11_takesAll 264 = .ok (.ireturn, 1) := by decide +kernel
theorem dX11_takesAll_265 : decode cX11_takesAll 265 = .ok (.iinc 1 1, 3) := by decide +kernel
theorem dX11_takesAll_268 : decode cX11_takesAll 268 = .ok (.aload_n 0, 1) := by decide +kernel
theorem dX11_takesAll_269 : decode cX11_takesAll 269 = .ok (.invokevirtual 147, 3) := by decide +kernel
theorem dX11_takesAll_272 : decode cX11_takesAll 272 = .ok (.goto (-181), 3) := by decide +kernel
theorem dX11_takesAll_275 : decode cX11_takesAll 275 = .ok (.iload_n 1, 1) := by decide +kernel
theorem dX11_takesAll_276 : decode cX11_takesAll 276 = .ok (.ireturn, 1) := by decide +kernel
theorem dX11_read_0 : decode cX11_read 0 = .ok (.aload_n 0, 1) := by decide +kernel
theorem dX11_read_1 : decode cX11_read 1 = .ok (.invokevirtual 186, 3) := by decide +kernel
theorem dX11_read_4 : decode cX11_read 4 = .ok (.istore_n 1, 1) := by decide +kernel
theorem dX11_read_5 : decode cX11_read 5 = .ok (.iload_n 1, 1) := by decide +kernel
theorem dX11_read_6 : decode cX11_read 6 = .ok (.ifCond .ge 11, 3) := by decide +kernel
theorem dX11_read_9 : decode cX11_read 9 = .ok (.bipush (-10), 2) := by decide +kernel
theorem dX11_read_11 : decode cX11_read 11 = .ok (.aload_n 0, 1) := by decide +kernel
theorem dX11_read_12 : decode cX11_read 12 = .ok (.getfield 120, 3) := by decide +kernel
theorem dX11_read_15 : decode cX11_read 15 = .ok (.isub, 1) := by decide +kernel
theorem dX11_read_16 : decode cX11_read 16 = .ok (.ireturn, 1) := by decide +kernel
theorem dX11_read_17 : decode cX11_read 17 = .ok (.iconst 0, 1) := by decide +kernel
theorem dX11_read_18 : decode cX11_read 18 = .ok (.istore_n 2, 1) := by decide +kernel
theorem dX11_read_19 : decode cX11_read 19 = .ok (.iload_n 2, 1) := by decide +kernel
theorem dX11_read_20 : decode cX11_read 20 = .ok (.bipush 115, 2) := by decide +kernel
theorem dX11_read_22 : decode cX11_read 22 = .ok (.if_icmp .ge 21, 3) := by decide +kernel
theorem dX11_read_25 : decode cX11_read 25 = .ok (.aload_n 0, 1) := by decide +kernel
theorem dX11_read_26 : decode cX11_read 26 = .ok (.getfield 7, 3) := by decide +kernel
theorem dX11_read_29 : decode cX11_read 29 = .ok (.iload_n 2, 1) := by decide +kernel
theorem dX11_read_30 : decode cX11_read 30 = .ok (.aload_n 0, 1) := by decide +kernel
theorem dX11_read_31 : decode cX11_read 31 = .ok (.getfield 36, 3) := by decide +kernel
theorem dX11_read_34 : decode cX11_read 34 = .ok (.iload_n 2, 1) := by decide +kernel
theorem dX11_read_35 : decode cX11_read 35 = .ok (.iaload, 1) := by decide +kernel
theorem dX11_read_36 : decode cX11_read 36 = .ok (.iastore, 1) := by decide +kernel
theorem dX11_read_37 : decode cX11_read 37 = .ok (.iinc 2 1, 3) := by decide +kernel
theorem dX11_read_40 : decode cX11_read 40 = .ok (.goto (-21), 3) := by decide +kernel
theorem dX11_read_43 : decode cX11_read 43 = .ok (.iload_n 1, 1) := by decide +kernel
theorem dX11_read_44 : decode cX11_read 44 = .ok (.ireturn, 1) := by decide +kernel
theorem dX11_write_0 : decode cX11_write 0 = .ok (.iload_n 1, 1) := by decide +kernel
theorem dX11_write_1 : decode cX11_write 1 = .ok (.i2l, 1) := by decide +kernel
theorem dX11_write_2 : decode cX11_write 2 = .ok (.lconst 0, 1) := by decide +kernel
theorem dX11_write_3 : decode cX11_write 3 = .ok (.ldc2_w 190, 3) := by decide +kernel
theorem dX11_write_6 : decode cX11_write 6 = .ok (.invokestatic 78, 3) := by decide +kernel
theorem dX11_write_9 : decode cX11_write 9 = .ok (.ifCond .ne 10, 3) := by decide +kernel
theorem dX11_write_12 : decode cX11_write 12 = .ok (.aload_n 0, 1) := by decide +kernel
theorem dX11_write_13 : decode cX11_write 13 = .ok (.bipush (-2), 2) := by decide +kernel
theorem dX11_write_15 : decode cX11_write 15 = .ok (.invokevirtual 88, 3) := by decide +kernel
theorem dX11_write_18 : decode cX11_write 18 = .ok (.ireturn, 1) := by decide +kernel
theorem dX11_write_19 : decode cX11_write 19 = .ok (.aload_n 0, 1) := by decide +kernel
theorem dX11_write_20 : decode cX11_write 20 = .ok (.getfield 7, 3) := by decide +kernel
theorem dX11_write_23 : decode cX11_write 23 = .ok (.bipush 7, 2) := by decide +kernel
theorem dX11_write_25 : decode cX11_write 25 = .ok (.iaload, 1) := by decide +kernel
theorem dX11_write_26 : decode cX11_write 26 = .ok (.bipush 40, 2) := by decide +kernel
theorem dX11_write_28 : decode cX11_write 28 = .ok (.if_icmp .ne 10, 3) := by decide +kernel
theorem dX11_write_31 : decode cX11_write 31 = .ok (.aload_n 0, 1) := by decide +kernel
theorem dX11_write_32 : decode cX11_write 32 = .ok (.bipush (-4), 2) := by decide +kernel
theorem dX11_write_34 : decode cX11_write 34 = .ok (.invokevirtual 88, 3) := by decide +kernel
theorem dX11_write_37 : decode cX11_write 37 = .ok (.ireturn, 1) := by decide +kernel
theorem dX11_write_38 : decode cX11_write 38 = .ok (.aload_n 0, 1) := by decide +kernel
theorem dX11_write_39 : decode cX11_write 39 = .ok (.getfield 7, 3) := by decide +kernel
theorem dX11_write_42 : decode cX11_write 42 = .ok (.bipush 115, 2) := by decide +kernel
theorem dX11_write_44 : decode cX11_write 44 = .ok (.aload_n 0, 1) := by decide +kernel
theorem dX11_write_45 : decode cX11_write 45 = .ok (.getfield 7, 3) := by decide +kernel
theorem dX11_write_48 : decode cX11_write 48 = .ok (.bipush 7, 2) := by decide +kernel
theorem dX11_write_50 : decode cX11_write 50 = .ok (.iaload, 1) := by decide +kernel
theorem dX11_write_51 : decode cX11_write 51 = .ok (.iadd, 1) := by decide +kernel
theorem dX11_write_52 : decode cX11_write 52 = .ok (.iload_n 1, 1) := by decide +kernel
theorem dX11_write_53 : decode cX11_write 53 = .ok (.iastore, 1) := by decide +kernel
theorem dX11_write_54 : decode cX11_write 54 = .ok (.aload_n 0, 1) := by decide +kernel
theorem dX11_write_55 : decode cX11_write 55 = .ok (.getfield 7, 3) := by decide +kernel
theorem dX11_write_58 : decode cX11_write 58 = .ok (.bipush 7, 2) := by decide +kernel
theorem dX11_write_60 : decode cX11_write 60 = .ok (.dup2, 1) := by decide +kernel
theorem dX11_write_61 : decode cX11_write 61 = .ok (.iaload, 1) := by decide +kernel
theorem dX11_write_62 : decode cX11_write 62 = .ok (.iconst 1, 1) := by decide +kernel
theorem dX11_write_63 : decode cX11_write 63 = .ok (.iadd, 1) := by decide +kernel
theorem dX11_write_64 : decode cX11_write 64 = .ok (.iastore, 1) := by decide +kernel
theorem dX11_write_65 : decode cX11_write 65 = .ok (.aload_n 0, 1) := by decide +kernel
theorem dX11_write_66 : decode cX11_write 66 = .ok (.getfield 7, 3) := by decide +kernel
theorem dX11_write_69 : decode cX11_write 69 = .ok (.bipush 7, 2) := by decide +kernel
theorem dX11_write_71 : decode cX11_write 71 = .ok (.iaload, 1) := by decide +kernel
theorem dX11_write_72 : decode cX11_write 72 = .ok (.ireturn, 1) := by decide +kernel
theorem dX11_erase_0 : decode cX11_erase 0 = .ok (.aload_n 0, 1) := by decide +kernel
theorem dX11_erase_1 : decode cX11_erase 1 = .ok (.getfield 7, 3) := by decide +kernel
theorem dX11_erase_4 : decode cX11_erase 4 = .ok (.bipush 7, 2) := by decide +kernel
theorem dX11_erase_6 : decode cX11_erase 6 = .ok (.iaload, 1) := by decide +kernel
theorem dX11_erase_7 : decode cX11_erase 7 = .ok (.istore_n 1, 1) := by decide +kernel
theorem dX11_erase_8 : decode cX11_erase 8 = .ok (.aload_n 0, 1) := by decide +kernel
theorem dX11_erase_9 : decode cX11_erase 9 = .ok (.getfield 7, 3) := by decide +kernel
theorem dX11_erase_12 : decode cX11_erase 12 = .ok (.bipush 7, 2) := by decide +kernel
theorem dX11_erase_14 : decode cX11_erase 14 = .ok (.iconst 0, 1) := by decide +kernel
theorem dX11_erase_15 : decode cX11_erase 15 = .ok (.iastore, 1) := by decide +kernel
theorem dX11_erase_16 : decode cX11_erase 16 = .ok (.iload_n 1, 1) := by decide +kernel
theorem dX11_erase_17 : decode cX11_erase 17 = .ok (.ireturn, 1) := by decide +kernel
theorem dX11_holds_0 : decode cX11_holds 0 = .ok (.iload_n 0, 1) := by decide +kernel
theorem dX11_holds_1 : decode cX11_holds 1 = .ok (.bipush 40, 2) := by decide +kernel
theorem dX11_holds_3 : decode cX11_holds 3 = .ok (.if_icmp .ne 7, 3) := by decide +kernel
theorem dX11_holds_6 : decode cX11_holds 6 = .ok (.iconst 0, 1) := by decide +kernel
theorem dX11_holds_7 : decode cX11_holds 7 = .ok (.goto 79, 3) := by decide +kernel
theorem dX11_holds_10 : decode cX11_holds 10 = .ok (.iload_n 0, 1) := by decide +kernel
theorem dX11_holds_11 : decode cX11_holds 11 = .ok (.bipush 124, 2) := by decide +kernel
theorem dX11_holds_13 : decode cX11_holds 13 = .ok (.if_icmp .ne 7, 3) := by decide +kernel
theorem dX11_holds_16 : decode cX11_holds 16 = .ok (.iconst 1, 1) := by decide +kernel
theorem dX11_holds_17 : decode cX11_holds 17 = .ok (.goto 69, 3) := by decide +kernel
theorem dX11_holds_20 : decode cX11_holds 20 = .ok (.iload_n 0, 1) := by decide +kernel
theorem dX11_holds_21 : decode cX11_holds 21 = .ok (.bipush 38, 2) := by decide +kernel
theorem dX11_holds_23 : decode cX11_holds 23 = .ok (.if_icmp .ne 7, 3) := by decide +kernel
theorem dX11_holds_26 : decode cX11_holds 26 = .ok (.iconst 2, 1) := by decide +kernel
theorem dX11_holds_27 : decode cX11_holds 27 = .ok (.goto 59, 3) := by decide +kernel
theorem dX11_holds_30 : decode cX11_holds 30 = .ok (.iload_n 0, 1) := by decide +kernel
theorem dX11_holds_31 : decode cX11_holds 31 = .ok (.bipush 60, 2) := by decide +kernel
theorem dX11_holds_33 : decode cX11_holds 33 = .ok (.if_icmp .eq 15, 3) := by decide +kernel
theorem dX11_holds_36 : decode cX11_holds 36 = .ok (.iload_n 0, 1) := by decide +kernel
theorem dX11_holds_37 : decode cX11_holds 37 = .ok (.bipush 62, 2) := by decide +kernel
theorem dX11_holds_39 : decode cX11_holds 39 = .ok (.if_icmp .eq 9, 3) := by decide +kernel
theorem dX11_holds_42 : decode cX11_holds 42 = .ok (.iload_n 0, 1) := by decide +kernel
theorem dX11_holds_43 : decode cX11_holds 43 = .ok (.bipush 61, 2) := by decide +kernel
theorem dX11_holds_45 : decode cX11_holds 45 = .ok (.if_icmp .ne 7, 3) := by decide +kernel
theorem dX11_holds_48 : decode cX11_holds 48 = .ok (.iconst 3, 1) := by decide +kernel
theorem dX11_holds_49 : decode cX11_holds 49 = .ok (.goto 37, 3) := by decide +kernel
theorem dX11_holds_52 : decode cX11_holds 52 = .ok (.iload_n 0, 1) := by decide +kernel
theorem dX11_holds_53 : decode cX11_holds 53 = .ok (.bipush 43, 2) := by decide +kernel
theorem dX11_holds_55 : decode cX11_holds 55 = .ok (.if_icmp .eq 9, 3) := by decide +kernel
theorem dX11_holds_58 : decode cX11_holds 58 = .ok (.iload_n 0, 1) := by decide +kernel
theorem dX11_holds_59 : decode cX11_holds 59 = .ok (.bipush 45, 2) := by decide +kernel
theorem dX11_holds_61 : decode cX11_holds 61 = .ok (.if_icmp .ne 7, 3) := by decide +kernel
theorem dX11_holds_64 : decode cX11_holds 64 = .ok (.iconst 4, 1) := by decide +kernel
theorem dX11_holds_65 : decode cX11_holds 65 = .ok (.goto 21, 3) := by decide +kernel
theorem dX11_holds_68 : decode cX11_holds 68 = .ok (.iload_n 0, 1) := by decide +kernel
theorem dX11_holds_69 : decode cX11_holds 69 = .ok (.bipush 42, 2) := by decide +kernel
theorem dX11_holds_71 : decode cX11_holds 71 = .ok (.if_icmp .eq 9, 3) := by decide +kernel
theorem dX11_holds_74 : decode cX11_holds 74 = .ok (.iload_n 0, 1) := by decide +kernel
theorem dX11_holds_75 : decode cX11_holds 75 = .ok (.bipush 47, 2) := by decide +kernel
theorem dX11_holds_77 : decode cX11_holds 77 = .ok (.if_icmp .ne 7, 3) := by decide +kernel
theorem dX11_holds_80 : decode cX11_holds 80 = .ok (.iconst 5, 1) := by decide +kernel
theorem dX11_holds_81 : decode cX11_holds 81 = .ok (.goto 5, 3) := by decide +kernel
theorem dX11_holds_84 : decode cX11_holds 84 = .ok (.bipush 6, 2) := by decide +kernel
theorem dX11_holds_86 : decode cX11_holds 86 = .ok (.ireturn, 1) := by decide +kernel
theorem dX11_does_0 : decode cX11_does 0 = .ok (.aload_n 0, 1) := by decide +kernel
theorem dX11_does_1 : decode cX11_does 1 = .ok (.getfield 192, 3) := by decide +kernel
theorem dX11_does_4 : decode cX11_does 4 = .ok (.ifCond .le 63, 3) := by decide +kernel
theorem dX11_does_7 : decode cX11_does 7 = .ok (.aload_n 0, 1) := by decide +kernel
theorem dX11_does_8 : decode cX11_does 8 = .ok (.getfield 42, 3) := by decide +kernel
theorem dX11_does_11 : decode cX11_does 11 = .ok (.aload_n 0, 1) := by decide +kernel
theorem dX11_does_12 : decode cX11_does 12 = .ok (.getfield 192, 3) := by decide +kernel
theorem dX11_does_15 : decode cX11_does 15 = .ok (.iconst 1, 1) := by decide +kernel
theorem dX11_does_16 : decode cX11_does 16 = .ok (.isub, 1) := by decide +kernel
theorem dX11_does_17 : decode cX11_does 17 = .ok (.iaload, 1) := by decide +kernel
theorem dX11_does_18 : decode cX11_does 18 = .ok (.invokestatic 195, 3) := by decide +kernel
theorem dX11_does_21 : decode cX11_does 21 = .ok (.iload_n 1, 1) := by decide +kernel
theorem dX11_does_22 : decode cX11_does 22 = .ok (.if_icmp .lt 45, 3) := by decide +kernel
theorem dX11_does_25 : decode cX11_does 25 = .ok (.aload_n 0, 1) := by decide +kernel
theorem dX11_does_26 : decode cX11_does 26 = .ok (.dup, 1) := by decide +kernel
theorem dX11_does_27 : decode cX11_does 27 = .ok (.getfield 192, 3) := by decide +kernel
theorem dX11_does_30 : decode cX11_does 30 = .ok (.iconst 1, 1) := by decide +kernel
theorem dX11_does_31 : decode cX11_does 31 = .ok (.isub, 1) := by decide +kernel
theorem dX11_does_32 : decode cX11_does 32 = .ok (.putfield 192, 3) := by decide +kernel
theorem dX11_does_35 : decode cX11_does 35 = .ok (.aload_n 0, 1) := by decide +kernel
theorem dX11_does_36 : decode cX11_does 36 = .ok (.getfield 39, 3) := by decide +kernel
theorem dX11_does_39 : decode cX11_does 39 = .ok (.aload_n 0, 1) := by decide +kernel
theorem dX11_does_40 : decode cX11_does 40 = .ok (.getfield 198, 3) := by decide +kernel
theorem dX11_does_43 : decode cX11_does 43 = .ok (.aload_n 0, 1) := by decide +kernel
theorem dX11_does_44 : decode cX11_does 44 = .ok (.getfield 42, 3) := by decide +kernel
theorem dX11_does_47 : decode cX11_does 47 = .ok (.aload_n 0, 1) := by decide +kernel
theorem dX11_does_48 : decode cX11_does 48 = .ok (.getfield 192, 3) := by decide +kernel
theorem dX11_does_51 : decode cX11_does 51 = .ok (.iaload, 1) := by decide +kernel
theorem dX11_does_52 : decode cX11_does 52 = .ok (.ineg, 1) := by decide +kernel
theorem dX11_does_53 : decode cX11_does 53 = .ok (.iastore, 1) := by decide +kernel
theorem dX11_does_54 : decode cX11_does 54 = .ok (.aload_n 0, 1) := by decide +kernel
theorem dX11_does_55 : decode cX11_does 55 = .ok (.dup, 1) := by decide +kernel
theorem dX11_does_56 : decode cX11_does 56 = .ok (.getfield 198, 3) := by decide +kernel
theorem dX11_does_59 : decode cX11_does 59 = .ok (.iconst 1, 1) := by decide +kernel
theorem dX11_does_60 : decode cX11_does 60 = .ok (.iadd, 1) := by decide +kernel
theorem dX11_does_61 : decode cX11_does 61 = .ok (.putfield 198, 3) := by decide +kernel
theorem dX11_does_64 : decode cX11_does 64 = .ok (.goto (-64), 3) := by decide +kernel
theorem dX11_does_67 : decode cX11_does 67 = .ok (.return_, 1) := by decide +kernel
theorem dX11_isName_0 : decode cX11_isName 0 = .ok (.iload_n 0, 1) := by decide +kernel
theorem dX11_isName_1 : decode cX11_isName 1 = .ok (.bipush 99, 2) := by decide +kernel
theorem dX11_isName_3 : decode cX11_isName 3 = .ok (.if_icmp .eq 33, 3) := by decide +kernel
theorem dX11_isName_6 : decode cX11_isName 6 = .ok (.iload_n 0, 1) := by decide +kernel
theorem dX11_isName_7 : decode cX11_isName 7 = .ok (.bipush 115, 2) := by decide +kernel
theorem dX11_isName_9 : decode cX11_isName 9 = .ok (.if_icmp .eq 27, 3) := by decide +kernel
theorem dX11_isName_12 : decode cX11_isName 12 = .ok (.iload_n 0, 1) := by decide +kernel
theorem dX11_isName_13 : decode cX11_isName 13 = .ok (.bipush 111, 2) := by decide +kernel
theorem dX11_isName_15 : decode cX11_isName 15 = .ok (.if_icmp .eq 21, 3) := by decide +kernel
theorem dX11_isName_18 : decode cX11_isName 18 = .ok (.iload_n 0, 1) := by decide +kernel
theorem dX11_isName_19 : decode cX11_isName 19 = .ok (.bipush 112, 2) := by decide +kernel
theorem dX11_isName_21 : decode cX11_isName 21 = .ok (.if_icmp .eq 15, 3) := by decide +kernel
theorem dX11_isName_24 : decode cX11_isName 24 = .ok (.iload_n 0, 1) := by decide +kernel
theorem dX11_isName_25 : decode cX11_isName 25 = .ok (.bipush 98, 2) := by decide +kernel
theorem dX11_isName_27 : decode cX11_isName 27 = .ok (.if_icmp .eq 9, 3) := by decide +kernel
theorem dX11_isName_30 : decode cX11_isName 30 = .ok (.iload_n 0, 1) := by decide +kernel
theorem dX11_isName_31 : decode cX11_isName 31 = .ok (.bipush 102, 2) := by decide +kernel
theorem dX11_isName_33 : decode cX11_isName 33 = .ok (.if_icmp .ne 7, 3) := by decide +kernel
theorem dX11_isName_36 : decode cX11_isName 36 = .ok (.iconst 1, 1) := by decide +kernel
theorem dX11_isName_37 : decode cX11_isName 37 = .ok (.goto 4, 3) := by decide +kernel
theorem dX11_isName_40 : decode cX11_isName 40 = .ok (.iconst 0, 1) := by decide +kernel
theorem dX11_isName_41 : decode cX11_isName 41 = .ok (.ireturn, 1) := by decide +kernel
theorem dX11_here_0 : decode cX11_here 0 = .ok (.aload_n 0, 1) := by decide +kernel
theorem dX11_here_1 : decode cX11_here 1 = .ok (.getfield 201, 3) := by decide +kernel
theorem dX11_here_4 : decode cX11_here 4 = .ok (.aload_n 0, 1) := by decide +kernel
theorem dX11_here_5 : decode cX11_here 5 = .ok (.getfield 7, 3) := by decide +kernel
theorem dX11_here_8 : decode cX11_here 8 = .ok (.bipush 7, 2) := by decide +kernel
theorem dX11_here_10 : decode cX11_here 10 = .ok (.iaload, 1) := by decide +kernel
theorem dX11_here_11 : decode cX11_here 11 = .ok (.if_icmp .ge 33, 3) := by decide +kernel
theorem dX11_here_14 : decode cX11_here 14 = .ok (.aload_n 0, 1) := by decide +kernel
theorem dX11_here_15 : decode cX11_here 15 = .ok (.getfield 7, 3) := by decide +kernel
theorem dX11_here_18 : decode cX11_here 18 = .ok (.bipush 115, 2) := by decide +kernel
theorem dX11_here_20 : decode cX11_here 20 = .ok (.aload_n 0, 1) := by decide +kernel
theorem dX11_here_21 : decode cX11_here 21 = .ok (.getfield 201, 3) := by decide +kernel
theorem dX11_here_24 : decode cX11_here 24 = .ok (.iadd, 1) := by decide +kernel
theorem dX11_here_25 : decode cX11_here 25 = .ok (.iaload, 1) := by decide +kernel
theorem dX11_here_26 : decode cX11_here 26 = .ok (.bipush 32, 2) := by decide +kernel
theorem dX11_here_28 : decode cX11_here 28 = .ok (.if_icmp .ne 16, 3) := by decide +kernel
theorem dX11_here_31 : decode cX11_here 31 = .ok (.aload_n 0, 1) := by decide +kernel
theorem dX11_here_32 : decode cX11_here 32 = .ok (.dup, 1) := by decide +kernel
theorem dX11_here_33 : decode cX11_here 33 = .ok (.getfield 201, 3) := by decide +kernel
theorem dX11_here_36 : decode cX11_here 36 = .ok (.iconst 1, 1) := by decide +kernel
theorem dX11_here_37 : decode cX11_here 37 = .ok (.iadd, 1) := by decide +kernel
theorem dX11_here_38 : decode cX11_here 38 = .ok (.putfield 201, 3) := by decide +kernel
theorem dX11_here_41 : decode cX11_here 41 = .ok (.goto (-41), 3) := by decide +kernel
theorem dX11_here_44 : decode cX11_here 44 = .ok (.aload_n 0, 1) := by decide +kernel
theorem dX11_here_45 : decode cX11_here 45 = .ok (.getfield 201, 3) := by decide +kernel
theorem dX11_here_48 : decode cX11_here 48 = .ok (.aload_n 0, 1) := by decide +kernel
theorem dX11_here_49 : decode cX11_here 49 = .ok (.getfield 7, 3) := by decide +kernel
theorem dX11_here_52 : decode cX11_here 52 = .ok (.bipush 7, 2) := by decide +kernel
theorem dX11_here_54 : decode cX11_here 54 = .ok (.iaload, 1) := by decide +kernel
theorem dX11_here_55 : decode cX11_here 55 = .ok (.if_icmp .ge 18, 3) := by decide +kernel
theorem dX11_here_58 : decode cX11_here 58 = .ok (.aload_n 0, 1) := by decide +kernel
theorem dX11_here_59 : decode cX11_here 59 = .ok (.getfield 7, 3) := by decide +kernel
theorem dX11_here_62 : decode cX11_here 62 = .ok (.bipush 115, 2) := by decide +kernel
theorem dX11_here_64 : decode cX11_here 64 = .ok (.aload_n 0, 1) := by decide +kernel
theorem dX11_here_65 : decode cX11_here 65 = .ok (.getfield 201, 3) := by decide +kernel
theorem dX11_here_68 : decode cX11_here 68 = .ok (.iadd, 1) := by decide +kernel
theorem dX11_here_69 : decode cX11_here 69 = .ok (.iaload, 1) := by decide +kernel
theorem dX11_here_70 : decode cX11_here 70 = .ok (.goto 4, 3) := by decide +kernel
theorem dX11_here_73 : decode cX11_here 73 = .ok (.iconst (-1), 1) := by decide +kernel
theorem dX11_here_74 : decode cX11_here 74 = .ok (.ireturn, 1) := by decide +kernel
theorem dX11_takesUnit_0 : decode cX11_takesUnit 0 = .ok (.aload_n 0, 1) := by decide +kernel
theorem dX11_takesUnit_1 : decode cX11_takesUnit 1 = .ok (.invokevirtual 204, 3) := by decide +kernel
theorem dX11_takesUnit_4 : decode cX11_takesUnit 4 = .ok (.istore_n 2, 1) := by decide +kernel
theorem dX11_takesUnit_5 : decode cX11_takesUnit 5 = .ok (.iload_n 2, 1) := by decide +kernel
theorem dX11_takesUnit_6 : decode cX11_takesUnit 6 = .ok (.invokestatic 131, 3) := by decide +kernel
theorem dX11_takesUnit_9 : decode cX11_takesUnit 9 = .ok (.ifCond .eq 120, 3) := by decide +kernel
theorem dX11_takesUnit_12 : decode cX11_takesUnit 12 = .ok (.aload_n 0, 1) := by decide +kernel
theorem dX11_takesUnit_13 : decode cX11_takesUnit 13 = .ok (.getfield 201, 3) := by decide +kernel
theorem dX11_takesUnit_16 : decode cX11_takesUnit 16 = .ok (.istore_n 3, 1) := by decide +kernel
theorem dX11_takesUnit_17 : decode cX11_takesUnit 17 = .ok (.iconst 0, 1) := by decide +kernel
theorem dX11_takesUnit_18 : decode cX11_takesUnit 18 = .ok (.istore 4, 2) := by decide +kernel
theorem dX11_takesUnit_20 : decode cX11_takesUnit 20 = .ok (.aload_n 0, 1) := by decide +kernel
theorem dX11_takesUnit_21 : decode cX11_takesUnit 21 = .ok (.getfield 201, 3) := by decide +kernel
theorem dX11_takesUnit_24 : decode cX11_takesUnit 24 = .ok (.aload_n 0, 1) := by decide +kernel
theorem dX11_takesUnit_25 : decode cX11_takesUnit 25 = .ok (.getfield 7, 3) := by decide +kernel
theorem dX11_takesUnit_28 : decode cX11_takesUnit 28 = .ok (.bipush 7, 2) := by decide +kernel
theorem dX11_takesUnit_30 : decode cX11_takesUnit 30 = .ok (.iaload, 1) := by decide +kernel
theorem dX11_takesUnit_31 : decode cX11_takesUnit 31 = .ok (.if_icmp .ge 75, 3) := by decide +kernel
theorem dX11_takesUnit_34 : decode cX11_takesUnit 34 = .ok (.aload_n 0, 1) := by decide +kernel
theorem dX11_takesUnit_35 : decode cX11_takesUnit 35 = .ok (.getfield 7, 3) := by decide +kernel
theorem dX11_takesUnit_38 : decode cX11_takesUnit 38 = .ok (.bipush 115, 2) := by decide +kernel
theorem dX11_takesUnit_40 : decode cX11_takesUnit 40 = .ok (.aload_n 0, 1) := by decide +kernel
theorem dX11_takesUnit_41 : decode cX11_takesUnit 41 = .ok (.getfield 201, 3) := by decide +kernel
theorem dX11_takesUnit_44 : decode cX11_takesUnit 44 = .ok (.iadd, 1) := by decide +kernel
theorem dX11_takesUnit_45 : decode cX11_takesUnit 45 = .ok (.iaload, 1) := by decide +kernel
theorem dX11_takesUnit_46 : decode cX11_takesUnit 46 = .ok (.invokestatic 131, 3) := by decide +kernel
theorem dX11_takesUnit_49 : decode cX11_takesUnit 49 = .ok (.ifCond .eq 57, 3) := by decide +kernel
theorem dX11_takesUnit_52 : decode cX11_takesUnit 52 = .ok (.aload_n 0, 1) := by decide +kernel
theorem dX11_takesUnit_53 : decode cX11_takesUnit 53 = .ok (.getfield 201, 3) := by decide +kernel
theorem dX11_takesUnit_56 : decode cX11_takesUnit 56 = .ok (.iload_n 3, 1) := by decide +kernel
theorem dX11_takesUnit_57 : decode cX11_takesUnit 57 = .ok (.isub, 1) := by decide +kernel
theorem dX11_takesUnit_58 : decode cX11_takesUnit 58 = .ok (.bipush 6, 2) := by decide +kernel
theorem dX11_takesUnit_60 : decode cX11_takesUnit 60 = .ok (.if_icmp .ne 10, 3) := by decide +kernel
theorem dX11_takesUnit_63 : decode cX11_takesUnit 63 = .ok (.bipush 10, 2) := by decide +kernel
theorem dX11_takesUnit_65 : decode cX11_takesUnit 65 = .ok (.iload_n 3, 1) := by decide +kernel
theorem dX11_takesUnit_66 : decode cX11_takesUnit 66 = .ok (.imul, 1) := by decide +kernel
theorem dX11_takesUnit_67 : decode cX11_takesUnit 67 = .ok (.iconst 2, 1) := by decide +kernel
theorem dX11_takesUnit_68 : decode cX11_takesUnit 68 = .ok (.iadd, 1) := by decide +kernel
theorem dX11_takesUnit_69 : decode cX11_takesUnit 69 = .ok (.ireturn, 1) := by decide +kernel
theorem dX11_takesUnit_70 : decode cX11_takesUnit 70 = .ok (.bipush 10, 2) := by decide +kernel
theorem dX11_takesUnit_72 : decode cX11_takesUnit 72 = .ok (.iload 4, 2) := by decide +kernel
theorem dX11_takesUnit_74 : decode cX11_takesUnit 74 = .ok (.imul, 1) := by decide +kernel
theorem dX11_takesUnit_75 : decode cX11_takesUnit 75 = .ok (.aload_n 0, 1) := by decide +kernel
theorem dX11_takesUnit_76 : decode cX11_takesUnit 76 = .ok (.getfield 7, 3) := by decide +kernel
theorem dX11_takesUnit_79 : decode cX11_takesUnit 79 = .ok (.bipush 115, 2) := by decide +kernel
theorem dX11_takesUnit_81 : decode cX11_takesUnit 81 = .ok (.aload_n 0, 1) := by decide +kernel
theorem dX11_takesUnit_82 : decode cX11_takesUnit 82 = .ok (.getfield 201, 3) := by decide +kernel
theorem dX11_takesUnit_85 : decode cX11_takesUnit 85 = .ok (.iadd, 1) := by decide +kernel
theorem dX11_takesUnit_86 : decode cX11_takesUnit 86 = .ok (.iaload, 1) := by decide +kernel
theorem dX11_takesUnit_87 : decode cX11_takesUnit 87 = .ok (.iadd, 1) := by decide +kernel
theorem dX11_takesUnit_88 : decode cX11_takesUnit 88 = .ok (.bipush 48, 2) := by decide +kernel
theorem dX11_takesUnit_90 : decode cX11_takesUnit 90 = .ok (.isub, 1) := by decide +kernel
theorem dX11_takesUnit_91 : decode cX11_takesUnit 91 = .ok (.istore 4, 2) := by decide +kernel
theorem dX11_takesUnit_93 : decode cX11_takesUnit 93 = .ok (.aload_n 0, 1) := by decide +kernel
theorem dX11_takesUnit_94 : decode cX11_takesUnit 94 = .ok (.dup, 1) := by decide +kernel
theorem dX11_takesUnit_95 : decode cX11_takesUnit 95 = .ok (.getfield 201, 3) := by decide +kernel
theorem dX11_takesUnit_98 : decode cX11_takesUnit 98 = .ok (.iconst 1, 1) := by decide +kernel
theorem dX11_takesUnit_99 : decode cX11_takesUnit 99 = .ok (.iadd, 1) := by decide +kernel
theorem dX11_takesUnit_100 : decode cX11_takesUnit 100 = .ok (.putfield 201, 3) := by decide +kernel
theorem dX11_takesUnit_103 : decode cX11_takesUnit 103 = .ok (.goto (-83), 3) := by decide +kernel
theorem dX11_takesUnit_106 : decode cX11_takesUnit 106 = .ok (.aload_n 0, 1) := by decide +kernel
theorem dX11_takesUnit_107 : decode cX11_takesUnit 107 = .ok (.getfield 39, 3) := by decide +kernel
theorem dX11_takesUnit_110 : decode cX11_takesUnit 110 = .ok (.aload_n 0, 1) := by decide +kernel
theorem dX11_takesUnit_111 : decode cX11_takesUnit 111 = .ok (.getfield 198, 3) := by decide +kernel
theorem dX11_takesUnit_114 : decode cX11_takesUnit 114 = .ok (.iload 4, 2) := by decide +kernel
theorem dX11_takesUnit_116 : decode cX11_takesUnit 116 = .ok (.iastore, 1) := by decide +kernel
theorem dX11_takesUnit_117 : decode cX11_takesUnit 117 = .ok (.aload_n 0, 1) := by decide +kernel
theorem dX11_takesUnit_118 : decode cX11_takesUnit 118 = .ok (.dup, 1) := by decide +kernel
theorem dX11_takesUnit_119 : decode cX11_takesUnit 119 = .ok (.getfield 198, 3) := by decide +kernel
theorem dX11_takesUnit_122 : decode cX11_takesUnit 122 = .ok (.iconst 1, 1) := by decide +kernel
theorem dX11_takesUnit_123 : decode cX11_takesUnit 123 = .ok (.iadd, 1) := by decide +kernel
theorem dX11_takesUnit_124 : decode cX11_takesUnit 124 = .ok (.putfield 198, 3) := by decide +kernel
theorem dX11_takesUnit_127 : decode cX11_takesUnit 127 = .ok (.iconst 1, 1) := by decide +kernel
theorem dX11_takesUnit_128 : decode cX11_takesUnit 128 = .ok (.ireturn, 1) := by decide +kernel
theorem dX11_takesUnit_129 : decode cX11_takesUnit 129 = .ok (.iload_n 2, 1) := by decide +kernel
theorem dX11_takesUnit_130 : decode cX11_takesUnit 130 = .ok (.invokestatic 207, 3) := by decide +kernel
theorem dX11_takesUnit_133 : decode cX11_takesUnit 133 = .ok (.ifCond .eq 36, 3) := by decide +kernel
theorem dX11_takesUnit_136 : decode cX11_takesUnit 136 = .ok (.aload_n 0, 1) := by decide +kernel
theorem dX11_takesUnit_137 : decode cX11_takesUnit 137 = .ok (.getfield 39, 3) := by decide +kernel
theorem dX11_takesUnit_140 : decode cX11_takesUnit 140 = .ok (.aload_n 0, 1) := by decide +kernel
theorem dX11_takesUnit_141 : decode cX11_takesUnit 141 = .ok (.getfield 198, 3) := by decide +kernel
theorem dX11_takesUnit_144 : decode cX11_takesUnit 144 = .ok (.iload_n 2, 1) := by decide +kernel
theorem dX11_takesUnit_145 : decode cX11_takesUnit 145 = .ok (.ineg, 1) := by decide +kernel
theorem dX11_takesUnit_146 : decode cX11_takesUnit 146 = .ok (.iastore, 1) := by decide +kernel
theorem dX11_takesUnit_147 : decode cX11_takesUnit 147 = .ok (.aload_n 0, 1) := by decide +kernel
theorem dX11_takesUnit_148 : decode cX11_takesUnit 148 = .ok (.dup, 1) := by decide +kernel
theorem dX11_takesUnit_149 : decode cX11_takesUnit 149 = .ok (.getfield 198, 3) := by decide +kernel
theorem dX11_takesUnit_152 : decode cX11_takesUnit 152 = .ok (.iconst 1, 1) := by decide +kernel
theorem dX11_takesUnit_153 : decode cX11_takesUnit 153 = .ok (.iadd, 1) := by decide +kernel
theorem dX11_takesUnit_154 : decode cX11_takesUnit 154 = .ok (.putfield 198, 3) := by decide +kernel
theorem dX11_takesUnit_157 : decode cX11_takesUnit 157 = .ok (.aload_n 0, 1) := by decide +kernel
theorem dX11_takesUnit_158 : decode cX11_takesUnit 158 = .ok (.dup, 1) := by decide +kernel
theorem dX11_takesUnit_159 : decode cX11_takesUnit 159 = .ok (.getfield 201, 3) := by decide +kernel
theorem dX11_takesUnit_162 : decode cX11_takesUnit 162 = .ok (.iconst 1, 1) := by decide +kernel
theorem dX11_takesUnit_163 : decode cX11_takesUnit 163 = .ok (.iadd, 1) := by decide +kernel
theorem dX11_takesUnit_164 : decode cX11_takesUnit 164 = .ok (.putfield 201, 3) := by decide +kernel
theorem dX11_takesUnit_167 : decode cX11_takesUnit 167 = .ok (.iconst 1, 1) := by decide +kernel
theorem dX11_takesUnit_168 : decode cX11_takesUnit 168 = .ok (.ireturn, 1) := by decide +kernel
theorem dX11_takesUnit_169 : decode cX11_takesUnit 169 = .ok (.iload_n 2, 1) := by decide +kernel
theorem dX11_takesUnit_170 : decode cX11_takesUnit 170 = .ok (.bipush 40, 2) := by decide +kernel
theorem dX11_takesUnit_172 : decode cX11_takesUnit 172 = .ok (.if_icmp .ne 19, 3) := by decide +kernel
theorem dX11_takesUnit_175 : decode cX11_takesUnit 175 = .ok (.iload_n 1, 1) := by decide +kernel
theorem dX11_takesUnit_176 : decode cX11_takesUnit 176 = .ok (.bipush 8, 2) := by decide +kernel
theorem dX11_takesUnit_178 : decode cX11_takesUnit 178 = .ok (.if_icmp .ne 13, 3) := by decide +kernel
theorem dX11_takesUnit_181 : decode cX11_takesUnit 181 = .ok (.bipush 10, 2) := by decide +kernel
theorem dX11_takesUnit_183 : decode cX11_takesUnit 183 = .ok (.aload_n 0, 1) := by decide +kernel
theorem dX11_takesUnit_184 : decode cX11_takesUnit 184 = .ok (.getfield 201, 3) := by decide +kernel
theorem dX11_takesUnit_187 : decode cX11_takesUnit 187 = .ok (.imul, 1) := by decide +kernel
theorem dX11_takesUnit_188 : decode cX11_takesUnit 188 = .ok (.iconst 3, 1) := by decide +kernel
theorem dX11_takesUnit_189 : decode cX11_takesUnit 189 = .ok (.iadd, 1) := by decide +kernel
theorem dX11_takesUnit_190 : decode cX11_takesUnit 190 = .ok (.ireturn, 1) := by decide +kernel
theorem dX11_takesUnit_191 : decode cX11_takesUnit 191 = .ok (.iload_n 2, 1) := by decide +kernel
theorem dX11_takesUnit_192 : decode cX11_takesUnit 192 = .ok (.bipush 40, 2) := by decide +kernel
theorem dX11_takesUnit_194 : decode cX11_takesUnit 194 = .ok (.if_icmp .eq 25, 3) := by decide +kernel
theorem dX11_takesUnit_197 : decode cX11_takesUnit 197 = .ok (.iload_n 2, 1) := by decide +kernel
theorem dX11_takesUnit_198 : decode cX11_takesUnit 198 = .ok (.bipush 33, 2) := by decide +kernel
theorem dX11_takesUnit_200 : decode cX11_takesUnit 200 = .ok (.if_icmp .eq 19, 3) := by decide +kernel
theorem dX11_takesUnit_203 : decode cX11_takesUnit 203 = .ok (.iload_n 2, 1) := by decide +kernel
theorem dX11_takesUnit_204 : decode cX11_takesUnit 204 = .ok (.bipush 45, 2) := by decide +kernel
theorem dX11_takesUnit_206 : decode cX11_takesUnit 206 = .ok (.if_icmp .eq 13, 3) := by decide +kernel
theorem dX11_takesUnit_209 : decode cX11_takesUnit 209 = .ok (.bipush 10, 2) := by decide +kernel
theorem dX11_takesUnit_211 : decode cX11_takesUnit 211 = .ok (.aload_n 0, 1) := by decide +kernel
theorem dX11_takesUnit_212 : decode cX11_takesUnit 212 = .ok (.getfield 201, 3) := by decide +kernel
theorem dX11_takesUnit_215 : decode cX11_takesUnit 215 = .ok (.imul, 1) := by decide +kernel
theorem dX11_takesUnit_216 : decode cX11_takesUnit 216 = .ok (.iconst 1, 1) := by decide +kernel
theorem dX11_takesUnit_217 : decode cX11_takesUnit 217 = .ok (.iadd, 1) := by decide +kernel
theorem dX11_takesUnit_218 : decode cX11_takesUnit 218 = .ok (.ireturn, 1) := by decide +kernel
theorem dX11_takesUnit_219 : decode cX11_takesUnit 219 = .ok (.aload_n 0, 1) := by decide +kernel
theorem dX11_takesUnit_220 : decode cX11_takesUnit 220 = .ok (.getfield 42, 3) := by decide +kernel
theorem dX11_takesUnit_223 : decode cX11_takesUnit 223 = .ok (.aload_n 0, 1) := by decide +kernel
theorem dX11_takesUnit_224 : decode cX11_takesUnit 224 = .ok (.getfield 192, 3) := by decide +kernel
theorem dX11_takesUnit_227 : decode cX11_takesUnit 227 = .ok (.iload_n 2, 1) := by decide +kernel
theorem dX11_takesUnit_228 : decode cX11_takesUnit 228 = .ok (.bipush 45, 2) := by decide +kernel
theorem dX11_takesUnit_230 : decode cX11_takesUnit 230 = .ok (.if_icmp .ne 8, 3) := by decide +kernel
theorem dX11_takesUnit_233 : decode cX11_takesUnit 233 = .ok (.bipush 126, 2) := by decide +kernel
theorem dX11_takesUnit_235 : decode cX11_takesUnit 235 = .ok (.goto 4, 3) := by decide +kernel
theorem dX11_takesUnit_238 : decode cX11_takesUnit 238 = .ok (.iload_n 2, 1) := by decide +kernel
theorem dX11_takesUnit_239 : decode cX11_takesUnit 239 = .ok (.iastore, 1) := by decide +kernel
theorem dX11_takesUnit_240 : decode cX11_takesUnit 240 = .ok (.aload_n 0, 1) := by decide +kernel
theorem dX11_takesUnit_241 : decode cX11_takesUnit 241 = .ok (.dup, 1) := by decide +kernel
theorem dX11_takesUnit_242 : decode cX11_takesUnit 242 = .ok (.getfield 192, 3) := by decide +kernel
theorem dX11_takesUnit_245 : decode cX11_takesUnit 245 = .ok (.iconst 1, 1) := by decide +kernel
theorem dX11_takesUnit_246 : decode cX11_takesUnit 246 = .ok (.iadd, 1) := by decide +kernel
theorem dX11_takesUnit_247 : decode cX11_takesUnit 247 = .ok (.putfield 192, 3) := by decide +kernel
theorem dX11_takesUnit_250 : decode cX11_takesUnit 250 = .ok (.aload_n 0, 1) := by decide +kernel
theorem dX11_takesUnit_251 : decode cX11_takesUnit 251 = .ok (.dup, 1) := by decide +kernel
theorem dX11_takesUnit_252 : decode cX11_takesUnit 252 = .ok (.getfield 201, 3) := by decide +kernel
theorem dX11_takesUnit_255 : decode cX11_takesUnit 255 = .ok (.iconst 1, 1) := by decide +kernel
theorem dX11_takesUnit_256 : decode cX11_takesUnit 256 = .ok (.iadd, 1) := by decide +kernel
theorem dX11_takesUnit_257 : decode cX11_takesUnit 257 = .ok (.putfield 201, 3) := by decide +kernel
theorem dX11_takesUnit_260 : decode cX11_takesUnit 260 = .ok (.iconst 0, 1) := by decide +kernel
theorem dX11_takesUnit_261 : decode cX11_takesUnit 261 = .ok (.ireturn, 1) := by decide +kernel
theorem dX11_compile_0 : decode cX11_compile 0 = .ok (.aload_n 0, 1) := by decide +kernel
theorem dX11_compile_1 : decode cX11_compile 1 = .ok (.iconst 0, 1) := by decide +kernel
theorem dX11_compile_2 : decode cX11_compile 2 = .ok (.putfield 198, 3) := by decide +kernel
theorem dX11_compile_5 : decode cX11_compile 5 = .ok (.aload_n 0, 1) := by decide +kernel
theorem dX11_compile_6 : decode cX11_compile 6 = .ok (.iconst 0, 1) := by decide +kernel
theorem dX11_compile_7 : decode cX11_compile 7 = .ok (.putfield 192, 3) := by decide +kernel
theorem dX11_compile_10 : decode cX11_compile 10 = .ok (.aload_n 0, 1) := by decide +kernel
theorem dX11_compile_11 : decode cX11_compile 11 = .ok (.iconst 0, 1) := by decide +kernel
theorem dX11_compile_12 : decode cX11_compile 12 = .ok (.putfield 201, 3) := by decide +kernel
theorem dX11_compile_15 : decode cX11_compile 15 = .ok (.iconst 0, 1) := by decide +kernel
theorem dX11_compile_16 : decode cX11_compile 16 = .ok (.istore_n 1, 1) := by decide +kernel
theorem dX11_compile_17 : decode cX11_compile 17 = .ok (.aload_n 0, 1) := by decide +kernel
theorem dX11_compile_18 : decode cX11_compile 18 = .ok (.getfield 45, 3) := by decide +kernel
theorem dX11_compile_21 : decode cX11_compile 21 = .ok (.iconst 0, 1) := by decide +kernel
theorem dX11_compile_22 : decode cX11_compile 22 = .ok (.iconst 0, 1) := by decide +kernel
theorem dX11_compile_23 : decode cX11_compile 23 = .ok (.bastore, 1) := by decide +kernel
theorem dX11_compile_24 : decode cX11_compile 24 = .ok (.iconst 1, 1) := by decide +kernel
theorem dX11_compile_25 : decode cX11_compile 25 = .ok (.istore_n 2, 1) := by decide +kernel
theorem dX11_compile_26 : decode cX11_compile 26 = .ok (.iload_n 2, 1) := by decide +kernel
theorem dX11_compile_27 : decode cX11_compile 27 = .ok (.ifCond .eq 74, 3) := by decide +kernel
theorem dX11_compile_30 : decode cX11_compile 30 = .ok (.aload_n 0, 1) := by decide +kernel
theorem dX11_compile_31 : decode cX11_compile 31 = .ok (.iload_n 1, 1) := by decide +kernel
theorem dX11_compile_32 : decode cX11_compile 32 = .ok (.invokevirtual 210, 3) := by decide +kernel
theorem dX11_compile_35 : decode cX11_compile 35 = .ok (.istore_n 3, 1) := by decide +kernel
theorem dX11_compile_36 : decode cX11_compile 36 = .ok (.iload_n 3, 1) := by decide +kernel
theorem dX11_compile_37 : decode cX11_compile 37 = .ok (.iconst 1, 1) := by decide +kernel
theorem dX11_compile_38 : decode cX11_compile 38 = .ok (.if_icmp .gt 15, 3) := by decide +kernel
theorem dX11_compile_41 : decode cX11_compile 41 = .ok (.iload_n 3, 1) := by decide +kernel
theorem dX11_compile_42 : decode cX11_compile 42 = .ok (.iconst 1, 1) := by decide +kernel
theorem dX11_compile_43 : decode cX11_compile 43 = .ok (.if_icmp .ne 12, 3) := by decide +kernel
theorem dX11_compile_46 : decode cX11_compile 46 = .ok (.aload_n 0, 1) := by decide +kernel
theorem dX11_compile_47 : decode cX11_compile 47 = .ok (.getfield 198, 3) := by decide +kernel
theorem dX11_compile_50 : decode cX11_compile 50 = .ok (.ifCond .ne 5, 3) := by decide +kernel
theorem dX11_compile_53 : decode cX11_compile 53 = .ok (.iload_n 3, 1) := by decide +kernel
theorem dX11_compile_54 : decode cX11_compile 54 = .ok (.ireturn, 1) := by decide +kernel
theorem dX11_compile_55 : decode cX11_compile 55 = .ok (.iload_n 3, 1) := by decide +kernel
theorem dX11_compile_56 : decode cX11_compile 56 = .ok (.ifCond .ne 29, 3) := by decide +kernel
theorem dX11_compile_59 : decode cX11_compile 59 = .ok (.aload_n 0, 1) := by decide +kernel
theorem dX11_compile_60 : decode cX11_compile 60 = .ok (.getfield 42, 3) := by decide +kernel
theorem dX11_compile_63 : decode cX11_compile 63 = .ok (.aload_n 0, 1) := by decide +kernel
theorem dX11_compile_64 : decode cX11_compile 64 = .ok (.getfield 192, 3) := by decide +kernel
theorem dX11_compile_67 : decode cX11_compile 67 = .ok (.iconst 1, 1) := by decide +kernel
theorem dX11_compile_68 : decode cX11_compile 68 = .ok (.isub, 1) := by decide +kernel
theorem dX11_compile_69 : decode cX11_compile 69 = .ok (.iaload, 1) := by decide +kernel
theorem dX11_compile_70 : decode cX11_compile 70 = .ok (.bipush 40, 2) := by decide +kernel
theorem dX11_compile_72 : decode cX11_compile 72 = .ok (.if_icmp .ne 13, 3) := by decide +kernel
theorem dX11_compile_75 : decode cX11_compile 75 = .ok (.iinc 1 1, 3) := by decide +kernel
theorem dX11_compile_78 : decode cX11_compile 78 = .ok (.aload_n 0, 1) := by decide +kernel
theorem dX11_compile_79 : decode cX11_compile 79 = .ok (.getfield 45, 3) := by decide +kernel
theorem dX11_compile_82 : decode cX11_compile 82 = .ok (.iload_n 1, 1) := by decide +kernel
theorem dX11_compile_83 : decode cX11_compile 83 = .ok (.iconst 0, 1) := by decide +kernel
theorem dX11_compile_84 : decode cX11_compile 84 = .ok (.bastore, 1) := by decide +kernel
theorem dX11_compile_85 : decode cX11_compile 85 = .ok (.iload_n 3, 1) := by decide +kernel
theorem dX11_compile_86 : decode cX11_compile 86 = .ok (.iconst 1, 1) := by decide +kernel
theorem dX11_compile_87 : decode cX11_compile 87 = .ok (.if_icmp .ne (-61), 3) := by decide +kernel
theorem dX11_compile_90 : decode cX11_compile 90 = .ok (.aload_n 0, 1) := by decide +kernel
theorem dX11_compile_91 : decode cX11_compile 91 = .ok (.bipush 6, 2) := by decide +kernel
theorem dX11_compile_93 : decode cX11_compile 93 = .ok (.invokevirtual 213, 3) := by decide +kernel
theorem dX11_compile_96 : decode cX11_compile 96 = .ok (.iconst 0, 1) := by decide +kernel
theorem dX11_compile_97 : decode cX11_compile 97 = .ok (.istore_n 2, 1) := by decide +kernel
theorem dX11_compile_98 : decode cX11_compile 98 = .ok (.goto (-72), 3) := by decide +kernel
theorem dX11_compile_101 : decode cX11_compile 101 = .ok (.aload_n 0, 1) := by decide +kernel
theorem dX11_compile_102 : decode cX11_compile 102 = .ok (.invokevirtual 204, 3) := by decide +kernel
theorem dX11_compile_105 : decode cX11_compile 105 = .ok (.istore_n 3, 1) := by decide +kernel
theorem dX11_compile_106 : decode cX11_compile 106 = .ok (.iload_n 3, 1) := by decide +kernel
theorem dX11_compile_107 : decode cX11_compile 107 = .ok (.iconst (-1), 1) := by decide +kernel
theorem dX11_compile_108 : decode cX11_compile 108 = .ok (.if_icmp .ne 14, 3) := by decide +kernel
theorem dX11_compile_111 : decode cX11_compile 111 = .ok (.iload_n 1, 1) := by decide +kernel
theorem dX11_compile_112 : decode cX11_compile 112 = .ok (.ifCond .ne 10, 3) := by decide +kernel
theorem dX11_compile_115 : decode cX11_compile 115 = .ok (.aload_n 0, 1) := by decide +kernel
theorem dX11_compile_116 : decode cX11_compile 116 = .ok (.iconst 1, 1) := by decide +kernel
theorem dX11_compile_117 : decode cX11_compile 117 = .ok (.invokevirtual 213, 3) := by decide +kernel
theorem dX11_compile_120 : decode cX11_compile 120 = .ok (.iconst (-1), 1) := by decide +kernel
theorem dX11_compile_121 : decode cX11_compile 121 = .ok (.ireturn, 1) := by decide +kernel
theorem dX11_compile_122 : decode cX11_compile 122 = .ok (.iload_n 3, 1) := by decide +kernel
theorem dX11_compile_123 : decode cX11_compile 123 = .ok (.bipush 41, 2) := by decide +kernel
theorem dX11_compile_125 : decode cX11_compile 125 = .ok (.if_icmp .ne 44, 3) := by decide +kernel
theorem dX11_compile_128 : decode cX11_compile 128 = .ok (.iload_n 1, 1) := by decide +kernel
theorem dX11_compile_129 : decode cX11_compile 129 = .ok (.ifCond .le 40, 3) := by decide +kernel
theorem dX11_compile_132 : decode cX11_compile 132 = .ok (.aload_n 0, 1) := by decide +kernel
theorem dX11_compile_133 : decode cX11_compile 133 = .ok (.iconst 1, 1) := by decide +kernel
theorem dX11_compile_134 : decode cX11_compile 134 = .ok (.invokevirtual 213, 3) := by decide +kernel
theorem dX11_compile_137 : decode cX11_compile 137 = .ok (.aload_n 0, 1) := by decide +kernel
theorem dX11_compile_138 : decode cX11_compile 138 = .ok (.dup, 1) := by decide +kernel
theorem dX11_compile_139 : decode cX11_compile 139 = .ok (.getfield 192, 3) := by decide +kernel
theorem dX11_compile_142 : decode cX11_compile 142 = .ok (.iconst 1, 1) := by decide +kernel
theorem dX11_compile_143 : decode cX11_compile 143 = .ok (.isub, 1) := by decide +kernel
theorem dX11_compile_144 : decode cX11_compile 144 = .ok (.putfield 192, 3) := by decide +kernel
theorem dX11_compile_147 : decode cX11_compile 147 = .ok (.iinc 1 (-1), 3) := by decide +kernel
theorem dX11_compile_150 : decode cX11_compile 150 = .ok (.aload_n 0, 1) := by decide +kernel
theorem dX11_compile_151 : decode cX11_compile 151 = .ok (.dup, 1) := by decide +kernel
theorem dX11_compile_152 : decode cX11_compile 152 = .ok (.getfield 201, 3) := by decide +kernel
theorem dX11_compile_155 : decode cX11_compile 155 = .ok (.iconst 1, 1) := by decide +kernel
theorem dX11_compile_156 : decode cX11_compile 156 = .ok (.iadd, 1) := by decide +kernel
theorem dX11_compile_157 : decode cX11_compile 157 = .ok (.putfield 201, 3) := by decide +kernel
theorem dX11_compile_160 : decode cX11_compile 160 = .ok (.aload_n 0, 1) := by decide +kernel
theorem dX11_compile_161 : decode cX11_compile 161 = .ok (.bipush 6, 2) := by decide +kernel
theorem dX11_compile_163 : decode cX11_compile 163 = .ok (.invokevirtual 213, 3) := by decide +kernel
theorem dX11_compile_166 : decode cX11_compile 166 = .ok (.goto (-140), 3) := by decide +kernel
theorem dX11_compile_169 : decode cX11_compile 169 = .ok (.iload_n 3, 1) := by decide +kernel
theorem dX11_compile_170 : decode cX11_compile 170 = .ok (.ifCond .lt 15, 3) := by decide +kernel
theorem dX11_compile_173 : decode cX11_compile 173 = .ok (.iload_n 3, 1) := by decide +kernel
theorem dX11_compile_174 : decode cX11_compile 174 = .ok (.bipush 40, 2) := by decide +kernel
theorem dX11_compile_176 : decode cX11_compile 176 = .ok (.if_icmp .eq 9, 3) := by decide +kernel
theorem dX11_compile_179 : decode cX11_compile 179 = .ok (.iload_n 3, 1) := by decide +kernel
theorem dX11_compile_180 : decode cX11_compile 180 = .ok (.bipush 41, 2) := by decide +kernel
theorem dX11_compile_182 : decode cX11_compile 182 = .ok (.if_icmp .ne 7, 3) := by decide +kernel
theorem dX11_compile_185 : decode cX11_compile 185 = .ok (.iconst 0, 1) := by decide +kernel
theorem dX11_compile_186 : decode cX11_compile 186 = .ok (.goto 7, 3) := by decide +kernel
theorem dX11_compile_189 : decode cX11_compile 189 = .ok (.iload_n 3, 1) := by decide +kernel
theorem dX11_compile_190 : decode cX11_compile 190 = .ok (.invokestatic 195, 3) := by decide +kernel
theorem dX11_compile_193 : decode cX11_compile 193 = .ok (.istore 4, 2) := by decide +kernel
theorem dX11_compile_195 : decode cX11_compile 195 = .ok (.iload 4, 2) := by decide +kernel
theorem dX11_compile_197 : decode cX11_compile 197 = .ok (.i2l, 1) := by decide +kernel
theorem dX11_compile_198 : decode cX11_compile 198 = .ok (.lconst 1, 1) := by decide +kernel
theorem dX11_compile_199 : decode cX11_compile 199 = .ok (.ldc2_w 92, 3) := by decide +kernel
theorem dX11_compile_202 : decode cX11_compile 202 = .ok (.invokestatic 78, 3) := by decide +kernel
theorem dX11_compile_205 : decode cX11_compile 205 = .ok (.ifCond .eq 18, 3) := by decide +kernel
theorem dX11_compile_208 : decode cX11_compile 208 = .ok (.iload 4, 2) := by decide +kernel
theorem dX11_compile_210 : decode cX11_compile 210 = .ok (.iconst 3, 1) := by decide +kernel
theorem dX11_compile_211 : decode cX11_compile 211 = .ok (.if_icmp .ne 22, 3) := by decide +kernel
theorem dX11_compile_214 : decode cX11_compile 214 = .ok (.aload_n 0, 1) := by decide +kernel
theorem dX11_compile_215 : decode cX11_compile 215 = .ok (.getfield 45, 3) := by decide +kernel
theorem dX11_compile_218 : decode cX11_compile 218 = .ok (.iload_n 1, 1) := by decide +kernel
theorem dX11_compile_219 : decode cX11_compile 219 = .ok (.baload, 1) := by decide +kernel
theorem dX11_compile_220 : decode cX11_compile 220 = .ok (.ifCond .eq 13, 3) := by decide +kernel
theorem dX11_compile_223 : decode cX11_compile 223 = .ok (.bipush 10, 2) := by decide +kernel
theorem dX11_compile_225 : decode cX11_compile 225 = .ok (.aload_n 0, 1) := by decide +kernel
theorem dX11_compile_226 : decode cX11_compile 226 = .ok (.getfield 201, 3) := by decide +kernel
theorem dX11_compile_229 : decode cX11_compile 229 = .ok (.imul, 1) := by decide +kernel
theorem dX11_compile_230 : decode cX11_compile 230 = .ok (.iconst 1, 1) := by decide +kernel
theorem dX11_compile_231 : decode cX11_compile 231 = .ok (.iadd, 1) := by decide +kernel
theorem dX11_compile_232 : decode cX11_compile 232 = .ok (.ireturn, 1) := by decide +kernel
theorem dX11_compile_233 : decode cX11_compile 233 = .ok (.aload_n 0, 1) := by decide +kernel
theorem dX11_compile_234 : decode cX11_compile 234 = .ok (.getfield 45, 3) := by decide +kernel
theorem dX11_compile_237 : decode cX11_compile 237 = .ok (.iload_n 1, 1) := by decide +kernel
theorem dX11_compile_238 : decode cX11_compile 238 = .ok (.iload 4, 2) := by decide +kernel
theorem dX11_compile_240 : decode cX11_compile 240 = .ok (.iconst 3, 1) := by decide +kernel
theorem dX11_compile_241 : decode cX11_compile 241 = .ok (.if_icmp .eq 18, 3) := by decide +kernel
theorem dX11_compile_244 : decode cX11_compile 244 = .ok (.iload 4, 2) := by decide +kernel
theorem dX11_compile_246 : decode cX11_compile 246 = .ok (.iconst 3, 1) := by decide +kernel
theorem dX11_compile_247 : decode cX11_compile 247 = .ok (.if_icmp .le 16, 3) := by decide +kernel
theorem dX11_compile_250 : decode cX11_compile 250 = .ok (.aload_n 0, 1) := by decide +kernel
theorem dX11_compile_251 : decode cX11_compile 251 = .ok (.getfield 45, 3) := by decide +kernel
theorem dX11_compile_254 : decode cX11_compile 254 = .ok (.iload_n 1, 1) := by decide +kernel
theorem dX11_compile_255 : decode cX11_compile 255 = .ok (.baload, 1) := by decide +kernel
theorem dX11_compile_256 : decode cX11_compile 256 = .ok (.ifCond .eq 7, 3) := by decide +kernel
theorem dX11_compile_259 : decode cX11_compile 259 = .ok (.iconst 1, 1) := by decide +kernel
theorem dX11_compile_260 : decode cX11_compile 260 = .ok (.goto 4, 3) := by decide +kernel
theorem dX11_compile_263 : decode cX11_compile 263 = .ok (.iconst 0, 1) := by decide +kernel
theorem dX11_compile_264 : decode cX11_compile 264 = .ok (.bastore, 1) := by decide +kernel
theorem dX11_compile_265 : decode cX11_compile 265 = .ok (.aload_n 0, 1) := by decide +kernel
theorem dX11_compile_266 : decode cX11_compile 266 = .ok (.iload 4, 2) := by decide +kernel
theorem dX11_compile_268 : decode cX11_compile 268 = .ok (.invokevirtual 213, 3) := by decide +kernel
theorem dX11_compile_271 : decode cX11_compile 271 = .ok (.aload_n 0, 1) := by decide +kernel
theorem dX11_compile_272 : decode cX11_compile 272 = .ok (.getfield 42, 3) := by decide +kernel
theorem dX11_compile_275 : decode cX11_compile 275 = .ok (.aload_n 0, 1) := by decide +kernel
theorem dX11_compile_276 : decode cX11_compile 276 = .ok (.getfield 192, 3) := by decide +kernel
theorem dX11_compile_279 : decode cX11_compile 279 = .ok (.iload_n 3, 1) := by decide +kernel
theorem dX11_compile_280 : decode cX11_compile 280 = .ok (.iastore, 1) := by decide +kernel
theorem dX11_compile_281 : decode cX11_compile 281 = .ok (.aload_n 0, 1) := by decide +kernel
theorem dX11_compile_282 : decode cX11_compile 282 = .ok (.dup, 1) := by decide +kernel
theorem dX11_compile_283 : decode cX11_compile 283 = .ok (.getfield 192, 3) := by decide +kernel
theorem dX11_compile_286 : decode cX11_compile 286 = .ok (.iconst 1, 1) := by decide +kernel
theorem dX11_compile_287 : decode cX11_compile 287 = .ok (.iadd, 1) := by decide +kernel
theorem dX11_compile_288 : decode cX11_compile 288 = .ok (.putfield 192, 3) := by decide +kernel
theorem dX11_compile_291 : decode cX11_compile 291 = .ok (.aload_n 0, 1) := by decide +kernel
theorem dX11_compile_292 : decode cX11_compile 292 = .ok (.dup, 1) := by decide +kernel
theorem dX11_compile_293 : decode cX11_compile 293 = .ok (.getfield 201, 3) := by decide +kernel
theorem dX11_compile_296 : decode cX11_compile 296 = .ok (.iconst 1, 1) := by decide +kernel
theorem dX11_compile_297 : decode cX11_compile 297 = .ok (.iadd, 1) := by decide +kernel
theorem dX11_compile_298 : decode cX11_compile 298 = .ok (.putfield 201, 3) := by decide +kernel
theorem dX11_compile_301 : decode cX11_compile 301 = .ok (.iconst 1, 1) := by decide +kernel
theorem dX11_compile_302 : decode cX11_compile 302 = .ok (.istore_n 2, 1) := by decide +kernel
theorem dX11_compile_303 : decode cX11_compile 303 = .ok (.goto (-277), 3) := by decide +kernel
theorem dX11_fault_0 : decode cX11_fault 0 = .ok (.aload_n 0, 1) := by decide +kernel
theorem dX11_fault_1 : decode cX11_fault 1 = .ok (.invokevirtual 217, 3) := by decide +kernel
theorem dX11_fault_4 : decode cX11_fault 4 = .ok (.ireturn, 1) := by decide +kernel
theorem dX11_worked_0 : decode cX11_worked 0 = .ok (.iload_n 0, 1) := by decide +kernel
theorem dX11_worked_1 : decode cX11_worked 1 = .ok (.lookupswitch 159 #[(38, 93), (42, 155), (43, 147), (45, 151), (60, 111), (61, 135), (62, 123), (124, 75)], 75) := by decide +kernel
theorem dX11_worked_76 : decode cX11_worked 76 = .ok (.lload_n 1, 1) := by decide +kernel
theorem dX11_worked_77 : decode cX11_worked 77 = .ok (.lconst 0, 1) := by decide +kernel
theorem dX11_worked_78 : decode cX11_worked 78 = .ok (.lcmp, 1) := by decide +kernel
theorem dX11_worked_79 : decode cX11_worked 79 = .ok (.ifCond .ne 9, 3) := by decide +kernel
theorem dX11_worked_82 : decode cX11_worked 82 = .ok (.lload_n 3, 1) := by decide +kernel
theorem dX11_worked_83 : decode cX11_worked 83 = .ok (.lconst 0, 1) := by decide +kernel
theorem dX11_worked_84 : decode cX11_worked 84 = .ok (.lcmp, 1) := by decide +kernel
theorem dX11_worked_85 : decode cX11_worked 85 = .ok (.ifCond .eq 7, 3) := by decide +kernel
theorem dX11_worked_88 : decode cX11_worked 88 = .ok (.lconst 1, 1) := by decide +kernel
theorem dX11_worked_89 : decode cX11_worked 89 = .ok (.goto 4, 3) := by decide +kernel
theorem dX11_worked_92 : decode cX11_worked 92 = .ok (.lconst 0, 1) := by decide +kernel
theorem dX11_worked_93 : decode cX11_worked 93 = .ok (.lreturn, 1) := by decide +kernel
theorem dX11_worked_94 : decode cX11_worked 94 = .ok (.lload_n 1, 1) := by decide +kernel
theorem dX11_worked_95 : decode cX11_worked 95 = .ok (.lconst 0, 1) := by decide +kernel
theorem dX11_worked_96 : decode cX11_worked 96 = .ok (.lcmp, 1) := by decide +kernel
theorem dX11_worked_97 : decode cX11_worked 97 = .ok (.ifCond .eq 13, 3) := by decide +kernel
theorem dX11_worked_100 : decode cX11_worked 100 = .ok (.lload_n 3, 1) := by decide +kernel
theorem dX11_worked_101 : decode cX11_worked 101 = .ok (.lconst 0, 1) := by decide +kernel
theorem dX11_worked_102 : decode cX11_worked 102 = .ok (.lcmp, 1) := by decide +kernel
theorem dX11_worked_103 : decode cX11_worked 103 = .ok (.ifCond .eq 7, 3) := by decide +kernel
theorem dX11_worked_106 : decode cX11_worked 106 = .ok (.lconst 1, 1) := by decide +kernel
theorem dX11_worked_107 : decode cX11_worked 107 = .ok (.goto 4, 3) := by decide +kernel
theorem dX11_worked_110 : decode cX11_worked 110 = .ok (.lconst 0, 1) := by decide +kernel
theorem dX11_worked_111 : decode cX11_worked 111 = .ok (.lreturn, 1) := by decide +kernel
theorem dX11_worked_112 : decode cX11_worked 112 = .ok (.lload_n 1, 1) := by decide +kernel
theorem dX11_worked_113 : decode cX11_worked 113 = .ok (.lload_n 3, 1) := by decide +kernel
theorem dX11_worked_114 : decode cX11_worked 114 = .ok (.lcmp, 1) := by decide +kernel
theorem dX11_worked_115 : decode cX11_worked 115 = .ok (.ifCond .ge 7, 3) := by decide +kernel
theorem dX11_worked_118 : decode cX11_worked 118 = .ok (.lconst 1, 1) := by decide +kernel
theorem dX11_worked_119 : decode cX11_worked 119 = .ok (.goto 4, 3) := by decide +kernel
theorem dX11_worked_122 : decode cX11_worked 122 = .ok (.lconst 0, 1) := by decide +kernel
theorem dX11_worked_123 : decode cX11_worked 123 = .ok (.lreturn, 1) := by decide +kernel
theorem dX11_worked_124 : decode cX11_worked 124 = .ok (.lload_n 1, 1) := by decide +kernel
theorem dX11_worked_125 : decode cX11_worked 125 = .ok (.lload_n 3, 1) := by decide +kernel
theorem dX11_worked_126 : decode cX11_worked 126 = .ok (.lcmp, 1) := by decide +kernel
theorem dX11_worked_127 : decode cX11_worked 127 = .ok (.ifCond .le 7, 3) := by decide +kernel
theorem dX11_worked_130 : decode cX11_worked 130 = .ok (.lconst 1, 1) := by decide +kernel
theorem dX11_worked_131 : decode cX11_worked 131 = .ok (.goto 4, 3) := by decide +kernel
theorem dX11_worked_134 : decode cX11_worked 134 = .ok (.lconst 0, 1) := by decide +kernel
theorem dX11_worked_135 : decode cX11_worked 135 = .ok (.lreturn, 1) := by decide +kernel
theorem dX11_worked_136 : decode cX11_worked 136 = .ok (.lload_n 1, 1) := by decide +kernel
theorem dX11_worked_137 : decode cX11_worked 137 = .ok (.lload_n 3, 1) := by decide +kernel
theorem dX11_worked_138 : decode cX11_worked 138 = .ok (.lcmp, 1) := by decide +kernel
theorem dX11_worked_139 : decode cX11_worked 139 = .ok (.ifCond .ne 7, 3) := by decide +kernel
theorem dX11_worked_142 : decode cX11_worked 142 = .ok (.lconst 1, 1) := by decide +kernel
theorem dX11_worked_143 : decode cX11_worked 143 = .ok (.goto 4, 3) := by decide +kernel
theorem dX11_worked_146 : decode cX11_worked 146 = .ok (.lconst 0, 1) := by decide +kernel
theorem dX11_worked_147 : decode cX11_worked 147 = .ok (.lreturn, 1) := by decide +kernel
theorem dX11_worked_148 : decode cX11_worked 148 = .ok (.lload_n 1, 1) := by decide +kernel
theorem dX11_worked_149 : decode cX11_worked 149 = .ok (.lload_n 3, 1) := by decide +kernel
theorem dX11_worked_150 : decode cX11_worked 150 = .ok (.ladd, 1) := by decide +kernel
theorem dX11_worked_151 : decode cX11_worked 151 = .ok (.lreturn, 1) := by decide +kernel
theorem dX11_worked_152 : decode cX11_worked 152 = .ok (.lload_n 1, 1) := by decide +kernel
theorem dX11_worked_153 : decode cX11_worked 153 = .ok (.lload_n 3, 1) := by decide +kernel
theorem dX11_worked_154 : decode cX11_worked 154 = .ok (.lsub, 1) := by decide +kernel
theorem dX11_worked_155 : decode cX11_worked 155 = .ok (.lreturn, 1) := by decide +kernel
theorem dX11_worked_156 : decode cX11_worked 156 = .ok (.lload_n 1, 1) := by decide +kernel
theorem dX11_worked_157 : decode cX11_worked 157 = .ok (.lload_n 3, 1) := by decide +kernel
theorem dX11_worked_158 : decode cX11_worked 158 = .ok (.lmul, 1) := by decide +kernel
theorem dX11_worked_159 : decode cX11_worked 159 = .ok (.lreturn, 1) := by decide +kernel
theorem dX11_worked_160 : decode cX11_worked 160 = .ok (.lload_n 3, 1) := by decide +kernel
theorem dX11_worked_161 : decode cX11_worked 161 = .ok (.lconst 0, 1) := by decide +kernel
theorem dX11_worked_162 : decode cX11_worked 162 = .ok (.lcmp, 1) := by decide +kernel
theorem dX11_worked_163 : decode cX11_worked 163 = .ok (.ifCond .ne 7, 3) := by decide +kernel
theorem dX11_worked_166 : decode cX11_worked 166 = .ok (.lconst 0, 1) := by decide +kernel
theorem dX11_worked_167 : decode cX11_worked 167 = .ok (.goto 6, 3) := by decide +kernel
theorem dX11_worked_170 : decode cX11_worked 170 = .ok (.lload_n 1, 1) := by decide +kernel
theorem dX11_worked_171 : decode cX11_worked 171 = .ok (.lload_n 3, 1) := by decide +kernel
theorem dX11_worked_172 : decode cX11_worked 172 = .ok (.ldiv, 1) := by decide +kernel
theorem dX11_worked_173 : decode cX11_worked 173 = .ok (.lreturn, 1) := by decide +kernel
theorem dX11_tells_0 : decode cX11_tells 0 = .ok (.iconst 0, 1) := by decide +kernel
theorem dX11_tells_1 : decode cX11_tells 1 = .ok (.istore 5, 2) := by decide +kernel
theorem dX11_tells_3 : decode cX11_tells 3 = .ok (.iconst 0, 1) := by decide +kernel
theorem dX11_tells_4 : decode cX11_tells 4 = .ok (.istore 6, 2) := by decide +kernel
theorem dX11_tells_6 : decode cX11_tells 6 = .ok (.iload 6, 2) := by decide +kernel
theorem dX11_tells_8 : decode cX11_tells 8 = .ok (.aload_n 0, 1) := by decide +kernel
theorem dX11_tells_9 : decode cX11_tells 9 = .ok (.getfield 198, 3) := by decide +kernel
theorem dX11_tells_12 : decode cX11_tells 12 = .ok (.if_icmp .ge 235, 3) := by decide +kernel
theorem dX11_tells_15 : decode cX11_tells 15 = .ok (.aload_n 0, 1) := by decide +kernel
theorem dX11_tells_16 : decode cX11_tells 16 = .ok (.getfield 39, 3) := by decide +kernel
theorem dX11_tells_19 : decode cX11_tells 19 = .ok (.iload 6, 2) := by decide +kernel
theorem dX11_tells_21 : decode cX11_tells 21 = .ok (.iaload, 1) := by decide +kernel
theorem dX11_tells_22 : decode cX11_tells 22 = .ok (.istore 7, 2) := by decide +kernel
theorem dX11_tells_24 : decode cX11_tells 24 = .ok (.iload 7, 2) := by decide +kernel
theorem dX11_tells_26 : decode cX11_tells 26 = .ok (.ifCond .lt 19, 3) := by decide +kernel
theorem dX11_tells_29 : decode cX11_tells 29 = .ok (.aload_n 0, 1) := by decide +kernel
theorem dX11_tells_30 : decode cX11_tells 30 = .ok (.getfield 48, 3) := by decide +kernel
theorem dX11_tells_33 : decode cX11_tells 33 = .ok (.iload 5, 2) := by decide +kernel
theorem dX11_tells_35 : decode cX11_tells 35 = .ok (.iload 7, 2) := by decide +kernel
theorem dX11_tells_37 : decode cX11_tells 37 = .ok (.i2l, 1) := by decide +kernel
theorem dX11_tells_38 : decode cX11_tells 38 = .ok (.lastore, 1) := by decide +kernel
theorem dX11_tells_39 : decode cX11_tells 39 = .ok (.iinc 5 1, 3) := by decide +kernel
theorem dX11_tells_42 : decode cX11_tells 42 = .ok (.goto 199, 3) := by decide +kernel
theorem dX11_tells_45 : decode cX11_tells 45 = .ok (.iload 7, 2) := by decide +kernel
theorem dX11_tells_47 : decode cX11_tells 47 = .ok (.ineg, 1) := by decide +kernel
theorem dX11_tells_48 : decode cX11_tells 48 = .ok (.invokestatic 207, 3) := by decide +kernel
theorem dX11_tells_51 : decode cX11_tells 51 = .ok (.ifCond .eq 89, 3) := by decide +kernel
theorem dX11_tells_54 : decode cX11_tells 54 = .ok (.aload_n 0, 1) := by decide +kernel
theorem dX11_tells_55 : decode cX11_tells 55 = .ok (.getfield 48, 3) := by decide +kernel
theorem dX11_tells_58 : decode cX11_tells 58 = .ok (.iload 5, 2) := by decide +kernel
theorem dX11_tells_60 : decode cX11_tells 60 = .ok (.iload 7, 2) := by decide +kernel
theorem dX11_tells_62 : decode cX11_tells 62 = .ok (.bipush (-99), 2) := by decide +kernel
theorem dX11_tells_64 : decode cX11_tells 64 = .ok (.if_icmp .ne 8, 3) := by decide +kernel
theorem dX11_tells_67 : decode cX11_tells 67 = .ok (.iload_n 1, 1) := by decide +kernel
theorem dX11_tells_68 : decode cX11_tells 68 = .ok (.i2l, 1) := by decide +kernel
theorem dX11_tells_69 : decode cX11_tells 69 = .ok (.goto 64, 3) := by decide +kernel
theorem dX11_tells_72 : decode cX11_tells 72 = .ok (.iload 7, 2) := by decide +kernel
theorem dX11_tells_74 : decode cX11_tells 74 = .ok (.bipush (-115), 2) := by decide +kernel
theorem dX11_tells_76 : decode cX11_tells 76 = .ok (.if_icmp .ne 8, 3) := by decide +kernel
theorem dX11_tells_79 : decode cX11_tells 79 = .ok (.iload_n 2, 1) := by decide +kernel
theorem dX11_tells_80 : decode cX11_tells 80 = .ok (.i2l, 1) := by decide +kernel
theorem dX11_tells_81 : decode cX11_tells 81 = .ok (.goto 52, 3) := by decide +kernel
theorem dX11_tells_84 : decode cX11_tells 84 = .ok (.iload 7, 2) := by decide +kernel
theorem dX11_tells_86 : decode cX11_tells 86 = .ok (.bipush (-111), 2) := by decide +kernel
theorem dX11_tells_88 : decode cX11_tells 88 = .ok (.if_icmp .ne 8, 3) := by decide +kernel
theorem dX11_tells_91 : decode cX11_tells 91 = .ok (.iload_n 3, 1) := by decide +kernel
theorem dX11_tells_92 : decode cX11_tells 92 = .ok (.i2l, 1) := by decide +kernel
theorem dX11_tells_93 : decode cX11_tells 93 = .ok (.goto 40, 3) := by decide +kernel
theorem dX11_tells_96 : decode cX11_tells 96 = .ok (.iload 7, 2) := by decide +kernel
theorem dX11_tells_98 : decode cX11_tells 98 = .ok (.bipush (-112), 2) := by decide +kernel
theorem dX11_tells_100 : decode cX11_tells 100 = .ok (.if_icmp .ne 9, 3) := by decide +kernel
theorem dX11_tells_103 : decode cX11_tells 103 = .ok (.iload 4, 2) := by decide +kernel
theorem dX11_tells_105 : decode cX11_tells 105 = .ok (.i2l, 1) := by decide +kernel
theorem dX11_tells_106 : decode cX11_tells 106 = .ok (.goto 27, 3) := by decide +kernel
theorem dX11_tells_109 : decode cX11_tells 109 = .ok (.iload 7, 2) := by decide +kernel
theorem dX11_tells_111 : decode cX11_tells 111 = .ok (.bipush (-98), 2) := by decide +kernel
theorem dX11_tells_113 : decode cX11_tells 113 = .ok (.if_icmp .ne 13, 3) := by decide +kernel
theorem dX11_tells_116 : decode cX11_tells 116 = .ok (.aload_n 0, 1) := by decide +kernel
theorem dX11_tells_117 : decode cX11_tells 117 = .ok (.getfield 7, 3) := by decide +kernel
theorem dX11_tells_120 : decode cX11_tells 120 = .ok (.iconst 2, 1) := by decide +kernel
theorem dX11_tells_121 : decode cX11_tells 121 = .ok (.iaload, 1) := by decide +kernel
theorem dX11_tells_122 : decode cX11_tells 122 = .ok (.i2l, 1) := by decide +kernel
theorem dX11_tells_123 : decode cX11_tells 123 = .ok (.goto 10, 3) := by decide +kernel
theorem dX11_tells_126 : decode cX11_tells 126 = .ok (.aload_n 0, 1) := by decide +kernel
theorem dX11_tells_127 : decode cX11_tells 127 = .ok (.getfield 7, 3) := by decide +kernel
theorem dX11_tells_130 : decode cX11_tells 130 = .ok (.iconst 0, 1) := by decide +kernel
theorem dX11_tells_131 : decode cX11_tells 131 = .ok (.iaload, 1) := by decide +kernel
theorem dX11_tells_132 : decode cX11_tells 132 = .ok (.i2l, 1) := by decide +kernel
theorem dX11_tells_133 : decode cX11_tells 133 = .ok (.lastore, 1) := by decide +kernel
theorem dX11_tells_134 : decode cX11_tells 134 = .ok (.iinc 5 1, 3) := by decide +kernel
theorem dX11_tells_137 : decode cX11_tells 137 = .ok (.goto 104, 3) := by decide +kernel
theorem dX11_tells_140 : decode cX11_tells 140 = .ok (.iload 7, 2) := by decide +kernel
theorem dX11_tells_142 : decode cX11_tells 142 = .ok (.bipush (-33), 2) := by decide +kernel
theorem dX11_tells_144 : decode cX11_tells 144 = .ok (.if_icmp .ne 34, 3) := by decide +kernel
theorem dX11_tells_147 : decode cX11_tells 147 = .ok (.aload_n 0, 1) := by decide +kernel
theorem dX11_tells_148 : decode cX11_tells 148 = .ok (.getfield 48, 3) := by decide +kernel
theorem dX11_tells_151 : decode cX11_tells 151 = .ok (.iload 5, 2) := by decide +kernel
theorem dX11_tells_153 : decode cX11_tells 153 = .ok (.iconst 1, 1) := by decide +kernel
theorem dX11_tells_154 : decode cX11_tells 154 = .ok (.isub, 1) := by decide +kernel
theorem dX11_tells_155 : decode cX11_tells 155 = .ok (.aload_n 0, 1) := by decide +kernel
theorem dX11_tells_156 : decode cX11_tells 156 = .ok (.getfield 48, 3) := by decide +kernel
theorem dX11_tells_159 : decode cX11_tells 159 = .ok (.iload 5, 2) := by decide +kernel
theorem dX11_tells_161 : decode cX11_tells 161 = .ok (.iconst 1, 1) := by decide +kernel
theorem dX11_tells_162 : decode cX11_tells 162 = .ok (.isub, 1) := by decide +kernel
theorem dX11_tells_163 : decode cX11_tells 163 = .ok (.laload, 1) := by decide +kernel
theorem dX11_tells_164 : decode cX11_tells 164 = .ok (.lconst 0, 1) := by decide +kernel
theorem dX11_tells_165 : decode cX11_tells 165 = .ok (.lcmp, 1) := by decide +kernel
theorem dX11_tells_166 : decode cX11_tells 166 = .ok (.ifCond .ne 7, 3) := by decide +kernel
theorem dX11_tells_169 : decode cX11_tells 169 = .ok (.lconst 1, 1) := by decide +kernel
theorem dX11_tells_170 : decode cX11_tells 170 = .ok (.goto 4, 3) := by decide +kernel
theorem dX11_tells_173 : decode cX11_tells 173 = .ok (.lconst 0, 1) := by decide +kernel
theorem dX11_tells_174 : decode cX11_tells 174 = .ok (.lastore, 1) := by decide +kernel
theorem dX11_tells_175 : decode cX11_tells 175 = .ok (.goto 66, 3) := by decide +kernel
theorem dX11_tells_178 : decode cX11_tells 178 = .ok (.iload 7, 2) := by decide +kernel
theorem dX11_tells_180 : decode cX11_tells 180 = .ok (.bipush (-126), 2) := by decide +kernel
theorem dX11_tells_182 : decode cX11_tells 182 = .ok (.if_icmp .ne 25, 3) := by decide +kernel
theorem dX11_tells_185 : decode cX11_tells 185 = .ok (.aload_n 0, 1) := by decide +kernel
theorem dX11_tells_186 : decode cX11_tells 186 = .ok (.getfield 48, 3) := by decide +kernel
theorem dX11_tells_189 : decode cX11_tells 189 = .ok (.iload 5, 2) := by decide +kernel
theorem dX11_tells_191 : decode cX11_tells 191 = .ok (.iconst 1, 1) := by decide +kernel
theorem dX11_tells_192 : decode cX11_tells 192 = .ok (.isub, 1) := by decide +kernel
theorem dX11_tells_193 : decode cX11_tells 193 = .ok (.aload_n 0, 1) := by decide +kernel
theorem dX11_tells_194 : decode cX11_tells 194 = .ok (.getfield 48, 3) := by decide +kernel
theorem dX11_tells_197 : decode cX11_tells 197 = .ok (.iload 5, 2) := by decide +kernel
theorem dX11_tells_199 : decode cX11_tells 199 = .ok (.iconst 1, 1) := by decide +kernel
theorem dX11_tells_200 : decode cX11_tells 200 = .ok (.isub, 1) := by decide +kernel
theorem dX11_tells_201 : decode cX11_tells 201 = .ok (.laload, 1) := by decide +kernel
theorem dX11_tells_202 : decode cX11_tells 202 = .ok (.lneg, 1) := by decide +kernel
theorem dX11_tells_203 : decode cX11_tells 203 = .ok (.lastore, 1) := by decide +kernel
theorem dX11_tells_204 : decode cX11_tells 204 = .ok (.goto 37, 3) := by decide +kernel
theorem dX11_tells_207 : decode cX11_tells 207 = .ok (.iinc 5 (-1), 3) := by decide +kernel
theorem dX11_tells_210 : decode cX11_tells 210 = .ok (.aload_n 0, 1) := by decide +kernel
theorem dX11_tells_211 : decode cX11_tells 211 = .ok (.getfield 48, 3) := by decide +kernel
theorem dX11_tells_214 : decode cX11_tells 214 = .ok (.iload 5, 2) := by decide +kernel
theorem dX11_tells_216 : decode cX11_tells 216 = .ok (.iconst 1, 1) := by decide +kernel
theorem dX11_tells_217 : decode cX11_tells 217 = .ok (.isub, 1) := by decide +kernel
theorem dX11_tells_218 : decode cX11_tells 218 = .ok (.iload 7, 2) := by decide +kernel
theorem dX11_tells_220 : decode cX11_tells 220 = .ok (.ineg, 1) := by decide +kernel
theorem dX11_tells_221 : decode cX11_tells 221 = .ok (.aload_n 0, 1) := by decide +kernel
theorem dX11_tells_222 : decode cX11_tells 222 = .ok (.getfield 48, 3) := by decide +kernel
theorem dX11_tells_225 : decode cX11_tells 225 = .ok (.iload 5, 2) := by decide +kernel
theorem dX11_tells_227 : decode cX11_tells 227 = .ok (.iconst 1, 1) := by decide +kernel
theorem dX11_tells_228 : decode cX11_tells 228 = .ok (.isub, 1) := by decide +kernel
theorem dX11_tells_229 : decode cX11_tells 229 = .ok (.laload, 1) := by decide +kernel
theorem dX11_tells_230 : decode cX11_tells 230 = .ok (.aload_n 0, 1) := by decide +kernel
theorem dX11_tells_231 : decode cX11_tells 231 = .ok (.getfield 48, 3) := by decide +kernel
theorem dX11_tells_234 : decode cX11_tells 234 = .ok (.iload 5, 2) := by decide +kernel
theorem dX11_tells_236 : decode cX11_tells 236 = .ok (.laload, 1) := by decide +kernel
theorem dX11_tells_237 : decode cX11_tells 237 = .ok (.invokestatic 220, 3) := by decide +kernel
theorem dX11_tells_240 : decode cX11_tells 240 = .ok (.lastore, 1) := by decide +kernel
theorem dX11_tells_241 : decode cX11_tells 241 = .ok (.iinc 6 1, 3) := by decide +kernel
theorem dX11_tells_244 : decode cX11_tells 244 = .ok (.goto (-238), 3) := by decide +kernel
theorem dX11_tells_247 : decode cX11_tells 247 = .ok (.aload_n 0, 1) := by decide +kernel
theorem dX11_tells_248 : decode cX11_tells 248 = .ok (.getfield 48, 3) := by decide +kernel
theorem dX11_tells_251 : decode cX11_tells 251 = .ok (.iconst 0, 1) := by decide +kernel
theorem dX11_tells_252 : decode cX11_tells 252 = .ok (.laload, 1) := by decide +kernel
theorem dX11_tells_253 : decode cX11_tells 253 = .ok (.lreturn, 1) := by decide +kernel
theorem dX11_worth_0 : decode cX11_worth 0 = .ok (.aload_n 0, 1) := by decide +kernel
theorem dX11_worth_1 : decode cX11_worth 1 = .ok (.getfield 58, 3) := by decide +kernel
theorem dX11_worth_4 : decode cX11_worth 4 = .ok (.sipush 240, 3) := by decide +kernel
theorem dX11_worth_7 : decode cX11_worth 7 = .ok (.iload_n 1, 1) := by decide +kernel
theorem dX11_worth_8 : decode cX11_worth 8 = .ok (.imul, 1) := by decide +kernel
theorem dX11_worth_9 : decode cX11_worth 9 = .ok (.iload_n 3, 1) := by decide +kernel
theorem dX11_worth_10 : decode cX11_worth 10 = .ok (.iadd, 1) := by decide +kernel
theorem dX11_worth_11 : decode cX11_worth 11 = .ok (.baload, 1) := by decide +kernel
theorem dX11_worth_12 : decode cX11_worth 12 = .ok (.ifCond .ne 5, 3) := by decide +kernel
theorem dX11_worth_15 : decode cX11_worth 15 = .ok (.iconst 0, 1) := by decide +kernel
theorem dX11_worth_16 : decode cX11_worth 16 = .ok (.ireturn, 1) := by decide +kernel
theorem dX11_worth_17 : decode cX11_worth 17 = .ok (.aload_n 0, 1) := by decide +kernel
theorem dX11_worth_18 : decode cX11_worth 18 = .ok (.getfield 7, 3) := by decide +kernel
theorem dX11_worth_21 : decode cX11_worth 21 = .ok (.bipush 13, 2) := by decide +kernel
theorem dX11_worth_23 : decode cX11_worth 23 = .ok (.iload_n 1, 1) := by decide +kernel
theorem dX11_worth_24 : decode cX11_worth 24 = .ok (.iadd, 1) := by decide +kernel
theorem dX11_worth_25 : decode cX11_worth 25 = .ok (.iaload, 1) := by decide +kernel
theorem dX11_worth_26 : decode cX11_worth 26 = .ok (.tableswitch 101 1 5 #[34, 36, 43, 55, 85], 34) := by decide +kernel
theorem dX11_worth_60 : decode cX11_worth 60 = .ok (.iconst 2, 1) := by decide +kernel
theorem dX11_worth_61 : decode cX11_worth 61 = .ok (.ireturn, 1) := by decide +kernel
theorem dX11_worth_62 : decode cX11_worth 62 = .ok (.aload_n 0, 1) := by decide +kernel
theorem dX11_worth_63 : decode cX11_worth 63 = .ok (.getfield 7, 3) := by decide +kernel
theorem dX11_worth_66 : decode cX11_worth 66 = .ok (.iconst 1, 1) := by decide +kernel
theorem dX11_worth_67 : decode cX11_worth 67 = .ok (.iaload, 1) := by decide +kernel
theorem dX11_worth_68 : decode cX11_worth 68 = .ok (.ireturn, 1) := by decide +kernel
theorem dX11_worth_69 : decode cX11_worth 69 = .ok (.iload_n 3, 1) := by decide +kernel
theorem dX11_worth_70 : decode cX11_worth 70 = .ok (.iconst 3, 1) := by decide +kernel
theorem dX11_worth_71 : decode cX11_worth 71 = .ok (.irem, 1) := by decide +kernel
theorem dX11_worth_72 : decode cX11_worth 72 = .ok (.ifCond .ne 7, 3) := by decide +kernel
theorem dX11_worth_75 : decode cX11_worth 75 = .ok (.iconst 1, 1) := by decide +kernel
theorem dX11_worth_76 : decode cX11_worth 76 = .ok (.goto 4, 3) := by decide +kernel
theorem dX11_worth_79 : decode cX11_worth 79 = .ok (.iconst 0, 1) := by decide +kernel
theorem dX11_worth_80 : decode cX11_worth 80 = .ok (.ireturn, 1) := by decide +kernel
theorem dX11_worth_81 : decode cX11_worth 81 = .ok (.iload 5, 2) := by decide +kernel
theorem dX11_worth_83 : decode cX11_worth 83 = .ok (.ifCond .eq 26, 3) := by decide +kernel
theorem dX11_worth_86 : decode cX11_worth 86 = .ok (.aload_n 0, 1) := by decide +kernel
theorem dX11_worth_87 : decode cX11_worth 87 = .ok (.iload_n 2, 1) := by decide +kernel
theorem dX11_worth_88 : decode cX11_worth 88 = .ok (.iload_n 3, 1) := by decide +kernel
theorem dX11_worth_89 : decode cX11_worth 89 = .ok (.iload 4, 2) := by decide +kernel
theorem dX11_worth_91 : decode cX11_worth 91 = .ok (.iload_n 1, 1) := by decide +kernel
theorem dX11_worth_92 : decode cX11_worth 92 = .ok (.invokevirtual 224, 3) := by decide +kernel
theorem dX11_worth_95 : decode cX11_worth 95 = .ok (.lconst 0, 1) := by decide +kernel
theorem dX11_worth_96 : decode cX11_worth 96 = .ok (.lcmp, 1) := by decide +kernel
theorem dX11_worth_97 : decode cX11_worth 97 = .ok (.ifCond .eq 12, 3) := by decide +kernel
theorem dX11_worth_100 : decode cX11_worth 100 = .ok (.aload_n 0, 1) := by decide +kernel
theorem dX11_worth_101 : decode cX11_worth 101 = .ok (.getfield 7, 3) := by decide +kernel
theorem dX11_worth_104 : decode cX11_worth 104 = .ok (.iconst 1, 1) := by decide +kernel
theorem dX11_worth_105 : decode cX11_worth 105 = .ok (.iaload, 1) := by decide +kernel
theorem dX11_worth_106 : decode cX11_worth 106 = .ok (.goto 4, 3) := by decide +kernel
theorem dX11_worth_109 : decode cX11_worth 109 = .ok (.iconst 0, 1) := by decide +kernel
theorem dX11_worth_110 : decode cX11_worth 110 = .ok (.ireturn, 1) := by decide +kernel
theorem dX11_worth_111 : decode cX11_worth 111 = .ok (.iload_n 2, 1) := by decide +kernel
theorem dX11_worth_112 : decode cX11_worth 112 = .ok (.aload_n 0, 1) := by decide +kernel
theorem dX11_worth_113 : decode cX11_worth 113 = .ok (.getfield 7, 3) := by decide +kernel
theorem dX11_worth_116 : decode cX11_worth 116 = .ok (.iconst 2, 1) := by decide +kernel
theorem dX11_worth_117 : decode cX11_worth 117 = .ok (.iaload, 1) := by decide +kernel
theorem dX11_worth_118 : decode cX11_worth 118 = .ok (.if_icmp .ge 7, 3) := by decide +kernel
theorem dX11_worth_121 : decode cX11_worth 121 = .ok (.iconst 1, 1) := by decide +kernel
theorem dX11_worth_122 : decode cX11_worth 122 = .ok (.goto 4, 3) := by decide +kernel
theorem dX11_worth_125 : decode cX11_worth 125 = .ok (.iconst 0, 1) := by decide +kernel
theorem dX11_worth_126 : decode cX11_worth 126 = .ok (.ireturn, 1) := by decide +kernel
theorem dX11_worth_127 : decode cX11_worth 127 = .ok (.iconst 1, 1) := by decide +kernel
theorem dX11_worth_128 : decode cX11_worth 128 = .ok (.ireturn, 1) := by decide +kernel
theorem dX11_winds_0 : decode cX11_winds 0 = .ok (.aload_n 0, 1) := by decide +kernel
theorem dX11_winds_1 : decode cX11_winds 1 = .ok (.invokevirtual 217, 3) := by decide +kernel
theorem dX11_winds_4 : decode cX11_winds 4 = .ok (.iconst (-1), 1) := by decide +kernel
theorem dX11_winds_5 : decode cX11_winds 5 = .ok (.if_icmp .ne 7, 3) := by decide +kernel
theorem dX11_winds_8 : decode cX11_winds 8 = .ok (.iconst 1, 1) := by decide +kernel
theorem dX11_winds_9 : decode cX11_winds 9 = .ok (.goto 4, 3) := by decide +kernel
theorem dX11_winds_12 : decode cX11_winds 12 = .ok (.iconst 0, 1) := by decide +kernel
theorem dX11_winds_13 : decode cX11_winds 13 = .ok (.istore_n 2, 1) := by decide +kernel
theorem dX11_winds_14 : decode cX11_winds 14 = .ok (.iconst 0, 1) := by decide +kernel
theorem dX11_winds_15 : decode cX11_winds 15 = .ok (.istore_n 3, 1) := by decide +kernel
theorem dX11_winds_16 : decode cX11_winds 16 = .ok (.iload_n 3, 1) := by decide +kernel
theorem dX11_winds_17 : decode cX11_winds 17 = .ok (.sipush 1200, 3) := by decide +kernel
theorem dX11_winds_20 : decode cX11_winds 20 = .ok (.if_icmp .ge 16, 3) := by decide +kernel
theorem dX11_winds_23 : decode cX11_winds 23 = .ok (.aload_n 0, 1) := by decide +kernel
theorem dX11_winds_24 : decode cX11_winds 24 = .ok (.getfield 58, 3) := by decide +kernel
theorem dX11_winds_27 : decode cX11_winds 27 = .ok (.iload_n 3, 1) := by decide +kernel
theorem dX11_winds_28 : decode cX11_winds 28 = .ok (.iconst 0, 1) := by decide +kernel
theorem dX11_winds_29 : decode cX11_winds 29 = .ok (.bastore, 1) := by decide +kernel
theorem dX11_winds_30 : decode cX11_winds 30 = .ok (.iinc 3 1, 3) := by decide +kernel
theorem dX11_winds_33 : decode cX11_winds 33 = .ok (.goto (-17), 3) := by decide +kernel
theorem dX11_winds_36 : decode cX11_winds 36 = .ok (.iconst 0, 1) := by decide +kernel
theorem dX11_winds_37 : decode cX11_winds 37 = .ok (.istore_n 3, 1) := by decide +kernel
theorem dX11_winds_38 : decode cX11_winds 38 = .ok (.iload_n 3, 1) := by decide +kernel
theorem dX11_winds_39 : decode cX11_winds 39 = .ok (.aload_n 0, 1) := by decide +kernel
theorem dX11_winds_40 : decode cX11_winds 40 = .ok (.getfield 7, 3) := by decide +kernel
theorem dX11_winds_43 : decode cX11_winds 43 = .ok (.iconst 4, 1) := by decide +kernel
theorem dX11_winds_44 : decode cX11_winds 44 = .ok (.iaload, 1) := by decide +kernel
theorem dX11_winds_45 : decode cX11_winds 45 = .ok (.if_icmp .ge 62, 3) := by decide +kernel
theorem dX11_winds_48 : decode cX11_winds 48 = .ok (.aload_n 0, 1) := by decide +kernel
theorem dX11_winds_49 : decode cX11_winds 49 = .ok (.getfield 7, 3) := by decide +kernel
theorem dX11_winds_52 : decode cX11_winds 52 = .ok (.bipush 39, 2) := by decide +kernel
theorem dX11_winds_54 : decode cX11_winds 54 = .ok (.iload_n 3, 1) := by decide +kernel
theorem dX11_winds_55 : decode cX11_winds 55 = .ok (.iadd, 1) := by decide +kernel
theorem dX11_winds_56 : decode cX11_winds 56 = .ok (.iaload, 1) := by decide +kernel
theorem dX11_winds_57 : decode cX11_winds 57 = .ok (.istore 4, 2) := by decide +kernel
theorem dX11_winds_59 : decode cX11_winds 59 = .ok (.iload 4, 2) := by decide +kernel
theorem dX11_winds_61 : decode cX11_winds 61 = .ok (.aload_n 0, 1) := by decide +kernel
theorem dX11_winds_62 : decode cX11_winds 62 = .ok (.getfield 7, 3) := by decide +kernel
theorem dX11_winds_65 : decode cX11_winds 65 = .ok (.bipush 55, 2) := by decide +kernel
theorem dX11_winds_67 : decode cX11_winds 67 = .ok (.iload_n 3, 1) := by decide +kernel
theorem dX11_winds_68 : decode cX11_winds 68 = .ok (.iadd, 1) := by decide +kernel
theorem dX11_winds_69 : decode cX11_winds 69 = .ok (.iaload, 1) := by decide +kernel
theorem dX11_winds_70 : decode cX11_winds 70 = .ok (.if_icmp .ge 31, 3) := by decide +kernel
theorem dX11_winds_73 : decode cX11_winds 73 = .ok (.aload_n 0, 1) := by decide +kernel
theorem dX11_winds_74 : decode cX11_winds 74 = .ok (.getfield 58, 3) := by decide +kernel
theorem dX11_winds_77 : decode cX11_winds 77 = .ok (.sipush 240, 3) := by decide +kernel
theorem dX11_winds_80 : decode cX11_winds 80 = .ok (.aload_n 0, 1) := by decide +kernel
theorem dX11_winds_81 : decode cX11_winds 81 = .ok (.getfield 7, 3) := by decide +kernel
theorem dX11_winds_84 : decode cX11_winds 84 = .ok (.bipush 23, 2) := by decide +kernel
theorem dX11_winds_86 : decode cX11_winds 86 = .ok (.iload_n 3, 1) := by decide +kernel
theorem dX11_winds_87 : decode cX11_winds 87 = .ok (.iadd, 1) := by decide +kernel
theorem dX11_winds_88 : decode cX11_winds 88 = .ok (.iaload, 1) := by decide +kernel
theorem dX11_winds_89 : decode cX11_winds 89 = .ok (.imul, 1) := by decide +kernel
theorem dX11_winds_90 : decode cX11_winds 90 = .ok (.iload 4, 2) := by decide +kernel
theorem dX11_winds_92 : decode cX11_winds 92 = .ok (.iadd, 1) := by decide +kernel
theorem dX11_winds_93 : decode cX11_winds 93 = .ok (.iconst 1, 1) := by decide +kernel
theorem dX11_winds_94 : decode cX11_winds 94 = .ok (.bastore, 1) := by decide +kernel
theorem dX11_winds_95 : decode cX11_winds 95 = .ok (.iinc 4 1, 3) := by decide +kernel
theorem dX11_winds_98 : decode cX11_winds 98 = .ok (.goto (-39), 3) := by decide +kernel
theorem dX11_winds_101 : decode cX11_winds 101 = .ok (.iinc 3 1, 3) := by decide +kernel
theorem dX11_winds_104 : decode cX11_winds 104 = .ok (.goto (-66), 3) := by decide +kernel
theorem dX11_winds_107 : decode cX11_winds 107 = .ok (.iconst 0, 1) := by decide +kernel
theorem dX11_winds_108 : decode cX11_winds 108 = .ok (.istore_n 3, 1) := by decide +kernel
theorem dX11_winds_109 : decode cX11_winds 109 = .ok (.iload_n 3, 1) := by decide +kernel
theorem dX11_winds_110 : decode cX11_winds 110 = .ok (.iconst 2, 1) := by decide +kernel
theorem dX11_winds_111 : decode cX11_winds 111 = .ok (.if_icmp .ge 189, 3) := by decide +kernel
theorem dX11_winds_114 : decode cX11_winds 114 = .ok (.aload_n 0, 1) := by decide +kernel
theorem dX11_winds_115 : decode cX11_winds 115 = .ok (.getfield 52, 3) := by decide +kernel
theorem dX11_winds_118 : decode cX11_winds 118 = .ok (.sipush 241, 3) := by decide +kernel
theorem dX11_winds_121 : decode cX11_winds 121 = .ok (.iload_n 3, 1) := by decide +kernel
theorem dX11_winds_122 : decode cX11_winds 122 = .ok (.imul, 1) := by decide +kernel
theorem dX11_winds_123 : decode cX11_winds 123 = .ok (.iconst 0, 1) := by decide +kernel
theorem dX11_winds_124 : decode cX11_winds 124 = .ok (.iastore, 1) := by decide +kernel
theorem dX11_winds_125 : decode cX11_winds 125 = .ok (.iconst 0, 1) := by decide +kernel
theorem dX11_winds_126 : decode cX11_winds 126 = .ok (.istore 4, 2) := by decide +kernel
theorem dX11_winds_128 : decode cX11_winds 128 = .ok (.iload 4, 2) := by decide +kernel
theorem dX11_winds_130 : decode cX11_winds 130 = .ok (.sipush 240, 3) := by decide +kernel
theorem dX11_winds_133 : decode cX11_winds 133 = .ok (.if_icmp .ge 161, 3) := by decide +kernel
theorem dX11_winds_136 : decode cX11_winds 136 = .ok (.aload_n 0, 1) := by decide +kernel
theorem dX11_winds_137 : decode cX11_winds 137 = .ok (.getfield 52, 3) := by decide +kernel
theorem dX11_winds_140 : decode cX11_winds 140 = .ok (.sipush 241, 3) := by decide +kernel
theorem dX11_winds_143 : decode cX11_winds 143 = .ok (.iload_n 3, 1) := by decide +kernel
theorem dX11_winds_144 : decode cX11_winds 144 = .ok (.imul, 1) := by decide +kernel
theorem dX11_winds_145 : decode cX11_winds 145 = .ok (.iload 4, 2) := by decide +kernel
theorem dX11_winds_147 : decode cX11_winds 147 = .ok (.iadd, 1) := by decide +kernel
theorem dX11_winds_148 : decode cX11_winds 148 = .ok (.iaload, 1) := by decide +kernel
theorem dX11_winds_149 : decode cX11_winds 149 = .ok (.istore 5, 2) := by decide +kernel
theorem dX11_winds_151 : decode cX11_winds 151 = .ok (.iconst 0, 1) := by decide +kernel
theorem dX11_winds_152 : decode cX11_winds 152 = .ok (.istore 6, 2) := by decide +kernel
theorem dX11_winds_154 : decode cX11_winds 154 = .ok (.iconst 0, 1) := by decide +kernel
theorem dX11_winds_155 : decode cX11_winds 155 = .ok (.istore 7, 2) := by decide +kernel
theorem dX11_winds_157 : decode cX11_winds 157 = .ok (.iload 7, 2) := by decide +kernel
theorem dX11_winds_159 : decode cX11_winds 159 = .ok (.aload_n 0, 1) := by decide +kernel
theorem dX11_winds_160 : decode cX11_winds 160 = .ok (.getfield 7, 3) := by decide +kernel
theorem dX11_winds_163 : decode cX11_winds 163 = .ok (.iconst 3, 1) := by decide +kernel
theorem dX11_winds_164 : decode cX11_winds 164 = .ok (.iaload, 1) := by decide +kernel
theorem dX11_winds_165 : decode cX11_winds 165 = .ok (.if_icmp .ge 83, 3) := by decide +kernel
theorem dX11_winds_168 : decode cX11_winds 168 = .ok (.aload_n 0, 1) := by decide +kernel
theorem dX11_winds_169 : decode cX11_winds 169 = .ok (.getfield 7, 3) := by decide +kernel
theorem dX11_winds_172 : decode cX11_winds 172 = .ok (.bipush 18, 2) := by decide +kernel
theorem dX11_winds_174 : decode cX11_winds 174 = .ok (.iload 7, 2) := by decide +kernel
theorem dX11_winds_176 : decode cX11_winds 176 = .ok (.iadd, 1) := by decide +kernel
theorem dX11_winds_177 : decode cX11_winds 177 = .ok (.iaload, 1) := by decide +kernel
theorem dX11_winds_178 : decode cX11_winds 178 = .ok (.iload_n 3, 1) := by decide +kernel
theorem dX11_winds_179 : decode cX11_winds 179 = .ok (.if_icmp .ne 63, 3) := by decide +kernel
theorem dX11_winds_182 : decode cX11_winds 182 = .ok (.aload_n 0, 1) := by decide +kernel
theorem dX11_winds_183 : decode cX11_winds 183 = .ok (.getfield 55, 3) := by decide +kernel
theorem dX11_winds_186 : decode cX11_winds 186 = .ok (.sipush 240, 3) := by decide +kernel
theorem dX11_winds_189 : decode cX11_winds 189 = .ok (.iload 7, 2) := by decide +kernel
theorem dX11_winds_191 : decode cX11_winds 191 = .ok (.imul, 1) := by decide +kernel
theorem dX11_winds_192 : decode cX11_winds 192 = .ok (.iload 4, 2) := by decide +kernel
theorem dX11_winds_194 : decode cX11_winds 194 = .ok (.iadd, 1) := by decide +kernel
theorem dX11_winds_195 : decode cX11_winds 195 = .ok (.iload_n 1, 1) := by decide +kernel
theorem dX11_winds_196 : decode cX11_winds 196 = .ok (.iload 7, 2) := by decide +kernel
theorem dX11_winds_198 : decode cX11_winds 198 = .ok (.ishr, 1) := by decide +kernel
theorem dX11_winds_199 : decode cX11_winds 199 = .ok (.iconst 1, 1) := by decide +kernel
theorem dX11_winds_200 : decode cX11_winds 200 = .ok (.iand, 1) := by decide +kernel
theorem dX11_winds_201 : decode cX11_winds 201 = .ok (.iconst 1, 1) := by decide +kernel
theorem dX11_winds_202 : decode cX11_winds 202 = .ok (.if_icmp .ne 19, 3) := by decide +kernel
theorem dX11_winds_205 : decode cX11_winds 205 = .ok (.aload_n 0, 1) := by decide +kernel
theorem dX11_winds_206 : decode cX11_winds 206 = .ok (.iload 7, 2) := by decide +kernel
theorem dX11_winds_208 : decode cX11_winds 208 = .ok (.iload 5, 2) := by decide +kernel
theorem dX11_winds_210 : decode cX11_winds 210 = .ok (.iload 4, 2) := by decide +kernel
theorem dX11_winds_212 : decode cX11_winds 212 = .ok (.iload 6, 2) := by decide +kernel
theorem dX11_winds_214 : decode cX11_winds 214 = .ok (.iload_n 2, 1) := by decide +kernel
theorem dX11_winds_215 : decode cX11_winds 215 = .ok (.invokevirtual 228, 3) := by decide +kernel
theorem dX11_winds_218 : decode cX11_winds 218 = .ok (.goto 4, 3) := by decide +kernel
theorem dX11_winds_221 : decode cX11_winds 221 = .ok (.iconst 0, 1) := by decide +kernel
theorem dX11_winds_222 : decode cX11_winds 222 = .ok (.iastore, 1) := by decide +kernel
theorem dX11_winds_223 : decode cX11_winds 223 = .ok (.iload 6, 2) := by decide +kernel
theorem dX11_winds_225 : decode cX11_winds 225 = .ok (.aload_n 0, 1) := by decide +kernel
theorem dX11_winds_226 : decode cX11_winds 226 = .ok (.getfield 55, 3) := by decide +kernel
theorem dX11_winds_229 : decode cX11_winds 229 = .ok (.sipush 240, 3) := by decide +kernel
theorem dX11_winds_232 : decode cX11_winds 232 = .ok (.iload 7, 2) := by decide +kernel
theorem dX11_winds_234 : decode cX11_winds 234 = .ok (.imul, 1) := by decide +kernel
theorem dX11_winds_235 : decode cX11_winds 235 = .ok (.iload 4, 2) := by decide +kernel
theorem dX11_winds_237 : decode cX11_winds 237 = .ok (.iadd, 1) := by decide +kernel
theorem dX11_winds_238 : decode cX11_winds 238 = .ok (.iaload, 1) := by decide +kernel
theorem dX11_winds_239 : decode cX11_winds 239 = .ok (.iadd, 1) := by decide +kernel
theorem dX11_winds_240 : decode cX11_winds 240 = .ok (.istore 6, 2) := by decide +kernel
theorem dX11_winds_242 : decode cX11_winds 242 = .ok (.iinc 7 1, 3) := by decide +kernel
theorem dX11_winds_245 : decode cX11_winds 245 = .ok (.goto (-88), 3) := by decide +kernel
theorem dX11_winds_248 : decode cX11_winds 248 = .ok (.aload_n 0, 1) := by decide +kernel
theorem dX11_winds_249 : decode cX11_winds 249 = .ok (.getfield 52, 3) := by decide +kernel
theorem dX11_winds_252 : decode cX11_winds 252 = .ok (.sipush 241, 3) := by decide +kernel
theorem dX11_winds_255 : decode cX11_winds 255 = .ok (.iload_n 3, 1) := by decide +kernel
theorem dX11_winds_256 : decode cX11_winds 256 = .ok (.imul, 1) := by decide +kernel
theorem dX11_winds_257 : decode cX11_winds 257 = .ok (.iload 4, 2) := by decide +kernel
theorem dX11_winds_259 : decode cX11_winds 259 = .ok (.iadd, 1) := by decide +kernel
theorem dX11_winds_260 : decode cX11_winds 260 = .ok (.iconst 1, 1) := by decide +kernel
theorem dX11_winds_261 : decode cX11_winds 261 = .ok (.iadd, 1) := by decide +kernel
theorem dX11_winds_262 : decode cX11_winds 262 = .ok (.iload 5, 2) := by decide +kernel
theorem dX11_winds_264 : decode cX11_winds 264 = .ok (.iload 6, 2) := by decide +kernel
theorem dX11_winds_266 : decode cX11_winds 266 = .ok (.aload_n 0, 1) := by decide +kernel
theorem dX11_winds_267 : decode cX11_winds 267 = .ok (.getfield 7, 3) := by decide +kernel
theorem dX11_winds_270 : decode cX11_winds 270 = .ok (.iconst 0, 1) := by decide +kernel
theorem dX11_winds_271 : decode cX11_winds 271 = .ok (.iaload, 1) := by decide +kernel
theorem dX11_winds_272 : decode cX11_winds 272 = .ok (.if_icmp .ge 8, 3) := by decide +kernel
theorem dX11_winds_275 : decode cX11_winds 275 = .ok (.iload 6, 2) := by decide +kernel
theorem dX11_winds_277 : decode cX11_winds 277 = .ok (.goto 9, 3) := by decide +kernel
theorem dX11_winds_280 : decode cX11_winds 280 = .ok (.aload_n 0, 1) := by decide +kernel
theorem dX11_winds_281 : decode cX11_winds 281 = .ok (.getfield 7, 3) := by decide +kernel
theorem dX11_winds_284 : decode cX11_winds 284 = .ok (.iconst 0, 1) := by decide +kernel
theorem dX11_winds_285 : decode cX11_winds 285 = .ok (.iaload, 1) := by decide +kernel
theorem dX11_winds_286 : decode cX11_winds 286 = .ok (.iadd, 1) := by decide +kernel
theorem dX11_winds_287 : decode cX11_winds 287 = .ok (.iastore, 1) := by decide +kernel
theorem dX11_winds_288 : decode cX11_winds 288 = .ok (.iinc 4 1, 3) := by decide +kernel
theorem dX11_winds_291 : decode cX11_winds 291 = .ok (.goto (-163), 3) := by decide +kernel
theorem dX11_winds_294 : decode cX11_winds 294 = .ok (.iinc 3 1, 3) := by decide +kernel
theorem dX11_winds_297 : decode cX11_winds 297 = .ok (.goto (-188), 3) := by decide +kernel
theorem dX11_winds_300 : decode cX11_winds 300 = .ok (.return_, 1) := by decide +kernel
theorem dX11_clock_0 : decode cX11_clock 0 = .ok (.iload_n 1, 1) := by decide +kernel
theorem dX11_clock_1 : decode cX11_clock 1 = .ok (.i2l, 1) := by decide +kernel
theorem dX11_clock_2 : decode cX11_clock 2 = .ok (.lconst 0, 1) := by decide +kernel
theorem dX11_clock_3 : decode cX11_clock 3 = .ok (.lconst 1, 1) := by decide +kernel
theorem dX11_clock_4 : decode cX11_clock 4 = .ok (.invokestatic 78, 3) := by decide +kernel
theorem dX11_clock_7 : decode cX11_clock 7 = .ok (.ifCond .eq 15, 3) := by decide +kernel
theorem dX11_clock_10 : decode cX11_clock 10 = .ok (.iload_n 2, 1) := by decide +kernel
theorem dX11_clock_11 : decode cX11_clock 11 = .ok (.i2l, 1) := by decide +kernel
theorem dX11_clock_12 : decode cX11_clock 12 = .ok (.lconst 0, 1) := by decide +kernel
theorem dX11_clock_13 : decode cX11_clock 13 = .ok (.ldc2_w 82, 3) := by decide +kernel
theorem dX11_clock_16 : decode cX11_clock 16 = .ok (.invokestatic 78, 3) := by decide +kernel
theorem dX11_clock_19 : decode cX11_clock 19 = .ok (.ifCond .ne 10, 3) := by decide +kernel
theorem dX11_clock_22 : decode cX11_clock 22 = .ok (.aload_n 0, 1) := by decide +kernel
theorem dX11_clock_23 : decode cX11_clock 23 = .ok (.bipush (-2), 2) := by decide +kernel
theorem dX11_clock_25 : decode cX11_clock 25 = .ok (.invokevirtual 88, 3) := by decide +kernel
theorem dX11_clock_28 : decode cX11_clock 28 = .ok (.ireturn, 1) := by decide +kernel
theorem dX11_clock_29 : decode cX11_clock 29 = .ok (.aload_n 0, 1) := by decide +kernel
theorem dX11_clock_30 : decode cX11_clock 30 = .ok (.bipush 31, 2) := by decide +kernel
theorem dX11_clock_32 : decode cX11_clock 32 = .ok (.invokevirtual 232, 3) := by decide +kernel
theorem dX11_clock_35 : decode cX11_clock 35 = .ok (.aload_n 0, 1) := by decide +kernel
theorem dX11_clock_36 : decode cX11_clock 36 = .ok (.getfield 52, 3) := by decide +kernel
theorem dX11_clock_39 : decode cX11_clock 39 = .ok (.sipush 241, 3) := by decide +kernel
theorem dX11_clock_42 : decode cX11_clock 42 = .ok (.iload_n 1, 1) := by decide +kernel
theorem dX11_clock_43 : decode cX11_clock 43 = .ok (.imul, 1) := by decide +kernel
theorem dX11_clock_44 : decode cX11_clock 44 = .ok (.iload_n 2, 1) := by decide +kernel
theorem dX11_clock_45 : decode cX11_clock 45 = .ok (.iadd, 1) := by decide +kernel
theorem dX11_clock_46 : decode cX11_clock 46 = .ok (.iaload, 1) := by decide +kernel
theorem dX11_clock_47 : decode cX11_clock 47 = .ok (.ireturn, 1) := by decide +kernel
theorem dX11_counts_0 : decode cX11_counts 0 = .ok (.iload_n 1, 1) := by decide +kernel
theorem dX11_counts_1 : decode cX11_counts 1 = .ok (.i2l, 1) := by decide +kernel
theorem dX11_counts_2 : decode cX11_counts 2 = .ok (.lconst 0, 1) := by decide +kernel
theorem dX11_counts_3 : decode cX11_counts 3 = .ok (.aload_n 0, 1) := by decide +kernel
theorem dX11_counts_4 : decode cX11_counts 4 = .ok (.getfield 7, 3) := by decide +kernel
theorem dX11_counts_7 : decode cX11_counts 7 = .ok (.iconst 3, 1) := by decide +kernel
theorem dX11_counts_8 : decode cX11_counts 8 = .ok (.iaload, 1) := by decide +kernel
theorem dX11_counts_9 : decode cX11_counts 9 = .ok (.iconst 1, 1) := by decide +kernel
theorem dX11_counts_10 : decode cX11_counts 10 = .ok (.isub, 1) := by decide +kernel
theorem dX11_counts_11 : decode cX11_counts 11 = .ok (.i2l, 1) := by decide +kernel
theorem dX11_counts_12 : decode cX11_counts 12 = .ok (.invokestatic 78, 3) := by decide +kernel
theorem dX11_counts_15 : decode cX11_counts 15 = .ok (.ifCond .eq 15, 3) := by decide +kernel
theorem dX11_counts_18 : decode cX11_counts 18 = .ok (.iload_n 2, 1) := by decide +kernel
theorem dX11_counts_19 : decode cX11_counts 19 = .ok (.i2l, 1) := by decide +kernel
theorem dX11_counts_20 : decode cX11_counts 20 = .ok (.lconst 0, 1) := by decide +kernel
theorem dX11_counts_21 : decode cX11_counts 21 = .ok (.ldc2_w 235, 3) := by decide +kernel
theorem dX11_counts_24 : decode cX11_counts 24 = .ok (.invokestatic 78, 3) := by decide +kernel
theorem dX11_counts_27 : decode cX11_counts 27 = .ok (.ifCond .ne 10, 3) := by decide +kernel
theorem dX11_counts_30 : decode cX11_counts 30 = .ok (.aload_n 0, 1) := by decide +kernel
theorem dX11_counts_31 : decode cX11_counts 31 = .ok (.bipush (-2), 2) := by decide +kernel
theorem dX11_counts_33 : decode cX11_counts 33 = .ok (.invokevirtual 88, 3) := by decide +kernel
theorem dX11_counts_36 : decode cX11_counts 36 = .ok (.ireturn, 1) := by decide +kernel
theorem dX11_counts_37 : decode cX11_counts 37 = .ok (.aload_n 0, 1) := by decide +kernel
theorem dX11_counts_38 : decode cX11_counts 38 = .ok (.bipush 31, 2) := by decide +kernel
theorem dX11_counts_40 : decode cX11_counts 40 = .ok (.invokevirtual 232, 3) := by decide +kernel
theorem dX11_counts_43 : decode cX11_counts 43 = .ok (.aload_n 0, 1) := by decide +kernel
theorem dX11_counts_44 : decode cX11_counts 44 = .ok (.getfield 55, 3) := by decide +kernel
theorem dX11_counts_47 : decode cX11_counts 47 = .ok (.sipush 240, 3) := by decide +kernel
theorem dX11_counts_50 : decode cX11_counts 50 = .ok (.iload_n 1, 1) := by decide +kernel
theorem dX11_counts_51 : decode cX11_counts 51 = .ok (.imul, 1) := by decide +kernel
theorem dX11_counts_52 : decode cX11_counts 52 = .ok (.iload_n 2, 1) := by decide +kernel
theorem dX11_counts_53 : decode cX11_counts 53 = .ok (.iadd, 1) := by decide +kernel
theorem dX11_counts_54 : decode cX11_counts 54 = .ok (.iaload, 1) := by decide +kernel
theorem dX11_counts_55 : decode cX11_counts 55 = .ok (.ireturn, 1) := by decide +kernel
theorem dX11_first_0 : decode cX11_first 0 = .ok (.iconst 0, 1) := by decide +kernel
theorem dX11_first_1 : decode cX11_first 1 = .ok (.istore_n 3, 1) := by decide +kernel
theorem dX11_first_2 : decode cX11_first 2 = .ok (.iload_n 3, 1) := by decide +kernel
theorem dX11_first_3 : decode cX11_first 3 = .ok (.sipush 240, 3) := by decide +kernel
theorem dX11_first_6 : decode cX11_first 6 = .ok (.if_icmp .gt 27, 3) := by decide +kernel
theorem dX11_first_9 : decode cX11_first 9 = .ok (.aload_n 0, 1) := by decide +kernel
theorem dX11_first_10 : decode cX11_first 10 = .ok (.getfield 52, 3) := by decide +kernel
theorem dX11_first_13 : decode cX11_first 13 = .ok (.sipush 241, 3) := by decide +kernel
theorem dX11_first_16 : decode cX11_first 16 = .ok (.iload_n 1, 1) := by decide +kernel
theorem dX11_first_17 : decode cX11_first 17 = .ok (.imul, 1) := by decide +kernel
theorem dX11_first_18 : decode cX11_first 18 = .ok (.iload_n 3, 1) := by decide +kernel
theorem dX11_first_19 : decode cX11_first 19 = .ok (.iadd, 1) := by decide +kernel
theorem dX11_first_20 : decode cX11_first 20 = .ok (.iaload, 1) := by decide +kernel
theorem dX11_first_21 : decode cX11_first 21 = .ok (.iload_n 2, 1) := by decide +kernel
theorem dX11_first_22 : decode cX11_first 22 = .ok (.if_icmp .lt 5, 3) := by decide +kernel
theorem dX11_first_25 : decode cX11_first 25 = .ok (.iload_n 3, 1) := by decide +kernel
theorem dX11_first_26 : decode cX11_first 26 = .ok (.ireturn, 1) := by decide +kernel
theorem dX11_first_27 : decode cX11_first 27 = .ok (.iinc 3 1, 3) := by decide +kernel
theorem dX11_first_30 : decode cX11_first 30 = .ok (.goto (-28), 3) := by decide +kernel
theorem dX11_first_33 : decode cX11_first 33 = .ok (.iconst (-1), 1) := by decide +kernel
theorem dX11_first_34 : decode cX11_first 34 = .ok (.ireturn, 1) := by decide +kernel
theorem dX11_sun_0 : decode cX11_sun 0 = .ok (.iload_n 1, 1) := by decide +kernel
theorem dX11_sun_1 : decode cX11_sun 1 = .ok (.i2l, 1) := by decide +kernel
theorem dX11_sun_2 : decode cX11_sun 2 = .ok (.lconst 0, 1) := by decide +kernel
theorem dX11_sun_3 : decode cX11_sun 3 = .ok (.lconst 1, 1) := by decide +kernel
theorem dX11_sun_4 : decode cX11_sun 4 = .ok (.invokestatic 78, 3) := by decide +kernel
theorem dX11_sun_7 : decode cX11_sun 7 = .ok (.ifCond .eq 15, 3) := by decide +kernel
theorem dX11_sun_10 : decode cX11_sun 10 = .ok (.iload_n 2, 1) := by decide +kernel
theorem dX11_sun_11 : decode cX11_sun 11 = .ok (.i2l, 1) := by decide +kernel
theorem dX11_sun_12 : decode cX11_sun 12 = .ok (.lconst 0, 1) := by decide +kernel
theorem dX11_sun_13 : decode cX11_sun 13 = .ok (.ldc2_w 98, 3) := by decide +kernel
theorem dX11_sun_16 : decode cX11_sun 16 = .ok (.invokestatic 78, 3) := by decide +kernel
theorem dX11_sun_19 : decode cX11_sun 19 = .ok (.ifCond .ne 10, 3) := by decide +kernel
theorem dX11_sun_22 : decode cX11_sun 22 = .ok (.aload_n 0, 1) := by decide +kernel
theorem dX11_sun_23 : decode cX11_sun 23 = .ok (.bipush (-2), 2) := by decide +kernel
theorem dX11_sun_25 : decode cX11_sun 25 = .ok (.invokevirtual 88, 3) := by decide +kernel
theorem dX11_sun_28 : decode cX11_sun 28 = .ok (.ireturn, 1) := by decide +kernel
theorem dX11_sun_29 : decode cX11_sun 29 = .ok (.aload_n 0, 1) := by decide +kernel
theorem dX11_sun_30 : decode cX11_sun 30 = .ok (.bipush 31, 2) := by decide +kernel
theorem dX11_sun_32 : decode cX11_sun 32 = .ok (.invokevirtual 232, 3) := by decide +kernel
theorem dX11_sun_35 : decode cX11_sun 35 = .ok (.aload_n 0, 1) := by decide +kernel
theorem dX11_sun_36 : decode cX11_sun 36 = .ok (.iload_n 1, 1) := by decide +kernel
theorem dX11_sun_37 : decode cX11_sun 37 = .ok (.iload_n 2, 1) := by decide +kernel
theorem dX11_sun_38 : decode cX11_sun 38 = .ok (.invokevirtual 237, 3) := by decide +kernel
theorem dX11_sun_41 : decode cX11_sun 41 = .ok (.ireturn, 1) := by decide +kernel
theorem dX11_letter_0 : decode cX11_letter 0 = .ok (.iload_n 1, 1) := by decide +kernel
theorem dX11_letter_1 : decode cX11_letter 1 = .ok (.i2l, 1) := by decide +kernel
theorem dX11_letter_2 : decode cX11_letter 2 = .ok (.lconst 0, 1) := by decide +kernel
theorem dX11_letter_3 : decode cX11_letter 3 = .ok (.lconst 1, 1) := by decide +kernel
theorem dX11_letter_4 : decode cX11_letter 4 = .ok (.invokestatic 78, 3) := by decide +kernel
theorem dX11_letter_7 : decode cX11_letter 7 = .ok (.ifCond .eq 27, 3) := by decide +kernel
theorem dX11_letter_10 : decode cX11_letter 10 = .ok (.iload_n 2, 1) := by decide +kernel
theorem dX11_letter_11 : decode cX11_letter 11 = .ok (.i2l, 1) := by decide +kernel
theorem dX11_letter_12 : decode cX11_letter 12 = .ok (.lconst 0, 1) := by decide +kernel
theorem dX11_letter_13 : decode cX11_letter 13 = .ok (.ldc2_w 98, 3) := by decide +kernel
theorem dX11_letter_16 : decode cX11_letter 16 = .ok (.invokestatic 78, 3) := by decide +kernel
theorem dX11_letter_19 : decode cX11_letter 19 = .ok (.ifCond .eq 15, 3) := by decide +kernel
theorem dX11_letter_22 : decode cX11_letter 22 = .ok (.iload_n 3, 1) := by decide +kernel
theorem dX11_letter_23 : decode cX11_letter 23 = .ok (.i2l, 1) := by decide +kernel
theorem dX11_letter_24 : decode cX11_letter 24 = .ok (.lconst 0, 1) := by decide +kernel
theorem dX11_letter_25 : decode cX11_letter 25 = .ok (.ldc2_w 82, 3) := by decide +kernel
theorem dX11_letter_28 : decode cX11_letter 28 = .ok (.invokestatic 78, 3) := by decide +kernel
theorem dX11_letter_31 : decode cX11_letter 31 = .ok (.ifCond .ne 10, 3) := by decide +kernel
theorem dX11_letter_34 : decode cX11_letter 34 = .ok (.aload_n 0, 1) := by decide +kernel
theorem dX11_letter_35 : decode cX11_letter 35 = .ok (.bipush (-2), 2) := by decide +kernel
theorem dX11_letter_37 : decode cX11_letter 37 = .ok (.invokevirtual 88, 3) := by decide +kernel
theorem dX11_letter_40 : decode cX11_letter 40 = .ok (.ireturn, 1) := by decide +kernel
theorem dX11_letter_41 : decode cX11_letter 41 = .ok (.aload_n 0, 1) := by decide +kernel
theorem dX11_letter_42 : decode cX11_letter 42 = .ok (.bipush 31, 2) := by decide +kernel
theorem dX11_letter_44 : decode cX11_letter 44 = .ok (.invokevirtual 232, 3) := by decide +kernel
theorem dX11_letter_47 : decode cX11_letter 47 = .ok (.aload_n 0, 1) := by decide +kernel
theorem dX11_letter_48 : decode cX11_letter 48 = .ok (.iload_n 1, 1) := by decide +kernel
theorem dX11_letter_49 : decode cX11_letter 49 = .ok (.iload_n 2, 1) := by decide +kernel
theorem dX11_letter_50 : decode cX11_letter 50 = .ok (.invokevirtual 237, 3) := by decide +kernel
theorem dX11_letter_53 : decode cX11_letter 53 = .ok (.istore 4, 2) := by decide +kernel
theorem dX11_letter_55 : decode cX11_letter 55 = .ok (.iload 4, 2) := by decide +kernel
theorem dX11_letter_57 : decode cX11_letter 57 = .ok (.iconst (-1), 1) := by decide +kernel
theorem dX11_letter_58 : decode cX11_letter 58 = .ok (.if_icmp .eq 13, 3) := by decide +kernel
theorem dX11_letter_61 : decode cX11_letter 61 = .ok (.iload 4, 2) := by decide +kernel
theorem dX11_letter_63 : decode cX11_letter 63 = .ok (.iload_n 3, 1) := by decide +kernel
theorem dX11_letter_64 : decode cX11_letter 64 = .ok (.iadd, 1) := by decide +kernel
theorem dX11_letter_65 : decode cX11_letter 65 = .ok (.sipush 240, 3) := by decide +kernel
theorem dX11_letter_68 : decode cX11_letter 68 = .ok (.if_icmp .le 7, 3) := by decide +kernel
theorem dX11_letter_71 : decode cX11_letter 71 = .ok (.iconst (-1), 1) := by decide +kernel
theorem dX11_letter_72 : decode cX11_letter 72 = .ok (.goto 20, 3) := by decide +kernel
theorem dX11_letter_75 : decode cX11_letter 75 = .ok (.aload_n 0, 1) := by decide +kernel
theorem dX11_letter_76 : decode cX11_letter 76 = .ok (.getfield 52, 3) := by decide +kernel
theorem dX11_letter_79 : decode cX11_letter 79 = .ok (.sipush 241, 3) := by decide +kernel
theorem dX11_letter_82 : decode cX11_letter 82 = .ok (.iconst 1, 1) := by decide +kernel
theorem dX11_letter_83 : decode cX11_letter 83 = .ok (.iload_n 1, 1) := by decide +kernel
theorem dX11_letter_84 : decode cX11_letter 84 = .ok (.isub, 1) := by decide +kernel
theorem dX11_letter_85 : decode cX11_letter 85 = .ok (.imul, 1) := by decide +kernel
theorem dX11_letter_86 : decode cX11_letter 86 = .ok (.iload 4, 2) := by decide +kernel
theorem dX11_letter_88 : decode cX11_letter 88 = .ok (.iadd, 1) := by decide +kernel
theorem dX11_letter_89 : decode cX11_letter 89 = .ok (.iload_n 3, 1) := by decide +kernel
theorem dX11_letter_90 : decode cX11_letter 90 = .ok (.iadd, 1) := by decide +kernel
theorem dX11_letter_91 : decode cX11_letter 91 = .ok (.iaload, 1) := by decide +kernel
theorem dX11_letter_92 : decode cX11_letter 92 = .ok (.ireturn, 1) := by decide +kernel
theorem dX11_turns_0 : decode cX11_turns 0 = .ok (.iload_n 1, 1) := by decide +kernel
theorem dX11_turns_1 : decode cX11_turns 1 = .ok (.i2l, 1) := by decide +kernel
theorem dX11_turns_2 : decode cX11_turns 2 = .ok (.lconst 1, 1) := by decide +kernel
theorem dX11_turns_3 : decode cX11_turns 3 = .ok (.ldc2_w 241, 3) := by decide +kernel
theorem dX11_turns_6 : decode cX11_turns 6 = .ok (.invokestatic 78, 3) := by decide +kernel
theorem dX11_turns_9 : decode cX11_turns 9 = .ok (.ifCond .ne 10, 3) := by decide +kernel
theorem dX11_turns_12 : decode cX11_turns 12 = .ok (.aload_n 0, 1) := by decide +kernel
theorem dX11_turns_13 : decode cX11_turns 13 = .ok (.bipush (-2), 2) := by decide +kernel
theorem dX11_turns_15 : decode cX11_turns 15 = .ok (.invokevirtual 88, 3) := by decide +kernel
theorem dX11_turns_18 : decode cX11_turns 18 = .ok (.ireturn, 1) := by decide +kernel
theorem dX11_turns_19 : decode cX11_turns 19 = .ok (.aload_n 0, 1) := by decide +kernel
theorem dX11_turns_20 : decode cX11_turns 20 = .ok (.getfield 7, 3) := by decide +kernel
theorem dX11_turns_23 : decode cX11_turns 23 = .ok (.iconst 3, 1) := by decide +kernel
theorem dX11_turns_24 : decode cX11_turns 24 = .ok (.iaload, 1) := by decide +kernel
theorem dX11_turns_25 : decode cX11_turns 25 = .ok (.ifCond .ne 10, 3) := by decide +kernel
theorem dX11_turns_28 : decode cX11_turns 28 = .ok (.aload_n 0, 1) := by decide +kernel
theorem dX11_turns_29 : decode cX11_turns 29 = .ok (.bipush (-3), 2) := by decide +kernel
theorem dX11_turns_31 : decode cX11_turns 31 = .ok (.invokevirtual 88, 3) := by decide +kernel
theorem dX11_turns_34 : decode cX11_turns 34 = .ok (.ireturn, 1) := by decide +kernel
theorem dX11_turns_35 : decode cX11_turns 35 = .ok (.aload_n 0, 1) := by decide +kernel
theorem dX11_turns_36 : decode cX11_turns 36 = .ok (.bipush 31, 2) := by decide +kernel
theorem dX11_turns_38 : decode cX11_turns 38 = .ok (.invokevirtual 232, 3) := by decide +kernel
theorem dX11_turns_41 : decode cX11_turns 41 = .ok (.iconst 0, 1) := by decide +kernel
theorem dX11_turns_42 : decode cX11_turns 42 = .ok (.istore_n 2, 1) := by decide +kernel
theorem dX11_turns_43 : decode cX11_turns 43 = .ok (.iconst 0, 1) := by decide +kernel
theorem dX11_turns_44 : decode cX11_turns 44 = .ok (.istore_n 3, 1) := by decide +kernel
theorem dX11_turns_45 : decode cX11_turns 45 = .ok (.iload_n 3, 1) := by decide +kernel
theorem dX11_turns_46 : decode cX11_turns 46 = .ok (.aload_n 0, 1) := by decide +kernel
theorem dX11_turns_47 : decode cX11_turns 47 = .ok (.getfield 7, 3) := by decide +kernel
theorem dX11_turns_50 : decode cX11_turns 50 = .ok (.iconst 4, 1) := by decide +kernel
theorem dX11_turns_51 : decode cX11_turns 51 = .ok (.iaload, 1) := by decide +kernel
theorem dX11_turns_52 : decode cX11_turns 52 = .ok (.if_icmp .ge 36, 3) := by decide +kernel
theorem dX11_turns_55 : decode cX11_turns 55 = .ok (.aload_n 0, 1) := by decide +kernel
theorem dX11_turns_56 : decode cX11_turns 56 = .ok (.getfield 7, 3) := by decide +kernel
theorem dX11_turns_59 : decode cX11_turns 59 = .ok (.bipush 55, 2) := by decide +kernel
theorem dX11_turns_61 : decode cX11_turns 61 = .ok (.iload_n 3, 1) := by decide +kernel
theorem dX11_turns_62 : decode cX11_turns 62 = .ok (.iadd, 1) := by decide +kernel
theorem dX11_turns_63 : decode cX11_turns 63 = .ok (.iaload, 1) := by decide +kernel
theorem dX11_turns_64 : decode cX11_turns 64 = .ok (.iload_n 2, 1) := by decide +kernel
theorem dX11_turns_65 : decode cX11_turns 65 = .ok (.if_icmp .le 15, 3) := by decide +kernel
theorem dX11_turns_68 : decode cX11_turns 68 = .ok (.aload_n 0, 1) := by decide +kernel
theorem dX11_turns_69 : decode cX11_turns 69 = .ok (.getfield 7, 3) := by decide +kernel
theorem dX11_turns_72 : decode cX11_turns 72 = .ok (.bipush 55, 2) := by decide +kernel
theorem dX11_turns_74 : decode cX11_turns 74 = .ok (.iload_n 3, 1) := by decide +kernel
theorem dX11_turns_75 : decode cX11_turns 75 = .ok (.iadd, 1) := by decide +kernel
theorem dX11_turns_76 : decode cX11_turns 76 = .ok (.iaload, 1) := by decide +kernel
theorem dX11_turns_77 : decode cX11_turns 77 = .ok (.goto 4, 3) := by decide +kernel
theorem dX11_turns_80 : decode cX11_turns 80 = .ok (.iload_n 2, 1) := by decide +kernel
theorem dX11_turns_81 : decode cX11_turns 81 = .ok (.istore_n 2, 1) := by decide +kernel
theorem dX11_turns_82 : decode cX11_turns 82 = .ok (.iinc 3 1, 3) := by decide +kernel
theorem dX11_turns_85 : decode cX11_turns 85 = .ok (.goto (-40), 3) := by decide +kernel
theorem dX11_turns_88 : decode cX11_turns 88 = .ok (.iconst 0, 1) := by decide +kernel
theorem dX11_turns_89 : decode cX11_turns 89 = .ok (.istore_n 3, 1) := by decide +kernel
theorem dX11_turns_90 : decode cX11_turns 90 = .ok (.iload_n 3, 1) := by decide +kernel
theorem dX11_turns_91 : decode cX11_turns 91 = .ok (.iload_n 2, 1) := by decide +kernel
theorem dX11_turns_92 : decode cX11_turns 92 = .ok (.if_icmp .ge 35, 3) := by decide +kernel
theorem dX11_turns_95 : decode cX11_turns 95 = .ok (.aload_n 0, 1) := by decide +kernel
theorem dX11_turns_96 : decode cX11_turns 96 = .ok (.getfield 55, 3) := by decide +kernel
theorem dX11_turns_99 : decode cX11_turns 99 = .ok (.sipush 240, 3) := by decide +kernel
theorem dX11_turns_102 : decode cX11_turns 102 = .ok (.iload_n 3, 1) := by decide +kernel
theorem dX11_turns_103 : decode cX11_turns 103 = .ok (.iload_n 1, 1) := by decide +kernel
theorem dX11_turns_104 : decode cX11_turns 104 = .ok (.idiv, 1) := by decide +kernel
theorem dX11_turns_105 : decode cX11_turns 105 = .ok (.aload_n 0, 1) := by decide +kernel
theorem dX11_turns_106 : decode cX11_turns 106 = .ok (.getfield 7, 3) := by decide +kernel
theorem dX11_turns_109 : decode cX11_turns 109 = .ok (.iconst 3, 1) := by decide +kernel
theorem dX11_turns_110 : decode cX11_turns 110 = .ok (.iaload, 1) := by decide +kernel
theorem dX11_turns_111 : decode cX11_turns 111 = .ok (.irem, 1) := by decide +kernel
theorem dX11_turns_112 : decode cX11_turns 112 = .ok (.imul, 1) := by decide +kernel
theorem dX11_turns_113 : decode cX11_turns 113 = .ok (.iload_n 3, 1) := by decide +kernel
theorem dX11_turns_114 : decode cX11_turns 114 = .ok (.iadd, 1) := by decide +kernel
theorem dX11_turns_115 : decode cX11_turns 115 = .ok (.iaload, 1) := by decide +kernel
theorem dX11_turns_116 : decode cX11_turns 116 = .ok (.ifCond .ne 5, 3) := by decide +kernel
theorem dX11_turns_119 : decode cX11_turns 119 = .ok (.iload_n 3, 1) := by decide +kernel
theorem dX11_turns_120 : decode cX11_turns 120 = .ok (.ireturn, 1) := by decide +kernel
theorem dX11_turns_121 : decode cX11_turns 121 = .ok (.iinc 3 1, 3) := by decide +kernel
theorem dX11_turns_124 : decode cX11_turns 124 = .ok (.goto (-34), 3) := by decide +kernel
theorem dX11_turns_127 : decode cX11_turns 127 = .ok (.iconst (-1), 1) := by decide +kernel
theorem dX11_turns_128 : decode cX11_turns 128 = .ok (.ireturn, 1) := by decide +kernel
theorem dX11_paid_0 : decode cX11_paid 0 = .ok (.iload_n 1, 1) := by decide +kernel
theorem dX11_paid_1 : decode cX11_paid 1 = .ok (.i2l, 1) := by decide +kernel
theorem dX11_paid_2 : decode cX11_paid 2 = .ok (.ldc2_w 141, 3) := by decide +kernel
theorem dX11_paid_5 : decode cX11_paid 5 = .ok (.aload_n 0, 1) := by decide +kernel
theorem dX11_paid_6 : decode cX11_paid 6 = .ok (.getfield 7, 3) := by decide +kernel
theorem dX11_paid_9 : decode cX11_paid 9 = .ok (.iconst 5, 1) := by decide +kernel
theorem dX11_paid_10 : decode cX11_paid 10 = .ok (.iaload, 1) := by decide +kernel
theorem dX11_paid_11 : decode cX11_paid 11 = .ok (.iconst 1, 1) := by decide +kernel
theorem dX11_paid_12 : decode cX11_paid 12 = .ok (.isub, 1) := by decide +kernel
theorem dX11_paid_13 : decode cX11_paid 13 = .ok (.i2l, 1) := by decide +kernel
theorem dX11_paid_14 : decode cX11_paid 14 = .ok (.invokestatic 78, 3) := by decide +kernel
theorem dX11_paid_17 : decode cX11_paid 17 = .ok (.ifCond .ne 8, 3) := by decide +kernel
theorem dX11_paid_20 : decode cX11_paid 20 = .ok (.aload_n 0, 1) := by decide +kernel
theorem dX11_paid_21 : decode cX11_paid 21 = .ok (.invokevirtual 243, 3) := by decide +kernel
theorem dX11_paid_24 : decode cX11_paid 24 = .ok (.ireturn, 1) := by decide +kernel
theorem dX11_paid_25 : decode cX11_paid 25 = .ok (.aload_n 0, 1) := by decide +kernel
theorem dX11_paid_26 : decode cX11_paid 26 = .ok (.bipush 31, 2) := by decide +kernel
theorem dX11_paid_28 : decode cX11_paid 28 = .ok (.invokevirtual 232, 3) := by decide +kernel
theorem dX11_paid_31 : decode cX11_paid 31 = .ok (.iconst 0, 1) := by decide +kernel
theorem dX11_paid_32 : decode cX11_paid 32 = .ok (.istore_n 2, 1) := by decide +kernel
theorem dX11_paid_33 : decode cX11_paid 33 = .ok (.iconst 0, 1) := by decide +kernel
theorem dX11_paid_34 : decode cX11_paid 34 = .ok (.istore_n 3, 1) := by decide +kernel
theorem dX11_paid_35 : decode cX11_paid 35 = .ok (.iload_n 3, 1) := by decide +kernel
theorem dX11_paid_36 : decode cX11_paid 36 = .ok (.aload_n 0, 1) := by decide +kernel
theorem dX11_paid_37 : decode cX11_paid 37 = .ok (.getfield 7, 3) := by decide +kernel
theorem dX11_paid_40 : decode cX11_paid 40 = .ok (.iconst 5, 1) := by decide +kernel
theorem dX11_paid_41 : decode cX11_paid 41 = .ok (.iaload, 1) := by decide +kernel
theorem dX11_paid_42 : decode cX11_paid 42 = .ok (.if_icmp .ge 76, 3) := by decide +kernel
theorem dX11_paid_45 : decode cX11_paid 45 = .ok (.aload_n 0, 1) := by decide +kernel
theorem dX11_paid_46 : decode cX11_paid 46 = .ok (.getfield 52, 3) := by decide +kernel
theorem dX11_paid_49 : decode cX11_paid 49 = .ok (.aload_n 0, 1) := by decide +kernel
theorem dX11_paid_50 : decode cX11_paid 50 = .ok (.getfield 7, 3) := by decide +kernel
theorem dX11_paid_53 : decode cX11_paid 53 = .ok (.bipush 79, 2) := by decide +kernel
theorem dX11_paid_55 : decode cX11_paid 55 = .ok (.iload_n 3, 1) := by decide +kernel
theorem dX11_paid_56 : decode cX11_paid 56 = .ok (.iadd, 1) := by decide +kernel
theorem dX11_paid_57 : decode cX11_paid 57 = .ok (.iaload, 1) := by decide +kernel
theorem dX11_paid_58 : decode cX11_paid 58 = .ok (.iaload, 1) := by decide +kernel
theorem dX11_paid_59 : decode cX11_paid 59 = .ok (.aload_n 0, 1) := by decide +kernel
theorem dX11_paid_60 : decode cX11_paid 60 = .ok (.getfield 7, 3) := by decide +kernel
theorem dX11_paid_63 : decode cX11_paid 63 = .ok (.bipush 71, 2) := by decide +kernel
theorem dX11_paid_65 : decode cX11_paid 65 = .ok (.iload_n 3, 1) := by decide +kernel
theorem dX11_paid_66 : decode cX11_paid 66 = .ok (.iadd, 1) := by decide +kernel
theorem dX11_paid_67 : decode cX11_paid 67 = .ok (.iaload, 1) := by decide +kernel
theorem dX11_paid_68 : decode cX11_paid 68 = .ok (.if_icmp .lt 7, 3) := by decide +kernel
theorem dX11_paid_71 : decode cX11_paid 71 = .ok (.iconst 1, 1) := by decide +kernel
theorem dX11_paid_72 : decode cX11_paid 72 = .ok (.goto 4, 3) := by decide +kernel
theorem dX11_paid_75 : decode cX11_paid 75 = .ok (.iconst 0, 1) := by decide +kernel
theorem dX11_paid_76 : decode cX11_paid 76 = .ok (.istore 4, 2) := by decide +kernel
theorem dX11_paid_78 : decode cX11_paid 78 = .ok (.iload_n 2, 1) := by decide +kernel
theorem dX11_paid_79 : decode cX11_paid 79 = .ok (.iload_n 1, 1) := by decide +kernel
theorem dX11_paid_80 : decode cX11_paid 80 = .ok (.iload_n 3, 1) := by decide +kernel
theorem dX11_paid_81 : decode cX11_paid 81 = .ok (.if_icmp .ne 8, 3) := by decide +kernel
theorem dX11_paid_84 : decode cX11_paid 84 = .ok (.iload 4, 2) := by decide +kernel
theorem dX11_paid_86 : decode cX11_paid 86 = .ok (.goto 24, 3) := by decide +kernel
theorem dX11_paid_89 : decode cX11_paid 89 = .ok (.iload_n 1, 1) := by decide +kernel
theorem dX11_paid_90 : decode cX11_paid 90 = .ok (.iconst (-1), 1) := by decide +kernel
theorem dX11_paid_91 : decode cX11_paid 91 = .ok (.if_icmp .ne 18, 3) := by decide +kernel
theorem dX11_paid_94 : decode cX11_paid 94 = .ok (.iload 4, 2) := by decide +kernel
theorem dX11_paid_96 : decode cX11_paid 96 = .ok (.aload_n 0, 1) := by decide +kernel
theorem dX11_paid_97 : decode cX11_paid 97 = .ok (.getfield 7, 3) := by decide +kernel
theorem dX11_paid_100 : decode cX11_paid 100 = .ok (.bipush 87, 2) := by decide +kernel
theorem dX11_paid_102 : decode cX11_paid 102 = .ok (.iload_n 3, 1) := by decide +kernel
theorem dX11_paid_103 : decode cX11_paid 103 = .ok (.iadd, 1) := by decide +kernel
theorem dX11_paid_104 : decode cX11_paid 104 = .ok (.iaload, 1) := by decide +kernel
theorem dX11_paid_105 : decode cX11_paid 105 = .ok (.imul, 1) := by decide +kernel
theorem dX11_paid_106 : decode cX11_paid 106 = .ok (.goto 4, 3) := by decide +kernel
theorem dX11_paid_109 : decode cX11_paid 109 = .ok (.iconst 0, 1) := by decide +kernel
theorem dX11_paid_110 : decode cX11_paid 110 = .ok (.iadd, 1) := by decide +kernel
theorem dX11_paid_111 : decode cX11_paid 111 = .ok (.istore_n 2, 1) := by decide +kernel
theorem dX11_paid_112 : decode cX11_paid 112 = .ok (.iinc 3 1, 3) := by decide +kernel
theorem dX11_paid_115 : decode cX11_paid 115 = .ok (.goto (-80), 3) := by decide +kernel
theorem dX11_paid_118 : decode cX11_paid 118 = .ok (.iload_n 2, 1) := by decide +kernel
theorem dX11_paid_119 : decode cX11_paid 119 = .ok (.ireturn, 1) := by decide +kernel
theorem dX11_plans_0 : decode cX11_plans 0 = .ok (.bipush 99, 2) := by decide +kernel
theorem dX11_plans_2 : decode cX11_plans 2 = .ok (.istore_n 2, 1) := by decide +kernel
theorem dX11_plans_3 : decode cX11_plans 3 = .ok (.iload_n 2, 1) := by decide +kernel
theorem dX11_plans_4 : decode cX11_plans 4 = .ok (.ifCond .lt 190, 3) := by decide +kernel
theorem dX11_plans_7 : decode cX11_plans 7 = .ok (.iconst 0, 1) := by decide +kernel
theorem dX11_plans_8 : decode cX11_plans 8 = .ok (.istore_n 3, 1) := by decide +kernel
theorem dX11_plans_9 : decode cX11_plans 9 = .ok (.iload_n 3, 1) := by decide +kernel
theorem dX11_plans_10 : decode cX11_plans 10 = .ok (.bipush 100, 2) := by decide +kernel
theorem dX11_plans_12 : decode cX11_plans 12 = .ok (.if_icmp .ge 176, 3) := by decide +kernel
theorem dX11_plans_15 : decode cX11_plans 15 = .ok (.iconst 0, 1) := by decide +kernel
theorem dX11_plans_16 : decode cX11_plans 16 = .ok (.istore 4, 2) := by decide +kernel
theorem dX11_plans_18 : decode cX11_plans 18 = .ok (.iconst 0, 1) := by decide +kernel
theorem dX11_plans_19 : decode cX11_plans 19 = .ok (.istore 5, 2) := by decide +kernel
theorem dX11_plans_21 : decode cX11_plans 21 = .ok (.iload 5, 2) := by decide +kernel
theorem dX11_plans_23 : decode cX11_plans 23 = .ok (.aload_n 0, 1) := by decide +kernel
theorem dX11_plans_24 : decode cX11_plans 24 = .ok (.getfield 7, 3) := by decide +kernel
theorem dX11_plans_27 : decode cX11_plans 27 = .ok (.iconst 0, 1) := by decide +kernel
theorem dX11_plans_28 : decode cX11_plans 28 = .ok (.iaload, 1) := by decide +kernel
theorem dX11_plans_29 : decode cX11_plans 29 = .ok (.if_icmp .gt 73, 3) := by decide +kernel
theorem dX11_plans_32 : decode cX11_plans 32 = .ok (.iload_n 2, 1) := by decide +kernel
theorem dX11_plans_33 : decode cX11_plans 33 = .ok (.bipush 99, 2) := by decide +kernel
theorem dX11_plans_35 : decode cX11_plans 35 = .ok (.if_icmp .ge 67, 3) := by decide +kernel
theorem dX11_plans_38 : decode cX11_plans 38 = .ok (.aload_n 0, 1) := by decide +kernel
theorem dX11_plans_39 : decode cX11_plans 39 = .ok (.getfield 61, 3) := by decide +kernel
theorem dX11_plans_42 : decode cX11_plans 42 = .ok (.bipush 100, 2) := by decide +kernel
theorem dX11_plans_44 : decode cX11_plans 44 = .ok (.iload_n 2, 1) := by decide +kernel
theorem dX11_plans_45 : decode cX11_plans 45 = .ok (.iconst 1, 1) := by decide +kernel
theorem dX11_plans_46 : decode cX11_plans 46 = .ok (.iadd, 1) := by decide +kernel
theorem dX11_plans_47 : decode cX11_plans 47 = .ok (.imul, 1) := by decide +kernel
theorem dX11_plans_48 : decode cX11_plans 48 = .ok (.iload_n 3, 1) := by decide +kernel
theorem dX11_plans_49 : decode cX11_plans 49 = .ok (.iload 5, 2) := by decide +kernel
theorem dX11_plans_51 : decode cX11_plans 51 = .ok (.iadd, 1) := by decide +kernel
theorem dX11_plans_52 : decode cX11_plans 52 = .ok (.bipush 99, 2) := by decide +kernel
theorem dX11_plans_54 : decode cX11_plans 54 = .ok (.if_icmp .ge 10, 3) := by decide +kernel
theorem dX11_plans_57 : decode cX11_plans 57 = .ok (.iload_n 3, 1) := by decide +kernel
theorem dX11_plans_58 : decode cX11_plans 58 = .ok (.iload 5, 2) := by decide +kernel
theorem dX11_plans_60 : decode cX11_plans 60 = .ok (.iadd, 1) := by decide +kernel
theorem dX11_plans_61 : decode cX11_plans 61 = .ok (.goto 5, 3) := by decide +kernel
theorem dX11_plans_64 : decode cX11_plans 64 = .ok (.bipush 99, 2) := by decide +kernel
theorem dX11_plans_66 : decode cX11_plans 66 = .ok (.iadd, 1) := by decide +kernel
theorem dX11_plans_67 : decode cX11_plans 67 = .ok (.iaload, 1) := by decide +kernel
theorem dX11_plans_68 : decode cX11_plans 68 = .ok (.iload_n 1, 1) := by decide +kernel
theorem dX11_plans_69 : decode cX11_plans 69 = .ok (.iload 5, 2) := by decide +kernel
theorem dX11_plans_71 : decode cX11_plans 71 = .ok (.imul, 1) := by decide +kernel
theorem dX11_plans_72 : decode cX11_plans 72 = .ok (.isub, 1) := by decide +kernel
theorem dX11_plans_73 : decode cX11_plans 73 = .ok (.istore 6, 2) := by decide +kernel
theorem dX11_plans_75 : decode cX11_plans 75 = .ok (.iload 5, 2) := by decide +kernel
theorem dX11_plans_77 : decode cX11_plans 77 = .ok (.ifCond .eq 10, 3) := by decide +kernel
theorem dX11_plans_80 : decode cX11_plans 80 = .ok (.iload 6, 2) := by decide +kernel
theorem dX11_plans_82 : decode cX11_plans 82 = .ok (.iload 4, 2) := by decide +kernel
theorem dX11_plans_84 : decode cX11_plans 84 = .ok (.if_icmp .le 8, 3) := by decide +kernel
theorem dX11_plans_87 : decode cX11_plans 87 = .ok (.iload 6, 2) := by decide +kernel
theorem dX11_plans_89 : decode cX11_plans 89 = .ok (.goto 5, 3) := by decide +kernel
theorem dX11_plans_92 : decode cX11_plans 92 = .ok (.iload 4, 2) := by decide +kernel
theorem dX11_plans_94 : decode cX11_plans 94 = .ok (.istore 4, 2) := by decide +kernel
theorem dX11_plans_96 : decode cX11_plans 96 = .ok (.iinc 5 1, 3) := by decide +kernel
theorem dX11_plans_99 : decode cX11_plans 99 = .ok (.goto (-78), 3) := by decide +kernel
theorem dX11_plans_102 : decode cX11_plans 102 = .ok (.iconst 0, 1) := by decide +kernel
theorem dX11_plans_103 : decode cX11_plans 103 = .ok (.istore 5, 2) := by decide +kernel
theorem dX11_plans_105 : decode cX11_plans 105 = .ok (.iload 5, 2) := by decide +kernel
theorem dX11_plans_107 : decode cX11_plans 107 = .ok (.aload_n 0, 1) := by decide +kernel
theorem dX11_plans_108 : decode cX11_plans 108 = .ok (.getfield 7, 3) := by decide +kernel
theorem dX11_plans_111 : decode cX11_plans 111 = .ok (.iconst 5, 1) := by decide +kernel
theorem dX11_plans_112 : decode cX11_plans 112 = .ok (.iaload, 1) := by decide +kernel
theorem dX11_plans_113 : decode cX11_plans 113 = .ok (.if_icmp .ge 56, 3) := by decide +kernel
theorem dX11_plans_116 : decode cX11_plans 116 = .ok (.iload 4, 2) := by decide +kernel
theorem dX11_plans_118 : decode cX11_plans 118 = .ok (.aload_n 0, 1) := by decide +kernel
theorem dX11_plans_119 : decode cX11_plans 119 = .ok (.getfield 7, 3) := by decide +kernel
theorem dX11_plans_122 : decode cX11_plans 122 = .ok (.bipush 79, 2) := by decide +kernel
theorem dX11_plans_124 : decode cX11_plans 124 = .ok (.iload 5, 2) := by decide +kernel
theorem dX11_plans_126 : decode cX11_plans 126 = .ok (.iadd, 1) := by decide +kernel
theorem dX11_plans_127 : decode cX11_plans 127 = .ok (.iaload, 1) := by decide +kernel
theorem dX11_plans_128 : decode cX11_plans 128 = .ok (.iload_n 2, 1) := by decide +kernel
theorem dX11_plans_129 : decode cX11_plans 129 = .ok (.if_icmp .ne 30, 3) := by decide +kernel
theorem dX11_plans_132 : decode cX11_plans 132 = .ok (.iload_n 3, 1) := by decide +kernel
theorem dX11_plans_133 : decode cX11_plans 133 = .ok (.aload_n 0, 1) := by decide +kernel
theorem dX11_plans_134 : decode cX11_plans 134 = .ok (.getfield 7, 3) := by decide +kernel
theorem dX11_plans_137 : decode cX11_plans 137 = .ok (.bipush 71, 2) := by decide +kernel
theorem dX11_plans_139 : decode cX11_plans 139 = .ok (.iload 5, 2) := by decide +kernel
theorem dX11_plans_141 : decode cX11_plans 141 = .ok (.iadd, 1) := by decide +kernel
theorem dX11_plans_142 : decode cX11_plans 142 = .ok (.iaload, 1) := by decide +kernel
theorem dX11_plans_143 : decode cX11_plans 143 = .ok (.if_icmp .lt 16, 3) := by decide +kernel
theorem dX11_plans_146 : decode cX11_plans 146 = .ok (.aload_n 0, 1) := by decide +kernel
theorem dX11_plans_147 : decode cX11_plans 147 = .ok (.getfield 7, 3) := by decide +kernel
theorem dX11_plans_150 : decode cX11_plans 150 = .ok (.bipush 87, 2) := by decide +kernel
theorem dX11_plans_152 : decode cX11_plans 152 = .ok (.iload 5, 2) := by decide +kernel
theorem dX11_plans_154 : decode cX11_plans 154 = .ok (.iadd, 1) := by decide +kernel
theorem dX11_plans_155 : decode cX11_plans 155 = .ok (.iaload, 1) := by decide +kernel
theorem dX11_plans_156 : decode cX11_plans 156 = .ok (.goto 4, 3) := by decide +kernel
theorem dX11_plans_159 : decode cX11_plans 159 = .ok (.iconst 0, 1) := by decide +kernel
theorem dX11_plans_160 : decode cX11_plans 160 = .ok (.iadd, 1) := by decide +kernel
theorem dX11_plans_161 : decode cX11_plans 161 = .ok (.istore 4, 2) := by decide +kernel
theorem dX11_plans_163 : decode cX11_plans 163 = .ok (.iinc 5 1, 3) := by decide +kernel
theorem dX11_plans_166 : decode cX11_plans 166 = .ok (.goto (-61), 3) := by decide +kernel
theorem dX11_plans_169 : decode cX11_plans 169 = .ok (.aload_n 0, 1) := by decide +kernel
theorem dX11_plans_170 : decode cX11_plans 170 = .ok (.getfield 61, 3) := by decide +kernel
theorem dX11_plans_173 : decode cX11_plans 173 = .ok (.bipush 100, 2) := by decide +kernel
theorem dX11_plans_175 : decode cX11_plans 175 = .ok (.iload_n 2, 1) := by decide +kernel
theorem dX11_plans_176 : decode cX11_plans 176 = .ok (.imul, 1) := by decide +kernel
theorem dX11_plans_177 : decode cX11_plans 177 = .ok (.iload_n 3, 1) := by decide +kernel
theorem dX11_plans_178 : decode cX11_plans 178 = .ok (.iadd, 1) := by decide +kernel
theorem dX11_plans_179 : decode cX11_plans 179 = .ok (.iload 4, 2) := by decide +kernel
theorem dX11_plans_181 : decode cX11_plans 181 = .ok (.iastore, 1) := by decide +kernel
theorem dX11_plans_182 : decode cX11_plans 182 = .ok (.iinc 3 1, 3) := by decide +kernel
theorem dX11_plans_185 : decode cX11_plans 185 = .ok (.goto (-176), 3) := by decide +kernel
theorem dX11_plans_188 : decode cX11_plans 188 = .ok (.iinc 2 (-1), 3) := by decide +kernel
theorem dX11_plans_191 : decode cX11_plans 191 = .ok (.goto (-188), 3) := by decide +kernel
theorem dX11_plans_194 : decode cX11_plans 194 = .ok (.return_, 1) := by decide +kernel
theorem dX11_best_0 : decode cX11_best 0 = .ok (.iload_n 1, 1) := by decide +kernel
theorem dX11_best_1 : decode cX11_best 1 = .ok (.i2l, 1) := by decide +kernel
theorem dX11_best_2 : decode cX11_best 2 = .ok (.lconst 0, 1) := by decide +kernel
theorem dX11_best_3 : decode cX11_best 3 = .ok (.ldc2_w 246, 3) := by decide +kernel
theorem dX11_best_6 : decode cX11_best 6 = .ok (.invokestatic 78, 3) := by decide +kernel
theorem dX11_best_9 : decode cX11_best 9 = .ok (.ifCond .ne 8, 3) := by decide +kernel
theorem dX11_best_12 : decode cX11_best 12 = .ok (.aload_n 0, 1) := by decide +kernel
theorem dX11_best_13 : decode cX11_best 13 = .ok (.invokevirtual 243, 3) := by decide +kernel
theorem dX11_best_16 : decode cX11_best 16 = .ok (.ireturn, 1) := by decide +kernel
theorem dX11_best_17 : decode cX11_best 17 = .ok (.aload_n 0, 1) := by decide +kernel
theorem dX11_best_18 : decode cX11_best 18 = .ok (.iload_n 1, 1) := by decide +kernel
theorem dX11_best_19 : decode cX11_best 19 = .ok (.invokevirtual 248, 3) := by decide +kernel
theorem dX11_best_22 : decode cX11_best 22 = .ok (.aload_n 0, 1) := by decide +kernel
theorem dX11_best_23 : decode cX11_best 23 = .ok (.getfield 61, 3) := by decide +kernel
theorem dX11_best_26 : decode cX11_best 26 = .ok (.iconst 0, 1) := by decide +kernel
theorem dX11_best_27 : decode cX11_best 27 = .ok (.iaload, 1) := by decide +kernel
theorem dX11_best_28 : decode cX11_best 28 = .ok (.ireturn, 1) := by decide +kernel
theorem dX11_step_0 : decode cX11_step 0 = .ok (.iload_n 1, 1) := by decide +kernel
theorem dX11_step_1 : decode cX11_step 1 = .ok (.i2l, 1) := by decide +kernel
theorem dX11_step_2 : decode cX11_step 2 = .ok (.lconst 0, 1) := by decide +kernel
theorem dX11_step_3 : decode cX11_step 3 = .ok (.ldc2_w 246, 3) := by decide +kernel
theorem dX11_step_6 : decode cX11_step 6 = .ok (.invokestatic 78, 3) := by decide +kernel
theorem dX11_step_9 : decode cX11_step 9 = .ok (.ifCond .eq 15, 3) := by decide +kernel
theorem dX11_step_12 : decode cX11_step 12 = .ok (.iload_n 2, 1) := by decide +kernel
theorem dX11_step_13 : decode cX11_step 13 = .ok (.i2l, 1) := by decide +kernel
theorem dX11_step_14 : decode cX11_step 14 = .ok (.lconst 0, 1) := by decide +kernel
theorem dX11_step_15 : decode cX11_step 15 = .ok (.ldc2_w 251, 3) := by decide +kernel
theorem dX11_step_18 : decode cX11_step 18 = .ok (.invokestatic 78, 3) := by decide +kernel
theorem dX11_step_21 : decode cX11_step 21 = .ok (.ifCond .ne 10, 3) := by decide +kernel
theorem dX11_step_24 : decode cX11_step 24 = .ok (.aload_n 0, 1) := by decide +kernel
theorem dX11_step_25 : decode cX11_step 25 = .ok (.bipush (-2), 2) := by decide +kernel
theorem dX11_step_27 : decode cX11_step 27 = .ok (.invokevirtual 88, 3) := by decide +kernel
theorem dX11_step_30 : decode cX11_step 30 = .ok (.ireturn, 1) := by decide +kernel
theorem dX11_step_31 : decode cX11_step 31 = .ok (.aload_n 0, 1) := by decide +kernel
theorem dX11_step_32 : decode cX11_step 32 = .ok (.iload_n 1, 1) := by decide +kernel
