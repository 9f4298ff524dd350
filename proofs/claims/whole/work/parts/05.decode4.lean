theorem dX11_step_33 : decode cX11_step 33 = .ok (.invokevirtual 248, 3) := by decide +kernel
theorem dX11_step_36 : decode cX11_step 36 = .ok (.iconst 0, 1) := by decide +kernel
theorem dX11_step_37 : decode cX11_step 37 = .ok (.istore_n 3, 1) := by decide +kernel
theorem dX11_step_38 : decode cX11_step 38 = .ok (.iconst 0, 1) := by decide +kernel
theorem dX11_step_39 : decode cX11_step 39 = .ok (.istore 4, 2) := by decide +kernel
theorem dX11_step_41 : decode cX11_step 41 = .ok (.iconst 0, 1) := by decide +kernel
theorem dX11_step_42 : decode cX11_step 42 = .ok (.istore 5, 2) := by decide +kernel
theorem dX11_step_44 : decode cX11_step 44 = .ok (.iload 5, 2) := by decide +kernel
theorem dX11_step_46 : decode cX11_step 46 = .ok (.iload_n 2, 1) := by decide +kernel
theorem dX11_step_47 : decode cX11_step 47 = .ok (.if_icmp .gt 112, 3) := by decide +kernel
theorem dX11_step_50 : decode cX11_step 50 = .ok (.iconst 0, 1) := by decide +kernel
theorem dX11_step_51 : decode cX11_step 51 = .ok (.istore 6, 2) := by decide +kernel
theorem dX11_step_53 : decode cX11_step 53 = .ok (.iconst 0, 1) := by decide +kernel
theorem dX11_step_54 : decode cX11_step 54 = .ok (.istore 4, 2) := by decide +kernel
theorem dX11_step_56 : decode cX11_step 56 = .ok (.iconst 0, 1) := by decide +kernel
theorem dX11_step_57 : decode cX11_step 57 = .ok (.istore 7, 2) := by decide +kernel
theorem dX11_step_59 : decode cX11_step 59 = .ok (.iload 7, 2) := by decide +kernel
theorem dX11_step_61 : decode cX11_step 61 = .ok (.aload_n 0, 1) := by decide +kernel
theorem dX11_step_62 : decode cX11_step 62 = .ok (.getfield 7, 3) := by decide +kernel
theorem dX11_step_65 : decode cX11_step 65 = .ok (.iconst 0, 1) := by decide +kernel
theorem dX11_step_66 : decode cX11_step 66 = .ok (.iaload, 1) := by decide +kernel
theorem dX11_step_67 : decode cX11_step 67 = .ok (.if_icmp .gt 67, 3) := by decide +kernel
theorem dX11_step_70 : decode cX11_step 70 = .ok (.aload_n 0, 1) := by decide +kernel
theorem dX11_step_71 : decode cX11_step 71 = .ok (.getfield 61, 3) := by decide +kernel
theorem dX11_step_74 : decode cX11_step 74 = .ok (.bipush 100, 2) := by decide +kernel
theorem dX11_step_76 : decode cX11_step 76 = .ok (.iload 5, 2) := by decide +kernel
theorem dX11_step_78 : decode cX11_step 78 = .ok (.iconst 1, 1) := by decide +kernel
theorem dX11_step_79 : decode cX11_step 79 = .ok (.iadd, 1) := by decide +kernel
theorem dX11_step_80 : decode cX11_step 80 = .ok (.imul, 1) := by decide +kernel
theorem dX11_step_81 : decode cX11_step 81 = .ok (.iload_n 3, 1) := by decide +kernel
theorem dX11_step_82 : decode cX11_step 82 = .ok (.iload 7, 2) := by decide +kernel
theorem dX11_step_84 : decode cX11_step 84 = .ok (.iadd, 1) := by decide +kernel
theorem dX11_step_85 : decode cX11_step 85 = .ok (.bipush 99, 2) := by decide +kernel
theorem dX11_step_87 : decode cX11_step 87 = .ok (.if_icmp .ge 10, 3) := by decide +kernel
theorem dX11_step_90 : decode cX11_step 90 = .ok (.iload_n 3, 1) := by decide +kernel
theorem dX11_step_91 : decode cX11_step 91 = .ok (.iload 7, 2) := by decide +kernel
theorem dX11_step_93 : decode cX11_step 93 = .ok (.iadd, 1) := by decide +kernel
theorem dX11_step_94 : decode cX11_step 94 = .ok (.goto 5, 3) := by decide +kernel
theorem dX11_step_97 : decode cX11_step 97 = .ok (.bipush 99, 2) := by decide +kernel
theorem dX11_step_99 : decode cX11_step 99 = .ok (.iadd, 1) := by decide +kernel
theorem dX11_step_100 : decode cX11_step 100 = .ok (.iaload, 1) := by decide +kernel
theorem dX11_step_101 : decode cX11_step 101 = .ok (.iload_n 1, 1) := by decide +kernel
theorem dX11_step_102 : decode cX11_step 102 = .ok (.iload 7, 2) := by decide +kernel
theorem dX11_step_104 : decode cX11_step 104 = .ok (.imul, 1) := by decide +kernel
theorem dX11_step_105 : decode cX11_step 105 = .ok (.isub, 1) := by decide +kernel
theorem dX11_step_106 : decode cX11_step 106 = .ok (.istore 8, 2) := by decide +kernel
theorem dX11_step_108 : decode cX11_step 108 = .ok (.iload 7, 2) := by decide +kernel
theorem dX11_step_110 : decode cX11_step 110 = .ok (.ifCond .eq 10, 3) := by decide +kernel
theorem dX11_step_113 : decode cX11_step 113 = .ok (.iload 8, 2) := by decide +kernel
theorem dX11_step_115 : decode cX11_step 115 = .ok (.iload 6, 2) := by decide +kernel
theorem dX11_step_117 : decode cX11_step 117 = .ok (.if_icmp .le 11, 3) := by decide +kernel
theorem dX11_step_120 : decode cX11_step 120 = .ok (.iload 8, 2) := by decide +kernel
theorem dX11_step_122 : decode cX11_step 122 = .ok (.istore 6, 2) := by decide +kernel
theorem dX11_step_124 : decode cX11_step 124 = .ok (.iload 7, 2) := by decide +kernel
theorem dX11_step_126 : decode cX11_step 126 = .ok (.istore 4, 2) := by decide +kernel
theorem dX11_step_128 : decode cX11_step 128 = .ok (.iinc 7 1, 3) := by decide +kernel
theorem dX11_step_131 : decode cX11_step 131 = .ok (.goto (-72), 3) := by decide +kernel
theorem dX11_step_134 : decode cX11_step 134 = .ok (.iload_n 3, 1) := by decide +kernel
theorem dX11_step_135 : decode cX11_step 135 = .ok (.iload 4, 2) := by decide +kernel
theorem dX11_step_137 : decode cX11_step 137 = .ok (.iadd, 1) := by decide +kernel
theorem dX11_step_138 : decode cX11_step 138 = .ok (.bipush 99, 2) := by decide +kernel
theorem dX11_step_140 : decode cX11_step 140 = .ok (.if_icmp .ge 10, 3) := by decide +kernel
theorem dX11_step_143 : decode cX11_step 143 = .ok (.iload_n 3, 1) := by decide +kernel
theorem dX11_step_144 : decode cX11_step 144 = .ok (.iload 4, 2) := by decide +kernel
theorem dX11_step_146 : decode cX11_step 146 = .ok (.iadd, 1) := by decide +kernel
theorem dX11_step_147 : decode cX11_step 147 = .ok (.goto 5, 3) := by decide +kernel
theorem dX11_step_150 : decode cX11_step 150 = .ok (.bipush 99, 2) := by decide +kernel
theorem dX11_step_152 : decode cX11_step 152 = .ok (.istore_n 3, 1) := by decide +kernel
theorem dX11_step_153 : decode cX11_step 153 = .ok (.iinc 5 1, 3) := by decide +kernel
theorem dX11_step_156 : decode cX11_step 156 = .ok (.goto (-112), 3) := by decide +kernel
theorem dX11_step_159 : decode cX11_step 159 = .ok (.iload 4, 2) := by decide +kernel
theorem dX11_step_161 : decode cX11_step 161 = .ok (.ireturn, 1) := by decide +kernel
theorem dX11_minute_0 : decode cX11_minute 0 = .ok (.iload_n 1, 1) := by decide +kernel
theorem dX11_minute_1 : decode cX11_minute 1 = .ok (.i2l, 1) := by decide +kernel
theorem dX11_minute_2 : decode cX11_minute 2 = .ok (.lconst 0, 1) := by decide +kernel
theorem dX11_minute_3 : decode cX11_minute 3 = .ok (.ldc2_w 246, 3) := by decide +kernel
theorem dX11_minute_6 : decode cX11_minute 6 = .ok (.invokestatic 78, 3) := by decide +kernel
theorem dX11_minute_9 : decode cX11_minute 9 = .ok (.ifCond .ne 8, 3) := by decide +kernel
theorem dX11_minute_12 : decode cX11_minute 12 = .ok (.aload_n 0, 1) := by decide +kernel
theorem dX11_minute_13 : decode cX11_minute 13 = .ok (.invokevirtual 243, 3) := by decide +kernel
theorem dX11_minute_16 : decode cX11_minute 16 = .ok (.ireturn, 1) := by decide +kernel
theorem dX11_minute_17 : decode cX11_minute 17 = .ok (.aload_n 0, 1) := by decide +kernel
theorem dX11_minute_18 : decode cX11_minute 18 = .ok (.iload_n 1, 1) := by decide +kernel
theorem dX11_minute_19 : decode cX11_minute 19 = .ok (.invokevirtual 248, 3) := by decide +kernel
theorem dX11_minute_22 : decode cX11_minute 22 = .ok (.aload_n 0, 1) := by decide +kernel
theorem dX11_minute_23 : decode cX11_minute 23 = .ok (.getfield 61, 3) := by decide +kernel
theorem dX11_minute_26 : decode cX11_minute 26 = .ok (.iconst 1, 1) := by decide +kernel
theorem dX11_minute_27 : decode cX11_minute 27 = .ok (.iaload, 1) := by decide +kernel
theorem dX11_minute_28 : decode cX11_minute 28 = .ok (.aload_n 0, 1) := by decide +kernel
theorem dX11_minute_29 : decode cX11_minute 29 = .ok (.getfield 61, 3) := by decide +kernel
theorem dX11_minute_32 : decode cX11_minute 32 = .ok (.iconst 0, 1) := by decide +kernel
theorem dX11_minute_33 : decode cX11_minute 33 = .ok (.iaload, 1) := by decide +kernel
theorem dX11_minute_34 : decode cX11_minute 34 = .ok (.isub, 1) := by decide +kernel
theorem dX11_minute_35 : decode cX11_minute 35 = .ok (.ireturn, 1) := by decide +kernel
theorem dX11_stake_0 : decode cX11_stake 0 = .ok (.iload_n 1, 1) := by decide +kernel
theorem dX11_stake_1 : decode cX11_stake 1 = .ok (.i2l, 1) := by decide +kernel
theorem dX11_stake_2 : decode cX11_stake 2 = .ok (.lconst 0, 1) := by decide +kernel
theorem dX11_stake_3 : decode cX11_stake 3 = .ok (.ldc2_w 253, 3) := by decide +kernel
theorem dX11_stake_6 : decode cX11_stake 6 = .ok (.invokestatic 78, 3) := by decide +kernel
theorem dX11_stake_9 : decode cX11_stake 9 = .ok (.ifCond .eq 57, 3) := by decide +kernel
theorem dX11_stake_12 : decode cX11_stake 12 = .ok (.iload_n 2, 1) := by decide +kernel
theorem dX11_stake_13 : decode cX11_stake 13 = .ok (.i2l, 1) := by decide +kernel
theorem dX11_stake_14 : decode cX11_stake 14 = .ok (.lconst 0, 1) := by decide +kernel
theorem dX11_stake_15 : decode cX11_stake 15 = .ok (.ldc2_w 253, 3) := by decide +kernel
theorem dX11_stake_18 : decode cX11_stake 18 = .ok (.invokestatic 78, 3) := by decide +kernel
theorem dX11_stake_21 : decode cX11_stake 21 = .ok (.ifCond .eq 45, 3) := by decide +kernel
theorem dX11_stake_24 : decode cX11_stake 24 = .ok (.iload_n 3, 1) := by decide +kernel
theorem dX11_stake_25 : decode cX11_stake 25 = .ok (.i2l, 1) := by decide +kernel
theorem dX11_stake_26 : decode cX11_stake 26 = .ok (.ldc2_w 96, 3) := by decide +kernel
theorem dX11_stake_29 : decode cX11_stake 29 = .ok (.ldc2_w 94, 3) := by decide +kernel
theorem dX11_stake_32 : decode cX11_stake 32 = .ok (.invokestatic 78, 3) := by decide +kernel
theorem dX11_stake_35 : decode cX11_stake 35 = .ok (.ifCond .eq 31, 3) := by decide +kernel
theorem dX11_stake_38 : decode cX11_stake 38 = .ok (.iload 4, 2) := by decide +kernel
theorem dX11_stake_40 : decode cX11_stake 40 = .ok (.i2l, 1) := by decide +kernel
theorem dX11_stake_41 : decode cX11_stake 41 = .ok (.ldc2_w 96, 3) := by decide +kernel
theorem dX11_stake_44 : decode cX11_stake 44 = .ok (.ldc2_w 94, 3) := by decide +kernel
theorem dX11_stake_47 : decode cX11_stake 47 = .ok (.invokestatic 78, 3) := by decide +kernel
theorem dX11_stake_50 : decode cX11_stake 50 = .ok (.ifCond .eq 16, 3) := by decide +kernel
theorem dX11_stake_53 : decode cX11_stake 53 = .ok (.iload 5, 2) := by decide +kernel
theorem dX11_stake_55 : decode cX11_stake 55 = .ok (.i2l, 1) := by decide +kernel
theorem dX11_stake_56 : decode cX11_stake 56 = .ok (.lconst 0, 1) := by decide +kernel
theorem dX11_stake_57 : decode cX11_stake 57 = .ok (.ldc2_w 94, 3) := by decide +kernel
theorem dX11_stake_60 : decode cX11_stake 60 = .ok (.invokestatic 78, 3) := by decide +kernel
theorem dX11_stake_63 : decode cX11_stake 63 = .ok (.ifCond .ne 10, 3) := by decide +kernel
theorem dX11_stake_66 : decode cX11_stake 66 = .ok (.aload_n 0, 1) := by decide +kernel
theorem dX11_stake_67 : decode cX11_stake 67 = .ok (.bipush (-2), 2) := by decide +kernel
theorem dX11_stake_69 : decode cX11_stake 69 = .ok (.invokevirtual 88, 3) := by decide +kernel
theorem dX11_stake_72 : decode cX11_stake 72 = .ok (.ireturn, 1) := by decide +kernel
theorem dX11_stake_73 : decode cX11_stake 73 = .ok (.aload_n 0, 1) := by decide +kernel
theorem dX11_stake_74 : decode cX11_stake 74 = .ok (.getfield 7, 3) := by decide +kernel
theorem dX11_stake_77 : decode cX11_stake 77 = .ok (.bipush 8, 2) := by decide +kernel
theorem dX11_stake_79 : decode cX11_stake 79 = .ok (.iload_n 1, 1) := by decide +kernel
theorem dX11_stake_80 : decode cX11_stake 80 = .ok (.iastore, 1) := by decide +kernel
theorem dX11_stake_81 : decode cX11_stake 81 = .ok (.aload_n 0, 1) := by decide +kernel
theorem dX11_stake_82 : decode cX11_stake 82 = .ok (.getfield 7, 3) := by decide +kernel
theorem dX11_stake_85 : decode cX11_stake 85 = .ok (.bipush 9, 2) := by decide +kernel
theorem dX11_stake_87 : decode cX11_stake 87 = .ok (.iload_n 2, 1) := by decide +kernel
theorem dX11_stake_88 : decode cX11_stake 88 = .ok (.iastore, 1) := by decide +kernel
theorem dX11_stake_89 : decode cX11_stake 89 = .ok (.aload_n 0, 1) := by decide +kernel
theorem dX11_stake_90 : decode cX11_stake 90 = .ok (.getfield 7, 3) := by decide +kernel
theorem dX11_stake_93 : decode cX11_stake 93 = .ok (.bipush 10, 2) := by decide +kernel
theorem dX11_stake_95 : decode cX11_stake 95 = .ok (.iload_n 3, 1) := by decide +kernel
theorem dX11_stake_96 : decode cX11_stake 96 = .ok (.iastore, 1) := by decide +kernel
theorem dX11_stake_97 : decode cX11_stake 97 = .ok (.aload_n 0, 1) := by decide +kernel
theorem dX11_stake_98 : decode cX11_stake 98 = .ok (.getfield 7, 3) := by decide +kernel
theorem dX11_stake_101 : decode cX11_stake 101 = .ok (.bipush 11, 2) := by decide +kernel
theorem dX11_stake_103 : decode cX11_stake 103 = .ok (.iload 4, 2) := by decide +kernel
theorem dX11_stake_105 : decode cX11_stake 105 = .ok (.iastore, 1) := by decide +kernel
theorem dX11_stake_106 : decode cX11_stake 106 = .ok (.aload_n 0, 1) := by decide +kernel
theorem dX11_stake_107 : decode cX11_stake 107 = .ok (.getfield 7, 3) := by decide +kernel
theorem dX11_stake_110 : decode cX11_stake 110 = .ok (.bipush 12, 2) := by decide +kernel
theorem dX11_stake_112 : decode cX11_stake 112 = .ok (.iload 5, 2) := by decide +kernel
theorem dX11_stake_114 : decode cX11_stake 114 = .ok (.iastore, 1) := by decide +kernel
theorem dX11_stake_115 : decode cX11_stake 115 = .ok (.iconst 1, 1) := by decide +kernel
theorem dX11_stake_116 : decode cX11_stake 116 = .ok (.ireturn, 1) := by decide +kernel
theorem dX11_silence_0 : decode cX11_silence 0 = .ok (.iload_n 1, 1) := by decide +kernel
theorem dX11_silence_1 : decode cX11_silence 1 = .ok (.i2l, 1) := by decide +kernel
theorem dX11_silence_2 : decode cX11_silence 2 = .ok (.lconst 0, 1) := by decide +kernel
theorem dX11_silence_3 : decode cX11_silence 3 = .ok (.ldc2_w 255, 3) := by decide +kernel
theorem dX11_silence_6 : decode cX11_silence 6 = .ok (.invokestatic 78, 3) := by decide +kernel
theorem dX11_silence_9 : decode cX11_silence 9 = .ok (.ifCond .eq 27, 3) := by decide +kernel
theorem dX11_silence_12 : decode cX11_silence 12 = .ok (.iload_n 2, 1) := by decide +kernel
theorem dX11_silence_13 : decode cX11_silence 13 = .ok (.i2l, 1) := by decide +kernel
theorem dX11_silence_14 : decode cX11_silence 14 = .ok (.lconst 1, 1) := by decide +kernel
theorem dX11_silence_15 : decode cX11_silence 15 = .ok (.ldc2_w 253, 3) := by decide +kernel
theorem dX11_silence_18 : decode cX11_silence 18 = .ok (.invokestatic 78, 3) := by decide +kernel
theorem dX11_silence_21 : decode cX11_silence 21 = .ok (.ifCond .eq 15, 3) := by decide +kernel
theorem dX11_silence_24 : decode cX11_silence 24 = .ok (.iload_n 3, 1) := by decide +kernel
theorem dX11_silence_25 : decode cX11_silence 25 = .ok (.i2l, 1) := by decide +kernel
theorem dX11_silence_26 : decode cX11_silence 26 = .ok (.lconst 0, 1) := by decide +kernel
theorem dX11_silence_27 : decode cX11_silence 27 = .ok (.ldc2_w 257, 3) := by decide +kernel
theorem dX11_silence_30 : decode cX11_silence 30 = .ok (.invokestatic 78, 3) := by decide +kernel
theorem dX11_silence_33 : decode cX11_silence 33 = .ok (.ifCond .ne 8, 3) := by decide +kernel
theorem dX11_silence_36 : decode cX11_silence 36 = .ok (.aload_n 0, 1) := by decide +kernel
theorem dX11_silence_37 : decode cX11_silence 37 = .ok (.invokevirtual 243, 3) := by decide +kernel
theorem dX11_silence_40 : decode cX11_silence 40 = .ok (.ireturn, 1) := by decide +kernel
theorem dX11_silence_41 : decode cX11_silence 41 = .ok (.iload_n 1, 1) := by decide +kernel
theorem dX11_silence_42 : decode cX11_silence 42 = .ok (.istore 4, 2) := by decide +kernel
theorem dX11_silence_44 : decode cX11_silence 44 = .ok (.iload 4, 2) := by decide +kernel
theorem dX11_silence_46 : decode cX11_silence 46 = .ok (.ifCond .lt 334, 3) := by decide +kernel
theorem dX11_silence_49 : decode cX11_silence 49 = .ok (.iconst 0, 1) := by decide +kernel
theorem dX11_silence_50 : decode cX11_silence 50 = .ok (.istore 5, 2) := by decide +kernel
theorem dX11_silence_52 : decode cX11_silence 52 = .ok (.iload 5, 2) := by decide +kernel
theorem dX11_silence_54 : decode cX11_silence 54 = .ok (.iload_n 2, 1) := by decide +kernel
theorem dX11_silence_55 : decode cX11_silence 55 = .ok (.if_icmp .gt 319, 3) := by decide +kernel
theorem dX11_silence_58 : decode cX11_silence 58 = .ok (.bipush 21, 2) := by decide +kernel
theorem dX11_silence_60 : decode cX11_silence 60 = .ok (.iload 4, 2) := by decide +kernel
theorem dX11_silence_62 : decode cX11_silence 62 = .ok (.imul, 1) := by decide +kernel
theorem dX11_silence_63 : decode cX11_silence 63 = .ok (.iload 5, 2) := by decide +kernel
theorem dX11_silence_65 : decode cX11_silence 65 = .ok (.iadd, 1) := by decide +kernel
theorem dX11_silence_66 : decode cX11_silence 66 = .ok (.istore 6, 2) := by decide +kernel
theorem dX11_silence_68 : decode cX11_silence 68 = .ok (.aload_n 0, 1) := by decide +kernel
theorem dX11_silence_69 : decode cX11_silence 69 = .ok (.getfield 64, 3) := by decide +kernel
theorem dX11_silence_72 : decode cX11_silence 72 = .ok (.iload 6, 2) := by decide +kernel
theorem dX11_silence_74 : decode cX11_silence 74 = .ok (.iload 5, 2) := by decide +kernel
theorem dX11_silence_76 : decode cX11_silence 76 = .ok (.iload_n 2, 1) := by decide +kernel
theorem dX11_silence_77 : decode cX11_silence 77 = .ok (.if_icmp .ne 13, 3) := by decide +kernel
theorem dX11_silence_80 : decode cX11_silence 80 = .ok (.aload_n 0, 1) := by decide +kernel
theorem dX11_silence_81 : decode cX11_silence 81 = .ok (.getfield 7, 3) := by decide +kernel
theorem dX11_silence_84 : decode cX11_silence 84 = .ok (.bipush 10, 2) := by decide +kernel
theorem dX11_silence_86 : decode cX11_silence 86 = .ok (.iaload, 1) := by decide +kernel
theorem dX11_silence_87 : decode cX11_silence 87 = .ok (.goto 4, 3) := by decide +kernel
theorem dX11_silence_90 : decode cX11_silence 90 = .ok (.iconst 0, 1) := by decide +kernel
theorem dX11_silence_91 : decode cX11_silence 91 = .ok (.iastore, 1) := by decide +kernel
theorem dX11_silence_92 : decode cX11_silence 92 = .ok (.aload_n 0, 1) := by decide +kernel
theorem dX11_silence_93 : decode cX11_silence 93 = .ok (.getfield 67, 3) := by decide +kernel
theorem dX11_silence_96 : decode cX11_silence 96 = .ok (.iload 6, 2) := by decide +kernel
theorem dX11_silence_98 : decode cX11_silence 98 = .ok (.iload 5, 2) := by decide +kernel
theorem dX11_silence_100 : decode cX11_silence 100 = .ok (.iload_n 2, 1) := by decide +kernel
theorem dX11_silence_101 : decode cX11_silence 101 = .ok (.if_icmp .ne 13, 3) := by decide +kernel
theorem dX11_silence_104 : decode cX11_silence 104 = .ok (.aload_n 0, 1) := by decide +kernel
theorem dX11_silence_105 : decode cX11_silence 105 = .ok (.getfield 7, 3) := by decide +kernel
theorem dX11_silence_108 : decode cX11_silence 108 = .ok (.bipush 11, 2) := by decide +kernel
theorem dX11_silence_110 : decode cX11_silence 110 = .ok (.iaload, 1) := by decide +kernel
theorem dX11_silence_111 : decode cX11_silence 111 = .ok (.goto 4, 3) := by decide +kernel
theorem dX11_silence_114 : decode cX11_silence 114 = .ok (.iconst 0, 1) := by decide +kernel
theorem dX11_silence_115 : decode cX11_silence 115 = .ok (.iastore, 1) := by decide +kernel
theorem dX11_silence_116 : decode cX11_silence 116 = .ok (.iload 5, 2) := by decide +kernel
theorem dX11_silence_118 : decode cX11_silence 118 = .ok (.iload_n 2, 1) := by decide +kernel
theorem dX11_silence_119 : decode cX11_silence 119 = .ok (.if_icmp .eq 249, 3) := by decide +kernel
theorem dX11_silence_122 : decode cX11_silence 122 = .ok (.iload 4, 2) := by decide +kernel
theorem dX11_silence_124 : decode cX11_silence 124 = .ok (.iload_n 1, 1) := by decide +kernel
theorem dX11_silence_125 : decode cX11_silence 125 = .ok (.if_icmp .ne 6, 3) := by decide +kernel
theorem dX11_silence_128 : decode cX11_silence 128 = .ok (.goto 240, 3) := by decide +kernel
theorem dX11_silence_131 : decode cX11_silence 131 = .ok (.iload 4, 2) := by decide +kernel
theorem dX11_silence_133 : decode cX11_silence 133 = .ok (.iconst 2, 1) := by decide +kernel
theorem dX11_silence_134 : decode cX11_silence 134 = .ok (.irem, 1) := by decide +kernel
theorem dX11_silence_135 : decode cX11_silence 135 = .ok (.ifCond .ne 7, 3) := by decide +kernel
theorem dX11_silence_138 : decode cX11_silence 138 = .ok (.iconst 1, 1) := by decide +kernel
theorem dX11_silence_139 : decode cX11_silence 139 = .ok (.goto 4, 3) := by decide +kernel
theorem dX11_silence_142 : decode cX11_silence 142 = .ok (.iconst 0, 1) := by decide +kernel
theorem dX11_silence_143 : decode cX11_silence 143 = .ok (.istore 7, 2) := by decide +kernel
theorem dX11_silence_145 : decode cX11_silence 145 = .ok (.iload 6, 2) := by decide +kernel
theorem dX11_silence_147 : decode cX11_silence 147 = .ok (.bipush 21, 2) := by decide +kernel
theorem dX11_silence_149 : decode cX11_silence 149 = .ok (.iadd, 1) := by decide +kernel
theorem dX11_silence_150 : decode cX11_silence 150 = .ok (.istore 8, 2) := by decide +kernel
theorem dX11_silence_152 : decode cX11_silence 152 = .ok (.iload 6, 2) := by decide +kernel
theorem dX11_silence_154 : decode cX11_silence 154 = .ok (.bipush 22, 2) := by decide +kernel
theorem dX11_silence_156 : decode cX11_silence 156 = .ok (.iadd, 1) := by decide +kernel
theorem dX11_silence_157 : decode cX11_silence 157 = .ok (.istore 9, 2) := by decide +kernel
theorem dX11_silence_159 : decode cX11_silence 159 = .ok (.iload 7, 2) := by decide +kernel
theorem dX11_silence_161 : decode cX11_silence 161 = .ok (.ifCond .eq 21, 3) := by decide +kernel
theorem dX11_silence_164 : decode cX11_silence 164 = .ok (.aload_n 0, 1) := by decide +kernel
theorem dX11_silence_165 : decode cX11_silence 165 = .ok (.getfield 64, 3) := by decide +kernel
theorem dX11_silence_168 : decode cX11_silence 168 = .ok (.iload 8, 2) := by decide +kernel
theorem dX11_silence_170 : decode cX11_silence 170 = .ok (.iaload, 1) := by decide +kernel
theorem dX11_silence_171 : decode cX11_silence 171 = .ok (.aload_n 0, 1) := by decide +kernel
theorem dX11_silence_172 : decode cX11_silence 172 = .ok (.getfield 7, 3) := by decide +kernel
theorem dX11_silence_175 : decode cX11_silence 175 = .ok (.bipush 8, 2) := by decide +kernel
theorem dX11_silence_177 : decode cX11_silence 177 = .ok (.iaload, 1) := by decide +kernel
theorem dX11_silence_178 : decode cX11_silence 178 = .ok (.isub, 1) := by decide +kernel
theorem dX11_silence_179 : decode cX11_silence 179 = .ok (.goto 18, 3) := by decide +kernel
theorem dX11_silence_182 : decode cX11_silence 182 = .ok (.aload_n 0, 1) := by decide +kernel
theorem dX11_silence_183 : decode cX11_silence 183 = .ok (.getfield 67, 3) := by decide +kernel
theorem dX11_silence_186 : decode cX11_silence 186 = .ok (.iload 8, 2) := by decide +kernel
theorem dX11_silence_188 : decode cX11_silence 188 = .ok (.iaload, 1) := by decide +kernel
theorem dX11_silence_189 : decode cX11_silence 189 = .ok (.aload_n 0, 1) := by decide +kernel
theorem dX11_silence_190 : decode cX11_silence 190 = .ok (.getfield 7, 3) := by decide +kernel
theorem dX11_silence_193 : decode cX11_silence 193 = .ok (.bipush 9, 2) := by decide +kernel
theorem dX11_silence_195 : decode cX11_silence 195 = .ok (.iaload, 1) := by decide +kernel
theorem dX11_silence_196 : decode cX11_silence 196 = .ok (.isub, 1) := by decide +kernel
theorem dX11_silence_197 : decode cX11_silence 197 = .ok (.istore 10, 2) := by decide +kernel
theorem dX11_silence_199 : decode cX11_silence 199 = .ok (.iload 7, 2) := by decide +kernel
theorem dX11_silence_201 : decode cX11_silence 201 = .ok (.ifCond .eq 13, 3) := by decide +kernel
theorem dX11_silence_204 : decode cX11_silence 204 = .ok (.aload_n 0, 1) := by decide +kernel
theorem dX11_silence_205 : decode cX11_silence 205 = .ok (.getfield 64, 3) := by decide +kernel
theorem dX11_silence_208 : decode cX11_silence 208 = .ok (.iload 9, 2) := by decide +kernel
theorem dX11_silence_210 : decode cX11_silence 210 = .ok (.iaload, 1) := by decide +kernel
theorem dX11_silence_211 : decode cX11_silence 211 = .ok (.goto 10, 3) := by decide +kernel
theorem dX11_silence_214 : decode cX11_silence 214 = .ok (.aload_n 0, 1) := by decide +kernel
theorem dX11_silence_215 : decode cX11_silence 215 = .ok (.getfield 67, 3) := by decide +kernel
theorem dX11_silence_218 : decode cX11_silence 218 = .ok (.iload 9, 2) := by decide +kernel
theorem dX11_silence_220 : decode cX11_silence 220 = .ok (.iaload, 1) := by decide +kernel
theorem dX11_silence_221 : decode cX11_silence 221 = .ok (.aload_n 0, 1) := by decide +kernel
theorem dX11_silence_222 : decode cX11_silence 222 = .ok (.getfield 7, 3) := by decide +kernel
theorem dX11_silence_225 : decode cX11_silence 225 = .ok (.bipush 12, 2) := by decide +kernel
theorem dX11_silence_227 : decode cX11_silence 227 = .ok (.iaload, 1) := by decide +kernel
theorem dX11_silence_228 : decode cX11_silence 228 = .ok (.isub, 1) := by decide +kernel
theorem dX11_silence_229 : decode cX11_silence 229 = .ok (.istore 11, 2) := by decide +kernel
theorem dX11_silence_231 : decode cX11_silence 231 = .ok (.aload_n 0, 1) := by decide +kernel
theorem dX11_silence_232 : decode cX11_silence 232 = .ok (.getfield 70, 3) := by decide +kernel
theorem dX11_silence_235 : decode cX11_silence 235 = .ok (.iload 6, 2) := by decide +kernel
theorem dX11_silence_237 : decode cX11_silence 237 = .ok (.iload 11, 2) := by decide +kernel
theorem dX11_silence_239 : decode cX11_silence 239 = .ok (.iload 10, 2) := by decide +kernel
theorem dX11_silence_241 : decode cX11_silence 241 = .ok (.if_icmp .le 7, 3) := by decide +kernel
theorem dX11_silence_244 : decode cX11_silence 244 = .ok (.iconst 1, 1) := by decide +kernel
theorem dX11_silence_245 : decode cX11_silence 245 = .ok (.goto 4, 3) := by decide +kernel
theorem dX11_silence_248 : decode cX11_silence 248 = .ok (.iconst 0, 1) := by decide +kernel
theorem dX11_silence_249 : decode cX11_silence 249 = .ok (.bastore, 1) := by decide +kernel
theorem dX11_silence_250 : decode cX11_silence 250 = .ok (.aload_n 0, 1) := by decide +kernel
theorem dX11_silence_251 : decode cX11_silence 251 = .ok (.getfield 64, 3) := by decide +kernel
theorem dX11_silence_254 : decode cX11_silence 254 = .ok (.iload 6, 2) := by decide +kernel
theorem dX11_silence_256 : decode cX11_silence 256 = .ok (.aload_n 0, 1) := by decide +kernel
theorem dX11_silence_257 : decode cX11_silence 257 = .ok (.getfield 70, 3) := by decide +kernel
theorem dX11_silence_260 : decode cX11_silence 260 = .ok (.iload 6, 2) := by decide +kernel
theorem dX11_silence_262 : decode cX11_silence 262 = .ok (.baload, 1) := by decide +kernel
theorem dX11_silence_263 : decode cX11_silence 263 = .ok (.ifCond .eq 30, 3) := by decide +kernel
theorem dX11_silence_266 : decode cX11_silence 266 = .ok (.aload_n 0, 1) := by decide +kernel
theorem dX11_silence_267 : decode cX11_silence 267 = .ok (.getfield 64, 3) := by decide +kernel
theorem dX11_silence_270 : decode cX11_silence 270 = .ok (.iload 9, 2) := by decide +kernel
theorem dX11_silence_272 : decode cX11_silence 272 = .ok (.iaload, 1) := by decide +kernel
theorem dX11_silence_273 : decode cX11_silence 273 = .ok (.iload 7, 2) := by decide +kernel
theorem dX11_silence_275 : decode cX11_silence 275 = .ok (.ifCond .eq 13, 3) := by decide +kernel
theorem dX11_silence_278 : decode cX11_silence 278 = .ok (.aload_n 0, 1) := by decide +kernel
theorem dX11_silence_279 : decode cX11_silence 279 = .ok (.getfield 7, 3) := by decide +kernel
theorem dX11_silence_282 : decode cX11_silence 282 = .ok (.bipush 12, 2) := by decide +kernel
theorem dX11_silence_284 : decode cX11_silence 284 = .ok (.iaload, 1) := by decide +kernel
theorem dX11_silence_285 : decode cX11_silence 285 = .ok (.goto 4, 3) := by decide +kernel
theorem dX11_silence_288 : decode cX11_silence 288 = .ok (.iconst 0, 1) := by decide +kernel
theorem dX11_silence_289 : decode cX11_silence 289 = .ok (.isub, 1) := by decide +kernel
theorem dX11_silence_290 : decode cX11_silence 290 = .ok (.goto 18, 3) := by decide +kernel
theorem dX11_silence_293 : decode cX11_silence 293 = .ok (.aload_n 0, 1) := by decide +kernel
theorem dX11_silence_294 : decode cX11_silence 294 = .ok (.getfield 64, 3) := by decide +kernel
theorem dX11_silence_297 : decode cX11_silence 297 = .ok (.iload 8, 2) := by decide +kernel
theorem dX11_silence_299 : decode cX11_silence 299 = .ok (.iaload, 1) := by decide +kernel
theorem dX11_silence_300 : decode cX11_silence 300 = .ok (.aload_n 0, 1) := by decide +kernel
theorem dX11_silence_301 : decode cX11_silence 301 = .ok (.getfield 7, 3) := by decide +kernel
theorem dX11_silence_304 : decode cX11_silence 304 = .ok (.bipush 8, 2) := by decide +kernel
theorem dX11_silence_306 : decode cX11_silence 306 = .ok (.iaload, 1) := by decide +kernel
theorem dX11_silence_307 : decode cX11_silence 307 = .ok (.isub, 1) := by decide +kernel
theorem dX11_silence_308 : decode cX11_silence 308 = .ok (.iastore, 1) := by decide +kernel
theorem dX11_silence_309 : decode cX11_silence 309 = .ok (.aload_n 0, 1) := by decide +kernel
theorem dX11_silence_310 : decode cX11_silence 310 = .ok (.getfield 67, 3) := by decide +kernel
theorem dX11_silence_313 : decode cX11_silence 313 = .ok (.iload 6, 2) := by decide +kernel
theorem dX11_silence_315 : decode cX11_silence 315 = .ok (.aload_n 0, 1) := by decide +kernel
theorem dX11_silence_316 : decode cX11_silence 316 = .ok (.getfield 70, 3) := by decide +kernel
theorem dX11_silence_319 : decode cX11_silence 319 = .ok (.iload 6, 2) := by decide +kernel
theorem dX11_silence_321 : decode cX11_silence 321 = .ok (.baload, 1) := by decide +kernel
theorem dX11_silence_322 : decode cX11_silence 322 = .ok (.ifCond .eq 30, 3) := by decide +kernel
theorem dX11_silence_325 : decode cX11_silence 325 = .ok (.aload_n 0, 1) := by decide +kernel
theorem dX11_silence_326 : decode cX11_silence 326 = .ok (.getfield 67, 3) := by decide +kernel
theorem dX11_silence_329 : decode cX11_silence 329 = .ok (.iload 9, 2) := by decide +kernel
theorem dX11_silence_331 : decode cX11_silence 331 = .ok (.iaload, 1) := by decide +kernel
theorem dX11_silence_332 : decode cX11_silence 332 = .ok (.iload 7, 2) := by decide +kernel
theorem dX11_silence_334 : decode cX11_silence 334 = .ok (.ifCond .eq 7, 3) := by decide +kernel
theorem dX11_silence_337 : decode cX11_silence 337 = .ok (.iconst 0, 1) := by decide +kernel
theorem dX11_silence_338 : decode cX11_silence 338 = .ok (.goto 10, 3) := by decide +kernel
theorem dX11_silence_341 : decode cX11_silence 341 = .ok (.aload_n 0, 1) := by decide +kernel
theorem dX11_silence_342 : decode cX11_silence 342 = .ok (.getfield 7, 3) := by decide +kernel
theorem dX11_silence_345 : decode cX11_silence 345 = .ok (.bipush 12, 2) := by decide +kernel
theorem dX11_silence_347 : decode cX11_silence 347 = .ok (.iaload, 1) := by decide +kernel
theorem dX11_silence_348 : decode cX11_silence 348 = .ok (.isub, 1) := by decide +kernel
theorem dX11_silence_349 : decode cX11_silence 349 = .ok (.goto 18, 3) := by decide +kernel
theorem dX11_silence_352 : decode cX11_silence 352 = .ok (.aload_n 0, 1) := by decide +kernel
theorem dX11_silence_353 : decode cX11_silence 353 = .ok (.getfield 67, 3) := by decide +kernel
theorem dX11_silence_356 : decode cX11_silence 356 = .ok (.iload 8, 2) := by decide +kernel
theorem dX11_silence_358 : decode cX11_silence 358 = .ok (.iaload, 1) := by decide +kernel
theorem dX11_silence_359 : decode cX11_silence 359 = .ok (.aload_n 0, 1) := by decide +kernel
theorem dX11_silence_360 : decode cX11_silence 360 = .ok (.getfield 7, 3) := by decide +kernel
theorem dX11_silence_363 : decode cX11_silence 363 = .ok (.bipush 9, 2) := by decide +kernel
theorem dX11_silence_365 : decode cX11_silence 365 = .ok (.iaload, 1) := by decide +kernel
theorem dX11_silence_366 : decode cX11_silence 366 = .ok (.isub, 1) := by decide +kernel
theorem dX11_silence_367 : decode cX11_silence 367 = .ok (.iastore, 1) := by decide +kernel
theorem dX11_silence_368 : decode cX11_silence 368 = .ok (.iinc 5 1, 3) := by decide +kernel
theorem dX11_silence_371 : decode cX11_silence 371 = .ok (.goto (-319), 3) := by decide +kernel
theorem dX11_silence_374 : decode cX11_silence 374 = .ok (.iinc 4 (-1), 3) := by decide +kernel
theorem dX11_silence_377 : decode cX11_silence 377 = .ok (.goto (-333), 3) := by decide +kernel
theorem dX11_silence_380 : decode cX11_silence 380 = .ok (.iload_n 3, 1) := by decide +kernel
theorem dX11_silence_381 : decode cX11_silence 381 = .ok (.iconst 2, 1) := by decide +kernel
theorem dX11_silence_382 : decode cX11_silence 382 = .ok (.if_icmp .ge 23, 3) := by decide +kernel
theorem dX11_silence_385 : decode cX11_silence 385 = .ok (.iload_n 3, 1) := by decide +kernel
theorem dX11_silence_386 : decode cX11_silence 386 = .ok (.ifCond .ne 12, 3) := by decide +kernel
theorem dX11_silence_389 : decode cX11_silence 389 = .ok (.aload_n 0, 1) := by decide +kernel
theorem dX11_silence_390 : decode cX11_silence 390 = .ok (.getfield 64, 3) := by decide +kernel
theorem dX11_silence_393 : decode cX11_silence 393 = .ok (.iconst 0, 1) := by decide +kernel
theorem dX11_silence_394 : decode cX11_silence 394 = .ok (.iaload, 1) := by decide +kernel
theorem dX11_silence_395 : decode cX11_silence 395 = .ok (.goto 9, 3) := by decide +kernel
theorem dX11_silence_398 : decode cX11_silence 398 = .ok (.aload_n 0, 1) := by decide +kernel
theorem dX11_silence_399 : decode cX11_silence 399 = .ok (.getfield 67, 3) := by decide +kernel
theorem dX11_silence_402 : decode cX11_silence 402 = .ok (.iconst 0, 1) := by decide +kernel
theorem dX11_silence_403 : decode cX11_silence 403 = .ok (.iaload, 1) := by decide +kernel
theorem dX11_silence_404 : decode cX11_silence 404 = .ok (.ireturn, 1) := by decide +kernel
theorem dX11_silence_405 : decode cX11_silence 405 = .ok (.iconst (-1), 1) := by decide +kernel
theorem dX11_silence_406 : decode cX11_silence 406 = .ok (.istore 4, 2) := by decide +kernel
theorem dX11_silence_408 : decode cX11_silence 408 = .ok (.iconst 0, 1) := by decide +kernel
theorem dX11_silence_409 : decode cX11_silence 409 = .ok (.istore 5, 2) := by decide +kernel
theorem dX11_silence_411 : decode cX11_silence 411 = .ok (.iconst 0, 1) := by decide +kernel
theorem dX11_silence_412 : decode cX11_silence 412 = .ok (.istore 6, 2) := by decide +kernel
theorem dX11_silence_414 : decode cX11_silence 414 = .ok (.iload 6, 2) := by decide +kernel
theorem dX11_silence_416 : decode cX11_silence 416 = .ok (.iload_n 1, 1) := by decide +kernel
theorem dX11_silence_417 : decode cX11_silence 417 = .ok (.if_icmp .ge 49, 3) := by decide +kernel
theorem dX11_silence_420 : decode cX11_silence 420 = .ok (.iload 5, 2) := by decide +kernel
theorem dX11_silence_422 : decode cX11_silence 422 = .ok (.iload_n 2, 1) := by decide +kernel
theorem dX11_silence_423 : decode cX11_silence 423 = .ok (.if_icmp .ge 43, 3) := by decide +kernel
theorem dX11_silence_426 : decode cX11_silence 426 = .ok (.aload_n 0, 1) := by decide +kernel
theorem dX11_silence_427 : decode cX11_silence 427 = .ok (.getfield 70, 3) := by decide +kernel
theorem dX11_silence_430 : decode cX11_silence 430 = .ok (.bipush 21, 2) := by decide +kernel
theorem dX11_silence_432 : decode cX11_silence 432 = .ok (.iload 6, 2) := by decide +kernel
theorem dX11_silence_434 : decode cX11_silence 434 = .ok (.imul, 1) := by decide +kernel
theorem dX11_silence_435 : decode cX11_silence 435 = .ok (.iload 5, 2) := by decide +kernel
theorem dX11_silence_437 : decode cX11_silence 437 = .ok (.iadd, 1) := by decide +kernel
theorem dX11_silence_438 : decode cX11_silence 438 = .ok (.baload, 1) := by decide +kernel
theorem dX11_silence_439 : decode cX11_silence 439 = .ok (.ifCond .eq 21, 3) := by decide +kernel
theorem dX11_silence_442 : decode cX11_silence 442 = .ok (.iload 4, 2) := by decide +kernel
theorem dX11_silence_444 : decode cX11_silence 444 = .ok (.iconst (-1), 1) := by decide +kernel
theorem dX11_silence_445 : decode cX11_silence 445 = .ok (.if_icmp .ne 8, 3) := by decide +kernel
theorem dX11_silence_448 : decode cX11_silence 448 = .ok (.iload 6, 2) := by decide +kernel
theorem dX11_silence_450 : decode cX11_silence 450 = .ok (.goto 5, 3) := by decide +kernel
theorem dX11_silence_453 : decode cX11_silence 453 = .ok (.iload 4, 2) := by decide +kernel
theorem dX11_silence_455 : decode cX11_silence 455 = .ok (.istore 4, 2) := by decide +kernel
theorem dX11_silence_457 : decode cX11_silence 457 = .ok (.iinc 5 1, 3) := by decide +kernel
theorem dX11_silence_460 : decode cX11_silence 460 = .ok (.iinc 6 1, 3) := by decide +kernel
theorem dX11_silence_463 : decode cX11_silence 463 = .ok (.goto (-49), 3) := by decide +kernel
theorem dX11_silence_466 : decode cX11_silence 466 = .ok (.iload_n 3, 1) := by decide +kernel
theorem dX11_silence_467 : decode cX11_silence 467 = .ok (.iconst 2, 1) := by decide +kernel
theorem dX11_silence_468 : decode cX11_silence 468 = .ok (.if_icmp .ne 8, 3) := by decide +kernel
theorem dX11_silence_471 : decode cX11_silence 471 = .ok (.iload 4, 2) := by decide +kernel
theorem dX11_silence_473 : decode cX11_silence 473 = .ok (.goto 5, 3) := by decide +kernel
theorem dX11_silence_476 : decode cX11_silence 476 = .ok (.iload 5, 2) := by decide +kernel
theorem dX11_silence_478 : decode cX11_silence 478 = .ok (.ireturn, 1) := by decide +kernel
theorem dX11_mixes_0 : decode cX11_mixes 0 = .ok (.lconst 0, 1) := by decide +kernel
theorem dX11_mixes_1 : decode cX11_mixes 1 = .ok (.lstore 7, 2) := by decide +kernel
theorem dX11_mixes_3 : decode cX11_mixes 3 = .ok (.iconst 0, 1) := by decide +kernel
theorem dX11_mixes_4 : decode cX11_mixes 4 = .ok (.istore 9, 2) := by decide +kernel
theorem dX11_mixes_6 : decode cX11_mixes 6 = .ok (.iload 9, 2) := by decide +kernel
theorem dX11_mixes_8 : decode cX11_mixes 8 = .ok (.bipush 8, 2) := by decide +kernel
theorem dX11_mixes_10 : decode cX11_mixes 10 = .ok (.if_icmp .ge 71, 3) := by decide +kernel
theorem dX11_mixes_13 : decode cX11_mixes 13 = .ok (.lload 7, 2) := by decide +kernel
theorem dX11_mixes_15 : decode cX11_mixes 15 = .ok (.lload_n 2, 1) := by decide +kernel
theorem dX11_mixes_16 : decode cX11_mixes 16 = .ok (.aload_n 0, 1) := by decide +kernel
theorem dX11_mixes_17 : decode cX11_mixes 17 = .ok (.getfield 73, 3) := by decide +kernel
theorem dX11_mixes_20 : decode cX11_mixes 20 = .ok (.bipush 8, 2) := by decide +kernel
theorem dX11_mixes_22 : decode cX11_mixes 22 = .ok (.iload_n 1, 1) := by decide +kernel
theorem dX11_mixes_23 : decode cX11_mixes 23 = .ok (.imul, 1) := by decide +kernel
theorem dX11_mixes_24 : decode cX11_mixes 24 = .ok (.iload 9, 2) := by decide +kernel
theorem dX11_mixes_26 : decode cX11_mixes 26 = .ok (.iadd, 1) := by decide +kernel
theorem dX11_mixes_27 : decode cX11_mixes 27 = .ok (.laload, 1) := by decide +kernel
theorem dX11_mixes_28 : decode cX11_mixes 28 = .ok (.lmul, 1) := by decide +kernel
theorem dX11_mixes_29 : decode cX11_mixes 29 = .ok (.lload 5, 2) := by decide +kernel
theorem dX11_mixes_31 : decode cX11_mixes 31 = .ok (.aload_n 0, 1) := by decide +kernel
theorem dX11_mixes_32 : decode cX11_mixes 32 = .ok (.getfield 73, 3) := by decide +kernel
theorem dX11_mixes_35 : decode cX11_mixes 35 = .ok (.bipush 8, 2) := by decide +kernel
theorem dX11_mixes_37 : decode cX11_mixes 37 = .ok (.iload 4, 2) := by decide +kernel
theorem dX11_mixes_39 : decode cX11_mixes 39 = .ok (.imul, 1) := by decide +kernel
theorem dX11_mixes_40 : decode cX11_mixes 40 = .ok (.iload 9, 2) := by decide +kernel
theorem dX11_mixes_42 : decode cX11_mixes 42 = .ok (.iadd, 1) := by decide +kernel
theorem dX11_mixes_43 : decode cX11_mixes 43 = .ok (.laload, 1) := by decide +kernel
theorem dX11_mixes_44 : decode cX11_mixes 44 = .ok (.lmul, 1) := by decide +kernel
theorem dX11_mixes_45 : decode cX11_mixes 45 = .ok (.ladd, 1) := by decide +kernel
theorem dX11_mixes_46 : decode cX11_mixes 46 = .ok (.ladd, 1) := by decide +kernel
theorem dX11_mixes_47 : decode cX11_mixes 47 = .ok (.lstore 7, 2) := by decide +kernel
theorem dX11_mixes_49 : decode cX11_mixes 49 = .ok (.aload_n 0, 1) := by decide +kernel
theorem dX11_mixes_50 : decode cX11_mixes 50 = .ok (.getfield 73, 3) := by decide +kernel
theorem dX11_mixes_53 : decode cX11_mixes 53 = .ok (.bipush 8, 2) := by decide +kernel
theorem dX11_mixes_55 : decode cX11_mixes 55 = .ok (.iload_n 1, 1) := by decide +kernel
theorem dX11_mixes_56 : decode cX11_mixes 56 = .ok (.imul, 1) := by decide +kernel
theorem dX11_mixes_57 : decode cX11_mixes 57 = .ok (.iload 9, 2) := by decide +kernel
theorem dX11_mixes_59 : decode cX11_mixes 59 = .ok (.iadd, 1) := by decide +kernel
theorem dX11_mixes_60 : decode cX11_mixes 60 = .ok (.lload 7, 2) := by decide +kernel
theorem dX11_mixes_62 : decode cX11_mixes 62 = .ok (.ldc2_w 259, 3) := by decide +kernel
theorem dX11_mixes_65 : decode cX11_mixes 65 = .ok (.lrem, 1) := by decide +kernel
theorem dX11_mixes_66 : decode cX11_mixes 66 = .ok (.lastore, 1) := by decide +kernel
theorem dX11_mixes_67 : decode cX11_mixes 67 = .ok (.lload 7, 2) := by decide +kernel
theorem dX11_mixes_69 : decode cX11_mixes 69 = .ok (.ldc2_w 259, 3) := by decide +kernel
theorem dX11_mixes_72 : decode cX11_mixes 72 = .ok (.ldiv, 1) := by decide +kernel
theorem dX11_mixes_73 : decode cX11_mixes 73 = .ok (.lstore 7, 2) := by decide +kernel
theorem dX11_mixes_75 : decode cX11_mixes 75 = .ok (.iinc 9 1, 3) := by decide +kernel
theorem dX11_mixes_78 : decode cX11_mixes 78 = .ok (.goto (-72), 3) := by decide +kernel
theorem dX11_mixes_81 : decode cX11_mixes 81 = .ok (.return_, 1) := by decide +kernel
theorem dX11_restOf_0 : decode cX11_restOf 0 = .ok (.lconst 0, 1) := by decide +kernel
theorem dX11_restOf_1 : decode cX11_restOf 1 = .ok (.lstore 4, 2) := by decide +kernel
theorem dX11_restOf_3 : decode cX11_restOf 3 = .ok (.bipush 7, 2) := by decide +kernel
theorem dX11_restOf_5 : decode cX11_restOf 5 = .ok (.istore 6, 2) := by decide +kernel
theorem dX11_restOf_7 : decode cX11_restOf 7 = .ok (.iload 6, 2) := by decide +kernel
theorem dX11_restOf_9 : decode cX11_restOf 9 = .ok (.ifCond .lt 32, 3) := by decide +kernel
theorem dX11_restOf_12 : decode cX11_restOf 12 = .ok (.lload 4, 2) := by decide +kernel
theorem dX11_restOf_14 : decode cX11_restOf 14 = .ok (.ldc2_w 259, 3) := by decide +kernel
theorem dX11_restOf_17 : decode cX11_restOf 17 = .ok (.lmul, 1) := by decide +kernel
theorem dX11_restOf_18 : decode cX11_restOf 18 = .ok (.aload_n 0, 1) := by decide +kernel
theorem dX11_restOf_19 : decode cX11_restOf 19 = .ok (.getfield 73, 3) := by decide +kernel
theorem dX11_restOf_22 : decode cX11_restOf 22 = .ok (.bipush 8, 2) := by decide +kernel
theorem dX11_restOf_24 : decode cX11_restOf 24 = .ok (.iload_n 1, 1) := by decide +kernel
theorem dX11_restOf_25 : decode cX11_restOf 25 = .ok (.imul, 1) := by decide +kernel
theorem dX11_restOf_26 : decode cX11_restOf 26 = .ok (.iload 6, 2) := by decide +kernel
theorem dX11_restOf_28 : decode cX11_restOf 28 = .ok (.iadd, 1) := by decide +kernel
theorem dX11_restOf_29 : decode cX11_restOf 29 = .ok (.laload, 1) := by decide +kernel
theorem dX11_restOf_30 : decode cX11_restOf 30 = .ok (.ladd, 1) := by decide +kernel
theorem dX11_restOf_31 : decode cX11_restOf 31 = .ok (.lload_n 2, 1) := by decide +kernel
theorem dX11_restOf_32 : decode cX11_restOf 32 = .ok (.lrem, 1) := by decide +kernel
theorem dX11_restOf_33 : decode cX11_restOf 33 = .ok (.lstore 4, 2) := by decide +kernel
theorem dX11_restOf_35 : decode cX11_restOf 35 = .ok (.iinc 6 (-1), 3) := by decide +kernel
theorem dX11_restOf_38 : decode cX11_restOf 38 = .ok (.goto (-31), 3) := by decide +kernel
theorem dX11_restOf_41 : decode cX11_restOf 41 = .ok (.lload 4, 2) := by decide +kernel
theorem dX11_restOf_43 : decode cX11_restOf 43 = .ok (.lreturn, 1) := by decide +kernel
theorem dX11_shares_0 : decode cX11_shares 0 = .ok (.lconst 0, 1) := by decide +kernel
theorem dX11_shares_1 : decode cX11_shares 1 = .ok (.lstore 4, 2) := by decide +kernel
theorem dX11_shares_3 : decode cX11_shares 3 = .ok (.bipush 7, 2) := by decide +kernel
theorem dX11_shares_5 : decode cX11_shares 5 = .ok (.istore 6, 2) := by decide +kernel
theorem dX11_shares_7 : decode cX11_shares 7 = .ok (.iload 6, 2) := by decide +kernel
theorem dX11_shares_9 : decode cX11_shares 9 = .ok (.ifCond .lt 52, 3) := by decide +kernel
theorem dX11_shares_12 : decode cX11_shares 12 = .ok (.lload 4, 2) := by decide +kernel
theorem dX11_shares_14 : decode cX11_shares 14 = .ok (.ldc2_w 259, 3) := by decide +kernel
theorem dX11_shares_17 : decode cX11_shares 17 = .ok (.lmul, 1) := by decide +kernel
theorem dX11_shares_18 : decode cX11_shares 18 = .ok (.aload_n 0, 1) := by decide +kernel
theorem dX11_shares_19 : decode cX11_shares 19 = .ok (.getfield 73, 3) := by decide +kernel
theorem dX11_shares_22 : decode cX11_shares 22 = .ok (.bipush 8, 2) := by decide +kernel
theorem dX11_shares_24 : decode cX11_shares 24 = .ok (.iload_n 1, 1) := by decide +kernel
theorem dX11_shares_25 : decode cX11_shares 25 = .ok (.imul, 1) := by decide +kernel
theorem dX11_shares_26 : decode cX11_shares 26 = .ok (.iload 6, 2) := by decide +kernel
theorem dX11_shares_28 : decode cX11_shares 28 = .ok (.iadd, 1) := by decide +kernel
theorem dX11_shares_29 : decode cX11_shares 29 = .ok (.laload, 1) := by decide +kernel
theorem dX11_shares_30 : decode cX11_shares 30 = .ok (.ladd, 1) := by decide +kernel
theorem dX11_shares_31 : decode cX11_shares 31 = .ok (.lstore 7, 2) := by decide +kernel
theorem dX11_shares_33 : decode cX11_shares 33 = .ok (.aload_n 0, 1) := by decide +kernel
theorem dX11_shares_34 : decode cX11_shares 34 = .ok (.getfield 73, 3) := by decide +kernel
theorem dX11_shares_37 : decode cX11_shares 37 = .ok (.bipush 8, 2) := by decide +kernel
theorem dX11_shares_39 : decode cX11_shares 39 = .ok (.iload_n 1, 1) := by decide +kernel
theorem dX11_shares_40 : decode cX11_shares 40 = .ok (.imul, 1) := by decide +kernel
theorem dX11_shares_41 : decode cX11_shares 41 = .ok (.iload 6, 2) := by decide +kernel
theorem dX11_shares_43 : decode cX11_shares 43 = .ok (.iadd, 1) := by decide +kernel
theorem dX11_shares_44 : decode cX11_shares 44 = .ok (.lload 7, 2) := by decide +kernel
theorem dX11_shares_46 : decode cX11_shares 46 = .ok (.lload_n 2, 1) := by decide +kernel
theorem dX11_shares_47 : decode cX11_shares 47 = .ok (.ldiv, 1) := by decide +kernel
theorem dX11_shares_48 : decode cX11_shares 48 = .ok (.lastore, 1) := by decide +kernel
theorem dX11_shares_49 : decode cX11_shares 49 = .ok (.lload 7, 2) := by decide +kernel
theorem dX11_shares_51 : decode cX11_shares 51 = .ok (.lload_n 2, 1) := by decide +kernel
theorem dX11_shares_52 : decode cX11_shares 52 = .ok (.lrem, 1) := by decide +kernel
theorem dX11_shares_53 : decode cX11_shares 53 = .ok (.lstore 4, 2) := by decide +kernel
theorem dX11_shares_55 : decode cX11_shares 55 = .ok (.iinc 6 (-1), 3) := by decide +kernel
theorem dX11_shares_58 : decode cX11_shares 58 = .ok (.goto (-51), 3) := by decide +kernel
theorem dX11_shares_61 : decode cX11_shares 61 = .ok (.return_, 1) := by decide +kernel
theorem dX11_limbs_0 : decode cX11_limbs 0 = .ok (.bipush 8, 2) := by decide +kernel
theorem dX11_limbs_2 : decode cX11_limbs 2 = .ok (.istore_n 2, 1) := by decide +kernel
theorem dX11_limbs_3 : decode cX11_limbs 3 = .ok (.iload_n 2, 1) := by decide +kernel
theorem dX11_limbs_4 : decode cX11_limbs 4 = .ok (.ifCond .le 27, 3) := by decide +kernel
theorem dX11_limbs_7 : decode cX11_limbs 7 = .ok (.aload_n 0, 1) := by decide +kernel
theorem dX11_limbs_8 : decode cX11_limbs 8 = .ok (.getfield 73, 3) := by decide +kernel
theorem dX11_limbs_11 : decode cX11_limbs 11 = .ok (.bipush 8, 2) := by decide +kernel
theorem dX11_limbs_13 : decode cX11_limbs 13 = .ok (.iload_n 1, 1) := by decide +kernel
theorem dX11_limbs_14 : decode cX11_limbs 14 = .ok (.imul, 1) := by decide +kernel
theorem dX11_limbs_15 : decode cX11_limbs 15 = .ok (.iload_n 2, 1) := by decide +kernel
theorem dX11_limbs_16 : decode cX11_limbs 16 = .ok (.iadd, 1) := by decide +kernel
theorem dX11_limbs_17 : decode cX11_limbs 17 = .ok (.iconst 1, 1) := by decide +kernel
theorem dX11_limbs_18 : decode cX11_limbs 18 = .ok (.isub, 1) := by decide +kernel
theorem dX11_limbs_19 : decode cX11_limbs 19 = .ok (.laload, 1) := by decide +kernel
theorem dX11_limbs_20 : decode cX11_limbs 20 = .ok (.lconst 0, 1) := by decide +kernel
theorem dX11_limbs_21 : decode cX11_limbs 21 = .ok (.lcmp, 1) := by decide +kernel
theorem dX11_limbs_22 : decode cX11_limbs 22 = .ok (.ifCond .ne 9, 3) := by decide +kernel
theorem dX11_limbs_25 : decode cX11_limbs 25 = .ok (.iinc 2 (-1), 3) := by decide +kernel
theorem dX11_limbs_28 : decode cX11_limbs 28 = .ok (.goto (-25), 3) := by decide +kernel
theorem dX11_limbs_31 : decode cX11_limbs 31 = .ok (.iload_n 2, 1) := by decide +kernel
theorem dX11_limbs_32 : decode cX11_limbs 32 = .ok (.ireturn, 1) := by decide +kernel
theorem dX11_night_0 : decode cX11_night 0 = .ok (.iload_n 1, 1) := by decide +kernel
theorem dX11_night_1 : decode cX11_night 1 = .ok (.i2l, 1) := by decide +kernel
theorem dX11_night_2 : decode cX11_night 2 = .ok (.lconst 0, 1) := by decide +kernel
theorem dX11_night_3 : decode cX11_night 3 = .ok (.ldc2_w 241, 3) := by decide +kernel
theorem dX11_night_6 : decode cX11_night 6 = .ok (.invokestatic 78, 3) := by decide +kernel
theorem dX11_night_9 : decode cX11_night 9 = .ok (.ifCond .eq 27, 3) := by decide +kernel
theorem dX11_night_12 : decode cX11_night 12 = .ok (.iload_n 2, 1) := by decide +kernel
theorem dX11_night_13 : decode cX11_night 13 = .ok (.i2l, 1) := by decide +kernel
theorem dX11_night_14 : decode cX11_night 14 = .ok (.lconst 0, 1) := by decide +kernel
theorem dX11_night_15 : decode cX11_night 15 = .ok (.ldc2_w 143, 3) := by decide +kernel
theorem dX11_night_18 : decode cX11_night 18 = .ok (.invokestatic 78, 3) := by decide +kernel
theorem dX11_night_21 : decode cX11_night 21 = .ok (.ifCond .eq 15, 3) := by decide +kernel
theorem dX11_night_24 : decode cX11_night 24 = .ok (.iload_n 3, 1) := by decide +kernel
theorem dX11_night_25 : decode cX11_night 25 = .ok (.i2l, 1) := by decide +kernel
theorem dX11_night_26 : decode cX11_night 26 = .ok (.lconst 0, 1) := by decide +kernel
theorem dX11_night_27 : decode cX11_night 27 = .ok (.ldc2_w 241, 3) := by decide +kernel
theorem dX11_night_30 : decode cX11_night 30 = .ok (.invokestatic 78, 3) := by decide +kernel
theorem dX11_night_33 : decode cX11_night 33 = .ok (.ifCond .ne 10, 3) := by decide +kernel
theorem dX11_night_36 : decode cX11_night 36 = .ok (.aload_n 0, 1) := by decide +kernel
theorem dX11_night_37 : decode cX11_night 37 = .ok (.bipush (-2), 2) := by decide +kernel
theorem dX11_night_39 : decode cX11_night 39 = .ok (.invokevirtual 88, 3) := by decide +kernel
theorem dX11_night_42 : decode cX11_night 42 = .ok (.ireturn, 1) := by decide +kernel
theorem dX11_night_43 : decode cX11_night 43 = .ok (.iconst 0, 1) := by decide +kernel
theorem dX11_night_44 : decode cX11_night 44 = .ok (.istore 4, 2) := by decide +kernel
theorem dX11_night_46 : decode cX11_night 46 = .ok (.iload 4, 2) := by decide +kernel
theorem dX11_night_48 : decode cX11_night 48 = .ok (.sipush 512, 3) := by decide +kernel
theorem dX11_night_51 : decode cX11_night 51 = .ok (.if_icmp .ge 17, 3) := by decide +kernel
theorem dX11_night_54 : decode cX11_night 54 = .ok (.aload_n 0, 1) := by decide +kernel
theorem dX11_night_55 : decode cX11_night 55 = .ok (.getfield 73, 3) := by decide +kernel
theorem dX11_night_58 : decode cX11_night 58 = .ok (.iload 4, 2) := by decide +kernel
theorem dX11_night_60 : decode cX11_night 60 = .ok (.lconst 0, 1) := by decide +kernel
theorem dX11_night_61 : decode cX11_night 61 = .ok (.lastore, 1) := by decide +kernel
theorem dX11_night_62 : decode cX11_night 62 = .ok (.iinc 4 1, 3) := by decide +kernel
theorem dX11_night_65 : decode cX11_night 65 = .ok (.goto (-19), 3) := by decide +kernel
theorem dX11_night_68 : decode cX11_night 68 = .ok (.aload_n 0, 1) := by decide +kernel
theorem dX11_night_69 : decode cX11_night 69 = .ok (.getfield 73, 3) := by decide +kernel
theorem dX11_night_72 : decode cX11_night 72 = .ok (.iconst 0, 1) := by decide +kernel
theorem dX11_night_73 : decode cX11_night 73 = .ok (.lconst 1, 1) := by decide +kernel
theorem dX11_night_74 : decode cX11_night 74 = .ok (.lastore, 1) := by decide +kernel
theorem dX11_night_75 : decode cX11_night 75 = .ok (.aload_n 0, 1) := by decide +kernel
theorem dX11_night_76 : decode cX11_night 76 = .ok (.getfield 73, 3) := by decide +kernel
theorem dX11_night_79 : decode cX11_night 79 = .ok (.sipush 496, 3) := by decide +kernel
theorem dX11_night_82 : decode cX11_night 82 = .ok (.lconst 1, 1) := by decide +kernel
theorem dX11_night_83 : decode cX11_night 83 = .ok (.lastore, 1) := by decide +kernel
theorem dX11_night_84 : decode cX11_night 84 = .ok (.iconst 1, 1) := by decide +kernel
theorem dX11_night_85 : decode cX11_night 85 = .ok (.istore 4, 2) := by decide +kernel
theorem dX11_night_87 : decode cX11_night 87 = .ok (.iload 4, 2) := by decide +kernel
theorem dX11_night_89 : decode cX11_night 89 = .ok (.iload_n 1, 1) := by decide +kernel
theorem dX11_night_90 : decode cX11_night 90 = .ok (.if_icmp .gt 63, 3) := by decide +kernel
theorem dX11_night_93 : decode cX11_night 93 = .ok (.iload 4, 2) := by decide +kernel
theorem dX11_night_95 : decode cX11_night 95 = .ok (.istore 5, 2) := by decide +kernel
theorem dX11_night_97 : decode cX11_night 97 = .ok (.iload 5, 2) := by decide +kernel
theorem dX11_night_99 : decode cX11_night 99 = .ok (.ifCond .lt 36, 3) := by decide +kernel
theorem dX11_night_102 : decode cX11_night 102 = .ok (.aload_n 0, 1) := by decide +kernel
theorem dX11_night_103 : decode cX11_night 103 = .ok (.iload 5, 2) := by decide +kernel
theorem dX11_night_105 : decode cX11_night 105 = .ok (.bipush 10, 2) := by decide +kernel
theorem dX11_night_107 : decode cX11_night 107 = .ok (.iload_n 2, 1) := by decide +kernel
theorem dX11_night_108 : decode cX11_night 108 = .ok (.isub, 1) := by decide +kernel
theorem dX11_night_109 : decode cX11_night 109 = .ok (.i2l, 1) := by decide +kernel
theorem dX11_night_110 : decode cX11_night 110 = .ok (.iload 5, 2) := by decide +kernel
theorem dX11_night_112 : decode cX11_night 112 = .ok (.ifCond .ne 8, 3) := by decide +kernel
theorem dX11_night_115 : decode cX11_night 115 = .ok (.bipush 63, 2) := by decide +kernel
theorem dX11_night_117 : decode cX11_night 117 = .ok (.goto 7, 3) := by decide +kernel
theorem dX11_night_120 : decode cX11_night 120 = .ok (.iload 5, 2) := by decide +kernel
theorem dX11_night_122 : decode cX11_night 122 = .ok (.iconst 1, 1) := by decide +kernel
theorem dX11_night_123 : decode cX11_night 123 = .ok (.isub, 1) := by decide +kernel
theorem dX11_night_124 : decode cX11_night 124 = .ok (.iload_n 2, 1) := by decide +kernel
theorem dX11_night_125 : decode cX11_night 125 = .ok (.i2l, 1) := by decide +kernel
theorem dX11_night_126 : decode cX11_night 126 = .ok (.invokevirtual 261, 3) := by decide +kernel
theorem dX11_night_129 : decode cX11_night 129 = .ok (.iinc 5 (-1), 3) := by decide +kernel
theorem dX11_night_132 : decode cX11_night 132 = .ok (.goto (-35), 3) := by decide +kernel
theorem dX11_night_135 : decode cX11_night 135 = .ok (.aload_n 0, 1) := by decide +kernel
theorem dX11_night_136 : decode cX11_night 136 = .ok (.bipush 62, 2) := by decide +kernel
theorem dX11_night_138 : decode cX11_night 138 = .ok (.ldc2_w 143, 3) := by decide +kernel
theorem dX11_night_141 : decode cX11_night 141 = .ok (.bipush 63, 2) := by decide +kernel
theorem dX11_night_143 : decode cX11_night 143 = .ok (.lconst 0, 1) := by decide +kernel
theorem dX11_night_144 : decode cX11_night 144 = .ok (.invokevirtual 261, 3) := by decide +kernel
theorem dX11_night_147 : decode cX11_night 147 = .ok (.iinc 4 1, 3) := by decide +kernel
theorem dX11_night_150 : decode cX11_night 150 = .ok (.goto (-63), 3) := by decide +kernel
theorem dX11_night_153 : decode cX11_night 153 = .ok (.iload_n 3, 1) := by decide +kernel
theorem dX11_night_154 : decode cX11_night 154 = .ok (.istore 4, 2) := by decide +kernel
theorem dX11_night_156 : decode cX11_night 156 = .ok (.iload 4, 2) := by decide +kernel
theorem dX11_night_158 : decode cX11_night 158 = .ok (.iload_n 1, 1) := by decide +kernel
theorem dX11_night_159 : decode cX11_night 159 = .ok (.if_icmp .gt 19, 3) := by decide +kernel
theorem dX11_night_162 : decode cX11_night 162 = .ok (.aload_n 0, 1) := by decide +kernel
theorem dX11_night_163 : decode cX11_night 163 = .ok (.bipush 61, 2) := by decide +kernel
theorem dX11_night_165 : decode cX11_night 165 = .ok (.lconst 1, 1) := by decide +kernel
theorem dX11_night_166 : decode cX11_night 166 = .ok (.iload 4, 2) := by decide +kernel
theorem dX11_night_168 : decode cX11_night 168 = .ok (.lconst 1, 1) := by decide +kernel
theorem dX11_night_169 : decode cX11_night 169 = .ok (.invokevirtual 261, 3) := by decide +kernel
theorem dX11_night_172 : decode cX11_night 172 = .ok (.iinc 4 1, 3) := by decide +kernel
theorem dX11_night_175 : decode cX11_night 175 = .ok (.goto (-19), 3) := by decide +kernel
theorem dX11_night_178 : decode cX11_night 178 = .ok (.aload_n 0, 1) := by decide +kernel
theorem dX11_night_179 : decode cX11_night 179 = .ok (.bipush 61, 2) := by decide +kernel
theorem dX11_night_181 : decode cX11_night 181 = .ok (.invokevirtual 265, 3) := by decide +kernel
theorem dX11_night_184 : decode cX11_night 184 = .ok (.ifCond .ne 22, 3) := by decide +kernel
theorem dX11_night_187 : decode cX11_night 187 = .ok (.aload_n 0, 1) := by decide +kernel
theorem dX11_night_188 : decode cX11_night 188 = .ok (.bipush 62, 2) := by decide +kernel
theorem dX11_night_190 : decode cX11_night 190 = .ok (.lconst 0, 1) := by decide +kernel
theorem dX11_night_191 : decode cX11_night 191 = .ok (.bipush 63, 2) := by decide +kernel
theorem dX11_night_193 : decode cX11_night 193 = .ok (.lconst 0, 1) := by decide +kernel
theorem dX11_night_194 : decode cX11_night 194 = .ok (.invokevirtual 261, 3) := by decide +kernel
theorem dX11_night_197 : decode cX11_night 197 = .ok (.aload_n 0, 1) := by decide +kernel
theorem dX11_night_198 : decode cX11_night 198 = .ok (.getfield 73, 3) := by decide +kernel
theorem dX11_night_201 : decode cX11_night 201 = .ok (.sipush 496, 3) := by decide +kernel
theorem dX11_night_204 : decode cX11_night 204 = .ok (.lconst 1, 1) := by decide +kernel
theorem dX11_night_205 : decode cX11_night 205 = .ok (.lastore, 1) := by decide +kernel
theorem dX11_night_206 : decode cX11_night 206 = .ok (.ldc2_w 100, 3) := by decide +kernel
theorem dX11_night_209 : decode cX11_night 209 = .ok (.lstore 4, 2) := by decide +kernel
theorem dX11_night_211 : decode cX11_night 211 = .ok (.lload 4, 2) := by decide +kernel
theorem dX11_night_213 : decode cX11_night 213 = .ok (.ldc2_w 268, 3) := by decide +kernel
theorem dX11_night_216 : decode cX11_night 216 = .ok (.lcmp, 1) := by decide +kernel
theorem dX11_night_217 : decode cX11_night 217 = .ok (.ifCond .ge 68, 3) := by decide +kernel
theorem dX11_night_220 : decode cX11_night 220 = .ok (.aload_n 0, 1) := by decide +kernel
theorem dX11_night_221 : decode cX11_night 221 = .ok (.bipush 61, 2) := by decide +kernel
theorem dX11_night_223 : decode cX11_night 223 = .ok (.invokevirtual 265, 3) := by decide +kernel
theorem dX11_night_226 : decode cX11_night 226 = .ok (.ifCond .le 48, 3) := by decide +kernel
theorem dX11_night_229 : decode cX11_night 229 = .ok (.aload_n 0, 1) := by decide +kernel
theorem dX11_night_230 : decode cX11_night 230 = .ok (.bipush 61, 2) := by decide +kernel
theorem dX11_night_232 : decode cX11_night 232 = .ok (.lload 4, 2) := by decide +kernel
theorem dX11_night_234 : decode cX11_night 234 = .ok (.invokevirtual 270, 3) := by decide +kernel
theorem dX11_night_237 : decode cX11_night 237 = .ok (.lconst 0, 1) := by decide +kernel
theorem dX11_night_238 : decode cX11_night 238 = .ok (.lcmp, 1) := by decide +kernel
theorem dX11_night_239 : decode cX11_night 239 = .ok (.ifCond .ne 35, 3) := by decide +kernel
theorem dX11_night_242 : decode cX11_night 242 = .ok (.aload_n 0, 1) := by decide +kernel
theorem dX11_night_243 : decode cX11_night 243 = .ok (.bipush 62, 2) := by decide +kernel
theorem dX11_night_245 : decode cX11_night 245 = .ok (.lload 4, 2) := by decide +kernel
theorem dX11_night_247 : decode cX11_night 247 = .ok (.invokevirtual 270, 3) := by decide +kernel
theorem dX11_night_250 : decode cX11_night 250 = .ok (.lconst 0, 1) := by decide +kernel
theorem dX11_night_251 : decode cX11_night 251 = .ok (.lcmp, 1) := by decide +kernel
theorem dX11_night_252 : decode cX11_night 252 = .ok (.ifCond .ne 22, 3) := by decide +kernel
theorem dX11_night_255 : decode cX11_night 255 = .ok (.aload_n 0, 1) := by decide +kernel
theorem dX11_night_256 : decode cX11_night 256 = .ok (.bipush 61, 2) := by decide +kernel
theorem dX11_night_258 : decode cX11_night 258 = .ok (.lload 4, 2) := by decide +kernel
theorem dX11_night_260 : decode cX11_night 260 = .ok (.invokevirtual 274, 3) := by decide +kernel
theorem dX11_night_263 : decode cX11_night 263 = .ok (.aload_n 0, 1) := by decide +kernel
theorem dX11_night_264 : decode cX11_night 264 = .ok (.bipush 62, 2) := by decide +kernel
theorem dX11_night_266 : decode cX11_night 266 = .ok (.lload 4, 2) := by decide +kernel
theorem dX11_night_268 : decode cX11_night 268 = .ok (.invokevirtual 274, 3) := by decide +kernel
theorem dX11_night_271 : decode cX11_night 271 = .ok (.goto (-51), 3) := by decide +kernel
theorem dX11_night_274 : decode cX11_night 274 = .ok (.lload 4, 2) := by decide +kernel
theorem dX11_night_276 : decode cX11_night 276 = .ok (.ldc2_w 257, 3) := by decide +kernel
theorem dX11_night_279 : decode cX11_night 279 = .ok (.ladd, 1) := by decide +kernel
theorem dX11_night_280 : decode cX11_night 280 = .ok (.lstore 4, 2) := by decide +kernel
theorem dX11_night_282 : decode cX11_night 282 = .ok (.goto (-71), 3) := by decide +kernel
theorem dX11_night_285 : decode cX11_night 285 = .ok (.aload_n 0, 1) := by decide +kernel
theorem dX11_night_286 : decode cX11_night 286 = .ok (.aload_n 0, 1) := by decide +kernel
theorem dX11_night_287 : decode cX11_night 287 = .ok (.bipush 61, 2) := by decide +kernel
theorem dX11_night_289 : decode cX11_night 289 = .ok (.invokevirtual 265, 3) := by decide +kernel
theorem dX11_night_292 : decode cX11_night 292 = .ok (.putfield 278, 3) := by decide +kernel
theorem dX11_night_295 : decode cX11_night 295 = .ok (.aload_n 0, 1) := by decide +kernel
theorem dX11_night_296 : decode cX11_night 296 = .ok (.aload_n 0, 1) := by decide +kernel
theorem dX11_night_297 : decode cX11_night 297 = .ok (.bipush 62, 2) := by decide +kernel
theorem dX11_night_299 : decode cX11_night 299 = .ok (.invokevirtual 265, 3) := by decide +kernel
theorem dX11_night_302 : decode cX11_night 302 = .ok (.putfield 23, 3) := by decide +kernel
theorem dX11_night_305 : decode cX11_night 305 = .ok (.aload_n 0, 1) := by decide +kernel
theorem dX11_night_306 : decode cX11_night 306 = .ok (.aload_n 0, 1) := by decide +kernel
theorem dX11_night_307 : decode cX11_night 307 = .ok (.getfield 278, 3) := by decide +kernel
theorem dX11_night_310 : decode cX11_night 310 = .ok (.ifCond .ne 7, 3) := by decide +kernel
theorem dX11_night_313 : decode cX11_night 313 = .ok (.iconst 0, 1) := by decide +kernel
theorem dX11_night_314 : decode cX11_night 314 = .ok (.goto 4, 3) := by decide +kernel
theorem dX11_night_317 : decode cX11_night 317 = .ok (.iconst 1, 1) := by decide +kernel
theorem dX11_night_318 : decode cX11_night 318 = .ok (.putfield 281, 3) := by decide +kernel
theorem dX11_night_321 : decode cX11_night 321 = .ok (.iconst 0, 1) := by decide +kernel
theorem dX11_night_322 : decode cX11_night 322 = .ok (.istore 4, 2) := by decide +kernel
theorem dX11_night_324 : decode cX11_night 324 = .ok (.iload 4, 2) := by decide +kernel
theorem dX11_night_326 : decode cX11_night 326 = .ok (.bipush 8, 2) := by decide +kernel
theorem dX11_night_328 : decode cX11_night 328 = .ok (.if_icmp .ge 47, 3) := by decide +kernel
theorem dX11_night_331 : decode cX11_night 331 = .ok (.aload_n 0, 1) := by decide +kernel
theorem dX11_night_332 : decode cX11_night 332 = .ok (.getfield 27, 3) := by decide +kernel
theorem dX11_night_335 : decode cX11_night 335 = .ok (.iload 4, 2) := by decide +kernel
theorem dX11_night_337 : decode cX11_night 337 = .ok (.aload_n 0, 1) := by decide +kernel
theorem dX11_night_338 : decode cX11_night 338 = .ok (.getfield 73, 3) := by decide +kernel
theorem dX11_night_341 : decode cX11_night 341 = .ok (.sipush 488, 3) := by decide +kernel
theorem dX11_night_344 : decode cX11_night 344 = .ok (.iload 4, 2) := by decide +kernel
theorem dX11_night_346 : decode cX11_night 346 = .ok (.iadd, 1) := by decide +kernel
theorem dX11_night_347 : decode cX11_night 347 = .ok (.laload, 1) := by decide +kernel
theorem dX11_night_348 : decode cX11_night 348 = .ok (.l2i, 1) := by decide +kernel
theorem dX11_night_349 : decode cX11_night 349 = .ok (.iastore, 1) := by decide +kernel
theorem dX11_night_350 : decode cX11_night 350 = .ok (.aload_n 0, 1) := by decide +kernel
theorem dX11_night_351 : decode cX11_night 351 = .ok (.getfield 30, 3) := by decide +kernel
theorem dX11_night_354 : decode cX11_night 354 = .ok (.iload 4, 2) := by decide +kernel
theorem dX11_night_356 : decode cX11_night 356 = .ok (.aload_n 0, 1) := by decide +kernel
theorem dX11_night_357 : decode cX11_night 357 = .ok (.getfield 73, 3) := by decide +kernel
theorem dX11_night_360 : decode cX11_night 360 = .ok (.sipush 496, 3) := by decide +kernel
theorem dX11_night_363 : decode cX11_night 363 = .ok (.iload 4, 2) := by decide +kernel
theorem dX11_night_365 : decode cX11_night 365 = .ok (.iadd, 1) := by decide +kernel
theorem dX11_night_366 : decode cX11_night 366 = .ok (.laload, 1) := by decide +kernel
theorem dX11_night_367 : decode cX11_night 367 = .ok (.l2i, 1) := by decide +kernel
theorem dX11_night_368 : decode cX11_night 368 = .ok (.iastore, 1) := by decide +kernel
theorem dX11_night_369 : decode cX11_night 369 = .ok (.iinc 4 1, 3) := by decide +kernel
theorem dX11_night_372 : decode cX11_night 372 = .ok (.goto (-48), 3) := by decide +kernel
theorem dX11_night_375 : decode cX11_night 375 = .ok (.iconst 1, 1) := by decide +kernel
theorem dX11_night_376 : decode cX11_night 376 = .ok (.ireturn, 1) := by decide +kernel
theorem dX11_who_0 : decode cX11_who 0 = .ok (.iload_n 1, 1) := by decide +kernel
theorem dX11_who_1 : decode cX11_who 1 = .ok (.i2l, 1) := by decide +kernel
theorem dX11_who_2 : decode cX11_who 2 = .ok (.lconst 0, 1) := by decide +kernel
theorem dX11_who_3 : decode cX11_who 3 = .ok (.ldc2_w 100, 3) := by decide +kernel
theorem dX11_who_6 : decode cX11_who 6 = .ok (.invokestatic 78, 3) := by decide +kernel
theorem dX11_who_9 : decode cX11_who 9 = .ok (.ifCond .ne 10, 3) := by decide +kernel
theorem dX11_who_12 : decode cX11_who 12 = .ok (.aload_n 0, 1) := by decide +kernel
theorem dX11_who_13 : decode cX11_who 13 = .ok (.bipush (-2), 2) := by decide +kernel
theorem dX11_who_15 : decode cX11_who 15 = .ok (.invokevirtual 88, 3) := by decide +kernel
theorem dX11_who_18 : decode cX11_who 18 = .ok (.ireturn, 1) := by decide +kernel
theorem dX11_who_19 : decode cX11_who 19 = .ok (.iconst 0, 1) := by decide +kernel
theorem dX11_who_20 : decode cX11_who 20 = .ok (.istore_n 2, 1) := by decide +kernel
theorem dX11_who_21 : decode cX11_who 21 = .ok (.iconst 0, 1) := by decide +kernel
theorem dX11_who_22 : decode cX11_who 22 = .ok (.istore_n 3, 1) := by decide +kernel
theorem dX11_who_23 : decode cX11_who 23 = .ok (.iload_n 3, 1) := by decide +kernel
theorem dX11_who_24 : decode cX11_who 24 = .ok (.aload_n 0, 1) := by decide +kernel
theorem dX11_who_25 : decode cX11_who 25 = .ok (.getfield 7, 3) := by decide +kernel
theorem dX11_who_28 : decode cX11_who 28 = .ok (.iconst 3, 1) := by decide +kernel
theorem dX11_who_29 : decode cX11_who 29 = .ok (.iaload, 1) := by decide +kernel
theorem dX11_who_30 : decode cX11_who 30 = .ok (.if_icmp .ge 31, 3) := by decide +kernel
theorem dX11_who_33 : decode cX11_who 33 = .ok (.iload_n 2, 1) := by decide +kernel
theorem dX11_who_34 : decode cX11_who 34 = .ok (.aload_n 0, 1) := by decide +kernel
theorem dX11_who_35 : decode cX11_who 35 = .ok (.getfield 7, 3) := by decide +kernel
theorem dX11_who_38 : decode cX11_who 38 = .ok (.bipush 18, 2) := by decide +kernel
theorem dX11_who_40 : decode cX11_who 40 = .ok (.iload_n 3, 1) := by decide +kernel
theorem dX11_who_41 : decode cX11_who 41 = .ok (.iadd, 1) := by decide +kernel
theorem dX11_who_42 : decode cX11_who 42 = .ok (.iaload, 1) := by decide +kernel
theorem dX11_who_43 : decode cX11_who 43 = .ok (.ifCond .ne 9, 3) := by decide +kernel
theorem dX11_who_46 : decode cX11_who 46 = .ok (.iconst 1, 1) := by decide +kernel
theorem dX11_who_47 : decode cX11_who 47 = .ok (.iload_n 3, 1) := by decide +kernel
theorem dX11_who_48 : decode cX11_who 48 = .ok (.ishl, 1) := by decide +kernel
theorem dX11_who_49 : decode cX11_who 49 = .ok (.goto 4, 3) := by decide +kernel
theorem dX11_who_52 : decode cX11_who 52 = .ok (.iconst 0, 1) := by decide +kernel
theorem dX11_who_53 : decode cX11_who 53 = .ok (.ior, 1) := by decide +kernel
theorem dX11_who_54 : decode cX11_who 54 = .ok (.istore_n 2, 1) := by decide +kernel
theorem dX11_who_55 : decode cX11_who 55 = .ok (.iinc 3 1, 3) := by decide +kernel
theorem dX11_who_58 : decode cX11_who 58 = .ok (.goto (-35), 3) := by decide +kernel
theorem dX11_who_61 : decode cX11_who 61 = .ok (.iconst 0, 1) := by decide +kernel
theorem dX11_who_62 : decode cX11_who 62 = .ok (.istore_n 3, 1) := by decide +kernel
theorem dX11_who_63 : decode cX11_who 63 = .ok (.iconst (-1), 1) := by decide +kernel
theorem dX11_who_64 : decode cX11_who 64 = .ok (.istore 4, 2) := by decide +kernel
theorem dX11_who_66 : decode cX11_who 66 = .ok (.iload_n 2, 1) := by decide +kernel
theorem dX11_who_67 : decode cX11_who 67 = .ok (.istore 5, 2) := by decide +kernel
theorem dX11_who_69 : decode cX11_who 69 = .ok (.iconst 0, 1) := by decide +kernel
theorem dX11_who_70 : decode cX11_who 70 = .ok (.istore 6, 2) := by decide +kernel
theorem dX11_who_72 : decode cX11_who 72 = .ok (.iload 6, 2) := by decide +kernel
theorem dX11_who_74 : decode cX11_who 74 = .ok (.bipush 32, 2) := by decide +kernel
theorem dX11_who_76 : decode cX11_who 76 = .ok (.if_icmp .ge 121, 3) := by decide +kernel
theorem dX11_who_79 : decode cX11_who 79 = .ok (.iload 6, 2) := by decide +kernel
theorem dX11_who_81 : decode cX11_who 81 = .ok (.iload_n 2, 1) := by decide +kernel
theorem dX11_who_82 : decode cX11_who 82 = .ok (.iconst (-1), 1) := by decide +kernel
theorem dX11_who_83 : decode cX11_who 83 = .ok (.ixor, 1) := by decide +kernel
theorem dX11_who_84 : decode cX11_who 84 = .ok (.iand, 1) := by decide +kernel
theorem dX11_who_85 : decode cX11_who 85 = .ok (.ifCond .eq 6, 3) := by decide +kernel
theorem dX11_who_88 : decode cX11_who 88 = .ok (.goto 103, 3) := by decide +kernel
theorem dX11_who_91 : decode cX11_who 91 = .ok (.aload_n 0, 1) := by decide +kernel
theorem dX11_who_92 : decode cX11_who 92 = .ok (.iload 6, 2) := by decide +kernel
theorem dX11_who_94 : decode cX11_who 94 = .ok (.invokevirtual 232, 3) := by decide +kernel
theorem dX11_who_97 : decode cX11_who 97 = .ok (.iconst 1, 1) := by decide +kernel
theorem dX11_who_98 : decode cX11_who 98 = .ok (.istore 7, 2) := by decide +kernel
theorem dX11_who_100 : decode cX11_who 100 = .ok (.iconst 0, 1) := by decide +kernel
theorem dX11_who_101 : decode cX11_who 101 = .ok (.istore 8, 2) := by decide +kernel
theorem dX11_who_103 : decode cX11_who 103 = .ok (.iload 8, 2) := by decide +kernel
theorem dX11_who_105 : decode cX11_who 105 = .ok (.aload_n 0, 1) := by decide +kernel
theorem dX11_who_106 : decode cX11_who 106 = .ok (.getfield 7, 3) := by decide +kernel
theorem dX11_who_109 : decode cX11_who 109 = .ok (.bipush 6, 2) := by decide +kernel
theorem dX11_who_111 : decode cX11_who 111 = .ok (.iaload, 1) := by decide +kernel
theorem dX11_who_112 : decode cX11_who 112 = .ok (.if_icmp .ge 49, 3) := by decide +kernel
theorem dX11_who_115 : decode cX11_who 115 = .ok (.iload 7, 2) := by decide +kernel
theorem dX11_who_117 : decode cX11_who 117 = .ok (.ifCond .eq 35, 3) := by decide +kernel
theorem dX11_who_120 : decode cX11_who 120 = .ok (.aload_n 0, 1) := by decide +kernel
theorem dX11_who_121 : decode cX11_who 121 = .ok (.getfield 52, 3) := by decide +kernel
theorem dX11_who_124 : decode cX11_who 124 = .ok (.aload_n 0, 1) := by decide +kernel
theorem dX11_who_125 : decode cX11_who 125 = .ok (.getfield 7, 3) := by decide +kernel
theorem dX11_who_128 : decode cX11_who 128 = .ok (.bipush 95, 2) := by decide +kernel
theorem dX11_who_130 : decode cX11_who 130 = .ok (.iload 8, 2) := by decide +kernel
theorem dX11_who_132 : decode cX11_who 132 = .ok (.iadd, 1) := by decide +kernel
theorem dX11_who_133 : decode cX11_who 133 = .ok (.iaload, 1) := by decide +kernel
theorem dX11_who_134 : decode cX11_who 134 = .ok (.iaload, 1) := by decide +kernel
theorem dX11_who_135 : decode cX11_who 135 = .ok (.aload_n 0, 1) := by decide +kernel
theorem dX11_who_136 : decode cX11_who 136 = .ok (.getfield 7, 3) := by decide +kernel
theorem dX11_who_139 : decode cX11_who 139 = .ok (.bipush 105, 2) := by decide +kernel
theorem dX11_who_141 : decode cX11_who 141 = .ok (.iload 8, 2) := by decide +kernel
theorem dX11_who_143 : decode cX11_who 143 = .ok (.iadd, 1) := by decide +kernel
theorem dX11_who_144 : decode cX11_who 144 = .ok (.iaload, 1) := by decide +kernel
theorem dX11_who_145 : decode cX11_who 145 = .ok (.if_icmp .ne 7, 3) := by decide +kernel
theorem dX11_who_148 : decode cX11_who 148 = .ok (.iconst 1, 1) := by decide +kernel
theorem dX11_who_149 : decode cX11_who 149 = .ok (.goto 4, 3) := by decide +kernel
theorem dX11_who_152 : decode cX11_who 152 = .ok (.iconst 0, 1) := by decide +kernel
theorem dX11_who_153 : decode cX11_who 153 = .ok (.istore 7, 2) := by decide +kernel
theorem dX11_who_155 : decode cX11_who 155 = .ok (.iinc 8 1, 3) := by decide +kernel
theorem dX11_who_158 : decode cX11_who 158 = .ok (.goto (-55), 3) := by decide +kernel
theorem dX11_who_161 : decode cX11_who 161 = .ok (.iload 7, 2) := by decide +kernel
theorem dX11_who_163 : decode cX11_who 163 = .ok (.ifCond .eq 28, 3) := by decide +kernel
theorem dX11_who_166 : decode cX11_who 166 = .ok (.iinc 3 1, 3) := by decide +kernel
theorem dX11_who_169 : decode cX11_who 169 = .ok (.iload 4, 2) := by decide +kernel
theorem dX11_who_171 : decode cX11_who 171 = .ok (.iconst (-1), 1) := by decide +kernel
theorem dX11_who_172 : decode cX11_who 172 = .ok (.if_icmp .ne 8, 3) := by decide +kernel
theorem dX11_who_175 : decode cX11_who 175 = .ok (.iload 6, 2) := by decide +kernel
theorem dX11_who_177 : decode cX11_who 177 = .ok (.goto 5, 3) := by decide +kernel
theorem dX11_who_180 : decode cX11_who 180 = .ok (.iload 4, 2) := by decide +kernel
theorem dX11_who_182 : decode cX11_who 182 = .ok (.istore 4, 2) := by decide +kernel
theorem dX11_who_184 : decode cX11_who 184 = .ok (.iload 5, 2) := by decide +kernel
theorem dX11_who_186 : decode cX11_who 186 = .ok (.iload 6, 2) := by decide +kernel
theorem dX11_who_188 : decode cX11_who 188 = .ok (.iand, 1) := by decide +kernel
theorem dX11_who_189 : decode cX11_who 189 = .ok (.istore 5, 2) := by decide +kernel
theorem dX11_who_191 : decode cX11_who 191 = .ok (.iinc 6 1, 3) := by decide +kernel
theorem dX11_who_194 : decode cX11_who 194 = .ok (.goto (-122), 3) := by decide +kernel
theorem dX11_who_197 : decode cX11_who 197 = .ok (.iload_n 1, 1) := by decide +kernel
theorem dX11_who_198 : decode cX11_who 198 = .ok (.ifCond .ne 7, 3) := by decide +kernel
theorem dX11_who_201 : decode cX11_who 201 = .ok (.iload_n 3, 1) := by decide +kernel
theorem dX11_who_202 : decode cX11_who 202 = .ok (.goto 23, 3) := by decide +kernel
theorem dX11_who_205 : decode cX11_who 205 = .ok (.iload_n 3, 1) := by decide +kernel
theorem dX11_who_206 : decode cX11_who 206 = .ok (.ifCond .ne 7, 3) := by decide +kernel
theorem dX11_who_209 : decode cX11_who 209 = .ok (.iconst (-1), 1) := by decide +kernel
theorem dX11_who_210 : decode cX11_who 210 = .ok (.goto 15, 3) := by decide +kernel
theorem dX11_who_213 : decode cX11_who 213 = .ok (.iload_n 1, 1) := by decide +kernel
theorem dX11_who_214 : decode cX11_who 214 = .ok (.iconst 1, 1) := by decide +kernel
theorem dX11_who_215 : decode cX11_who 215 = .ok (.if_icmp .ne 8, 3) := by decide +kernel
theorem dX11_who_218 : decode cX11_who 218 = .ok (.iload 4, 2) := by decide +kernel
theorem dX11_who_220 : decode cX11_who 220 = .ok (.goto 5, 3) := by decide +kernel
theorem dX11_who_223 : decode cX11_who 223 = .ok (.iload 5, 2) := by decide +kernel
theorem dX11_who_225 : decode cX11_who 225 = .ok (.ireturn, 1) := by decide +kernel
theorem dX11_sign_0 : decode cX11_sign 0 = .ok (.iload_n 1, 1) := by decide +kernel
theorem dX11_sign_1 : decode cX11_sign 1 = .ok (.ifCond .ne 10, 3) := by decide +kernel
theorem dX11_sign_4 : decode cX11_sign 4 = .ok (.aload_n 0, 1) := by decide +kernel
theorem dX11_sign_5 : decode cX11_sign 5 = .ok (.getfield 281, 3) := by decide +kernel
theorem dX11_sign_8 : decode cX11_sign 8 = .ok (.goto 33, 3) := by decide +kernel
theorem dX11_sign_11 : decode cX11_sign 11 = .ok (.iload_n 1, 1) := by decide +kernel
theorem dX11_sign_12 : decode cX11_sign 12 = .ok (.iconst 1, 1) := by decide +kernel
theorem dX11_sign_13 : decode cX11_sign 13 = .ok (.if_icmp .ne 10, 3) := by decide +kernel
theorem dX11_sign_16 : decode cX11_sign 16 = .ok (.aload_n 0, 1) := by decide +kernel
theorem dX11_sign_17 : decode cX11_sign 17 = .ok (.getfield 278, 3) := by decide +kernel
theorem dX11_sign_20 : decode cX11_sign 20 = .ok (.goto 21, 3) := by decide +kernel
theorem dX11_sign_23 : decode cX11_sign 23 = .ok (.iload_n 1, 1) := by decide +kernel
theorem dX11_sign_24 : decode cX11_sign 24 = .ok (.iconst 2, 1) := by decide +kernel
theorem dX11_sign_25 : decode cX11_sign 25 = .ok (.if_icmp .ne 10, 3) := by decide +kernel
theorem dX11_sign_28 : decode cX11_sign 28 = .ok (.aload_n 0, 1) := by decide +kernel
theorem dX11_sign_29 : decode cX11_sign 29 = .ok (.getfield 23, 3) := by decide +kernel
theorem dX11_sign_32 : decode cX11_sign 32 = .ok (.goto 9, 3) := by decide +kernel
theorem dX11_sign_35 : decode cX11_sign 35 = .ok (.aload_n 0, 1) := by decide +kernel
theorem dX11_sign_36 : decode cX11_sign 36 = .ok (.bipush (-2), 2) := by decide +kernel
theorem dX11_sign_38 : decode cX11_sign 38 = .ok (.invokevirtual 88, 3) := by decide +kernel
theorem dX11_sign_41 : decode cX11_sign 41 = .ok (.ireturn, 1) := by decide +kernel
theorem dX11_limb_0 : decode cX11_limb 0 = .ok (.iload_n 1, 1) := by decide +kernel
theorem dX11_limb_1 : decode cX11_limb 1 = .ok (.i2l, 1) := by decide +kernel
theorem dX11_limb_2 : decode cX11_limb 2 = .ok (.lconst 0, 1) := by decide +kernel
theorem dX11_limb_3 : decode cX11_limb 3 = .ok (.lconst 1, 1) := by decide +kernel
theorem dX11_limb_4 : decode cX11_limb 4 = .ok (.invokestatic 78, 3) := by decide +kernel
theorem dX11_limb_7 : decode cX11_limb 7 = .ok (.ifCond .eq 7, 3) := by decide +kernel
theorem dX11_limb_10 : decode cX11_limb 10 = .ok (.iload_n 2, 1) := by decide +kernel
theorem dX11_limb_11 : decode cX11_limb 11 = .ok (.ifCond .ge 10, 3) := by decide +kernel
theorem dX11_limb_14 : decode cX11_limb 14 = .ok (.aload_n 0, 1) := by decide +kernel
theorem dX11_limb_15 : decode cX11_limb 15 = .ok (.bipush (-2), 2) := by decide +kernel
theorem dX11_limb_17 : decode cX11_limb 17 = .ok (.invokevirtual 88, 3) := by decide +kernel
theorem dX11_limb_20 : decode cX11_limb 20 = .ok (.ireturn, 1) := by decide +kernel
theorem dX11_limb_21 : decode cX11_limb 21 = .ok (.iload_n 2, 1) := by decide +kernel
theorem dX11_limb_22 : decode cX11_limb 22 = .ok (.iload_n 1, 1) := by decide +kernel
theorem dX11_limb_23 : decode cX11_limb 23 = .ok (.ifCond .ne 10, 3) := by decide +kernel
theorem dX11_limb_26 : decode cX11_limb 26 = .ok (.aload_n 0, 1) := by decide +kernel
theorem dX11_limb_27 : decode cX11_limb 27 = .ok (.getfield 278, 3) := by decide +kernel
theorem dX11_limb_30 : decode cX11_limb 30 = .ok (.goto 7, 3) := by decide +kernel
theorem dX11_limb_33 : decode cX11_limb 33 = .ok (.aload_n 0, 1) := by decide +kernel
theorem dX11_limb_34 : decode cX11_limb 34 = .ok (.getfield 23, 3) := by decide +kernel
theorem dX11_limb_37 : decode cX11_limb 37 = .ok (.if_icmp .lt 7, 3) := by decide +kernel
theorem dX11_limb_40 : decode cX11_limb 40 = .ok (.iconst (-1), 1) := by decide +kernel
theorem dX11_limb_41 : decode cX11_limb 41 = .ok (.goto 22, 3) := by decide +kernel
theorem dX11_limb_44 : decode cX11_limb 44 = .ok (.iload_n 1, 1) := by decide +kernel
theorem dX11_limb_45 : decode cX11_limb 45 = .ok (.ifCond .ne 12, 3) := by decide +kernel
theorem dX11_limb_48 : decode cX11_limb 48 = .ok (.aload_n 0, 1) := by decide +kernel
theorem dX11_limb_49 : decode cX11_limb 49 = .ok (.getfield 27, 3) := by decide +kernel
theorem dX11_limb_52 : decode cX11_limb 52 = .ok (.iload_n 2, 1) := by decide +kernel
theorem dX11_limb_53 : decode cX11_limb 53 = .ok (.iaload, 1) := by decide +kernel
theorem dX11_limb_54 : decode cX11_limb 54 = .ok (.goto 9, 3) := by decide +kernel
theorem dX11_limb_57 : decode cX11_limb 57 = .ok (.aload_n 0, 1) := by decide +kernel
theorem dX11_limb_58 : decode cX11_limb 58 = .ok (.getfield 30, 3) := by decide +kernel
theorem dX11_limb_61 : decode cX11_limb 61 = .ok (.iload_n 2, 1) := by decide +kernel
theorem dX11_limb_62 : decode cX11_limb 62 = .ok (.iaload, 1) := by decide +kernel
theorem dX11_limb_63 : decode cX11_limb 63 = .ok (.ireturn, 1) := by decide +kernel
theorem dX11_image_0 : decode cX11_image 0 = .ok (.iload_n 1, 1) := by decide +kernel
theorem dX11_image_1 : decode cX11_image 1 = .ok (.i2l, 1) := by decide +kernel
theorem dX11_image_2 : decode cX11_image 2 = .ok (.lconst 0, 1) := by decide +kernel
theorem dX11_image_3 : decode cX11_image 3 = .ok (.lconst 1, 1) := by decide +kernel
theorem dX11_image_4 : decode cX11_image 4 = .ok (.invokestatic 78, 3) := by decide +kernel
theorem dX11_image_7 : decode cX11_image 7 = .ok (.ifCond .ne 10, 3) := by decide +kernel
theorem dX11_image_10 : decode cX11_image 10 = .ok (.aload_n 0, 1) := by decide +kernel
theorem dX11_image_11 : decode cX11_image 11 = .ok (.bipush (-2), 2) := by decide +kernel
theorem dX11_image_13 : decode cX11_image 13 = .ok (.invokevirtual 88, 3) := by decide +kernel
theorem dX11_image_16 : decode cX11_image 16 = .ok (.ireturn, 1) := by decide +kernel
theorem dX11_image_17 : decode cX11_image 17 = .ok (.iconst 0, 1) := by decide +kernel
theorem dX11_image_18 : decode cX11_image 18 = .ok (.istore_n 2, 1) := by decide +kernel
theorem dX11_image_19 : decode cX11_image 19 = .ok (.iload_n 2, 1) := by decide +kernel
theorem dX11_image_20 : decode cX11_image 20 = .ok (.sipush 155, 3) := by decide +kernel
theorem dX11_image_23 : decode cX11_image 23 = .ok (.if_icmp .ge 27, 3) := by decide +kernel
theorem dX11_image_26 : decode cX11_image 26 = .ok (.aload_n 0, 1) := by decide +kernel
theorem dX11_image_27 : decode cX11_image 27 = .ok (.getfield 13, 3) := by decide +kernel
theorem dX11_image_30 : decode cX11_image 30 = .ok (.sipush 155, 3) := by decide +kernel
theorem dX11_image_33 : decode cX11_image 33 = .ok (.iload_n 1, 1) := by decide +kernel
theorem dX11_image_34 : decode cX11_image 34 = .ok (.imul, 1) := by decide +kernel
theorem dX11_image_35 : decode cX11_image 35 = .ok (.iload_n 2, 1) := by decide +kernel
theorem dX11_image_36 : decode cX11_image 36 = .ok (.iadd, 1) := by decide +kernel
theorem dX11_image_37 : decode cX11_image 37 = .ok (.aload_n 0, 1) := by decide +kernel
theorem dX11_image_38 : decode cX11_image 38 = .ok (.getfield 7, 3) := by decide +kernel
theorem dX11_image_41 : decode cX11_image 41 = .ok (.iload_n 2, 1) := by decide +kernel
theorem dX11_image_42 : decode cX11_image 42 = .ok (.iaload, 1) := by decide +kernel
theorem dX11_image_43 : decode cX11_image 43 = .ok (.iastore, 1) := by decide +kernel
theorem dX11_image_44 : decode cX11_image 44 = .ok (.iinc 2 1, 3) := by decide +kernel
theorem dX11_image_47 : decode cX11_image 47 = .ok (.goto (-28), 3) := by decide +kernel
theorem dX11_image_50 : decode cX11_image 50 = .ok (.aload_n 0, 1) := by decide +kernel
theorem dX11_image_51 : decode cX11_image 51 = .ok (.getfield 16, 3) := by decide +kernel
theorem dX11_image_54 : decode cX11_image 54 = .ok (.iload_n 1, 1) := by decide +kernel
theorem dX11_image_55 : decode cX11_image 55 = .ok (.iconst 1, 1) := by decide +kernel
theorem dX11_image_56 : decode cX11_image 56 = .ok (.bastore, 1) := by decide +kernel
theorem dX11_image_57 : decode cX11_image 57 = .ok (.iconst 1, 1) := by decide +kernel
theorem dX11_image_58 : decode cX11_image 58 = .ok (.ireturn, 1) := by decide +kernel
theorem dX11_from_0 : decode cX11_from 0 = .ok (.iload_n 1, 1) := by decide +kernel
theorem dX11_from_1 : decode cX11_from 1 = .ok (.i2l, 1) := by decide +kernel
theorem dX11_from_2 : decode cX11_from 2 = .ok (.lconst 0, 1) := by decide +kernel
theorem dX11_from_3 : decode cX11_from 3 = .ok (.lconst 1, 1) := by decide +kernel
theorem dX11_from_4 : decode cX11_from 4 = .ok (.invokestatic 78, 3) := by decide +kernel
theorem dX11_from_7 : decode cX11_from 7 = .ok (.ifCond .ne 10, 3) := by decide +kernel
theorem dX11_from_10 : decode cX11_from 10 = .ok (.aload_n 0, 1) := by decide +kernel
theorem dX11_from_11 : decode cX11_from 11 = .ok (.bipush (-2), 2) := by decide +kernel
theorem dX11_from_13 : decode cX11_from 13 = .ok (.invokevirtual 88, 3) := by decide +kernel
theorem dX11_from_16 : decode cX11_from 16 = .ok (.ireturn, 1) := by decide +kernel
theorem dX11_from_17 : decode cX11_from 17 = .ok (.aload_n 0, 1) := by decide +kernel
theorem dX11_from_18 : decode cX11_from 18 = .ok (.getfield 16, 3) := by decide +kernel
theorem dX11_from_21 : decode cX11_from 21 = .ok (.iload_n 1, 1) := by decide +kernel
theorem dX11_from_22 : decode cX11_from 22 = .ok (.baload, 1) := by decide +kernel
theorem dX11_from_23 : decode cX11_from 23 = .ok (.ifCond .ne 10, 3) := by decide +kernel
theorem dX11_from_26 : decode cX11_from 26 = .ok (.aload_n 0, 1) := by decide +kernel
theorem dX11_from_27 : decode cX11_from 27 = .ok (.bipush (-3), 2) := by decide +kernel
theorem dX11_from_29 : decode cX11_from 29 = .ok (.invokevirtual 88, 3) := by decide +kernel
theorem dX11_from_32 : decode cX11_from 32 = .ok (.ireturn, 1) := by decide +kernel
theorem dX11_from_33 : decode cX11_from 33 = .ok (.iconst 0, 1) := by decide +kernel
theorem dX11_from_34 : decode cX11_from 34 = .ok (.istore_n 2, 1) := by decide +kernel
theorem dX11_from_35 : decode cX11_from 35 = .ok (.iload_n 2, 1) := by decide +kernel
theorem dX11_from_36 : decode cX11_from 36 = .ok (.sipush 155, 3) := by decide +kernel
theorem dX11_from_39 : decode cX11_from 39 = .ok (.if_icmp .ge 27, 3) := by decide +kernel
theorem dX11_from_42 : decode cX11_from 42 = .ok (.aload_n 0, 1) := by decide +kernel
theorem dX11_from_43 : decode cX11_from 43 = .ok (.getfield 7, 3) := by decide +kernel
theorem dX11_from_46 : decode cX11_from 46 = .ok (.iload_n 2, 1) := by decide +kernel
theorem dX11_from_47 : decode cX11_from 47 = .ok (.aload_n 0, 1) := by decide +kernel
theorem dX11_from_48 : decode cX11_from 48 = .ok (.getfield 13, 3) := by decide +kernel
theorem dX11_from_51 : decode cX11_from 51 = .ok (.sipush 155, 3) := by decide +kernel
theorem dX11_from_54 : decode cX11_from 54 = .ok (.iload_n 1, 1) := by decide +kernel
theorem dX11_from_55 : decode cX11_from 55 = .ok (.imul, 1) := by decide +kernel
theorem dX11_from_56 : decode cX11_from 56 = .ok (.iload_n 2, 1) := by decide +kernel
theorem dX11_from_57 : decode cX11_from 57 = .ok (.iadd, 1) := by decide +kernel
theorem dX11_from_58 : decode cX11_from 58 = .ok (.iaload, 1) := by decide +kernel
theorem dX11_from_59 : decode cX11_from 59 = .ok (.iastore, 1) := by decide +kernel
theorem dX11_from_60 : decode cX11_from 60 = .ok (.iinc 2 1, 3) := by decide +kernel
theorem dX11_from_63 : decode cX11_from 63 = .ok (.goto (-28), 3) := by decide +kernel
theorem dX11_from_66 : decode cX11_from 66 = .ok (.iconst 1, 1) := by decide +kernel
theorem dX11_from_67 : decode cX11_from 67 = .ok (.ireturn, 1) := by decide +kernel
theorem dX11_status_0 : decode cX11_status 0 = .ok (.iload_n 1, 1) := by decide +kernel
theorem dX11_status_1 : decode cX11_status 1 = .ok (.i2l, 1) := by decide +kernel
theorem dX11_status_2 : decode cX11_status 2 = .ok (.lconst 0, 1) := by decide +kernel
theorem dX11_status_3 : decode cX11_status 3 = .ok (.ldc2_w 100, 3) := by decide +kernel
theorem dX11_status_6 : decode cX11_status 6 = .ok (.invokestatic 78, 3) := by decide +kernel
theorem dX11_status_9 : decode cX11_status 9 = .ok (.ifCond .ne 15, 3) := by decide +kernel
theorem dX11_status_12 : decode cX11_status 12 = .ok (.aload_n 0, 1) := by decide +kernel
theorem dX11_status_13 : decode cX11_status 13 = .ok (.getfield 33, 3) := by decide +kernel
theorem dX11_status_16 : decode cX11_status 16 = .ok (.iconst 0, 1) := by decide +kernel
theorem dX11_status_17 : decode cX11_status 17 = .ok (.dup2, 1) := by decide +kernel
theorem dX11_status_18 : decode cX11_status 18 = .ok (.iaload, 1) := by decide +kernel
theorem dX11_status_19 : decode cX11_status 19 = .ok (.iconst 1, 1) := by decide +kernel
theorem dX11_status_20 : decode cX11_status 20 = .ok (.iadd, 1) := by decide +kernel
theorem dX11_status_21 : decode cX11_status 21 = .ok (.iastore, 1) := by decide +kernel
theorem dX11_status_22 : decode cX11_status 22 = .ok (.iconst (-1), 1) := by decide +kernel
theorem dX11_status_23 : decode cX11_status 23 = .ok (.ireturn, 1) := by decide +kernel
theorem dX11_status_24 : decode cX11_status 24 = .ok (.aload_n 0, 1) := by decide +kernel
theorem dX11_status_25 : decode cX11_status 25 = .ok (.getfield 33, 3) := by decide +kernel
theorem dX11_status_28 : decode cX11_status 28 = .ok (.iload_n 1, 1) := by decide +kernel
theorem dX11_status_29 : decode cX11_status 29 = .ok (.iaload, 1) := by decide +kernel
theorem dX11_status_30 : decode cX11_status 30 = .ok (.ireturn, 1) := by decide +kernel
theorem dX11_counted_0 : decode cX11_counted 0 = .ok (.iload_n 1, 1) := by decide +kernel
theorem dX11_counted_1 : decode cX11_counted 1 = .ok (.iconst 4, 1) := by decide +kernel
theorem dX11_counted_2 : decode cX11_counted 2 = .ok (.if_icmp .ge 14, 3) := by decide +kernel
theorem dX11_counted_5 : decode cX11_counted 5 = .ok (.aload_n 0, 1) := by decide +kernel
theorem dX11_counted_6 : decode cX11_counted 6 = .ok (.getfield 7, 3) := by decide +kernel
theorem dX11_counted_9 : decode cX11_counted 9 = .ok (.iconst 3, 1) := by decide +kernel
theorem dX11_counted_10 : decode cX11_counted 10 = .ok (.iload_n 1, 1) := by decide +kernel
theorem dX11_counted_11 : decode cX11_counted 11 = .ok (.iadd, 1) := by decide +kernel
theorem dX11_counted_12 : decode cX11_counted 12 = .ok (.iaload, 1) := by decide +kernel
theorem dX11_counted_13 : decode cX11_counted 13 = .ok (.goto 22, 3) := by decide +kernel
theorem dX11_counted_16 : decode cX11_counted 16 = .ok (.iload_n 1, 1) := by decide +kernel
theorem dX11_counted_17 : decode cX11_counted 17 = .ok (.iconst 4, 1) := by decide +kernel
theorem dX11_counted_18 : decode cX11_counted 18 = .ok (.if_icmp .ne 10, 3) := by decide +kernel
theorem dX11_counted_21 : decode cX11_counted 21 = .ok (.aload_n 0, 1) := by decide +kernel
theorem dX11_counted_22 : decode cX11_counted 22 = .ok (.getfield 104, 3) := by decide +kernel
theorem dX11_counted_25 : decode cX11_counted 25 = .ok (.goto 10, 3) := by decide +kernel
theorem dX11_counted_28 : decode cX11_counted 28 = .ok (.aload_n 0, 1) := by decide +kernel
theorem dX11_counted_29 : decode cX11_counted 29 = .ok (.getfield 7, 3) := by decide +kernel
theorem dX11_counted_32 : decode cX11_counted 32 = .ok (.bipush 7, 2) := by decide +kernel
theorem dX11_counted_34 : decode cX11_counted 34 = .ok (.iaload, 1) := by decide +kernel
theorem dX11_counted_35 : decode cX11_counted 35 = .ok (.ireturn, 1) := by decide +kernel
theorem dX11_count_0 : decode cX11_count 0 = .ok (.iload_n 1, 1) := by decide +kernel
theorem dX11_count_1 : decode cX11_count 1 = .ok (.i2l, 1) := by decide +kernel
theorem dX11_count_2 : decode cX11_count 2 = .ok (.lconst 0, 1) := by decide +kernel
theorem dX11_count_3 : decode cX11_count 3 = .ok (.ldc2_w 92, 3) := by decide +kernel
theorem dX11_count_6 : decode cX11_count 6 = .ok (.invokestatic 78, 3) := by decide +kernel
theorem dX11_count_9 : decode cX11_count 9 = .ok (.ifCond .eq 11, 3) := by decide +kernel
theorem dX11_count_12 : decode cX11_count 12 = .ok (.aload_n 0, 1) := by decide +kernel
theorem dX11_count_13 : decode cX11_count 13 = .ok (.iload_n 1, 1) := by decide +kernel
theorem dX11_count_14 : decode cX11_count 14 = .ok (.invokevirtual 284, 3) := by decide +kernel
theorem dX11_count_17 : decode cX11_count 17 = .ok (.goto 9, 3) := by decide +kernel
theorem dX11_count_20 : decode cX11_count 20 = .ok (.aload_n 0, 1) := by decide +kernel
theorem dX11_count_21 : decode cX11_count 21 = .ok (.bipush (-2), 2) := by decide +kernel
theorem dX11_count_23 : decode cX11_count 23 = .ok (.invokevirtual 88, 3) := by decide +kernel
theorem dX11_count_26 : decode cX11_count 26 = .ok (.ireturn, 1) := by decide +kernel
theorem dX11_mixed_0 : decode cX11_mixed 0 = .ok (.ldc2_w 287, 3) := by decide +kernel
theorem dX11_mixed_3 : decode cX11_mixed 3 = .ok (.lload_n 0, 1) := by decide +kernel
theorem dX11_mixed_4 : decode cX11_mixed 4 = .ok (.lmul, 1) := by decide +kernel
theorem dX11_mixed_5 : decode cX11_mixed 5 = .ok (.lload_n 2, 1) := by decide +kernel
theorem dX11_mixed_6 : decode cX11_mixed 6 = .ok (.ladd, 1) := by decide +kernel
theorem dX11_mixed_7 : decode cX11_mixed 7 = .ok (.lreturn, 1) := by decide +kernel
theorem dX11_digest_0 : decode cX11_digest 0 = .ok (.ldc2_w 289, 3) := by decide +kernel
theorem dX11_digest_3 : decode cX11_digest 3 = .ok (.lstore_n 1, 1) := by decide +kernel
theorem dX11_digest_4 : decode cX11_digest 4 = .ok (.iconst 0, 1) := by decide +kernel
theorem dX11_digest_5 : decode cX11_digest 5 = .ok (.istore_n 3, 1) := by decide +kernel
theorem dX11_digest_6 : decode cX11_digest 6 = .ok (.iload_n 3, 1) := by decide +kernel
theorem dX11_digest_7 : decode cX11_digest 7 = .ok (.bipush 6, 2) := by decide +kernel
theorem dX11_digest_9 : decode cX11_digest 9 = .ok (.if_icmp .ge 20, 3) := by decide +kernel
theorem dX11_digest_12 : decode cX11_digest 12 = .ok (.lload_n 1, 1) := by decide +kernel
theorem dX11_digest_13 : decode cX11_digest 13 = .ok (.aload_n 0, 1) := by decide +kernel
theorem dX11_digest_14 : decode cX11_digest 14 = .ok (.iload_n 3, 1) := by decide +kernel
theorem dX11_digest_15 : decode cX11_digest 15 = .ok (.invokevirtual 284, 3) := by decide +kernel
theorem dX11_digest_18 : decode cX11_digest 18 = .ok (.i2l, 1) := by decide +kernel
theorem dX11_digest_19 : decode cX11_digest 19 = .ok (.invokestatic 291, 3) := by decide +kernel
theorem dX11_digest_22 : decode cX11_digest 22 = .ok (.lstore_n 1, 1) := by decide +kernel
theorem dX11_digest_23 : decode cX11_digest 23 = .ok (.iinc 3 1, 3) := by decide +kernel
theorem dX11_digest_26 : decode cX11_digest 26 = .ok (.goto (-20), 3) := by decide +kernel
theorem dX11_digest_29 : decode cX11_digest 29 = .ok (.iconst 0, 1) := by decide +kernel
theorem dX11_digest_30 : decode cX11_digest 30 = .ok (.istore_n 3, 1) := by decide +kernel
theorem dX11_digest_31 : decode cX11_digest 31 = .ok (.iload_n 3, 1) := by decide +kernel
theorem dX11_digest_32 : decode cX11_digest 32 = .ok (.iconst 3, 1) := by decide +kernel
theorem dX11_digest_33 : decode cX11_digest 33 = .ok (.if_icmp .ge 23, 3) := by decide +kernel
theorem dX11_digest_36 : decode cX11_digest 36 = .ok (.lload_n 1, 1) := by decide +kernel
theorem dX11_digest_37 : decode cX11_digest 37 = .ok (.aload_n 0, 1) := by decide +kernel
theorem dX11_digest_38 : decode cX11_digest 38 = .ok (.getfield 7, 3) := by decide +kernel
theorem dX11_digest_41 : decode cX11_digest 41 = .ok (.iconst 0, 1) := by decide +kernel
theorem dX11_digest_42 : decode cX11_digest 42 = .ok (.iload_n 3, 1) := by decide +kernel
theorem dX11_digest_43 : decode cX11_digest 43 = .ok (.iadd, 1) := by decide +kernel
theorem dX11_digest_44 : decode cX11_digest 44 = .ok (.iaload, 1) := by decide +kernel
theorem dX11_digest_45 : decode cX11_digest 45 = .ok (.i2l, 1) := by decide +kernel
theorem dX11_digest_46 : decode cX11_digest 46 = .ok (.invokestatic 291, 3) := by decide +kernel
theorem dX11_digest_49 : decode cX11_digest 49 = .ok (.lstore_n 1, 1) := by decide +kernel
theorem dX11_digest_50 : decode cX11_digest 50 = .ok (.iinc 3 1, 3) := by decide +kernel
theorem dX11_digest_53 : decode cX11_digest 53 = .ok (.goto (-22), 3) := by decide +kernel
theorem dX11_digest_56 : decode cX11_digest 56 = .ok (.iconst 0, 1) := by decide +kernel
theorem dX11_digest_57 : decode cX11_digest 57 = .ok (.istore_n 3, 1) := by decide +kernel
theorem dX11_digest_58 : decode cX11_digest 58 = .ok (.iload_n 3, 1) := by decide +kernel
theorem dX11_digest_59 : decode cX11_digest 59 = .ok (.aload_n 0, 1) := by decide +kernel
theorem dX11_digest_60 : decode cX11_digest 60 = .ok (.getfield 7, 3) := by decide +kernel
theorem dX11_digest_63 : decode cX11_digest 63 = .ok (.iconst 3, 1) := by decide +kernel
theorem dX11_digest_64 : decode cX11_digest 64 = .ok (.iaload, 1) := by decide +kernel
theorem dX11_digest_65 : decode cX11_digest 65 = .ok (.if_icmp .ge 37, 3) := by decide +kernel
theorem dX11_digest_68 : decode cX11_digest 68 = .ok (.lload_n 1, 1) := by decide +kernel
theorem dX11_digest_69 : decode cX11_digest 69 = .ok (.aload_n 0, 1) := by decide +kernel
theorem dX11_digest_70 : decode cX11_digest 70 = .ok (.getfield 7, 3) := by decide +kernel
theorem dX11_digest_73 : decode cX11_digest 73 = .ok (.bipush 13, 2) := by decide +kernel
theorem dX11_digest_75 : decode cX11_digest 75 = .ok (.iload_n 3, 1) := by decide +kernel
theorem dX11_digest_76 : decode cX11_digest 76 = .ok (.iadd, 1) := by decide +kernel
theorem dX11_digest_77 : decode cX11_digest 77 = .ok (.iaload, 1) := by decide +kernel
theorem dX11_digest_78 : decode cX11_digest 78 = .ok (.i2l, 1) := by decide +kernel
theorem dX11_digest_79 : decode cX11_digest 79 = .ok (.invokestatic 291, 3) := by decide +kernel
theorem dX11_digest_82 : decode cX11_digest 82 = .ok (.aload_n 0, 1) := by decide +kernel
theorem dX11_digest_83 : decode cX11_digest 83 = .ok (.getfield 7, 3) := by decide +kernel
theorem dX11_digest_86 : decode cX11_digest 86 = .ok (.bipush 18, 2) := by decide +kernel
theorem dX11_digest_88 : decode cX11_digest 88 = .ok (.iload_n 3, 1) := by decide +kernel
theorem dX11_digest_89 : decode cX11_digest 89 = .ok (.iadd, 1) := by decide +kernel
theorem dX11_digest_90 : decode cX11_digest 90 = .ok (.iaload, 1) := by decide +kernel
theorem dX11_digest_91 : decode cX11_digest 91 = .ok (.i2l, 1) := by decide +kernel
theorem dX11_digest_92 : decode cX11_digest 92 = .ok (.invokestatic 291, 3) := by decide +kernel
theorem dX11_digest_95 : decode cX11_digest 95 = .ok (.lstore_n 1, 1) := by decide +kernel
theorem dX11_digest_96 : decode cX11_digest 96 = .ok (.iinc 3 1, 3) := by decide +kernel
theorem dX11_digest_99 : decode cX11_digest 99 = .ok (.goto (-41), 3) := by decide +kernel
theorem dX11_digest_102 : decode cX11_digest 102 = .ok (.iconst 0, 1) := by decide +kernel
theorem dX11_digest_103 : decode cX11_digest 103 = .ok (.istore_n 3, 1) := by decide +kernel
theorem dX11_digest_104 : decode cX11_digest 104 = .ok (.iload_n 3, 1) := by decide +kernel
theorem dX11_digest_105 : decode cX11_digest 105 = .ok (.aload_n 0, 1) := by decide +kernel
theorem dX11_digest_106 : decode cX11_digest 106 = .ok (.getfield 7, 3) := by decide +kernel
theorem dX11_digest_109 : decode cX11_digest 109 = .ok (.iconst 4, 1) := by decide +kernel
theorem dX11_digest_110 : decode cX11_digest 110 = .ok (.iaload, 1) := by decide +kernel
theorem dX11_digest_111 : decode cX11_digest 111 = .ok (.if_icmp .ge 50, 3) := by decide +kernel
theorem dX11_digest_114 : decode cX11_digest 114 = .ok (.lload_n 1, 1) := by decide +kernel
theorem dX11_digest_115 : decode cX11_digest 115 = .ok (.aload_n 0, 1) := by decide +kernel
theorem dX11_digest_116 : decode cX11_digest 116 = .ok (.getfield 7, 3) := by decide +kernel
theorem dX11_digest_119 : decode cX11_digest 119 = .ok (.bipush 23, 2) := by decide +kernel
theorem dX11_digest_121 : decode cX11_digest 121 = .ok (.iload_n 3, 1) := by decide +kernel
theorem dX11_digest_122 : decode cX11_digest 122 = .ok (.iadd, 1) := by decide +kernel
theorem dX11_digest_123 : decode cX11_digest 123 = .ok (.iaload, 1) := by decide +kernel
theorem dX11_digest_124 : decode cX11_digest 124 = .ok (.i2l, 1) := by decide +kernel
theorem dX11_digest_125 : decode cX11_digest 125 = .ok (.invokestatic 291, 3) := by decide +kernel
theorem dX11_digest_128 : decode cX11_digest 128 = .ok (.aload_n 0, 1) := by decide +kernel
theorem dX11_digest_129 : decode cX11_digest 129 = .ok (.getfield 7, 3) := by decide +kernel
theorem dX11_digest_132 : decode cX11_digest 132 = .ok (.bipush 39, 2) := by decide +kernel
theorem dX11_digest_134 : decode cX11_digest 134 = .ok (.iload_n 3, 1) := by decide +kernel
theorem dX11_digest_135 : decode cX11_digest 135 = .ok (.iadd, 1) := by decide +kernel
theorem dX11_digest_136 : decode cX11_digest 136 = .ok (.iaload, 1) := by decide +kernel
theorem dX11_digest_137 : decode cX11_digest 137 = .ok (.i2l, 1) := by decide +kernel
theorem dX11_digest_138 : decode cX11_digest 138 = .ok (.invokestatic 291, 3) := by decide +kernel
theorem dX11_digest_141 : decode cX11_digest 141 = .ok (.aload_n 0, 1) := by decide +kernel
theorem dX11_digest_142 : decode cX11_digest 142 = .ok (.getfield 7, 3) := by decide +kernel
theorem dX11_digest_145 : decode cX11_digest 145 = .ok (.bipush 55, 2) := by decide +kernel
theorem dX11_digest_147 : decode cX11_digest 147 = .ok (.iload_n 3, 1) := by decide +kernel
theorem dX11_digest_148 : decode cX11_digest 148 = .ok (.iadd, 1) := by decide +kernel
theorem dX11_digest_149 : decode cX11_digest 149 = .ok (.iaload, 1) := by decide +kernel
theorem dX11_digest_150 : decode cX11_digest 150 = .ok (.i2l, 1) := by decide +kernel
theorem dX11_digest_151 : decode cX11_digest 151 = .ok (.invokestatic 291, 3) := by decide +kernel
theorem dX11_digest_154 : decode cX11_digest 154 = .ok (.lstore_n 1, 1) := by decide +kernel
theorem dX11_digest_155 : decode cX11_digest 155 = .ok (.iinc 3 1, 3) := by decide +kernel
theorem dX11_digest_158 : decode cX11_digest 158 = .ok (.goto (-54), 3) := by decide +kernel
theorem dX11_digest_161 : decode cX11_digest 161 = .ok (.iconst 0, 1) := by decide +kernel
theorem dX11_digest_162 : decode cX11_digest 162 = .ok (.istore_n 3, 1) := by decide +kernel
theorem dX11_digest_163 : decode cX11_digest 163 = .ok (.iload_n 3, 1) := by decide +kernel
theorem dX11_digest_164 : decode cX11_digest 164 = .ok (.aload_n 0, 1) := by decide +kernel
theorem dX11_digest_165 : decode cX11_digest 165 = .ok (.getfield 7, 3) := by decide +kernel
theorem dX11_digest_168 : decode cX11_digest 168 = .ok (.iconst 5, 1) := by decide +kernel
theorem dX11_digest_169 : decode cX11_digest 169 = .ok (.iaload, 1) := by decide +kernel
theorem dX11_digest_170 : decode cX11_digest 170 = .ok (.if_icmp .ge 50, 3) := by decide +kernel
theorem dX11_digest_173 : decode cX11_digest 173 = .ok (.lload_n 1, 1) := by decide +kernel
theorem dX11_digest_174 : decode cX11_digest 174 = .ok (.aload_n 0, 1) := by decide +kernel
theorem dX11_digest_175 : decode cX11_digest 175 = .ok (.getfield 7, 3) := by decide +kernel
theorem dX11_digest_178 : decode cX11_digest 178 = .ok (.bipush 71, 2) := by decide +kernel
theorem dX11_digest_180 : decode cX11_digest 180 = .ok (.iload_n 3, 1) := by decide +kernel
theorem dX11_digest_181 : decode cX11_digest 181 = .ok (.iadd, 1) := by decide +kernel
theorem dX11_digest_182 : decode cX11_digest 182 = .ok (.iaload, 1) := by decide +kernel
theorem dX11_digest_183 : decode cX11_digest 183 = .ok (.i2l, 1) := by decide +kernel
theorem dX11_digest_184 : decode cX11_digest 184 = .ok (.invokestatic 291, 3) := by decide +kernel
theorem dX11_digest_187 : decode cX11_digest 187 = .ok (.aload_n 0, 1) := by decide +kernel
theorem dX11_digest_188 : decode cX11_digest 188 = .ok (.getfield 7, 3) := by decide +kernel
theorem dX11_digest_191 : decode cX11_digest 191 = .ok (.bipush 79, 2) := by decide +kernel
theorem dX11_digest_193 : decode cX11_digest 193 = .ok (.iload_n 3, 1) := by decide +kernel
theorem dX11_digest_194 : decode cX11_digest 194 = .ok (.iadd, 1) := by decide +kernel
theorem dX11_digest_195 : decode cX11_digest 195 = .ok (.iaload, 1) := by decide +kernel
theorem dX11_digest_196 : decode cX11_digest 196 = .ok (.i2l, 1) := by decide +kernel
theorem dX11_digest_197 : decode cX11_digest 197 = .ok (.invokestatic 291, 3) := by decide +kernel
theorem dX11_digest_200 : decode cX11_digest 200 = .ok (.aload_n 0, 1) := by decide +kernel
theorem dX11_digest_201 : decode cX11_digest 201 = .ok (.getfield 7, 3) := by decide +kernel
theorem dX11_digest_204 : decode cX11_digest 204 = .ok (.bipush 87, 2) := by decide +kernel
theorem dX11_digest_206 : decode cX11_digest 206 = .ok (.iload_n 3, 1) := by decide +kernel
theorem dX11_digest_207 : decode cX11_digest 207 = .ok (.iadd, 1) := by decide +kernel
theorem dX11_digest_208 : decode cX11_digest 208 = .ok (.iaload, 1) := by decide +kernel
theorem dX11_digest_209 : decode cX11_digest 209 = .ok (.i2l, 1) := by decide +kernel
theorem dX11_digest_210 : decode cX11_digest 210 = .ok (.invokestatic 291, 3) := by decide +kernel
theorem dX11_digest_213 : decode cX11_digest 213 = .ok (.lstore_n 1, 1) := by decide +kernel
theorem dX11_digest_214 : decode cX11_digest 214 = .ok (.iinc 3 1, 3) := by decide +kernel
theorem dX11_digest_217 : decode cX11_digest 217 = .ok (.goto (-54), 3) := by decide +kernel
theorem dX11_digest_220 : decode cX11_digest 220 = .ok (.iconst 0, 1) := by decide +kernel
theorem dX11_digest_221 : decode cX11_digest 221 = .ok (.istore_n 3, 1) := by decide +kernel
theorem dX11_digest_222 : decode cX11_digest 222 = .ok (.iload_n 3, 1) := by decide +kernel
theorem dX11_digest_223 : decode cX11_digest 223 = .ok (.aload_n 0, 1) := by decide +kernel
theorem dX11_digest_224 : decode cX11_digest 224 = .ok (.getfield 7, 3) := by decide +kernel
theorem dX11_digest_227 : decode cX11_digest 227 = .ok (.bipush 6, 2) := by decide +kernel
theorem dX11_digest_229 : decode cX11_digest 229 = .ok (.iaload, 1) := by decide +kernel
theorem dX11_digest_230 : decode cX11_digest 230 = .ok (.if_icmp .ge 37, 3) := by decide +kernel
theorem dX11_digest_233 : decode cX11_digest 233 = .ok (.lload_n 1, 1) := by decide +kernel
theorem dX11_digest_234 : decode cX11_digest 234 = .ok (.aload_n 0, 1) := by decide +kernel
theorem dX11_digest_235 : decode cX11_digest 235 = .ok (.getfield 7, 3) := by decide +kernel
theorem dX11_digest_238 : decode cX11_digest 238 = .ok (.bipush 95, 2) := by decide +kernel
theorem dX11_digest_240 : decode cX11_digest 240 = .ok (.iload_n 3, 1) := by decide +kernel
theorem dX11_digest_241 : decode cX11_digest 241 = .ok (.iadd, 1) := by decide +kernel
theorem dX11_digest_242 : decode cX11_digest 242 = .ok (.iaload, 1) := by decide +kernel
theorem dX11_digest_243 : decode cX11_digest 243 = .ok (.i2l, 1) := by decide +kernel
theorem dX11_digest_244 : decode cX11_digest 244 = .ok (.invokestatic 291, 3) := by decide +kernel
theorem dX11_digest_247 : decode cX11_digest 247 = .ok (.aload_n 0, 1) := by decide +kernel
theorem dX11_digest_248 : decode cX11_digest 248 = .ok (.getfield 7, 3) := by decide +kernel
theorem dX11_digest_251 : decode cX11_digest 251 = .ok (.bipush 105, 2) := by decide +kernel
theorem dX11_digest_253 : decode cX11_digest 253 = .ok (.iload_n 3, 1) := by decide +kernel
theorem dX11_digest_254 : decode cX11_digest 254 = .ok (.iadd, 1) := by decide +kernel
theorem dX11_digest_255 : decode cX11_digest 255 = .ok (.iaload, 1) := by decide +kernel
theorem dX11_digest_256 : decode cX11_digest 256 = .ok (.i2l, 1) := by decide +kernel
theorem dX11_digest_257 : decode cX11_digest 257 = .ok (.invokestatic 291, 3) := by decide +kernel
theorem dX11_digest_260 : decode cX11_digest 260 = .ok (.lstore_n 1, 1) := by decide +kernel
theorem dX11_digest_261 : decode cX11_digest 261 = .ok (.iinc 3 1, 3) := by decide +kernel
theorem dX11_digest_264 : decode cX11_digest 264 = .ok (.goto (-42), 3) := by decide +kernel
theorem dX11_digest_267 : decode cX11_digest 267 = .ok (.bipush 8, 2) := by decide +kernel
theorem dX11_digest_269 : decode cX11_digest 269 = .ok (.istore_n 3, 1) := by decide +kernel
theorem dX11_digest_270 : decode cX11_digest 270 = .ok (.iload_n 3, 1) := by decide +kernel
theorem dX11_digest_271 : decode cX11_digest 271 = .ok (.bipush 12, 2) := by decide +kernel
theorem dX11_digest_273 : decode cX11_digest 273 = .ok (.if_icmp .gt 21, 3) := by decide +kernel
theorem dX11_digest_276 : decode cX11_digest 276 = .ok (.lload_n 1, 1) := by decide +kernel
theorem dX11_digest_277 : decode cX11_digest 277 = .ok (.aload_n 0, 1) := by decide +kernel
theorem dX11_digest_278 : decode cX11_digest 278 = .ok (.getfield 7, 3) := by decide +kernel
theorem dX11_digest_281 : decode cX11_digest 281 = .ok (.iload_n 3, 1) := by decide +kernel
theorem dX11_digest_282 : decode cX11_digest 282 = .ok (.iaload, 1) := by decide +kernel
theorem dX11_digest_283 : decode cX11_digest 283 = .ok (.i2l, 1) := by decide +kernel
theorem dX11_digest_284 : decode cX11_digest 284 = .ok (.invokestatic 291, 3) := by decide +kernel
theorem dX11_digest_287 : decode cX11_digest 287 = .ok (.lstore_n 1, 1) := by decide +kernel
theorem dX11_digest_288 : decode cX11_digest 288 = .ok (.iinc 3 1, 3) := by decide +kernel
theorem dX11_digest_291 : decode cX11_digest 291 = .ok (.goto (-21), 3) := by decide +kernel
theorem dX11_digest_294 : decode cX11_digest 294 = .ok (.iconst 0, 1) := by decide +kernel
theorem dX11_digest_295 : decode cX11_digest 295 = .ok (.istore_n 3, 1) := by decide +kernel
theorem dX11_digest_296 : decode cX11_digest 296 = .ok (.iload_n 3, 1) := by decide +kernel
theorem dX11_digest_297 : decode cX11_digest 297 = .ok (.aload_n 0, 1) := by decide +kernel
theorem dX11_digest_298 : decode cX11_digest 298 = .ok (.getfield 7, 3) := by decide +kernel
theorem dX11_digest_301 : decode cX11_digest 301 = .ok (.bipush 7, 2) := by decide +kernel
theorem dX11_digest_303 : decode cX11_digest 303 = .ok (.iaload, 1) := by decide +kernel
theorem dX11_digest_304 : decode cX11_digest 304 = .ok (.if_icmp .ge 24, 3) := by decide +kernel
theorem dX11_digest_307 : decode cX11_digest 307 = .ok (.lload_n 1, 1) := by decide +kernel
theorem dX11_digest_308 : decode cX11_digest 308 = .ok (.aload_n 0, 1) := by decide +kernel
theorem dX11_digest_309 : decode cX11_digest 309 = .ok (.getfield 7, 3) := by decide +kernel
theorem dX11_digest_312 : decode cX11_digest 312 = .ok (.bipush 115, 2) := by decide +kernel
theorem dX11_digest_314 : decode cX11_digest 314 = .ok (.iload_n 3, 1) := by decide +kernel
theorem dX11_digest_315 : decode cX11_digest 315 = .ok (.iadd, 1) := by decide +kernel
theorem dX11_digest_316 : decode cX11_digest 316 = .ok (.iaload, 1) := by decide +kernel
theorem dX11_digest_317 : decode cX11_digest 317 = .ok (.i2l, 1) := by decide +kernel
theorem dX11_digest_318 : decode cX11_digest 318 = .ok (.invokestatic 291, 3) := by decide +kernel
theorem dX11_digest_321 : decode cX11_digest 321 = .ok (.lstore_n 1, 1) := by decide +kernel
theorem dX11_digest_322 : decode cX11_digest 322 = .ok (.iinc 3 1, 3) := by decide +kernel
theorem dX11_digest_325 : decode cX11_digest 325 = .ok (.goto (-29), 3) := by decide +kernel
theorem dX11_digest_328 : decode cX11_digest 328 = .ok (.lload_n 1, 1) := by decide +kernel
theorem dX11_digest_329 : decode cX11_digest 329 = .ok (.aload_n 0, 1) := by decide +kernel
theorem dX11_digest_330 : decode cX11_digest 330 = .ok (.getfield 281, 3) := by decide +kernel
theorem dX11_digest_333 : decode cX11_digest 333 = .ok (.i2l, 1) := by decide +kernel
theorem dX11_digest_334 : decode cX11_digest 334 = .ok (.invokestatic 291, 3) := by decide +kernel
theorem dX11_digest_337 : decode cX11_digest 337 = .ok (.aload_n 0, 1) := by decide +kernel
theorem dX11_digest_338 : decode cX11_digest 338 = .ok (.getfield 278, 3) := by decide +kernel
theorem dX11_digest_341 : decode cX11_digest 341 = .ok (.i2l, 1) := by decide +kernel
theorem dX11_digest_342 : decode cX11_digest 342 = .ok (.invokestatic 291, 3) := by decide +kernel
theorem dX11_digest_345 : decode cX11_digest 345 = .ok (.aload_n 0, 1) := by decide +kernel
theorem dX11_digest_346 : decode cX11_digest 346 = .ok (.getfield 23, 3) := by decide +kernel
theorem dX11_digest_349 : decode cX11_digest 349 = .ok (.i2l, 1) := by decide +kernel
theorem dX11_digest_350 : decode cX11_digest 350 = .ok (.invokestatic 291, 3) := by decide +kernel
theorem dX11_digest_353 : decode cX11_digest 353 = .ok (.lstore_n 1, 1) := by decide +kernel
theorem dX11_digest_354 : decode cX11_digest 354 = .ok (.iconst 0, 1) := by decide +kernel
theorem dX11_digest_355 : decode cX11_digest 355 = .ok (.istore_n 3, 1) := by decide +kernel
theorem dX11_digest_356 : decode cX11_digest 356 = .ok (.iload_n 3, 1) := by decide +kernel
theorem dX11_digest_357 : decode cX11_digest 357 = .ok (.aload_n 0, 1) := by decide +kernel
theorem dX11_digest_358 : decode cX11_digest 358 = .ok (.getfield 278, 3) := by decide +kernel
theorem dX11_digest_361 : decode cX11_digest 361 = .ok (.if_icmp .ge 21, 3) := by decide +kernel
theorem dX11_digest_364 : decode cX11_digest 364 = .ok (.lload_n 1, 1) := by decide +kernel
theorem dX11_digest_365 : decode cX11_digest 365 = .ok (.aload_n 0, 1) := by decide +kernel
theorem dX11_digest_366 : decode cX11_digest 366 = .ok (.getfield 27, 3) := by decide +kernel
theorem dX11_digest_369 : decode cX11_digest 369 = .ok (.iload_n 3, 1) := by decide +kernel
theorem dX11_digest_370 : decode cX11_digest 370 = .ok (.iaload, 1) := by decide +kernel
theorem dX11_digest_371 : decode cX11_digest 371 = .ok (.i2l, 1) := by decide +kernel
theorem dX11_digest_372 : decode cX11_digest 372 = .ok (.invokestatic 291, 3) := by decide +kernel
theorem dX11_digest_375 : decode cX11_digest 375 = .ok (.lstore_n 1, 1) := by decide +kernel
theorem dX11_digest_376 : decode cX11_digest 376 = .ok (.iinc 3 1, 3) := by decide +kernel
theorem dX11_digest_379 : decode cX11_digest 379 = .ok (.goto (-23), 3) := by decide +kernel
theorem dX11_digest_382 : decode cX11_digest 382 = .ok (.iconst 0, 1) := by decide +kernel
theorem dX11_digest_383 : decode cX11_digest 383 = .ok (.istore_n 3, 1) := by decide +kernel
theorem dX11_digest_384 : decode cX11_digest 384 = .ok (.iload_n 3, 1) := by decide +kernel
theorem dX11_digest_385 : decode cX11_digest 385 = .ok (.aload_n 0, 1) := by decide +kernel
theorem dX11_digest_386 : decode cX11_digest 386 = .ok (.getfield 23, 3) := by decide +kernel
theorem dX11_digest_389 : decode cX11_digest 389 = .ok (.if_icmp .ge 21, 3) := by decide +kernel
theorem dX11_digest_392 : decode cX11_digest 392 = .ok (.lload_n 1, 1) := by decide +kernel
theorem dX11_digest_393 : decode cX11_digest 393 = .ok (.aload_n 0, 1) := by decide +kernel
theorem dX11_digest_394 : decode cX11_digest 394 = .ok (.getfield 30, 3) := by decide +kernel
theorem dX11_digest_397 : decode cX11_digest 397 = .ok (.iload_n 3, 1) := by decide +kernel
theorem dX11_digest_398 : decode cX11_digest 398 = .ok (.iaload, 1) := by decide +kernel
theorem dX11_digest_399 : decode cX11_digest 399 = .ok (.i2l, 1) := by decide +kernel
theorem dX11_digest_400 : decode cX11_digest 400 = .ok (.invokestatic 291, 3) := by decide +kernel
theorem dX11_digest_403 : decode cX11_digest 403 = .ok (.lstore_n 1, 1) := by decide +kernel
theorem dX11_digest_404 : decode cX11_digest 404 = .ok (.iinc 3 1, 3) := by decide +kernel
theorem dX11_digest_407 : decode cX11_digest 407 = .ok (.goto (-23), 3) := by decide +kernel
theorem dX11_digest_410 : decode cX11_digest 410 = .ok (.lload_n 1, 1) := by decide +kernel
theorem dX11_digest_411 : decode cX11_digest 411 = .ok (.lreturn, 1) := by decide +kernel
theorem dJ9_max_7cf53_0 : decode cJ9_max_7cf53 0 = .ok (.iload_n 0, 1) := by decide +kernel
theorem dJ9_max_7cf53_1 : decode cJ9_max_7cf53 1 = .ok (.iload_n 1, 1) := by decide +kernel
theorem dJ9_max_7cf53_2 : decode cJ9_max_7cf53 2 = .ok (.if_icmp .lt 7, 3) := by decide +kernel
theorem dJ9_max_7cf53_5 : decode cJ9_max_7cf53 5 = .ok (.iload_n 0, 1) := by decide +kernel
theorem dJ9_max_7cf53_6 : decode cJ9_max_7cf53 6 = .ok (.goto 4, 3) := by decide +kernel
theorem dJ9_max_7cf53_9 : decode cJ9_max_7cf53 9 = .ok (.iload_n 1, 1) := by decide +kernel
theorem dJ9_max_7cf53_10 : decode cJ9_max_7cf53 10 = .ok (.ireturn, 1) := by decide +kernel
theorem dJ9_min_7cf53_0 : decode cJ9_min_7cf53 0 = .ok (.iload_n 0, 1) := by decide +kernel
theorem dJ9_min_7cf53_1 : decode cJ9_min_7cf53 1 = .ok (.iload_n 1, 1) := by decide +kernel
theorem dJ9_min_7cf53_2 : decode cJ9_min_7cf53 2 = .ok (.if_icmp .gt 7, 3) := by decide +kernel
theorem dJ9_min_7cf53_5 : decode cJ9_min_7cf53 5 = .ok (.iload_n 0, 1) := by decide +kernel
theorem dJ9_min_7cf53_6 : decode cJ9_min_7cf53 6 = .ok (.goto 4, 3) := by decide +kernel
theorem dJ9_min_7cf53_9 : decode cJ9_min_7cf53 9 = .ok (.iload_n 1, 1) := by decide +kernel
theorem dJ9_min_7cf53_10 : decode cJ9_min_7cf53 10 = .ok (.ireturn, 1) := by decide +kernel
theorem dJ0_length_8abf5_0 : decode cJ0_length_8abf5 0 = .ok (.aload_n 0, 1) := by decide +kernel
theorem dJ0_length_8abf5_1 : decode cJ0_length_8abf5 1 = .ok (.getfield 9, 3) := by decide +kernel
theorem dJ0_length_8abf5_4 : decode cJ0_length_8abf5 4 = .ok (.arraylength, 1) := by decide +kernel
theorem dJ0_length_8abf5_5 : decode cJ0_length_8abf5 5 = .ok (.aload_n 0, 1) := by decide +kernel
theorem dJ0_length_8abf5_6 : decode cJ0_length_8abf5 6 = .ok (.invokevirtual 335, 3) := by decide +kernel
theorem dJ0_length_8abf5_9 : decode cJ0_length_8abf5 9 = .ok (.ishr, 1) := by decide +kernel
theorem dJ0_length_8abf5_10 : decode cJ0_length_8abf5 10 = .ok (.ireturn, 1) := by decide +kernel
theorem dJ0_charAt_5068e_0 : decode cJ0_charAt_5068e 0 = .ok (.aload_n 0, 1) := by decide +kernel
theorem dJ0_charAt_5068e_1 : decode cJ0_charAt_5068e 1 = .ok (.invokevirtual 492, 3) := by decide +kernel
theorem dJ0_charAt_5068e_4 : decode cJ0_charAt_5068e 4 = .ok (.ifCond .eq 12, 3) := by decide +kernel
theorem dJ0_charAt_5068e_7 : decode cJ0_charAt_5068e 7 = .ok (.aload_n 0, 1) := by decide +kernel
theorem dJ0_charAt_5068e_8 : decode cJ0_charAt_5068e 8 = .ok (.getfield 9, 3) := by decide +kernel
theorem dJ0_charAt_5068e_11 : decode cJ0_charAt_5068e 11 = .ok (.iload_n 1, 1) := by decide +kernel
theorem dJ0_charAt_5068e_12 : decode cJ0_charAt_5068e 12 = .ok (.invokestatic 495, 3) := by decide +kernel
theorem dJ0_charAt_5068e_15 : decode cJ0_charAt_5068e 15 = .ok (.ireturn, 1) := by decide +kernel
theorem dJ0_charAt_5068e_16 : decode cJ0_charAt_5068e 16 = .ok (.aload_n 0, 1) := by decide +kernel
theorem dJ0_charAt_5068e_17 : decode cJ0_charAt_5068e 17 = .ok (.getfield 9, 3) := by decide +kernel
theorem dJ0_charAt_5068e_20 : decode cJ0_charAt_5068e 20 = .ok (.iload_n 1, 1) := by decide +kernel
theorem dJ0_charAt_5068e_21 : decode cJ0_charAt_5068e 21 = .ok (.invokestatic 498, 3) := by decide +kernel
theorem dJ0_charAt_5068e_24 : decode cJ0_charAt_5068e 24 = .ok (.ireturn, 1) := by decide +kernel
theorem dJ0_coder_7d493_0 : decode cJ0_coder_7d493 0 = .ok (.getstatic 38, 3) := by decide +kernel
theorem dJ0_coder_7d493_3 : decode cJ0_coder_7d493 3 = .ok (.ifCond .eq 10, 3) := by decide +kernel
theorem dJ0_coder_7d493_6 : decode cJ0_coder_7d493 6 = .ok (.aload_n 0, 1) := by decide +kernel
theorem dJ0_coder_7d493_7 : decode cJ0_coder_7d493 7 = .ok (.getfield 15, 3) := by decide +kernel
theorem dJ0_coder_7d493_10 : decode cJ0_coder_7d493 10 = .ok (.goto 4, 3) := by decide +kernel
theorem dJ0_coder_7d493_13 : decode cJ0_coder_7d493 13 = .ok (.iconst 1, 1) := by decide +kernel
theorem dJ0_coder_7d493_14 : decode cJ0_coder_7d493 14 = .ok (.ireturn, 1) := by decide +kernel
theorem dJ0_isLatin1_aae02_0 : decode cJ0_isLatin1_aae02 0 = .ok (.getstatic 38, 3) := by decide +kernel
theorem dJ0_isLatin1_aae02_3 : decode cJ0_isLatin1_aae02 3 = .ok (.ifCond .eq 14, 3) := by decide +kernel
theorem dJ0_isLatin1_aae02_6 : decode cJ0_isLatin1_aae02 6 = .ok (.aload_n 0, 1) := by decide +kernel
theorem dJ0_isLatin1_aae02_7 : decode cJ0_isLatin1_aae02 7 = .ok (.getfield 15, 3) := by decide +kernel
theorem dJ0_isLatin1_aae02_10 : decode cJ0_isLatin1_aae02 10 = .ok (.ifCond .ne 7, 3) := by decide +kernel
theorem dJ0_isLatin1_aae02_13 : decode cJ0_isLatin1_aae02 13 = .ok (.iconst 1, 1) := by decide +kernel
theorem dJ0_isLatin1_aae02_14 : decode cJ0_isLatin1_aae02 14 = .ok (.goto 4, 3) := by decide +kernel
theorem dJ0_isLatin1_aae02_17 : decode cJ0_isLatin1_aae02 17 = .ok (.iconst 0, 1) := by decide +kernel
theorem dJ0_isLatin1_aae02_18 : decode cJ0_isLatin1_aae02 18 = .ok (.ireturn, 1) := by decide +kernel
theorem dJ0_checkIndex_df160_0 : decode cJ0_checkIndex_df160 0 = .ok (.iload_n 0, 1) := by decide +kernel
theorem dJ0_checkIndex_df160_1 : decode cJ0_checkIndex_df160 1 = .ok (.iload_n 1, 1) := by decide +kernel
theorem dJ0_checkIndex_df160_2 : decode cJ0_checkIndex_df160 2 = .ok (.getstatic 1053, 3) := by decide +kernel
theorem dJ0_checkIndex_df160_5 : decode cJ0_checkIndex_df160 5 = .ok (.invokestatic 1059, 3) := by decide +kernel
theorem dJ0_checkIndex_df160_8 : decode cJ0_checkIndex_df160 8 = .ok (.pop, 1) := by decide +kernel
theorem dJ0_checkIndex_df160_9 : decode cJ0_checkIndex_df160 9 = .ok (.return_, 1) := by decide +kernel
theorem dJ1_charAt_3b067_0 : decode cJ1_charAt_3b067 0 = .ok (.iload_n 1, 1) := by decide +kernel
theorem dJ1_charAt_3b067_1 : decode cJ1_charAt_3b067 1 = .ok (.aload_n 0, 1) := by decide +kernel
theorem dJ1_charAt_3b067_2 : decode cJ1_charAt_3b067 2 = .ok (.arraylength, 1) := by decide +kernel
theorem dJ1_charAt_3b067_3 : decode cJ1_charAt_3b067 3 = .ok (.invokestatic 9, 3) := by decide +kernel
theorem dJ1_charAt_3b067_6 : decode cJ1_charAt_3b067 6 = .ok (.aload_n 0, 1) := by decide +kernel
theorem dJ1_charAt_3b067_7 : decode cJ1_charAt_3b067 7 = .ok (.iload_n 1, 1) := by decide +kernel
theorem dJ1_charAt_3b067_8 : decode cJ1_charAt_3b067 8 = .ok (.baload, 1) := by decide +kernel
theorem dJ1_charAt_3b067_9 : decode cJ1_charAt_3b067 9 = .ok (.sipush 255, 3) := by decide +kernel
theorem dJ1_charAt_3b067_12 : decode cJ1_charAt_3b067 12 = .ok (.iand, 1) := by decide +kernel
theorem dJ1_charAt_3b067_13 : decode cJ1_charAt_3b067 13 = .ok (.i2c, 1) := by decide +kernel
theorem dJ1_charAt_3b067_14 : decode cJ1_charAt_3b067 14 = .ok (.ireturn, 1) := by decide +kernel
theorem dJ2_getChar_3b067_0 : decode cJ2_getChar_3b067 0 = .ok (.getstatic 44, 3) := by decide +kernel
theorem dJ2_getChar_3b067_3 : decode cJ2_getChar_3b067 3 = .ok (.ifCond .ne 25, 3) := by decide +kernel
theorem dJ2_getChar_3b067_6 : decode cJ2_getChar_3b067 6 = .ok (.iload_n 1, 1) := by decide +kernel
theorem dJ2_getChar_3b067_7 : decode cJ2_getChar_3b067 7 = .ok (.ifCond .lt 11, 3) := by decide +kernel
theorem dJ2_getChar_3b067_10 : decode cJ2_getChar_3b067 10 = .ok (.iload_n 1, 1) := by decide +kernel
theorem dJ2_getChar_3b067_11 : decode cJ2_getChar_3b067 11 = .ok (.aload_n 0, 1) := by decide +kernel
theorem dJ2_getChar_3b067_12 : decode cJ2_getChar_3b067 12 = .ok (.invokestatic 48, 3) := by decide +kernel
theorem dJ2_getChar_3b067_15 : decode cJ2_getChar_3b067 15 = .ok (.if_icmp .lt 13, 3) := by decide +kernel
theorem dJ2_getChar_3b067_18 : decode cJ2_getChar_3b067 18 = .ok (.new 52, 3) := by decide +kernel
theorem dJ2_getChar_3b067_21 : decode cJ2_getChar_3b067 21 = .ok (.dup, 1) := by decide +kernel
theorem dJ2_getChar_3b067_22 : decode cJ2_getChar_3b067 22 = .ok (.ldc 54, 2) := by decide +kernel
theorem dJ2_getChar_3b067_24 : decode cJ2_getChar_3b067 24 = .ok (.invokespecial 56, 3) := by decide +kernel
theorem dJ2_getChar_3b067_27 : decode cJ2_getChar_3b067 27 = .ok (.athrow, 1) := by decide +kernel
theorem dJ2_getChar_3b067_28 : decode cJ2_getChar_3b067 28 = .ok (.iload_n 1, 1) := by decide +kernel
theorem dJ2_getChar_3b067_29 : decode cJ2_getChar_3b067 29 = .ok (.iconst 1, 1) := by decide +kernel
theorem dJ2_getChar_3b067_30 : decode cJ2_getChar_3b067 30 = .ok (.ishl, 1) := by decide +kernel
theorem dJ2_getChar_3b067_31 : decode cJ2_getChar_3b067 31 = .ok (.istore_n 1, 1) := by decide +kernel
theorem dJ2_getChar_3b067_32 : decode cJ2_getChar_3b067 32 = .ok (.aload_n 0, 1) := by decide +kernel
theorem dJ2_getChar_3b067_33 : decode cJ2_getChar_3b067 33 = .ok (.iload_n 1, 1) := by decide +kernel
theorem dJ2_getChar_3b067_34 : decode cJ2_getChar_3b067 34 = .ok (.iinc 1 1, 3) := by decide +kernel
theorem dJ2_getChar_3b067_37 : decode cJ2_getChar_3b067 37 = .ok (.baload, 1) := by decide +kernel
theorem dJ2_getChar_3b067_38 : decode cJ2_getChar_3b067 38 = .ok (.sipush 255, 3) := by decide +kernel
theorem dJ2_getChar_3b067_41 : decode cJ2_getChar_3b067 41 = .ok (.iand, 1) := by decide +kernel
theorem dJ2_getChar_3b067_42 : decode cJ2_getChar_3b067 42 = .ok (.getstatic 59, 3) := by decide +kernel
theorem dJ2_getChar_3b067_45 : decode cJ2_getChar_3b067 45 = .ok (.ishl, 1) := by decide +kernel
theorem dJ2_getChar_3b067_46 : decode cJ2_getChar_3b067 46 = .ok (.aload_n 0, 1) := by decide +kernel
theorem dJ2_getChar_3b067_47 : decode cJ2_getChar_3b067 47 = .ok (.iload_n 1, 1) := by decide +kernel
theorem dJ2_getChar_3b067_48 : decode cJ2_getChar_3b067 48 = .ok (.baload, 1) := by decide +kernel
theorem dJ2_getChar_3b067_49 : decode cJ2_getChar_3b067 49 = .ok (.sipush 255, 3) := by decide +kernel
theorem dJ2_getChar_3b067_52 : decode cJ2_getChar_3b067 52 = .ok (.iand, 1) := by decide +kernel
theorem dJ2_getChar_3b067_53 : decode cJ2_getChar_3b067 53 = .ok (.getstatic 63, 3) := by decide +kernel
theorem dJ2_getChar_3b067_56 : decode cJ2_getChar_3b067 56 = .ok (.ishl, 1) := by decide +kernel
theorem dJ2_getChar_3b067_57 : decode cJ2_getChar_3b067 57 = .ok (.ior, 1) := by decide +kernel
theorem dJ2_getChar_3b067_58 : decode cJ2_getChar_3b067 58 = .ok (.i2c, 1) := by decide +kernel
theorem dJ2_getChar_3b067_59 : decode cJ2_getChar_3b067 59 = .ok (.ireturn, 1) := by decide +kernel
theorem dJ2_length_9d52b_0 : decode cJ2_length_9d52b 0 = .ok (.aload_n 0, 1) := by decide +kernel
theorem dJ2_length_9d52b_1 : decode cJ2_length_9d52b 1 = .ok (.arraylength, 1) := by decide +kernel
theorem dJ2_length_9d52b_2 : decode cJ2_length_9d52b 2 = .ok (.iconst 1, 1) := by decide +kernel
theorem dJ2_length_9d52b_3 : decode cJ2_length_9d52b 3 = .ok (.ishr, 1) := by decide +kernel
theorem dJ2_length_9d52b_4 : decode cJ2_length_9d52b 4 = .ok (.ireturn, 1) := by decide +kernel
theorem dJ2_charAt_3b067_0 : decode cJ2_charAt_3b067 0 = .ok (.iload_n 1, 1) := by decide +kernel
theorem dJ2_charAt_3b067_1 : decode cJ2_charAt_3b067 1 = .ok (.aload_n 0, 1) := by decide +kernel
theorem dJ2_charAt_3b067_2 : decode cJ2_charAt_3b067 2 = .ok (.invokestatic 67, 3) := by decide +kernel
theorem dJ2_charAt_3b067_5 : decode cJ2_charAt_3b067 5 = .ok (.aload_n 0, 1) := by decide +kernel
theorem dJ2_charAt_3b067_6 : decode cJ2_charAt_3b067 6 = .ok (.iload_n 1, 1) := by decide +kernel
theorem dJ2_charAt_3b067_7 : decode cJ2_charAt_3b067 7 = .ok (.invokestatic 71, 3) := by decide +kernel
theorem dJ2_charAt_3b067_10 : decode cJ2_charAt_3b067 10 = .ok (.ireturn, 1) := by decide +kernel
theorem dJ2_checkIndex_2214a_0 : decode cJ2_checkIndex_2214a 0 = .ok (.iload_n 0, 1) := by decide +kernel
theorem dJ2_checkIndex_2214a_1 : decode cJ2_checkIndex_2214a 1 = .ok (.aload_n 1, 1) := by decide +kernel
theorem dJ2_checkIndex_2214a_2 : decode cJ2_checkIndex_2214a 2 = .ok (.invokestatic 48, 3) := by decide +kernel
theorem dJ2_checkIndex_2214a_5 : decode cJ2_checkIndex_2214a 5 = .ok (.invokestatic 414, 3) := by decide +kernel
theorem dJ2_checkIndex_2214a_8 : decode cJ2_checkIndex_2214a 8 = .ok (.return_, 1) := by decide +kernel
theorem dJ7_fill_d0a16_0 : decode cJ7_fill_d0a16 0 = .ok (.iconst 0, 1) := by decide +kernel
theorem dJ7_fill_d0a16_1 : decode cJ7_fill_d0a16 1 = .ok (.istore_n 3, 1) := by decide +kernel
theorem dJ7_fill_d0a16_2 : decode cJ7_fill_d0a16 2 = .ok (.aload_n 0, 1) := by decide +kernel
theorem dJ7_fill_d0a16_3 : decode cJ7_fill_d0a16 3 = .ok (.arraylength, 1) := by decide +kernel
theorem dJ7_fill_d0a16_4 : decode cJ7_fill_d0a16 4 = .ok (.istore 4, 2) := by decide +kernel
theorem dJ7_fill_d0a16_6 : decode cJ7_fill_d0a16 6 = .ok (.iload_n 3, 1) := by decide +kernel
theorem dJ7_fill_d0a16_7 : decode cJ7_fill_d0a16 7 = .ok (.iload 4, 2) := by decide +kernel
theorem dJ7_fill_d0a16_9 : decode cJ7_fill_d0a16 9 = .ok (.if_icmp .ge 13, 3) := by decide +kernel
theorem dJ7_fill_d0a16_12 : decode cJ7_fill_d0a16 12 = .ok (.aload_n 0, 1) := by decide +kernel
theorem dJ7_fill_d0a16_13 : decode cJ7_fill_d0a16 13 = .ok (.iload_n 3, 1) := by decide +kernel
theorem dJ7_fill_d0a16_14 : decode cJ7_fill_d0a16 14 = .ok (.lload_n 1, 1) := by decide +kernel
theorem dJ7_fill_d0a16_15 : decode cJ7_fill_d0a16 15 = .ok (.lastore, 1) := by decide +kernel
theorem dJ7_fill_d0a16_16 : decode cJ7_fill_d0a16 16 = .ok (.iinc 3 1, 3) := by decide +kernel
theorem dJ7_fill_d0a16_19 : decode cJ7_fill_d0a16 19 = .ok (.goto (-13), 3) := by decide +kernel
theorem dJ7_fill_d0a16_22 : decode cJ7_fill_d0a16 22 = .ok (.return_, 1) := by decide +kernel
theorem dJ7_fill_53178_0 : decode cJ7_fill_53178 0 = .ok (.iconst 0, 1) := by decide +kernel
theorem dJ7_fill_53178_1 : decode cJ7_fill_53178 1 = .ok (.istore_n 2, 1) := by decide +kernel
theorem dJ7_fill_53178_2 : decode cJ7_fill_53178 2 = .ok (.aload_n 0, 1) := by decide +kernel
theorem dJ7_fill_53178_3 : decode cJ7_fill_53178 3 = .ok (.arraylength, 1) := by decide +kernel
theorem dJ7_fill_53178_4 : decode cJ7_fill_53178 4 = .ok (.istore_n 3, 1) := by decide +kernel
theorem dJ7_fill_53178_5 : decode cJ7_fill_53178 5 = .ok (.iload_n 2, 1) := by decide +kernel
theorem dJ7_fill_53178_6 : decode cJ7_fill_53178 6 = .ok (.iload_n 3, 1) := by decide +kernel
theorem dJ7_fill_53178_7 : decode cJ7_fill_53178 7 = .ok (.if_icmp .ge 13, 3) := by decide +kernel
theorem dJ7_fill_53178_10 : decode cJ7_fill_53178 10 = .ok (.aload_n 0, 1) := by decide +kernel
theorem dJ7_fill_53178_11 : decode cJ7_fill_53178 11 = .ok (.iload_n 2, 1) := by decide +kernel
theorem dJ7_fill_53178_12 : decode cJ7_fill_53178 12 = .ok (.iload_n 1, 1) := by decide +kernel
theorem dJ7_fill_53178_13 : decode cJ7_fill_53178 13 = .ok (.iastore, 1) := by decide +kernel
theorem dJ7_fill_53178_14 : decode cJ7_fill_53178 14 = .ok (.iinc 2 1, 3) := by decide +kernel
theorem dJ7_fill_53178_17 : decode cJ7_fill_53178 17 = .ok (.goto (-12), 3) := by decide +kernel
theorem dJ7_fill_53178_20 : decode cJ7_fill_53178 20 = .ok (.return_, 1) := by decide +kernel
theorem dJ3_checkIndex_8e157_0 : decode cJ3_checkIndex_8e157 0 = .ok (.iload_n 0, 1) := by decide +kernel
theorem dJ3_checkIndex_8e157_1 : decode cJ3_checkIndex_8e157 1 = .ok (.ifCond .lt 8, 3) := by decide +kernel
theorem dJ3_checkIndex_8e157_4 : decode cJ3_checkIndex_8e157 4 = .ok (.iload_n 0, 1) := by decide +kernel
theorem dJ3_checkIndex_8e157_5 : decode cJ3_checkIndex_8e157 5 = .ok (.iload_n 1, 1) := by decide +kernel
theorem dJ3_checkIndex_8e157_6 : decode cJ3_checkIndex_8e157 6 = .ok (.if_icmp .lt 10, 3) := by decide +kernel
theorem dJ3_checkIndex_8e157_9 : decode cJ3_checkIndex_8e157 9 = .ok (.aload_n 2, 1) := by decide +kernel
theorem dJ3_checkIndex_8e157_10 : decode cJ3_checkIndex_8e157 10 = .ok (.iload_n 0, 1) := by decide +kernel
theorem dJ3_checkIndex_8e157_11 : decode cJ3_checkIndex_8e157 11 = .ok (.iload_n 1, 1) := by decide +kernel
theorem dJ3_checkIndex_8e157_12 : decode cJ3_checkIndex_8e157 12 = .ok (.invokestatic 95, 3) := by decide +kernel
theorem dJ3_checkIndex_8e157_15 : decode cJ3_checkIndex_8e157 15 = .ok (.athrow, 1) := by decide +kernel
theorem dJ3_checkIndex_8e157_16 : decode cJ3_checkIndex_8e157 16 = .ok (.iload_n 0, 1) := by decide +kernel
theorem dJ3_checkIndex_8e157_17 : decode cJ3_checkIndex_8e157 17 = .ok (.ireturn, 1) := by decide +kernel
theorem dL_law_0 : decode cL_law 0 = .ok (.new 7, 3) := by decide +kernel
theorem dL_law_3 : decode cL_law 3 = .ok (.dup, 1) := by decide +kernel
theorem dL_law_4 : decode cL_law 4 = .ok (.invokespecial 9, 3) := by decide +kernel
theorem dL_law_7 : decode cL_law 7 = .ok (.astore_n 1, 1) := by decide +kernel
theorem dL_law_8 : decode cL_law 8 = .ok (.new 10, 3) := by decide +kernel
theorem dL_law_11 : decode cL_law 11 = .ok (.dup, 1) := by decide +kernel
theorem dL_law_12 : decode cL_law 12 = .ok (.invokespecial 12, 3) := by decide +kernel
theorem dL_law_15 : decode cL_law 15 = .ok (.astore_n 2, 1) := by decide +kernel
theorem dL_law_16 : decode cL_law 16 = .ok (.iconst 0, 1) := by decide +kernel
theorem dL_law_17 : decode cL_law 17 = .ok (.istore_n 3, 1) := by decide +kernel
theorem dL_law_18 : decode cL_law 18 = .ok (.iload_n 3, 1) := by decide +kernel
theorem dL_law_19 : decode cL_law 19 = .ok (.aload_n 0, 1) := by decide +kernel
theorem dL_law_20 : decode cL_law 20 = .ok (.arraylength, 1) := by decide +kernel
theorem dL_law_21 : decode cL_law 21 = .ok (.bipush 6, 2) := by decide +kernel
theorem dL_law_23 : decode cL_law 23 = .ok (.isub, 1) := by decide +kernel
theorem dL_law_24 : decode cL_law 24 = .ok (.if_icmp .gt 1105, 3) := by decide +kernel
theorem dL_law_27 : decode cL_law 27 = .ok (.aload_n 0, 1) := by decide +kernel
theorem dL_law_28 : decode cL_law 28 = .ok (.iload_n 3, 1) := by decide +kernel
theorem dL_law_29 : decode cL_law 29 = .ok (.iaload, 1) := by decide +kernel
theorem dL_law_30 : decode cL_law 30 = .ok (.bipush 31, 2) := by decide +kernel
theorem dL_law_32 : decode cL_law 32 = .ok (.iand, 1) := by decide +kernel
theorem dL_law_33 : decode cL_law 33 = .ok (.tableswitch 1090 0 31 #[143, 176, 209, 252, 295, 328, 351, 414, 427, 440, 463, 476, 489, 522, 555, 588, 631, 654, 677, 700, 733, 756, 819, 862, 905, 928, 951, 984, 1007, 1030, 1053, 1076], 143) := by decide +kernel
theorem dL_law_176 : decode cL_law 176 = .ok (.aload_n 1, 1) := by decide +kernel
theorem dL_law_177 : decode cL_law 177 = .ok (.aload_n 0, 1) := by decide +kernel
theorem dL_law_178 : decode cL_law 178 = .ok (.iload_n 3, 1) := by decide +kernel
theorem dL_law_179 : decode cL_law 179 = .ok (.iconst 1, 1) := by decide +kernel
theorem dL_law_180 : decode cL_law 180 = .ok (.iadd, 1) := by decide +kernel
theorem dL_law_181 : decode cL_law 181 = .ok (.iaload, 1) := by decide +kernel
theorem dL_law_182 : decode cL_law 182 = .ok (.aload_n 0, 1) := by decide +kernel
theorem dL_law_183 : decode cL_law 183 = .ok (.iload_n 3, 1) := by decide +kernel
theorem dL_law_184 : decode cL_law 184 = .ok (.iconst 2, 1) := by decide +kernel
theorem dL_law_185 : decode cL_law 185 = .ok (.iadd, 1) := by decide +kernel
theorem dL_law_186 : decode cL_law 186 = .ok (.iaload, 1) := by decide +kernel
theorem dL_law_187 : decode cL_law 187 = .ok (.invokevirtual 13, 3) := by decide +kernel
theorem dL_law_190 : decode cL_law 190 = .ok (.aload_n 2, 1) := by decide +kernel
theorem dL_law_191 : decode cL_law 191 = .ok (.aload_n 0, 1) := by decide +kernel
theorem dL_law_192 : decode cL_law 192 = .ok (.iload_n 3, 1) := by decide +kernel
theorem dL_law_193 : decode cL_law 193 = .ok (.iconst 1, 1) := by decide +kernel
theorem dL_law_194 : decode cL_law 194 = .ok (.iadd, 1) := by decide +kernel
theorem dL_law_195 : decode cL_law 195 = .ok (.iaload, 1) := by decide +kernel
theorem dL_law_196 : decode cL_law 196 = .ok (.aload_n 0, 1) := by decide +kernel
theorem dL_law_197 : decode cL_law 197 = .ok (.iload_n 3, 1) := by decide +kernel
theorem dL_law_198 : decode cL_law 198 = .ok (.iconst 2, 1) := by decide +kernel
theorem dL_law_199 : decode cL_law 199 = .ok (.iadd, 1) := by decide +kernel
theorem dL_law_200 : decode cL_law 200 = .ok (.iaload, 1) := by decide +kernel
theorem dL_law_201 : decode cL_law 201 = .ok (.invokevirtual 17, 3) := by decide +kernel
theorem dL_law_204 : decode cL_law 204 = .ok (.if_icmp .eq 919, 3) := by decide +kernel
theorem dL_law_207 : decode cL_law 207 = .ok (.iconst 0, 1) := by decide +kernel
theorem dL_law_208 : decode cL_law 208 = .ok (.ireturn, 1) := by decide +kernel
theorem dL_law_209 : decode cL_law 209 = .ok (.aload_n 1, 1) := by decide +kernel
theorem dL_law_210 : decode cL_law 210 = .ok (.aload_n 0, 1) := by decide +kernel
theorem dL_law_211 : decode cL_law 211 = .ok (.iload_n 3, 1) := by decide +kernel
theorem dL_law_212 : decode cL_law 212 = .ok (.iconst 1, 1) := by decide +kernel
theorem dL_law_213 : decode cL_law 213 = .ok (.iadd, 1) := by decide +kernel
theorem dL_law_214 : decode cL_law 214 = .ok (.iaload, 1) := by decide +kernel
theorem dL_law_215 : decode cL_law 215 = .ok (.aload_n 0, 1) := by decide +kernel
theorem dL_law_216 : decode cL_law 216 = .ok (.iload_n 3, 1) := by decide +kernel
theorem dL_law_217 : decode cL_law 217 = .ok (.iconst 2, 1) := by decide +kernel
theorem dL_law_218 : decode cL_law 218 = .ok (.iadd, 1) := by decide +kernel
theorem dL_law_219 : decode cL_law 219 = .ok (.iaload, 1) := by decide +kernel
theorem dL_law_220 : decode cL_law 220 = .ok (.invokevirtual 18, 3) := by decide +kernel
theorem dL_law_223 : decode cL_law 223 = .ok (.aload_n 2, 1) := by decide +kernel
theorem dL_law_224 : decode cL_law 224 = .ok (.aload_n 0, 1) := by decide +kernel
theorem dL_law_225 : decode cL_law 225 = .ok (.iload_n 3, 1) := by decide +kernel
theorem dL_law_226 : decode cL_law 226 = .ok (.iconst 1, 1) := by decide +kernel
theorem dL_law_227 : decode cL_law 227 = .ok (.iadd, 1) := by decide +kernel
theorem dL_law_228 : decode cL_law 228 = .ok (.iaload, 1) := by decide +kernel
theorem dL_law_229 : decode cL_law 229 = .ok (.aload_n 0, 1) := by decide +kernel
theorem dL_law_230 : decode cL_law 230 = .ok (.iload_n 3, 1) := by decide +kernel
theorem dL_law_231 : decode cL_law 231 = .ok (.iconst 2, 1) := by decide +kernel
theorem dL_law_232 : decode cL_law 232 = .ok (.iadd, 1) := by decide +kernel
theorem dL_law_233 : decode cL_law 233 = .ok (.iaload, 1) := by decide +kernel
theorem dL_law_234 : decode cL_law 234 = .ok (.invokevirtual 21, 3) := by decide +kernel
theorem dL_law_237 : decode cL_law 237 = .ok (.if_icmp .eq 886, 3) := by decide +kernel
theorem dL_law_240 : decode cL_law 240 = .ok (.iconst 0, 1) := by decide +kernel
theorem dL_law_241 : decode cL_law 241 = .ok (.ireturn, 1) := by decide +kernel
theorem dL_law_242 : decode cL_law 242 = .ok (.aload_n 1, 1) := by decide +kernel
theorem dL_law_243 : decode cL_law 243 = .ok (.aload_n 0, 1) := by decide +kernel
theorem dL_law_244 : decode cL_law 244 = .ok (.iload_n 3, 1) := by decide +kernel
theorem dL_law_245 : decode cL_law 245 = .ok (.iconst 1, 1) := by decide +kernel
theorem dL_law_246 : decode cL_law 246 = .ok (.iadd, 1) := by decide +kernel
theorem dL_law_247 : decode cL_law 247 = .ok (.iaload, 1) := by decide +kernel
theorem dL_law_248 : decode cL_law 248 = .ok (.aload_n 0, 1) := by decide +kernel
theorem dL_law_249 : decode cL_law 249 = .ok (.iload_n 3, 1) := by decide +kernel
theorem dL_law_250 : decode cL_law 250 = .ok (.iconst 2, 1) := by decide +kernel
theorem dL_law_251 : decode cL_law 251 = .ok (.iadd, 1) := by decide +kernel
theorem dL_law_252 : decode cL_law 252 = .ok (.iaload, 1) := by decide +kernel
theorem dL_law_253 : decode cL_law 253 = .ok (.aload_n 0, 1) := by decide +kernel
theorem dL_law_254 : decode cL_law 254 = .ok (.iload_n 3, 1) := by decide +kernel
theorem dL_law_255 : decode cL_law 255 = .ok (.iconst 3, 1) := by decide +kernel
theorem dL_law_256 : decode cL_law 256 = .ok (.iadd, 1) := by decide +kernel
theorem dL_law_257 : decode cL_law 257 = .ok (.iaload, 1) := by decide +kernel
theorem dL_law_258 : decode cL_law 258 = .ok (.invokevirtual 22, 3) := by decide +kernel
theorem dL_law_261 : decode cL_law 261 = .ok (.aload_n 2, 1) := by decide +kernel
theorem dL_law_262 : decode cL_law 262 = .ok (.aload_n 0, 1) := by decide +kernel
theorem dL_law_263 : decode cL_law 263 = .ok (.iload_n 3, 1) := by decide +kernel
theorem dL_law_264 : decode cL_law 264 = .ok (.iconst 1, 1) := by decide +kernel
theorem dL_law_265 : decode cL_law 265 = .ok (.iadd, 1) := by decide +kernel
theorem dL_law_266 : decode cL_law 266 = .ok (.iaload, 1) := by decide +kernel
theorem dL_law_267 : decode cL_law 267 = .ok (.aload_n 0, 1) := by decide +kernel
theorem dL_law_268 : decode cL_law 268 = .ok (.iload_n 3, 1) := by decide +kernel
theorem dL_law_269 : decode cL_law 269 = .ok (.iconst 2, 1) := by decide +kernel
theorem dL_law_270 : decode cL_law 270 = .ok (.iadd, 1) := by decide +kernel
theorem dL_law_271 : decode cL_law 271 = .ok (.iaload, 1) := by decide +kernel
theorem dL_law_272 : decode cL_law 272 = .ok (.aload_n 0, 1) := by decide +kernel
theorem dL_law_273 : decode cL_law 273 = .ok (.iload_n 3, 1) := by decide +kernel
theorem dL_law_274 : decode cL_law 274 = .ok (.iconst 3, 1) := by decide +kernel
theorem dL_law_275 : decode cL_law 275 = .ok (.iadd, 1) := by decide +kernel
theorem dL_law_276 : decode cL_law 276 = .ok (.iaload, 1) := by decide +kernel
theorem dL_law_277 : decode cL_law 277 = .ok (.invokevirtual 26, 3) := by decide +kernel
theorem dL_law_280 : decode cL_law 280 = .ok (.if_icmp .eq 843, 3) := by decide +kernel
theorem dL_law_283 : decode cL_law 283 = .ok (.iconst 0, 1) := by decide +kernel
theorem dL_law_284 : decode cL_law 284 = .ok (.ireturn, 1) := by decide +kernel
theorem dL_law_285 : decode cL_law 285 = .ok (.aload_n 1, 1) := by decide +kernel
theorem dL_law_286 : decode cL_law 286 = .ok (.aload_n 0, 1) := by decide +kernel
theorem dL_law_287 : decode cL_law 287 = .ok (.iload_n 3, 1) := by decide +kernel
theorem dL_law_288 : decode cL_law 288 = .ok (.iconst 1, 1) := by decide +kernel
theorem dL_law_289 : decode cL_law 289 = .ok (.iadd, 1) := by decide +kernel
theorem dL_law_290 : decode cL_law 290 = .ok (.iaload, 1) := by decide +kernel
theorem dL_law_291 : decode cL_law 291 = .ok (.aload_n 0, 1) := by decide +kernel
theorem dL_law_292 : decode cL_law 292 = .ok (.iload_n 3, 1) := by decide +kernel
theorem dL_law_293 : decode cL_law 293 = .ok (.iconst 2, 1) := by decide +kernel
theorem dL_law_294 : decode cL_law 294 = .ok (.iadd, 1) := by decide +kernel
theorem dL_law_295 : decode cL_law 295 = .ok (.iaload, 1) := by decide +kernel
theorem dL_law_296 : decode cL_law 296 = .ok (.aload_n 0, 1) := by decide +kernel
theorem dL_law_297 : decode cL_law 297 = .ok (.iload_n 3, 1) := by decide +kernel
theorem dL_law_298 : decode cL_law 298 = .ok (.iconst 3, 1) := by decide +kernel
theorem dL_law_299 : decode cL_law 299 = .ok (.iadd, 1) := by decide +kernel
theorem dL_law_300 : decode cL_law 300 = .ok (.iaload, 1) := by decide +kernel
theorem dL_law_301 : decode cL_law 301 = .ok (.invokevirtual 27, 3) := by decide +kernel
theorem dL_law_304 : decode cL_law 304 = .ok (.aload_n 2, 1) := by decide +kernel
theorem dL_law_305 : decode cL_law 305 = .ok (.aload_n 0, 1) := by decide +kernel
theorem dL_law_306 : decode cL_law 306 = .ok (.iload_n 3, 1) := by decide +kernel
theorem dL_law_307 : decode cL_law 307 = .ok (.iconst 1, 1) := by decide +kernel
theorem dL_law_308 : decode cL_law 308 = .ok (.iadd, 1) := by decide +kernel
theorem dL_law_309 : decode cL_law 309 = .ok (.iaload, 1) := by decide +kernel
theorem dL_law_310 : decode cL_law 310 = .ok (.aload_n 0, 1) := by decide +kernel
theorem dL_law_311 : decode cL_law 311 = .ok (.iload_n 3, 1) := by decide +kernel
theorem dL_law_312 : decode cL_law 312 = .ok (.iconst 2, 1) := by decide +kernel
theorem dL_law_313 : decode cL_law 313 = .ok (.iadd, 1) := by decide +kernel
theorem dL_law_314 : decode cL_law 314 = .ok (.iaload, 1) := by decide +kernel
theorem dL_law_315 : decode cL_law 315 = .ok (.aload_n 0, 1) := by decide +kernel
theorem dL_law_316 : decode cL_law 316 = .ok (.iload_n 3, 1) := by decide +kernel
theorem dL_law_317 : decode cL_law 317 = .ok (.iconst 3, 1) := by decide +kernel
theorem dL_law_318 : decode cL_law 318 = .ok (.iadd, 1) := by decide +kernel
theorem dL_law_319 : decode cL_law 319 = .ok (.iaload, 1) := by decide +kernel
theorem dL_law_320 : decode cL_law 320 = .ok (.invokevirtual 30, 3) := by decide +kernel
theorem dL_law_323 : decode cL_law 323 = .ok (.if_icmp .eq 800, 3) := by decide +kernel
theorem dL_law_326 : decode cL_law 326 = .ok (.iconst 0, 1) := by decide +kernel
theorem dL_law_327 : decode cL_law 327 = .ok (.ireturn, 1) := by decide +kernel
theorem dL_law_328 : decode cL_law 328 = .ok (.aload_n 1, 1) := by decide +kernel
theorem dL_law_329 : decode cL_law 329 = .ok (.aload_n 0, 1) := by decide +kernel
theorem dL_law_330 : decode cL_law 330 = .ok (.iload_n 3, 1) := by decide +kernel
theorem dL_law_331 : decode cL_law 331 = .ok (.iconst 1, 1) := by decide +kernel
theorem dL_law_332 : decode cL_law 332 = .ok (.iadd, 1) := by decide +kernel
theorem dL_law_333 : decode cL_law 333 = .ok (.iaload, 1) := by decide +kernel
theorem dL_law_334 : decode cL_law 334 = .ok (.aload_n 0, 1) := by decide +kernel
theorem dL_law_335 : decode cL_law 335 = .ok (.iload_n 3, 1) := by decide +kernel
theorem dL_law_336 : decode cL_law 336 = .ok (.iconst 2, 1) := by decide +kernel
theorem dL_law_337 : decode cL_law 337 = .ok (.iadd, 1) := by decide +kernel
theorem dL_law_338 : decode cL_law 338 = .ok (.iaload, 1) := by decide +kernel
theorem dL_law_339 : decode cL_law 339 = .ok (.invokevirtual 31, 3) := by decide +kernel
theorem dL_law_342 : decode cL_law 342 = .ok (.aload_n 2, 1) := by decide +kernel
theorem dL_law_343 : decode cL_law 343 = .ok (.aload_n 0, 1) := by decide +kernel
theorem dL_law_344 : decode cL_law 344 = .ok (.iload_n 3, 1) := by decide +kernel
theorem dL_law_345 : decode cL_law 345 = .ok (.iconst 1, 1) := by decide +kernel
theorem dL_law_346 : decode cL_law 346 = .ok (.iadd, 1) := by decide +kernel
theorem dL_law_347 : decode cL_law 347 = .ok (.iaload, 1) := by decide +kernel
theorem dL_law_348 : decode cL_law 348 = .ok (.aload_n 0, 1) := by decide +kernel
theorem dL_law_349 : decode cL_law 349 = .ok (.iload_n 3, 1) := by decide +kernel
theorem dL_law_350 : decode cL_law 350 = .ok (.iconst 2, 1) := by decide +kernel
theorem dL_law_351 : decode cL_law 351 = .ok (.iadd, 1) := by decide +kernel
theorem dL_law_352 : decode cL_law 352 = .ok (.iaload, 1) := by decide +kernel
theorem dL_law_353 : decode cL_law 353 = .ok (.invokevirtual 34, 3) := by decide +kernel
theorem dL_law_356 : decode cL_law 356 = .ok (.if_icmp .eq 767, 3) := by decide +kernel
theorem dL_law_359 : decode cL_law 359 = .ok (.iconst 0, 1) := by decide +kernel
theorem dL_law_360 : decode cL_law 360 = .ok (.ireturn, 1) := by decide +kernel
theorem dL_law_361 : decode cL_law 361 = .ok (.aload_n 1, 1) := by decide +kernel
theorem dL_law_362 : decode cL_law 362 = .ok (.aload_n 0, 1) := by decide +kernel
theorem dL_law_363 : decode cL_law 363 = .ok (.iload_n 3, 1) := by decide +kernel
theorem dL_law_364 : decode cL_law 364 = .ok (.iconst 1, 1) := by decide +kernel
theorem dL_law_365 : decode cL_law 365 = .ok (.iadd, 1) := by decide +kernel
theorem dL_law_366 : decode cL_law 366 = .ok (.iaload, 1) := by decide +kernel
theorem dL_law_367 : decode cL_law 367 = .ok (.invokevirtual 35, 3) := by decide +kernel
theorem dL_law_370 : decode cL_law 370 = .ok (.aload_n 2, 1) := by decide +kernel
theorem dL_law_371 : decode cL_law 371 = .ok (.aload_n 0, 1) := by decide +kernel
theorem dL_law_372 : decode cL_law 372 = .ok (.iload_n 3, 1) := by decide +kernel
theorem dL_law_373 : decode cL_law 373 = .ok (.iconst 1, 1) := by decide +kernel
theorem dL_law_374 : decode cL_law 374 = .ok (.iadd, 1) := by decide +kernel
theorem dL_law_375 : decode cL_law 375 = .ok (.iaload, 1) := by decide +kernel
theorem dL_law_376 : decode cL_law 376 = .ok (.invokevirtual 39, 3) := by decide +kernel
theorem dL_law_379 : decode cL_law 379 = .ok (.if_icmp .eq 744, 3) := by decide +kernel
theorem dL_law_382 : decode cL_law 382 = .ok (.iconst 0, 1) := by decide +kernel
theorem dL_law_383 : decode cL_law 383 = .ok (.ireturn, 1) := by decide +kernel
theorem dL_law_384 : decode cL_law 384 = .ok (.aload_n 1, 1) := by decide +kernel
theorem dL_law_385 : decode cL_law 385 = .ok (.aload_n 0, 1) := by decide +kernel
theorem dL_law_386 : decode cL_law 386 = .ok (.iload_n 3, 1) := by decide +kernel
theorem dL_law_387 : decode cL_law 387 = .ok (.iconst 1, 1) := by decide +kernel
theorem dL_law_388 : decode cL_law 388 = .ok (.iadd, 1) := by decide +kernel
theorem dL_law_389 : decode cL_law 389 = .ok (.iaload, 1) := by decide +kernel
theorem dL_law_390 : decode cL_law 390 = .ok (.i2l, 1) := by decide +kernel
theorem dL_law_391 : decode cL_law 391 = .ok (.bipush 32, 2) := by decide +kernel
theorem dL_law_393 : decode cL_law 393 = .ok (.lshl, 1) := by decide +kernel
theorem dL_law_394 : decode cL_law 394 = .ok (.aload_n 0, 1) := by decide +kernel
theorem dL_law_395 : decode cL_law 395 = .ok (.iload_n 3, 1) := by decide +kernel
theorem dL_law_396 : decode cL_law 396 = .ok (.iconst 2, 1) := by decide +kernel
theorem dL_law_397 : decode cL_law 397 = .ok (.iadd, 1) := by decide +kernel
theorem dL_law_398 : decode cL_law 398 = .ok (.iaload, 1) := by decide +kernel
theorem dL_law_399 : decode cL_law 399 = .ok (.i2l, 1) := by decide +kernel
theorem dL_law_400 : decode cL_law 400 = .ok (.ldc2_w 40, 3) := by decide +kernel
theorem dL_law_403 : decode cL_law 403 = .ok (.land, 1) := by decide +kernel
theorem dL_law_404 : decode cL_law 404 = .ok (.lor, 1) := by decide +kernel
theorem dL_law_405 : decode cL_law 405 = .ok (.aload_n 0, 1) := by decide +kernel
theorem dL_law_406 : decode cL_law 406 = .ok (.iload_n 3, 1) := by decide +kernel
theorem dL_law_407 : decode cL_law 407 = .ok (.iconst 3, 1) := by decide +kernel
theorem dL_law_408 : decode cL_law 408 = .ok (.iadd, 1) := by decide +kernel
theorem dL_law_409 : decode cL_law 409 = .ok (.iaload, 1) := by decide +kernel
theorem dL_law_410 : decode cL_law 410 = .ok (.invokevirtual 42, 3) := by decide +kernel
theorem dL_law_413 : decode cL_law 413 = .ok (.aload_n 2, 1) := by decide +kernel
theorem dL_law_414 : decode cL_law 414 = .ok (.aload_n 0, 1) := by decide +kernel
theorem dL_law_415 : decode cL_law 415 = .ok (.iload_n 3, 1) := by decide +kernel
theorem dL_law_416 : decode cL_law 416 = .ok (.iconst 1, 1) := by decide +kernel
theorem dL_law_417 : decode cL_law 417 = .ok (.iadd, 1) := by decide +kernel
theorem dL_law_418 : decode cL_law 418 = .ok (.iaload, 1) := by decide +kernel
theorem dL_law_419 : decode cL_law 419 = .ok (.i2l, 1) := by decide +kernel
theorem dL_law_420 : decode cL_law 420 = .ok (.bipush 32, 2) := by decide +kernel
theorem dL_law_422 : decode cL_law 422 = .ok (.lshl, 1) := by decide +kernel
theorem dL_law_423 : decode cL_law 423 = .ok (.aload_n 0, 1) := by decide +kernel
theorem dL_law_424 : decode cL_law 424 = .ok (.iload_n 3, 1) := by decide +kernel
theorem dL_law_425 : decode cL_law 425 = .ok (.iconst 2, 1) := by decide +kernel
theorem dL_law_426 : decode cL_law 426 = .ok (.iadd, 1) := by decide +kernel
theorem dL_law_427 : decode cL_law 427 = .ok (.iaload, 1) := by decide +kernel
theorem dL_law_428 : decode cL_law 428 = .ok (.i2l, 1) := by decide +kernel
theorem dL_law_429 : decode cL_law 429 = .ok (.ldc2_w 40, 3) := by decide +kernel
theorem dL_law_432 : decode cL_law 432 = .ok (.land, 1) := by decide +kernel
theorem dL_law_433 : decode cL_law 433 = .ok (.lor, 1) := by decide +kernel
theorem dL_law_434 : decode cL_law 434 = .ok (.aload_n 0, 1) := by decide +kernel
theorem dL_law_435 : decode cL_law 435 = .ok (.iload_n 3, 1) := by decide +kernel
theorem dL_law_436 : decode cL_law 436 = .ok (.iconst 3, 1) := by decide +kernel
theorem dL_law_437 : decode cL_law 437 = .ok (.iadd, 1) := by decide +kernel
theorem dL_law_438 : decode cL_law 438 = .ok (.iaload, 1) := by decide +kernel
theorem dL_law_439 : decode cL_law 439 = .ok (.invokevirtual 46, 3) := by decide +kernel
theorem dL_law_442 : decode cL_law 442 = .ok (.if_icmp .eq 681, 3) := by decide +kernel
theorem dL_law_445 : decode cL_law 445 = .ok (.iconst 0, 1) := by decide +kernel
theorem dL_law_446 : decode cL_law 446 = .ok (.ireturn, 1) := by decide +kernel
theorem dL_law_447 : decode cL_law 447 = .ok (.aload_n 1, 1) := by decide +kernel
theorem dL_law_448 : decode cL_law 448 = .ok (.invokevirtual 47, 3) := by decide +kernel
theorem dL_law_451 : decode cL_law 451 = .ok (.aload_n 2, 1) := by decide +kernel
theorem dL_law_452 : decode cL_law 452 = .ok (.invokevirtual 51, 3) := by decide +kernel
theorem dL_law_455 : decode cL_law 455 = .ok (.if_icmp .eq 668, 3) := by decide +kernel
theorem dL_law_458 : decode cL_law 458 = .ok (.iconst 0, 1) := by decide +kernel
theorem dL_law_459 : decode cL_law 459 = .ok (.ireturn, 1) := by decide +kernel
theorem dL_law_460 : decode cL_law 460 = .ok (.aload_n 1, 1) := by decide +kernel
theorem dL_law_461 : decode cL_law 461 = .ok (.invokevirtual 52, 3) := by decide +kernel
theorem dL_law_464 : decode cL_law 464 = .ok (.aload_n 2, 1) := by decide +kernel
theorem dL_law_465 : decode cL_law 465 = .ok (.invokevirtual 55, 3) := by decide +kernel
theorem dL_law_468 : decode cL_law 468 = .ok (.if_icmp .eq 655, 3) := by decide +kernel
theorem dL_law_471 : decode cL_law 471 = .ok (.iconst 0, 1) := by decide +kernel
theorem dL_law_472 : decode cL_law 472 = .ok (.ireturn, 1) := by decide +kernel
theorem dL_law_473 : decode cL_law 473 = .ok (.aload_n 1, 1) := by decide +kernel
theorem dL_law_474 : decode cL_law 474 = .ok (.aload_n 0, 1) := by decide +kernel
theorem dL_law_475 : decode cL_law 475 = .ok (.iload_n 3, 1) := by decide +kernel
theorem dL_law_476 : decode cL_law 476 = .ok (.iconst 1, 1) := by decide +kernel
theorem dL_law_477 : decode cL_law 477 = .ok (.iadd, 1) := by decide +kernel
theorem dL_law_478 : decode cL_law 478 = .ok (.iaload, 1) := by decide +kernel
theorem dL_law_479 : decode cL_law 479 = .ok (.invokevirtual 56, 3) := by decide +kernel
theorem dL_law_482 : decode cL_law 482 = .ok (.aload_n 2, 1) := by decide +kernel
theorem dL_law_483 : decode cL_law 483 = .ok (.aload_n 0, 1) := by decide +kernel
theorem dL_law_484 : decode cL_law 484 = .ok (.iload_n 3, 1) := by decide +kernel
theorem dL_law_485 : decode cL_law 485 = .ok (.iconst 1, 1) := by decide +kernel
theorem dL_law_486 : decode cL_law 486 = .ok (.iadd, 1) := by decide +kernel
theorem dL_law_487 : decode cL_law 487 = .ok (.iaload, 1) := by decide +kernel
theorem dL_law_488 : decode cL_law 488 = .ok (.invokevirtual 59, 3) := by decide +kernel
theorem dL_law_491 : decode cL_law 491 = .ok (.if_icmp .eq 632, 3) := by decide +kernel
theorem dL_law_494 : decode cL_law 494 = .ok (.iconst 0, 1) := by decide +kernel
theorem dL_law_495 : decode cL_law 495 = .ok (.ireturn, 1) := by decide +kernel
theorem dL_law_496 : decode cL_law 496 = .ok (.aload_n 1, 1) := by decide +kernel
theorem dL_law_497 : decode cL_law 497 = .ok (.invokevirtual 60, 3) := by decide +kernel
theorem dL_law_500 : decode cL_law 500 = .ok (.aload_n 2, 1) := by decide +kernel
theorem dL_law_501 : decode cL_law 501 = .ok (.invokevirtual 63, 3) := by decide +kernel
theorem dL_law_504 : decode cL_law 504 = .ok (.if_icmp .eq 619, 3) := by decide +kernel
theorem dL_law_507 : decode cL_law 507 = .ok (.iconst 0, 1) := by decide +kernel
theorem dL_law_508 : decode cL_law 508 = .ok (.ireturn, 1) := by decide +kernel
theorem dL_law_509 : decode cL_law 509 = .ok (.aload_n 1, 1) := by decide +kernel
theorem dL_law_510 : decode cL_law 510 = .ok (.invokevirtual 64, 3) := by decide +kernel
theorem dL_law_513 : decode cL_law 513 = .ok (.aload_n 2, 1) := by decide +kernel
theorem dL_law_514 : decode cL_law 514 = .ok (.invokevirtual 67, 3) := by decide +kernel
theorem dL_law_517 : decode cL_law 517 = .ok (.if_icmp .eq 606, 3) := by decide +kernel
theorem dL_law_520 : decode cL_law 520 = .ok (.iconst 0, 1) := by decide +kernel
theorem dL_law_521 : decode cL_law 521 = .ok (.ireturn, 1) := by decide +kernel
theorem dL_law_522 : decode cL_law 522 = .ok (.aload_n 1, 1) := by decide +kernel
theorem dL_law_523 : decode cL_law 523 = .ok (.aload_n 0, 1) := by decide +kernel
theorem dL_law_524 : decode cL_law 524 = .ok (.iload_n 3, 1) := by decide +kernel
theorem dL_law_525 : decode cL_law 525 = .ok (.iconst 1, 1) := by decide +kernel
theorem dL_law_526 : decode cL_law 526 = .ok (.iadd, 1) := by decide +kernel
theorem dL_law_527 : decode cL_law 527 = .ok (.iaload, 1) := by decide +kernel
theorem dL_law_528 : decode cL_law 528 = .ok (.aload_n 0, 1) := by decide +kernel
theorem dL_law_529 : decode cL_law 529 = .ok (.iload_n 3, 1) := by decide +kernel
theorem dL_law_530 : decode cL_law 530 = .ok (.iconst 2, 1) := by decide +kernel
theorem dL_law_531 : decode cL_law 531 = .ok (.iadd, 1) := by decide +kernel
theorem dL_law_532 : decode cL_law 532 = .ok (.iaload, 1) := by decide +kernel
theorem dL_law_533 : decode cL_law 533 = .ok (.invokevirtual 68, 3) := by decide +kernel
theorem dL_law_536 : decode cL_law 536 = .ok (.aload_n 2, 1) := by decide +kernel
theorem dL_law_537 : decode cL_law 537 = .ok (.aload_n 0, 1) := by decide +kernel
theorem dL_law_538 : decode cL_law 538 = .ok (.iload_n 3, 1) := by decide +kernel
theorem dL_law_539 : decode cL_law 539 = .ok (.iconst 1, 1) := by decide +kernel
theorem dL_law_540 : decode cL_law 540 = .ok (.iadd, 1) := by decide +kernel
theorem dL_law_541 : decode cL_law 541 = .ok (.iaload, 1) := by decide +kernel
theorem dL_law_542 : decode cL_law 542 = .ok (.aload_n 0, 1) := by decide +kernel
theorem dL_law_543 : decode cL_law 543 = .ok (.iload_n 3, 1) := by decide +kernel
theorem dL_law_544 : decode cL_law 544 = .ok (.iconst 2, 1) := by decide +kernel
theorem dL_law_545 : decode cL_law 545 = .ok (.iadd, 1) := by decide +kernel
theorem dL_law_546 : decode cL_law 546 = .ok (.iaload, 1) := by decide +kernel
theorem dL_law_547 : decode cL_law 547 = .ok (.invokevirtual 71, 3) := by decide +kernel
theorem dL_law_550 : decode cL_law 550 = .ok (.if_icmp .eq 573, 3) := by decide +kernel
theorem dL_law_553 : decode cL_law 553 = .ok (.iconst 0, 1) := by decide +kernel
theorem dL_law_554 : decode cL_law 554 = .ok (.ireturn, 1) := by decide +kernel
theorem dL_law_555 : decode cL_law 555 = .ok (.aload_n 1, 1) := by decide +kernel
theorem dL_law_556 : decode cL_law 556 = .ok (.aload_n 0, 1) := by decide +kernel
theorem dL_law_557 : decode cL_law 557 = .ok (.iload_n 3, 1) := by decide +kernel
theorem dL_law_558 : decode cL_law 558 = .ok (.iconst 1, 1) := by decide +kernel
theorem dL_law_559 : decode cL_law 559 = .ok (.iadd, 1) := by decide +kernel
theorem dL_law_560 : decode cL_law 560 = .ok (.iaload, 1) := by decide +kernel
theorem dL_law_561 : decode cL_law 561 = .ok (.aload_n 0, 1) := by decide +kernel
theorem dL_law_562 : decode cL_law 562 = .ok (.iload_n 3, 1) := by decide +kernel
theorem dL_law_563 : decode cL_law 563 = .ok (.iconst 2, 1) := by decide +kernel
theorem dL_law_564 : decode cL_law 564 = .ok (.iadd, 1) := by decide +kernel
theorem dL_law_565 : decode cL_law 565 = .ok (.iaload, 1) := by decide +kernel
theorem dL_law_566 : decode cL_law 566 = .ok (.invokevirtual 72, 3) := by decide +kernel
theorem dL_law_569 : decode cL_law 569 = .ok (.aload_n 2, 1) := by decide +kernel
theorem dL_law_570 : decode cL_law 570 = .ok (.aload_n 0, 1) := by decide +kernel
theorem dL_law_571 : decode cL_law 571 = .ok (.iload_n 3, 1) := by decide +kernel
theorem dL_law_572 : decode cL_law 572 = .ok (.iconst 1, 1) := by decide +kernel
theorem dL_law_573 : decode cL_law 573 = .ok (.iadd, 1) := by decide +kernel
theorem dL_law_574 : decode cL_law 574 = .ok (.iaload, 1) := by decide +kernel
theorem dL_law_575 : decode cL_law 575 = .ok (.aload_n 0, 1) := by decide +kernel
theorem dL_law_576 : decode cL_law 576 = .ok (.iload_n 3, 1) := by decide +kernel
theorem dL_law_577 : decode cL_law 577 = .ok (.iconst 2, 1) := by decide +kernel
theorem dL_law_578 : decode cL_law 578 = .ok (.iadd, 1) := by decide +kernel
theorem dL_law_579 : decode cL_law 579 = .ok (.iaload, 1) := by decide +kernel
theorem dL_law_580 : decode cL_law 580 = .ok (.invokevirtual 75, 3) := by decide +kernel
theorem dL_law_583 : decode cL_law 583 = .ok (.if_icmp .eq 540, 3) := by decide +kernel
theorem dL_law_586 : decode cL_law 586 = .ok (.iconst 0, 1) := by decide +kernel
theorem dL_law_587 : decode cL_law 587 = .ok (.ireturn, 1) := by decide +kernel
theorem dL_law_588 : decode cL_law 588 = .ok (.aload_n 1, 1) := by decide +kernel
theorem dL_law_589 : decode cL_law 589 = .ok (.aload_n 0, 1) := by decide +kernel
theorem dL_law_590 : decode cL_law 590 = .ok (.iload_n 3, 1) := by decide +kernel
theorem dL_law_591 : decode cL_law 591 = .ok (.iconst 1, 1) := by decide +kernel
theorem dL_law_592 : decode cL_law 592 = .ok (.iadd, 1) := by decide +kernel
theorem dL_law_593 : decode cL_law 593 = .ok (.iaload, 1) := by decide +kernel
theorem dL_law_594 : decode cL_law 594 = .ok (.aload_n 0, 1) := by decide +kernel
theorem dL_law_595 : decode cL_law 595 = .ok (.iload_n 3, 1) := by decide +kernel
theorem dL_law_596 : decode cL_law 596 = .ok (.iconst 2, 1) := by decide +kernel
theorem dL_law_597 : decode cL_law 597 = .ok (.iadd, 1) := by decide +kernel
theorem dL_law_598 : decode cL_law 598 = .ok (.iaload, 1) := by decide +kernel
theorem dL_law_599 : decode cL_law 599 = .ok (.invokevirtual 76, 3) := by decide +kernel
theorem dL_law_602 : decode cL_law 602 = .ok (.aload_n 2, 1) := by decide +kernel
theorem dL_law_603 : decode cL_law 603 = .ok (.aload_n 0, 1) := by decide +kernel
theorem dL_law_604 : decode cL_law 604 = .ok (.iload_n 3, 1) := by decide +kernel
theorem dL_law_605 : decode cL_law 605 = .ok (.iconst 1, 1) := by decide +kernel
theorem dL_law_606 : decode cL_law 606 = .ok (.iadd, 1) := by decide +kernel
theorem dL_law_607 : decode cL_law 607 = .ok (.iaload, 1) := by decide +kernel
theorem dL_law_608 : decode cL_law 608 = .ok (.aload_n 0, 1) := by decide +kernel
theorem dL_law_609 : decode cL_law 609 = .ok (.iload_n 3, 1) := by decide +kernel
theorem dL_law_610 : decode cL_law 610 = .ok (.iconst 2, 1) := by decide +kernel
theorem dL_law_611 : decode cL_law 611 = .ok (.iadd, 1) := by decide +kernel
theorem dL_law_612 : decode cL_law 612 = .ok (.iaload, 1) := by decide +kernel
theorem dL_law_613 : decode cL_law 613 = .ok (.invokevirtual 79, 3) := by decide +kernel
theorem dL_law_616 : decode cL_law 616 = .ok (.if_icmp .eq 507, 3) := by decide +kernel
theorem dL_law_619 : decode cL_law 619 = .ok (.iconst 0, 1) := by decide +kernel
theorem dL_law_620 : decode cL_law 620 = .ok (.ireturn, 1) := by decide +kernel
theorem dL_law_621 : decode cL_law 621 = .ok (.aload_n 1, 1) := by decide +kernel
theorem dL_law_622 : decode cL_law 622 = .ok (.aload_n 0, 1) := by decide +kernel
theorem dL_law_623 : decode cL_law 623 = .ok (.iload_n 3, 1) := by decide +kernel
theorem dL_law_624 : decode cL_law 624 = .ok (.iconst 1, 1) := by decide +kernel
theorem dL_law_625 : decode cL_law 625 = .ok (.iadd, 1) := by decide +kernel
theorem dL_law_626 : decode cL_law 626 = .ok (.iaload, 1) := by decide +kernel
theorem dL_law_627 : decode cL_law 627 = .ok (.aload_n 0, 1) := by decide +kernel
theorem dL_law_628 : decode cL_law 628 = .ok (.iload_n 3, 1) := by decide +kernel
theorem dL_law_629 : decode cL_law 629 = .ok (.iconst 2, 1) := by decide +kernel
theorem dL_law_630 : decode cL_law 630 = .ok (.iadd, 1) := by decide +kernel
theorem dL_law_631 : decode cL_law 631 = .ok (.iaload, 1) := by decide +kernel
theorem dL_law_632 : decode cL_law 632 = .ok (.aload_n 0, 1) := by decide +kernel
theorem dL_law_633 : decode cL_law 633 = .ok (.iload_n 3, 1) := by decide +kernel
theorem dL_law_634 : decode cL_law 634 = .ok (.iconst 3, 1) := by decide +kernel
theorem dL_law_635 : decode cL_law 635 = .ok (.iadd, 1) := by decide +kernel
theorem dL_law_636 : decode cL_law 636 = .ok (.iaload, 1) := by decide +kernel
theorem dL_law_637 : decode cL_law 637 = .ok (.invokevirtual 80, 3) := by decide +kernel
theorem dL_law_640 : decode cL_law 640 = .ok (.aload_n 2, 1) := by decide +kernel
theorem dL_law_641 : decode cL_law 641 = .ok (.aload_n 0, 1) := by decide +kernel
theorem dL_law_642 : decode cL_law 642 = .ok (.iload_n 3, 1) := by decide +kernel
theorem dL_law_643 : decode cL_law 643 = .ok (.iconst 1, 1) := by decide +kernel
theorem dL_law_644 : decode cL_law 644 = .ok (.iadd, 1) := by decide +kernel
theorem dL_law_645 : decode cL_law 645 = .ok (.iaload, 1) := by decide +kernel
theorem dL_law_646 : decode cL_law 646 = .ok (.aload_n 0, 1) := by decide +kernel
theorem dL_law_647 : decode cL_law 647 = .ok (.iload_n 3, 1) := by decide +kernel
theorem dL_law_648 : decode cL_law 648 = .ok (.iconst 2, 1) := by decide +kernel
theorem dL_law_649 : decode cL_law 649 = .ok (.iadd, 1) := by decide +kernel
theorem dL_law_650 : decode cL_law 650 = .ok (.iaload, 1) := by decide +kernel
theorem dL_law_651 : decode cL_law 651 = .ok (.aload_n 0, 1) := by decide +kernel
theorem dL_law_652 : decode cL_law 652 = .ok (.iload_n 3, 1) := by decide +kernel
theorem dL_law_653 : decode cL_law 653 = .ok (.iconst 3, 1) := by decide +kernel
theorem dL_law_654 : decode cL_law 654 = .ok (.iadd, 1) := by decide +kernel
theorem dL_law_655 : decode cL_law 655 = .ok (.iaload, 1) := by decide +kernel
theorem dL_law_656 : decode cL_law 656 = .ok (.invokevirtual 83, 3) := by decide +kernel
theorem dL_law_659 : decode cL_law 659 = .ok (.if_icmp .eq 464, 3) := by decide +kernel
theorem dL_law_662 : decode cL_law 662 = .ok (.iconst 0, 1) := by decide +kernel
theorem dL_law_663 : decode cL_law 663 = .ok (.ireturn, 1) := by decide +kernel
theorem dL_law_664 : decode cL_law 664 = .ok (.aload_n 1, 1) := by decide +kernel
theorem dL_law_665 : decode cL_law 665 = .ok (.aload_n 0, 1) := by decide +kernel
theorem dL_law_666 : decode cL_law 666 = .ok (.iload_n 3, 1) := by decide +kernel
theorem dL_law_667 : decode cL_law 667 = .ok (.iconst 1, 1) := by decide +kernel
theorem dL_law_668 : decode cL_law 668 = .ok (.iadd, 1) := by decide +kernel
theorem dL_law_669 : decode cL_law 669 = .ok (.iaload, 1) := by decide +kernel
theorem dL_law_670 : decode cL_law 670 = .ok (.invokevirtual 84, 3) := by decide +kernel
theorem dL_law_673 : decode cL_law 673 = .ok (.aload_n 2, 1) := by decide +kernel
theorem dL_law_674 : decode cL_law 674 = .ok (.aload_n 0, 1) := by decide +kernel
theorem dL_law_675 : decode cL_law 675 = .ok (.iload_n 3, 1) := by decide +kernel
theorem dL_law_676 : decode cL_law 676 = .ok (.iconst 1, 1) := by decide +kernel
theorem dL_law_677 : decode cL_law 677 = .ok (.iadd, 1) := by decide +kernel
theorem dL_law_678 : decode cL_law 678 = .ok (.iaload, 1) := by decide +kernel
theorem dL_law_679 : decode cL_law 679 = .ok (.invokevirtual 87, 3) := by decide +kernel
theorem dL_law_682 : decode cL_law 682 = .ok (.if_icmp .eq 441, 3) := by decide +kernel
theorem dL_law_685 : decode cL_law 685 = .ok (.iconst 0, 1) := by decide +kernel
theorem dL_law_686 : decode cL_law 686 = .ok (.ireturn, 1) := by decide +kernel
theorem dL_law_687 : decode cL_law 687 = .ok (.aload_n 1, 1) := by decide +kernel
theorem dL_law_688 : decode cL_law 688 = .ok (.aload_n 0, 1) := by decide +kernel
theorem dL_law_689 : decode cL_law 689 = .ok (.iload_n 3, 1) := by decide +kernel
theorem dL_law_690 : decode cL_law 690 = .ok (.iconst 1, 1) := by decide +kernel
theorem dL_law_691 : decode cL_law 691 = .ok (.iadd, 1) := by decide +kernel
theorem dL_law_692 : decode cL_law 692 = .ok (.iaload, 1) := by decide +kernel
theorem dL_law_693 : decode cL_law 693 = .ok (.invokevirtual 88, 3) := by decide +kernel
theorem dL_law_696 : decode cL_law 696 = .ok (.aload_n 2, 1) := by decide +kernel
theorem dL_law_697 : decode cL_law 697 = .ok (.aload_n 0, 1) := by decide +kernel
theorem dL_law_698 : decode cL_law 698 = .ok (.iload_n 3, 1) := by decide +kernel
theorem dL_law_699 : decode cL_law 699 = .ok (.iconst 1, 1) := by decide +kernel
theorem dL_law_700 : decode cL_law 700 = .ok (.iadd, 1) := by decide +kernel
theorem dL_law_701 : decode cL_law 701 = .ok (.iaload, 1) := by decide +kernel
theorem dL_law_702 : decode cL_law 702 = .ok (.invokevirtual 91, 3) := by decide +kernel
theorem dL_law_705 : decode cL_law 705 = .ok (.if_icmp .eq 418, 3) := by decide +kernel
theorem dL_law_708 : decode cL_law 708 = .ok (.iconst 0, 1) := by decide +kernel
theorem dL_law_709 : decode cL_law 709 = .ok (.ireturn, 1) := by decide +kernel
theorem dL_law_710 : decode cL_law 710 = .ok (.aload_n 1, 1) := by decide +kernel
theorem dL_law_711 : decode cL_law 711 = .ok (.aload_n 0, 1) := by decide +kernel
theorem dL_law_712 : decode cL_law 712 = .ok (.iload_n 3, 1) := by decide +kernel
theorem dL_law_713 : decode cL_law 713 = .ok (.iconst 1, 1) := by decide +kernel
theorem dL_law_714 : decode cL_law 714 = .ok (.iadd, 1) := by decide +kernel
theorem dL_law_715 : decode cL_law 715 = .ok (.iaload, 1) := by decide +kernel
theorem dL_law_716 : decode cL_law 716 = .ok (.invokevirtual 92, 3) := by decide +kernel
theorem dL_law_719 : decode cL_law 719 = .ok (.aload_n 2, 1) := by decide +kernel
theorem dL_law_720 : decode cL_law 720 = .ok (.aload_n 0, 1) := by decide +kernel
theorem dL_law_721 : decode cL_law 721 = .ok (.iload_n 3, 1) := by decide +kernel
theorem dL_law_722 : decode cL_law 722 = .ok (.iconst 1, 1) := by decide +kernel
theorem dL_law_723 : decode cL_law 723 = .ok (.iadd, 1) := by decide +kernel
theorem dL_law_724 : decode cL_law 724 = .ok (.iaload, 1) := by decide +kernel
theorem dL_law_725 : decode cL_law 725 = .ok (.invokevirtual 95, 3) := by decide +kernel
theorem dL_law_728 : decode cL_law 728 = .ok (.if_icmp .eq 395, 3) := by decide +kernel
theorem dL_law_731 : decode cL_law 731 = .ok (.iconst 0, 1) := by decide +kernel
theorem dL_law_732 : decode cL_law 732 = .ok (.ireturn, 1) := by decide +kernel
theorem dL_law_733 : decode cL_law 733 = .ok (.aload_n 1, 1) := by decide +kernel
theorem dL_law_734 : decode cL_law 734 = .ok (.aload_n 0, 1) := by decide +kernel
theorem dL_law_735 : decode cL_law 735 = .ok (.iload_n 3, 1) := by decide +kernel
theorem dL_law_736 : decode cL_law 736 = .ok (.iconst 1, 1) := by decide +kernel
theorem dL_law_737 : decode cL_law 737 = .ok (.iadd, 1) := by decide +kernel
theorem dL_law_738 : decode cL_law 738 = .ok (.iaload, 1) := by decide +kernel
theorem dL_law_739 : decode cL_law 739 = .ok (.aload_n 0, 1) := by decide +kernel
theorem dL_law_740 : decode cL_law 740 = .ok (.iload_n 3, 1) := by decide +kernel
theorem dL_law_741 : decode cL_law 741 = .ok (.iconst 2, 1) := by decide +kernel
theorem dL_law_742 : decode cL_law 742 = .ok (.iadd, 1) := by decide +kernel
theorem dL_law_743 : decode cL_law 743 = .ok (.iaload, 1) := by decide +kernel
theorem dL_law_744 : decode cL_law 744 = .ok (.invokevirtual 96, 3) := by decide +kernel
theorem dL_law_747 : decode cL_law 747 = .ok (.aload_n 2, 1) := by decide +kernel
theorem dL_law_748 : decode cL_law 748 = .ok (.aload_n 0, 1) := by decide +kernel
theorem dL_law_749 : decode cL_law 749 = .ok (.iload_n 3, 1) := by decide +kernel
theorem dL_law_750 : decode cL_law 750 = .ok (.iconst 1, 1) := by decide +kernel
theorem dL_law_751 : decode cL_law 751 = .ok (.iadd, 1) := by decide +kernel
theorem dL_law_752 : decode cL_law 752 = .ok (.iaload, 1) := by decide +kernel
theorem dL_law_753 : decode cL_law 753 = .ok (.aload_n 0, 1) := by decide +kernel
theorem dL_law_754 : decode cL_law 754 = .ok (.iload_n 3, 1) := by decide +kernel
theorem dL_law_755 : decode cL_law 755 = .ok (.iconst 2, 1) := by decide +kernel
theorem dL_law_756 : decode cL_law 756 = .ok (.iadd, 1) := by decide +kernel
theorem dL_law_757 : decode cL_law 757 = .ok (.iaload, 1) := by decide +kernel
theorem dL_law_758 : decode cL_law 758 = .ok (.invokevirtual 99, 3) := by decide +kernel
theorem dL_law_761 : decode cL_law 761 = .ok (.if_icmp .eq 362, 3) := by decide +kernel
theorem dL_law_764 : decode cL_law 764 = .ok (.iconst 0, 1) := by decide +kernel
theorem dL_law_765 : decode cL_law 765 = .ok (.ireturn, 1) := by decide +kernel
theorem dL_law_766 : decode cL_law 766 = .ok (.aload_n 1, 1) := by decide +kernel
theorem dL_law_767 : decode cL_law 767 = .ok (.aload_n 0, 1) := by decide +kernel
theorem dL_law_768 : decode cL_law 768 = .ok (.iload_n 3, 1) := by decide +kernel
theorem dL_law_769 : decode cL_law 769 = .ok (.iconst 1, 1) := by decide +kernel
theorem dL_law_770 : decode cL_law 770 = .ok (.iadd, 1) := by decide +kernel
theorem dL_law_771 : decode cL_law 771 = .ok (.iaload, 1) := by decide +kernel
theorem dL_law_772 : decode cL_law 772 = .ok (.invokevirtual 100, 3) := by decide +kernel
theorem dL_law_775 : decode cL_law 775 = .ok (.aload_n 2, 1) := by decide +kernel
theorem dL_law_776 : decode cL_law 776 = .ok (.aload_n 0, 1) := by decide +kernel
theorem dL_law_777 : decode cL_law 777 = .ok (.iload_n 3, 1) := by decide +kernel
theorem dL_law_778 : decode cL_law 778 = .ok (.iconst 1, 1) := by decide +kernel
theorem dL_law_779 : decode cL_law 779 = .ok (.iadd, 1) := by decide +kernel
theorem dL_law_780 : decode cL_law 780 = .ok (.iaload, 1) := by decide +kernel
theorem dL_law_781 : decode cL_law 781 = .ok (.invokevirtual 103, 3) := by decide +kernel
theorem dL_law_784 : decode cL_law 784 = .ok (.if_icmp .eq 339, 3) := by decide +kernel
theorem dL_law_787 : decode cL_law 787 = .ok (.iconst 0, 1) := by decide +kernel
theorem dL_law_788 : decode cL_law 788 = .ok (.ireturn, 1) := by decide +kernel
theorem dL_law_789 : decode cL_law 789 = .ok (.aload_n 1, 1) := by decide +kernel
theorem dL_law_790 : decode cL_law 790 = .ok (.aload_n 0, 1) := by decide +kernel
theorem dL_law_791 : decode cL_law 791 = .ok (.iload_n 3, 1) := by decide +kernel
theorem dL_law_792 : decode cL_law 792 = .ok (.iconst 1, 1) := by decide +kernel
theorem dL_law_793 : decode cL_law 793 = .ok (.iadd, 1) := by decide +kernel
theorem dL_law_794 : decode cL_law 794 = .ok (.iaload, 1) := by decide +kernel
theorem dL_law_795 : decode cL_law 795 = .ok (.aload_n 0, 1) := by decide +kernel
theorem dL_law_796 : decode cL_law 796 = .ok (.iload_n 3, 1) := by decide +kernel
theorem dL_law_797 : decode cL_law 797 = .ok (.iconst 2, 1) := by decide +kernel
theorem dL_law_798 : decode cL_law 798 = .ok (.iadd, 1) := by decide +kernel
theorem dL_law_799 : decode cL_law 799 = .ok (.iaload, 1) := by decide +kernel
theorem dL_law_800 : decode cL_law 800 = .ok (.aload_n 0, 1) := by decide +kernel
theorem dL_law_801 : decode cL_law 801 = .ok (.iload_n 3, 1) := by decide +kernel
theorem dL_law_802 : decode cL_law 802 = .ok (.iconst 3, 1) := by decide +kernel
theorem dL_law_803 : decode cL_law 803 = .ok (.iadd, 1) := by decide +kernel
theorem dL_law_804 : decode cL_law 804 = .ok (.iaload, 1) := by decide +kernel
theorem dL_law_805 : decode cL_law 805 = .ok (.aload_n 0, 1) := by decide +kernel
theorem dL_law_806 : decode cL_law 806 = .ok (.iload_n 3, 1) := by decide +kernel
theorem dL_law_807 : decode cL_law 807 = .ok (.iconst 4, 1) := by decide +kernel
theorem dL_law_808 : decode cL_law 808 = .ok (.iadd, 1) := by decide +kernel
theorem dL_law_809 : decode cL_law 809 = .ok (.iaload, 1) := by decide +kernel
theorem dL_law_810 : decode cL_law 810 = .ok (.aload_n 0, 1) := by decide +kernel
theorem dL_law_811 : decode cL_law 811 = .ok (.iload_n 3, 1) := by decide +kernel
theorem dL_law_812 : decode cL_law 812 = .ok (.iconst 5, 1) := by decide +kernel
theorem dL_law_813 : decode cL_law 813 = .ok (.iadd, 1) := by decide +kernel
theorem dL_law_814 : decode cL_law 814 = .ok (.iaload, 1) := by decide +kernel
theorem dL_law_815 : decode cL_law 815 = .ok (.invokevirtual 104, 3) := by decide +kernel
theorem dL_law_818 : decode cL_law 818 = .ok (.aload_n 2, 1) := by decide +kernel
theorem dL_law_819 : decode cL_law 819 = .ok (.aload_n 0, 1) := by decide +kernel
theorem dL_law_820 : decode cL_law 820 = .ok (.iload_n 3, 1) := by decide +kernel
theorem dL_law_821 : decode cL_law 821 = .ok (.iconst 1, 1) := by decide +kernel
theorem dL_law_822 : decode cL_law 822 = .ok (.iadd, 1) := by decide +kernel
theorem dL_law_823 : decode cL_law 823 = .ok (.iaload, 1) := by decide +kernel
theorem dL_law_824 : decode cL_law 824 = .ok (.aload_n 0, 1) := by decide +kernel
theorem dL_law_825 : decode cL_law 825 = .ok (.iload_n 3, 1) := by decide +kernel
theorem dL_law_826 : decode cL_law 826 = .ok (.iconst 2, 1) := by decide +kernel
theorem dL_law_827 : decode cL_law 827 = .ok (.iadd, 1) := by decide +kernel
theorem dL_law_828 : decode cL_law 828 = .ok (.iaload, 1) := by decide +kernel
theorem dL_law_829 : decode cL_law 829 = .ok (.aload_n 0, 1) := by decide +kernel
theorem dL_law_830 : decode cL_law 830 = .ok (.iload_n 3, 1) := by decide +kernel
theorem dL_law_831 : decode cL_law 831 = .ok (.iconst 3, 1) := by decide +kernel
theorem dL_law_832 : decode cL_law 832 = .ok (.iadd, 1) := by decide +kernel
theorem dL_law_833 : decode cL_law 833 = .ok (.iaload, 1) := by decide +kernel
theorem dL_law_834 : decode cL_law 834 = .ok (.aload_n 0, 1) := by decide +kernel
theorem dL_law_835 : decode cL_law 835 = .ok (.iload_n 3, 1) := by decide +kernel
theorem dL_law_836 : decode cL_law 836 = .ok (.iconst 4, 1) := by decide +kernel
theorem dL_law_837 : decode cL_law 837 = .ok (.iadd, 1) := by decide +kernel
theorem dL_law_838 : decode cL_law 838 = .ok (.iaload, 1) := by decide +kernel
theorem dL_law_839 : decode cL_law 839 = .ok (.aload_n 0, 1) := by decide +kernel
theorem dL_law_840 : decode cL_law 840 = .ok (.iload_n 3, 1) := by decide +kernel
theorem dL_law_841 : decode cL_law 841 = .ok (.iconst 5, 1) := by decide +kernel
theorem dL_law_842 : decode cL_law 842 = .ok (.iadd, 1) := by decide +kernel
theorem dL_law_843 : decode cL_law 843 = .ok (.iaload, 1) := by decide +kernel
theorem dL_law_844 : decode cL_law 844 = .ok (.invokevirtual 108, 3) := by decide +kernel
theorem dL_law_847 : decode cL_law 847 = .ok (.if_icmp .eq 276, 3) := by decide +kernel
theorem dL_law_850 : decode cL_law 850 = .ok (.iconst 0, 1) := by decide +kernel
theorem dL_law_851 : decode cL_law 851 = .ok (.ireturn, 1) := by decide +kernel
theorem dL_law_852 : decode cL_law 852 = .ok (.aload_n 1, 1) := by decide +kernel
theorem dL_law_853 : decode cL_law 853 = .ok (.aload_n 0, 1) := by decide +kernel
theorem dL_law_854 : decode cL_law 854 = .ok (.iload_n 3, 1) := by decide +kernel
theorem dL_law_855 : decode cL_law 855 = .ok (.iconst 1, 1) := by decide +kernel
theorem dL_law_856 : decode cL_law 856 = .ok (.iadd, 1) := by decide +kernel
theorem dL_law_857 : decode cL_law 857 = .ok (.iaload, 1) := by decide +kernel
theorem dL_law_858 : decode cL_law 858 = .ok (.aload_n 0, 1) := by decide +kernel
theorem dL_law_859 : decode cL_law 859 = .ok (.iload_n 3, 1) := by decide +kernel
theorem dL_law_860 : decode cL_law 860 = .ok (.iconst 2, 1) := by decide +kernel
theorem dL_law_861 : decode cL_law 861 = .ok (.iadd, 1) := by decide +kernel
theorem dL_law_862 : decode cL_law 862 = .ok (.iaload, 1) := by decide +kernel
theorem dL_law_863 : decode cL_law 863 = .ok (.aload_n 0, 1) := by decide +kernel
theorem dL_law_864 : decode cL_law 864 = .ok (.iload_n 3, 1) := by decide +kernel
theorem dL_law_865 : decode cL_law 865 = .ok (.iconst 3, 1) := by decide +kernel
theorem dL_law_866 : decode cL_law 866 = .ok (.iadd, 1) := by decide +kernel
theorem dL_law_867 : decode cL_law 867 = .ok (.iaload, 1) := by decide +kernel
theorem dL_law_868 : decode cL_law 868 = .ok (.invokevirtual 109, 3) := by decide +kernel
theorem dL_law_871 : decode cL_law 871 = .ok (.aload_n 2, 1) := by decide +kernel
theorem dL_law_872 : decode cL_law 872 = .ok (.aload_n 0, 1) := by decide +kernel
theorem dL_law_873 : decode cL_law 873 = .ok (.iload_n 3, 1) := by decide +kernel
theorem dL_law_874 : decode cL_law 874 = .ok (.iconst 1, 1) := by decide +kernel
theorem dL_law_875 : decode cL_law 875 = .ok (.iadd, 1) := by decide +kernel
theorem dL_law_876 : decode cL_law 876 = .ok (.iaload, 1) := by decide +kernel
theorem dL_law_877 : decode cL_law 877 = .ok (.aload_n 0, 1) := by decide +kernel
theorem dL_law_878 : decode cL_law 878 = .ok (.iload_n 3, 1) := by decide +kernel
theorem dL_law_879 : decode cL_law 879 = .ok (.iconst 2, 1) := by decide +kernel
theorem dL_law_880 : decode cL_law 880 = .ok (.iadd, 1) := by decide +kernel
theorem dL_law_881 : decode cL_law 881 = .ok (.iaload, 1) := by decide +kernel
theorem dL_law_882 : decode cL_law 882 = .ok (.aload_n 0, 1) := by decide +kernel
theorem dL_law_883 : decode cL_law 883 = .ok (.iload_n 3, 1) := by decide +kernel
theorem dL_law_884 : decode cL_law 884 = .ok (.iconst 3, 1) := by decide +kernel
theorem dL_law_885 : decode cL_law 885 = .ok (.iadd, 1) := by decide +kernel
theorem dL_law_886 : decode cL_law 886 = .ok (.iaload, 1) := by decide +kernel
theorem dL_law_887 : decode cL_law 887 = .ok (.invokevirtual 112, 3) := by decide +kernel
theorem dL_law_890 : decode cL_law 890 = .ok (.if_icmp .eq 233, 3) := by decide +kernel
theorem dL_law_893 : decode cL_law 893 = .ok (.iconst 0, 1) := by decide +kernel
theorem dL_law_894 : decode cL_law 894 = .ok (.ireturn, 1) := by decide +kernel
theorem dL_law_895 : decode cL_law 895 = .ok (.aload_n 1, 1) := by decide +kernel
theorem dL_law_896 : decode cL_law 896 = .ok (.aload_n 0, 1) := by decide +kernel
theorem dL_law_897 : decode cL_law 897 = .ok (.iload_n 3, 1) := by decide +kernel
theorem dL_law_898 : decode cL_law 898 = .ok (.iconst 1, 1) := by decide +kernel
theorem dL_law_899 : decode cL_law 899 = .ok (.iadd, 1) := by decide +kernel
theorem dL_law_900 : decode cL_law 900 = .ok (.iaload, 1) := by decide +kernel
theorem dL_law_901 : decode cL_law 901 = .ok (.aload_n 0, 1) := by decide +kernel
theorem dL_law_902 : decode cL_law 902 = .ok (.iload_n 3, 1) := by decide +kernel
theorem dL_law_903 : decode cL_law 903 = .ok (.iconst 2, 1) := by decide +kernel
theorem dL_law_904 : decode cL_law 904 = .ok (.iadd, 1) := by decide +kernel
theorem dL_law_905 : decode cL_law 905 = .ok (.iaload, 1) := by decide +kernel
theorem dL_law_906 : decode cL_law 906 = .ok (.aload_n 0, 1) := by decide +kernel
theorem dL_law_907 : decode cL_law 907 = .ok (.iload_n 3, 1) := by decide +kernel
theorem dL_law_908 : decode cL_law 908 = .ok (.iconst 3, 1) := by decide +kernel
theorem dL_law_909 : decode cL_law 909 = .ok (.iadd, 1) := by decide +kernel
theorem dL_law_910 : decode cL_law 910 = .ok (.iaload, 1) := by decide +kernel
theorem dL_law_911 : decode cL_law 911 = .ok (.invokevirtual 113, 3) := by decide +kernel
theorem dL_law_914 : decode cL_law 914 = .ok (.aload_n 2, 1) := by decide +kernel
theorem dL_law_915 : decode cL_law 915 = .ok (.aload_n 0, 1) := by decide +kernel
theorem dL_law_916 : decode cL_law 916 = .ok (.iload_n 3, 1) := by decide +kernel
theorem dL_law_917 : decode cL_law 917 = .ok (.iconst 1, 1) := by decide +kernel
theorem dL_law_918 : decode cL_law 918 = .ok (.iadd, 1) := by decide +kernel
theorem dL_law_919 : decode cL_law 919 = .ok (.iaload, 1) := by decide +kernel
theorem dL_law_920 : decode cL_law 920 = .ok (.aload_n 0, 1) := by decide +kernel
theorem dL_law_921 : decode cL_law 921 = .ok (.iload_n 3, 1) := by decide +kernel
theorem dL_law_922 : decode cL_law 922 = .ok (.iconst 2, 1) := by decide +kernel
theorem dL_law_923 : decode cL_law 923 = .ok (.iadd, 1) := by decide +kernel
theorem dL_law_924 : decode cL_law 924 = .ok (.iaload, 1) := by decide +kernel
theorem dL_law_925 : decode cL_law 925 = .ok (.aload_n 0, 1) := by decide +kernel
theorem dL_law_926 : decode cL_law 926 = .ok (.iload_n 3, 1) := by decide +kernel
theorem dL_law_927 : decode cL_law 927 = .ok (.iconst 3, 1) := by decide +kernel
theorem dL_law_928 : decode cL_law 928 = .ok (.iadd, 1) := by decide +kernel
theorem dL_law_929 : decode cL_law 929 = .ok (.iaload, 1) := by decide +kernel
theorem dL_law_930 : decode cL_law 930 = .ok (.invokevirtual 116, 3) := by decide +kernel
theorem dL_law_933 : decode cL_law 933 = .ok (.if_icmp .eq 190, 3) := by decide +kernel
theorem dL_law_936 : decode cL_law 936 = .ok (.iconst 0, 1) := by decide +kernel
theorem dL_law_937 : decode cL_law 937 = .ok (.ireturn, 1) := by decide +kernel
theorem dL_law_938 : decode cL_law 938 = .ok (.aload_n 1, 1) := by decide +kernel
theorem dL_law_939 : decode cL_law 939 = .ok (.aload_n 0, 1) := by decide +kernel
theorem dL_law_940 : decode cL_law 940 = .ok (.iload_n 3, 1) := by decide +kernel
theorem dL_law_941 : decode cL_law 941 = .ok (.iconst 1, 1) := by decide +kernel
theorem dL_law_942 : decode cL_law 942 = .ok (.iadd, 1) := by decide +kernel
theorem dL_law_943 : decode cL_law 943 = .ok (.iaload, 1) := by decide +kernel
theorem dL_law_944 : decode cL_law 944 = .ok (.invokevirtual 117, 3) := by decide +kernel
theorem dL_law_947 : decode cL_law 947 = .ok (.aload_n 2, 1) := by decide +kernel
theorem dL_law_948 : decode cL_law 948 = .ok (.aload_n 0, 1) := by decide +kernel
theorem dL_law_949 : decode cL_law 949 = .ok (.iload_n 3, 1) := by decide +kernel
theorem dL_law_950 : decode cL_law 950 = .ok (.iconst 1, 1) := by decide +kernel
theorem dL_law_951 : decode cL_law 951 = .ok (.iadd, 1) := by decide +kernel
theorem dL_law_952 : decode cL_law 952 = .ok (.iaload, 1) := by decide +kernel
theorem dL_law_953 : decode cL_law 953 = .ok (.invokevirtual 120, 3) := by decide +kernel
theorem dL_law_956 : decode cL_law 956 = .ok (.if_icmp .eq 167, 3) := by decide +kernel
theorem dL_law_959 : decode cL_law 959 = .ok (.iconst 0, 1) := by decide +kernel
theorem dL_law_960 : decode cL_law 960 = .ok (.ireturn, 1) := by decide +kernel
theorem dL_law_961 : decode cL_law 961 = .ok (.aload_n 1, 1) := by decide +kernel
theorem dL_law_962 : decode cL_law 962 = .ok (.aload_n 0, 1) := by decide +kernel
theorem dL_law_963 : decode cL_law 963 = .ok (.iload_n 3, 1) := by decide +kernel
theorem dL_law_964 : decode cL_law 964 = .ok (.iconst 1, 1) := by decide +kernel
theorem dL_law_965 : decode cL_law 965 = .ok (.iadd, 1) := by decide +kernel
theorem dL_law_966 : decode cL_law 966 = .ok (.iaload, 1) := by decide +kernel
theorem dL_law_967 : decode cL_law 967 = .ok (.invokevirtual 121, 3) := by decide +kernel
theorem dL_law_970 : decode cL_law 970 = .ok (.aload_n 2, 1) := by decide +kernel
theorem dL_law_971 : decode cL_law 971 = .ok (.aload_n 0, 1) := by decide +kernel
theorem dL_law_972 : decode cL_law 972 = .ok (.iload_n 3, 1) := by decide +kernel
theorem dL_law_973 : decode cL_law 973 = .ok (.iconst 1, 1) := by decide +kernel
theorem dL_law_974 : decode cL_law 974 = .ok (.iadd, 1) := by decide +kernel
theorem dL_law_975 : decode cL_law 975 = .ok (.iaload, 1) := by decide +kernel
theorem dL_law_976 : decode cL_law 976 = .ok (.invokevirtual 124, 3) := by decide +kernel
theorem dL_law_979 : decode cL_law 979 = .ok (.if_icmp .eq 144, 3) := by decide +kernel
theorem dL_law_982 : decode cL_law 982 = .ok (.iconst 0, 1) := by decide +kernel
theorem dL_law_983 : decode cL_law 983 = .ok (.ireturn, 1) := by decide +kernel
theorem dL_law_984 : decode cL_law 984 = .ok (.aload_n 1, 1) := by decide +kernel
theorem dL_law_985 : decode cL_law 985 = .ok (.aload_n 0, 1) := by decide +kernel
theorem dL_law_986 : decode cL_law 986 = .ok (.iload_n 3, 1) := by decide +kernel
theorem dL_law_987 : decode cL_law 987 = .ok (.iconst 1, 1) := by decide +kernel
theorem dL_law_988 : decode cL_law 988 = .ok (.iadd, 1) := by decide +kernel
theorem dL_law_989 : decode cL_law 989 = .ok (.iaload, 1) := by decide +kernel
theorem dL_law_990 : decode cL_law 990 = .ok (.aload_n 0, 1) := by decide +kernel
theorem dL_law_991 : decode cL_law 991 = .ok (.iload_n 3, 1) := by decide +kernel
theorem dL_law_992 : decode cL_law 992 = .ok (.iconst 2, 1) := by decide +kernel
theorem dL_law_993 : decode cL_law 993 = .ok (.iadd, 1) := by decide +kernel
theorem dL_law_994 : decode cL_law 994 = .ok (.iaload, 1) := by decide +kernel
theorem dL_law_995 : decode cL_law 995 = .ok (.invokevirtual 125, 3) := by decide +kernel
theorem dL_law_998 : decode cL_law 998 = .ok (.aload_n 2, 1) := by decide +kernel
theorem dL_law_999 : decode cL_law 999 = .ok (.aload_n 0, 1) := by decide +kernel
theorem dL_law_1000 : decode cL_law 1000 = .ok (.iload_n 3, 1) := by decide +kernel
theorem dL_law_1001 : decode cL_law 1001 = .ok (.iconst 1, 1) := by decide +kernel
theorem dL_law_1002 : decode cL_law 1002 = .ok (.iadd, 1) := by decide +kernel
theorem dL_law_1003 : decode cL_law 1003 = .ok (.iaload, 1) := by decide +kernel
theorem dL_law_1004 : decode cL_law 1004 = .ok (.aload_n 0, 1) := by decide +kernel
theorem dL_law_1005 : decode cL_law 1005 = .ok (.iload_n 3, 1) := by decide +kernel
theorem dL_law_1006 : decode cL_law 1006 = .ok (.iconst 2, 1) := by decide +kernel
theorem dL_law_1007 : decode cL_law 1007 = .ok (.iadd, 1) := by decide +kernel
theorem dL_law_1008 : decode cL_law 1008 = .ok (.iaload, 1) := by decide +kernel
theorem dL_law_1009 : decode cL_law 1009 = .ok (.invokevirtual 128, 3) := by decide +kernel
theorem dL_law_1012 : decode cL_law 1012 = .ok (.if_icmp .eq 111, 3) := by decide +kernel
theorem dL_law_1015 : decode cL_law 1015 = .ok (.iconst 0, 1) := by decide +kernel
theorem dL_law_1016 : decode cL_law 1016 = .ok (.ireturn, 1) := by decide +kernel
theorem dL_law_1017 : decode cL_law 1017 = .ok (.aload_n 1, 1) := by decide +kernel
theorem dL_law_1018 : decode cL_law 1018 = .ok (.aload_n 0, 1) := by decide +kernel
theorem dL_law_1019 : decode cL_law 1019 = .ok (.iload_n 3, 1) := by decide +kernel
theorem dL_law_1020 : decode cL_law 1020 = .ok (.iconst 1, 1) := by decide +kernel
theorem dL_law_1021 : decode cL_law 1021 = .ok (.iadd, 1) := by decide +kernel
theorem dL_law_1022 : decode cL_law 1022 = .ok (.iaload, 1) := by decide +kernel
theorem dL_law_1023 : decode cL_law 1023 = .ok (.invokevirtual 129, 3) := by decide +kernel
theorem dL_law_1026 : decode cL_law 1026 = .ok (.aload_n 2, 1) := by decide +kernel
theorem dL_law_1027 : decode cL_law 1027 = .ok (.aload_n 0, 1) := by decide +kernel
theorem dL_law_1028 : decode cL_law 1028 = .ok (.iload_n 3, 1) := by decide +kernel
theorem dL_law_1029 : decode cL_law 1029 = .ok (.iconst 1, 1) := by decide +kernel
theorem dL_law_1030 : decode cL_law 1030 = .ok (.iadd, 1) := by decide +kernel
theorem dL_law_1031 : decode cL_law 1031 = .ok (.iaload, 1) := by decide +kernel
theorem dL_law_1032 : decode cL_law 1032 = .ok (.invokevirtual 132, 3) := by decide +kernel
theorem dL_law_1035 : decode cL_law 1035 = .ok (.if_icmp .eq 88, 3) := by decide +kernel
theorem dL_law_1038 : decode cL_law 1038 = .ok (.iconst 0, 1) := by decide +kernel
theorem dL_law_1039 : decode cL_law 1039 = .ok (.ireturn, 1) := by decide +kernel
theorem dL_law_1040 : decode cL_law 1040 = .ok (.aload_n 1, 1) := by decide +kernel
theorem dL_law_1041 : decode cL_law 1041 = .ok (.aload_n 0, 1) := by decide +kernel
theorem dL_law_1042 : decode cL_law 1042 = .ok (.iload_n 3, 1) := by decide +kernel
theorem dL_law_1043 : decode cL_law 1043 = .ok (.iconst 1, 1) := by decide +kernel
theorem dL_law_1044 : decode cL_law 1044 = .ok (.iadd, 1) := by decide +kernel
theorem dL_law_1045 : decode cL_law 1045 = .ok (.iaload, 1) := by decide +kernel
theorem dL_law_1046 : decode cL_law 1046 = .ok (.invokevirtual 133, 3) := by decide +kernel
theorem dL_law_1049 : decode cL_law 1049 = .ok (.aload_n 2, 1) := by decide +kernel
theorem dL_law_1050 : decode cL_law 1050 = .ok (.aload_n 0, 1) := by decide +kernel
theorem dL_law_1051 : decode cL_law 1051 = .ok (.iload_n 3, 1) := by decide +kernel
theorem dL_law_1052 : decode cL_law 1052 = .ok (.iconst 1, 1) := by decide +kernel
theorem dL_law_1053 : decode cL_law 1053 = .ok (.iadd, 1) := by decide +kernel
theorem dL_law_1054 : decode cL_law 1054 = .ok (.iaload, 1) := by decide +kernel
theorem dL_law_1055 : decode cL_law 1055 = .ok (.invokevirtual 136, 3) := by decide +kernel
theorem dL_law_1058 : decode cL_law 1058 = .ok (.if_icmp .eq 65, 3) := by decide +kernel
theorem dL_law_1061 : decode cL_law 1061 = .ok (.iconst 0, 1) := by decide +kernel
theorem dL_law_1062 : decode cL_law 1062 = .ok (.ireturn, 1) := by decide +kernel
theorem dL_law_1063 : decode cL_law 1063 = .ok (.aload_n 1, 1) := by decide +kernel
theorem dL_law_1064 : decode cL_law 1064 = .ok (.aload_n 0, 1) := by decide +kernel
theorem dL_law_1065 : decode cL_law 1065 = .ok (.iload_n 3, 1) := by decide +kernel
theorem dL_law_1066 : decode cL_law 1066 = .ok (.iconst 1, 1) := by decide +kernel
theorem dL_law_1067 : decode cL_law 1067 = .ok (.iadd, 1) := by decide +kernel
theorem dL_law_1068 : decode cL_law 1068 = .ok (.iaload, 1) := by decide +kernel
theorem dL_law_1069 : decode cL_law 1069 = .ok (.invokevirtual 137, 3) := by decide +kernel
theorem dL_law_1072 : decode cL_law 1072 = .ok (.aload_n 2, 1) := by decide +kernel
theorem dL_law_1073 : decode cL_law 1073 = .ok (.aload_n 0, 1) := by decide +kernel
theorem dL_law_1074 : decode cL_law 1074 = .ok (.iload_n 3, 1) := by decide +kernel
theorem dL_law_1075 : decode cL_law 1075 = .ok (.iconst 1, 1) := by decide +kernel
theorem dL_law_1076 : decode cL_law 1076 = .ok (.iadd, 1) := by decide +kernel
theorem dL_law_1077 : decode cL_law 1077 = .ok (.iaload, 1) := by decide +kernel
theorem dL_law_1078 : decode cL_law 1078 = .ok (.invokevirtual 140, 3) := by decide +kernel
theorem dL_law_1081 : decode cL_law 1081 = .ok (.if_icmp .eq 42, 3) := by decide +kernel
theorem dL_law_1084 : decode cL_law 1084 = .ok (.iconst 0, 1) := by decide +kernel
theorem dL_law_1085 : decode cL_law 1085 = .ok (.ireturn, 1) := by decide +kernel
theorem dL_law_1086 : decode cL_law 1086 = .ok (.aload_n 1, 1) := by decide +kernel
theorem dL_law_1087 : decode cL_law 1087 = .ok (.aload_n 0, 1) := by decide +kernel
theorem dL_law_1088 : decode cL_law 1088 = .ok (.iload_n 3, 1) := by decide +kernel
theorem dL_law_1089 : decode cL_law 1089 = .ok (.iconst 1, 1) := by decide +kernel
theorem dL_law_1090 : decode cL_law 1090 = .ok (.iadd, 1) := by decide +kernel
theorem dL_law_1091 : decode cL_law 1091 = .ok (.iaload, 1) := by decide +kernel
theorem dL_law_1092 : decode cL_law 1092 = .ok (.invokevirtual 141, 3) := by decide +kernel
theorem dL_law_1095 : decode cL_law 1095 = .ok (.aload_n 2, 1) := by decide +kernel
theorem dL_law_1096 : decode cL_law 1096 = .ok (.aload_n 0, 1) := by decide +kernel
theorem dL_law_1097 : decode cL_law 1097 = .ok (.iload_n 3, 1) := by decide +kernel
theorem dL_law_1098 : decode cL_law 1098 = .ok (.iconst 1, 1) := by decide +kernel
theorem dL_law_1099 : decode cL_law 1099 = .ok (.iadd, 1) := by decide +kernel
theorem dL_law_1100 : decode cL_law 1100 = .ok (.iaload, 1) := by decide +kernel
theorem dL_law_1101 : decode cL_law 1101 = .ok (.invokevirtual 144, 3) := by decide +kernel
theorem dL_law_1104 : decode cL_law 1104 = .ok (.if_icmp .eq 19, 3) := by decide +kernel
theorem dL_law_1107 : decode cL_law 1107 = .ok (.iconst 0, 1) := by decide +kernel
theorem dL_law_1108 : decode cL_law 1108 = .ok (.ireturn, 1) := by decide +kernel
theorem dL_law_1109 : decode cL_law 1109 = .ok (.aload_n 1, 1) := by decide +kernel
theorem dL_law_1110 : decode cL_law 1110 = .ok (.invokevirtual 145, 3) := by decide +kernel
theorem dL_law_1113 : decode cL_law 1113 = .ok (.aload_n 2, 1) := by decide +kernel
theorem dL_law_1114 : decode cL_law 1114 = .ok (.invokevirtual 149, 3) := by decide +kernel
theorem dL_law_1117 : decode cL_law 1117 = .ok (.lcmp, 1) := by decide +kernel
theorem dL_law_1118 : decode cL_law 1118 = .ok (.ifCond .eq 5, 3) := by decide +kernel
theorem dL_law_1121 : decode cL_law 1121 = .ok (.iconst 0, 1) := by decide +kernel
theorem dL_law_1122 : decode cL_law 1122 = .ok (.ireturn, 1) := by decide +kernel
theorem dL_law_1123 : decode cL_law 1123 = .ok (.iinc 3 6, 3) := by decide +kernel
theorem dL_law_1126 : decode cL_law 1126 = .ok (.goto (-1108), 3) := by decide +kernel
theorem dL_law_1129 : decode cL_law 1129 = .ok (.iconst 1, 1) := by decide +kernel
theorem dL_law_1130 : decode cL_law 1130 = .ok (.ireturn, 1) := by decide +kernel
