theorem dX0_init_0 : decode cX0_init 0 = .ok (.aload_n 0, 1) := by decide +kernel
theorem dX0_init_1 : decode cX0_init 1 = .ok (.invokespecial 5, 3) := by decide +kernel
theorem dX0_init_4 : decode cX0_init 4 = .ok (.aload_n 0, 1) := by decide +kernel
theorem dX0_init_5 : decode cX0_init 5 = .ok (.bipush 8, 2) := by decide +kernel
theorem dX0_init_7 : decode cX0_init 7 = .ok (.newarray .int, 2) := by decide +kernel
theorem dX0_init_9 : decode cX0_init 9 = .ok (.putfield 11, 3) := by decide +kernel
theorem dX0_init_12 : decode cX0_init 12 = .ok (.aload_n 0, 1) := by decide +kernel
theorem dX0_init_13 : decode cX0_init 13 = .ok (.getfield 11, 3) := by decide +kernel
theorem dX0_init_16 : decode cX0_init 16 = .ok (.iconst 0, 1) := by decide +kernel
theorem dX0_init_17 : decode cX0_init 17 = .ok (.iload_n 1, 1) := by decide +kernel
theorem dX0_init_18 : decode cX0_init 18 = .ok (.iastore, 1) := by decide +kernel
theorem dX0_init_19 : decode cX0_init 19 = .ok (.return_, 1) := by decide +kernel
theorem dX0_become_0 : decode cX0_become 0 = .ok (.aload_n 0, 1) := by decide +kernel
theorem dX0_become_1 : decode cX0_become 1 = .ok (.getfield 11, 3) := by decide +kernel
theorem dX0_become_4 : decode cX0_become 4 = .ok (.iconst 0, 1) := by decide +kernel
theorem dX0_become_5 : decode cX0_become 5 = .ok (.invokestatic 15, 3) := by decide +kernel
theorem dX0_become_8 : decode cX0_become 8 = .ok (.aload_n 0, 1) := by decide +kernel
theorem dX0_become_9 : decode cX0_become 9 = .ok (.getfield 11, 3) := by decide +kernel
theorem dX0_become_12 : decode cX0_become 12 = .ok (.iconst 0, 1) := by decide +kernel
theorem dX0_become_13 : decode cX0_become 13 = .ok (.iload_n 1, 1) := by decide +kernel
theorem dX0_become_14 : decode cX0_become 14 = .ok (.iastore, 1) := by decide +kernel
theorem dX0_become_15 : decode cX0_become 15 = .ok (.return_, 1) := by decide +kernel
theorem dX0_size_0 : decode cX0_size 0 = .ok (.bipush 8, 2) := by decide +kernel
theorem dX0_size_2 : decode cX0_size 2 = .ok (.istore_n 1, 1) := by decide +kernel
theorem dX0_size_3 : decode cX0_size 3 = .ok (.iload_n 1, 1) := by decide +kernel
theorem dX0_size_4 : decode cX0_size 4 = .ok (.ifCond .le 22, 3) := by decide +kernel
theorem dX0_size_7 : decode cX0_size 7 = .ok (.aload_n 0, 1) := by decide +kernel
theorem dX0_size_8 : decode cX0_size 8 = .ok (.getfield 11, 3) := by decide +kernel
theorem dX0_size_11 : decode cX0_size 11 = .ok (.iload_n 1, 1) := by decide +kernel
theorem dX0_size_12 : decode cX0_size 12 = .ok (.iconst 1, 1) := by decide +kernel
theorem dX0_size_13 : decode cX0_size 13 = .ok (.isub, 1) := by decide +kernel
theorem dX0_size_14 : decode cX0_size 14 = .ok (.iaload, 1) := by decide +kernel
theorem dX0_size_15 : decode cX0_size 15 = .ok (.ifCond .eq 5, 3) := by decide +kernel
theorem dX0_size_18 : decode cX0_size 18 = .ok (.iload_n 1, 1) := by decide +kernel
theorem dX0_size_19 : decode cX0_size 19 = .ok (.ireturn, 1) := by decide +kernel
theorem dX0_size_20 : decode cX0_size 20 = .ok (.iinc 1 (-1), 3) := by decide +kernel
theorem dX0_size_23 : decode cX0_size 23 = .ok (.goto (-20), 3) := by decide +kernel
theorem dX0_size_26 : decode cX0_size 26 = .ok (.iconst 0, 1) := by decide +kernel
theorem dX0_size_27 : decode cX0_size 27 = .ok (.ireturn, 1) := by decide +kernel
theorem dX0_limbAt_0 : decode cX0_limbAt 0 = .ok (.iload_n 1, 1) := by decide +kernel
theorem dX0_limbAt_1 : decode cX0_limbAt 1 = .ok (.ifCond .lt 20, 3) := by decide +kernel
theorem dX0_limbAt_4 : decode cX0_limbAt 4 = .ok (.iload_n 1, 1) := by decide +kernel
theorem dX0_limbAt_5 : decode cX0_limbAt 5 = .ok (.aload_n 0, 1) := by decide +kernel
theorem dX0_limbAt_6 : decode cX0_limbAt 6 = .ok (.invokevirtual 21, 3) := by decide +kernel
theorem dX0_limbAt_9 : decode cX0_limbAt 9 = .ok (.if_icmp .ge 12, 3) := by decide +kernel
theorem dX0_limbAt_12 : decode cX0_limbAt 12 = .ok (.aload_n 0, 1) := by decide +kernel
theorem dX0_limbAt_13 : decode cX0_limbAt 13 = .ok (.getfield 11, 3) := by decide +kernel
theorem dX0_limbAt_16 : decode cX0_limbAt 16 = .ok (.iload_n 1, 1) := by decide +kernel
theorem dX0_limbAt_17 : decode cX0_limbAt 17 = .ok (.iaload, 1) := by decide +kernel
theorem dX0_limbAt_18 : decode cX0_limbAt 18 = .ok (.goto 4, 3) := by decide +kernel
theorem dX0_limbAt_21 : decode cX0_limbAt 21 = .ok (.iconst (-1), 1) := by decide +kernel
theorem dX0_limbAt_22 : decode cX0_limbAt 22 = .ok (.ireturn, 1) := by decide +kernel
theorem dX0_times_0 : decode cX0_times 0 = .ok (.lconst 0, 1) := by decide +kernel
theorem dX0_times_1 : decode cX0_times 1 = .ok (.lstore_n 2, 1) := by decide +kernel
theorem dX0_times_2 : decode cX0_times 2 = .ok (.iconst 0, 1) := by decide +kernel
theorem dX0_times_3 : decode cX0_times 3 = .ok (.istore 4, 2) := by decide +kernel
theorem dX0_times_5 : decode cX0_times 5 = .ok (.iload 4, 2) := by decide +kernel
theorem dX0_times_7 : decode cX0_times 7 = .ok (.bipush 8, 2) := by decide +kernel
theorem dX0_times_9 : decode cX0_times 9 = .ok (.if_icmp .ge 41, 3) := by decide +kernel
theorem dX0_times_12 : decode cX0_times 12 = .ok (.lload_n 2, 1) := by decide +kernel
theorem dX0_times_13 : decode cX0_times 13 = .ok (.aload_n 0, 1) := by decide +kernel
theorem dX0_times_14 : decode cX0_times 14 = .ok (.getfield 11, 3) := by decide +kernel
theorem dX0_times_17 : decode cX0_times 17 = .ok (.iload 4, 2) := by decide +kernel
theorem dX0_times_19 : decode cX0_times 19 = .ok (.iaload, 1) := by decide +kernel
theorem dX0_times_20 : decode cX0_times 20 = .ok (.i2l, 1) := by decide +kernel
theorem dX0_times_21 : decode cX0_times 21 = .ok (.iload_n 1, 1) := by decide +kernel
theorem dX0_times_22 : decode cX0_times 22 = .ok (.i2l, 1) := by decide +kernel
theorem dX0_times_23 : decode cX0_times 23 = .ok (.lmul, 1) := by decide +kernel
theorem dX0_times_24 : decode cX0_times 24 = .ok (.ladd, 1) := by decide +kernel
theorem dX0_times_25 : decode cX0_times 25 = .ok (.lstore_n 2, 1) := by decide +kernel
theorem dX0_times_26 : decode cX0_times 26 = .ok (.aload_n 0, 1) := by decide +kernel
theorem dX0_times_27 : decode cX0_times 27 = .ok (.getfield 11, 3) := by decide +kernel
theorem dX0_times_30 : decode cX0_times 30 = .ok (.iload 4, 2) := by decide +kernel
theorem dX0_times_32 : decode cX0_times 32 = .ok (.lload_n 2, 1) := by decide +kernel
theorem dX0_times_33 : decode cX0_times 33 = .ok (.ldc2_w 25, 3) := by decide +kernel
theorem dX0_times_36 : decode cX0_times 36 = .ok (.land, 1) := by decide +kernel
theorem dX0_times_37 : decode cX0_times 37 = .ok (.l2i, 1) := by decide +kernel
theorem dX0_times_38 : decode cX0_times 38 = .ok (.iastore, 1) := by decide +kernel
theorem dX0_times_39 : decode cX0_times 39 = .ok (.lload_n 2, 1) := by decide +kernel
theorem dX0_times_40 : decode cX0_times 40 = .ok (.bipush 30, 2) := by decide +kernel
theorem dX0_times_42 : decode cX0_times 42 = .ok (.lshr, 1) := by decide +kernel
theorem dX0_times_43 : decode cX0_times 43 = .ok (.lstore_n 2, 1) := by decide +kernel
theorem dX0_times_44 : decode cX0_times 44 = .ok (.iinc 4 1, 3) := by decide +kernel
theorem dX0_times_47 : decode cX0_times 47 = .ok (.goto (-42), 3) := by decide +kernel
theorem dX0_times_50 : decode cX0_times 50 = .ok (.return_, 1) := by decide +kernel
theorem dX0_plus_0 : decode cX0_plus 0 = .ok (.aload_n 1, 1) := by decide +kernel
theorem dX0_plus_1 : decode cX0_plus 1 = .ok (.ifnonnull 4, 3) := by decide +kernel
theorem dX0_plus_4 : decode cX0_plus 4 = .ok (.return_, 1) := by decide +kernel
theorem dX0_plus_5 : decode cX0_plus 5 = .ok (.lconst 0, 1) := by decide +kernel
theorem dX0_plus_6 : decode cX0_plus 6 = .ok (.lstore_n 2, 1) := by decide +kernel
theorem dX0_plus_7 : decode cX0_plus 7 = .ok (.iconst 0, 1) := by decide +kernel
theorem dX0_plus_8 : decode cX0_plus 8 = .ok (.istore 4, 2) := by decide +kernel
theorem dX0_plus_10 : decode cX0_plus 10 = .ok (.iload 4, 2) := by decide +kernel
theorem dX0_plus_12 : decode cX0_plus 12 = .ok (.bipush 8, 2) := by decide +kernel
theorem dX0_plus_14 : decode cX0_plus 14 = .ok (.if_icmp .ge 47, 3) := by decide +kernel
theorem dX0_plus_17 : decode cX0_plus 17 = .ok (.lload_n 2, 1) := by decide +kernel
theorem dX0_plus_18 : decode cX0_plus 18 = .ok (.aload_n 0, 1) := by decide +kernel
theorem dX0_plus_19 : decode cX0_plus 19 = .ok (.getfield 11, 3) := by decide +kernel
theorem dX0_plus_22 : decode cX0_plus 22 = .ok (.iload 4, 2) := by decide +kernel
theorem dX0_plus_24 : decode cX0_plus 24 = .ok (.iaload, 1) := by decide +kernel
theorem dX0_plus_25 : decode cX0_plus 25 = .ok (.i2l, 1) := by decide +kernel
theorem dX0_plus_26 : decode cX0_plus 26 = .ok (.aload_n 1, 1) := by decide +kernel
theorem dX0_plus_27 : decode cX0_plus 27 = .ok (.getfield 11, 3) := by decide +kernel
theorem dX0_plus_30 : decode cX0_plus 30 = .ok (.iload 4, 2) := by decide +kernel
theorem dX0_plus_32 : decode cX0_plus 32 = .ok (.iaload, 1) := by decide +kernel
theorem dX0_plus_33 : decode cX0_plus 33 = .ok (.i2l, 1) := by decide +kernel
theorem dX0_plus_34 : decode cX0_plus 34 = .ok (.ladd, 1) := by decide +kernel
theorem dX0_plus_35 : decode cX0_plus 35 = .ok (.ladd, 1) := by decide +kernel
theorem dX0_plus_36 : decode cX0_plus 36 = .ok (.lstore_n 2, 1) := by decide +kernel
theorem dX0_plus_37 : decode cX0_plus 37 = .ok (.aload_n 0, 1) := by decide +kernel
theorem dX0_plus_38 : decode cX0_plus 38 = .ok (.getfield 11, 3) := by decide +kernel
theorem dX0_plus_41 : decode cX0_plus 41 = .ok (.iload 4, 2) := by decide +kernel
theorem dX0_plus_43 : decode cX0_plus 43 = .ok (.lload_n 2, 1) := by decide +kernel
theorem dX0_plus_44 : decode cX0_plus 44 = .ok (.ldc2_w 25, 3) := by decide +kernel
theorem dX0_plus_47 : decode cX0_plus 47 = .ok (.land, 1) := by decide +kernel
theorem dX0_plus_48 : decode cX0_plus 48 = .ok (.l2i, 1) := by decide +kernel
theorem dX0_plus_49 : decode cX0_plus 49 = .ok (.iastore, 1) := by decide +kernel
theorem dX0_plus_50 : decode cX0_plus 50 = .ok (.lload_n 2, 1) := by decide +kernel
theorem dX0_plus_51 : decode cX0_plus 51 = .ok (.bipush 30, 2) := by decide +kernel
theorem dX0_plus_53 : decode cX0_plus 53 = .ok (.lshr, 1) := by decide +kernel
theorem dX0_plus_54 : decode cX0_plus 54 = .ok (.lstore_n 2, 1) := by decide +kernel
theorem dX0_plus_55 : decode cX0_plus 55 = .ok (.iinc 4 1, 3) := by decide +kernel
theorem dX0_plus_58 : decode cX0_plus 58 = .ok (.goto (-48), 3) := by decide +kernel
theorem dX0_plus_61 : decode cX0_plus 61 = .ok (.return_, 1) := by decide +kernel
theorem dX0_isDivided_0 : decode cX0_isDivided 0 = .ok (.lconst 0, 1) := by decide +kernel
theorem dX0_isDivided_1 : decode cX0_isDivided 1 = .ok (.lstore_n 2, 1) := by decide +kernel
theorem dX0_isDivided_2 : decode cX0_isDivided 2 = .ok (.bipush 7, 2) := by decide +kernel
theorem dX0_isDivided_4 : decode cX0_isDivided 4 = .ok (.istore 4, 2) := by decide +kernel
theorem dX0_isDivided_6 : decode cX0_isDivided 6 = .ok (.iload 4, 2) := by decide +kernel
theorem dX0_isDivided_8 : decode cX0_isDivided 8 = .ok (.ifCond .lt 30, 3) := by decide +kernel
theorem dX0_isDivided_11 : decode cX0_isDivided 11 = .ok (.iload_n 1, 1) := by decide +kernel
theorem dX0_isDivided_12 : decode cX0_isDivided 12 = .ok (.ifCond .le 26, 3) := by decide +kernel
theorem dX0_isDivided_15 : decode cX0_isDivided 15 = .ok (.lload_n 2, 1) := by decide +kernel
theorem dX0_isDivided_16 : decode cX0_isDivided 16 = .ok (.bipush 30, 2) := by decide +kernel
theorem dX0_isDivided_18 : decode cX0_isDivided 18 = .ok (.lshl, 1) := by decide +kernel
theorem dX0_isDivided_19 : decode cX0_isDivided 19 = .ok (.aload_n 0, 1) := by decide +kernel
theorem dX0_isDivided_20 : decode cX0_isDivided 20 = .ok (.getfield 11, 3) := by decide +kernel
theorem dX0_isDivided_23 : decode cX0_isDivided 23 = .ok (.iload 4, 2) := by decide +kernel
theorem dX0_isDivided_25 : decode cX0_isDivided 25 = .ok (.iaload, 1) := by decide +kernel
theorem dX0_isDivided_26 : decode cX0_isDivided 26 = .ok (.i2l, 1) := by decide +kernel
theorem dX0_isDivided_27 : decode cX0_isDivided 27 = .ok (.lor, 1) := by decide +kernel
theorem dX0_isDivided_28 : decode cX0_isDivided 28 = .ok (.iload_n 1, 1) := by decide +kernel
theorem dX0_isDivided_29 : decode cX0_isDivided 29 = .ok (.i2l, 1) := by decide +kernel
theorem dX0_isDivided_30 : decode cX0_isDivided 30 = .ok (.lrem, 1) := by decide +kernel
theorem dX0_isDivided_31 : decode cX0_isDivided 31 = .ok (.lstore_n 2, 1) := by decide +kernel
theorem dX0_isDivided_32 : decode cX0_isDivided 32 = .ok (.iinc 4 (-1), 3) := by decide +kernel
theorem dX0_isDivided_35 : decode cX0_isDivided 35 = .ok (.goto (-29), 3) := by decide +kernel
theorem dX0_isDivided_38 : decode cX0_isDivided 38 = .ok (.lload_n 2, 1) := by decide +kernel
theorem dX0_isDivided_39 : decode cX0_isDivided 39 = .ok (.lconst 0, 1) := by decide +kernel
theorem dX0_isDivided_40 : decode cX0_isDivided 40 = .ok (.lcmp, 1) := by decide +kernel
theorem dX0_isDivided_41 : decode cX0_isDivided 41 = .ok (.ifCond .ne 7, 3) := by decide +kernel
theorem dX0_isDivided_44 : decode cX0_isDivided 44 = .ok (.iconst 1, 1) := by decide +kernel
theorem dX0_isDivided_45 : decode cX0_isDivided 45 = .ok (.goto 4, 3) := by decide +kernel
theorem dX0_isDivided_48 : decode cX0_isDivided 48 = .ok (.iconst 0, 1) := by decide +kernel
theorem dX0_isDivided_49 : decode cX0_isDivided 49 = .ok (.ireturn, 1) := by decide +kernel
theorem dX0_divide_0 : decode cX0_divide 0 = .ok (.lconst 0, 1) := by decide +kernel
theorem dX0_divide_1 : decode cX0_divide 1 = .ok (.lstore_n 2, 1) := by decide +kernel
theorem dX0_divide_2 : decode cX0_divide 2 = .ok (.bipush 7, 2) := by decide +kernel
theorem dX0_divide_4 : decode cX0_divide 4 = .ok (.istore 4, 2) := by decide +kernel
theorem dX0_divide_6 : decode cX0_divide 6 = .ok (.iload 4, 2) := by decide +kernel
theorem dX0_divide_8 : decode cX0_divide 8 = .ok (.ifCond .lt 47, 3) := by decide +kernel
theorem dX0_divide_11 : decode cX0_divide 11 = .ok (.iload_n 1, 1) := by decide +kernel
theorem dX0_divide_12 : decode cX0_divide 12 = .ok (.ifCond .le 43, 3) := by decide +kernel
theorem dX0_divide_15 : decode cX0_divide 15 = .ok (.lload_n 2, 1) := by decide +kernel
theorem dX0_divide_16 : decode cX0_divide 16 = .ok (.bipush 30, 2) := by decide +kernel
theorem dX0_divide_18 : decode cX0_divide 18 = .ok (.lshl, 1) := by decide +kernel
theorem dX0_divide_19 : decode cX0_divide 19 = .ok (.aload_n 0, 1) := by decide +kernel
theorem dX0_divide_20 : decode cX0_divide 20 = .ok (.getfield 11, 3) := by decide +kernel
theorem dX0_divide_23 : decode cX0_divide 23 = .ok (.iload 4, 2) := by decide +kernel
theorem dX0_divide_25 : decode cX0_divide 25 = .ok (.iaload, 1) := by decide +kernel
theorem dX0_divide_26 : decode cX0_divide 26 = .ok (.i2l, 1) := by decide +kernel
theorem dX0_divide_27 : decode cX0_divide 27 = .ok (.lor, 1) := by decide +kernel
theorem dX0_divide_28 : decode cX0_divide 28 = .ok (.lstore 5, 2) := by decide +kernel
theorem dX0_divide_30 : decode cX0_divide 30 = .ok (.aload_n 0, 1) := by decide +kernel
theorem dX0_divide_31 : decode cX0_divide 31 = .ok (.getfield 11, 3) := by decide +kernel
theorem dX0_divide_34 : decode cX0_divide 34 = .ok (.iload 4, 2) := by decide +kernel
theorem dX0_divide_36 : decode cX0_divide 36 = .ok (.lload 5, 2) := by decide +kernel
theorem dX0_divide_38 : decode cX0_divide 38 = .ok (.iload_n 1, 1) := by decide +kernel
theorem dX0_divide_39 : decode cX0_divide 39 = .ok (.i2l, 1) := by decide +kernel
theorem dX0_divide_40 : decode cX0_divide 40 = .ok (.ldiv, 1) := by decide +kernel
theorem dX0_divide_41 : decode cX0_divide 41 = .ok (.l2i, 1) := by decide +kernel
theorem dX0_divide_42 : decode cX0_divide 42 = .ok (.iastore, 1) := by decide +kernel
theorem dX0_divide_43 : decode cX0_divide 43 = .ok (.lload 5, 2) := by decide +kernel
theorem dX0_divide_45 : decode cX0_divide 45 = .ok (.iload_n 1, 1) := by decide +kernel
theorem dX0_divide_46 : decode cX0_divide 46 = .ok (.i2l, 1) := by decide +kernel
theorem dX0_divide_47 : decode cX0_divide 47 = .ok (.lrem, 1) := by decide +kernel
theorem dX0_divide_48 : decode cX0_divide 48 = .ok (.lstore_n 2, 1) := by decide +kernel
theorem dX0_divide_49 : decode cX0_divide 49 = .ok (.iinc 4 (-1), 3) := by decide +kernel
theorem dX0_divide_52 : decode cX0_divide 52 = .ok (.goto (-46), 3) := by decide +kernel
theorem dX0_divide_55 : decode cX0_divide 55 = .ok (.return_, 1) := by decide +kernel
theorem dX0_mixed_0 : decode cX0_mixed 0 = .ok (.lload_n 1, 1) := by decide +kernel
theorem dX0_mixed_1 : decode cX0_mixed 1 = .ok (.lstore_n 3, 1) := by decide +kernel
theorem dX0_mixed_2 : decode cX0_mixed 2 = .ok (.iconst 0, 1) := by decide +kernel
theorem dX0_mixed_3 : decode cX0_mixed 3 = .ok (.istore 5, 2) := by decide +kernel
theorem dX0_mixed_5 : decode cX0_mixed 5 = .ok (.iload 5, 2) := by decide +kernel
theorem dX0_mixed_7 : decode cX0_mixed 7 = .ok (.aload_n 0, 1) := by decide +kernel
theorem dX0_mixed_8 : decode cX0_mixed 8 = .ok (.invokevirtual 21, 3) := by decide +kernel
theorem dX0_mixed_11 : decode cX0_mixed 11 = .ok (.if_icmp .ge 24, 3) := by decide +kernel
theorem dX0_mixed_14 : decode cX0_mixed 14 = .ok (.ldc2_w 27, 3) := by decide +kernel
theorem dX0_mixed_17 : decode cX0_mixed 17 = .ok (.lload_n 3, 1) := by decide +kernel
theorem dX0_mixed_18 : decode cX0_mixed 18 = .ok (.lmul, 1) := by decide +kernel
theorem dX0_mixed_19 : decode cX0_mixed 19 = .ok (.aload_n 0, 1) := by decide +kernel
theorem dX0_mixed_20 : decode cX0_mixed 20 = .ok (.getfield 11, 3) := by decide +kernel
theorem dX0_mixed_23 : decode cX0_mixed 23 = .ok (.iload 5, 2) := by decide +kernel
theorem dX0_mixed_25 : decode cX0_mixed 25 = .ok (.iaload, 1) := by decide +kernel
theorem dX0_mixed_26 : decode cX0_mixed 26 = .ok (.i2l, 1) := by decide +kernel
theorem dX0_mixed_27 : decode cX0_mixed 27 = .ok (.ladd, 1) := by decide +kernel
theorem dX0_mixed_28 : decode cX0_mixed 28 = .ok (.lstore_n 3, 1) := by decide +kernel
theorem dX0_mixed_29 : decode cX0_mixed 29 = .ok (.iinc 5 1, 3) := by decide +kernel
theorem dX0_mixed_32 : decode cX0_mixed 32 = .ok (.goto (-27), 3) := by decide +kernel
theorem dX0_mixed_35 : decode cX0_mixed 35 = .ok (.lload_n 3, 1) := by decide +kernel
theorem dX0_mixed_36 : decode cX0_mixed 36 = .ok (.lreturn, 1) := by decide +kernel
theorem dX1_init_0 : decode cX1_init 0 = .ok (.aload_n 0, 1) := by decide +kernel
theorem dX1_init_1 : decode cX1_init 1 = .ok (.invokespecial 3, 3) := by decide +kernel
theorem dX1_init_4 : decode cX1_init 4 = .ok (.aload_n 0, 1) := by decide +kernel
theorem dX1_init_5 : decode cX1_init 5 = .ok (.sipush 240, 3) := by decide +kernel
theorem dX1_init_8 : decode cX1_init 8 = .ok (.newarray .int, 2) := by decide +kernel
theorem dX1_init_10 : decode cX1_init 10 = .ok (.putfield 9, 3) := by decide +kernel
theorem dX1_init_13 : decode cX1_init 13 = .ok (.aload_n 0, 1) := by decide +kernel
theorem dX1_init_14 : decode cX1_init 14 = .ok (.iconst 2, 1) := by decide +kernel
theorem dX1_init_15 : decode cX1_init 15 = .ok (.sipush 241, 3) := by decide +kernel
theorem dX1_init_18 : decode cX1_init 18 = .ok (.multianewarray 15 2, 4) := by decide +kernel
theorem dX1_init_22 : decode cX1_init 22 = .ok (.putfield 17, 3) := by decide +kernel
theorem dX1_init_25 : decode cX1_init 25 = .ok (.aload_n 0, 1) := by decide +kernel
theorem dX1_init_26 : decode cX1_init 26 = .ok (.iconst 1, 1) := by decide +kernel
theorem dX1_init_27 : decode cX1_init 27 = .ok (.putfield 20, 3) := by decide +kernel
theorem dX1_init_30 : decode cX1_init 30 = .ok (.aload_n 0, 1) := by decide +kernel
theorem dX1_init_31 : decode cX1_init 31 = .ok (.aload_n 1, 1) := by decide +kernel
theorem dX1_init_32 : decode cX1_init 32 = .ok (.putfield 24, 3) := by decide +kernel
theorem dX1_init_35 : decode cX1_init 35 = .ok (.aload_n 0, 1) := by decide +kernel
theorem dX1_init_36 : decode cX1_init 36 = .ok (.aload_n 2, 1) := by decide +kernel
theorem dX1_init_37 : decode cX1_init 37 = .ok (.putfield 28, 3) := by decide +kernel
theorem dX1_init_40 : decode cX1_init 40 = .ok (.return_, 1) := by decide +kernel
theorem dX1_spoil_0 : decode cX1_spoil 0 = .ok (.aload_n 0, 1) := by decide +kernel
theorem dX1_spoil_1 : decode cX1_spoil 1 = .ok (.iconst 1, 1) := by decide +kernel
theorem dX1_spoil_2 : decode cX1_spoil 2 = .ok (.putfield 20, 3) := by decide +kernel
theorem dX1_spoil_5 : decode cX1_spoil 5 = .ok (.return_, 1) := by decide +kernel
theorem dX1_clockAt_0 : decode cX1_clockAt 0 = .ok (.iload_n 1, 1) := by decide +kernel
theorem dX1_clockAt_1 : decode cX1_clockAt 1 = .ok (.invokestatic 32, 3) := by decide +kernel
theorem dX1_clockAt_4 : decode cX1_clockAt 4 = .ok (.ifCond .eq 25, 3) := by decide +kernel
theorem dX1_clockAt_7 : decode cX1_clockAt 7 = .ok (.iload_n 2, 1) := by decide +kernel
theorem dX1_clockAt_8 : decode cX1_clockAt 8 = .ok (.iconst 0, 1) := by decide +kernel
theorem dX1_clockAt_9 : decode cX1_clockAt 9 = .ok (.sipush 240, 3) := by decide +kernel
theorem dX1_clockAt_12 : decode cX1_clockAt 12 = .ok (.invokestatic 36, 3) := by decide +kernel
theorem dX1_clockAt_15 : decode cX1_clockAt 15 = .ok (.ifCond .eq 14, 3) := by decide +kernel
theorem dX1_clockAt_18 : decode cX1_clockAt 18 = .ok (.aload_n 0, 1) := by decide +kernel
theorem dX1_clockAt_19 : decode cX1_clockAt 19 = .ok (.getfield 17, 3) := by decide +kernel
theorem dX1_clockAt_22 : decode cX1_clockAt 22 = .ok (.iload_n 1, 1) := by decide +kernel
theorem dX1_clockAt_23 : decode cX1_clockAt 23 = .ok (.aaload, 1) := by decide +kernel
theorem dX1_clockAt_24 : decode cX1_clockAt 24 = .ok (.iload_n 2, 1) := by decide +kernel
theorem dX1_clockAt_25 : decode cX1_clockAt 25 = .ok (.iaload, 1) := by decide +kernel
theorem dX1_clockAt_26 : decode cX1_clockAt 26 = .ok (.goto 4, 3) := by decide +kernel
theorem dX1_clockAt_29 : decode cX1_clockAt 29 = .ok (.iconst 0, 1) := by decide +kernel
theorem dX1_clockAt_30 : decode cX1_clockAt 30 = .ok (.ireturn, 1) := by decide +kernel
theorem dX1_countedOf_0 : decode cX1_countedOf 0 = .ok (.aload_n 0, 1) := by decide +kernel
theorem dX1_countedOf_1 : decode cX1_countedOf 1 = .ok (.iload_n 1, 1) := by decide +kernel
theorem dX1_countedOf_2 : decode cX1_countedOf 2 = .ok (.iload_n 2, 1) := by decide +kernel
theorem dX1_countedOf_3 : decode cX1_countedOf 3 = .ok (.invokevirtual 40, 3) := by decide +kernel
theorem dX1_countedOf_6 : decode cX1_countedOf 6 = .ok (.ifCond .ne 5, 3) := by decide +kernel
theorem dX1_countedOf_9 : decode cX1_countedOf 9 = .ok (.iconst 0, 1) := by decide +kernel
theorem dX1_countedOf_10 : decode cX1_countedOf 10 = .ok (.ireturn, 1) := by decide +kernel
theorem dX1_countedOf_11 : decode cX1_countedOf 11 = .ok (.aload_n 0, 1) := by decide +kernel
theorem dX1_countedOf_12 : decode cX1_countedOf 12 = .ok (.getfield 24, 3) := by decide +kernel
theorem dX1_countedOf_15 : decode cX1_countedOf 15 = .ok (.getfield 44, 3) := by decide +kernel
theorem dX1_countedOf_18 : decode cX1_countedOf 18 = .ok (.iload_n 1, 1) := by decide +kernel
theorem dX1_countedOf_19 : decode cX1_countedOf 19 = .ok (.iconst 1, 1) := by decide +kernel
theorem dX1_countedOf_20 : decode cX1_countedOf 20 = .ok (.invokevirtual 50, 3) := by decide +kernel
theorem dX1_countedOf_23 : decode cX1_countedOf 23 = .ok (.istore_n 3, 1) := by decide +kernel
theorem dX1_countedOf_24 : decode cX1_countedOf 24 = .ok (.aload_n 0, 1) := by decide +kernel
theorem dX1_countedOf_25 : decode cX1_countedOf 25 = .ok (.iload_n 3, 1) := by decide +kernel
theorem dX1_countedOf_26 : decode cX1_countedOf 26 = .ok (.iload_n 2, 1) := by decide +kernel
theorem dX1_countedOf_27 : decode cX1_countedOf 27 = .ok (.invokevirtual 56, 3) := by decide +kernel
theorem dX1_countedOf_30 : decode cX1_countedOf 30 = .ok (.istore 4, 2) := by decide +kernel
theorem dX1_countedOf_32 : decode cX1_countedOf 32 = .ok (.aload_n 0, 1) := by decide +kernel
theorem dX1_countedOf_33 : decode cX1_countedOf 33 = .ok (.iload_n 3, 1) := by decide +kernel
theorem dX1_countedOf_34 : decode cX1_countedOf 34 = .ok (.iload_n 2, 1) := by decide +kernel
theorem dX1_countedOf_35 : decode cX1_countedOf 35 = .ok (.iload 4, 2) := by decide +kernel
theorem dX1_countedOf_37 : decode cX1_countedOf 37 = .ok (.bipush 31, 2) := by decide +kernel
theorem dX1_countedOf_39 : decode cX1_countedOf 39 = .ok (.iload_n 1, 1) := by decide +kernel
theorem dX1_countedOf_40 : decode cX1_countedOf 40 = .ok (.invokevirtual 59, 3) := by decide +kernel
theorem dX1_countedOf_43 : decode cX1_countedOf 43 = .ok (.istore 5, 2) := by decide +kernel
theorem dX1_countedOf_45 : decode cX1_countedOf 45 = .ok (.aload_n 0, 1) := by decide +kernel
theorem dX1_countedOf_46 : decode cX1_countedOf 46 = .ok (.iload_n 1, 1) := by decide +kernel
theorem dX1_countedOf_47 : decode cX1_countedOf 47 = .ok (.iload_n 2, 1) := by decide +kernel
theorem dX1_countedOf_48 : decode cX1_countedOf 48 = .ok (.iload 4, 2) := by decide +kernel
theorem dX1_countedOf_50 : decode cX1_countedOf 50 = .ok (.iload 5, 2) := by decide +kernel
theorem dX1_countedOf_52 : decode cX1_countedOf 52 = .ok (.invokevirtual 63, 3) := by decide +kernel
theorem dX1_countedOf_55 : decode cX1_countedOf 55 = .ok (.ireturn, 1) := by decide +kernel
theorem dX1_firstMinute_0 : decode cX1_firstMinute 0 = .ok (.iconst 0, 1) := by decide +kernel
theorem dX1_firstMinute_1 : decode cX1_firstMinute 1 = .ok (.istore_n 3, 1) := by decide +kernel
theorem dX1_firstMinute_2 : decode cX1_firstMinute 2 = .ok (.iload_n 3, 1) := by decide +kernel
theorem dX1_firstMinute_3 : decode cX1_firstMinute 3 = .ok (.sipush 240, 3) := by decide +kernel
theorem dX1_firstMinute_6 : decode cX1_firstMinute 6 = .ok (.if_icmp .gt 21, 3) := by decide +kernel
theorem dX1_firstMinute_9 : decode cX1_firstMinute 9 = .ok (.aload_n 0, 1) := by decide +kernel
theorem dX1_firstMinute_10 : decode cX1_firstMinute 10 = .ok (.iload_n 1, 1) := by decide +kernel
theorem dX1_firstMinute_11 : decode cX1_firstMinute 11 = .ok (.iload_n 3, 1) := by decide +kernel
theorem dX1_firstMinute_12 : decode cX1_firstMinute 12 = .ok (.invokevirtual 56, 3) := by decide +kernel
theorem dX1_firstMinute_15 : decode cX1_firstMinute 15 = .ok (.iload_n 2, 1) := by decide +kernel
theorem dX1_firstMinute_16 : decode cX1_firstMinute 16 = .ok (.if_icmp .lt 5, 3) := by decide +kernel
theorem dX1_firstMinute_19 : decode cX1_firstMinute 19 = .ok (.iload_n 3, 1) := by decide +kernel
theorem dX1_firstMinute_20 : decode cX1_firstMinute 20 = .ok (.ireturn, 1) := by decide +kernel
theorem dX1_firstMinute_21 : decode cX1_firstMinute 21 = .ok (.iinc 3 1, 3) := by decide +kernel
theorem dX1_firstMinute_24 : decode cX1_firstMinute 24 = .ok (.goto (-22), 3) := by decide +kernel
theorem dX1_firstMinute_27 : decode cX1_firstMinute 27 = .ok (.iconst (-1), 1) := by decide +kernel
theorem dX1_firstMinute_28 : decode cX1_firstMinute 28 = .ok (.ireturn, 1) := by decide +kernel
theorem dX1_firstMissedTurn_0 : decode cX1_firstMissedTurn 0 = .ok (.aload_n 0, 1) := by decide +kernel
theorem dX1_firstMissedTurn_1 : decode cX1_firstMissedTurn 1 = .ok (.getfield 24, 3) := by decide +kernel
theorem dX1_firstMissedTurn_4 : decode cX1_firstMissedTurn 4 = .ok (.getfield 44, 3) := by decide +kernel
theorem dX1_firstMissedTurn_7 : decode cX1_firstMissedTurn 7 = .ok (.invokevirtual 67, 3) := by decide +kernel
theorem dX1_firstMissedTurn_10 : decode cX1_firstMissedTurn 10 = .ok (.istore_n 2, 1) := by decide +kernel
theorem dX1_firstMissedTurn_11 : decode cX1_firstMissedTurn 11 = .ok (.iload_n 1, 1) := by decide +kernel
theorem dX1_firstMissedTurn_12 : decode cX1_firstMissedTurn 12 = .ok (.iconst 1, 1) := by decide +kernel
theorem dX1_firstMissedTurn_13 : decode cX1_firstMissedTurn 13 = .ok (.if_icmp .lt 8, 3) := by decide +kernel
theorem dX1_firstMissedTurn_16 : decode cX1_firstMissedTurn 16 = .ok (.iload_n 2, 1) := by decide +kernel
theorem dX1_firstMissedTurn_17 : decode cX1_firstMissedTurn 17 = .ok (.iconst 1, 1) := by decide +kernel
theorem dX1_firstMissedTurn_18 : decode cX1_firstMissedTurn 18 = .ok (.if_icmp .ge 5, 3) := by decide +kernel
theorem dX1_firstMissedTurn_21 : decode cX1_firstMissedTurn 21 = .ok (.iconst (-1), 1) := by decide +kernel
theorem dX1_firstMissedTurn_22 : decode cX1_firstMissedTurn 22 = .ok (.ireturn, 1) := by decide +kernel
theorem dX1_firstMissedTurn_23 : decode cX1_firstMissedTurn 23 = .ok (.aload_n 0, 1) := by decide +kernel
theorem dX1_firstMissedTurn_24 : decode cX1_firstMissedTurn 24 = .ok (.getfield 24, 3) := by decide +kernel
theorem dX1_firstMissedTurn_27 : decode cX1_firstMissedTurn 27 = .ok (.getfield 71, 3) := by decide +kernel
theorem dX1_firstMissedTurn_30 : decode cX1_firstMissedTurn 30 = .ok (.iconst 2, 1) := by decide +kernel
theorem dX1_firstMissedTurn_31 : decode cX1_firstMissedTurn 31 = .ok (.invokevirtual 74, 3) := by decide +kernel
theorem dX1_firstMissedTurn_34 : decode cX1_firstMissedTurn 34 = .ok (.istore_n 3, 1) := by decide +kernel
theorem dX1_firstMissedTurn_35 : decode cX1_firstMissedTurn 35 = .ok (.iconst 0, 1) := by decide +kernel
theorem dX1_firstMissedTurn_36 : decode cX1_firstMissedTurn 36 = .ok (.istore 4, 2) := by decide +kernel
theorem dX1_firstMissedTurn_38 : decode cX1_firstMissedTurn 38 = .ok (.iload 4, 2) := by decide +kernel
theorem dX1_firstMissedTurn_40 : decode cX1_firstMissedTurn 40 = .ok (.iload_n 3, 1) := by decide +kernel
theorem dX1_firstMissedTurn_41 : decode cX1_firstMissedTurn 41 = .ok (.if_icmp .ge 27, 3) := by decide +kernel
theorem dX1_firstMissedTurn_44 : decode cX1_firstMissedTurn 44 = .ok (.aload_n 0, 1) := by decide +kernel
theorem dX1_firstMissedTurn_45 : decode cX1_firstMissedTurn 45 = .ok (.iload 4, 2) := by decide +kernel
theorem dX1_firstMissedTurn_47 : decode cX1_firstMissedTurn 47 = .ok (.iload_n 1, 1) := by decide +kernel
theorem dX1_firstMissedTurn_48 : decode cX1_firstMissedTurn 48 = .ok (.idiv, 1) := by decide +kernel
theorem dX1_firstMissedTurn_49 : decode cX1_firstMissedTurn 49 = .ok (.iload_n 2, 1) := by decide +kernel
theorem dX1_firstMissedTurn_50 : decode cX1_firstMissedTurn 50 = .ok (.irem, 1) := by decide +kernel
theorem dX1_firstMissedTurn_51 : decode cX1_firstMissedTurn 51 = .ok (.iload 4, 2) := by decide +kernel
theorem dX1_firstMissedTurn_53 : decode cX1_firstMissedTurn 53 = .ok (.invokevirtual 78, 3) := by decide +kernel
theorem dX1_firstMissedTurn_56 : decode cX1_firstMissedTurn 56 = .ok (.ifCond .ne 6, 3) := by decide +kernel
theorem dX1_firstMissedTurn_59 : decode cX1_firstMissedTurn 59 = .ok (.iload 4, 2) := by decide +kernel
theorem dX1_firstMissedTurn_61 : decode cX1_firstMissedTurn 61 = .ok (.ireturn, 1) := by decide +kernel
theorem dX1_firstMissedTurn_62 : decode cX1_firstMissedTurn 62 = .ok (.iinc 4 1, 3) := by decide +kernel
theorem dX1_firstMissedTurn_65 : decode cX1_firstMissedTurn 65 = .ok (.goto (-27), 3) := by decide +kernel
theorem dX1_firstMissedTurn_68 : decode cX1_firstMissedTurn 68 = .ok (.iconst (-1), 1) := by decide +kernel
theorem dX1_firstMissedTurn_69 : decode cX1_firstMissedTurn 69 = .ok (.ireturn, 1) := by decide +kernel
theorem dX1_refresh_0 : decode cX1_refresh 0 = .ok (.aload_n 0, 1) := by decide +kernel
theorem dX1_refresh_1 : decode cX1_refresh 1 = .ok (.getfield 20, 3) := by decide +kernel
theorem dX1_refresh_4 : decode cX1_refresh 4 = .ok (.ifCond .ne 4, 3) := by decide +kernel
theorem dX1_refresh_7 : decode cX1_refresh 7 = .ok (.return_, 1) := by decide +kernel
theorem dX1_refresh_8 : decode cX1_refresh 8 = .ok (.aload_n 0, 1) := by decide +kernel
theorem dX1_refresh_9 : decode cX1_refresh 9 = .ok (.iconst 0, 1) := by decide +kernel
theorem dX1_refresh_10 : decode cX1_refresh 10 = .ok (.putfield 20, 3) := by decide +kernel
theorem dX1_refresh_13 : decode cX1_refresh 13 = .ok (.aload_n 0, 1) := by decide +kernel
theorem dX1_refresh_14 : decode cX1_refresh 14 = .ok (.invokevirtual 81, 3) := by decide +kernel
theorem dX1_refresh_17 : decode cX1_refresh 17 = .ok (.aload_n 0, 1) := by decide +kernel
theorem dX1_refresh_18 : decode cX1_refresh 18 = .ok (.getfield 24, 3) := by decide +kernel
theorem dX1_refresh_21 : decode cX1_refresh 21 = .ok (.getfield 44, 3) := by decide +kernel
theorem dX1_refresh_24 : decode cX1_refresh 24 = .ok (.invokevirtual 67, 3) := by decide +kernel
theorem dX1_refresh_27 : decode cX1_refresh 27 = .ok (.istore_n 1, 1) := by decide +kernel
theorem dX1_refresh_28 : decode cX1_refresh 28 = .ok (.iconst 0, 1) := by decide +kernel
theorem dX1_refresh_29 : decode cX1_refresh 29 = .ok (.istore_n 2, 1) := by decide +kernel
theorem dX1_refresh_30 : decode cX1_refresh 30 = .ok (.iload_n 2, 1) := by decide +kernel
theorem dX1_refresh_31 : decode cX1_refresh 31 = .ok (.aload_n 0, 1) := by decide +kernel
theorem dX1_refresh_32 : decode cX1_refresh 32 = .ok (.getfield 17, 3) := by decide +kernel
theorem dX1_refresh_35 : decode cX1_refresh 35 = .ok (.arraylength, 1) := by decide +kernel
theorem dX1_refresh_36 : decode cX1_refresh 36 = .ok (.if_icmp .ge 79, 3) := by decide +kernel
theorem dX1_refresh_39 : decode cX1_refresh 39 = .ok (.iconst 0, 1) := by decide +kernel
theorem dX1_refresh_40 : decode cX1_refresh 40 = .ok (.istore_n 3, 1) := by decide +kernel
theorem dX1_refresh_41 : decode cX1_refresh 41 = .ok (.iconst 0, 1) := by decide +kernel
theorem dX1_refresh_42 : decode cX1_refresh 42 = .ok (.istore 4, 2) := by decide +kernel
theorem dX1_refresh_44 : decode cX1_refresh 44 = .ok (.iload 4, 2) := by decide +kernel
theorem dX1_refresh_46 : decode cX1_refresh 46 = .ok (.sipush 240, 3) := by decide +kernel
theorem dX1_refresh_49 : decode cX1_refresh 49 = .ok (.if_icmp .ge 49, 3) := by decide +kernel
theorem dX1_refresh_52 : decode cX1_refresh 52 = .ok (.aload_n 0, 1) := by decide +kernel
theorem dX1_refresh_53 : decode cX1_refresh 53 = .ok (.getfield 17, 3) := by decide +kernel
theorem dX1_refresh_56 : decode cX1_refresh 56 = .ok (.iload_n 2, 1) := by decide +kernel
theorem dX1_refresh_57 : decode cX1_refresh 57 = .ok (.aaload, 1) := by decide +kernel
theorem dX1_refresh_58 : decode cX1_refresh 58 = .ok (.iload 4, 2) := by decide +kernel
theorem dX1_refresh_60 : decode cX1_refresh 60 = .ok (.iload_n 3, 1) := by decide +kernel
theorem dX1_refresh_61 : decode cX1_refresh 61 = .ok (.iastore, 1) := by decide +kernel
theorem dX1_refresh_62 : decode cX1_refresh 62 = .ok (.aload_n 0, 1) := by decide +kernel
theorem dX1_refresh_63 : decode cX1_refresh 63 = .ok (.iload_n 2, 1) := by decide +kernel
theorem dX1_refresh_64 : decode cX1_refresh 64 = .ok (.iload 4, 2) := by decide +kernel
theorem dX1_refresh_66 : decode cX1_refresh 66 = .ok (.iload_n 3, 1) := by decide +kernel
theorem dX1_refresh_67 : decode cX1_refresh 67 = .ok (.bipush 31, 2) := by decide +kernel
theorem dX1_refresh_69 : decode cX1_refresh 69 = .ok (.iload_n 1, 1) := by decide +kernel
theorem dX1_refresh_70 : decode cX1_refresh 70 = .ok (.invokevirtual 59, 3) := by decide +kernel
theorem dX1_refresh_73 : decode cX1_refresh 73 = .ok (.istore 5, 2) := by decide +kernel
theorem dX1_refresh_75 : decode cX1_refresh 75 = .ok (.iload_n 3, 1) := by decide +kernel
theorem dX1_refresh_76 : decode cX1_refresh 76 = .ok (.iload 5, 2) := by decide +kernel
theorem dX1_refresh_78 : decode cX1_refresh 78 = .ok (.aload_n 0, 1) := by decide +kernel
theorem dX1_refresh_79 : decode cX1_refresh 79 = .ok (.getfield 24, 3) := by decide +kernel
theorem dX1_refresh_82 : decode cX1_refresh 82 = .ok (.getfield 84, 3) := by decide +kernel
theorem dX1_refresh_85 : decode cX1_refresh 85 = .ok (.iconst 0, 1) := by decide +kernel
theorem dX1_refresh_86 : decode cX1_refresh 86 = .ok (.iaload, 1) := by decide +kernel
theorem dX1_refresh_87 : decode cX1_refresh 87 = .ok (.invokestatic 87, 3) := by decide +kernel
theorem dX1_refresh_90 : decode cX1_refresh 90 = .ok (.iadd, 1) := by decide +kernel
theorem dX1_refresh_91 : decode cX1_refresh 91 = .ok (.istore_n 3, 1) := by decide +kernel
theorem dX1_refresh_92 : decode cX1_refresh 92 = .ok (.iinc 4 1, 3) := by decide +kernel
theorem dX1_refresh_95 : decode cX1_refresh 95 = .ok (.goto (-51), 3) := by decide +kernel
theorem dX1_refresh_98 : decode cX1_refresh 98 = .ok (.aload_n 0, 1) := by decide +kernel
theorem dX1_refresh_99 : decode cX1_refresh 99 = .ok (.getfield 17, 3) := by decide +kernel
theorem dX1_refresh_102 : decode cX1_refresh 102 = .ok (.iload_n 2, 1) := by decide +kernel
theorem dX1_refresh_103 : decode cX1_refresh 103 = .ok (.aaload, 1) := by decide +kernel
theorem dX1_refresh_104 : decode cX1_refresh 104 = .ok (.sipush 240, 3) := by decide +kernel
theorem dX1_refresh_107 : decode cX1_refresh 107 = .ok (.iload_n 3, 1) := by decide +kernel
theorem dX1_refresh_108 : decode cX1_refresh 108 = .ok (.iastore, 1) := by decide +kernel
theorem dX1_refresh_109 : decode cX1_refresh 109 = .ok (.iinc 2 1, 3) := by decide +kernel
theorem dX1_refresh_112 : decode cX1_refresh 112 = .ok (.goto (-82), 3) := by decide +kernel
theorem dX1_refresh_115 : decode cX1_refresh 115 = .ok (.return_, 1) := by decide +kernel
theorem dX1_fillTalkers_0 : decode cX1_fillTalkers 0 = .ok (.aload_n 0, 1) := by decide +kernel
theorem dX1_fillTalkers_1 : decode cX1_fillTalkers 1 = .ok (.getfield 9, 3) := by decide +kernel
theorem dX1_fillTalkers_4 : decode cX1_fillTalkers 4 = .ok (.iconst 0, 1) := by decide +kernel
theorem dX1_fillTalkers_5 : decode cX1_fillTalkers 5 = .ok (.invokestatic 92, 3) := by decide +kernel
theorem dX1_fillTalkers_8 : decode cX1_fillTalkers 8 = .ok (.iconst 0, 1) := by decide +kernel
theorem dX1_fillTalkers_9 : decode cX1_fillTalkers 9 = .ok (.istore_n 1, 1) := by decide +kernel
theorem dX1_fillTalkers_10 : decode cX1_fillTalkers 10 = .ok (.iload_n 1, 1) := by decide +kernel
theorem dX1_fillTalkers_11 : decode cX1_fillTalkers 11 = .ok (.aload_n 0, 1) := by decide +kernel
theorem dX1_fillTalkers_12 : decode cX1_fillTalkers 12 = .ok (.getfield 24, 3) := by decide +kernel
theorem dX1_fillTalkers_15 : decode cX1_fillTalkers 15 = .ok (.getfield 71, 3) := by decide +kernel
theorem dX1_fillTalkers_18 : decode cX1_fillTalkers 18 = .ok (.invokevirtual 67, 3) := by decide +kernel
theorem dX1_fillTalkers_21 : decode cX1_fillTalkers 21 = .ok (.if_icmp .ge 84, 3) := by decide +kernel
theorem dX1_fillTalkers_24 : decode cX1_fillTalkers 24 = .ok (.iconst 1, 1) := by decide +kernel
theorem dX1_fillTalkers_25 : decode cX1_fillTalkers 25 = .ok (.aload_n 0, 1) := by decide +kernel
theorem dX1_fillTalkers_26 : decode cX1_fillTalkers 26 = .ok (.getfield 24, 3) := by decide +kernel
theorem dX1_fillTalkers_29 : decode cX1_fillTalkers 29 = .ok (.getfield 71, 3) := by decide +kernel
theorem dX1_fillTalkers_32 : decode cX1_fillTalkers 32 = .ok (.iload_n 1, 1) := by decide +kernel
theorem dX1_fillTalkers_33 : decode cX1_fillTalkers 33 = .ok (.iconst 0, 1) := by decide +kernel
theorem dX1_fillTalkers_34 : decode cX1_fillTalkers 34 = .ok (.invokevirtual 50, 3) := by decide +kernel
theorem dX1_fillTalkers_37 : decode cX1_fillTalkers 37 = .ok (.ishl, 1) := by decide +kernel
theorem dX1_fillTalkers_38 : decode cX1_fillTalkers 38 = .ok (.istore_n 2, 1) := by decide +kernel
theorem dX1_fillTalkers_39 : decode cX1_fillTalkers 39 = .ok (.aload_n 0, 1) := by decide +kernel
theorem dX1_fillTalkers_40 : decode cX1_fillTalkers 40 = .ok (.getfield 24, 3) := by decide +kernel
theorem dX1_fillTalkers_43 : decode cX1_fillTalkers 43 = .ok (.getfield 71, 3) := by decide +kernel
theorem dX1_fillTalkers_46 : decode cX1_fillTalkers 46 = .ok (.iload_n 1, 1) := by decide +kernel
theorem dX1_fillTalkers_47 : decode cX1_fillTalkers 47 = .ok (.iconst 2, 1) := by decide +kernel
theorem dX1_fillTalkers_48 : decode cX1_fillTalkers 48 = .ok (.invokevirtual 50, 3) := by decide +kernel
theorem dX1_fillTalkers_51 : decode cX1_fillTalkers 51 = .ok (.sipush 240, 3) := by decide +kernel
theorem dX1_fillTalkers_54 : decode cX1_fillTalkers 54 = .ok (.invokestatic 87, 3) := by decide +kernel
theorem dX1_fillTalkers_57 : decode cX1_fillTalkers 57 = .ok (.istore_n 3, 1) := by decide +kernel
theorem dX1_fillTalkers_58 : decode cX1_fillTalkers 58 = .ok (.aload_n 0, 1) := by decide +kernel
theorem dX1_fillTalkers_59 : decode cX1_fillTalkers 59 = .ok (.getfield 24, 3) := by decide +kernel
theorem dX1_fillTalkers_62 : decode cX1_fillTalkers 62 = .ok (.getfield 71, 3) := by decide +kernel
theorem dX1_fillTalkers_65 : decode cX1_fillTalkers 65 = .ok (.iload_n 1, 1) := by decide +kernel
theorem dX1_fillTalkers_66 : decode cX1_fillTalkers 66 = .ok (.iconst 1, 1) := by decide +kernel
theorem dX1_fillTalkers_67 : decode cX1_fillTalkers 67 = .ok (.invokevirtual 50, 3) := by decide +kernel
theorem dX1_fillTalkers_70 : decode cX1_fillTalkers 70 = .ok (.iconst 0, 1) := by decide +kernel
theorem dX1_fillTalkers_71 : decode cX1_fillTalkers 71 = .ok (.invokestatic 98, 3) := by decide +kernel
theorem dX1_fillTalkers_74 : decode cX1_fillTalkers 74 = .ok (.istore 4, 2) := by decide +kernel
theorem dX1_fillTalkers_76 : decode cX1_fillTalkers 76 = .ok (.iload 4, 2) := by decide +kernel
theorem dX1_fillTalkers_78 : decode cX1_fillTalkers 78 = .ok (.iload_n 3, 1) := by decide +kernel
theorem dX1_fillTalkers_79 : decode cX1_fillTalkers 79 = .ok (.if_icmp .ge 20, 3) := by decide +kernel
theorem dX1_fillTalkers_82 : decode cX1_fillTalkers 82 = .ok (.aload_n 0, 1) := by decide +kernel
theorem dX1_fillTalkers_83 : decode cX1_fillTalkers 83 = .ok (.getfield 9, 3) := by decide +kernel
theorem dX1_fillTalkers_86 : decode cX1_fillTalkers 86 = .ok (.iload 4, 2) := by decide +kernel
theorem dX1_fillTalkers_88 : decode cX1_fillTalkers 88 = .ok (.dup2, 1) := by decide +kernel
theorem dX1_fillTalkers_89 : decode cX1_fillTalkers 89 = .ok (.iaload, 1) := by decide +kernel
theorem dX1_fillTalkers_90 : decode cX1_fillTalkers 90 = .ok (.iload_n 2, 1) := by decide +kernel
theorem dX1_fillTalkers_91 : decode cX1_fillTalkers 91 = .ok (.ior, 1) := by decide +kernel
theorem dX1_fillTalkers_92 : decode cX1_fillTalkers 92 = .ok (.iastore, 1) := by decide +kernel
theorem dX1_fillTalkers_93 : decode cX1_fillTalkers 93 = .ok (.iinc 4 1, 3) := by decide +kernel
theorem dX1_fillTalkers_96 : decode cX1_fillTalkers 96 = .ok (.goto (-20), 3) := by decide +kernel
theorem dX1_fillTalkers_99 : decode cX1_fillTalkers 99 = .ok (.iinc 1 1, 3) := by decide +kernel
theorem dX1_fillTalkers_102 : decode cX1_fillTalkers 102 = .ok (.goto (-92), 3) := by decide +kernel
theorem dX1_fillTalkers_105 : decode cX1_fillTalkers 105 = .ok (.return_, 1) := by decide +kernel
theorem dX1_isTalking_0 : decode cX1_isTalking 0 = .ok (.iload_n 2, 1) := by decide +kernel
theorem dX1_isTalking_1 : decode cX1_isTalking 1 = .ok (.iconst 0, 1) := by decide +kernel
theorem dX1_isTalking_2 : decode cX1_isTalking 2 = .ok (.sipush 239, 3) := by decide +kernel
theorem dX1_isTalking_5 : decode cX1_isTalking 5 = .ok (.invokestatic 36, 3) := by decide +kernel
theorem dX1_isTalking_8 : decode cX1_isTalking 8 = .ok (.ifCond .eq 20, 3) := by decide +kernel
theorem dX1_isTalking_11 : decode cX1_isTalking 11 = .ok (.aload_n 0, 1) := by decide +kernel
theorem dX1_isTalking_12 : decode cX1_isTalking 12 = .ok (.getfield 9, 3) := by decide +kernel
theorem dX1_isTalking_15 : decode cX1_isTalking 15 = .ok (.iload_n 2, 1) := by decide +kernel
theorem dX1_isTalking_16 : decode cX1_isTalking 16 = .ok (.iaload, 1) := by decide +kernel
theorem dX1_isTalking_17 : decode cX1_isTalking 17 = .ok (.iload_n 1, 1) := by decide +kernel
theorem dX1_isTalking_18 : decode cX1_isTalking 18 = .ok (.ishr, 1) := by decide +kernel
theorem dX1_isTalking_19 : decode cX1_isTalking 19 = .ok (.iconst 1, 1) := by decide +kernel
theorem dX1_isTalking_20 : decode cX1_isTalking 20 = .ok (.iand, 1) := by decide +kernel
theorem dX1_isTalking_21 : decode cX1_isTalking 21 = .ok (.ifCond .eq 7, 3) := by decide +kernel
theorem dX1_isTalking_24 : decode cX1_isTalking 24 = .ok (.iconst 1, 1) := by decide +kernel
theorem dX1_isTalking_25 : decode cX1_isTalking 25 = .ok (.goto 4, 3) := by decide +kernel
theorem dX1_isTalking_28 : decode cX1_isTalking 28 = .ok (.iconst 0, 1) := by decide +kernel
theorem dX1_isTalking_29 : decode cX1_isTalking 29 = .ok (.ireturn, 1) := by decide +kernel
theorem dX1_together_0 : decode cX1_together 0 = .ok (.iconst 0, 1) := by decide +kernel
theorem dX1_together_1 : decode cX1_together 1 = .ok (.istore 6, 2) := by decide +kernel
theorem dX1_together_3 : decode cX1_together 3 = .ok (.iconst 0, 1) := by decide +kernel
theorem dX1_together_4 : decode cX1_together 4 = .ok (.istore 7, 2) := by decide +kernel
theorem dX1_together_6 : decode cX1_together 6 = .ok (.iload 7, 2) := by decide +kernel
theorem dX1_together_8 : decode cX1_together 8 = .ok (.iload 5, 2) := by decide +kernel
theorem dX1_together_10 : decode cX1_together 10 = .ok (.if_icmp .ge 61, 3) := by decide +kernel
theorem dX1_together_13 : decode cX1_together 13 = .ok (.iload 4, 2) := by decide +kernel
theorem dX1_together_15 : decode cX1_together 15 = .ok (.iload 7, 2) := by decide +kernel
theorem dX1_together_17 : decode cX1_together 17 = .ok (.ishr, 1) := by decide +kernel
theorem dX1_together_18 : decode cX1_together 18 = .ok (.iconst 1, 1) := by decide +kernel
theorem dX1_together_19 : decode cX1_together 19 = .ok (.iand, 1) := by decide +kernel
theorem dX1_together_20 : decode cX1_together 20 = .ok (.ifCond .eq 45, 3) := by decide +kernel
theorem dX1_together_23 : decode cX1_together 23 = .ok (.aload_n 0, 1) := by decide +kernel
theorem dX1_together_24 : decode cX1_together 24 = .ok (.iload 7, 2) := by decide +kernel
theorem dX1_together_26 : decode cX1_together 26 = .ok (.iload_n 2, 1) := by decide +kernel
theorem dX1_together_27 : decode cX1_together 27 = .ok (.invokevirtual 40, 3) := by decide +kernel
theorem dX1_together_30 : decode cX1_together 30 = .ok (.ifCond .eq 35, 3) := by decide +kernel
theorem dX1_together_33 : decode cX1_together 33 = .ok (.aload_n 0, 1) := by decide +kernel
theorem dX1_together_34 : decode cX1_together 34 = .ok (.getfield 24, 3) := by decide +kernel
theorem dX1_together_37 : decode cX1_together 37 = .ok (.getfield 44, 3) := by decide +kernel
theorem dX1_together_40 : decode cX1_together 40 = .ok (.iload 7, 2) := by decide +kernel
theorem dX1_together_42 : decode cX1_together 42 = .ok (.iconst 1, 1) := by decide +kernel
theorem dX1_together_43 : decode cX1_together 43 = .ok (.invokevirtual 50, 3) := by decide +kernel
theorem dX1_together_46 : decode cX1_together 46 = .ok (.iload_n 1, 1) := by decide +kernel
theorem dX1_together_47 : decode cX1_together 47 = .ok (.if_icmp .ne 18, 3) := by decide +kernel
theorem dX1_together_50 : decode cX1_together 50 = .ok (.iload 6, 2) := by decide +kernel
theorem dX1_together_52 : decode cX1_together 52 = .ok (.aload_n 0, 1) := by decide +kernel
theorem dX1_together_53 : decode cX1_together 53 = .ok (.iload 7, 2) := by decide +kernel
theorem dX1_together_55 : decode cX1_together 55 = .ok (.iload_n 2, 1) := by decide +kernel
theorem dX1_together_56 : decode cX1_together 56 = .ok (.iload_n 3, 1) := by decide +kernel
theorem dX1_together_57 : decode cX1_together 57 = .ok (.iload 6, 2) := by decide +kernel
theorem dX1_together_59 : decode cX1_together 59 = .ok (.invokevirtual 63, 3) := by decide +kernel
theorem dX1_together_62 : decode cX1_together 62 = .ok (.iadd, 1) := by decide +kernel
theorem dX1_together_63 : decode cX1_together 63 = .ok (.istore 6, 2) := by decide +kernel
theorem dX1_together_65 : decode cX1_together 65 = .ok (.iinc 7 1, 3) := by decide +kernel
theorem dX1_together_68 : decode cX1_together 68 = .ok (.goto (-62), 3) := by decide +kernel
theorem dX1_together_71 : decode cX1_together 71 = .ok (.iload 6, 2) := by decide +kernel
theorem dX1_together_73 : decode cX1_together 73 = .ok (.ireturn, 1) := by decide +kernel
theorem dX1_voiceOf_0 : decode cX1_voiceOf 0 = .ok (.aload_n 0, 1) := by decide +kernel
theorem dX1_voiceOf_1 : decode cX1_voiceOf 1 = .ok (.getfield 24, 3) := by decide +kernel
theorem dX1_voiceOf_4 : decode cX1_voiceOf 4 = .ok (.getfield 84, 3) := by decide +kernel
theorem dX1_voiceOf_7 : decode cX1_voiceOf 7 = .ok (.iconst 1, 1) := by decide +kernel
theorem dX1_voiceOf_8 : decode cX1_voiceOf 8 = .ok (.iaload, 1) := by decide +kernel
theorem dX1_voiceOf_9 : decode cX1_voiceOf 9 = .ok (.istore 5, 2) := by decide +kernel
theorem dX1_voiceOf_11 : decode cX1_voiceOf 11 = .ok (.aload_n 0, 1) := by decide +kernel
theorem dX1_voiceOf_12 : decode cX1_voiceOf 12 = .ok (.getfield 24, 3) := by decide +kernel
theorem dX1_voiceOf_15 : decode cX1_voiceOf 15 = .ok (.getfield 44, 3) := by decide +kernel
theorem dX1_voiceOf_18 : decode cX1_voiceOf 18 = .ok (.iload_n 1, 1) := by decide +kernel
theorem dX1_voiceOf_19 : decode cX1_voiceOf 19 = .ok (.iconst 0, 1) := by decide +kernel
theorem dX1_voiceOf_20 : decode cX1_voiceOf 20 = .ok (.invokevirtual 50, 3) := by decide +kernel
theorem dX1_voiceOf_23 : decode cX1_voiceOf 23 = .ok (.tableswitch 102 0 5 #[37, 39, 41, 44, 56, 83], 37) := by decide +kernel
theorem dX1_voiceOf_60 : decode cX1_voiceOf 60 = .ok (.iconst 1, 1) := by decide +kernel
theorem dX1_voiceOf_61 : decode cX1_voiceOf 61 = .ok (.ireturn, 1) := by decide +kernel
theorem dX1_voiceOf_62 : decode cX1_voiceOf 62 = .ok (.iconst 2, 1) := by decide +kernel
theorem dX1_voiceOf_63 : decode cX1_voiceOf 63 = .ok (.ireturn, 1) := by decide +kernel
theorem dX1_voiceOf_64 : decode cX1_voiceOf 64 = .ok (.iload 5, 2) := by decide +kernel
theorem dX1_voiceOf_66 : decode cX1_voiceOf 66 = .ok (.ireturn, 1) := by decide +kernel
theorem dX1_voiceOf_67 : decode cX1_voiceOf 67 = .ok (.iload_n 2, 1) := by decide +kernel
theorem dX1_voiceOf_68 : decode cX1_voiceOf 68 = .ok (.iconst 3, 1) := by decide +kernel
theorem dX1_voiceOf_69 : decode cX1_voiceOf 69 = .ok (.irem, 1) := by decide +kernel
theorem dX1_voiceOf_70 : decode cX1_voiceOf 70 = .ok (.ifCond .ne 7, 3) := by decide +kernel
theorem dX1_voiceOf_73 : decode cX1_voiceOf 73 = .ok (.iconst 1, 1) := by decide +kernel
theorem dX1_voiceOf_74 : decode cX1_voiceOf 74 = .ok (.goto 4, 3) := by decide +kernel
theorem dX1_voiceOf_77 : decode cX1_voiceOf 77 = .ok (.iconst 0, 1) := by decide +kernel
theorem dX1_voiceOf_78 : decode cX1_voiceOf 78 = .ok (.ireturn, 1) := by decide +kernel
theorem dX1_voiceOf_79 : decode cX1_voiceOf 79 = .ok (.iload 5, 2) := by decide +kernel
theorem dX1_voiceOf_81 : decode cX1_voiceOf 81 = .ok (.ifCond .eq 23, 3) := by decide +kernel
theorem dX1_voiceOf_84 : decode cX1_voiceOf 84 = .ok (.aload_n 0, 1) := by decide +kernel
theorem dX1_voiceOf_85 : decode cX1_voiceOf 85 = .ok (.getfield 28, 3) := by decide +kernel
theorem dX1_voiceOf_88 : decode cX1_voiceOf 88 = .ok (.iload_n 1, 1) := by decide +kernel
theorem dX1_voiceOf_89 : decode cX1_voiceOf 89 = .ok (.iload_n 2, 1) := by decide +kernel
theorem dX1_voiceOf_90 : decode cX1_voiceOf 90 = .ok (.iload_n 3, 1) := by decide +kernel
theorem dX1_voiceOf_91 : decode cX1_voiceOf 91 = .ok (.iload 4, 2) := by decide +kernel
theorem dX1_voiceOf_93 : decode cX1_voiceOf 93 = .ok (.invokevirtual 101, 3) := by decide +kernel
theorem dX1_voiceOf_96 : decode cX1_voiceOf 96 = .ok (.ifCond .eq 8, 3) := by decide +kernel
theorem dX1_voiceOf_99 : decode cX1_voiceOf 99 = .ok (.iload 5, 2) := by decide +kernel
theorem dX1_voiceOf_101 : decode cX1_voiceOf 101 = .ok (.goto 4, 3) := by decide +kernel
theorem dX1_voiceOf_104 : decode cX1_voiceOf 104 = .ok (.iconst 0, 1) := by decide +kernel
theorem dX1_voiceOf_105 : decode cX1_voiceOf 105 = .ok (.ireturn, 1) := by decide +kernel
theorem dX1_voiceOf_106 : decode cX1_voiceOf 106 = .ok (.iload_n 3, 1) := by decide +kernel
theorem dX1_voiceOf_107 : decode cX1_voiceOf 107 = .ok (.aload_n 0, 1) := by decide +kernel
theorem dX1_voiceOf_108 : decode cX1_voiceOf 108 = .ok (.getfield 24, 3) := by decide +kernel
theorem dX1_voiceOf_111 : decode cX1_voiceOf 111 = .ok (.getfield 84, 3) := by decide +kernel
theorem dX1_voiceOf_114 : decode cX1_voiceOf 114 = .ok (.iconst 2, 1) := by decide +kernel
theorem dX1_voiceOf_115 : decode cX1_voiceOf 115 = .ok (.iaload, 1) := by decide +kernel
theorem dX1_voiceOf_116 : decode cX1_voiceOf 116 = .ok (.if_icmp .ge 7, 3) := by decide +kernel
theorem dX1_voiceOf_119 : decode cX1_voiceOf 119 = .ok (.iconst 1, 1) := by decide +kernel
theorem dX1_voiceOf_120 : decode cX1_voiceOf 120 = .ok (.goto 4, 3) := by decide +kernel
theorem dX1_voiceOf_123 : decode cX1_voiceOf 123 = .ok (.iconst 0, 1) := by decide +kernel
theorem dX1_voiceOf_124 : decode cX1_voiceOf 124 = .ok (.ireturn, 1) := by decide +kernel
theorem dX1_voiceOf_125 : decode cX1_voiceOf 125 = .ok (.iconst 0, 1) := by decide +kernel
theorem dX1_voiceOf_126 : decode cX1_voiceOf 126 = .ok (.ireturn, 1) := by decide +kernel
theorem dX2_init_0 : decode cX2_init 0 = .ok (.aload_n 0, 1) := by decide +kernel
theorem dX2_init_1 : decode cX2_init 1 = .ok (.invokespecial 1, 3) := by decide +kernel
theorem dX2_init_4 : decode cX2_init 4 = .ok (.aload_n 0, 1) := by decide +kernel
theorem dX2_init_5 : decode cX2_init 5 = .ok (.new 7, 3) := by decide +kernel
theorem dX2_init_8 : decode cX2_init 8 = .ok (.dup, 1) := by decide +kernel
theorem dX2_init_9 : decode cX2_init 9 = .ok (.iconst 0, 1) := by decide +kernel
theorem dX2_init_10 : decode cX2_init 10 = .ok (.invokespecial 9, 3) := by decide +kernel
theorem dX2_init_13 : decode cX2_init 13 = .ok (.putfield 12, 3) := by decide +kernel
theorem dX2_init_16 : decode cX2_init 16 = .ok (.aload_n 0, 1) := by decide +kernel
theorem dX2_init_17 : decode cX2_init 17 = .ok (.new 7, 3) := by decide +kernel
theorem dX2_init_20 : decode cX2_init 20 = .ok (.dup, 1) := by decide +kernel
theorem dX2_init_21 : decode cX2_init 21 = .ok (.iconst 1, 1) := by decide +kernel
theorem dX2_init_22 : decode cX2_init 22 = .ok (.invokespecial 9, 3) := by decide +kernel
theorem dX2_init_25 : decode cX2_init 25 = .ok (.putfield 18, 3) := by decide +kernel
theorem dX2_init_28 : decode cX2_init 28 = .ok (.aload_n 0, 1) := by decide +kernel
theorem dX2_init_29 : decode cX2_init 29 = .ok (.new 7, 3) := by decide +kernel
theorem dX2_init_32 : decode cX2_init 32 = .ok (.dup, 1) := by decide +kernel
theorem dX2_init_33 : decode cX2_init 33 = .ok (.iconst 0, 1) := by decide +kernel
theorem dX2_init_34 : decode cX2_init 34 = .ok (.invokespecial 9, 3) := by decide +kernel
theorem dX2_init_37 : decode cX2_init 37 = .ok (.putfield 21, 3) := by decide +kernel
theorem dX2_init_40 : decode cX2_init 40 = .ok (.return_, 1) := by decide +kernel
theorem dX2_shape_0 : decode cX2_shape 0 = .ok (.iload_n 1, 1) := by decide +kernel
theorem dX2_shape_1 : decode cX2_shape 1 = .ok (.lookupswitch 51 #[(0, 27), (1, 43)], 27) := by decide +kernel
theorem dX2_shape_28 : decode cX2_shape 28 = .ok (.aload_n 0, 1) := by decide +kernel
theorem dX2_shape_29 : decode cX2_shape 29 = .ok (.getfield 12, 3) := by decide +kernel
theorem dX2_shape_32 : decode cX2_shape 32 = .ok (.invokevirtual 24, 3) := by decide +kernel
theorem dX2_shape_35 : decode cX2_shape 35 = .ok (.ifCond .le 7, 3) := by decide +kernel
theorem dX2_shape_38 : decode cX2_shape 38 = .ok (.iconst 1, 1) := by decide +kernel
theorem dX2_shape_39 : decode cX2_shape 39 = .ok (.goto 4, 3) := by decide +kernel
theorem dX2_shape_42 : decode cX2_shape 42 = .ok (.iconst 0, 1) := by decide +kernel
theorem dX2_shape_43 : decode cX2_shape 43 = .ok (.ireturn, 1) := by decide +kernel
theorem dX2_shape_44 : decode cX2_shape 44 = .ok (.aload_n 0, 1) := by decide +kernel
theorem dX2_shape_45 : decode cX2_shape 45 = .ok (.getfield 12, 3) := by decide +kernel
theorem dX2_shape_48 : decode cX2_shape 48 = .ok (.invokevirtual 24, 3) := by decide +kernel
theorem dX2_shape_51 : decode cX2_shape 51 = .ok (.ireturn, 1) := by decide +kernel
theorem dX2_shape_52 : decode cX2_shape 52 = .ok (.aload_n 0, 1) := by decide +kernel
theorem dX2_shape_53 : decode cX2_shape 53 = .ok (.getfield 18, 3) := by decide +kernel
theorem dX2_shape_56 : decode cX2_shape 56 = .ok (.invokevirtual 24, 3) := by decide +kernel
theorem dX2_shape_59 : decode cX2_shape 59 = .ok (.ireturn, 1) := by decide +kernel
theorem dX2_limbOf_0 : decode cX2_limbOf 0 = .ok (.iload_n 1, 1) := by decide +kernel
theorem dX2_limbOf_1 : decode cX2_limbOf 1 = .ok (.ifCond .ne 14, 3) := by decide +kernel
theorem dX2_limbOf_4 : decode cX2_limbOf 4 = .ok (.aload_n 0, 1) := by decide +kernel
theorem dX2_limbOf_5 : decode cX2_limbOf 5 = .ok (.getfield 12, 3) := by decide +kernel
theorem dX2_limbOf_8 : decode cX2_limbOf 8 = .ok (.iload_n 2, 1) := by decide +kernel
theorem dX2_limbOf_9 : decode cX2_limbOf 9 = .ok (.invokevirtual 28, 3) := by decide +kernel
theorem dX2_limbOf_12 : decode cX2_limbOf 12 = .ok (.goto 11, 3) := by decide +kernel
theorem dX2_limbOf_15 : decode cX2_limbOf 15 = .ok (.aload_n 0, 1) := by decide +kernel
theorem dX2_limbOf_16 : decode cX2_limbOf 16 = .ok (.getfield 18, 3) := by decide +kernel
theorem dX2_limbOf_19 : decode cX2_limbOf 19 = .ok (.iload_n 2, 1) := by decide +kernel
theorem dX2_limbOf_20 : decode cX2_limbOf 20 = .ok (.invokevirtual 28, 3) := by decide +kernel
theorem dX2_limbOf_23 : decode cX2_limbOf 23 = .ok (.ireturn, 1) := by decide +kernel
theorem dX2_mixed_0 : decode cX2_mixed 0 = .ok (.lload_n 1, 1) := by decide +kernel
theorem dX2_mixed_1 : decode cX2_mixed 1 = .ok (.lstore_n 3, 1) := by decide +kernel
theorem dX2_mixed_2 : decode cX2_mixed 2 = .ok (.iconst 0, 1) := by decide +kernel
theorem dX2_mixed_3 : decode cX2_mixed 3 = .ok (.istore 5, 2) := by decide +kernel
theorem dX2_mixed_5 : decode cX2_mixed 5 = .ok (.iload 5, 2) := by decide +kernel
theorem dX2_mixed_7 : decode cX2_mixed 7 = .ok (.iconst 2, 1) := by decide +kernel
theorem dX2_mixed_8 : decode cX2_mixed 8 = .ok (.if_icmp .gt 23, 3) := by decide +kernel
theorem dX2_mixed_11 : decode cX2_mixed 11 = .ok (.ldc2_w 32, 3) := by decide +kernel
theorem dX2_mixed_14 : decode cX2_mixed 14 = .ok (.lload_n 3, 1) := by decide +kernel
theorem dX2_mixed_15 : decode cX2_mixed 15 = .ok (.lmul, 1) := by decide +kernel
theorem dX2_mixed_16 : decode cX2_mixed 16 = .ok (.aload_n 0, 1) := by decide +kernel
theorem dX2_mixed_17 : decode cX2_mixed 17 = .ok (.iload 5, 2) := by decide +kernel
theorem dX2_mixed_19 : decode cX2_mixed 19 = .ok (.invokevirtual 34, 3) := by decide +kernel
theorem dX2_mixed_22 : decode cX2_mixed 22 = .ok (.i2l, 1) := by decide +kernel
theorem dX2_mixed_23 : decode cX2_mixed 23 = .ok (.ladd, 1) := by decide +kernel
theorem dX2_mixed_24 : decode cX2_mixed 24 = .ok (.lstore_n 3, 1) := by decide +kernel
theorem dX2_mixed_25 : decode cX2_mixed 25 = .ok (.iinc 5 1, 3) := by decide +kernel
theorem dX2_mixed_28 : decode cX2_mixed 28 = .ok (.goto (-23), 3) := by decide +kernel
theorem dX2_mixed_31 : decode cX2_mixed 31 = .ok (.aload_n 0, 1) := by decide +kernel
theorem dX2_mixed_32 : decode cX2_mixed 32 = .ok (.getfield 18, 3) := by decide +kernel
theorem dX2_mixed_35 : decode cX2_mixed 35 = .ok (.aload_n 0, 1) := by decide +kernel
theorem dX2_mixed_36 : decode cX2_mixed 36 = .ok (.getfield 12, 3) := by decide +kernel
theorem dX2_mixed_39 : decode cX2_mixed 39 = .ok (.lload_n 3, 1) := by decide +kernel
theorem dX2_mixed_40 : decode cX2_mixed 40 = .ok (.invokevirtual 37, 3) := by decide +kernel
theorem dX2_mixed_43 : decode cX2_mixed 43 = .ok (.invokevirtual 37, 3) := by decide +kernel
theorem dX2_mixed_46 : decode cX2_mixed 46 = .ok (.lreturn, 1) := by decide +kernel
theorem dX2_toChance_0 : decode cX2_toChance 0 = .ok (.aload_n 0, 1) := by decide +kernel
theorem dX2_toChance_1 : decode cX2_toChance 1 = .ok (.getfield 12, 3) := by decide +kernel
theorem dX2_toChance_4 : decode cX2_toChance 4 = .ok (.iconst 0, 1) := by decide +kernel
theorem dX2_toChance_5 : decode cX2_toChance 5 = .ok (.invokevirtual 41, 3) := by decide +kernel
theorem dX2_toChance_8 : decode cX2_toChance 8 = .ok (.aload_n 0, 1) := by decide +kernel
theorem dX2_toChance_9 : decode cX2_toChance 9 = .ok (.getfield 18, 3) := by decide +kernel
theorem dX2_toChance_12 : decode cX2_toChance 12 = .ok (.iconst 1, 1) := by decide +kernel
theorem dX2_toChance_13 : decode cX2_toChance 13 = .ok (.invokevirtual 41, 3) := by decide +kernel
theorem dX2_toChance_16 : decode cX2_toChance 16 = .ok (.iload_n 2, 1) := by decide +kernel
theorem dX2_toChance_17 : decode cX2_toChance 17 = .ok (.bipush 10, 2) := by decide +kernel
theorem dX2_toChance_19 : decode cX2_toChance 19 = .ok (.if_icmp .lt 21, 3) := by decide +kernel
theorem dX2_toChance_22 : decode cX2_toChance 22 = .ok (.aload_n 0, 1) := by decide +kernel
theorem dX2_toChance_23 : decode cX2_toChance 23 = .ok (.getfield 12, 3) := by decide +kernel
theorem dX2_toChance_26 : decode cX2_toChance 26 = .ok (.iload_n 3, 1) := by decide +kernel
theorem dX2_toChance_27 : decode cX2_toChance 27 = .ok (.iload_n 1, 1) := by decide +kernel
theorem dX2_toChance_28 : decode cX2_toChance 28 = .ok (.if_icmp .gt 7, 3) := by decide +kernel
theorem dX2_toChance_31 : decode cX2_toChance 31 = .ok (.iconst 1, 1) := by decide +kernel
theorem dX2_toChance_32 : decode cX2_toChance 32 = .ok (.goto 4, 3) := by decide +kernel
theorem dX2_toChance_35 : decode cX2_toChance 35 = .ok (.iconst 0, 1) := by decide +kernel
theorem dX2_toChance_36 : decode cX2_toChance 36 = .ok (.invokevirtual 41, 3) := by decide +kernel
theorem dX2_toChance_39 : decode cX2_toChance 39 = .ok (.return_, 1) := by decide +kernel
theorem dX2_toChance_40 : decode cX2_toChance 40 = .ok (.bipush 10, 2) := by decide +kernel
theorem dX2_toChance_42 : decode cX2_toChance 42 = .ok (.iload_n 2, 1) := by decide +kernel
theorem dX2_toChance_43 : decode cX2_toChance 43 = .ok (.isub, 1) := by decide +kernel
theorem dX2_toChance_44 : decode cX2_toChance 44 = .ok (.istore 4, 2) := by decide +kernel
theorem dX2_toChance_46 : decode cX2_toChance 46 = .ok (.aload_n 0, 1) := by decide +kernel
theorem dX2_toChance_47 : decode cX2_toChance 47 = .ok (.getfield 21, 3) := by decide +kernel
theorem dX2_toChance_50 : decode cX2_toChance 50 = .ok (.iconst 1, 1) := by decide +kernel
theorem dX2_toChance_51 : decode cX2_toChance 51 = .ok (.invokevirtual 41, 3) := by decide +kernel
theorem dX2_toChance_54 : decode cX2_toChance 54 = .ok (.iconst 0, 1) := by decide +kernel
theorem dX2_toChance_55 : decode cX2_toChance 55 = .ok (.istore 5, 2) := by decide +kernel
theorem dX2_toChance_57 : decode cX2_toChance 57 = .ok (.iload 5, 2) := by decide +kernel
theorem dX2_toChance_59 : decode cX2_toChance 59 = .ok (.iload_n 1, 1) := by decide +kernel
theorem dX2_toChance_60 : decode cX2_toChance 60 = .ok (.if_icmp .ge 27, 3) := by decide +kernel
theorem dX2_toChance_63 : decode cX2_toChance 63 = .ok (.aload_n 0, 1) := by decide +kernel
theorem dX2_toChance_64 : decode cX2_toChance 64 = .ok (.getfield 18, 3) := by decide +kernel
theorem dX2_toChance_67 : decode cX2_toChance 67 = .ok (.bipush 10, 2) := by decide +kernel
theorem dX2_toChance_69 : decode cX2_toChance 69 = .ok (.invokevirtual 44, 3) := by decide +kernel
theorem dX2_toChance_72 : decode cX2_toChance 72 = .ok (.aload_n 0, 1) := by decide +kernel
theorem dX2_toChance_73 : decode cX2_toChance 73 = .ok (.getfield 21, 3) := by decide +kernel
theorem dX2_toChance_76 : decode cX2_toChance 76 = .ok (.iload 4, 2) := by decide +kernel
theorem dX2_toChance_78 : decode cX2_toChance 78 = .ok (.invokevirtual 44, 3) := by decide +kernel
theorem dX2_toChance_81 : decode cX2_toChance 81 = .ok (.iinc 5 1, 3) := by decide +kernel
theorem dX2_toChance_84 : decode cX2_toChance 84 = .ok (.goto (-27), 3) := by decide +kernel
theorem dX2_toChance_87 : decode cX2_toChance 87 = .ok (.iconst 0, 1) := by decide +kernel
theorem dX2_toChance_88 : decode cX2_toChance 88 = .ok (.istore 5, 2) := by decide +kernel
theorem dX2_toChance_90 : decode cX2_toChance 90 = .ok (.iload 5, 2) := by decide +kernel
theorem dX2_toChance_92 : decode cX2_toChance 92 = .ok (.iload_n 1, 1) := by decide +kernel
theorem dX2_toChance_93 : decode cX2_toChance 93 = .ok (.if_icmp .gt 53, 3) := by decide +kernel
theorem dX2_toChance_96 : decode cX2_toChance 96 = .ok (.iload 5, 2) := by decide +kernel
theorem dX2_toChance_98 : decode cX2_toChance 98 = .ok (.iload_n 3, 1) := by decide +kernel
theorem dX2_toChance_99 : decode cX2_toChance 99 = .ok (.if_icmp .lt 14, 3) := by decide +kernel
theorem dX2_toChance_102 : decode cX2_toChance 102 = .ok (.aload_n 0, 1) := by decide +kernel
theorem dX2_toChance_103 : decode cX2_toChance 103 = .ok (.getfield 12, 3) := by decide +kernel
theorem dX2_toChance_106 : decode cX2_toChance 106 = .ok (.aload_n 0, 1) := by decide +kernel
theorem dX2_toChance_107 : decode cX2_toChance 107 = .ok (.getfield 21, 3) := by decide +kernel
theorem dX2_toChance_110 : decode cX2_toChance 110 = .ok (.invokevirtual 47, 3) := by decide +kernel
theorem dX2_toChance_113 : decode cX2_toChance 113 = .ok (.aload_n 0, 1) := by decide +kernel
theorem dX2_toChance_114 : decode cX2_toChance 114 = .ok (.getfield 21, 3) := by decide +kernel
theorem dX2_toChance_117 : decode cX2_toChance 117 = .ok (.iload_n 1, 1) := by decide +kernel
theorem dX2_toChance_118 : decode cX2_toChance 118 = .ok (.iload 5, 2) := by decide +kernel
theorem dX2_toChance_120 : decode cX2_toChance 120 = .ok (.isub, 1) := by decide +kernel
theorem dX2_toChance_121 : decode cX2_toChance 121 = .ok (.iload_n 2, 1) := by decide +kernel
theorem dX2_toChance_122 : decode cX2_toChance 122 = .ok (.imul, 1) := by decide +kernel
theorem dX2_toChance_123 : decode cX2_toChance 123 = .ok (.invokevirtual 44, 3) := by decide +kernel
theorem dX2_toChance_126 : decode cX2_toChance 126 = .ok (.aload_n 0, 1) := by decide +kernel
theorem dX2_toChance_127 : decode cX2_toChance 127 = .ok (.getfield 21, 3) := by decide +kernel
theorem dX2_toChance_130 : decode cX2_toChance 130 = .ok (.iload 5, 2) := by decide +kernel
theorem dX2_toChance_132 : decode cX2_toChance 132 = .ok (.iconst 1, 1) := by decide +kernel
theorem dX2_toChance_133 : decode cX2_toChance 133 = .ok (.iadd, 1) := by decide +kernel
theorem dX2_toChance_134 : decode cX2_toChance 134 = .ok (.iload 4, 2) := by decide +kernel
theorem dX2_toChance_136 : decode cX2_toChance 136 = .ok (.imul, 1) := by decide +kernel
theorem dX2_toChance_137 : decode cX2_toChance 137 = .ok (.invokevirtual 51, 3) := by decide +kernel
theorem dX2_toChance_140 : decode cX2_toChance 140 = .ok (.iinc 5 1, 3) := by decide +kernel
theorem dX2_toChance_143 : decode cX2_toChance 143 = .ok (.goto (-53), 3) := by decide +kernel
theorem dX2_toChance_146 : decode cX2_toChance 146 = .ok (.aload_n 0, 1) := by decide +kernel
theorem dX2_toChance_147 : decode cX2_toChance 147 = .ok (.iconst 2, 1) := by decide +kernel
theorem dX2_toChance_148 : decode cX2_toChance 148 = .ok (.iload_n 1, 1) := by decide +kernel
theorem dX2_toChance_149 : decode cX2_toChance 149 = .ok (.invokevirtual 54, 3) := by decide +kernel
theorem dX2_toChance_152 : decode cX2_toChance 152 = .ok (.aload_n 0, 1) := by decide +kernel
theorem dX2_toChance_153 : decode cX2_toChance 153 = .ok (.iconst 5, 1) := by decide +kernel
theorem dX2_toChance_154 : decode cX2_toChance 154 = .ok (.iload_n 1, 1) := by decide +kernel
theorem dX2_toChance_155 : decode cX2_toChance 155 = .ok (.invokevirtual 54, 3) := by decide +kernel
theorem dX2_toChance_158 : decode cX2_toChance 158 = .ok (.return_, 1) := by decide +kernel
theorem dX2_reduce_0 : decode cX2_reduce 0 = .ok (.iconst 0, 1) := by decide +kernel
theorem dX2_reduce_1 : decode cX2_reduce 1 = .ok (.istore_n 3, 1) := by decide +kernel
theorem dX2_reduce_2 : decode cX2_reduce 2 = .ok (.iload_n 3, 1) := by decide +kernel
theorem dX2_reduce_3 : decode cX2_reduce 3 = .ok (.iload_n 2, 1) := by decide +kernel
theorem dX2_reduce_4 : decode cX2_reduce 4 = .ok (.if_icmp .ge 47, 3) := by decide +kernel
theorem dX2_reduce_7 : decode cX2_reduce 7 = .ok (.aload_n 0, 1) := by decide +kernel
theorem dX2_reduce_8 : decode cX2_reduce 8 = .ok (.getfield 12, 3) := by decide +kernel
theorem dX2_reduce_11 : decode cX2_reduce 11 = .ok (.iload_n 1, 1) := by decide +kernel
theorem dX2_reduce_12 : decode cX2_reduce 12 = .ok (.invokevirtual 58, 3) := by decide +kernel
theorem dX2_reduce_15 : decode cX2_reduce 15 = .ok (.ifCond .eq 36, 3) := by decide +kernel
theorem dX2_reduce_18 : decode cX2_reduce 18 = .ok (.aload_n 0, 1) := by decide +kernel
theorem dX2_reduce_19 : decode cX2_reduce 19 = .ok (.getfield 18, 3) := by decide +kernel
theorem dX2_reduce_22 : decode cX2_reduce 22 = .ok (.iload_n 1, 1) := by decide +kernel
theorem dX2_reduce_23 : decode cX2_reduce 23 = .ok (.invokevirtual 58, 3) := by decide +kernel
theorem dX2_reduce_26 : decode cX2_reduce 26 = .ok (.ifCond .eq 25, 3) := by decide +kernel
theorem dX2_reduce_29 : decode cX2_reduce 29 = .ok (.aload_n 0, 1) := by decide +kernel
theorem dX2_reduce_30 : decode cX2_reduce 30 = .ok (.getfield 12, 3) := by decide +kernel
theorem dX2_reduce_33 : decode cX2_reduce 33 = .ok (.iload_n 1, 1) := by decide +kernel
theorem dX2_reduce_34 : decode cX2_reduce 34 = .ok (.invokevirtual 51, 3) := by decide +kernel
theorem dX2_reduce_37 : decode cX2_reduce 37 = .ok (.aload_n 0, 1) := by decide +kernel
theorem dX2_reduce_38 : decode cX2_reduce 38 = .ok (.getfield 18, 3) := by decide +kernel
theorem dX2_reduce_41 : decode cX2_reduce 41 = .ok (.iload_n 1, 1) := by decide +kernel
theorem dX2_reduce_42 : decode cX2_reduce 42 = .ok (.invokevirtual 51, 3) := by decide +kernel
theorem dX2_reduce_45 : decode cX2_reduce 45 = .ok (.iinc 3 1, 3) := by decide +kernel
theorem dX2_reduce_48 : decode cX2_reduce 48 = .ok (.goto (-46), 3) := by decide +kernel
theorem dX2_reduce_51 : decode cX2_reduce 51 = .ok (.return_, 1) := by decide +kernel
theorem dX3_init_0 : decode cX3_init 0 = .ok (.aload_n 0, 1) := by decide +kernel
theorem dX3_init_1 : decode cX3_init 1 = .ok (.invokespecial 3, 3) := by decide +kernel
theorem dX3_init_4 : decode cX3_init 4 = .ok (.aload_n 0, 1) := by decide +kernel
theorem dX3_init_5 : decode cX3_init 5 = .ok (.sipush 241, 3) := by decide +kernel
theorem dX3_init_8 : decode cX3_init 8 = .ok (.newarray .int, 2) := by decide +kernel
theorem dX3_init_10 : decode cX3_init 10 = .ok (.putfield 9, 3) := by decide +kernel
theorem dX3_init_13 : decode cX3_init 13 = .ok (.aload_n 0, 1) := by decide +kernel
theorem dX3_init_14 : decode cX3_init 14 = .ok (.iconst 1, 1) := by decide +kernel
theorem dX3_init_15 : decode cX3_init 15 = .ok (.putfield 15, 3) := by decide +kernel
theorem dX3_init_18 : decode cX3_init 18 = .ok (.aload_n 0, 1) := by decide +kernel
theorem dX3_init_19 : decode cX3_init 19 = .ok (.aload_n 1, 1) := by decide +kernel
theorem dX3_init_20 : decode cX3_init 20 = .ok (.putfield 19, 3) := by decide +kernel
theorem dX3_init_23 : decode cX3_init 23 = .ok (.aload_n 0, 1) := by decide +kernel
theorem dX3_init_24 : decode cX3_init 24 = .ok (.aload_n 2, 1) := by decide +kernel
theorem dX3_init_25 : decode cX3_init 25 = .ok (.putfield 23, 3) := by decide +kernel
theorem dX3_init_28 : decode cX3_init 28 = .ok (.return_, 1) := by decide +kernel
theorem dX3_spoil_0 : decode cX3_spoil 0 = .ok (.aload_n 0, 1) := by decide +kernel
theorem dX3_spoil_1 : decode cX3_spoil 1 = .ok (.iconst 1, 1) := by decide +kernel
theorem dX3_spoil_2 : decode cX3_spoil 2 = .ok (.putfield 15, 3) := by decide +kernel
theorem dX3_spoil_5 : decode cX3_spoil 5 = .ok (.return_, 1) := by decide +kernel
theorem dX3_told_0 : decode cX3_told 0 = .ok (.iload_n 1, 1) := by decide +kernel
theorem dX3_told_1 : decode cX3_told 1 = .ok (.lookupswitch 37 #[(0, 27), (1, 32)], 27) := by decide +kernel
theorem dX3_told_28 : decode cX3_told 28 = .ok (.aload_n 0, 1) := by decide +kernel
theorem dX3_told_29 : decode cX3_told 29 = .ok (.getfield 27, 3) := by decide +kernel
theorem dX3_told_32 : decode cX3_told 32 = .ok (.ireturn, 1) := by decide +kernel
theorem dX3_told_33 : decode cX3_told 33 = .ok (.aload_n 0, 1) := by decide +kernel
theorem dX3_told_34 : decode cX3_told 34 = .ok (.getfield 31, 3) := by decide +kernel
theorem dX3_told_37 : decode cX3_told 37 = .ok (.ireturn, 1) := by decide +kernel
theorem dX3_told_38 : decode cX3_told 38 = .ok (.aload_n 0, 1) := by decide +kernel
theorem dX3_told_39 : decode cX3_told 39 = .ok (.getfield 34, 3) := by decide +kernel
theorem dX3_told_42 : decode cX3_told 42 = .ok (.ireturn, 1) := by decide +kernel
theorem dX3_refresh_0 : decode cX3_refresh 0 = .ok (.aload_n 0, 1) := by decide +kernel
theorem dX3_refresh_1 : decode cX3_refresh 1 = .ok (.getfield 15, 3) := by decide +kernel
theorem dX3_refresh_4 : decode cX3_refresh 4 = .ok (.ifCond .ne 4, 3) := by decide +kernel
theorem dX3_refresh_7 : decode cX3_refresh 7 = .ok (.return_, 1) := by decide +kernel
theorem dX3_refresh_8 : decode cX3_refresh 8 = .ok (.aload_n 0, 1) := by decide +kernel
theorem dX3_refresh_9 : decode cX3_refresh 9 = .ok (.iconst 0, 1) := by decide +kernel
theorem dX3_refresh_10 : decode cX3_refresh 10 = .ok (.putfield 15, 3) := by decide +kernel
theorem dX3_refresh_13 : decode cX3_refresh 13 = .ok (.aload_n 0, 1) := by decide +kernel
theorem dX3_refresh_14 : decode cX3_refresh 14 = .ok (.iconst 0, 1) := by decide +kernel
theorem dX3_refresh_15 : decode cX3_refresh 15 = .ok (.putfield 27, 3) := by decide +kernel
theorem dX3_refresh_18 : decode cX3_refresh 18 = .ok (.aload_n 0, 1) := by decide +kernel
theorem dX3_refresh_19 : decode cX3_refresh 19 = .ok (.iconst (-1), 1) := by decide +kernel
theorem dX3_refresh_20 : decode cX3_refresh 20 = .ok (.putfield 31, 3) := by decide +kernel
theorem dX3_refresh_23 : decode cX3_refresh 23 = .ok (.aload_n 0, 1) := by decide +kernel
theorem dX3_refresh_24 : decode cX3_refresh 24 = .ok (.iconst (-1), 1) := by decide +kernel
theorem dX3_refresh_25 : decode cX3_refresh 25 = .ok (.putfield 34, 3) := by decide +kernel
theorem dX3_refresh_28 : decode cX3_refresh 28 = .ok (.aload_n 0, 1) := by decide +kernel
theorem dX3_refresh_29 : decode cX3_refresh 29 = .ok (.invokevirtual 37, 3) := by decide +kernel
theorem dX3_refresh_32 : decode cX3_refresh 32 = .ok (.ifCond .ne 4, 3) := by decide +kernel
theorem dX3_refresh_35 : decode cX3_refresh 35 = .ok (.return_, 1) := by decide +kernel
theorem dX3_refresh_36 : decode cX3_refresh 36 = .ok (.aload_n 0, 1) := by decide +kernel
theorem dX3_refresh_37 : decode cX3_refresh 37 = .ok (.getfield 19, 3) := by decide +kernel
theorem dX3_refresh_40 : decode cX3_refresh 40 = .ok (.getfield 41, 3) := by decide +kernel
theorem dX3_refresh_43 : decode cX3_refresh 43 = .ok (.iconst 0, 1) := by decide +kernel
theorem dX3_refresh_44 : decode cX3_refresh 44 = .ok (.invokevirtual 47, 3) := by decide +kernel
theorem dX3_refresh_47 : decode cX3_refresh 47 = .ok (.istore_n 1, 1) := by decide +kernel
theorem dX3_refresh_48 : decode cX3_refresh 48 = .ok (.aload_n 0, 1) := by decide +kernel
theorem dX3_refresh_49 : decode cX3_refresh 49 = .ok (.invokevirtual 53, 3) := by decide +kernel
theorem dX3_refresh_52 : decode cX3_refresh 52 = .ok (.istore_n 2, 1) := by decide +kernel
theorem dX3_refresh_53 : decode cX3_refresh 53 = .ok (.iconst 0, 1) := by decide +kernel
theorem dX3_refresh_54 : decode cX3_refresh 54 = .ok (.istore_n 3, 1) := by decide +kernel
theorem dX3_refresh_55 : decode cX3_refresh 55 = .ok (.iload_n 3, 1) := by decide +kernel
theorem dX3_refresh_56 : decode cX3_refresh 56 = .ok (.iload_n 2, 1) := by decide +kernel
theorem dX3_refresh_57 : decode cX3_refresh 57 = .ok (.if_icmp .gt 65, 3) := by decide +kernel
theorem dX3_refresh_60 : decode cX3_refresh 60 = .ok (.iload_n 3, 1) := by decide +kernel
theorem dX3_refresh_61 : decode cX3_refresh 61 = .ok (.iload_n 2, 1) := by decide +kernel
theorem dX3_refresh_62 : decode cX3_refresh 62 = .ok (.iconst (-1), 1) := by decide +kernel
theorem dX3_refresh_63 : decode cX3_refresh 63 = .ok (.ixor, 1) := by decide +kernel
theorem dX3_refresh_64 : decode cX3_refresh 64 = .ok (.iand, 1) := by decide +kernel
theorem dX3_refresh_65 : decode cX3_refresh 65 = .ok (.ifCond .ne 51, 3) := by decide +kernel
theorem dX3_refresh_68 : decode cX3_refresh 68 = .ok (.aload_n 0, 1) := by decide +kernel
theorem dX3_refresh_69 : decode cX3_refresh 69 = .ok (.iload_n 3, 1) := by decide +kernel
theorem dX3_refresh_70 : decode cX3_refresh 70 = .ok (.iload_n 1, 1) := by decide +kernel
theorem dX3_refresh_71 : decode cX3_refresh 71 = .ok (.invokevirtual 57, 3) := by decide +kernel
theorem dX3_refresh_74 : decode cX3_refresh 74 = .ok (.ifCond .eq 42, 3) := by decide +kernel
theorem dX3_refresh_77 : decode cX3_refresh 77 = .ok (.aload_n 0, 1) := by decide +kernel
theorem dX3_refresh_78 : decode cX3_refresh 78 = .ok (.aload_n 0, 1) := by decide +kernel
theorem dX3_refresh_79 : decode cX3_refresh 79 = .ok (.getfield 27, 3) := by decide +kernel
theorem dX3_refresh_82 : decode cX3_refresh 82 = .ok (.ifCond .ne 7, 3) := by decide +kernel
theorem dX3_refresh_85 : decode cX3_refresh 85 = .ok (.iload_n 3, 1) := by decide +kernel
theorem dX3_refresh_86 : decode cX3_refresh 86 = .ok (.goto 7, 3) := by decide +kernel
theorem dX3_refresh_89 : decode cX3_refresh 89 = .ok (.aload_n 0, 1) := by decide +kernel
theorem dX3_refresh_90 : decode cX3_refresh 90 = .ok (.getfield 31, 3) := by decide +kernel
theorem dX3_refresh_93 : decode cX3_refresh 93 = .ok (.putfield 31, 3) := by decide +kernel
theorem dX3_refresh_96 : decode cX3_refresh 96 = .ok (.aload_n 0, 1) := by decide +kernel
theorem dX3_refresh_97 : decode cX3_refresh 97 = .ok (.dup, 1) := by decide +kernel
theorem dX3_refresh_98 : decode cX3_refresh 98 = .ok (.getfield 34, 3) := by decide +kernel
theorem dX3_refresh_101 : decode cX3_refresh 101 = .ok (.iload_n 3, 1) := by decide +kernel
theorem dX3_refresh_102 : decode cX3_refresh 102 = .ok (.iand, 1) := by decide +kernel
theorem dX3_refresh_103 : decode cX3_refresh 103 = .ok (.putfield 34, 3) := by decide +kernel
theorem dX3_refresh_106 : decode cX3_refresh 106 = .ok (.aload_n 0, 1) := by decide +kernel
theorem dX3_refresh_107 : decode cX3_refresh 107 = .ok (.dup, 1) := by decide +kernel
theorem dX3_refresh_108 : decode cX3_refresh 108 = .ok (.getfield 27, 3) := by decide +kernel
theorem dX3_refresh_111 : decode cX3_refresh 111 = .ok (.iconst 1, 1) := by decide +kernel
theorem dX3_refresh_112 : decode cX3_refresh 112 = .ok (.iadd, 1) := by decide +kernel
theorem dX3_refresh_113 : decode cX3_refresh 113 = .ok (.putfield 27, 3) := by decide +kernel
theorem dX3_refresh_116 : decode cX3_refresh 116 = .ok (.iinc 3 1, 3) := by decide +kernel
theorem dX3_refresh_119 : decode cX3_refresh 119 = .ok (.goto (-64), 3) := by decide +kernel
theorem dX3_refresh_122 : decode cX3_refresh 122 = .ok (.return_, 1) := by decide +kernel
theorem dX3_noteSights_0 : decode cX3_noteSights 0 = .ok (.aload_n 0, 1) := by decide +kernel
theorem dX3_noteSights_1 : decode cX3_noteSights 1 = .ok (.getfield 9, 3) := by decide +kernel
theorem dX3_noteSights_4 : decode cX3_noteSights 4 = .ok (.iconst (-1), 1) := by decide +kernel
theorem dX3_noteSights_5 : decode cX3_noteSights 5 = .ok (.invokestatic 61, 3) := by decide +kernel
theorem dX3_noteSights_8 : decode cX3_noteSights 8 = .ok (.iconst 0, 1) := by decide +kernel
theorem dX3_noteSights_9 : decode cX3_noteSights 9 = .ok (.istore_n 1, 1) := by decide +kernel
theorem dX3_noteSights_10 : decode cX3_noteSights 10 = .ok (.iload_n 1, 1) := by decide +kernel
theorem dX3_noteSights_11 : decode cX3_noteSights 11 = .ok (.aload_n 0, 1) := by decide +kernel
theorem dX3_noteSights_12 : decode cX3_noteSights 12 = .ok (.getfield 19, 3) := by decide +kernel
theorem dX3_noteSights_15 : decode cX3_noteSights 15 = .ok (.getfield 41, 3) := by decide +kernel
theorem dX3_noteSights_18 : decode cX3_noteSights 18 = .ok (.invokevirtual 67, 3) := by decide +kernel
theorem dX3_noteSights_21 : decode cX3_noteSights 21 = .ok (.if_icmp .ge 75, 3) := by decide +kernel
theorem dX3_noteSights_24 : decode cX3_noteSights 24 = .ok (.aload_n 0, 1) := by decide +kernel
theorem dX3_noteSights_25 : decode cX3_noteSights 25 = .ok (.getfield 19, 3) := by decide +kernel
theorem dX3_noteSights_28 : decode cX3_noteSights 28 = .ok (.getfield 41, 3) := by decide +kernel
theorem dX3_noteSights_31 : decode cX3_noteSights 31 = .ok (.iload_n 1, 1) := by decide +kernel
theorem dX3_noteSights_32 : decode cX3_noteSights 32 = .ok (.iconst 0, 1) := by decide +kernel
theorem dX3_noteSights_33 : decode cX3_noteSights 33 = .ok (.invokevirtual 70, 3) := by decide +kernel
theorem dX3_noteSights_36 : decode cX3_noteSights 36 = .ok (.istore_n 2, 1) := by decide +kernel
theorem dX3_noteSights_37 : decode cX3_noteSights 37 = .ok (.aload_n 0, 1) := by decide +kernel
theorem dX3_noteSights_38 : decode cX3_noteSights 38 = .ok (.getfield 19, 3) := by decide +kernel
theorem dX3_noteSights_41 : decode cX3_noteSights 41 = .ok (.getfield 41, 3) := by decide +kernel
theorem dX3_noteSights_44 : decode cX3_noteSights 44 = .ok (.iload_n 1, 1) := by decide +kernel
theorem dX3_noteSights_45 : decode cX3_noteSights 45 = .ok (.iconst 1, 1) := by decide +kernel
theorem dX3_noteSights_46 : decode cX3_noteSights 46 = .ok (.invokevirtual 70, 3) := by decide +kernel
theorem dX3_noteSights_49 : decode cX3_noteSights 49 = .ok (.istore_n 3, 1) := by decide +kernel
theorem dX3_noteSights_50 : decode cX3_noteSights 50 = .ok (.iload_n 2, 1) := by decide +kernel
theorem dX3_noteSights_51 : decode cX3_noteSights 51 = .ok (.iconst 0, 1) := by decide +kernel
theorem dX3_noteSights_52 : decode cX3_noteSights 52 = .ok (.sipush 240, 3) := by decide +kernel
theorem dX3_noteSights_55 : decode cX3_noteSights 55 = .ok (.invokestatic 74, 3) := by decide +kernel
theorem dX3_noteSights_58 : decode cX3_noteSights 58 = .ok (.ifCond .eq 32, 3) := by decide +kernel
theorem dX3_noteSights_61 : decode cX3_noteSights 61 = .ok (.aload_n 0, 1) := by decide +kernel
theorem dX3_noteSights_62 : decode cX3_noteSights 62 = .ok (.getfield 9, 3) := by decide +kernel
theorem dX3_noteSights_65 : decode cX3_noteSights 65 = .ok (.iload_n 2, 1) := by decide +kernel
theorem dX3_noteSights_66 : decode cX3_noteSights 66 = .ok (.iaload, 1) := by decide +kernel
theorem dX3_noteSights_67 : decode cX3_noteSights 67 = .ok (.iconst (-1), 1) := by decide +kernel
theorem dX3_noteSights_68 : decode cX3_noteSights 68 = .ok (.if_icmp .eq 15, 3) := by decide +kernel
theorem dX3_noteSights_71 : decode cX3_noteSights 71 = .ok (.aload_n 0, 1) := by decide +kernel
theorem dX3_noteSights_72 : decode cX3_noteSights 72 = .ok (.getfield 9, 3) := by decide +kernel
theorem dX3_noteSights_75 : decode cX3_noteSights 75 = .ok (.iload_n 2, 1) := by decide +kernel
theorem dX3_noteSights_76 : decode cX3_noteSights 76 = .ok (.iaload, 1) := by decide +kernel
theorem dX3_noteSights_77 : decode cX3_noteSights 77 = .ok (.iload_n 3, 1) := by decide +kernel
theorem dX3_noteSights_78 : decode cX3_noteSights 78 = .ok (.if_icmp .eq 5, 3) := by decide +kernel
theorem dX3_noteSights_81 : decode cX3_noteSights 81 = .ok (.iconst 0, 1) := by decide +kernel
theorem dX3_noteSights_82 : decode cX3_noteSights 82 = .ok (.ireturn, 1) := by decide +kernel
theorem dX3_noteSights_83 : decode cX3_noteSights 83 = .ok (.aload_n 0, 1) := by decide +kernel
theorem dX3_noteSights_84 : decode cX3_noteSights 84 = .ok (.getfield 9, 3) := by decide +kernel
theorem dX3_noteSights_87 : decode cX3_noteSights 87 = .ok (.iload_n 2, 1) := by decide +kernel
theorem dX3_noteSights_88 : decode cX3_noteSights 88 = .ok (.iload_n 3, 1) := by decide +kernel
theorem dX3_noteSights_89 : decode cX3_noteSights 89 = .ok (.iastore, 1) := by decide +kernel
theorem dX3_noteSights_90 : decode cX3_noteSights 90 = .ok (.iinc 1 1, 3) := by decide +kernel
theorem dX3_noteSights_93 : decode cX3_noteSights 93 = .ok (.goto (-83), 3) := by decide +kernel
theorem dX3_noteSights_96 : decode cX3_noteSights 96 = .ok (.iconst 1, 1) := by decide +kernel
theorem dX3_noteSights_97 : decode cX3_noteSights 97 = .ok (.ireturn, 1) := by decide +kernel
theorem dX3_peopleThere_0 : decode cX3_peopleThere 0 = .ok (.iconst 0, 1) := by decide +kernel
theorem dX3_peopleThere_1 : decode cX3_peopleThere 1 = .ok (.istore_n 1, 1) := by decide +kernel
theorem dX3_peopleThere_2 : decode cX3_peopleThere 2 = .ok (.iconst 0, 1) := by decide +kernel
theorem dX3_peopleThere_3 : decode cX3_peopleThere 3 = .ok (.istore_n 2, 1) := by decide +kernel
theorem dX3_peopleThere_4 : decode cX3_peopleThere 4 = .ok (.iload_n 2, 1) := by decide +kernel
theorem dX3_peopleThere_5 : decode cX3_peopleThere 5 = .ok (.aload_n 0, 1) := by decide +kernel
theorem dX3_peopleThere_6 : decode cX3_peopleThere 6 = .ok (.getfield 19, 3) := by decide +kernel
theorem dX3_peopleThere_9 : decode cX3_peopleThere 9 = .ok (.getfield 78, 3) := by decide +kernel
theorem dX3_peopleThere_12 : decode cX3_peopleThere 12 = .ok (.invokevirtual 67, 3) := by decide +kernel
theorem dX3_peopleThere_15 : decode cX3_peopleThere 15 = .ok (.if_icmp .ge 30, 3) := by decide +kernel
theorem dX3_peopleThere_18 : decode cX3_peopleThere 18 = .ok (.aload_n 0, 1) := by decide +kernel
theorem dX3_peopleThere_19 : decode cX3_peopleThere 19 = .ok (.getfield 19, 3) := by decide +kernel
theorem dX3_peopleThere_22 : decode cX3_peopleThere 22 = .ok (.getfield 78, 3) := by decide +kernel
theorem dX3_peopleThere_25 : decode cX3_peopleThere 25 = .ok (.iload_n 2, 1) := by decide +kernel
theorem dX3_peopleThere_26 : decode cX3_peopleThere 26 = .ok (.iconst 1, 1) := by decide +kernel
theorem dX3_peopleThere_27 : decode cX3_peopleThere 27 = .ok (.invokevirtual 70, 3) := by decide +kernel
theorem dX3_peopleThere_30 : decode cX3_peopleThere 30 = .ok (.ifCond .ne 9, 3) := by decide +kernel
theorem dX3_peopleThere_33 : decode cX3_peopleThere 33 = .ok (.iload_n 1, 1) := by decide +kernel
theorem dX3_peopleThere_34 : decode cX3_peopleThere 34 = .ok (.iconst 1, 1) := by decide +kernel
theorem dX3_peopleThere_35 : decode cX3_peopleThere 35 = .ok (.iload_n 2, 1) := by decide +kernel
theorem dX3_peopleThere_36 : decode cX3_peopleThere 36 = .ok (.ishl, 1) := by decide +kernel
theorem dX3_peopleThere_37 : decode cX3_peopleThere 37 = .ok (.ior, 1) := by decide +kernel
theorem dX3_peopleThere_38 : decode cX3_peopleThere 38 = .ok (.istore_n 1, 1) := by decide +kernel
theorem dX3_peopleThere_39 : decode cX3_peopleThere 39 = .ok (.iinc 2 1, 3) := by decide +kernel
theorem dX3_peopleThere_42 : decode cX3_peopleThere 42 = .ok (.goto (-38), 3) := by decide +kernel
theorem dX3_peopleThere_45 : decode cX3_peopleThere 45 = .ok (.iload_n 1, 1) := by decide +kernel
theorem dX3_peopleThere_46 : decode cX3_peopleThere 46 = .ok (.bipush 31, 2) := by decide +kernel
theorem dX3_peopleThere_48 : decode cX3_peopleThere 48 = .ok (.iand, 1) := by decide +kernel
theorem dX3_peopleThere_49 : decode cX3_peopleThere 49 = .ok (.ireturn, 1) := by decide +kernel
theorem dX3_fits_0 : decode cX3_fits 0 = .ok (.iconst 0, 1) := by decide +kernel
theorem dX3_fits_1 : decode cX3_fits 1 = .ok (.istore_n 3, 1) := by decide +kernel
theorem dX3_fits_2 : decode cX3_fits 2 = .ok (.iconst 0, 1) := by decide +kernel
theorem dX3_fits_3 : decode cX3_fits 3 = .ok (.istore 4, 2) := by decide +kernel
theorem dX3_fits_5 : decode cX3_fits 5 = .ok (.iload 4, 2) := by decide +kernel
theorem dX3_fits_7 : decode cX3_fits 7 = .ok (.iload_n 2, 1) := by decide +kernel
theorem dX3_fits_8 : decode cX3_fits 8 = .ok (.if_icmp .gt 96, 3) := by decide +kernel
theorem dX3_fits_11 : decode cX3_fits 11 = .ok (.iload 4, 2) := by decide +kernel
theorem dX3_fits_13 : decode cX3_fits 13 = .ok (.sipush 240, 3) := by decide +kernel
theorem dX3_fits_16 : decode cX3_fits 16 = .ok (.if_icmp .gt 88, 3) := by decide +kernel
theorem dX3_fits_19 : decode cX3_fits 19 = .ok (.aload_n 0, 1) := by decide +kernel
theorem dX3_fits_20 : decode cX3_fits 20 = .ok (.getfield 9, 3) := by decide +kernel
theorem dX3_fits_23 : decode cX3_fits 23 = .ok (.iload 4, 2) := by decide +kernel
theorem dX3_fits_25 : decode cX3_fits 25 = .ok (.iaload, 1) := by decide +kernel
theorem dX3_fits_26 : decode cX3_fits 26 = .ok (.iconst (-1), 1) := by decide +kernel
theorem dX3_fits_27 : decode cX3_fits 27 = .ok (.if_icmp .eq 16, 3) := by decide +kernel
theorem dX3_fits_30 : decode cX3_fits 30 = .ok (.aload_n 0, 1) := by decide +kernel
theorem dX3_fits_31 : decode cX3_fits 31 = .ok (.getfield 9, 3) := by decide +kernel
theorem dX3_fits_34 : decode cX3_fits 34 = .ok (.iload 4, 2) := by decide +kernel
theorem dX3_fits_36 : decode cX3_fits 36 = .ok (.iaload, 1) := by decide +kernel
theorem dX3_fits_37 : decode cX3_fits 37 = .ok (.iload_n 3, 1) := by decide +kernel
theorem dX3_fits_38 : decode cX3_fits 38 = .ok (.if_icmp .eq 5, 3) := by decide +kernel
theorem dX3_fits_41 : decode cX3_fits 41 = .ok (.iconst 0, 1) := by decide +kernel
theorem dX3_fits_42 : decode cX3_fits 42 = .ok (.ireturn, 1) := by decide +kernel
theorem dX3_fits_43 : decode cX3_fits 43 = .ok (.iload 4, 2) := by decide +kernel
theorem dX3_fits_45 : decode cX3_fits 45 = .ok (.iload_n 2, 1) := by decide +kernel
theorem dX3_fits_46 : decode cX3_fits 46 = .ok (.if_icmp .ge 52, 3) := by decide +kernel
theorem dX3_fits_49 : decode cX3_fits 49 = .ok (.iload 4, 2) := by decide +kernel
theorem dX3_fits_51 : decode cX3_fits 51 = .ok (.sipush 240, 3) := by decide +kernel
theorem dX3_fits_54 : decode cX3_fits 54 = .ok (.if_icmp .ge 44, 3) := by decide +kernel
theorem dX3_fits_57 : decode cX3_fits 57 = .ok (.aload_n 0, 1) := by decide +kernel
theorem dX3_fits_58 : decode cX3_fits 58 = .ok (.getfield 23, 3) := by decide +kernel
theorem dX3_fits_61 : decode cX3_fits 61 = .ok (.iconst 0, 1) := by decide +kernel
theorem dX3_fits_62 : decode cX3_fits 62 = .ok (.iload 4, 2) := by decide +kernel
theorem dX3_fits_64 : decode cX3_fits 64 = .ok (.iload_n 3, 1) := by decide +kernel
theorem dX3_fits_65 : decode cX3_fits 65 = .ok (.iload_n 1, 1) := by decide +kernel
theorem dX3_fits_66 : decode cX3_fits 66 = .ok (.aload_n 0, 1) := by decide +kernel
theorem dX3_fits_67 : decode cX3_fits 67 = .ok (.getfield 19, 3) := by decide +kernel
theorem dX3_fits_70 : decode cX3_fits 70 = .ok (.getfield 78, 3) := by decide +kernel
theorem dX3_fits_73 : decode cX3_fits 73 = .ok (.invokevirtual 67, 3) := by decide +kernel
theorem dX3_fits_76 : decode cX3_fits 76 = .ok (.invokevirtual 81, 3) := by decide +kernel
theorem dX3_fits_79 : decode cX3_fits 79 = .ok (.istore 5, 2) := by decide +kernel
theorem dX3_fits_81 : decode cX3_fits 81 = .ok (.iload_n 3, 1) := by decide +kernel
theorem dX3_fits_82 : decode cX3_fits 82 = .ok (.iload 5, 2) := by decide +kernel
theorem dX3_fits_84 : decode cX3_fits 84 = .ok (.aload_n 0, 1) := by decide +kernel
theorem dX3_fits_85 : decode cX3_fits 85 = .ok (.getfield 19, 3) := by decide +kernel
theorem dX3_fits_88 : decode cX3_fits 88 = .ok (.getfield 87, 3) := by decide +kernel
theorem dX3_fits_91 : decode cX3_fits 91 = .ok (.iconst 0, 1) := by decide +kernel
theorem dX3_fits_92 : decode cX3_fits 92 = .ok (.iaload, 1) := by decide +kernel
theorem dX3_fits_93 : decode cX3_fits 93 = .ok (.invokestatic 90, 3) := by decide +kernel
theorem dX3_fits_96 : decode cX3_fits 96 = .ok (.iadd, 1) := by decide +kernel
theorem dX3_fits_97 : decode cX3_fits 97 = .ok (.istore_n 3, 1) := by decide +kernel
theorem dX3_fits_98 : decode cX3_fits 98 = .ok (.iinc 4 1, 3) := by decide +kernel
theorem dX3_fits_101 : decode cX3_fits 101 = .ok (.goto (-96), 3) := by decide +kernel
theorem dX3_fits_104 : decode cX3_fits 104 = .ok (.iconst 1, 1) := by decide +kernel
theorem dX3_fits_105 : decode cX3_fits 105 = .ok (.ireturn, 1) := by decide +kernel
theorem dX4_init_0 : decode cX4_init 0 = .ok (.aload_n 0, 1) := by decide +kernel
theorem dX4_init_1 : decode cX4_init 1 = .ok (.invokespecial 3, 3) := by decide +kernel
theorem dX4_init_4 : decode cX4_init 4 = .ok (.aload_n 0, 1) := by decide +kernel
theorem dX4_init_5 : decode cX4_init 5 = .ok (.bipush 100, 2) := by decide +kernel
theorem dX4_init_7 : decode cX4_init 7 = .ok (.newarray .int, 2) := by decide +kernel
theorem dX4_init_9 : decode cX4_init 9 = .ok (.putfield 11, 3) := by decide +kernel
theorem dX4_init_12 : decode cX4_init 12 = .ok (.aload_n 0, 1) := by decide +kernel
theorem dX4_init_13 : decode cX4_init 13 = .ok (.sipush 495, 3) := by decide +kernel
theorem dX4_init_16 : decode cX4_init 16 = .ok (.newarray .long, 2) := by decide +kernel
theorem dX4_init_18 : decode cX4_init 18 = .ok (.putfield 15, 3) := by decide +kernel
theorem dX4_init_21 : decode cX4_init 21 = .ok (.aload_n 0, 1) := by decide +kernel
theorem dX4_init_22 : decode cX4_init 22 = .ok (.iconst 1, 1) := by decide +kernel
theorem dX4_init_23 : decode cX4_init 23 = .ok (.putfield 19, 3) := by decide +kernel
theorem dX4_init_26 : decode cX4_init 26 = .ok (.aload_n 0, 1) := by decide +kernel
theorem dX4_init_27 : decode cX4_init 27 = .ok (.aload_n 1, 1) := by decide +kernel
theorem dX4_init_28 : decode cX4_init 28 = .ok (.putfield 23, 3) := by decide +kernel
theorem dX4_init_31 : decode cX4_init 31 = .ok (.return_, 1) := by decide +kernel
theorem dX4_spoil_0 : decode cX4_spoil 0 = .ok (.aload_n 0, 1) := by decide +kernel
theorem dX4_spoil_1 : decode cX4_spoil 1 = .ok (.iconst 1, 1) := by decide +kernel
theorem dX4_spoil_2 : decode cX4_spoil 2 = .ok (.putfield 19, 3) := by decide +kernel
theorem dX4_spoil_5 : decode cX4_spoil 5 = .ok (.return_, 1) := by decide +kernel
theorem dX4_mostFrom_0 : decode cX4_mostFrom 0 = .ok (.aload_n 0, 1) := by decide +kernel
theorem dX4_mostFrom_1 : decode cX4_mostFrom 1 = .ok (.iload_n 2, 1) := by decide +kernel
theorem dX4_mostFrom_2 : decode cX4_mostFrom 2 = .ok (.invokevirtual 27, 3) := by decide +kernel
theorem dX4_mostFrom_5 : decode cX4_mostFrom 5 = .ok (.iload_n 1, 1) := by decide +kernel
theorem dX4_mostFrom_6 : decode cX4_mostFrom 6 = .ok (.iconst 0, 1) := by decide +kernel
theorem dX4_mostFrom_7 : decode cX4_mostFrom 7 = .ok (.bipush 99, 2) := by decide +kernel
theorem dX4_mostFrom_9 : decode cX4_mostFrom 9 = .ok (.invokestatic 31, 3) := by decide +kernel
theorem dX4_mostFrom_12 : decode cX4_mostFrom 12 = .ok (.ifCond .eq 12, 3) := by decide +kernel
theorem dX4_mostFrom_15 : decode cX4_mostFrom 15 = .ok (.aload_n 0, 1) := by decide +kernel
theorem dX4_mostFrom_16 : decode cX4_mostFrom 16 = .ok (.getfield 11, 3) := by decide +kernel
theorem dX4_mostFrom_19 : decode cX4_mostFrom 19 = .ok (.iload_n 1, 1) := by decide +kernel
theorem dX4_mostFrom_20 : decode cX4_mostFrom 20 = .ok (.iaload, 1) := by decide +kernel
theorem dX4_mostFrom_21 : decode cX4_mostFrom 21 = .ok (.goto 4, 3) := by decide +kernel
theorem dX4_mostFrom_24 : decode cX4_mostFrom 24 = .ok (.iconst 0, 1) := by decide +kernel
theorem dX4_mostFrom_25 : decode cX4_mostFrom 25 = .ok (.ireturn, 1) := by decide +kernel
theorem dX4_stepIn_0 : decode cX4_stepIn 0 = .ok (.aload_n 0, 1) := by decide +kernel
theorem dX4_stepIn_1 : decode cX4_stepIn 1 = .ok (.iload_n 2, 1) := by decide +kernel
theorem dX4_stepIn_2 : decode cX4_stepIn 2 = .ok (.invokevirtual 27, 3) := by decide +kernel
theorem dX4_stepIn_5 : decode cX4_stepIn 5 = .ok (.iconst 0, 1) := by decide +kernel
theorem dX4_stepIn_6 : decode cX4_stepIn 6 = .ok (.istore_n 3, 1) := by decide +kernel
theorem dX4_stepIn_7 : decode cX4_stepIn 7 = .ok (.iconst 0, 1) := by decide +kernel
theorem dX4_stepIn_8 : decode cX4_stepIn 8 = .ok (.istore 4, 2) := by decide +kernel
theorem dX4_stepIn_10 : decode cX4_stepIn 10 = .ok (.iload 4, 2) := by decide +kernel
theorem dX4_stepIn_12 : decode cX4_stepIn 12 = .ok (.iload_n 1, 1) := by decide +kernel
theorem dX4_stepIn_13 : decode cX4_stepIn 13 = .ok (.if_icmp .ge 31, 3) := by decide +kernel
theorem dX4_stepIn_16 : decode cX4_stepIn 16 = .ok (.iload 4, 2) := by decide +kernel
theorem dX4_stepIn_18 : decode cX4_stepIn 18 = .ok (.bipush 99, 2) := by decide +kernel
theorem dX4_stepIn_20 : decode cX4_stepIn 20 = .ok (.if_icmp .ge 24, 3) := by decide +kernel
theorem dX4_stepIn_23 : decode cX4_stepIn 23 = .ok (.iload_n 3, 1) := by decide +kernel
theorem dX4_stepIn_24 : decode cX4_stepIn 24 = .ok (.aload_n 0, 1) := by decide +kernel
theorem dX4_stepIn_25 : decode cX4_stepIn 25 = .ok (.iload 4, 2) := by decide +kernel
theorem dX4_stepIn_27 : decode cX4_stepIn 27 = .ok (.iload_n 3, 1) := by decide +kernel
theorem dX4_stepIn_28 : decode cX4_stepIn 28 = .ok (.invokevirtual 35, 3) := by decide +kernel
theorem dX4_stepIn_31 : decode cX4_stepIn 31 = .ok (.iadd, 1) := by decide +kernel
theorem dX4_stepIn_32 : decode cX4_stepIn 32 = .ok (.bipush 99, 2) := by decide +kernel
theorem dX4_stepIn_34 : decode cX4_stepIn 34 = .ok (.invokestatic 39, 3) := by decide +kernel
theorem dX4_stepIn_37 : decode cX4_stepIn 37 = .ok (.istore_n 3, 1) := by decide +kernel
theorem dX4_stepIn_38 : decode cX4_stepIn 38 = .ok (.iinc 4 1, 3) := by decide +kernel
theorem dX4_stepIn_41 : decode cX4_stepIn 41 = .ok (.goto (-31), 3) := by decide +kernel
theorem dX4_stepIn_44 : decode cX4_stepIn 44 = .ok (.aload_n 0, 1) := by decide +kernel
theorem dX4_stepIn_45 : decode cX4_stepIn 45 = .ok (.iload_n 1, 1) := by decide +kernel
theorem dX4_stepIn_46 : decode cX4_stepIn 46 = .ok (.iload_n 3, 1) := by decide +kernel
theorem dX4_stepIn_47 : decode cX4_stepIn 47 = .ok (.invokevirtual 35, 3) := by decide +kernel
theorem dX4_stepIn_50 : decode cX4_stepIn 50 = .ok (.ireturn, 1) := by decide +kernel
theorem dX4_refresh_0 : decode cX4_refresh 0 = .ok (.aload_n 0, 1) := by decide +kernel
theorem dX4_refresh_1 : decode cX4_refresh 1 = .ok (.getfield 19, 3) := by decide +kernel
theorem dX4_refresh_4 : decode cX4_refresh 4 = .ok (.ifCond .ne 12, 3) := by decide +kernel
theorem dX4_refresh_7 : decode cX4_refresh 7 = .ok (.aload_n 0, 1) := by decide +kernel
theorem dX4_refresh_8 : decode cX4_refresh 8 = .ok (.getfield 44, 3) := by decide +kernel
theorem dX4_refresh_11 : decode cX4_refresh 11 = .ok (.iload_n 1, 1) := by decide +kernel
theorem dX4_refresh_12 : decode cX4_refresh 12 = .ok (.if_icmp .ne 4, 3) := by decide +kernel
theorem dX4_refresh_15 : decode cX4_refresh 15 = .ok (.return_, 1) := by decide +kernel
theorem dX4_refresh_16 : decode cX4_refresh 16 = .ok (.aload_n 0, 1) := by decide +kernel
theorem dX4_refresh_17 : decode cX4_refresh 17 = .ok (.iconst 0, 1) := by decide +kernel
theorem dX4_refresh_18 : decode cX4_refresh 18 = .ok (.putfield 19, 3) := by decide +kernel
theorem dX4_refresh_21 : decode cX4_refresh 21 = .ok (.aload_n 0, 1) := by decide +kernel
theorem dX4_refresh_22 : decode cX4_refresh 22 = .ok (.iload_n 1, 1) := by decide +kernel
theorem dX4_refresh_23 : decode cX4_refresh 23 = .ok (.putfield 44, 3) := by decide +kernel
theorem dX4_refresh_26 : decode cX4_refresh 26 = .ok (.aload_n 0, 1) := by decide +kernel
theorem dX4_refresh_27 : decode cX4_refresh 27 = .ok (.getfield 11, 3) := by decide +kernel
theorem dX4_refresh_30 : decode cX4_refresh 30 = .ok (.iconst 0, 1) := by decide +kernel
theorem dX4_refresh_31 : decode cX4_refresh 31 = .ok (.invokestatic 48, 3) := by decide +kernel
theorem dX4_refresh_34 : decode cX4_refresh 34 = .ok (.aload_n 0, 1) := by decide +kernel
theorem dX4_refresh_35 : decode cX4_refresh 35 = .ok (.getfield 15, 3) := by decide +kernel
theorem dX4_refresh_38 : decode cX4_refresh 38 = .ok (.lconst 0, 1) := by decide +kernel
theorem dX4_refresh_39 : decode cX4_refresh 39 = .ok (.invokestatic 54, 3) := by decide +kernel
theorem dX4_refresh_42 : decode cX4_refresh 42 = .ok (.aload_n 0, 1) := by decide +kernel
theorem dX4_refresh_43 : decode cX4_refresh 43 = .ok (.getfield 23, 3) := by decide +kernel
theorem dX4_refresh_46 : decode cX4_refresh 46 = .ok (.getfield 57, 3) := by decide +kernel
theorem dX4_refresh_49 : decode cX4_refresh 49 = .ok (.iconst 1, 1) := by decide +kernel
theorem dX4_refresh_50 : decode cX4_refresh 50 = .ok (.invokevirtual 63, 3) := by decide +kernel
theorem dX4_refresh_53 : decode cX4_refresh 53 = .ok (.bipush 99, 2) := by decide +kernel
theorem dX4_refresh_55 : decode cX4_refresh 55 = .ok (.invokestatic 39, 3) := by decide +kernel
theorem dX4_refresh_58 : decode cX4_refresh 58 = .ok (.istore_n 2, 1) := by decide +kernel
theorem dX4_refresh_59 : decode cX4_refresh 59 = .ok (.aload_n 0, 1) := by decide +kernel
theorem dX4_refresh_60 : decode cX4_refresh 60 = .ok (.getfield 23, 3) := by decide +kernel
theorem dX4_refresh_63 : decode cX4_refresh 63 = .ok (.getfield 57, 3) := by decide +kernel
theorem dX4_refresh_66 : decode cX4_refresh 66 = .ok (.iconst 0, 1) := by decide +kernel
theorem dX4_refresh_67 : decode cX4_refresh 67 = .ok (.invokevirtual 63, 3) := by decide +kernel
theorem dX4_refresh_70 : decode cX4_refresh 70 = .ok (.bipush 99, 2) := by decide +kernel
theorem dX4_refresh_72 : decode cX4_refresh 72 = .ok (.invokestatic 39, 3) := by decide +kernel
theorem dX4_refresh_75 : decode cX4_refresh 75 = .ok (.istore_n 3, 1) := by decide +kernel
theorem dX4_refresh_76 : decode cX4_refresh 76 = .ok (.aload_n 0, 1) := by decide +kernel
theorem dX4_refresh_77 : decode cX4_refresh 77 = .ok (.iload_n 2, 1) := by decide +kernel
theorem dX4_refresh_78 : decode cX4_refresh 78 = .ok (.invokevirtual 69, 3) := by decide +kernel
theorem dX4_refresh_81 : decode cX4_refresh 81 = .ok (.iload_n 2, 1) := by decide +kernel
theorem dX4_refresh_82 : decode cX4_refresh 82 = .ok (.iconst 1, 1) := by decide +kernel
theorem dX4_refresh_83 : decode cX4_refresh 83 = .ok (.isub, 1) := by decide +kernel
theorem dX4_refresh_84 : decode cX4_refresh 84 = .ok (.istore 4, 2) := by decide +kernel
theorem dX4_refresh_86 : decode cX4_refresh 86 = .ok (.iload 4, 2) := by decide +kernel
theorem dX4_refresh_88 : decode cX4_refresh 88 = .ok (.ifCond .lt 22, 3) := by decide +kernel
theorem dX4_refresh_91 : decode cX4_refresh 91 = .ok (.aload_n 0, 1) := by decide +kernel
theorem dX4_refresh_92 : decode cX4_refresh 92 = .ok (.iload 4, 2) := by decide +kernel
theorem dX4_refresh_94 : decode cX4_refresh 94 = .ok (.iload_n 3, 1) := by decide +kernel
theorem dX4_refresh_95 : decode cX4_refresh 95 = .ok (.invokevirtual 72, 3) := by decide +kernel
theorem dX4_refresh_98 : decode cX4_refresh 98 = .ok (.aload_n 0, 1) := by decide +kernel
theorem dX4_refresh_99 : decode cX4_refresh 99 = .ok (.iload 4, 2) := by decide +kernel
theorem dX4_refresh_101 : decode cX4_refresh 101 = .ok (.invokevirtual 69, 3) := by decide +kernel
theorem dX4_refresh_104 : decode cX4_refresh 104 = .ok (.iinc 4 (-1), 3) := by decide +kernel
theorem dX4_refresh_107 : decode cX4_refresh 107 = .ok (.goto (-21), 3) := by decide +kernel
theorem dX4_refresh_110 : decode cX4_refresh 110 = .ok (.return_, 1) := by decide +kernel
theorem dX4_payDues_0 : decode cX4_payDues 0 = .ok (.iconst 0, 1) := by decide +kernel
theorem dX4_payDues_1 : decode cX4_payDues 1 = .ok (.istore_n 2, 1) := by decide +kernel
theorem dX4_payDues_2 : decode cX4_payDues 2 = .ok (.iload_n 2, 1) := by decide +kernel
theorem dX4_payDues_3 : decode cX4_payDues 3 = .ok (.aload_n 0, 1) := by decide +kernel
theorem dX4_payDues_4 : decode cX4_payDues 4 = .ok (.getfield 23, 3) := by decide +kernel
theorem dX4_payDues_7 : decode cX4_payDues 7 = .ok (.getfield 57, 3) := by decide +kernel
theorem dX4_payDues_10 : decode cX4_payDues 10 = .ok (.invokevirtual 76, 3) := by decide +kernel
theorem dX4_payDues_13 : decode cX4_payDues 13 = .ok (.if_icmp .ge 80, 3) := by decide +kernel
theorem dX4_payDues_16 : decode cX4_payDues 16 = .ok (.aload_n 0, 1) := by decide +kernel
theorem dX4_payDues_17 : decode cX4_payDues 17 = .ok (.getfield 23, 3) := by decide +kernel
theorem dX4_payDues_20 : decode cX4_payDues 20 = .ok (.getfield 57, 3) := by decide +kernel
theorem dX4_payDues_23 : decode cX4_payDues 23 = .ok (.iload_n 2, 1) := by decide +kernel
theorem dX4_payDues_24 : decode cX4_payDues 24 = .ok (.iconst 1, 1) := by decide +kernel
theorem dX4_payDues_25 : decode cX4_payDues 25 = .ok (.invokevirtual 80, 3) := by decide +kernel
theorem dX4_payDues_28 : decode cX4_payDues 28 = .ok (.iload_n 1, 1) := by decide +kernel
theorem dX4_payDues_29 : decode cX4_payDues 29 = .ok (.if_icmp .ne 58, 3) := by decide +kernel
theorem dX4_payDues_32 : decode cX4_payDues 32 = .ok (.aload_n 0, 1) := by decide +kernel
theorem dX4_payDues_33 : decode cX4_payDues 33 = .ok (.getfield 23, 3) := by decide +kernel
theorem dX4_payDues_36 : decode cX4_payDues 36 = .ok (.getfield 57, 3) := by decide +kernel
theorem dX4_payDues_39 : decode cX4_payDues 39 = .ok (.iload_n 2, 1) := by decide +kernel
theorem dX4_payDues_40 : decode cX4_payDues 40 = .ok (.iconst 2, 1) := by decide +kernel
theorem dX4_payDues_41 : decode cX4_payDues 41 = .ok (.invokevirtual 80, 3) := by decide +kernel
theorem dX4_payDues_44 : decode cX4_payDues 44 = .ok (.istore_n 3, 1) := by decide +kernel
theorem dX4_payDues_45 : decode cX4_payDues 45 = .ok (.aload_n 0, 1) := by decide +kernel
theorem dX4_payDues_46 : decode cX4_payDues 46 = .ok (.getfield 23, 3) := by decide +kernel
theorem dX4_payDues_49 : decode cX4_payDues 49 = .ok (.getfield 57, 3) := by decide +kernel
theorem dX4_payDues_52 : decode cX4_payDues 52 = .ok (.iload_n 2, 1) := by decide +kernel
theorem dX4_payDues_53 : decode cX4_payDues 53 = .ok (.iconst 0, 1) := by decide +kernel
theorem dX4_payDues_54 : decode cX4_payDues 54 = .ok (.invokevirtual 80, 3) := by decide +kernel
theorem dX4_payDues_57 : decode cX4_payDues 57 = .ok (.iconst 0, 1) := by decide +kernel
theorem dX4_payDues_58 : decode cX4_payDues 58 = .ok (.invokestatic 83, 3) := by decide +kernel
theorem dX4_payDues_61 : decode cX4_payDues 61 = .ok (.istore 4, 2) := by decide +kernel
theorem dX4_payDues_63 : decode cX4_payDues 63 = .ok (.iload 4, 2) := by decide +kernel
theorem dX4_payDues_65 : decode cX4_payDues 65 = .ok (.bipush 99, 2) := by decide +kernel
theorem dX4_payDues_67 : decode cX4_payDues 67 = .ok (.if_icmp .gt 20, 3) := by decide +kernel
theorem dX4_payDues_70 : decode cX4_payDues 70 = .ok (.aload_n 0, 1) := by decide +kernel
theorem dX4_payDues_71 : decode cX4_payDues 71 = .ok (.getfield 11, 3) := by decide +kernel
theorem dX4_payDues_74 : decode cX4_payDues 74 = .ok (.iload 4, 2) := by decide +kernel
theorem dX4_payDues_76 : decode cX4_payDues 76 = .ok (.dup2, 1) := by decide +kernel
theorem dX4_payDues_77 : decode cX4_payDues 77 = .ok (.iaload, 1) := by decide +kernel
theorem dX4_payDues_78 : decode cX4_payDues 78 = .ok (.iload_n 3, 1) := by decide +kernel
theorem dX4_payDues_79 : decode cX4_payDues 79 = .ok (.iadd, 1) := by decide +kernel
theorem dX4_payDues_80 : decode cX4_payDues 80 = .ok (.iastore, 1) := by decide +kernel
theorem dX4_payDues_81 : decode cX4_payDues 81 = .ok (.iinc 4 1, 3) := by decide +kernel
theorem dX4_payDues_84 : decode cX4_payDues 84 = .ok (.goto (-21), 3) := by decide +kernel
theorem dX4_payDues_87 : decode cX4_payDues 87 = .ok (.iinc 2 1, 3) := by decide +kernel
theorem dX4_payDues_90 : decode cX4_payDues 90 = .ok (.goto (-88), 3) := by decide +kernel
theorem dX4_payDues_93 : decode cX4_payDues 93 = .ok (.return_, 1) := by decide +kernel
theorem dX4_chooseSteps_0 : decode cX4_chooseSteps 0 = .ok (.aload_n 0, 1) := by decide +kernel
theorem dX4_chooseSteps_1 : decode cX4_chooseSteps 1 = .ok (.getfield 23, 3) := by decide +kernel
theorem dX4_chooseSteps_4 : decode cX4_chooseSteps 4 = .ok (.getfield 86, 3) := by decide +kernel
theorem dX4_chooseSteps_7 : decode cX4_chooseSteps 7 = .ok (.iconst 0, 1) := by decide +kernel
theorem dX4_chooseSteps_8 : decode cX4_chooseSteps 8 = .ok (.iaload, 1) := by decide +kernel
theorem dX4_chooseSteps_9 : decode cX4_chooseSteps 9 = .ok (.istore_n 3, 1) := by decide +kernel
theorem dX4_chooseSteps_10 : decode cX4_chooseSteps 10 = .ok (.iload_n 3, 1) := by decide +kernel
theorem dX4_chooseSteps_11 : decode cX4_chooseSteps 11 = .ok (.iload_n 1, 1) := by decide +kernel
theorem dX4_chooseSteps_12 : decode cX4_chooseSteps 12 = .ok (.imul, 1) := by decide +kernel
theorem dX4_chooseSteps_13 : decode cX4_chooseSteps 13 = .ok (.iconst 1, 1) := by decide +kernel
theorem dX4_chooseSteps_14 : decode cX4_chooseSteps 14 = .ok (.iadd, 1) := by decide +kernel
theorem dX4_chooseSteps_15 : decode cX4_chooseSteps 15 = .ok (.iload_n 2, 1) := by decide +kernel
theorem dX4_chooseSteps_16 : decode cX4_chooseSteps 16 = .ok (.invokestatic 39, 3) := by decide +kernel
theorem dX4_chooseSteps_19 : decode cX4_chooseSteps 19 = .ok (.istore 4, 2) := by decide +kernel
theorem dX4_chooseSteps_21 : decode cX4_chooseSteps 21 = .ok (.iconst 0, 1) := by decide +kernel
theorem dX4_chooseSteps_22 : decode cX4_chooseSteps 22 = .ok (.istore 5, 2) := by decide +kernel
theorem dX4_chooseSteps_24 : decode cX4_chooseSteps 24 = .ok (.iload 5, 2) := by decide +kernel
theorem dX4_chooseSteps_26 : decode cX4_chooseSteps 26 = .ok (.iload 4, 2) := by decide +kernel
theorem dX4_chooseSteps_28 : decode cX4_chooseSteps 28 = .ok (.if_icmp .gt 94, 3) := by decide +kernel
theorem dX4_chooseSteps_31 : decode cX4_chooseSteps 31 = .ok (.aload_n 0, 1) := by decide +kernel
theorem dX4_chooseSteps_32 : decode cX4_chooseSteps 32 = .ok (.getfield 11, 3) := by decide +kernel
theorem dX4_chooseSteps_35 : decode cX4_chooseSteps 35 = .ok (.iload 5, 2) := by decide +kernel
theorem dX4_chooseSteps_37 : decode cX4_chooseSteps 37 = .ok (.iaload, 1) := by decide +kernel
theorem dX4_chooseSteps_38 : decode cX4_chooseSteps 38 = .ok (.istore 6, 2) := by decide +kernel
theorem dX4_chooseSteps_40 : decode cX4_chooseSteps 40 = .ok (.iconst 0, 1) := by decide +kernel
theorem dX4_chooseSteps_41 : decode cX4_chooseSteps 41 = .ok (.istore 7, 2) := by decide +kernel
theorem dX4_chooseSteps_43 : decode cX4_chooseSteps 43 = .ok (.iconst 1, 1) := by decide +kernel
theorem dX4_chooseSteps_44 : decode cX4_chooseSteps 44 = .ok (.istore 8, 2) := by decide +kernel
theorem dX4_chooseSteps_46 : decode cX4_chooseSteps 46 = .ok (.iload 8, 2) := by decide +kernel
theorem dX4_chooseSteps_48 : decode cX4_chooseSteps 48 = .ok (.iload_n 3, 1) := by decide +kernel
theorem dX4_chooseSteps_49 : decode cX4_chooseSteps 49 = .ok (.if_icmp .gt 49, 3) := by decide +kernel
theorem dX4_chooseSteps_52 : decode cX4_chooseSteps 52 = .ok (.aload_n 0, 1) := by decide +kernel
theorem dX4_chooseSteps_53 : decode cX4_chooseSteps 53 = .ok (.getfield 11, 3) := by decide +kernel
theorem dX4_chooseSteps_56 : decode cX4_chooseSteps 56 = .ok (.iload 5, 2) := by decide +kernel
theorem dX4_chooseSteps_58 : decode cX4_chooseSteps 58 = .ok (.iload 8, 2) := by decide +kernel
theorem dX4_chooseSteps_60 : decode cX4_chooseSteps 60 = .ok (.iadd, 1) := by decide +kernel
theorem dX4_chooseSteps_61 : decode cX4_chooseSteps 61 = .ok (.bipush 99, 2) := by decide +kernel
theorem dX4_chooseSteps_63 : decode cX4_chooseSteps 63 = .ok (.invokestatic 39, 3) := by decide +kernel
theorem dX4_chooseSteps_66 : decode cX4_chooseSteps 66 = .ok (.iaload, 1) := by decide +kernel
theorem dX4_chooseSteps_67 : decode cX4_chooseSteps 67 = .ok (.aload_n 0, 1) := by decide +kernel
theorem dX4_chooseSteps_68 : decode cX4_chooseSteps 68 = .ok (.getfield 44, 3) := by decide +kernel
theorem dX4_chooseSteps_71 : decode cX4_chooseSteps 71 = .ok (.iload 8, 2) := by decide +kernel
theorem dX4_chooseSteps_73 : decode cX4_chooseSteps 73 = .ok (.imul, 1) := by decide +kernel
theorem dX4_chooseSteps_74 : decode cX4_chooseSteps 74 = .ok (.isub, 1) := by decide +kernel
theorem dX4_chooseSteps_75 : decode cX4_chooseSteps 75 = .ok (.istore 9, 2) := by decide +kernel
theorem dX4_chooseSteps_77 : decode cX4_chooseSteps 77 = .ok (.iload 9, 2) := by decide +kernel
theorem dX4_chooseSteps_79 : decode cX4_chooseSteps 79 = .ok (.iload 6, 2) := by decide +kernel
theorem dX4_chooseSteps_81 : decode cX4_chooseSteps 81 = .ok (.if_icmp .le 11, 3) := by decide +kernel
theorem dX4_chooseSteps_84 : decode cX4_chooseSteps 84 = .ok (.iload 9, 2) := by decide +kernel
theorem dX4_chooseSteps_86 : decode cX4_chooseSteps 86 = .ok (.istore 6, 2) := by decide +kernel
theorem dX4_chooseSteps_88 : decode cX4_chooseSteps 88 = .ok (.iload 8, 2) := by decide +kernel
theorem dX4_chooseSteps_90 : decode cX4_chooseSteps 90 = .ok (.istore 7, 2) := by decide +kernel
theorem dX4_chooseSteps_92 : decode cX4_chooseSteps 92 = .ok (.iinc 8 1, 3) := by decide +kernel
theorem dX4_chooseSteps_95 : decode cX4_chooseSteps 95 = .ok (.goto (-49), 3) := by decide +kernel
theorem dX4_chooseSteps_98 : decode cX4_chooseSteps 98 = .ok (.aload_n 0, 1) := by decide +kernel
theorem dX4_chooseSteps_99 : decode cX4_chooseSteps 99 = .ok (.getfield 11, 3) := by decide +kernel
theorem dX4_chooseSteps_102 : decode cX4_chooseSteps 102 = .ok (.iload 5, 2) := by decide +kernel
theorem dX4_chooseSteps_104 : decode cX4_chooseSteps 104 = .ok (.iload 6, 2) := by decide +kernel
theorem dX4_chooseSteps_106 : decode cX4_chooseSteps 106 = .ok (.iastore, 1) := by decide +kernel
theorem dX4_chooseSteps_107 : decode cX4_chooseSteps 107 = .ok (.aload_n 0, 1) := by decide +kernel
theorem dX4_chooseSteps_108 : decode cX4_chooseSteps 108 = .ok (.iload_n 1, 1) := by decide +kernel
theorem dX4_chooseSteps_109 : decode cX4_chooseSteps 109 = .ok (.iload 5, 2) := by decide +kernel
theorem dX4_chooseSteps_111 : decode cX4_chooseSteps 111 = .ok (.iload 7, 2) := by decide +kernel
theorem dX4_chooseSteps_113 : decode cX4_chooseSteps 113 = .ok (.invokevirtual 89, 3) := by decide +kernel
theorem dX4_chooseSteps_116 : decode cX4_chooseSteps 116 = .ok (.iinc 5 1, 3) := by decide +kernel
theorem dX4_chooseSteps_119 : decode cX4_chooseSteps 119 = .ok (.goto (-95), 3) := by decide +kernel
theorem dX4_chooseSteps_122 : decode cX4_chooseSteps 122 = .ok (.return_, 1) := by decide +kernel
theorem dX4_keepStep_0 : decode cX4_keepStep 0 = .ok (.iload_n 1, 1) := by decide +kernel
theorem dX4_keepStep_1 : decode cX4_keepStep 1 = .ok (.iconst 0, 1) := by decide +kernel
theorem dX4_keepStep_2 : decode cX4_keepStep 2 = .ok (.bipush 98, 2) := by decide +kernel
theorem dX4_keepStep_4 : decode cX4_keepStep 4 = .ok (.invokestatic 31, 3) := by decide +kernel
theorem dX4_keepStep_7 : decode cX4_keepStep 7 = .ok (.ifCond .eq 42, 3) := by decide +kernel
theorem dX4_keepStep_10 : decode cX4_keepStep 10 = .ok (.iload_n 2, 1) := by decide +kernel
theorem dX4_keepStep_11 : decode cX4_keepStep 11 = .ok (.iconst 0, 1) := by decide +kernel
theorem dX4_keepStep_12 : decode cX4_keepStep 12 = .ok (.bipush 99, 2) := by decide +kernel
theorem dX4_keepStep_14 : decode cX4_keepStep 14 = .ok (.invokestatic 31, 3) := by decide +kernel
theorem dX4_keepStep_17 : decode cX4_keepStep 17 = .ok (.ifCond .eq 32, 3) := by decide +kernel
theorem dX4_keepStep_20 : decode cX4_keepStep 20 = .ok (.iload_n 1, 1) := by decide +kernel
theorem dX4_keepStep_21 : decode cX4_keepStep 21 = .ok (.iconst 5, 1) := by decide +kernel
theorem dX4_keepStep_22 : decode cX4_keepStep 22 = .ok (.imul, 1) := by decide +kernel
theorem dX4_keepStep_23 : decode cX4_keepStep 23 = .ok (.iload_n 2, 1) := by decide +kernel
theorem dX4_keepStep_24 : decode cX4_keepStep 24 = .ok (.bipush 20, 2) := by decide +kernel
theorem dX4_keepStep_26 : decode cX4_keepStep 26 = .ok (.idiv, 1) := by decide +kernel
theorem dX4_keepStep_27 : decode cX4_keepStep 27 = .ok (.iadd, 1) := by decide +kernel
theorem dX4_keepStep_28 : decode cX4_keepStep 28 = .ok (.istore 4, 2) := by decide +kernel
theorem dX4_keepStep_30 : decode cX4_keepStep 30 = .ok (.aload_n 0, 1) := by decide +kernel
theorem dX4_keepStep_31 : decode cX4_keepStep 31 = .ok (.getfield 15, 3) := by decide +kernel
theorem dX4_keepStep_34 : decode cX4_keepStep 34 = .ok (.iload 4, 2) := by decide +kernel
theorem dX4_keepStep_36 : decode cX4_keepStep 36 = .ok (.dup2, 1) := by decide +kernel
theorem dX4_keepStep_37 : decode cX4_keepStep 37 = .ok (.laload, 1) := by decide +kernel
theorem dX4_keepStep_38 : decode cX4_keepStep 38 = .ok (.iload_n 3, 1) := by decide +kernel
theorem dX4_keepStep_39 : decode cX4_keepStep 39 = .ok (.i2l, 1) := by decide +kernel
theorem dX4_keepStep_40 : decode cX4_keepStep 40 = .ok (.iconst 3, 1) := by decide +kernel
theorem dX4_keepStep_41 : decode cX4_keepStep 41 = .ok (.iload_n 2, 1) := by decide +kernel
theorem dX4_keepStep_42 : decode cX4_keepStep 42 = .ok (.bipush 20, 2) := by decide +kernel
theorem dX4_keepStep_44 : decode cX4_keepStep 44 = .ok (.irem, 1) := by decide +kernel
theorem dX4_keepStep_45 : decode cX4_keepStep 45 = .ok (.imul, 1) := by decide +kernel
theorem dX4_keepStep_46 : decode cX4_keepStep 46 = .ok (.lshl, 1) := by decide +kernel
theorem dX4_keepStep_47 : decode cX4_keepStep 47 = .ok (.lor, 1) := by decide +kernel
theorem dX4_keepStep_48 : decode cX4_keepStep 48 = .ok (.lastore, 1) := by decide +kernel
theorem dX4_keepStep_49 : decode cX4_keepStep 49 = .ok (.return_, 1) := by decide +kernel
theorem dX4_stepAt_0 : decode cX4_stepAt 0 = .ok (.iload_n 1, 1) := by decide +kernel
theorem dX4_stepAt_1 : decode cX4_stepAt 1 = .ok (.iconst 0, 1) := by decide +kernel
theorem dX4_stepAt_2 : decode cX4_stepAt 2 = .ok (.bipush 98, 2) := by decide +kernel
theorem dX4_stepAt_4 : decode cX4_stepAt 4 = .ok (.invokestatic 31, 3) := by decide +kernel
theorem dX4_stepAt_7 : decode cX4_stepAt 7 = .ok (.ifCond .eq 13, 3) := by decide +kernel
theorem dX4_stepAt_10 : decode cX4_stepAt 10 = .ok (.iload_n 2, 1) := by decide +kernel
theorem dX4_stepAt_11 : decode cX4_stepAt 11 = .ok (.iconst 0, 1) := by decide +kernel
theorem dX4_stepAt_12 : decode cX4_stepAt 12 = .ok (.bipush 99, 2) := by decide +kernel
theorem dX4_stepAt_14 : decode cX4_stepAt 14 = .ok (.invokestatic 31, 3) := by decide +kernel
theorem dX4_stepAt_17 : decode cX4_stepAt 17 = .ok (.ifCond .ne 5, 3) := by decide +kernel
theorem dX4_stepAt_20 : decode cX4_stepAt 20 = .ok (.iconst 0, 1) := by decide +kernel
theorem dX4_stepAt_21 : decode cX4_stepAt 21 = .ok (.ireturn, 1) := by decide +kernel
theorem dX4_stepAt_22 : decode cX4_stepAt 22 = .ok (.iload_n 1, 1) := by decide +kernel
theorem dX4_stepAt_23 : decode cX4_stepAt 23 = .ok (.iconst 5, 1) := by decide +kernel
theorem dX4_stepAt_24 : decode cX4_stepAt 24 = .ok (.imul, 1) := by decide +kernel
theorem dX4_stepAt_25 : decode cX4_stepAt 25 = .ok (.iload_n 2, 1) := by decide +kernel
theorem dX4_stepAt_26 : decode cX4_stepAt 26 = .ok (.bipush 20, 2) := by decide +kernel
theorem dX4_stepAt_28 : decode cX4_stepAt 28 = .ok (.idiv, 1) := by decide +kernel
theorem dX4_stepAt_29 : decode cX4_stepAt 29 = .ok (.iadd, 1) := by decide +kernel
theorem dX4_stepAt_30 : decode cX4_stepAt 30 = .ok (.istore_n 3, 1) := by decide +kernel
theorem dX4_stepAt_31 : decode cX4_stepAt 31 = .ok (.aload_n 0, 1) := by decide +kernel
theorem dX4_stepAt_32 : decode cX4_stepAt 32 = .ok (.getfield 15, 3) := by decide +kernel
theorem dX4_stepAt_35 : decode cX4_stepAt 35 = .ok (.iload_n 3, 1) := by decide +kernel
theorem dX4_stepAt_36 : decode cX4_stepAt 36 = .ok (.laload, 1) := by decide +kernel
theorem dX4_stepAt_37 : decode cX4_stepAt 37 = .ok (.iconst 3, 1) := by decide +kernel
theorem dX4_stepAt_38 : decode cX4_stepAt 38 = .ok (.iload_n 2, 1) := by decide +kernel
theorem dX4_stepAt_39 : decode cX4_stepAt 39 = .ok (.bipush 20, 2) := by decide +kernel
theorem dX4_stepAt_41 : decode cX4_stepAt 41 = .ok (.irem, 1) := by decide +kernel
theorem dX4_stepAt_42 : decode cX4_stepAt 42 = .ok (.imul, 1) := by decide +kernel
theorem dX4_stepAt_43 : decode cX4_stepAt 43 = .ok (.lshr, 1) := by decide +kernel
theorem dX4_stepAt_44 : decode cX4_stepAt 44 = .ok (.l2i, 1) := by decide +kernel
theorem dX4_stepAt_45 : decode cX4_stepAt 45 = .ok (.bipush 7, 2) := by decide +kernel
theorem dX4_stepAt_47 : decode cX4_stepAt 47 = .ok (.iand, 1) := by decide +kernel
theorem dX4_stepAt_48 : decode cX4_stepAt 48 = .ok (.ireturn, 1) := by decide +kernel
theorem dX5_init_0 : decode cX5_init 0 = .ok (.aload_n 0, 1) := by decide +kernel
theorem dX5_init_1 : decode cX5_init 1 = .ok (.invokespecial 3, 3) := by decide +kernel
theorem dX5_init_4 : decode cX5_init 4 = .ok (.aload_n 0, 1) := by decide +kernel
theorem dX5_init_5 : decode cX5_init 5 = .ok (.bipush 21, 2) := by decide +kernel
theorem dX5_init_7 : decode cX5_init 7 = .ok (.newarray .int, 2) := by decide +kernel
theorem dX5_init_9 : decode cX5_init 9 = .ok (.putfield 11, 3) := by decide +kernel
theorem dX5_init_12 : decode cX5_init 12 = .ok (.aload_n 0, 1) := by decide +kernel
theorem dX5_init_13 : decode cX5_init 13 = .ok (.bipush 21, 2) := by decide +kernel
theorem dX5_init_15 : decode cX5_init 15 = .ok (.newarray .int, 2) := by decide +kernel
theorem dX5_init_17 : decode cX5_init 17 = .ok (.putfield 15, 3) := by decide +kernel
theorem dX5_init_20 : decode cX5_init 20 = .ok (.aload_n 0, 1) := by decide +kernel
theorem dX5_init_21 : decode cX5_init 21 = .ok (.bipush 40, 2) := by decide +kernel
theorem dX5_init_23 : decode cX5_init 23 = .ok (.newarray .int, 2) := by decide +kernel
theorem dX5_init_25 : decode cX5_init 25 = .ok (.putfield 18, 3) := by decide +kernel
theorem dX5_init_28 : decode cX5_init 28 = .ok (.return_, 1) := by decide +kernel
theorem dX5_play_0 : decode cX5_play 0 = .ok (.aload_n 1, 1) := by decide +kernel
theorem dX5_play_1 : decode cX5_play 1 = .ok (.ifnull 29, 3) := by decide +kernel
theorem dX5_play_4 : decode cX5_play 4 = .ok (.aload_n 1, 1) := by decide +kernel
theorem dX5_play_5 : decode cX5_play 5 = .ok (.arraylength, 1) := by decide +kernel
theorem dX5_play_6 : decode cX5_play 6 = .ok (.iconst 4, 1) := by decide +kernel
theorem dX5_play_7 : decode cX5_play 7 = .ok (.if_icmp .le 23, 3) := by decide +kernel
theorem dX5_play_10 : decode cX5_play 10 = .ok (.iload_n 2, 1) := by decide +kernel
theorem dX5_play_11 : decode cX5_play 11 = .ok (.iconst 0, 1) := by decide +kernel
theorem dX5_play_12 : decode cX5_play 12 = .ok (.bipush 40, 2) := by decide +kernel
theorem dX5_play_14 : decode cX5_play 14 = .ok (.invokestatic 21, 3) := by decide +kernel
theorem dX5_play_17 : decode cX5_play 17 = .ok (.ifCond .eq 13, 3) := by decide +kernel
theorem dX5_play_20 : decode cX5_play 20 = .ok (.iload_n 3, 1) := by decide +kernel
theorem dX5_play_21 : decode cX5_play 21 = .ok (.iconst 1, 1) := by decide +kernel
theorem dX5_play_22 : decode cX5_play 22 = .ok (.bipush 20, 2) := by decide +kernel
theorem dX5_play_24 : decode cX5_play 24 = .ok (.invokestatic 21, 3) := by decide +kernel
theorem dX5_play_27 : decode cX5_play 27 = .ok (.ifCond .ne 4, 3) := by decide +kernel
theorem dX5_play_30 : decode cX5_play 30 = .ok (.return_, 1) := by decide +kernel
theorem dX5_play_31 : decode cX5_play 31 = .ok (.aload_n 0, 1) := by decide +kernel
theorem dX5_play_32 : decode cX5_play 32 = .ok (.getfield 11, 3) := by decide +kernel
theorem dX5_play_35 : decode cX5_play 35 = .ok (.iconst 0, 1) := by decide +kernel
theorem dX5_play_36 : decode cX5_play 36 = .ok (.invokestatic 25, 3) := by decide +kernel
theorem dX5_play_39 : decode cX5_play 39 = .ok (.aload_n 0, 1) := by decide +kernel
theorem dX5_play_40 : decode cX5_play 40 = .ok (.getfield 15, 3) := by decide +kernel
theorem dX5_play_43 : decode cX5_play 43 = .ok (.iconst 0, 1) := by decide +kernel
theorem dX5_play_44 : decode cX5_play 44 = .ok (.invokestatic 25, 3) := by decide +kernel
theorem dX5_play_47 : decode cX5_play 47 = .ok (.aload_n 0, 1) := by decide +kernel
theorem dX5_play_48 : decode cX5_play 48 = .ok (.getfield 11, 3) := by decide +kernel
theorem dX5_play_51 : decode cX5_play 51 = .ok (.iload_n 3, 1) := by decide +kernel
theorem dX5_play_52 : decode cX5_play 52 = .ok (.aload_n 1, 1) := by decide +kernel
theorem dX5_play_53 : decode cX5_play 53 = .ok (.iconst 2, 1) := by decide +kernel
theorem dX5_play_54 : decode cX5_play 54 = .ok (.iaload, 1) := by decide +kernel
theorem dX5_play_55 : decode cX5_play 55 = .ok (.iastore, 1) := by decide +kernel
theorem dX5_play_56 : decode cX5_play 56 = .ok (.aload_n 0, 1) := by decide +kernel
theorem dX5_play_57 : decode cX5_play 57 = .ok (.getfield 15, 3) := by decide +kernel
theorem dX5_play_60 : decode cX5_play 60 = .ok (.iload_n 3, 1) := by decide +kernel
theorem dX5_play_61 : decode cX5_play 61 = .ok (.aload_n 1, 1) := by decide +kernel
theorem dX5_play_62 : decode cX5_play 62 = .ok (.iconst 3, 1) := by decide +kernel
theorem dX5_play_63 : decode cX5_play 63 = .ok (.iaload, 1) := by decide +kernel
theorem dX5_play_64 : decode cX5_play 64 = .ok (.iastore, 1) := by decide +kernel
theorem dX5_play_65 : decode cX5_play 65 = .ok (.iload_n 2, 1) := by decide +kernel
theorem dX5_play_66 : decode cX5_play 66 = .ok (.iconst 1, 1) := by decide +kernel
theorem dX5_play_67 : decode cX5_play 67 = .ok (.isub, 1) := by decide +kernel
theorem dX5_play_68 : decode cX5_play 68 = .ok (.istore 4, 2) := by decide +kernel
theorem dX5_play_70 : decode cX5_play 70 = .ok (.iload 4, 2) := by decide +kernel
theorem dX5_play_72 : decode cX5_play 72 = .ok (.ifCond .lt 17, 3) := by decide +kernel
theorem dX5_play_75 : decode cX5_play 75 = .ok (.aload_n 0, 1) := by decide +kernel
theorem dX5_play_76 : decode cX5_play 76 = .ok (.aload_n 1, 1) := by decide +kernel
theorem dX5_play_77 : decode cX5_play 77 = .ok (.iload 4, 2) := by decide +kernel
theorem dX5_play_79 : decode cX5_play 79 = .ok (.iload_n 3, 1) := by decide +kernel
theorem dX5_play_80 : decode cX5_play 80 = .ok (.invokevirtual 31, 3) := by decide +kernel
theorem dX5_play_83 : decode cX5_play 83 = .ok (.iinc 4 (-1), 3) := by decide +kernel
theorem dX5_play_86 : decode cX5_play 86 = .ok (.goto (-16), 3) := by decide +kernel
theorem dX5_play_89 : decode cX5_play 89 = .ok (.aload_n 0, 1) := by decide +kernel
theorem dX5_play_90 : decode cX5_play 90 = .ok (.iconst (-1), 1) := by decide +kernel
theorem dX5_play_91 : decode cX5_play 91 = .ok (.putfield 35, 3) := by decide +kernel
theorem dX5_play_94 : decode cX5_play 94 = .ok (.aload_n 0, 1) := by decide +kernel
theorem dX5_play_95 : decode cX5_play 95 = .ok (.iconst 0, 1) := by decide +kernel
theorem dX5_play_96 : decode cX5_play 96 = .ok (.putfield 39, 3) := by decide +kernel
theorem dX5_play_99 : decode cX5_play 99 = .ok (.iconst 0, 1) := by decide +kernel
theorem dX5_play_100 : decode cX5_play 100 = .ok (.istore 4, 2) := by decide +kernel
theorem dX5_play_102 : decode cX5_play 102 = .ok (.iload 4, 2) := by decide +kernel
theorem dX5_play_104 : decode cX5_play 104 = .ok (.iload_n 2, 1) := by decide +kernel
theorem dX5_play_105 : decode cX5_play 105 = .ok (.if_icmp .ge 65, 3) := by decide +kernel
theorem dX5_play_108 : decode cX5_play 108 = .ok (.aload_n 0, 1) := by decide +kernel
theorem dX5_play_109 : decode cX5_play 109 = .ok (.getfield 39, 3) := by decide +kernel
theorem dX5_play_112 : decode cX5_play 112 = .ok (.iload_n 3, 1) := by decide +kernel
theorem dX5_play_113 : decode cX5_play 113 = .ok (.if_icmp .ge 57, 3) := by decide +kernel
theorem dX5_play_116 : decode cX5_play 116 = .ok (.aload_n 0, 1) := by decide +kernel
theorem dX5_play_117 : decode cX5_play 117 = .ok (.getfield 18, 3) := by decide +kernel
theorem dX5_play_120 : decode cX5_play 120 = .ok (.iload 4, 2) := by decide +kernel
theorem dX5_play_122 : decode cX5_play 122 = .ok (.iaload, 1) := by decide +kernel
theorem dX5_play_123 : decode cX5_play 123 = .ok (.aload_n 0, 1) := by decide +kernel
theorem dX5_play_124 : decode cX5_play 124 = .ok (.getfield 39, 3) := by decide +kernel
theorem dX5_play_127 : decode cX5_play 127 = .ok (.ishr, 1) := by decide +kernel
theorem dX5_play_128 : decode cX5_play 128 = .ok (.iconst 1, 1) := by decide +kernel
theorem dX5_play_129 : decode cX5_play 129 = .ok (.iand, 1) := by decide +kernel
theorem dX5_play_130 : decode cX5_play 130 = .ok (.ifCond .eq 34, 3) := by decide +kernel
theorem dX5_play_133 : decode cX5_play 133 = .ok (.aload_n 0, 1) := by decide +kernel
theorem dX5_play_134 : decode cX5_play 134 = .ok (.aload_n 0, 1) := by decide +kernel
theorem dX5_play_135 : decode cX5_play 135 = .ok (.getfield 35, 3) := by decide +kernel
theorem dX5_play_138 : decode cX5_play 138 = .ok (.iconst (-1), 1) := by decide +kernel
theorem dX5_play_139 : decode cX5_play 139 = .ok (.if_icmp .ne 8, 3) := by decide +kernel
theorem dX5_play_142 : decode cX5_play 142 = .ok (.iload 4, 2) := by decide +kernel
theorem dX5_play_144 : decode cX5_play 144 = .ok (.goto 7, 3) := by decide +kernel
theorem dX5_play_147 : decode cX5_play 147 = .ok (.aload_n 0, 1) := by decide +kernel
theorem dX5_play_148 : decode cX5_play 148 = .ok (.getfield 35, 3) := by decide +kernel
theorem dX5_play_151 : decode cX5_play 151 = .ok (.putfield 35, 3) := by decide +kernel
theorem dX5_play_154 : decode cX5_play 154 = .ok (.aload_n 0, 1) := by decide +kernel
theorem dX5_play_155 : decode cX5_play 155 = .ok (.dup, 1) := by decide +kernel
theorem dX5_play_156 : decode cX5_play 156 = .ok (.getfield 39, 3) := by decide +kernel
theorem dX5_play_159 : decode cX5_play 159 = .ok (.iconst 1, 1) := by decide +kernel
theorem dX5_play_160 : decode cX5_play 160 = .ok (.iadd, 1) := by decide +kernel
theorem dX5_play_161 : decode cX5_play 161 = .ok (.putfield 39, 3) := by decide +kernel
theorem dX5_play_164 : decode cX5_play 164 = .ok (.iinc 4 1, 3) := by decide +kernel
theorem dX5_play_167 : decode cX5_play 167 = .ok (.goto (-65), 3) := by decide +kernel
theorem dX5_play_170 : decode cX5_play 170 = .ok (.return_, 1) := by decide +kernel
theorem dX5_end_0 : decode cX5_end 0 = .ok (.iload_n 1, 1) := by decide +kernel
theorem dX5_end_1 : decode cX5_end 1 = .ok (.tableswitch 46 0 2 #[27, 34, 41], 27) := by decide +kernel
theorem dX5_end_28 : decode cX5_end 28 = .ok (.aload_n 0, 1) := by decide +kernel
theorem dX5_end_29 : decode cX5_end 29 = .ok (.getfield 11, 3) := by decide +kernel
theorem dX5_end_32 : decode cX5_end 32 = .ok (.iconst 0, 1) := by decide +kernel
theorem dX5_end_33 : decode cX5_end 33 = .ok (.iaload, 1) := by decide +kernel
theorem dX5_end_34 : decode cX5_end 34 = .ok (.ireturn, 1) := by decide +kernel
theorem dX5_end_35 : decode cX5_end 35 = .ok (.aload_n 0, 1) := by decide +kernel
theorem dX5_end_36 : decode cX5_end 36 = .ok (.getfield 15, 3) := by decide +kernel
theorem dX5_end_39 : decode cX5_end 39 = .ok (.iconst 0, 1) := by decide +kernel
theorem dX5_end_40 : decode cX5_end 40 = .ok (.iaload, 1) := by decide +kernel
theorem dX5_end_41 : decode cX5_end 41 = .ok (.ireturn, 1) := by decide +kernel
theorem dX5_end_42 : decode cX5_end 42 = .ok (.aload_n 0, 1) := by decide +kernel
theorem dX5_end_43 : decode cX5_end 43 = .ok (.getfield 35, 3) := by decide +kernel
theorem dX5_end_46 : decode cX5_end 46 = .ok (.ireturn, 1) := by decide +kernel
theorem dX5_end_47 : decode cX5_end 47 = .ok (.aload_n 0, 1) := by decide +kernel
theorem dX5_end_48 : decode cX5_end 48 = .ok (.getfield 39, 3) := by decide +kernel
theorem dX5_end_51 : decode cX5_end 51 = .ok (.ireturn, 1) := by decide +kernel
theorem dX5_weigh_0 : decode cX5_weigh 0 = .ok (.iload_n 2, 1) := by decide +kernel
theorem dX5_weigh_1 : decode cX5_weigh 1 = .ok (.iconst 2, 1) := by decide +kernel
theorem dX5_weigh_2 : decode cX5_weigh 2 = .ok (.irem, 1) := by decide +kernel
theorem dX5_weigh_3 : decode cX5_weigh 3 = .ok (.ifCond .ne 7, 3) := by decide +kernel
theorem dX5_weigh_6 : decode cX5_weigh 6 = .ok (.iconst 1, 1) := by decide +kernel
theorem dX5_weigh_7 : decode cX5_weigh 7 = .ok (.goto 4, 3) := by decide +kernel
theorem dX5_weigh_10 : decode cX5_weigh 10 = .ok (.iconst 0, 1) := by decide +kernel
theorem dX5_weigh_11 : decode cX5_weigh 11 = .ok (.istore 4, 2) := by decide +kernel
theorem dX5_weigh_13 : decode cX5_weigh 13 = .ok (.aload_n 0, 1) := by decide +kernel
theorem dX5_weigh_14 : decode cX5_weigh 14 = .ok (.getfield 18, 3) := by decide +kernel
theorem dX5_weigh_17 : decode cX5_weigh 17 = .ok (.iload_n 2, 1) := by decide +kernel
theorem dX5_weigh_18 : decode cX5_weigh 18 = .ok (.iconst 0, 1) := by decide +kernel
theorem dX5_weigh_19 : decode cX5_weigh 19 = .ok (.iastore, 1) := by decide +kernel
theorem dX5_weigh_20 : decode cX5_weigh 20 = .ok (.iconst 0, 1) := by decide +kernel
theorem dX5_weigh_21 : decode cX5_weigh 21 = .ok (.istore 5, 2) := by decide +kernel
theorem dX5_weigh_23 : decode cX5_weigh 23 = .ok (.iload 5, 2) := by decide +kernel
theorem dX5_weigh_25 : decode cX5_weigh 25 = .ok (.iload_n 3, 1) := by decide +kernel
theorem dX5_weigh_26 : decode cX5_weigh 26 = .ok (.if_icmp .ge 173, 3) := by decide +kernel
theorem dX5_weigh_29 : decode cX5_weigh 29 = .ok (.aload_n 0, 1) := by decide +kernel
theorem dX5_weigh_30 : decode cX5_weigh 30 = .ok (.getfield 11, 3) := by decide +kernel
theorem dX5_weigh_33 : decode cX5_weigh 33 = .ok (.iload 5, 2) := by decide +kernel
theorem dX5_weigh_35 : decode cX5_weigh 35 = .ok (.iaload, 1) := by decide +kernel
theorem dX5_weigh_36 : decode cX5_weigh 36 = .ok (.aload_n 1, 1) := by decide +kernel
theorem dX5_weigh_37 : decode cX5_weigh 37 = .ok (.iconst 0, 1) := by decide +kernel
theorem dX5_weigh_38 : decode cX5_weigh 38 = .ok (.iaload, 1) := by decide +kernel
theorem dX5_weigh_39 : decode cX5_weigh 39 = .ok (.isub, 1) := by decide +kernel
theorem dX5_weigh_40 : decode cX5_weigh 40 = .ok (.istore 6, 2) := by decide +kernel
theorem dX5_weigh_42 : decode cX5_weigh 42 = .ok (.aload_n 0, 1) := by decide +kernel
theorem dX5_weigh_43 : decode cX5_weigh 43 = .ok (.getfield 15, 3) := by decide +kernel
theorem dX5_weigh_46 : decode cX5_weigh 46 = .ok (.iload 5, 2) := by decide +kernel
theorem dX5_weigh_48 : decode cX5_weigh 48 = .ok (.iaload, 1) := by decide +kernel
theorem dX5_weigh_49 : decode cX5_weigh 49 = .ok (.aload_n 1, 1) := by decide +kernel
theorem dX5_weigh_50 : decode cX5_weigh 50 = .ok (.iconst 1, 1) := by decide +kernel
theorem dX5_weigh_51 : decode cX5_weigh 51 = .ok (.iaload, 1) := by decide +kernel
theorem dX5_weigh_52 : decode cX5_weigh 52 = .ok (.isub, 1) := by decide +kernel
theorem dX5_weigh_53 : decode cX5_weigh 53 = .ok (.istore 7, 2) := by decide +kernel
theorem dX5_weigh_55 : decode cX5_weigh 55 = .ok (.aload_n 0, 1) := by decide +kernel
theorem dX5_weigh_56 : decode cX5_weigh 56 = .ok (.getfield 11, 3) := by decide +kernel
theorem dX5_weigh_59 : decode cX5_weigh 59 = .ok (.iload 5, 2) := by decide +kernel
theorem dX5_weigh_61 : decode cX5_weigh 61 = .ok (.iconst 1, 1) := by decide +kernel
theorem dX5_weigh_62 : decode cX5_weigh 62 = .ok (.iadd, 1) := by decide +kernel
theorem dX5_weigh_63 : decode cX5_weigh 63 = .ok (.iaload, 1) := by decide +kernel
theorem dX5_weigh_64 : decode cX5_weigh 64 = .ok (.iload 4, 2) := by decide +kernel
theorem dX5_weigh_66 : decode cX5_weigh 66 = .ok (.ifCond .eq 9, 3) := by decide +kernel
theorem dX5_weigh_69 : decode cX5_weigh 69 = .ok (.aload_n 1, 1) := by decide +kernel
theorem dX5_weigh_70 : decode cX5_weigh 70 = .ok (.iconst 4, 1) := by decide +kernel
theorem dX5_weigh_71 : decode cX5_weigh 71 = .ok (.iaload, 1) := by decide +kernel
theorem dX5_weigh_72 : decode cX5_weigh 72 = .ok (.goto 4, 3) := by decide +kernel
theorem dX5_weigh_75 : decode cX5_weigh 75 = .ok (.iconst 0, 1) := by decide +kernel
theorem dX5_weigh_76 : decode cX5_weigh 76 = .ok (.isub, 1) := by decide +kernel
theorem dX5_weigh_77 : decode cX5_weigh 77 = .ok (.istore 8, 2) := by decide +kernel
theorem dX5_weigh_79 : decode cX5_weigh 79 = .ok (.aload_n 0, 1) := by decide +kernel
theorem dX5_weigh_80 : decode cX5_weigh 80 = .ok (.getfield 15, 3) := by decide +kernel
theorem dX5_weigh_83 : decode cX5_weigh 83 = .ok (.iload 5, 2) := by decide +kernel
theorem dX5_weigh_85 : decode cX5_weigh 85 = .ok (.iconst 1, 1) := by decide +kernel
theorem dX5_weigh_86 : decode cX5_weigh 86 = .ok (.iadd, 1) := by decide +kernel
theorem dX5_weigh_87 : decode cX5_weigh 87 = .ok (.iaload, 1) := by decide +kernel
theorem dX5_weigh_88 : decode cX5_weigh 88 = .ok (.iload 4, 2) := by decide +kernel
theorem dX5_weigh_90 : decode cX5_weigh 90 = .ok (.ifCond .eq 7, 3) := by decide +kernel
theorem dX5_weigh_93 : decode cX5_weigh 93 = .ok (.iconst 0, 1) := by decide +kernel
theorem dX5_weigh_94 : decode cX5_weigh 94 = .ok (.goto 6, 3) := by decide +kernel
theorem dX5_weigh_97 : decode cX5_weigh 97 = .ok (.aload_n 1, 1) := by decide +kernel
theorem dX5_weigh_98 : decode cX5_weigh 98 = .ok (.iconst 4, 1) := by decide +kernel
theorem dX5_weigh_99 : decode cX5_weigh 99 = .ok (.iaload, 1) := by decide +kernel
theorem dX5_weigh_100 : decode cX5_weigh 100 = .ok (.isub, 1) := by decide +kernel
theorem dX5_weigh_101 : decode cX5_weigh 101 = .ok (.istore 9, 2) := by decide +kernel
theorem dX5_weigh_103 : decode cX5_weigh 103 = .ok (.iload 4, 2) := by decide +kernel
theorem dX5_weigh_105 : decode cX5_weigh 105 = .ok (.ifCond .eq 18, 3) := by decide +kernel
theorem dX5_weigh_108 : decode cX5_weigh 108 = .ok (.iload 8, 2) := by decide +kernel
theorem dX5_weigh_110 : decode cX5_weigh 110 = .ok (.iload 6, 2) := by decide +kernel
theorem dX5_weigh_112 : decode cX5_weigh 112 = .ok (.if_icmp .le 7, 3) := by decide +kernel
theorem dX5_weigh_115 : decode cX5_weigh 115 = .ok (.iconst 1, 1) := by decide +kernel
theorem dX5_weigh_116 : decode cX5_weigh 116 = .ok (.goto 19, 3) := by decide +kernel
theorem dX5_weigh_119 : decode cX5_weigh 119 = .ok (.iconst 0, 1) := by decide +kernel
theorem dX5_weigh_120 : decode cX5_weigh 120 = .ok (.goto 15, 3) := by decide +kernel
theorem dX5_weigh_123 : decode cX5_weigh 123 = .ok (.iload 9, 2) := by decide +kernel
theorem dX5_weigh_125 : decode cX5_weigh 125 = .ok (.iload 7, 2) := by decide +kernel
theorem dX5_weigh_127 : decode cX5_weigh 127 = .ok (.if_icmp .le 7, 3) := by decide +kernel
theorem dX5_weigh_130 : decode cX5_weigh 130 = .ok (.iconst 1, 1) := by decide +kernel
theorem dX5_weigh_131 : decode cX5_weigh 131 = .ok (.goto 4, 3) := by decide +kernel
theorem dX5_weigh_134 : decode cX5_weigh 134 = .ok (.iconst 0, 1) := by decide +kernel
theorem dX5_weigh_135 : decode cX5_weigh 135 = .ok (.istore 10, 2) := by decide +kernel
theorem dX5_weigh_137 : decode cX5_weigh 137 = .ok (.aload_n 0, 1) := by decide +kernel
theorem dX5_weigh_138 : decode cX5_weigh 138 = .ok (.getfield 11, 3) := by decide +kernel
theorem dX5_weigh_141 : decode cX5_weigh 141 = .ok (.iload 5, 2) := by decide +kernel
theorem dX5_weigh_143 : decode cX5_weigh 143 = .ok (.iload 10, 2) := by decide +kernel
theorem dX5_weigh_145 : decode cX5_weigh 145 = .ok (.ifCond .eq 8, 3) := by decide +kernel
theorem dX5_weigh_148 : decode cX5_weigh 148 = .ok (.iload 8, 2) := by decide +kernel
theorem dX5_weigh_150 : decode cX5_weigh 150 = .ok (.goto 5, 3) := by decide +kernel
theorem dX5_weigh_153 : decode cX5_weigh 153 = .ok (.iload 6, 2) := by decide +kernel
theorem dX5_weigh_155 : decode cX5_weigh 155 = .ok (.iastore, 1) := by decide +kernel
theorem dX5_weigh_156 : decode cX5_weigh 156 = .ok (.aload_n 0, 1) := by decide +kernel
theorem dX5_weigh_157 : decode cX5_weigh 157 = .ok (.getfield 15, 3) := by decide +kernel
theorem dX5_weigh_160 : decode cX5_weigh 160 = .ok (.iload 5, 2) := by decide +kernel
theorem dX5_weigh_162 : decode cX5_weigh 162 = .ok (.iload 10, 2) := by decide +kernel
theorem dX5_weigh_164 : decode cX5_weigh 164 = .ok (.ifCond .eq 8, 3) := by decide +kernel
theorem dX5_weigh_167 : decode cX5_weigh 167 = .ok (.iload 9, 2) := by decide +kernel
theorem dX5_weigh_169 : decode cX5_weigh 169 = .ok (.goto 5, 3) := by decide +kernel
theorem dX5_weigh_172 : decode cX5_weigh 172 = .ok (.iload 7, 2) := by decide +kernel
theorem dX5_weigh_174 : decode cX5_weigh 174 = .ok (.iastore, 1) := by decide +kernel
theorem dX5_weigh_175 : decode cX5_weigh 175 = .ok (.iload 10, 2) := by decide +kernel
theorem dX5_weigh_177 : decode cX5_weigh 177 = .ok (.ifCond .eq 16, 3) := by decide +kernel
theorem dX5_weigh_180 : decode cX5_weigh 180 = .ok (.aload_n 0, 1) := by decide +kernel
theorem dX5_weigh_181 : decode cX5_weigh 181 = .ok (.getfield 18, 3) := by decide +kernel
theorem dX5_weigh_184 : decode cX5_weigh 184 = .ok (.iload_n 2, 1) := by decide +kernel
theorem dX5_weigh_185 : decode cX5_weigh 185 = .ok (.dup2, 1) := by decide +kernel
theorem dX5_weigh_186 : decode cX5_weigh 186 = .ok (.iaload, 1) := by decide +kernel
theorem dX5_weigh_187 : decode cX5_weigh 187 = .ok (.iconst 1, 1) := by decide +kernel
theorem dX5_weigh_188 : decode cX5_weigh 188 = .ok (.iload 5, 2) := by decide +kernel
theorem dX5_weigh_190 : decode cX5_weigh 190 = .ok (.ishl, 1) := by decide +kernel
theorem dX5_weigh_191 : decode cX5_weigh 191 = .ok (.ior, 1) := by decide +kernel
theorem dX5_weigh_192 : decode cX5_weigh 192 = .ok (.iastore, 1) := by decide +kernel
theorem dX5_weigh_193 : decode cX5_weigh 193 = .ok (.iinc 5 1, 3) := by decide +kernel
theorem dX5_weigh_196 : decode cX5_weigh 196 = .ok (.goto (-173), 3) := by decide +kernel
theorem dX5_weigh_199 : decode cX5_weigh 199 = .ok (.return_, 1) := by decide +kernel
theorem dX6_init_0 : decode cX6_init 0 = .ok (.aload_n 0, 1) := by decide +kernel
theorem dX6_init_1 : decode cX6_init 1 = .ok (.invokespecial 3, 3) := by decide +kernel
theorem dX6_init_4 : decode cX6_init 4 = .ok (.aload_n 0, 1) := by decide +kernel
theorem dX6_init_5 : decode cX6_init 5 = .ok (.iconst 3, 1) := by decide +kernel
theorem dX6_init_6 : decode cX6_init 6 = .ok (.newarray .int, 2) := by decide +kernel
theorem dX6_init_8 : decode cX6_init 8 = .ok (.putfield 9, 3) := by decide +kernel
theorem dX6_init_11 : decode cX6_init 11 = .ok (.aload_n 0, 1) := by decide +kernel
theorem dX6_init_12 : decode cX6_init 12 = .ok (.aload_n 1, 1) := by decide +kernel
theorem dX6_init_13 : decode cX6_init 13 = .ok (.putfield 15, 3) := by decide +kernel
theorem dX6_init_16 : decode cX6_init 16 = .ok (.aload_n 0, 1) := by decide +kernel
theorem dX6_init_17 : decode cX6_init 17 = .ok (.aload_n 2, 1) := by decide +kernel
theorem dX6_init_18 : decode cX6_init 18 = .ok (.putfield 19, 3) := by decide +kernel
theorem dX6_init_21 : decode cX6_init 21 = .ok (.return_, 1) := by decide +kernel
theorem dX6_readItems_0 : decode cX6_readItems 0 = .ok (.aload_n 0, 1) := by decide +kernel
theorem dX6_readItems_1 : decode cX6_readItems 1 = .ok (.iconst 0, 1) := by decide +kernel
theorem dX6_readItems_2 : decode cX6_readItems 2 = .ok (.putfield 23, 3) := by decide +kernel
theorem dX6_readItems_5 : decode cX6_readItems 5 = .ok (.aload_n 0, 1) := by decide +kernel
theorem dX6_readItems_6 : decode cX6_readItems 6 = .ok (.invokevirtual 27, 3) := by decide +kernel
theorem dX6_readItems_9 : decode cX6_readItems 9 = .ok (.iconst 0, 1) := by decide +kernel
theorem dX6_readItems_10 : decode cX6_readItems 10 = .ok (.istore_n 1, 1) := by decide +kernel
theorem dX6_readItems_11 : decode cX6_readItems 11 = .ok (.aload_n 0, 1) := by decide +kernel
theorem dX6_readItems_12 : decode cX6_readItems 12 = .ok (.getfield 30, 3) := by decide +kernel
theorem dX6_readItems_15 : decode cX6_readItems 15 = .ok (.ifCond .eq 35, 3) := by decide +kernel
theorem dX6_readItems_18 : decode cX6_readItems 18 = .ok (.iload_n 1, 1) := by decide +kernel
theorem dX6_readItems_19 : decode cX6_readItems 19 = .ok (.aload_n 0, 1) := by decide +kernel
theorem dX6_readItems_20 : decode cX6_readItems 20 = .ok (.getfield 15, 3) := by decide +kernel
theorem dX6_readItems_23 : decode cX6_readItems 23 = .ok (.invokevirtual 33, 3) := by decide +kernel
theorem dX6_readItems_26 : decode cX6_readItems 26 = .ok (.if_icmp .ge 24, 3) := by decide +kernel
theorem dX6_readItems_29 : decode cX6_readItems 29 = .ok (.aload_n 0, 1) := by decide +kernel
theorem dX6_readItems_30 : decode cX6_readItems 30 = .ok (.invokevirtual 39, 3) := by decide +kernel
theorem dX6_readItems_33 : decode cX6_readItems 33 = .ok (.ifCond .ne 11, 3) := by decide +kernel
theorem dX6_readItems_36 : decode cX6_readItems 36 = .ok (.bipush (-10), 2) := by decide +kernel
theorem dX6_readItems_38 : decode cX6_readItems 38 = .ok (.aload_n 0, 1) := by decide +kernel
theorem dX6_readItems_39 : decode cX6_readItems 39 = .ok (.getfield 43, 3) := by decide +kernel
theorem dX6_readItems_42 : decode cX6_readItems 42 = .ok (.isub, 1) := by decide +kernel
theorem dX6_readItems_43 : decode cX6_readItems 43 = .ok (.ireturn, 1) := by decide +kernel
theorem dX6_readItems_44 : decode cX6_readItems 44 = .ok (.iinc 1 1, 3) := by decide +kernel
theorem dX6_readItems_47 : decode cX6_readItems 47 = .ok (.goto (-36), 3) := by decide +kernel
theorem dX6_readItems_50 : decode cX6_readItems 50 = .ok (.iload_n 1, 1) := by decide +kernel
theorem dX6_readItems_51 : decode cX6_readItems 51 = .ok (.ireturn, 1) := by decide +kernel
theorem dX6_isItem_0 : decode cX6_isItem 0 = .ok (.aload_n 0, 1) := by decide +kernel
theorem dX6_isItem_1 : decode cX6_isItem 1 = .ok (.getfield 30, 3) := by decide +kernel
theorem dX6_isItem_4 : decode cX6_isItem 4 = .ok (.iconst 1, 1) := by decide +kernel
theorem dX6_isItem_5 : decode cX6_isItem 5 = .ok (.if_icmp .ne 10, 3) := by decide +kernel
theorem dX6_isItem_8 : decode cX6_isItem 8 = .ok (.aload_n 0, 1) := by decide +kernel
theorem dX6_isItem_9 : decode cX6_isItem 9 = .ok (.invokevirtual 46, 3) := by decide +kernel
theorem dX6_isItem_12 : decode cX6_isItem 12 = .ok (.goto 4, 3) := by decide +kernel
theorem dX6_isItem_15 : decode cX6_isItem 15 = .ok (.iconst (-1), 1) := by decide +kernel
theorem dX6_isItem_16 : decode cX6_isItem 16 = .ok (.istore_n 1, 1) := by decide +kernel
theorem dX6_isItem_17 : decode cX6_isItem 17 = .ok (.iload_n 1, 1) := by decide +kernel
theorem dX6_isItem_18 : decode cX6_isItem 18 = .ok (.iconst (-1), 1) := by decide +kernel
theorem dX6_isItem_19 : decode cX6_isItem 19 = .ok (.if_icmp .eq 22, 3) := by decide +kernel
theorem dX6_isItem_22 : decode cX6_isItem 22 = .ok (.iload_n 1, 1) := by decide +kernel
theorem dX6_isItem_23 : decode cX6_isItem 23 = .ok (.iconst 3, 1) := by decide +kernel
theorem dX6_isItem_24 : decode cX6_isItem 24 = .ok (.if_icmp .lt 19, 3) := by decide +kernel
theorem dX6_isItem_27 : decode cX6_isItem 27 = .ok (.aload_n 0, 1) := by decide +kernel
theorem dX6_isItem_28 : decode cX6_isItem 28 = .ok (.getfield 19, 3) := by decide +kernel
theorem dX6_isItem_31 : decode cX6_isItem 31 = .ok (.iload_n 1, 1) := by decide +kernel
theorem dX6_isItem_32 : decode cX6_isItem 32 = .ok (.invokevirtual 49, 3) := by decide +kernel
theorem dX6_isItem_35 : decode cX6_isItem 35 = .ok (.invokevirtual 55, 3) := by decide +kernel
theorem dX6_isItem_38 : decode cX6_isItem 38 = .ok (.ifCond .eq 5, 3) := by decide +kernel
theorem dX6_isItem_41 : decode cX6_isItem 41 = .ok (.iconst 0, 1) := by decide +kernel
theorem dX6_isItem_42 : decode cX6_isItem 42 = .ok (.ireturn, 1) := by decide +kernel
theorem dX6_isItem_43 : decode cX6_isItem 43 = .ok (.aload_n 0, 1) := by decide +kernel
theorem dX6_isItem_44 : decode cX6_isItem 44 = .ok (.invokevirtual 27, 3) := by decide +kernel
theorem dX6_isItem_47 : decode cX6_isItem 47 = .ok (.iconst 0, 1) := by decide +kernel
theorem dX6_isItem_48 : decode cX6_isItem 48 = .ok (.istore_n 2, 1) := by decide +kernel
theorem dX6_isItem_49 : decode cX6_isItem 49 = .ok (.iload_n 2, 1) := by decide +kernel
theorem dX6_isItem_50 : decode cX6_isItem 50 = .ok (.getstatic 58, 3) := by decide +kernel
theorem dX6_isItem_53 : decode cX6_isItem 53 = .ok (.iload_n 1, 1) := by decide +kernel
theorem dX6_isItem_54 : decode cX6_isItem 54 = .ok (.iaload, 1) := by decide +kernel
theorem dX6_isItem_55 : decode cX6_isItem 55 = .ok (.if_icmp .ge 111, 3) := by decide +kernel
theorem dX6_isItem_58 : decode cX6_isItem 58 = .ok (.iload_n 1, 1) := by decide +kernel
theorem dX6_isItem_59 : decode cX6_isItem 59 = .ok (.iconst 5, 1) := by decide +kernel
theorem dX6_isItem_60 : decode cX6_isItem 60 = .ok (.if_icmp .ne 20, 3) := by decide +kernel
theorem dX6_isItem_63 : decode cX6_isItem 63 = .ok (.iload_n 2, 1) := by decide +kernel
theorem dX6_isItem_64 : decode cX6_isItem 64 = .ok (.iconst 2, 1) := by decide +kernel
theorem dX6_isItem_65 : decode cX6_isItem 65 = .ok (.if_icmp .ne 15, 3) := by decide +kernel
theorem dX6_isItem_68 : decode cX6_isItem 68 = .ok (.aload_n 0, 1) := by decide +kernel
theorem dX6_isItem_69 : decode cX6_isItem 69 = .ok (.getfield 30, 3) := by decide +kernel
theorem dX6_isItem_72 : decode cX6_isItem 72 = .ok (.iconst 3, 1) := by decide +kernel
theorem dX6_isItem_73 : decode cX6_isItem 73 = .ok (.if_icmp .ne 7, 3) := by decide +kernel
theorem dX6_isItem_76 : decode cX6_isItem 76 = .ok (.iconst 1, 1) := by decide +kernel
theorem dX6_isItem_77 : decode cX6_isItem 77 = .ok (.goto 4, 3) := by decide +kernel
theorem dX6_isItem_80 : decode cX6_isItem 80 = .ok (.iconst 0, 1) := by decide +kernel
theorem dX6_isItem_81 : decode cX6_isItem 81 = .ok (.istore_n 3, 1) := by decide +kernel
theorem dX6_isItem_82 : decode cX6_isItem 82 = .ok (.iload_n 3, 1) := by decide +kernel
theorem dX6_isItem_83 : decode cX6_isItem 83 = .ok (.ifCond .eq 7, 3) := by decide +kernel
theorem dX6_isItem_86 : decode cX6_isItem 86 = .ok (.aload_n 0, 1) := by decide +kernel
theorem dX6_isItem_87 : decode cX6_isItem 87 = .ok (.invokevirtual 27, 3) := by decide +kernel
theorem dX6_isItem_90 : decode cX6_isItem 90 = .ok (.iload_n 3, 1) := by decide +kernel
theorem dX6_isItem_91 : decode cX6_isItem 91 = .ok (.ifCond .eq 11, 3) := by decide +kernel
theorem dX6_isItem_94 : decode cX6_isItem 94 = .ok (.aload_n 0, 1) := by decide +kernel
theorem dX6_isItem_95 : decode cX6_isItem 95 = .ok (.getfield 61, 3) := by decide +kernel
theorem dX6_isItem_98 : decode cX6_isItem 98 = .ok (.ineg, 1) := by decide +kernel
theorem dX6_isItem_99 : decode cX6_isItem 99 = .ok (.goto 7, 3) := by decide +kernel
theorem dX6_isItem_102 : decode cX6_isItem 102 = .ok (.aload_n 0, 1) := by decide +kernel
theorem dX6_isItem_103 : decode cX6_isItem 103 = .ok (.getfield 61, 3) := by decide +kernel
theorem dX6_isItem_106 : decode cX6_isItem 106 = .ok (.istore 4, 2) := by decide +kernel
theorem dX6_isItem_108 : decode cX6_isItem 108 = .ok (.aload_n 0, 1) := by decide +kernel
theorem dX6_isItem_109 : decode cX6_isItem 109 = .ok (.getfield 30, 3) := by decide +kernel
theorem dX6_isItem_112 : decode cX6_isItem 112 = .ok (.iconst 2, 1) := by decide +kernel
theorem dX6_isItem_113 : decode cX6_isItem 113 = .ok (.if_icmp .ne 33, 3) := by decide +kernel
theorem dX6_isItem_116 : decode cX6_isItem 116 = .ok (.aload_n 0, 1) := by decide +kernel
theorem dX6_isItem_117 : decode cX6_isItem 117 = .ok (.getfield 19, 3) := by decide +kernel
theorem dX6_isItem_120 : decode cX6_isItem 120 = .ok (.iload_n 1, 1) := by decide +kernel
theorem dX6_isItem_121 : decode cX6_isItem 121 = .ok (.iload_n 2, 1) := by decide +kernel
theorem dX6_isItem_122 : decode cX6_isItem 122 = .ok (.iload 4, 2) := by decide +kernel
theorem dX6_isItem_124 : decode cX6_isItem 124 = .ok (.iload_n 2, 1) := by decide +kernel
theorem dX6_isItem_125 : decode cX6_isItem 125 = .ok (.ifCond .le 14, 3) := by decide +kernel
theorem dX6_isItem_128 : decode cX6_isItem 128 = .ok (.aload_n 0, 1) := by decide +kernel
theorem dX6_isItem_129 : decode cX6_isItem 129 = .ok (.getfield 9, 3) := by decide +kernel
theorem dX6_isItem_132 : decode cX6_isItem 132 = .ok (.iload_n 2, 1) := by decide +kernel
theorem dX6_isItem_133 : decode cX6_isItem 133 = .ok (.iconst 1, 1) := by decide +kernel
theorem dX6_isItem_134 : decode cX6_isItem 134 = .ok (.isub, 1) := by decide +kernel
theorem dX6_isItem_135 : decode cX6_isItem 135 = .ok (.iaload, 1) := by decide +kernel
theorem dX6_isItem_136 : decode cX6_isItem 136 = .ok (.goto 4, 3) := by decide +kernel
theorem dX6_isItem_139 : decode cX6_isItem 139 = .ok (.iconst 0, 1) := by decide +kernel
theorem dX6_isItem_140 : decode cX6_isItem 140 = .ok (.invokevirtual 64, 3) := by decide +kernel
theorem dX6_isItem_143 : decode cX6_isItem 143 = .ok (.ifCond .ne 5, 3) := by decide +kernel
theorem dX6_isItem_146 : decode cX6_isItem 146 = .ok (.iconst 0, 1) := by decide +kernel
theorem dX6_isItem_147 : decode cX6_isItem 147 = .ok (.ireturn, 1) := by decide +kernel
theorem dX6_isItem_148 : decode cX6_isItem 148 = .ok (.aload_n 0, 1) := by decide +kernel
theorem dX6_isItem_149 : decode cX6_isItem 149 = .ok (.getfield 9, 3) := by decide +kernel
theorem dX6_isItem_152 : decode cX6_isItem 152 = .ok (.iload_n 2, 1) := by decide +kernel
theorem dX6_isItem_153 : decode cX6_isItem 153 = .ok (.iload 4, 2) := by decide +kernel
theorem dX6_isItem_155 : decode cX6_isItem 155 = .ok (.iastore, 1) := by decide +kernel
theorem dX6_isItem_156 : decode cX6_isItem 156 = .ok (.aload_n 0, 1) := by decide +kernel
theorem dX6_isItem_157 : decode cX6_isItem 157 = .ok (.invokevirtual 27, 3) := by decide +kernel
theorem dX6_isItem_160 : decode cX6_isItem 160 = .ok (.iinc 2 1, 3) := by decide +kernel
theorem dX6_isItem_163 : decode cX6_isItem 163 = .ok (.goto (-114), 3) := by decide +kernel
theorem dX6_isItem_166 : decode cX6_isItem 166 = .ok (.aload_n 0, 1) := by decide +kernel
theorem dX6_isItem_167 : decode cX6_isItem 167 = .ok (.getfield 30, 3) := by decide +kernel
theorem dX6_isItem_170 : decode cX6_isItem 170 = .ok (.iconst 4, 1) := by decide +kernel
theorem dX6_isItem_171 : decode cX6_isItem 171 = .ok (.if_icmp .eq 5, 3) := by decide +kernel
theorem dX6_isItem_174 : decode cX6_isItem 174 = .ok (.iconst 0, 1) := by decide +kernel
theorem dX6_isItem_175 : decode cX6_isItem 175 = .ok (.ireturn, 1) := by decide +kernel
theorem dX6_isItem_176 : decode cX6_isItem 176 = .ok (.aload_n 0, 1) := by decide +kernel
theorem dX6_isItem_177 : decode cX6_isItem 177 = .ok (.invokevirtual 27, 3) := by decide +kernel
theorem dX6_isItem_180 : decode cX6_isItem 180 = .ok (.aload_n 0, 1) := by decide +kernel
theorem dX6_isItem_181 : decode cX6_isItem 181 = .ok (.iload_n 1, 1) := by decide +kernel
theorem dX6_isItem_182 : decode cX6_isItem 182 = .ok (.invokevirtual 68, 3) := by decide +kernel
theorem dX6_isItem_185 : decode cX6_isItem 185 = .ok (.iconst 1, 1) := by decide +kernel
theorem dX6_isItem_186 : decode cX6_isItem 186 = .ok (.ireturn, 1) := by decide +kernel
theorem dX6_keep_0 : decode cX6_keep 0 = .ok (.iload_n 1, 1) := by decide +kernel
theorem dX6_keep_1 : decode cX6_keep 1 = .ok (.iconst 3, 1) := by decide +kernel
theorem dX6_keep_2 : decode cX6_keep 2 = .ok (.if_icmp .ge 21, 3) := by decide +kernel
theorem dX6_keep_5 : decode cX6_keep 5 = .ok (.aload_n 0, 1) := by decide +kernel
theorem dX6_keep_6 : decode cX6_keep 6 = .ok (.getfield 19, 3) := by decide +kernel
theorem dX6_keep_9 : decode cX6_keep 9 = .ok (.getfield 72, 3) := by decide +kernel
theorem dX6_keep_12 : decode cX6_keep 12 = .ok (.iload_n 1, 1) := by decide +kernel
theorem dX6_keep_13 : decode cX6_keep 13 = .ok (.aload_n 0, 1) := by decide +kernel
theorem dX6_keep_14 : decode cX6_keep 14 = .ok (.getfield 9, 3) := by decide +kernel
theorem dX6_keep_17 : decode cX6_keep 17 = .ok (.iconst 0, 1) := by decide +kernel
theorem dX6_keep_18 : decode cX6_keep 18 = .ok (.iaload, 1) := by decide +kernel
theorem dX6_keep_19 : decode cX6_keep 19 = .ok (.iastore, 1) := by decide +kernel
theorem dX6_keep_20 : decode cX6_keep 20 = .ok (.goto 33, 3) := by decide +kernel
theorem dX6_keep_23 : decode cX6_keep 23 = .ok (.aload_n 0, 1) := by decide +kernel
theorem dX6_keep_24 : decode cX6_keep 24 = .ok (.getfield 19, 3) := by decide +kernel
theorem dX6_keep_27 : decode cX6_keep 27 = .ok (.iload_n 1, 1) := by decide +kernel
theorem dX6_keep_28 : decode cX6_keep 28 = .ok (.invokevirtual 49, 3) := by decide +kernel
theorem dX6_keep_31 : decode cX6_keep 31 = .ok (.aload_n 0, 1) := by decide +kernel
theorem dX6_keep_32 : decode cX6_keep 32 = .ok (.getfield 9, 3) := by decide +kernel
theorem dX6_keep_35 : decode cX6_keep 35 = .ok (.iconst 0, 1) := by decide +kernel
theorem dX6_keep_36 : decode cX6_keep 36 = .ok (.iaload, 1) := by decide +kernel
theorem dX6_keep_37 : decode cX6_keep 37 = .ok (.aload_n 0, 1) := by decide +kernel
theorem dX6_keep_38 : decode cX6_keep 38 = .ok (.getfield 9, 3) := by decide +kernel
theorem dX6_keep_41 : decode cX6_keep 41 = .ok (.iconst 1, 1) := by decide +kernel
theorem dX6_keep_42 : decode cX6_keep 42 = .ok (.iaload, 1) := by decide +kernel
theorem dX6_keep_43 : decode cX6_keep 43 = .ok (.aload_n 0, 1) := by decide +kernel
theorem dX6_keep_44 : decode cX6_keep 44 = .ok (.getfield 9, 3) := by decide +kernel
theorem dX6_keep_47 : decode cX6_keep 47 = .ok (.iconst 2, 1) := by decide +kernel
theorem dX6_keep_48 : decode cX6_keep 48 = .ok (.iaload, 1) := by decide +kernel
theorem dX6_keep_49 : decode cX6_keep 49 = .ok (.invokevirtual 75, 3) := by decide +kernel
theorem dX6_keep_52 : decode cX6_keep 52 = .ok (.pop, 1) := by decide +kernel
theorem dX6_keep_53 : decode cX6_keep 53 = .ok (.return_, 1) := by decide +kernel
theorem dX6_advance_0 : decode cX6_advance 0 = .ok (.aload_n 0, 1) := by decide +kernel
theorem dX6_advance_1 : decode cX6_advance 1 = .ok (.getfield 23, 3) := by decide +kernel
theorem dX6_advance_4 : decode cX6_advance 4 = .ok (.aload_n 0, 1) := by decide +kernel
theorem dX6_advance_5 : decode cX6_advance 5 = .ok (.getfield 15, 3) := by decide +kernel
theorem dX6_advance_8 : decode cX6_advance 8 = .ok (.invokevirtual 79, 3) := by decide +kernel
theorem dX6_advance_11 : decode cX6_advance 11 = .ok (.if_icmp .ge 33, 3) := by decide +kernel
theorem dX6_advance_14 : decode cX6_advance 14 = .ok (.aload_n 0, 1) := by decide +kernel
theorem dX6_advance_15 : decode cX6_advance 15 = .ok (.getfield 15, 3) := by decide +kernel
theorem dX6_advance_18 : decode cX6_advance 18 = .ok (.aload_n 0, 1) := by decide +kernel
theorem dX6_advance_19 : decode cX6_advance 19 = .ok (.getfield 23, 3) := by decide +kernel
theorem dX6_advance_22 : decode cX6_advance 22 = .ok (.iconst 0, 1) := by decide +kernel
theorem dX6_advance_23 : decode cX6_advance 23 = .ok (.invokevirtual 82, 3) := by decide +kernel
theorem dX6_advance_26 : decode cX6_advance 26 = .ok (.bipush 32, 2) := by decide +kernel
theorem dX6_advance_28 : decode cX6_advance 28 = .ok (.if_icmp .ne 16, 3) := by decide +kernel
theorem dX6_advance_31 : decode cX6_advance 31 = .ok (.aload_n 0, 1) := by decide +kernel
theorem dX6_advance_32 : decode cX6_advance 32 = .ok (.dup, 1) := by decide +kernel
theorem dX6_advance_33 : decode cX6_advance 33 = .ok (.getfield 23, 3) := by decide +kernel
theorem dX6_advance_36 : decode cX6_advance 36 = .ok (.iconst 1, 1) := by decide +kernel
theorem dX6_advance_37 : decode cX6_advance 37 = .ok (.iadd, 1) := by decide +kernel
theorem dX6_advance_38 : decode cX6_advance 38 = .ok (.putfield 23, 3) := by decide +kernel
theorem dX6_advance_41 : decode cX6_advance 41 = .ok (.goto (-41), 3) := by decide +kernel
theorem dX6_advance_44 : decode cX6_advance 44 = .ok (.aload_n 0, 1) := by decide +kernel
theorem dX6_advance_45 : decode cX6_advance 45 = .ok (.aload_n 0, 1) := by decide +kernel
theorem dX6_advance_46 : decode cX6_advance 46 = .ok (.getfield 23, 3) := by decide +kernel
theorem dX6_advance_49 : decode cX6_advance 49 = .ok (.putfield 43, 3) := by decide +kernel
theorem dX6_advance_52 : decode cX6_advance 52 = .ok (.aload_n 0, 1) := by decide +kernel
theorem dX6_advance_53 : decode cX6_advance 53 = .ok (.getfield 23, 3) := by decide +kernel
theorem dX6_advance_56 : decode cX6_advance 56 = .ok (.aload_n 0, 1) := by decide +kernel
theorem dX6_advance_57 : decode cX6_advance 57 = .ok (.getfield 15, 3) := by decide +kernel
theorem dX6_advance_60 : decode cX6_advance 60 = .ok (.invokevirtual 79, 3) := by decide +kernel
theorem dX6_advance_63 : decode cX6_advance 63 = .ok (.if_icmp .lt 9, 3) := by decide +kernel
theorem dX6_advance_66 : decode cX6_advance 66 = .ok (.aload_n 0, 1) := by decide +kernel
theorem dX6_advance_67 : decode cX6_advance 67 = .ok (.iconst 0, 1) := by decide +kernel
theorem dX6_advance_68 : decode cX6_advance 68 = .ok (.putfield 30, 3) := by decide +kernel
theorem dX6_advance_71 : decode cX6_advance 71 = .ok (.return_, 1) := by decide +kernel
theorem dX6_advance_72 : decode cX6_advance 72 = .ok (.aload_n 0, 1) := by decide +kernel
theorem dX6_advance_73 : decode cX6_advance 73 = .ok (.getfield 15, 3) := by decide +kernel
theorem dX6_advance_76 : decode cX6_advance 76 = .ok (.aload_n 0, 1) := by decide +kernel
theorem dX6_advance_77 : decode cX6_advance 77 = .ok (.getfield 23, 3) := by decide +kernel
theorem dX6_advance_80 : decode cX6_advance 80 = .ok (.iconst 0, 1) := by decide +kernel
theorem dX6_advance_81 : decode cX6_advance 81 = .ok (.invokevirtual 82, 3) := by decide +kernel
theorem dX6_advance_84 : decode cX6_advance 84 = .ok (.istore_n 1, 1) := by decide +kernel
theorem dX6_advance_85 : decode cX6_advance 85 = .ok (.iload_n 1, 1) := by decide +kernel
theorem dX6_advance_86 : decode cX6_advance 86 = .ok (.invokestatic 86, 3) := by decide +kernel
theorem dX6_advance_89 : decode cX6_advance 89 = .ok (.ifCond .eq 10, 3) := by decide +kernel
theorem dX6_advance_92 : decode cX6_advance 92 = .ok (.aload_n 0, 1) := by decide +kernel
theorem dX6_advance_93 : decode cX6_advance 93 = .ok (.invokevirtual 90, 3) := by decide +kernel
theorem dX6_advance_96 : decode cX6_advance 96 = .ok (.goto 52, 3) := by decide +kernel
theorem dX6_advance_99 : decode cX6_advance 99 = .ok (.iload_n 1, 1) := by decide +kernel
theorem dX6_advance_100 : decode cX6_advance 100 = .ok (.invokestatic 93, 3) := by decide +kernel
theorem dX6_advance_103 : decode cX6_advance 103 = .ok (.ifCond .eq 10, 3) := by decide +kernel
theorem dX6_advance_106 : decode cX6_advance 106 = .ok (.aload_n 0, 1) := by decide +kernel
theorem dX6_advance_107 : decode cX6_advance 107 = .ok (.invokevirtual 96, 3) := by decide +kernel
theorem dX6_advance_110 : decode cX6_advance 110 = .ok (.goto 38, 3) := by decide +kernel
theorem dX6_advance_113 : decode cX6_advance 113 = .ok (.aload_n 0, 1) := by decide +kernel
theorem dX6_advance_114 : decode cX6_advance 114 = .ok (.iload_n 1, 1) := by decide +kernel
theorem dX6_advance_115 : decode cX6_advance 115 = .ok (.bipush 45, 2) := by decide +kernel
theorem dX6_advance_117 : decode cX6_advance 117 = .ok (.if_icmp .ne 7, 3) := by decide +kernel
theorem dX6_advance_120 : decode cX6_advance 120 = .ok (.iconst 3, 1) := by decide +kernel
theorem dX6_advance_121 : decode cX6_advance 121 = .ok (.goto 14, 3) := by decide +kernel
theorem dX6_advance_124 : decode cX6_advance 124 = .ok (.iload_n 1, 1) := by decide +kernel
theorem dX6_advance_125 : decode cX6_advance 125 = .ok (.bipush 59, 2) := by decide +kernel
theorem dX6_advance_127 : decode cX6_advance 127 = .ok (.if_icmp .ne 7, 3) := by decide +kernel
theorem dX6_advance_130 : decode cX6_advance 130 = .ok (.iconst 4, 1) := by decide +kernel
theorem dX6_advance_131 : decode cX6_advance 131 = .ok (.goto 4, 3) := by decide +kernel
theorem dX6_advance_134 : decode cX6_advance 134 = .ok (.iconst 5, 1) := by decide +kernel
theorem dX6_advance_135 : decode cX6_advance 135 = .ok (.putfield 30, 3) := by decide +kernel
theorem dX6_advance_138 : decode cX6_advance 138 = .ok (.aload_n 0, 1) := by decide +kernel
theorem dX6_advance_139 : decode cX6_advance 139 = .ok (.dup, 1) := by decide +kernel
theorem dX6_advance_140 : decode cX6_advance 140 = .ok (.getfield 23, 3) := by decide +kernel
theorem dX6_advance_143 : decode cX6_advance 143 = .ok (.iconst 1, 1) := by decide +kernel
theorem dX6_advance_144 : decode cX6_advance 144 = .ok (.iadd, 1) := by decide +kernel
theorem dX6_advance_145 : decode cX6_advance 145 = .ok (.putfield 23, 3) := by decide +kernel
theorem dX6_advance_148 : decode cX6_advance 148 = .ok (.return_, 1) := by decide +kernel
theorem dX6_passWord_0 : decode cX6_passWord 0 = .ok (.aload_n 0, 1) := by decide +kernel
theorem dX6_passWord_1 : decode cX6_passWord 1 = .ok (.getfield 23, 3) := by decide +kernel
theorem dX6_passWord_4 : decode cX6_passWord 4 = .ok (.aload_n 0, 1) := by decide +kernel
theorem dX6_passWord_5 : decode cX6_passWord 5 = .ok (.getfield 15, 3) := by decide +kernel
theorem dX6_passWord_8 : decode cX6_passWord 8 = .ok (.invokevirtual 79, 3) := by decide +kernel
theorem dX6_passWord_11 : decode cX6_passWord 11 = .ok (.if_icmp .ge 34, 3) := by decide +kernel
theorem dX6_passWord_14 : decode cX6_passWord 14 = .ok (.aload_n 0, 1) := by decide +kernel
theorem dX6_passWord_15 : decode cX6_passWord 15 = .ok (.getfield 15, 3) := by decide +kernel
theorem dX6_passWord_18 : decode cX6_passWord 18 = .ok (.aload_n 0, 1) := by decide +kernel
theorem dX6_passWord_19 : decode cX6_passWord 19 = .ok (.getfield 23, 3) := by decide +kernel
theorem dX6_passWord_22 : decode cX6_passWord 22 = .ok (.iconst 0, 1) := by decide +kernel
theorem dX6_passWord_23 : decode cX6_passWord 23 = .ok (.invokevirtual 82, 3) := by decide +kernel
theorem dX6_passWord_26 : decode cX6_passWord 26 = .ok (.invokestatic 86, 3) := by decide +kernel
theorem dX6_passWord_29 : decode cX6_passWord 29 = .ok (.ifCond .eq 16, 3) := by decide +kernel
theorem dX6_passWord_32 : decode cX6_passWord 32 = .ok (.aload_n 0, 1) := by decide +kernel
theorem dX6_passWord_33 : decode cX6_passWord 33 = .ok (.dup, 1) := by decide +kernel
theorem dX6_passWord_34 : decode cX6_passWord 34 = .ok (.getfield 23, 3) := by decide +kernel
theorem dX6_passWord_37 : decode cX6_passWord 37 = .ok (.iconst 1, 1) := by decide +kernel
theorem dX6_passWord_38 : decode cX6_passWord 38 = .ok (.iadd, 1) := by decide +kernel
theorem dX6_passWord_39 : decode cX6_passWord 39 = .ok (.putfield 23, 3) := by decide +kernel
theorem dX6_passWord_42 : decode cX6_passWord 42 = .ok (.goto (-42), 3) := by decide +kernel
theorem dX6_passWord_45 : decode cX6_passWord 45 = .ok (.aload_n 0, 1) := by decide +kernel
theorem dX6_passWord_46 : decode cX6_passWord 46 = .ok (.iconst 1, 1) := by decide +kernel
theorem dX6_passWord_47 : decode cX6_passWord 47 = .ok (.putfield 30, 3) := by decide +kernel
theorem dX6_passWord_50 : decode cX6_passWord 50 = .ok (.return_, 1) := by decide +kernel
theorem dX6_passFigures_0 : decode cX6_passFigures 0 = .ok (.aload_n 0, 1) := by decide +kernel
theorem dX6_passFigures_1 : decode cX6_passFigures 1 = .ok (.iconst 0, 1) := by decide +kernel
theorem dX6_passFigures_2 : decode cX6_passFigures 2 = .ok (.putfield 61, 3) := by decide +kernel
theorem dX6_passFigures_5 : decode cX6_passFigures 5 = .ok (.aload_n 0, 1) := by decide +kernel
theorem dX6_passFigures_6 : decode cX6_passFigures 6 = .ok (.getfield 23, 3) := by decide +kernel
theorem dX6_passFigures_9 : decode cX6_passFigures 9 = .ok (.aload_n 0, 1) := by decide +kernel
theorem dX6_passFigures_10 : decode cX6_passFigures 10 = .ok (.getfield 15, 3) := by decide +kernel
theorem dX6_passFigures_13 : decode cX6_passFigures 13 = .ok (.invokevirtual 79, 3) := by decide +kernel
theorem dX6_passFigures_16 : decode cX6_passFigures 16 = .ok (.if_icmp .ge 74, 3) := by decide +kernel
theorem dX6_passFigures_19 : decode cX6_passFigures 19 = .ok (.aload_n 0, 1) := by decide +kernel
theorem dX6_passFigures_20 : decode cX6_passFigures 20 = .ok (.getfield 15, 3) := by decide +kernel
theorem dX6_passFigures_23 : decode cX6_passFigures 23 = .ok (.aload_n 0, 1) := by decide +kernel
theorem dX6_passFigures_24 : decode cX6_passFigures 24 = .ok (.getfield 23, 3) := by decide +kernel
theorem dX6_passFigures_27 : decode cX6_passFigures 27 = .ok (.iconst 0, 1) := by decide +kernel
theorem dX6_passFigures_28 : decode cX6_passFigures 28 = .ok (.invokevirtual 82, 3) := by decide +kernel
theorem dX6_passFigures_31 : decode cX6_passFigures 31 = .ok (.invokestatic 93, 3) := by decide +kernel
theorem dX6_passFigures_34 : decode cX6_passFigures 34 = .ok (.ifCond .eq 56, 3) := by decide +kernel
theorem dX6_passFigures_37 : decode cX6_passFigures 37 = .ok (.aload_n 0, 1) := by decide +kernel
theorem dX6_passFigures_38 : decode cX6_passFigures 38 = .ok (.getfield 23, 3) := by decide +kernel
theorem dX6_passFigures_41 : decode cX6_passFigures 41 = .ok (.aload_n 0, 1) := by decide +kernel
theorem dX6_passFigures_42 : decode cX6_passFigures 42 = .ok (.getfield 43, 3) := by decide +kernel
theorem dX6_passFigures_45 : decode cX6_passFigures 45 = .ok (.isub, 1) := by decide +kernel
theorem dX6_passFigures_46 : decode cX6_passFigures 46 = .ok (.iconst 3, 1) := by decide +kernel
theorem dX6_passFigures_47 : decode cX6_passFigures 47 = .ok (.if_icmp .ge 30, 3) := by decide +kernel
theorem dX6_passFigures_50 : decode cX6_passFigures 50 = .ok (.aload_n 0, 1) := by decide +kernel
theorem dX6_passFigures_51 : decode cX6_passFigures 51 = .ok (.bipush 10, 2) := by decide +kernel
theorem dX6_passFigures_53 : decode cX6_passFigures 53 = .ok (.aload_n 0, 1) := by decide +kernel
theorem dX6_passFigures_54 : decode cX6_passFigures 54 = .ok (.getfield 61, 3) := by decide +kernel
theorem dX6_passFigures_57 : decode cX6_passFigures 57 = .ok (.imul, 1) := by decide +kernel
theorem dX6_passFigures_58 : decode cX6_passFigures 58 = .ok (.aload_n 0, 1) := by decide +kernel
theorem dX6_passFigures_59 : decode cX6_passFigures 59 = .ok (.getfield 15, 3) := by decide +kernel
theorem dX6_passFigures_62 : decode cX6_passFigures 62 = .ok (.aload_n 0, 1) := by decide +kernel
theorem dX6_passFigures_63 : decode cX6_passFigures 63 = .ok (.getfield 23, 3) := by decide +kernel
theorem dX6_passFigures_66 : decode cX6_passFigures 66 = .ok (.iconst 0, 1) := by decide +kernel
theorem dX6_passFigures_67 : decode cX6_passFigures 67 = .ok (.invokevirtual 82, 3) := by decide +kernel
theorem dX6_passFigures_70 : decode cX6_passFigures 70 = .ok (.iadd, 1) := by decide +kernel
theorem dX6_passFigures_71 : decode cX6_passFigures 71 = .ok (.bipush 48, 2) := by decide +kernel
theorem dX6_passFigures_73 : decode cX6_passFigures 73 = .ok (.isub, 1) := by decide +kernel
theorem dX6_passFigures_74 : decode cX6_passFigures 74 = .ok (.putfield 61, 3) := by decide +kernel
theorem dX6_passFigures_77 : decode cX6_passFigures 77 = .ok (.aload_n 0, 1) := by decide +kernel
theorem dX6_passFigures_78 : decode cX6_passFigures 78 = .ok (.dup, 1) := by decide +kernel
theorem dX6_passFigures_79 : decode cX6_passFigures 79 = .ok (.getfield 23, 3) := by decide +kernel
theorem dX6_passFigures_82 : decode cX6_passFigures 82 = .ok (.iconst 1, 1) := by decide +kernel
theorem dX6_passFigures_83 : decode cX6_passFigures 83 = .ok (.iadd, 1) := by decide +kernel
theorem dX6_passFigures_84 : decode cX6_passFigures 84 = .ok (.putfield 23, 3) := by decide +kernel
theorem dX6_passFigures_87 : decode cX6_passFigures 87 = .ok (.goto (-82), 3) := by decide +kernel
theorem dX6_passFigures_90 : decode cX6_passFigures 90 = .ok (.aload_n 0, 1) := by decide +kernel
theorem dX6_passFigures_91 : decode cX6_passFigures 91 = .ok (.aload_n 0, 1) := by decide +kernel
theorem dX6_passFigures_92 : decode cX6_passFigures 92 = .ok (.getfield 23, 3) := by decide +kernel
theorem dX6_passFigures_95 : decode cX6_passFigures 95 = .ok (.aload_n 0, 1) := by decide +kernel
theorem dX6_passFigures_96 : decode cX6_passFigures 96 = .ok (.getfield 43, 3) := by decide +kernel
theorem dX6_passFigures_99 : decode cX6_passFigures 99 = .ok (.isub, 1) := by decide +kernel
theorem dX6_passFigures_100 : decode cX6_passFigures 100 = .ok (.iconst 3, 1) := by decide +kernel
theorem dX6_passFigures_101 : decode cX6_passFigures 101 = .ok (.if_icmp .le 7, 3) := by decide +kernel
theorem dX6_passFigures_104 : decode cX6_passFigures 104 = .ok (.iconst 5, 1) := by decide +kernel
theorem dX6_passFigures_105 : decode cX6_passFigures 105 = .ok (.goto 4, 3) := by decide +kernel
theorem dX6_passFigures_108 : decode cX6_passFigures 108 = .ok (.iconst 2, 1) := by decide +kernel
theorem dX6_passFigures_109 : decode cX6_passFigures 109 = .ok (.putfield 30, 3) := by decide +kernel
theorem dX6_passFigures_112 : decode cX6_passFigures 112 = .ok (.return_, 1) := by decide +kernel
theorem dX6_itemAtHand_0 : decode cX6_itemAtHand 0 = .ok (.iconst 0, 1) := by decide +kernel
theorem dX6_itemAtHand_1 : decode cX6_itemAtHand 1 = .ok (.istore_n 1, 1) := by decide +kernel
theorem dX6_itemAtHand_2 : decode cX6_itemAtHand 2 = .ok (.iload_n 1, 1) := by decide +kernel
theorem dX6_itemAtHand_3 : decode cX6_itemAtHand 3 = .ok (.bipush 7, 2) := by decide +kernel
theorem dX6_itemAtHand_5 : decode cX6_itemAtHand 5 = .ok (.if_icmp .ge 22, 3) := by decide +kernel
theorem dX6_itemAtHand_8 : decode cX6_itemAtHand 8 = .ok (.aload_n 0, 1) := by decide +kernel
theorem dX6_itemAtHand_9 : decode cX6_itemAtHand 9 = .ok (.iload_n 1, 1) := by decide +kernel
theorem dX6_itemAtHand_10 : decode cX6_itemAtHand 10 = .ok (.invokestatic 99, 3) := by decide +kernel
theorem dX6_itemAtHand_13 : decode cX6_itemAtHand 13 = .ok (.invokevirtual 103, 3) := by decide +kernel
theorem dX6_itemAtHand_16 : decode cX6_itemAtHand 16 = .ok (.ifCond .eq 5, 3) := by decide +kernel
theorem dX6_itemAtHand_19 : decode cX6_itemAtHand 19 = .ok (.iload_n 1, 1) := by decide +kernel
theorem dX6_itemAtHand_20 : decode cX6_itemAtHand 20 = .ok (.ireturn, 1) := by decide +kernel
theorem dX6_itemAtHand_21 : decode cX6_itemAtHand 21 = .ok (.iinc 1 1, 3) := by decide +kernel
theorem dX6_itemAtHand_24 : decode cX6_itemAtHand 24 = .ok (.goto (-22), 3) := by decide +kernel
theorem dX6_itemAtHand_27 : decode cX6_itemAtHand 27 = .ok (.iconst (-1), 1) := by decide +kernel
theorem dX6_itemAtHand_28 : decode cX6_itemAtHand 28 = .ok (.ireturn, 1) := by decide +kernel
theorem dX6_isAtHand_0 : decode cX6_isAtHand 0 = .ok (.aload_n 1, 1) := by decide +kernel
theorem dX6_isAtHand_1 : decode cX6_isAtHand 1 = .ok (.invokevirtual 107, 3) := by decide +kernel
theorem dX6_isAtHand_4 : decode cX6_isAtHand 4 = .ok (.aload_n 0, 1) := by decide +kernel
theorem dX6_isAtHand_5 : decode cX6_isAtHand 5 = .ok (.getfield 23, 3) := by decide +kernel
theorem dX6_isAtHand_8 : decode cX6_isAtHand 8 = .ok (.aload_n 0, 1) := by decide +kernel
theorem dX6_isAtHand_9 : decode cX6_isAtHand 9 = .ok (.getfield 43, 3) := by decide +kernel
theorem dX6_isAtHand_12 : decode cX6_isAtHand 12 = .ok (.isub, 1) := by decide +kernel
theorem dX6_isAtHand_13 : decode cX6_isAtHand 13 = .ok (.if_icmp .eq 5, 3) := by decide +kernel
theorem dX6_isAtHand_16 : decode cX6_isAtHand 16 = .ok (.iconst 0, 1) := by decide +kernel
theorem dX6_isAtHand_17 : decode cX6_isAtHand 17 = .ok (.ireturn, 1) := by decide +kernel
theorem dX6_isAtHand_18 : decode cX6_isAtHand 18 = .ok (.iconst 0, 1) := by decide +kernel
theorem dX6_isAtHand_19 : decode cX6_isAtHand 19 = .ok (.istore_n 2, 1) := by decide +kernel
theorem dX6_isAtHand_20 : decode cX6_isAtHand 20 = .ok (.iload_n 2, 1) := by decide +kernel
theorem dX6_isAtHand_21 : decode cX6_isAtHand 21 = .ok (.aload_n 1, 1) := by decide +kernel
theorem dX6_isAtHand_22 : decode cX6_isAtHand 22 = .ok (.invokevirtual 107, 3) := by decide +kernel
theorem dX6_isAtHand_25 : decode cX6_isAtHand 25 = .ok (.if_icmp .ge 33, 3) := by decide +kernel
theorem dX6_isAtHand_28 : decode cX6_isAtHand 28 = .ok (.aload_n 0, 1) := by decide +kernel
theorem dX6_isAtHand_29 : decode cX6_isAtHand 29 = .ok (.getfield 15, 3) := by decide +kernel
theorem dX6_isAtHand_32 : decode cX6_isAtHand 32 = .ok (.aload_n 0, 1) := by decide +kernel
theorem dX6_isAtHand_33 : decode cX6_isAtHand 33 = .ok (.getfield 43, 3) := by decide +kernel
theorem dX6_isAtHand_36 : decode cX6_isAtHand 36 = .ok (.iload_n 2, 1) := by decide +kernel
theorem dX6_isAtHand_37 : decode cX6_isAtHand 37 = .ok (.iadd, 1) := by decide +kernel
theorem dX6_isAtHand_38 : decode cX6_isAtHand 38 = .ok (.iconst 0, 1) := by decide +kernel
theorem dX6_isAtHand_39 : decode cX6_isAtHand 39 = .ok (.invokevirtual 82, 3) := by decide +kernel
theorem dX6_isAtHand_42 : decode cX6_isAtHand 42 = .ok (.aload_n 1, 1) := by decide +kernel
theorem dX6_isAtHand_43 : decode cX6_isAtHand 43 = .ok (.iload_n 2, 1) := by decide +kernel
theorem dX6_isAtHand_44 : decode cX6_isAtHand 44 = .ok (.invokevirtual 112, 3) := by decide +kernel
theorem dX6_isAtHand_47 : decode cX6_isAtHand 47 = .ok (.if_icmp .eq 5, 3) := by decide +kernel
theorem dX6_isAtHand_50 : decode cX6_isAtHand 50 = .ok (.iconst 0, 1) := by decide +kernel
theorem dX6_isAtHand_51 : decode cX6_isAtHand 51 = .ok (.ireturn, 1) := by decide +kernel
theorem dX6_isAtHand_52 : decode cX6_isAtHand 52 = .ok (.iinc 2 1, 3) := by decide +kernel
theorem dX6_isAtHand_55 : decode cX6_isAtHand 55 = .ok (.goto (-35), 3) := by decide +kernel
theorem dX6_isAtHand_58 : decode cX6_isAtHand 58 = .ok (.iconst 1, 1) := by decide +kernel
theorem dX6_isAtHand_59 : decode cX6_isAtHand 59 = .ok (.ireturn, 1) := by decide +kernel
theorem dX6_wordOf_0 : decode cX6_wordOf 0 = .ok (.iload_n 0, 1) := by decide +kernel
theorem dX6_wordOf_1 : decode cX6_wordOf 1 = .ok (.tableswitch 57 0 5 #[39, 42, 45, 48, 51, 54], 39) := by decide +kernel
theorem dX6_wordOf_40 : decode cX6_wordOf 40 = .ok (.ldc 116, 2) := by decide +kernel
theorem dX6_wordOf_42 : decode cX6_wordOf 42 = .ok (.areturn, 1) := by decide +kernel
theorem dX6_wordOf_43 : decode cX6_wordOf 43 = .ok (.ldc 118, 2) := by decide +kernel
theorem dX6_wordOf_45 : decode cX6_wordOf 45 = .ok (.areturn, 1) := by decide +kernel
theorem dX6_wordOf_46 : decode cX6_wordOf 46 = .ok (.ldc 120, 2) := by decide +kernel
theorem dX6_wordOf_48 : decode cX6_wordOf 48 = .ok (.areturn, 1) := by decide +kernel
theorem dX6_wordOf_49 : decode cX6_wordOf 49 = .ok (.ldc 122, 2) := by decide +kernel
theorem dX6_wordOf_51 : decode cX6_wordOf 51 = .ok (.areturn, 1) := by decide +kernel
theorem dX6_wordOf_52 : decode cX6_wordOf 52 = .ok (.ldc 124, 2) := by decide +kernel
theorem dX6_wordOf_54 : decode cX6_wordOf 54 = .ok (.areturn, 1) := by decide +kernel
theorem dX6_wordOf_55 : decode cX6_wordOf 55 = .ok (.ldc 126, 2) := by decide +kernel
theorem dX6_wordOf_57 : decode cX6_wordOf 57 = .ok (.areturn, 1) := by decide +kernel
theorem dX6_wordOf_58 : decode cX6_wordOf 58 = .ok (.ldc 128, 2) := by decide +kernel
theorem dX6_wordOf_60 : decode cX6_wordOf 60 = .ok (.areturn, 1) := by decide +kernel
theorem dX6_isLetter_0 : decode cX6_isLetter 0 = .ok (.iload_n 0, 1) := by decide +kernel
theorem dX6_isLetter_1 : decode cX6_isLetter 1 = .ok (.bipush 97, 2) := by decide +kernel
theorem dX6_isLetter_3 : decode cX6_isLetter 3 = .ok (.if_icmp .lt 13, 3) := by decide +kernel
theorem dX6_isLetter_6 : decode cX6_isLetter 6 = .ok (.iload_n 0, 1) := by decide +kernel
theorem dX6_isLetter_7 : decode cX6_isLetter 7 = .ok (.bipush 122, 2) := by decide +kernel
theorem dX6_isLetter_9 : decode cX6_isLetter 9 = .ok (.if_icmp .gt 7, 3) := by decide +kernel
theorem dX6_isLetter_12 : decode cX6_isLetter 12 = .ok (.iconst 1, 1) := by decide +kernel
theorem dX6_isLetter_13 : decode cX6_isLetter 13 = .ok (.goto 4, 3) := by decide +kernel
theorem dX6_isLetter_16 : decode cX6_isLetter 16 = .ok (.iconst 0, 1) := by decide +kernel
theorem dX6_isLetter_17 : decode cX6_isLetter 17 = .ok (.ireturn, 1) := by decide +kernel
theorem dX6_isFigure_0 : decode cX6_isFigure 0 = .ok (.iload_n 0, 1) := by decide +kernel
theorem dX6_isFigure_1 : decode cX6_isFigure 1 = .ok (.bipush 48, 2) := by decide +kernel
theorem dX6_isFigure_3 : decode cX6_isFigure 3 = .ok (.if_icmp .lt 13, 3) := by decide +kernel
theorem dX6_isFigure_6 : decode cX6_isFigure 6 = .ok (.iload_n 0, 1) := by decide +kernel
theorem dX6_isFigure_7 : decode cX6_isFigure 7 = .ok (.bipush 57, 2) := by decide +kernel
theorem dX6_isFigure_9 : decode cX6_isFigure 9 = .ok (.if_icmp .gt 7, 3) := by decide +kernel
theorem dX6_isFigure_12 : decode cX6_isFigure 12 = .ok (.iconst 1, 1) := by decide +kernel
theorem dX6_isFigure_13 : decode cX6_isFigure 13 = .ok (.goto 4, 3) := by decide +kernel
theorem dX6_isFigure_16 : decode cX6_isFigure 16 = .ok (.iconst 0, 1) := by decide +kernel
theorem dX6_isFigure_17 : decode cX6_isFigure 17 = .ok (.ireturn, 1) := by decide +kernel
theorem dX7_init_0 : decode cX7_init 0 = .ok (.aload_n 0, 1) := by decide +kernel
theorem dX7_init_1 : decode cX7_init 1 = .ok (.invokespecial 3, 3) := by decide +kernel
theorem dX7_init_4 : decode cX7_init 4 = .ok (.aload_n 0, 1) := by decide +kernel
theorem dX7_init_5 : decode cX7_init 5 = .ok (.iload_n 1, 1) := by decide +kernel
theorem dX7_init_6 : decode cX7_init 6 = .ok (.iconst 1, 1) := by decide +kernel
theorem dX7_init_7 : decode cX7_init 7 = .ok (.invokestatic 9, 3) := by decide +kernel
theorem dX7_init_10 : decode cX7_init 10 = .ok (.iconst 3, 1) := by decide +kernel
theorem dX7_init_11 : decode cX7_init 11 = .ok (.invokestatic 15, 3) := by decide +kernel
theorem dX7_init_14 : decode cX7_init 14 = .ok (.putfield 18, 3) := by decide +kernel
theorem dX7_init_17 : decode cX7_init 17 = .ok (.aload_n 0, 1) := by decide +kernel
theorem dX7_init_18 : decode cX7_init 18 = .ok (.iload_n 2, 1) := by decide +kernel
theorem dX7_init_19 : decode cX7_init 19 = .ok (.iconst 0, 1) := by decide +kernel
theorem dX7_init_20 : decode cX7_init 20 = .ok (.invokestatic 9, 3) := by decide +kernel
theorem dX7_init_23 : decode cX7_init 23 = .ok (.putfield 24, 3) := by decide +kernel
theorem dX7_init_26 : decode cX7_init 26 = .ok (.aload_n 0, 1) := by decide +kernel
theorem dX7_init_27 : decode cX7_init 27 = .ok (.aload_n 0, 1) := by decide +kernel
theorem dX7_init_28 : decode cX7_init 28 = .ok (.getfield 18, 3) := by decide +kernel
theorem dX7_init_31 : decode cX7_init 31 = .ok (.aload_n 0, 1) := by decide +kernel
theorem dX7_init_32 : decode cX7_init 32 = .ok (.getfield 24, 3) := by decide +kernel
theorem dX7_init_35 : decode cX7_init 35 = .ok (.imul, 1) := by decide +kernel
theorem dX7_init_36 : decode cX7_init 36 = .ok (.newarray .int, 2) := by decide +kernel
theorem dX7_init_38 : decode cX7_init 38 = .ok (.putfield 27, 3) := by decide +kernel
theorem dX7_init_41 : decode cX7_init 41 = .ok (.return_, 1) := by decide +kernel
theorem dX7_size_0 : decode cX7_size 0 = .ok (.aload_n 0, 1) := by decide +kernel
theorem dX7_size_1 : decode cX7_size 1 = .ok (.getfield 31, 3) := by decide +kernel
theorem dX7_size_4 : decode cX7_size 4 = .ok (.ireturn, 1) := by decide +kernel
theorem dX7_limit_0 : decode cX7_limit 0 = .ok (.aload_n 0, 1) := by decide +kernel
theorem dX7_limit_1 : decode cX7_limit 1 = .ok (.getfield 24, 3) := by decide +kernel
theorem dX7_limit_4 : decode cX7_limit 4 = .ok (.ireturn, 1) := by decide +kernel
theorem dX7_isFull_0 : decode cX7_isFull 0 = .ok (.aload_n 0, 1) := by decide +kernel
theorem dX7_isFull_1 : decode cX7_isFull 1 = .ok (.getfield 31, 3) := by decide +kernel
theorem dX7_isFull_4 : decode cX7_isFull 4 = .ok (.aload_n 0, 1) := by decide +kernel
theorem dX7_isFull_5 : decode cX7_isFull 5 = .ok (.getfield 24, 3) := by decide +kernel
theorem dX7_isFull_8 : decode cX7_isFull 8 = .ok (.if_icmp .lt 7, 3) := by decide +kernel
theorem dX7_isFull_11 : decode cX7_isFull 11 = .ok (.iconst 1, 1) := by decide +kernel
theorem dX7_isFull_12 : decode cX7_isFull 12 = .ok (.goto 4, 3) := by decide +kernel
theorem dX7_isFull_15 : decode cX7_isFull 15 = .ok (.iconst 0, 1) := by decide +kernel
theorem dX7_isFull_16 : decode cX7_isFull 16 = .ok (.ireturn, 1) := by decide +kernel
theorem dX7_at_0 : decode cX7_at 0 = .ok (.iload_n 1, 1) := by decide +kernel
theorem dX7_at_1 : decode cX7_at 1 = .ok (.ifCond .lt 23, 3) := by decide +kernel
theorem dX7_at_4 : decode cX7_at 4 = .ok (.iload_n 1, 1) := by decide +kernel
theorem dX7_at_5 : decode cX7_at 5 = .ok (.aload_n 0, 1) := by decide +kernel
theorem dX7_at_6 : decode cX7_at 6 = .ok (.getfield 31, 3) := by decide +kernel
theorem dX7_at_9 : decode cX7_at 9 = .ok (.if_icmp .ge 15, 3) := by decide +kernel
theorem dX7_at_12 : decode cX7_at 12 = .ok (.iload_n 2, 1) := by decide +kernel
theorem dX7_at_13 : decode cX7_at 13 = .ok (.ifCond .lt 11, 3) := by decide +kernel
theorem dX7_at_16 : decode cX7_at 16 = .ok (.iload_n 2, 1) := by decide +kernel
theorem dX7_at_17 : decode cX7_at 17 = .ok (.aload_n 0, 1) := by decide +kernel
theorem dX7_at_18 : decode cX7_at 18 = .ok (.getfield 18, 3) := by decide +kernel
theorem dX7_at_21 : decode cX7_at 21 = .ok (.if_icmp .lt 5, 3) := by decide +kernel
theorem dX7_at_24 : decode cX7_at 24 = .ok (.iconst 0, 1) := by decide +kernel
theorem dX7_at_25 : decode cX7_at 25 = .ok (.ireturn, 1) := by decide +kernel
theorem dX7_at_26 : decode cX7_at 26 = .ok (.aload_n 0, 1) := by decide +kernel
theorem dX7_at_27 : decode cX7_at 27 = .ok (.getfield 27, 3) := by decide +kernel
theorem dX7_at_30 : decode cX7_at 30 = .ok (.iload_n 1, 1) := by decide +kernel
theorem dX7_at_31 : decode cX7_at 31 = .ok (.aload_n 0, 1) := by decide +kernel
theorem dX7_at_32 : decode cX7_at 32 = .ok (.getfield 18, 3) := by decide +kernel
theorem dX7_at_35 : decode cX7_at 35 = .ok (.imul, 1) := by decide +kernel
theorem dX7_at_36 : decode cX7_at 36 = .ok (.iload_n 2, 1) := by decide +kernel
theorem dX7_at_37 : decode cX7_at 37 = .ok (.iadd, 1) := by decide +kernel
theorem dX7_at_38 : decode cX7_at 38 = .ok (.iaload, 1) := by decide +kernel
theorem dX7_at_39 : decode cX7_at 39 = .ok (.ireturn, 1) := by decide +kernel
theorem dX7_add_0 : decode cX7_add 0 = .ok (.aload_n 0, 1) := by decide +kernel
theorem dX7_add_1 : decode cX7_add 1 = .ok (.invokevirtual 34, 3) := by decide +kernel
theorem dX7_add_4 : decode cX7_add 4 = .ok (.ifCond .eq 6, 3) := by decide +kernel
theorem dX7_add_7 : decode cX7_add 7 = .ok (.bipush (-4), 2) := by decide +kernel
theorem dX7_add_9 : decode cX7_add 9 = .ok (.ireturn, 1) := by decide +kernel
theorem dX7_add_10 : decode cX7_add 10 = .ok (.aload_n 0, 1) := by decide +kernel
theorem dX7_add_11 : decode cX7_add 11 = .ok (.getfield 31, 3) := by decide +kernel
theorem dX7_add_14 : decode cX7_add 14 = .ok (.aload_n 0, 1) := by decide +kernel
theorem dX7_add_15 : decode cX7_add 15 = .ok (.getfield 18, 3) := by decide +kernel
theorem dX7_add_18 : decode cX7_add 18 = .ok (.imul, 1) := by decide +kernel
theorem dX7_add_19 : decode cX7_add 19 = .ok (.istore 4, 2) := by decide +kernel
theorem dX7_add_21 : decode cX7_add 21 = .ok (.aload_n 0, 1) := by decide +kernel
theorem dX7_add_22 : decode cX7_add 22 = .ok (.getfield 27, 3) := by decide +kernel
theorem dX7_add_25 : decode cX7_add 25 = .ok (.iload 4, 2) := by decide +kernel
theorem dX7_add_27 : decode cX7_add 27 = .ok (.iload_n 1, 1) := by decide +kernel
theorem dX7_add_28 : decode cX7_add 28 = .ok (.iastore, 1) := by decide +kernel
theorem dX7_add_29 : decode cX7_add 29 = .ok (.aload_n 0, 1) := by decide +kernel
theorem dX7_add_30 : decode cX7_add 30 = .ok (.getfield 18, 3) := by decide +kernel
theorem dX7_add_33 : decode cX7_add 33 = .ok (.iconst 1, 1) := by decide +kernel
theorem dX7_add_34 : decode cX7_add 34 = .ok (.if_icmp .le 13, 3) := by decide +kernel
theorem dX7_add_37 : decode cX7_add 37 = .ok (.aload_n 0, 1) := by decide +kernel
theorem dX7_add_38 : decode cX7_add 38 = .ok (.getfield 27, 3) := by decide +kernel
theorem dX7_add_41 : decode cX7_add 41 = .ok (.iload 4, 2) := by decide +kernel
theorem dX7_add_43 : decode cX7_add 43 = .ok (.iconst 1, 1) := by decide +kernel
theorem dX7_add_44 : decode cX7_add 44 = .ok (.iadd, 1) := by decide +kernel
theorem dX7_add_45 : decode cX7_add 45 = .ok (.iload_n 2, 1) := by decide +kernel
theorem dX7_add_46 : decode cX7_add 46 = .ok (.iastore, 1) := by decide +kernel
theorem dX7_add_47 : decode cX7_add 47 = .ok (.aload_n 0, 1) := by decide +kernel
theorem dX7_add_48 : decode cX7_add 48 = .ok (.getfield 18, 3) := by decide +kernel
theorem dX7_add_51 : decode cX7_add 51 = .ok (.iconst 2, 1) := by decide +kernel
theorem dX7_add_52 : decode cX7_add 52 = .ok (.if_icmp .le 13, 3) := by decide +kernel
theorem dX7_add_55 : decode cX7_add 55 = .ok (.aload_n 0, 1) := by decide +kernel
theorem dX7_add_56 : decode cX7_add 56 = .ok (.getfield 27, 3) := by decide +kernel
theorem dX7_add_59 : decode cX7_add 59 = .ok (.iload 4, 2) := by decide +kernel
theorem dX7_add_61 : decode cX7_add 61 = .ok (.iconst 2, 1) := by decide +kernel
theorem dX7_add_62 : decode cX7_add 62 = .ok (.iadd, 1) := by decide +kernel
theorem dX7_add_63 : decode cX7_add 63 = .ok (.iload_n 3, 1) := by decide +kernel
theorem dX7_add_64 : decode cX7_add 64 = .ok (.iastore, 1) := by decide +kernel
theorem dX7_add_65 : decode cX7_add 65 = .ok (.aload_n 0, 1) := by decide +kernel
theorem dX7_add_66 : decode cX7_add 66 = .ok (.dup, 1) := by decide +kernel
theorem dX7_add_67 : decode cX7_add 67 = .ok (.getfield 31, 3) := by decide +kernel
theorem dX7_add_70 : decode cX7_add 70 = .ok (.iconst 1, 1) := by decide +kernel
theorem dX7_add_71 : decode cX7_add 71 = .ok (.iadd, 1) := by decide +kernel
theorem dX7_add_72 : decode cX7_add 72 = .ok (.putfield 31, 3) := by decide +kernel
theorem dX7_add_75 : decode cX7_add 75 = .ok (.aload_n 0, 1) := by decide +kernel
theorem dX7_add_76 : decode cX7_add 76 = .ok (.getfield 31, 3) := by decide +kernel
theorem dX7_add_79 : decode cX7_add 79 = .ok (.iconst 1, 1) := by decide +kernel
theorem dX7_add_80 : decode cX7_add 80 = .ok (.isub, 1) := by decide +kernel
theorem dX7_add_81 : decode cX7_add 81 = .ok (.ireturn, 1) := by decide +kernel
theorem dX7_clear_0 : decode cX7_clear 0 = .ok (.aload_n 0, 1) := by decide +kernel
theorem dX7_clear_1 : decode cX7_clear 1 = .ok (.getfield 31, 3) := by decide +kernel
theorem dX7_clear_4 : decode cX7_clear 4 = .ok (.istore_n 1, 1) := by decide +kernel
theorem dX7_clear_5 : decode cX7_clear 5 = .ok (.aload_n 0, 1) := by decide +kernel
theorem dX7_clear_6 : decode cX7_clear 6 = .ok (.iconst 0, 1) := by decide +kernel
theorem dX7_clear_7 : decode cX7_clear 7 = .ok (.putfield 31, 3) := by decide +kernel
theorem dX7_clear_10 : decode cX7_clear 10 = .ok (.iload_n 1, 1) := by decide +kernel
theorem dX7_clear_11 : decode cX7_clear 11 = .ok (.ireturn, 1) := by decide +kernel
theorem dX7_copy_0 : decode cX7_copy 0 = .ok (.aload_n 1, 1) := by decide +kernel
theorem dX7_copy_1 : decode cX7_copy 1 = .ok (.ifnull 25, 3) := by decide +kernel
theorem dX7_copy_4 : decode cX7_copy 4 = .ok (.aload_n 1, 1) := by decide +kernel
theorem dX7_copy_5 : decode cX7_copy 5 = .ok (.getfield 18, 3) := by decide +kernel
theorem dX7_copy_8 : decode cX7_copy 8 = .ok (.aload_n 0, 1) := by decide +kernel
theorem dX7_copy_9 : decode cX7_copy 9 = .ok (.getfield 18, 3) := by decide +kernel
theorem dX7_copy_12 : decode cX7_copy 12 = .ok (.if_icmp .ne 14, 3) := by decide +kernel
theorem dX7_copy_15 : decode cX7_copy 15 = .ok (.aload_n 1, 1) := by decide +kernel
theorem dX7_copy_16 : decode cX7_copy 16 = .ok (.getfield 24, 3) := by decide +kernel
theorem dX7_copy_19 : decode cX7_copy 19 = .ok (.aload_n 0, 1) := by decide +kernel
theorem dX7_copy_20 : decode cX7_copy 20 = .ok (.getfield 24, 3) := by decide +kernel
theorem dX7_copy_23 : decode cX7_copy 23 = .ok (.if_icmp .eq 4, 3) := by decide +kernel
theorem dX7_copy_26 : decode cX7_copy 26 = .ok (.return_, 1) := by decide +kernel
theorem dX7_copy_27 : decode cX7_copy 27 = .ok (.aload_n 0, 1) := by decide +kernel
theorem dX7_copy_28 : decode cX7_copy 28 = .ok (.aload_n 1, 1) := by decide +kernel
theorem dX7_copy_29 : decode cX7_copy 29 = .ok (.getfield 31, 3) := by decide +kernel
theorem dX7_copy_32 : decode cX7_copy 32 = .ok (.putfield 31, 3) := by decide +kernel
theorem dX7_copy_35 : decode cX7_copy 35 = .ok (.aload_n 1, 1) := by decide +kernel
theorem dX7_copy_36 : decode cX7_copy 36 = .ok (.getfield 27, 3) := by decide +kernel
theorem dX7_copy_39 : decode cX7_copy 39 = .ok (.iconst 0, 1) := by decide +kernel
theorem dX7_copy_40 : decode cX7_copy 40 = .ok (.aload_n 0, 1) := by decide +kernel
theorem dX7_copy_41 : decode cX7_copy 41 = .ok (.getfield 27, 3) := by decide +kernel
theorem dX7_copy_44 : decode cX7_copy 44 = .ok (.iconst 0, 1) := by decide +kernel
theorem dX7_copy_45 : decode cX7_copy 45 = .ok (.aload_n 0, 1) := by decide +kernel
theorem dX7_copy_46 : decode cX7_copy 46 = .ok (.getfield 31, 3) := by decide +kernel
theorem dX7_copy_49 : decode cX7_copy 49 = .ok (.aload_n 0, 1) := by decide +kernel
theorem dX7_copy_50 : decode cX7_copy 50 = .ok (.getfield 18, 3) := by decide +kernel
theorem dX7_copy_53 : decode cX7_copy 53 = .ok (.imul, 1) := by decide +kernel
theorem dX7_copy_54 : decode cX7_copy 54 = .ok (.invokestatic 38, 3) := by decide +kernel
theorem dX7_copy_57 : decode cX7_copy 57 = .ok (.return_, 1) := by decide +kernel
theorem dX7_greatest_0 : decode cX7_greatest 0 = .ok (.iconst 0, 1) := by decide +kernel
theorem dX7_greatest_1 : decode cX7_greatest 1 = .ok (.istore_n 2, 1) := by decide +kernel
theorem dX7_greatest_2 : decode cX7_greatest 2 = .ok (.iconst 0, 1) := by decide +kernel
theorem dX7_greatest_3 : decode cX7_greatest 3 = .ok (.istore_n 3, 1) := by decide +kernel
theorem dX7_greatest_4 : decode cX7_greatest 4 = .ok (.iload_n 3, 1) := by decide +kernel
theorem dX7_greatest_5 : decode cX7_greatest 5 = .ok (.aload_n 0, 1) := by decide +kernel
theorem dX7_greatest_6 : decode cX7_greatest 6 = .ok (.getfield 31, 3) := by decide +kernel
theorem dX7_greatest_9 : decode cX7_greatest 9 = .ok (.if_icmp .ge 20, 3) := by decide +kernel
theorem dX7_greatest_12 : decode cX7_greatest 12 = .ok (.iload_n 2, 1) := by decide +kernel
theorem dX7_greatest_13 : decode cX7_greatest 13 = .ok (.aload_n 0, 1) := by decide +kernel
theorem dX7_greatest_14 : decode cX7_greatest 14 = .ok (.iload_n 3, 1) := by decide +kernel
theorem dX7_greatest_15 : decode cX7_greatest 15 = .ok (.iload_n 1, 1) := by decide +kernel
theorem dX7_greatest_16 : decode cX7_greatest 16 = .ok (.invokevirtual 44, 3) := by decide +kernel
theorem dX7_greatest_19 : decode cX7_greatest 19 = .ok (.invokestatic 9, 3) := by decide +kernel
theorem dX7_greatest_22 : decode cX7_greatest 22 = .ok (.istore_n 2, 1) := by decide +kernel
theorem dX7_greatest_23 : decode cX7_greatest 23 = .ok (.iinc 3 1, 3) := by decide +kernel
theorem dX7_greatest_26 : decode cX7_greatest 26 = .ok (.goto (-22), 3) := by decide +kernel
theorem dX7_greatest_29 : decode cX7_greatest 29 = .ok (.iload_n 2, 1) := by decide +kernel
theorem dX7_greatest_30 : decode cX7_greatest 30 = .ok (.ireturn, 1) := by decide +kernel
theorem dX7_mixed_0 : decode cX7_mixed 0 = .ok (.lload_n 1, 1) := by decide +kernel
theorem dX7_mixed_1 : decode cX7_mixed 1 = .ok (.lstore_n 3, 1) := by decide +kernel
theorem dX7_mixed_2 : decode cX7_mixed 2 = .ok (.iconst 0, 1) := by decide +kernel
theorem dX7_mixed_3 : decode cX7_mixed 3 = .ok (.istore 5, 2) := by decide +kernel
theorem dX7_mixed_5 : decode cX7_mixed 5 = .ok (.iload 5, 2) := by decide +kernel
theorem dX7_mixed_7 : decode cX7_mixed 7 = .ok (.aload_n 0, 1) := by decide +kernel
theorem dX7_mixed_8 : decode cX7_mixed 8 = .ok (.getfield 31, 3) := by decide +kernel
theorem dX7_mixed_11 : decode cX7_mixed 11 = .ok (.aload_n 0, 1) := by decide +kernel
theorem dX7_mixed_12 : decode cX7_mixed 12 = .ok (.getfield 18, 3) := by decide +kernel
theorem dX7_mixed_15 : decode cX7_mixed 15 = .ok (.imul, 1) := by decide +kernel
theorem dX7_mixed_16 : decode cX7_mixed 16 = .ok (.if_icmp .ge 24, 3) := by decide +kernel
theorem dX7_mixed_19 : decode cX7_mixed 19 = .ok (.ldc2_w 47, 3) := by decide +kernel
theorem dX7_mixed_22 : decode cX7_mixed 22 = .ok (.lload_n 3, 1) := by decide +kernel
theorem dX7_mixed_23 : decode cX7_mixed 23 = .ok (.lmul, 1) := by decide +kernel
theorem dX7_mixed_24 : decode cX7_mixed 24 = .ok (.aload_n 0, 1) := by decide +kernel
theorem dX7_mixed_25 : decode cX7_mixed 25 = .ok (.getfield 27, 3) := by decide +kernel
theorem dX7_mixed_28 : decode cX7_mixed 28 = .ok (.iload 5, 2) := by decide +kernel
theorem dX7_mixed_30 : decode cX7_mixed 30 = .ok (.iaload, 1) := by decide +kernel
theorem dX7_mixed_31 : decode cX7_mixed 31 = .ok (.i2l, 1) := by decide +kernel
theorem dX7_mixed_32 : decode cX7_mixed 32 = .ok (.ladd, 1) := by decide +kernel
theorem dX7_mixed_33 : decode cX7_mixed 33 = .ok (.lstore_n 3, 1) := by decide +kernel
theorem dX7_mixed_34 : decode cX7_mixed 34 = .ok (.iinc 5 1, 3) := by decide +kernel
theorem dX7_mixed_37 : decode cX7_mixed 37 = .ok (.goto (-32), 3) := by decide +kernel
theorem dX7_mixed_40 : decode cX7_mixed 40 = .ok (.lload_n 3, 1) := by decide +kernel
theorem dX7_mixed_41 : decode cX7_mixed 41 = .ok (.lreturn, 1) := by decide +kernel
theorem dX8_init_0 : decode cX8_init 0 = .ok (.aload_n 0, 1) := by decide +kernel
theorem dX8_init_1 : decode cX8_init 1 = .ok (.invokespecial 3, 3) := by decide +kernel
theorem dX8_init_4 : decode cX8_init 4 = .ok (.aload_n 0, 1) := by decide +kernel
theorem dX8_init_5 : decode cX8_init 5 = .ok (.bipush 40, 2) := by decide +kernel
theorem dX8_init_7 : decode cX8_init 7 = .ok (.newarray .int, 2) := by decide +kernel
theorem dX8_init_9 : decode cX8_init 9 = .ok (.putfield 11, 3) := by decide +kernel
theorem dX8_init_12 : decode cX8_init 12 = .ok (.aload_n 0, 1) := by decide +kernel
theorem dX8_init_13 : decode cX8_init 13 = .ok (.bipush 40, 2) := by decide +kernel
theorem dX8_init_15 : decode cX8_init 15 = .ok (.newarray .long, 2) := by decide +kernel
theorem dX8_init_17 : decode cX8_init 17 = .ok (.putfield 15, 3) := by decide +kernel
theorem dX8_init_20 : decode cX8_init 20 = .ok (.aload_n 0, 1) := by decide +kernel
theorem dX8_init_21 : decode cX8_init 21 = .ok (.bipush 6, 2) := by decide +kernel
theorem dX8_init_23 : decode cX8_init 23 = .ok (.newarray .int, 2) := by decide +kernel
theorem dX8_init_25 : decode cX8_init 25 = .ok (.putfield 19, 3) := by decide +kernel
theorem dX8_init_28 : decode cX8_init 28 = .ok (.aload_n 0, 1) := by decide +kernel
theorem dX8_init_29 : decode cX8_init 29 = .ok (.iconst 1, 1) := by decide +kernel
theorem dX8_init_30 : decode cX8_init 30 = .ok (.putfield 22, 3) := by decide +kernel
theorem dX8_init_33 : decode cX8_init 33 = .ok (.aload_n 0, 1) := by decide +kernel
theorem dX8_init_34 : decode cX8_init 34 = .ok (.aload_n 1, 1) := by decide +kernel
theorem dX8_init_35 : decode cX8_init 35 = .ok (.putfield 26, 3) := by decide +kernel
theorem dX8_init_38 : decode cX8_init 38 = .ok (.return_, 1) := by decide +kernel
theorem dX8_spoil_0 : decode cX8_spoil 0 = .ok (.aload_n 0, 1) := by decide +kernel
theorem dX8_spoil_1 : decode cX8_spoil 1 = .ok (.iconst 1, 1) := by decide +kernel
theorem dX8_spoil_2 : decode cX8_spoil 2 = .ok (.putfield 22, 3) := by decide +kernel
theorem dX8_spoil_5 : decode cX8_spoil 5 = .ok (.return_, 1) := by decide +kernel
theorem dX8_refresh_0 : decode cX8_refresh 0 = .ok (.aload_n 0, 1) := by decide +kernel
theorem dX8_refresh_1 : decode cX8_refresh 1 = .ok (.getfield 22, 3) := by decide +kernel
theorem dX8_refresh_4 : decode cX8_refresh 4 = .ok (.ifCond .ne 4, 3) := by decide +kernel
theorem dX8_refresh_7 : decode cX8_refresh 7 = .ok (.return_, 1) := by decide +kernel
theorem dX8_refresh_8 : decode cX8_refresh 8 = .ok (.aload_n 0, 1) := by decide +kernel
theorem dX8_refresh_9 : decode cX8_refresh 9 = .ok (.iconst 0, 1) := by decide +kernel
theorem dX8_refresh_10 : decode cX8_refresh 10 = .ok (.putfield 22, 3) := by decide +kernel
theorem dX8_refresh_13 : decode cX8_refresh 13 = .ok (.aload_n 0, 1) := by decide +kernel
theorem dX8_refresh_14 : decode cX8_refresh 14 = .ok (.iconst 0, 1) := by decide +kernel
theorem dX8_refresh_15 : decode cX8_refresh 15 = .ok (.putfield 30, 3) := by decide +kernel
theorem dX8_refresh_18 : decode cX8_refresh 18 = .ok (.aload_n 0, 1) := by decide +kernel
theorem dX8_refresh_19 : decode cX8_refresh 19 = .ok (.iconst 0, 1) := by decide +kernel
theorem dX8_refresh_20 : decode cX8_refresh 20 = .ok (.putfield 34, 3) := by decide +kernel
theorem dX8_refresh_23 : decode cX8_refresh 23 = .ok (.aload_n 0, 1) := by decide +kernel
theorem dX8_refresh_24 : decode cX8_refresh 24 = .ok (.iconst (-1), 1) := by decide +kernel
theorem dX8_refresh_25 : decode cX8_refresh 25 = .ok (.putfield 37, 3) := by decide +kernel
theorem dX8_refresh_28 : decode cX8_refresh 28 = .ok (.aload_n 0, 1) := by decide +kernel
theorem dX8_refresh_29 : decode cX8_refresh 29 = .ok (.iconst 0, 1) := by decide +kernel
theorem dX8_refresh_30 : decode cX8_refresh 30 = .ok (.iconst 0, 1) := by decide +kernel
theorem dX8_refresh_31 : decode cX8_refresh 31 = .ok (.invokevirtual 40, 3) := by decide +kernel
theorem dX8_refresh_34 : decode cX8_refresh 34 = .ok (.aload_n 0, 1) := by decide +kernel
theorem dX8_refresh_35 : decode cX8_refresh 35 = .ok (.invokevirtual 44, 3) := by decide +kernel
theorem dX8_refresh_38 : decode cX8_refresh 38 = .ok (.iconst (-1), 1) := by decide +kernel
theorem dX8_refresh_39 : decode cX8_refresh 39 = .ok (.if_icmp .eq 12, 3) := by decide +kernel
theorem dX8_refresh_42 : decode cX8_refresh 42 = .ok (.aload_n 0, 1) := by decide +kernel
theorem dX8_refresh_43 : decode cX8_refresh 43 = .ok (.aload_n 0, 1) := by decide +kernel
theorem dX8_refresh_44 : decode cX8_refresh 44 = .ok (.getfield 34, 3) := by decide +kernel
theorem dX8_refresh_47 : decode cX8_refresh 47 = .ok (.iconst 1, 1) := by decide +kernel
theorem dX8_refresh_48 : decode cX8_refresh 48 = .ok (.invokevirtual 48, 3) := by decide +kernel
theorem dX8_refresh_51 : decode cX8_refresh 51 = .ok (.return_, 1) := by decide +kernel
theorem dX8_firstFault_0 : decode cX8_firstFault 0 = .ok (.aload_n 0, 1) := by decide +kernel
theorem dX8_firstFault_1 : decode cX8_firstFault 1 = .ok (.getfield 37, 3) := by decide +kernel
theorem dX8_firstFault_4 : decode cX8_firstFault 4 = .ok (.ireturn, 1) := by decide +kernel
theorem dX8_holds_0 : decode cX8_holds 0 = .ok (.aload_n 0, 1) := by decide +kernel
theorem dX8_holds_1 : decode cX8_holds 1 = .ok (.getfield 37, 3) := by decide +kernel
theorem dX8_holds_4 : decode cX8_holds 4 = .ok (.iconst (-1), 1) := by decide +kernel
theorem dX8_holds_5 : decode cX8_holds 5 = .ok (.if_icmp .eq 5, 3) := by decide +kernel
theorem dX8_holds_8 : decode cX8_holds 8 = .ok (.iconst 0, 1) := by decide +kernel
theorem dX8_holds_9 : decode cX8_holds 9 = .ok (.ireturn, 1) := by decide +kernel
theorem dX8_holds_10 : decode cX8_holds 10 = .ok (.aload_n 0, 1) := by decide +kernel
theorem dX8_holds_11 : decode cX8_holds 11 = .ok (.getfield 19, 3) := by decide +kernel
theorem dX8_holds_14 : decode cX8_holds 14 = .ok (.iconst 0, 1) := by decide +kernel
theorem dX8_holds_15 : decode cX8_holds 15 = .ok (.iload_n 3, 1) := by decide +kernel
theorem dX8_holds_16 : decode cX8_holds 16 = .ok (.iastore, 1) := by decide +kernel
theorem dX8_holds_17 : decode cX8_holds 17 = .ok (.aload_n 0, 1) := by decide +kernel
theorem dX8_holds_18 : decode cX8_holds 18 = .ok (.getfield 19, 3) := by decide +kernel
theorem dX8_holds_21 : decode cX8_holds 21 = .ok (.iconst 1, 1) := by decide +kernel
theorem dX8_holds_22 : decode cX8_holds 22 = .ok (.iload_n 2, 1) := by decide +kernel
