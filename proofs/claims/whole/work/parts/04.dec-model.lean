theorem dX9_init_0 : decode cX9_init 0 = .ok (.aload_n 0, 1) := by decide +kernel
theorem dX9_init_1 : decode cX9_init 1 = .ok (.invokespecial 1, 3) := by decide +kernel
theorem dX9_init_4 : decode cX9_init 4 = .ok (.aload_n 0, 1) := by decide +kernel
theorem dX9_init_5 : decode cX9_init 5 = .ok (.sipush 318, 3) := by decide +kernel
theorem dX9_init_8 : decode cX9_init 8 = .ok (.newarray .long, 2) := by decide +kernel
theorem dX9_init_10 : decode cX9_init 10 = .ok (.putfield 7, 3) := by decide +kernel
theorem dX9_init_13 : decode cX9_init 13 = .ok (.aload_n 0, 1) := by decide +kernel
theorem dX9_init_14 : decode cX9_init 14 = .ok (.sipush 1272, 3) := by decide +kernel
theorem dX9_init_17 : decode cX9_init 17 = .ok (.newarray .long, 2) := by decide +kernel
theorem dX9_init_19 : decode cX9_init 19 = .ok (.putfield 13, 3) := by decide +kernel
theorem dX9_init_22 : decode cX9_init 22 = .ok (.aload_n 0, 1) := by decide +kernel
theorem dX9_init_23 : decode cX9_init 23 = .ok (.bipush 8, 2) := by decide +kernel
theorem dX9_init_25 : decode cX9_init 25 = .ok (.newarray .long, 2) := by decide +kernel
theorem dX9_init_27 : decode cX9_init 27 = .ok (.putfield 16, 3) := by decide +kernel
theorem dX9_init_30 : decode cX9_init 30 = .ok (.aload_n 0, 1) := by decide +kernel
theorem dX9_init_31 : decode cX9_init 31 = .ok (.bipush 32, 2) := by decide +kernel
theorem dX9_init_33 : decode cX9_init 33 = .ok (.newarray .long, 2) := by decide +kernel
theorem dX9_init_35 : decode cX9_init 35 = .ok (.putfield 19, 3) := by decide +kernel
theorem dX9_init_38 : decode cX9_init 38 = .ok (.aload_n 0, 1) := by decide +kernel
theorem dX9_init_39 : decode cX9_init 39 = .ok (.bipush 17, 2) := by decide +kernel
theorem dX9_init_41 : decode cX9_init 41 = .ok (.newarray .long, 2) := by decide +kernel
theorem dX9_init_43 : decode cX9_init 43 = .ok (.putfield 22, 3) := by decide +kernel
theorem dX9_init_46 : decode cX9_init 46 = .ok (.aload_n 0, 1) := by decide +kernel
theorem dX9_init_47 : decode cX9_init 47 = .ok (.sipush 2304, 3) := by decide +kernel
theorem dX9_init_50 : decode cX9_init 50 = .ok (.newarray .int, 2) := by decide +kernel
theorem dX9_init_52 : decode cX9_init 52 = .ok (.putfield 25, 3) := by decide +kernel
theorem dX9_init_55 : decode cX9_init 55 = .ok (.aload_n 0, 1) := by decide +kernel
theorem dX9_init_56 : decode cX9_init 56 = .ok (.getfield 7, 3) := by decide +kernel
theorem dX9_init_59 : decode cX9_init 59 = .ok (.iconst 2, 1) := by decide +kernel
theorem dX9_init_60 : decode cX9_init 60 = .ok (.ldc2_w 29, 3) := by decide +kernel
theorem dX9_init_63 : decode cX9_init 63 = .ok (.lastore, 1) := by decide +kernel
theorem dX9_init_64 : decode cX9_init 64 = .ok (.aload_n 0, 1) := by decide +kernel
theorem dX9_init_65 : decode cX9_init 65 = .ok (.getfield 7, 3) := by decide +kernel
theorem dX9_init_68 : decode cX9_init 68 = .ok (.iconst 3, 1) := by decide +kernel
theorem dX9_init_69 : decode cX9_init 69 = .ok (.ldc2_w 31, 3) := by decide +kernel
theorem dX9_init_72 : decode cX9_init 72 = .ok (.lastore, 1) := by decide +kernel
theorem dX9_init_73 : decode cX9_init 73 = .ok (.aload_n 0, 1) := by decide +kernel
theorem dX9_init_74 : decode cX9_init 74 = .ok (.getfield 7, 3) := by decide +kernel
theorem dX9_init_77 : decode cX9_init 77 = .ok (.iconst 5, 1) := by decide +kernel
theorem dX9_init_78 : decode cX9_init 78 = .ok (.ldc2_w 29, 3) := by decide +kernel
theorem dX9_init_81 : decode cX9_init 81 = .ok (.lastore, 1) := by decide +kernel
theorem dX9_init_82 : decode cX9_init 82 = .ok (.aload_n 0, 1) := by decide +kernel
theorem dX9_init_83 : decode cX9_init 83 = .ok (.getfield 7, 3) := by decide +kernel
theorem dX9_init_86 : decode cX9_init 86 = .ok (.bipush 7, 2) := by decide +kernel
theorem dX9_init_88 : decode cX9_init 88 = .ok (.ldc2_w 31, 3) := by decide +kernel
theorem dX9_init_91 : decode cX9_init 91 = .ok (.lastore, 1) := by decide +kernel
theorem dX9_init_92 : decode cX9_init 92 = .ok (.aload_n 0, 1) := by decide +kernel
theorem dX9_init_93 : decode cX9_init 93 = .ok (.getfield 7, 3) := by decide +kernel
theorem dX9_init_96 : decode cX9_init 96 = .ok (.bipush 8, 2) := by decide +kernel
theorem dX9_init_98 : decode cX9_init 98 = .ok (.ldc2_w 29, 3) := by decide +kernel
theorem dX9_init_101 : decode cX9_init 101 = .ok (.lastore, 1) := by decide +kernel
theorem dX9_init_102 : decode cX9_init 102 = .ok (.aload_n 0, 1) := by decide +kernel
theorem dX9_init_103 : decode cX9_init 103 = .ok (.getfield 7, 3) := by decide +kernel
theorem dX9_init_106 : decode cX9_init 106 = .ok (.bipush 34, 2) := by decide +kernel
theorem dX9_init_108 : decode cX9_init 108 = .ok (.ldc2_w 33, 3) := by decide +kernel
theorem dX9_init_111 : decode cX9_init 111 = .ok (.lastore, 1) := by decide +kernel
theorem dX9_init_112 : decode cX9_init 112 = .ok (.aload_n 0, 1) := by decide +kernel
theorem dX9_init_113 : decode cX9_init 113 = .ok (.invokevirtual 35, 3) := by decide +kernel
theorem dX9_init_116 : decode cX9_init 116 = .ok (.return_, 1) := by decide +kernel
theorem dX9_thrown_0 : decode cX9_thrown 0 = .ok (.aload_n 0, 1) := by decide +kernel
theorem dX9_thrown_1 : decode cX9_thrown 1 = .ok (.getfield 38, 3) := by decide +kernel
theorem dX9_thrown_4 : decode cX9_thrown 4 = .ok (.ireturn, 1) := by decide +kernel
theorem dX9_refused_0 : decode cX9_refused 0 = .ok (.aload_n 0, 1) := by decide +kernel
theorem dX9_refused_1 : decode cX9_refused 1 = .ok (.iload_n 1, 1) := by decide +kernel
theorem dX9_refused_2 : decode cX9_refused 2 = .ok (.putfield 38, 3) := by decide +kernel
theorem dX9_refused_5 : decode cX9_refused 5 = .ok (.iload_n 1, 1) := by decide +kernel
theorem dX9_refused_6 : decode cX9_refused 6 = .ok (.ifCond .le 7, 3) := by decide +kernel
theorem dX9_refused_9 : decode cX9_refused 9 = .ok (.iconst 1, 1) := by decide +kernel
theorem dX9_refused_10 : decode cX9_refused 10 = .ok (.goto 4, 3) := by decide +kernel
theorem dX9_refused_13 : decode cX9_refused 13 = .ok (.iconst 0, 1) := by decide +kernel
theorem dX9_refused_14 : decode cX9_refused 14 = .ok (.ireturn, 1) := by decide +kernel
theorem dX9_within_0 : decode cX9_within 0 = .ok (.lload_n 0, 1) := by decide +kernel
theorem dX9_within_1 : decode cX9_within 1 = .ok (.lload_n 2, 1) := by decide +kernel
theorem dX9_within_2 : decode cX9_within 2 = .ok (.lcmp, 1) := by decide +kernel
theorem dX9_within_3 : decode cX9_within 3 = .ok (.ifCond .lt 14, 3) := by decide +kernel
theorem dX9_within_6 : decode cX9_within 6 = .ok (.lload_n 0, 1) := by decide +kernel
theorem dX9_within_7 : decode cX9_within 7 = .ok (.lload 4, 2) := by decide +kernel
theorem dX9_within_9 : decode cX9_within 9 = .ok (.lcmp, 1) := by decide +kernel
theorem dX9_within_10 : decode cX9_within 10 = .ok (.ifCond .gt 7, 3) := by decide +kernel
theorem dX9_within_13 : decode cX9_within 13 = .ok (.iconst 1, 1) := by decide +kernel
theorem dX9_within_14 : decode cX9_within 14 = .ok (.goto 4, 3) := by decide +kernel
theorem dX9_within_17 : decode cX9_within 17 = .ok (.iconst 0, 1) := by decide +kernel
theorem dX9_within_18 : decode cX9_within 18 = .ok (.ireturn, 1) := by decide +kernel
theorem dX9_many_0 : decode cX9_many 0 = .ok (.aload_n 0, 1) := by decide +kernel
theorem dX9_many_1 : decode cX9_many 1 = .ok (.getfield 7, 3) := by decide +kernel
theorem dX9_many_4 : decode cX9_many 4 = .ok (.iload_n 1, 1) := by decide +kernel
theorem dX9_many_5 : decode cX9_many 5 = .ok (.laload, 1) := by decide +kernel
theorem dX9_many_6 : decode cX9_many 6 = .ok (.l2i, 1) := by decide +kernel
theorem dX9_many_7 : decode cX9_many 7 = .ok (.ireturn, 1) := by decide +kernel
theorem dX9_isPlace_0 : decode cX9_isPlace 0 = .ok (.iload_n 0, 1) := by decide +kernel
theorem dX9_isPlace_1 : decode cX9_isPlace 1 = .ok (.i2l, 1) := by decide +kernel
theorem dX9_isPlace_2 : decode cX9_isPlace 2 = .ok (.ldc2_w 42, 3) := by decide +kernel
theorem dX9_isPlace_5 : decode cX9_isPlace 5 = .ok (.ldc2_w 31, 3) := by decide +kernel
theorem dX9_isPlace_8 : decode cX9_isPlace 8 = .ok (.invokestatic 44, 3) := by decide +kernel
theorem dX9_isPlace_11 : decode cX9_isPlace 11 = .ok (.ifCond .eq 21, 3) := by decide +kernel
theorem dX9_isPlace_14 : decode cX9_isPlace 14 = .ok (.iload_n 1, 1) := by decide +kernel
theorem dX9_isPlace_15 : decode cX9_isPlace 15 = .ok (.i2l, 1) := by decide +kernel
theorem dX9_isPlace_16 : decode cX9_isPlace 16 = .ok (.ldc2_w 42, 3) := by decide +kernel
theorem dX9_isPlace_19 : decode cX9_isPlace 19 = .ok (.ldc2_w 31, 3) := by decide +kernel
theorem dX9_isPlace_22 : decode cX9_isPlace 22 = .ok (.invokestatic 44, 3) := by decide +kernel
theorem dX9_isPlace_25 : decode cX9_isPlace 25 = .ok (.ifCond .eq 7, 3) := by decide +kernel
theorem dX9_isPlace_28 : decode cX9_isPlace 28 = .ok (.iconst 1, 1) := by decide +kernel
theorem dX9_isPlace_29 : decode cX9_isPlace 29 = .ok (.goto 4, 3) := by decide +kernel
theorem dX9_isPlace_32 : decode cX9_isPlace 32 = .ok (.iconst 0, 1) := by decide +kernel
theorem dX9_isPlace_33 : decode cX9_isPlace 33 = .ok (.ireturn, 1) := by decide +kernel
theorem dX9_isPart_0 : decode cX9_isPart 0 = .ok (.iload_n 0, 1) := by decide +kernel
theorem dX9_isPart_1 : decode cX9_isPart 1 = .ok (.ifCond .eq 8, 3) := by decide +kernel
theorem dX9_isPart_4 : decode cX9_isPart 4 = .ok (.iload_n 0, 1) := by decide +kernel
theorem dX9_isPart_5 : decode cX9_isPart 5 = .ok (.iconst 1, 1) := by decide +kernel
theorem dX9_isPart_6 : decode cX9_isPart 6 = .ok (.if_icmp .ne 7, 3) := by decide +kernel
theorem dX9_isPart_9 : decode cX9_isPart 9 = .ok (.iconst 1, 1) := by decide +kernel
theorem dX9_isPart_10 : decode cX9_isPart 10 = .ok (.goto 4, 3) := by decide +kernel
theorem dX9_isPart_13 : decode cX9_isPart 13 = .ok (.iconst 0, 1) := by decide +kernel
theorem dX9_isPart_14 : decode cX9_isPart 14 = .ok (.ireturn, 1) := by decide +kernel
theorem dX9_divisor_0 : decode cX9_divisor 0 = .ok (.lload_n 0, 1) := by decide +kernel
theorem dX9_divisor_1 : decode cX9_divisor 1 = .ok (.lconst 0, 1) := by decide +kernel
theorem dX9_divisor_2 : decode cX9_divisor 2 = .ok (.lcmp, 1) := by decide +kernel
theorem dX9_divisor_3 : decode cX9_divisor 3 = .ok (.ifCond .ge 8, 3) := by decide +kernel
theorem dX9_divisor_6 : decode cX9_divisor 6 = .ok (.lload_n 0, 1) := by decide +kernel
theorem dX9_divisor_7 : decode cX9_divisor 7 = .ok (.lneg, 1) := by decide +kernel
theorem dX9_divisor_8 : decode cX9_divisor 8 = .ok (.goto 4, 3) := by decide +kernel
theorem dX9_divisor_11 : decode cX9_divisor 11 = .ok (.lload_n 0, 1) := by decide +kernel
theorem dX9_divisor_12 : decode cX9_divisor 12 = .ok (.lstore 4, 2) := by decide +kernel
theorem dX9_divisor_14 : decode cX9_divisor 14 = .ok (.lload_n 2, 1) := by decide +kernel
theorem dX9_divisor_15 : decode cX9_divisor 15 = .ok (.lconst 0, 1) := by decide +kernel
theorem dX9_divisor_16 : decode cX9_divisor 16 = .ok (.lcmp, 1) := by decide +kernel
theorem dX9_divisor_17 : decode cX9_divisor 17 = .ok (.ifCond .ge 8, 3) := by decide +kernel
theorem dX9_divisor_20 : decode cX9_divisor 20 = .ok (.lload_n 2, 1) := by decide +kernel
theorem dX9_divisor_21 : decode cX9_divisor 21 = .ok (.lneg, 1) := by decide +kernel
theorem dX9_divisor_22 : decode cX9_divisor 22 = .ok (.goto 4, 3) := by decide +kernel
theorem dX9_divisor_25 : decode cX9_divisor 25 = .ok (.lload_n 2, 1) := by decide +kernel
theorem dX9_divisor_26 : decode cX9_divisor 26 = .ok (.lstore 6, 2) := by decide +kernel
theorem dX9_divisor_28 : decode cX9_divisor 28 = .ok (.lload 6, 2) := by decide +kernel
theorem dX9_divisor_30 : decode cX9_divisor 30 = .ok (.lconst 0, 1) := by decide +kernel
theorem dX9_divisor_31 : decode cX9_divisor 31 = .ok (.lcmp, 1) := by decide +kernel
theorem dX9_divisor_32 : decode cX9_divisor 32 = .ok (.ifCond .eq 21, 3) := by decide +kernel
theorem dX9_divisor_35 : decode cX9_divisor 35 = .ok (.lload 4, 2) := by decide +kernel
theorem dX9_divisor_37 : decode cX9_divisor 37 = .ok (.lload 6, 2) := by decide +kernel
theorem dX9_divisor_39 : decode cX9_divisor 39 = .ok (.lrem, 1) := by decide +kernel
theorem dX9_divisor_40 : decode cX9_divisor 40 = .ok (.lstore 8, 2) := by decide +kernel
theorem dX9_divisor_42 : decode cX9_divisor 42 = .ok (.lload 6, 2) := by decide +kernel
theorem dX9_divisor_44 : decode cX9_divisor 44 = .ok (.lstore 4, 2) := by decide +kernel
theorem dX9_divisor_46 : decode cX9_divisor 46 = .ok (.lload 8, 2) := by decide +kernel
theorem dX9_divisor_48 : decode cX9_divisor 48 = .ok (.lstore 6, 2) := by decide +kernel
theorem dX9_divisor_50 : decode cX9_divisor 50 = .ok (.goto (-22), 3) := by decide +kernel
theorem dX9_divisor_53 : decode cX9_divisor 53 = .ok (.lload 4, 2) := by decide +kernel
theorem dX9_divisor_55 : decode cX9_divisor 55 = .ok (.lreturn, 1) := by decide +kernel
theorem dX9_partOf_0 : decode cX9_partOf 0 = .ok (.lload_n 0, 1) := by decide +kernel
theorem dX9_partOf_1 : decode cX9_partOf 1 = .ok (.lload_n 2, 1) := by decide +kernel
theorem dX9_partOf_2 : decode cX9_partOf 2 = .ok (.invokestatic 48, 3) := by decide +kernel
theorem dX9_partOf_5 : decode cX9_partOf 5 = .ok (.lstore 5, 2) := by decide +kernel
theorem dX9_partOf_7 : decode cX9_partOf 7 = .ok (.lload_n 2, 1) := by decide +kernel
theorem dX9_partOf_8 : decode cX9_partOf 8 = .ok (.lconst 0, 1) := by decide +kernel
theorem dX9_partOf_9 : decode cX9_partOf 9 = .ok (.lcmp, 1) := by decide +kernel
theorem dX9_partOf_10 : decode cX9_partOf 10 = .ok (.ifCond .ge 9, 3) := by decide +kernel
theorem dX9_partOf_13 : decode cX9_partOf 13 = .ok (.lload 5, 2) := by decide +kernel
theorem dX9_partOf_15 : decode cX9_partOf 15 = .ok (.lneg, 1) := by decide +kernel
theorem dX9_partOf_16 : decode cX9_partOf 16 = .ok (.goto 5, 3) := by decide +kernel
theorem dX9_partOf_19 : decode cX9_partOf 19 = .ok (.lload 5, 2) := by decide +kernel
theorem dX9_partOf_21 : decode cX9_partOf 21 = .ok (.lstore 5, 2) := by decide +kernel
theorem dX9_partOf_23 : decode cX9_partOf 23 = .ok (.iload 4, 2) := by decide +kernel
theorem dX9_partOf_25 : decode cX9_partOf 25 = .ok (.ifCond .ne 10, 3) := by decide +kernel
theorem dX9_partOf_28 : decode cX9_partOf 28 = .ok (.lload_n 0, 1) := by decide +kernel
theorem dX9_partOf_29 : decode cX9_partOf 29 = .ok (.lload 5, 2) := by decide +kernel
theorem dX9_partOf_31 : decode cX9_partOf 31 = .ok (.ldiv, 1) := by decide +kernel
theorem dX9_partOf_32 : decode cX9_partOf 32 = .ok (.goto 7, 3) := by decide +kernel
theorem dX9_partOf_35 : decode cX9_partOf 35 = .ok (.lload_n 2, 1) := by decide +kernel
theorem dX9_partOf_36 : decode cX9_partOf 36 = .ok (.lload 5, 2) := by decide +kernel
theorem dX9_partOf_38 : decode cX9_partOf 38 = .ok (.ldiv, 1) := by decide +kernel
theorem dX9_partOf_39 : decode cX9_partOf 39 = .ok (.lreturn, 1) := by decide +kernel
theorem dX9_floor_0 : decode cX9_floor 0 = .ok (.lload_n 0, 1) := by decide +kernel
theorem dX9_floor_1 : decode cX9_floor 1 = .ok (.lload_n 2, 1) := by decide +kernel
theorem dX9_floor_2 : decode cX9_floor 2 = .ok (.ldiv, 1) := by decide +kernel
theorem dX9_floor_3 : decode cX9_floor 3 = .ok (.lstore 4, 2) := by decide +kernel
theorem dX9_floor_5 : decode cX9_floor 5 = .ok (.lload_n 0, 1) := by decide +kernel
theorem dX9_floor_6 : decode cX9_floor 6 = .ok (.lload_n 2, 1) := by decide +kernel
theorem dX9_floor_7 : decode cX9_floor 7 = .ok (.lrem, 1) := by decide +kernel
theorem dX9_floor_8 : decode cX9_floor 8 = .ok (.lconst 0, 1) := by decide +kernel
theorem dX9_floor_9 : decode cX9_floor 9 = .ok (.lcmp, 1) := by decide +kernel
theorem dX9_floor_10 : decode cX9_floor 10 = .ok (.ifCond .ge 10, 3) := by decide +kernel
theorem dX9_floor_13 : decode cX9_floor 13 = .ok (.lload 4, 2) := by decide +kernel
theorem dX9_floor_15 : decode cX9_floor 15 = .ok (.lconst 1, 1) := by decide +kernel
theorem dX9_floor_16 : decode cX9_floor 16 = .ok (.lsub, 1) := by decide +kernel
theorem dX9_floor_17 : decode cX9_floor 17 = .ok (.goto 5, 3) := by decide +kernel
theorem dX9_floor_20 : decode cX9_floor 20 = .ok (.lload 4, 2) := by decide +kernel
theorem dX9_floor_22 : decode cX9_floor 22 = .ok (.lreturn, 1) := by decide +kernel
theorem dX9_saves_0 : decode cX9_saves 0 = .ok (.aload_n 0, 1) := by decide +kernel
theorem dX9_saves_1 : decode cX9_saves 1 = .ok (.getfield 52, 3) := by decide +kernel
theorem dX9_saves_4 : decode cX9_saves 4 = .ok (.iconst 4, 1) := by decide +kernel
theorem dX9_saves_5 : decode cX9_saves 5 = .ok (.if_icmp .ne 44, 3) := by decide +kernel
theorem dX9_saves_8 : decode cX9_saves 8 = .ok (.iconst 0, 1) := by decide +kernel
theorem dX9_saves_9 : decode cX9_saves 9 = .ok (.istore_n 1, 1) := by decide +kernel
theorem dX9_saves_10 : decode cX9_saves 10 = .ok (.iload_n 1, 1) := by decide +kernel
theorem dX9_saves_11 : decode cX9_saves 11 = .ok (.sipush 954, 3) := by decide +kernel
theorem dX9_saves_14 : decode cX9_saves 14 = .ok (.if_icmp .ge 25, 3) := by decide +kernel
theorem dX9_saves_17 : decode cX9_saves 17 = .ok (.aload_n 0, 1) := by decide +kernel
theorem dX9_saves_18 : decode cX9_saves 18 = .ok (.getfield 13, 3) := by decide +kernel
theorem dX9_saves_21 : decode cX9_saves 21 = .ok (.iload_n 1, 1) := by decide +kernel
theorem dX9_saves_22 : decode cX9_saves 22 = .ok (.aload_n 0, 1) := by decide +kernel
theorem dX9_saves_23 : decode cX9_saves 23 = .ok (.getfield 13, 3) := by decide +kernel
theorem dX9_saves_26 : decode cX9_saves 26 = .ok (.iload_n 1, 1) := by decide +kernel
theorem dX9_saves_27 : decode cX9_saves 27 = .ok (.sipush 318, 3) := by decide +kernel
theorem dX9_saves_30 : decode cX9_saves 30 = .ok (.iadd, 1) := by decide +kernel
theorem dX9_saves_31 : decode cX9_saves 31 = .ok (.laload, 1) := by decide +kernel
theorem dX9_saves_32 : decode cX9_saves 32 = .ok (.lastore, 1) := by decide +kernel
theorem dX9_saves_33 : decode cX9_saves 33 = .ok (.iinc 1 1, 3) := by decide +kernel
theorem dX9_saves_36 : decode cX9_saves 36 = .ok (.goto (-26), 3) := by decide +kernel
theorem dX9_saves_39 : decode cX9_saves 39 = .ok (.aload_n 0, 1) := by decide +kernel
theorem dX9_saves_40 : decode cX9_saves 40 = .ok (.dup, 1) := by decide +kernel
theorem dX9_saves_41 : decode cX9_saves 41 = .ok (.getfield 52, 3) := by decide +kernel
theorem dX9_saves_44 : decode cX9_saves 44 = .ok (.iconst 1, 1) := by decide +kernel
theorem dX9_saves_45 : decode cX9_saves 45 = .ok (.isub, 1) := by decide +kernel
theorem dX9_saves_46 : decode cX9_saves 46 = .ok (.putfield 52, 3) := by decide +kernel
theorem dX9_saves_49 : decode cX9_saves 49 = .ok (.iconst 0, 1) := by decide +kernel
theorem dX9_saves_50 : decode cX9_saves 50 = .ok (.istore_n 1, 1) := by decide +kernel
theorem dX9_saves_51 : decode cX9_saves 51 = .ok (.iload_n 1, 1) := by decide +kernel
theorem dX9_saves_52 : decode cX9_saves 52 = .ok (.sipush 318, 3) := by decide +kernel
theorem dX9_saves_55 : decode cX9_saves 55 = .ok (.if_icmp .ge 30, 3) := by decide +kernel
theorem dX9_saves_58 : decode cX9_saves 58 = .ok (.aload_n 0, 1) := by decide +kernel
theorem dX9_saves_59 : decode cX9_saves 59 = .ok (.getfield 13, 3) := by decide +kernel
theorem dX9_saves_62 : decode cX9_saves 62 = .ok (.sipush 318, 3) := by decide +kernel
theorem dX9_saves_65 : decode cX9_saves 65 = .ok (.aload_n 0, 1) := by decide +kernel
theorem dX9_saves_66 : decode cX9_saves 66 = .ok (.getfield 52, 3) := by decide +kernel
theorem dX9_saves_69 : decode cX9_saves 69 = .ok (.imul, 1) := by decide +kernel
theorem dX9_saves_70 : decode cX9_saves 70 = .ok (.iload_n 1, 1) := by decide +kernel
theorem dX9_saves_71 : decode cX9_saves 71 = .ok (.iadd, 1) := by decide +kernel
theorem dX9_saves_72 : decode cX9_saves 72 = .ok (.aload_n 0, 1) := by decide +kernel
theorem dX9_saves_73 : decode cX9_saves 73 = .ok (.getfield 7, 3) := by decide +kernel
theorem dX9_saves_76 : decode cX9_saves 76 = .ok (.iload_n 1, 1) := by decide +kernel
theorem dX9_saves_77 : decode cX9_saves 77 = .ok (.laload, 1) := by decide +kernel
theorem dX9_saves_78 : decode cX9_saves 78 = .ok (.lastore, 1) := by decide +kernel
theorem dX9_saves_79 : decode cX9_saves 79 = .ok (.iinc 1 1, 3) := by decide +kernel
theorem dX9_saves_82 : decode cX9_saves 82 = .ok (.goto (-31), 3) := by decide +kernel
theorem dX9_saves_85 : decode cX9_saves 85 = .ok (.aload_n 0, 1) := by decide +kernel
theorem dX9_saves_86 : decode cX9_saves 86 = .ok (.dup, 1) := by decide +kernel
theorem dX9_saves_87 : decode cX9_saves 87 = .ok (.getfield 52, 3) := by decide +kernel
theorem dX9_saves_90 : decode cX9_saves 90 = .ok (.iconst 1, 1) := by decide +kernel
theorem dX9_saves_91 : decode cX9_saves 91 = .ok (.iadd, 1) := by decide +kernel
theorem dX9_saves_92 : decode cX9_saves 92 = .ok (.putfield 52, 3) := by decide +kernel
theorem dX9_saves_95 : decode cX9_saves 95 = .ok (.return_, 1) := by decide +kernel
theorem dX9_undo_0 : decode cX9_undo 0 = .ok (.aload_n 0, 1) := by decide +kernel
theorem dX9_undo_1 : decode cX9_undo 1 = .ok (.aload_n 0, 1) := by decide +kernel
theorem dX9_undo_2 : decode cX9_undo 2 = .ok (.getfield 52, 3) := by decide +kernel
theorem dX9_undo_5 : decode cX9_undo 5 = .ok (.ifCond .ne 7, 3) := by decide +kernel
theorem dX9_undo_8 : decode cX9_undo 8 = .ok (.iconst 1, 1) := by decide +kernel
theorem dX9_undo_9 : decode cX9_undo 9 = .ok (.goto 4, 3) := by decide +kernel
theorem dX9_undo_12 : decode cX9_undo 12 = .ok (.iconst 0, 1) := by decide +kernel
theorem dX9_undo_13 : decode cX9_undo 13 = .ok (.invokevirtual 55, 3) := by decide +kernel
theorem dX9_undo_16 : decode cX9_undo 16 = .ok (.ifCond .eq 5, 3) := by decide +kernel
theorem dX9_undo_19 : decode cX9_undo 19 = .ok (.iconst 0, 1) := by decide +kernel
theorem dX9_undo_20 : decode cX9_undo 20 = .ok (.ireturn, 1) := by decide +kernel
theorem dX9_undo_21 : decode cX9_undo 21 = .ok (.aload_n 0, 1) := by decide +kernel
theorem dX9_undo_22 : decode cX9_undo 22 = .ok (.dup, 1) := by decide +kernel
theorem dX9_undo_23 : decode cX9_undo 23 = .ok (.getfield 52, 3) := by decide +kernel
theorem dX9_undo_26 : decode cX9_undo 26 = .ok (.iconst 1, 1) := by decide +kernel
theorem dX9_undo_27 : decode cX9_undo 27 = .ok (.isub, 1) := by decide +kernel
theorem dX9_undo_28 : decode cX9_undo 28 = .ok (.putfield 52, 3) := by decide +kernel
theorem dX9_undo_31 : decode cX9_undo 31 = .ok (.iconst 0, 1) := by decide +kernel
theorem dX9_undo_32 : decode cX9_undo 32 = .ok (.istore_n 1, 1) := by decide +kernel
theorem dX9_undo_33 : decode cX9_undo 33 = .ok (.iload_n 1, 1) := by decide +kernel
theorem dX9_undo_34 : decode cX9_undo 34 = .ok (.sipush 318, 3) := by decide +kernel
theorem dX9_undo_37 : decode cX9_undo 37 = .ok (.if_icmp .ge 30, 3) := by decide +kernel
theorem dX9_undo_40 : decode cX9_undo 40 = .ok (.aload_n 0, 1) := by decide +kernel
theorem dX9_undo_41 : decode cX9_undo 41 = .ok (.getfield 7, 3) := by decide +kernel
theorem dX9_undo_44 : decode cX9_undo 44 = .ok (.iload_n 1, 1) := by decide +kernel
theorem dX9_undo_45 : decode cX9_undo 45 = .ok (.aload_n 0, 1) := by decide +kernel
theorem dX9_undo_46 : decode cX9_undo 46 = .ok (.getfield 13, 3) := by decide +kernel
theorem dX9_undo_49 : decode cX9_undo 49 = .ok (.sipush 318, 3) := by decide +kernel
theorem dX9_undo_52 : decode cX9_undo 52 = .ok (.aload_n 0, 1) := by decide +kernel
theorem dX9_undo_53 : decode cX9_undo 53 = .ok (.getfield 52, 3) := by decide +kernel
theorem dX9_undo_56 : decode cX9_undo 56 = .ok (.imul, 1) := by decide +kernel
theorem dX9_undo_57 : decode cX9_undo 57 = .ok (.iload_n 1, 1) := by decide +kernel
theorem dX9_undo_58 : decode cX9_undo 58 = .ok (.iadd, 1) := by decide +kernel
theorem dX9_undo_59 : decode cX9_undo 59 = .ok (.laload, 1) := by decide +kernel
theorem dX9_undo_60 : decode cX9_undo 60 = .ok (.lastore, 1) := by decide +kernel
theorem dX9_undo_61 : decode cX9_undo 61 = .ok (.iinc 1 1, 3) := by decide +kernel
theorem dX9_undo_64 : decode cX9_undo 64 = .ok (.goto (-31), 3) := by decide +kernel
theorem dX9_undo_67 : decode cX9_undo 67 = .ok (.aload_n 0, 1) := by decide +kernel
theorem dX9_undo_68 : decode cX9_undo 68 = .ok (.getfield 52, 3) := by decide +kernel
theorem dX9_undo_71 : decode cX9_undo 71 = .ok (.ireturn, 1) := by decide +kernel
theorem dX9_isCell_0 : decode cX9_isCell 0 = .ok (.iload_n 0, 1) := by decide +kernel
theorem dX9_isCell_1 : decode cX9_isCell 1 = .ok (.i2l, 1) := by decide +kernel
theorem dX9_isCell_2 : decode cX9_isCell 2 = .ok (.lconst 0, 1) := by decide +kernel
theorem dX9_isCell_3 : decode cX9_isCell 3 = .ok (.ldc2_w 33, 3) := by decide +kernel
theorem dX9_isCell_6 : decode cX9_isCell 6 = .ok (.invokestatic 44, 3) := by decide +kernel
theorem dX9_isCell_9 : decode cX9_isCell 9 = .ok (.ireturn, 1) := by decide +kernel
theorem dX9_cellX_0 : decode cX9_cellX 0 = .ok (.aload_n 0, 1) := by decide +kernel
theorem dX9_cellX_1 : decode cX9_cellX 1 = .ok (.getfield 7, 3) := by decide +kernel
theorem dX9_cellX_4 : decode cX9_cellX 4 = .ok (.iconst 0, 1) := by decide +kernel
theorem dX9_cellX_5 : decode cX9_cellX 5 = .ok (.iconst 3, 1) := by decide +kernel
theorem dX9_cellX_6 : decode cX9_cellX 6 = .ok (.iload_n 1, 1) := by decide +kernel
theorem dX9_cellX_7 : decode cX9_cellX 7 = .ok (.iconst 3, 1) := by decide +kernel
theorem dX9_cellX_8 : decode cX9_cellX 8 = .ok (.irem, 1) := by decide +kernel
theorem dX9_cellX_9 : decode cX9_cellX 9 = .ok (.imul, 1) := by decide +kernel
theorem dX9_cellX_10 : decode cX9_cellX 10 = .ok (.iadd, 1) := by decide +kernel
theorem dX9_cellX_11 : decode cX9_cellX 11 = .ok (.laload, 1) := by decide +kernel
theorem dX9_cellX_12 : decode cX9_cellX 12 = .ok (.lreturn, 1) := by decide +kernel
theorem dX9_cellY_0 : decode cX9_cellY 0 = .ok (.aload_n 0, 1) := by decide +kernel
theorem dX9_cellY_1 : decode cX9_cellY 1 = .ok (.getfield 7, 3) := by decide +kernel
theorem dX9_cellY_4 : decode cX9_cellY 4 = .ok (.iconst 0, 1) := by decide +kernel
theorem dX9_cellY_5 : decode cX9_cellY 5 = .ok (.iconst 3, 1) := by decide +kernel
theorem dX9_cellY_6 : decode cX9_cellY 6 = .ok (.iload_n 1, 1) := by decide +kernel
theorem dX9_cellY_7 : decode cX9_cellY 7 = .ok (.iconst 3, 1) := by decide +kernel
theorem dX9_cellY_8 : decode cX9_cellY 8 = .ok (.irem, 1) := by decide +kernel
theorem dX9_cellY_9 : decode cX9_cellY 9 = .ok (.imul, 1) := by decide +kernel
theorem dX9_cellY_10 : decode cX9_cellY 10 = .ok (.iadd, 1) := by decide +kernel
theorem dX9_cellY_11 : decode cX9_cellY 11 = .ok (.iconst 1, 1) := by decide +kernel
theorem dX9_cellY_12 : decode cX9_cellY 12 = .ok (.iadd, 1) := by decide +kernel
theorem dX9_cellY_13 : decode cX9_cellY 13 = .ok (.laload, 1) := by decide +kernel
theorem dX9_cellY_14 : decode cX9_cellY 14 = .ok (.lreturn, 1) := by decide +kernel
theorem dX9_area_0 : decode cX9_area 0 = .ok (.aload_n 0, 1) := by decide +kernel
theorem dX9_area_1 : decode cX9_area 1 = .ok (.iconst 1, 1) := by decide +kernel
theorem dX9_area_2 : decode cX9_area 2 = .ok (.invokevirtual 59, 3) := by decide +kernel
theorem dX9_area_5 : decode cX9_area 5 = .ok (.aload_n 0, 1) := by decide +kernel
theorem dX9_area_6 : decode cX9_area 6 = .ok (.iconst 0, 1) := by decide +kernel
theorem dX9_area_7 : decode cX9_area 7 = .ok (.invokevirtual 59, 3) := by decide +kernel
theorem dX9_area_10 : decode cX9_area 10 = .ok (.lsub, 1) := by decide +kernel
theorem dX9_area_11 : decode cX9_area 11 = .ok (.aload_n 0, 1) := by decide +kernel
theorem dX9_area_12 : decode cX9_area 12 = .ok (.iconst 2, 1) := by decide +kernel
theorem dX9_area_13 : decode cX9_area 13 = .ok (.invokevirtual 63, 3) := by decide +kernel
theorem dX9_area_16 : decode cX9_area 16 = .ok (.aload_n 0, 1) := by decide +kernel
theorem dX9_area_17 : decode cX9_area 17 = .ok (.iconst 0, 1) := by decide +kernel
theorem dX9_area_18 : decode cX9_area 18 = .ok (.invokevirtual 63, 3) := by decide +kernel
theorem dX9_area_21 : decode cX9_area 21 = .ok (.lsub, 1) := by decide +kernel
theorem dX9_area_22 : decode cX9_area 22 = .ok (.lmul, 1) := by decide +kernel
theorem dX9_area_23 : decode cX9_area 23 = .ok (.aload_n 0, 1) := by decide +kernel
theorem dX9_area_24 : decode cX9_area 24 = .ok (.iconst 2, 1) := by decide +kernel
theorem dX9_area_25 : decode cX9_area 25 = .ok (.invokevirtual 59, 3) := by decide +kernel
theorem dX9_area_28 : decode cX9_area 28 = .ok (.aload_n 0, 1) := by decide +kernel
theorem dX9_area_29 : decode cX9_area 29 = .ok (.iconst 0, 1) := by decide +kernel
theorem dX9_area_30 : decode cX9_area 30 = .ok (.invokevirtual 59, 3) := by decide +kernel
theorem dX9_area_33 : decode cX9_area 33 = .ok (.lsub, 1) := by decide +kernel
theorem dX9_area_34 : decode cX9_area 34 = .ok (.aload_n 0, 1) := by decide +kernel
theorem dX9_area_35 : decode cX9_area 35 = .ok (.iconst 1, 1) := by decide +kernel
theorem dX9_area_36 : decode cX9_area 36 = .ok (.invokevirtual 63, 3) := by decide +kernel
theorem dX9_area_39 : decode cX9_area 39 = .ok (.aload_n 0, 1) := by decide +kernel
theorem dX9_area_40 : decode cX9_area 40 = .ok (.iconst 0, 1) := by decide +kernel
theorem dX9_area_41 : decode cX9_area 41 = .ok (.invokevirtual 63, 3) := by decide +kernel
theorem dX9_area_44 : decode cX9_area 44 = .ok (.lsub, 1) := by decide +kernel
theorem dX9_area_45 : decode cX9_area 45 = .ok (.lmul, 1) := by decide +kernel
theorem dX9_area_46 : decode cX9_area 46 = .ok (.lsub, 1) := by decide +kernel
theorem dX9_area_47 : decode cX9_area 47 = .ok (.lreturn, 1) := by decide +kernel
theorem dX9_share_0 : decode cX9_share 0 = .ok (.aload_n 0, 1) := by decide +kernel
theorem dX9_share_1 : decode cX9_share 1 = .ok (.iload_n 1, 1) := by decide +kernel
theorem dX9_share_2 : decode cX9_share 2 = .ok (.iconst 1, 1) := by decide +kernel
theorem dX9_share_3 : decode cX9_share 3 = .ok (.iadd, 1) := by decide +kernel
theorem dX9_share_4 : decode cX9_share 4 = .ok (.invokevirtual 59, 3) := by decide +kernel
theorem dX9_share_7 : decode cX9_share 7 = .ok (.lstore 8, 2) := by decide +kernel
theorem dX9_share_9 : decode cX9_share 9 = .ok (.aload_n 0, 1) := by decide +kernel
theorem dX9_share_10 : decode cX9_share 10 = .ok (.iload_n 1, 1) := by decide +kernel
theorem dX9_share_11 : decode cX9_share 11 = .ok (.iconst 1, 1) := by decide +kernel
theorem dX9_share_12 : decode cX9_share 12 = .ok (.iadd, 1) := by decide +kernel
theorem dX9_share_13 : decode cX9_share 13 = .ok (.invokevirtual 63, 3) := by decide +kernel
theorem dX9_share_16 : decode cX9_share 16 = .ok (.lstore 10, 2) := by decide +kernel
theorem dX9_share_18 : decode cX9_share 18 = .ok (.aload_n 0, 1) := by decide +kernel
theorem dX9_share_19 : decode cX9_share 19 = .ok (.iload_n 1, 1) := by decide +kernel
theorem dX9_share_20 : decode cX9_share 20 = .ok (.iconst 2, 1) := by decide +kernel
theorem dX9_share_21 : decode cX9_share 21 = .ok (.iadd, 1) := by decide +kernel
theorem dX9_share_22 : decode cX9_share 22 = .ok (.invokevirtual 59, 3) := by decide +kernel
theorem dX9_share_25 : decode cX9_share 25 = .ok (.lstore 12, 2) := by decide +kernel
theorem dX9_share_27 : decode cX9_share 27 = .ok (.aload_n 0, 1) := by decide +kernel
theorem dX9_share_28 : decode cX9_share 28 = .ok (.iload_n 1, 1) := by decide +kernel
theorem dX9_share_29 : decode cX9_share 29 = .ok (.iconst 2, 1) := by decide +kernel
theorem dX9_share_30 : decode cX9_share 30 = .ok (.iadd, 1) := by decide +kernel
theorem dX9_share_31 : decode cX9_share 31 = .ok (.invokevirtual 63, 3) := by decide +kernel
theorem dX9_share_34 : decode cX9_share 34 = .ok (.lstore 14, 2) := by decide +kernel
theorem dX9_share_36 : decode cX9_share 36 = .ok (.lload 8, 2) := by decide +kernel
theorem dX9_share_38 : decode cX9_share 38 = .ok (.lload 14, 2) := by decide +kernel
theorem dX9_share_40 : decode cX9_share 40 = .ok (.lmul, 1) := by decide +kernel
theorem dX9_share_41 : decode cX9_share 41 = .ok (.lload 12, 2) := by decide +kernel
theorem dX9_share_43 : decode cX9_share 43 = .ok (.lload 10, 2) := by decide +kernel
theorem dX9_share_45 : decode cX9_share 45 = .ok (.lmul, 1) := by decide +kernel
theorem dX9_share_46 : decode cX9_share 46 = .ok (.lsub, 1) := by decide +kernel
theorem dX9_share_47 : decode cX9_share 47 = .ok (.lload_n 2, 1) := by decide +kernel
theorem dX9_share_48 : decode cX9_share 48 = .ok (.lmul, 1) := by decide +kernel
theorem dX9_share_49 : decode cX9_share 49 = .ok (.lload 10, 2) := by decide +kernel
theorem dX9_share_51 : decode cX9_share 51 = .ok (.lload 14, 2) := by decide +kernel
theorem dX9_share_53 : decode cX9_share 53 = .ok (.lsub, 1) := by decide +kernel
theorem dX9_share_54 : decode cX9_share 54 = .ok (.lload 4, 2) := by decide +kernel
theorem dX9_share_56 : decode cX9_share 56 = .ok (.lmul, 1) := by decide +kernel
theorem dX9_share_57 : decode cX9_share 57 = .ok (.ladd, 1) := by decide +kernel
theorem dX9_share_58 : decode cX9_share 58 = .ok (.lload 12, 2) := by decide +kernel
theorem dX9_share_60 : decode cX9_share 60 = .ok (.lload 8, 2) := by decide +kernel
theorem dX9_share_62 : decode cX9_share 62 = .ok (.lsub, 1) := by decide +kernel
theorem dX9_share_63 : decode cX9_share 63 = .ok (.lload 6, 2) := by decide +kernel
theorem dX9_share_65 : decode cX9_share 65 = .ok (.lmul, 1) := by decide +kernel
theorem dX9_share_66 : decode cX9_share 66 = .ok (.ladd, 1) := by decide +kernel
theorem dX9_share_67 : decode cX9_share 67 = .ok (.lreturn, 1) := by decide +kernel
theorem dX9_loadOf_0 : decode cX9_loadOf 0 = .ok (.lconst 0, 1) := by decide +kernel
theorem dX9_loadOf_1 : decode cX9_loadOf 1 = .ok (.lstore_n 2, 1) := by decide +kernel
theorem dX9_loadOf_2 : decode cX9_loadOf 2 = .ok (.lconst 0, 1) := by decide +kernel
theorem dX9_loadOf_3 : decode cX9_loadOf 3 = .ok (.lstore 4, 2) := by decide +kernel
theorem dX9_loadOf_5 : decode cX9_loadOf 5 = .ok (.lconst 0, 1) := by decide +kernel
theorem dX9_loadOf_6 : decode cX9_loadOf 6 = .ok (.lstore 6, 2) := by decide +kernel
theorem dX9_loadOf_8 : decode cX9_loadOf 8 = .ok (.bipush 10, 2) := by decide +kernel
theorem dX9_loadOf_10 : decode cX9_loadOf 10 = .ok (.istore 8, 2) := by decide +kernel
theorem dX9_loadOf_12 : decode cX9_loadOf 12 = .ok (.iload 8, 2) := by decide +kernel
theorem dX9_loadOf_14 : decode cX9_loadOf 14 = .ok (.bipush 10, 2) := by decide +kernel
theorem dX9_loadOf_16 : decode cX9_loadOf 16 = .ok (.iconst 3, 1) := by decide +kernel
theorem dX9_loadOf_17 : decode cX9_loadOf 17 = .ok (.aload_n 0, 1) := by decide +kernel
theorem dX9_loadOf_18 : decode cX9_loadOf 18 = .ok (.bipush 9, 2) := by decide +kernel
theorem dX9_loadOf_20 : decode cX9_loadOf 20 = .ok (.invokevirtual 66, 3) := by decide +kernel
theorem dX9_loadOf_23 : decode cX9_loadOf 23 = .ok (.imul, 1) := by decide +kernel
theorem dX9_loadOf_24 : decode cX9_loadOf 24 = .ok (.iadd, 1) := by decide +kernel
theorem dX9_loadOf_25 : decode cX9_loadOf 25 = .ok (.if_icmp .ge 67, 3) := by decide +kernel
theorem dX9_loadOf_28 : decode cX9_loadOf 28 = .ok (.lload_n 2, 1) := by decide +kernel
theorem dX9_loadOf_29 : decode cX9_loadOf 29 = .ok (.aload_n 0, 1) := by decide +kernel
theorem dX9_loadOf_30 : decode cX9_loadOf 30 = .ok (.getfield 7, 3) := by decide +kernel
theorem dX9_loadOf_33 : decode cX9_loadOf 33 = .ok (.iload 8, 2) := by decide +kernel
theorem dX9_loadOf_35 : decode cX9_loadOf 35 = .ok (.iconst 2, 1) := by decide +kernel
theorem dX9_loadOf_36 : decode cX9_loadOf 36 = .ok (.iadd, 1) := by decide +kernel
theorem dX9_loadOf_37 : decode cX9_loadOf 37 = .ok (.laload, 1) := by decide +kernel
theorem dX9_loadOf_38 : decode cX9_loadOf 38 = .ok (.ladd, 1) := by decide +kernel
theorem dX9_loadOf_39 : decode cX9_loadOf 39 = .ok (.lstore_n 2, 1) := by decide +kernel
theorem dX9_loadOf_40 : decode cX9_loadOf 40 = .ok (.lload 4, 2) := by decide +kernel
theorem dX9_loadOf_42 : decode cX9_loadOf 42 = .ok (.aload_n 0, 1) := by decide +kernel
theorem dX9_loadOf_43 : decode cX9_loadOf 43 = .ok (.getfield 7, 3) := by decide +kernel
theorem dX9_loadOf_46 : decode cX9_loadOf 46 = .ok (.iload 8, 2) := by decide +kernel
theorem dX9_loadOf_48 : decode cX9_loadOf 48 = .ok (.iconst 2, 1) := by decide +kernel
theorem dX9_loadOf_49 : decode cX9_loadOf 49 = .ok (.iadd, 1) := by decide +kernel
theorem dX9_loadOf_50 : decode cX9_loadOf 50 = .ok (.laload, 1) := by decide +kernel
theorem dX9_loadOf_51 : decode cX9_loadOf 51 = .ok (.aload_n 0, 1) := by decide +kernel
theorem dX9_loadOf_52 : decode cX9_loadOf 52 = .ok (.getfield 7, 3) := by decide +kernel
theorem dX9_loadOf_55 : decode cX9_loadOf 55 = .ok (.iload 8, 2) := by decide +kernel
theorem dX9_loadOf_57 : decode cX9_loadOf 57 = .ok (.laload, 1) := by decide +kernel
theorem dX9_loadOf_58 : decode cX9_loadOf 58 = .ok (.lmul, 1) := by decide +kernel
theorem dX9_loadOf_59 : decode cX9_loadOf 59 = .ok (.ladd, 1) := by decide +kernel
theorem dX9_loadOf_60 : decode cX9_loadOf 60 = .ok (.lstore 4, 2) := by decide +kernel
theorem dX9_loadOf_62 : decode cX9_loadOf 62 = .ok (.lload 6, 2) := by decide +kernel
theorem dX9_loadOf_64 : decode cX9_loadOf 64 = .ok (.aload_n 0, 1) := by decide +kernel
theorem dX9_loadOf_65 : decode cX9_loadOf 65 = .ok (.getfield 7, 3) := by decide +kernel
theorem dX9_loadOf_68 : decode cX9_loadOf 68 = .ok (.iload 8, 2) := by decide +kernel
theorem dX9_loadOf_70 : decode cX9_loadOf 70 = .ok (.iconst 2, 1) := by decide +kernel
theorem dX9_loadOf_71 : decode cX9_loadOf 71 = .ok (.iadd, 1) := by decide +kernel
theorem dX9_loadOf_72 : decode cX9_loadOf 72 = .ok (.laload, 1) := by decide +kernel
theorem dX9_loadOf_73 : decode cX9_loadOf 73 = .ok (.aload_n 0, 1) := by decide +kernel
theorem dX9_loadOf_74 : decode cX9_loadOf 74 = .ok (.getfield 7, 3) := by decide +kernel
theorem dX9_loadOf_77 : decode cX9_loadOf 77 = .ok (.iload 8, 2) := by decide +kernel
theorem dX9_loadOf_79 : decode cX9_loadOf 79 = .ok (.iconst 1, 1) := by decide +kernel
theorem dX9_loadOf_80 : decode cX9_loadOf 80 = .ok (.iadd, 1) := by decide +kernel
theorem dX9_loadOf_81 : decode cX9_loadOf 81 = .ok (.laload, 1) := by decide +kernel
theorem dX9_loadOf_82 : decode cX9_loadOf 82 = .ok (.lmul, 1) := by decide +kernel
theorem dX9_loadOf_83 : decode cX9_loadOf 83 = .ok (.ladd, 1) := by decide +kernel
theorem dX9_loadOf_84 : decode cX9_loadOf 84 = .ok (.lstore 6, 2) := by decide +kernel
theorem dX9_loadOf_86 : decode cX9_loadOf 86 = .ok (.iinc 8 3, 3) := by decide +kernel
theorem dX9_loadOf_89 : decode cX9_loadOf 89 = .ok (.goto (-77), 3) := by decide +kernel
theorem dX9_loadOf_92 : decode cX9_loadOf 92 = .ok (.aload_n 0, 1) := by decide +kernel
theorem dX9_loadOf_93 : decode cX9_loadOf 93 = .ok (.iload_n 1, 1) := by decide +kernel
theorem dX9_loadOf_94 : decode cX9_loadOf 94 = .ok (.lload_n 2, 1) := by decide +kernel
theorem dX9_loadOf_95 : decode cX9_loadOf 95 = .ok (.lload 4, 2) := by decide +kernel
theorem dX9_loadOf_97 : decode cX9_loadOf 97 = .ok (.lload 6, 2) := by decide +kernel
theorem dX9_loadOf_99 : decode cX9_loadOf 99 = .ok (.invokevirtual 70, 3) := by decide +kernel
theorem dX9_loadOf_102 : decode cX9_loadOf 102 = .ok (.lstore 8, 2) := by decide +kernel
theorem dX9_loadOf_104 : decode cX9_loadOf 104 = .ok (.aload_n 0, 1) := by decide +kernel
theorem dX9_loadOf_105 : decode cX9_loadOf 105 = .ok (.invokevirtual 74, 3) := by decide +kernel
theorem dX9_loadOf_108 : decode cX9_loadOf 108 = .ok (.lconst 0, 1) := by decide +kernel
theorem dX9_loadOf_109 : decode cX9_loadOf 109 = .ok (.lcmp, 1) := by decide +kernel
theorem dX9_loadOf_110 : decode cX9_loadOf 110 = .ok (.ifCond .ge 9, 3) := by decide +kernel
theorem dX9_loadOf_113 : decode cX9_loadOf 113 = .ok (.lload 8, 2) := by decide +kernel
theorem dX9_loadOf_115 : decode cX9_loadOf 115 = .ok (.lneg, 1) := by decide +kernel
theorem dX9_loadOf_116 : decode cX9_loadOf 116 = .ok (.goto 5, 3) := by decide +kernel
theorem dX9_loadOf_119 : decode cX9_loadOf 119 = .ok (.lload 8, 2) := by decide +kernel
theorem dX9_loadOf_121 : decode cX9_loadOf 121 = .ok (.lreturn, 1) := by decide +kernel
theorem dX9_size_0 : decode cX9_size 0 = .ok (.aload_n 0, 1) := by decide +kernel
theorem dX9_size_1 : decode cX9_size 1 = .ok (.invokevirtual 74, 3) := by decide +kernel
theorem dX9_size_4 : decode cX9_size 4 = .ok (.lconst 0, 1) := by decide +kernel
theorem dX9_size_5 : decode cX9_size 5 = .ok (.lcmp, 1) := by decide +kernel
theorem dX9_size_6 : decode cX9_size 6 = .ok (.ifCond .ge 11, 3) := by decide +kernel
theorem dX9_size_9 : decode cX9_size 9 = .ok (.aload_n 0, 1) := by decide +kernel
theorem dX9_size_10 : decode cX9_size 10 = .ok (.invokevirtual 74, 3) := by decide +kernel
theorem dX9_size_13 : decode cX9_size 13 = .ok (.lneg, 1) := by decide +kernel
theorem dX9_size_14 : decode cX9_size 14 = .ok (.goto 7, 3) := by decide +kernel
theorem dX9_size_17 : decode cX9_size 17 = .ok (.aload_n 0, 1) := by decide +kernel
theorem dX9_size_18 : decode cX9_size 18 = .ok (.invokevirtual 74, 3) := by decide +kernel
theorem dX9_size_21 : decode cX9_size 21 = .ok (.lreturn, 1) := by decide +kernel
theorem dX9_setCell_0 : decode cX9_setCell 0 = .ok (.aload_n 0, 1) := by decide +kernel
theorem dX9_setCell_1 : decode cX9_setCell 1 = .ok (.iload_n 1, 1) := by decide +kernel
theorem dX9_setCell_2 : decode cX9_setCell 2 = .ok (.invokestatic 78, 3) := by decide +kernel
theorem dX9_setCell_5 : decode cX9_setCell 5 = .ok (.ifCond .ne 7, 3) := by decide +kernel
theorem dX9_setCell_8 : decode cX9_setCell 8 = .ok (.iconst 1, 1) := by decide +kernel
theorem dX9_setCell_9 : decode cX9_setCell 9 = .ok (.goto 29, 3) := by decide +kernel
theorem dX9_setCell_12 : decode cX9_setCell 12 = .ok (.iload_n 2, 1) := by decide +kernel
theorem dX9_setCell_13 : decode cX9_setCell 13 = .ok (.iload_n 3, 1) := by decide +kernel
theorem dX9_setCell_14 : decode cX9_setCell 14 = .ok (.invokestatic 81, 3) := by decide +kernel
theorem dX9_setCell_17 : decode cX9_setCell 17 = .ok (.ifCond .eq 20, 3) := by decide +kernel
theorem dX9_setCell_20 : decode cX9_setCell 20 = .ok (.iload 4, 2) := by decide +kernel
theorem dX9_setCell_22 : decode cX9_setCell 22 = .ok (.i2l, 1) := by decide +kernel
theorem dX9_setCell_23 : decode cX9_setCell 23 = .ok (.lconst 1, 1) := by decide +kernel
theorem dX9_setCell_24 : decode cX9_setCell 24 = .ok (.ldc2_w 85, 3) := by decide +kernel
theorem dX9_setCell_27 : decode cX9_setCell 27 = .ok (.invokestatic 44, 3) := by decide +kernel
theorem dX9_setCell_30 : decode cX9_setCell 30 = .ok (.ifCond .eq 7, 3) := by decide +kernel
theorem dX9_setCell_33 : decode cX9_setCell 33 = .ok (.iconst 0, 1) := by decide +kernel
theorem dX9_setCell_34 : decode cX9_setCell 34 = .ok (.goto 4, 3) := by decide +kernel
theorem dX9_setCell_37 : decode cX9_setCell 37 = .ok (.iconst 2, 1) := by decide +kernel
theorem dX9_setCell_38 : decode cX9_setCell 38 = .ok (.invokevirtual 55, 3) := by decide +kernel
theorem dX9_setCell_41 : decode cX9_setCell 41 = .ok (.ifCond .eq 5, 3) := by decide +kernel
theorem dX9_setCell_44 : decode cX9_setCell 44 = .ok (.iconst 0, 1) := by decide +kernel
theorem dX9_setCell_45 : decode cX9_setCell 45 = .ok (.ireturn, 1) := by decide +kernel
theorem dX9_setCell_46 : decode cX9_setCell 46 = .ok (.iconst 0, 1) := by decide +kernel
theorem dX9_setCell_47 : decode cX9_setCell 47 = .ok (.iconst 3, 1) := by decide +kernel
theorem dX9_setCell_48 : decode cX9_setCell 48 = .ok (.iload_n 1, 1) := by decide +kernel
theorem dX9_setCell_49 : decode cX9_setCell 49 = .ok (.imul, 1) := by decide +kernel
theorem dX9_setCell_50 : decode cX9_setCell 50 = .ok (.iadd, 1) := by decide +kernel
theorem dX9_setCell_51 : decode cX9_setCell 51 = .ok (.istore 5, 2) := by decide +kernel
theorem dX9_setCell_53 : decode cX9_setCell 53 = .ok (.aload_n 0, 1) := by decide +kernel
theorem dX9_setCell_54 : decode cX9_setCell 54 = .ok (.getfield 7, 3) := by decide +kernel
theorem dX9_setCell_57 : decode cX9_setCell 57 = .ok (.iload 5, 2) := by decide +kernel
theorem dX9_setCell_59 : decode cX9_setCell 59 = .ok (.laload, 1) := by decide +kernel
theorem dX9_setCell_60 : decode cX9_setCell 60 = .ok (.lstore 6, 2) := by decide +kernel
theorem dX9_setCell_62 : decode cX9_setCell 62 = .ok (.aload_n 0, 1) := by decide +kernel
theorem dX9_setCell_63 : decode cX9_setCell 63 = .ok (.getfield 7, 3) := by decide +kernel
theorem dX9_setCell_66 : decode cX9_setCell 66 = .ok (.iload 5, 2) := by decide +kernel
theorem dX9_setCell_68 : decode cX9_setCell 68 = .ok (.iconst 1, 1) := by decide +kernel
theorem dX9_setCell_69 : decode cX9_setCell 69 = .ok (.iadd, 1) := by decide +kernel
theorem dX9_setCell_70 : decode cX9_setCell 70 = .ok (.laload, 1) := by decide +kernel
theorem dX9_setCell_71 : decode cX9_setCell 71 = .ok (.lstore 8, 2) := by decide +kernel
theorem dX9_setCell_73 : decode cX9_setCell 73 = .ok (.aload_n 0, 1) := by decide +kernel
theorem dX9_setCell_74 : decode cX9_setCell 74 = .ok (.getfield 7, 3) := by decide +kernel
theorem dX9_setCell_77 : decode cX9_setCell 77 = .ok (.iload 5, 2) := by decide +kernel
theorem dX9_setCell_79 : decode cX9_setCell 79 = .ok (.iload_n 2, 1) := by decide +kernel
theorem dX9_setCell_80 : decode cX9_setCell 80 = .ok (.i2l, 1) := by decide +kernel
theorem dX9_setCell_81 : decode cX9_setCell 81 = .ok (.lastore, 1) := by decide +kernel
theorem dX9_setCell_82 : decode cX9_setCell 82 = .ok (.aload_n 0, 1) := by decide +kernel
theorem dX9_setCell_83 : decode cX9_setCell 83 = .ok (.getfield 7, 3) := by decide +kernel
theorem dX9_setCell_86 : decode cX9_setCell 86 = .ok (.iload 5, 2) := by decide +kernel
theorem dX9_setCell_88 : decode cX9_setCell 88 = .ok (.iconst 1, 1) := by decide +kernel
theorem dX9_setCell_89 : decode cX9_setCell 89 = .ok (.iadd, 1) := by decide +kernel
theorem dX9_setCell_90 : decode cX9_setCell 90 = .ok (.iload_n 3, 1) := by decide +kernel
theorem dX9_setCell_91 : decode cX9_setCell 91 = .ok (.i2l, 1) := by decide +kernel
theorem dX9_setCell_92 : decode cX9_setCell 92 = .ok (.lastore, 1) := by decide +kernel
theorem dX9_setCell_93 : decode cX9_setCell 93 = .ok (.aload_n 0, 1) := by decide +kernel
theorem dX9_setCell_94 : decode cX9_setCell 94 = .ok (.invokevirtual 74, 3) := by decide +kernel
theorem dX9_setCell_97 : decode cX9_setCell 97 = .ok (.lconst 0, 1) := by decide +kernel
theorem dX9_setCell_98 : decode cX9_setCell 98 = .ok (.lcmp, 1) := by decide +kernel
theorem dX9_setCell_99 : decode cX9_setCell 99 = .ok (.ifCond .ne 7, 3) := by decide +kernel
theorem dX9_setCell_102 : decode cX9_setCell 102 = .ok (.iconst 1, 1) := by decide +kernel
theorem dX9_setCell_103 : decode cX9_setCell 103 = .ok (.goto 4, 3) := by decide +kernel
theorem dX9_setCell_106 : decode cX9_setCell 106 = .ok (.iconst 0, 1) := by decide +kernel
theorem dX9_setCell_107 : decode cX9_setCell 107 = .ok (.istore 10, 2) := by decide +kernel
theorem dX9_setCell_109 : decode cX9_setCell 109 = .ok (.aload_n 0, 1) := by decide +kernel
theorem dX9_setCell_110 : decode cX9_setCell 110 = .ok (.getfield 7, 3) := by decide +kernel
theorem dX9_setCell_113 : decode cX9_setCell 113 = .ok (.iload 5, 2) := by decide +kernel
theorem dX9_setCell_115 : decode cX9_setCell 115 = .ok (.lload 6, 2) := by decide +kernel
theorem dX9_setCell_117 : decode cX9_setCell 117 = .ok (.lastore, 1) := by decide +kernel
theorem dX9_setCell_118 : decode cX9_setCell 118 = .ok (.aload_n 0, 1) := by decide +kernel
theorem dX9_setCell_119 : decode cX9_setCell 119 = .ok (.getfield 7, 3) := by decide +kernel
theorem dX9_setCell_122 : decode cX9_setCell 122 = .ok (.iload 5, 2) := by decide +kernel
theorem dX9_setCell_124 : decode cX9_setCell 124 = .ok (.iconst 1, 1) := by decide +kernel
theorem dX9_setCell_125 : decode cX9_setCell 125 = .ok (.iadd, 1) := by decide +kernel
theorem dX9_setCell_126 : decode cX9_setCell 126 = .ok (.lload 8, 2) := by decide +kernel
theorem dX9_setCell_128 : decode cX9_setCell 128 = .ok (.lastore, 1) := by decide +kernel
theorem dX9_setCell_129 : decode cX9_setCell 129 = .ok (.aload_n 0, 1) := by decide +kernel
theorem dX9_setCell_130 : decode cX9_setCell 130 = .ok (.iload 10, 2) := by decide +kernel
theorem dX9_setCell_132 : decode cX9_setCell 132 = .ok (.ifCond .eq 7, 3) := by decide +kernel
theorem dX9_setCell_135 : decode cX9_setCell 135 = .ok (.iconst 2, 1) := by decide +kernel
theorem dX9_setCell_136 : decode cX9_setCell 136 = .ok (.goto 4, 3) := by decide +kernel
theorem dX9_setCell_139 : decode cX9_setCell 139 = .ok (.iconst 0, 1) := by decide +kernel
theorem dX9_setCell_140 : decode cX9_setCell 140 = .ok (.invokevirtual 55, 3) := by decide +kernel
theorem dX9_setCell_143 : decode cX9_setCell 143 = .ok (.ifCond .eq 5, 3) := by decide +kernel
theorem dX9_setCell_146 : decode cX9_setCell 146 = .ok (.iconst 0, 1) := by decide +kernel
theorem dX9_setCell_147 : decode cX9_setCell 147 = .ok (.ireturn, 1) := by decide +kernel
theorem dX9_setCell_148 : decode cX9_setCell 148 = .ok (.aload_n 0, 1) := by decide +kernel
theorem dX9_setCell_149 : decode cX9_setCell 149 = .ok (.invokevirtual 87, 3) := by decide +kernel
theorem dX9_setCell_152 : decode cX9_setCell 152 = .ok (.aload_n 0, 1) := by decide +kernel
theorem dX9_setCell_153 : decode cX9_setCell 153 = .ok (.getfield 7, 3) := by decide +kernel
theorem dX9_setCell_156 : decode cX9_setCell 156 = .ok (.iload 5, 2) := by decide +kernel
theorem dX9_setCell_158 : decode cX9_setCell 158 = .ok (.iconst 2, 1) := by decide +kernel
theorem dX9_setCell_159 : decode cX9_setCell 159 = .ok (.iadd, 1) := by decide +kernel
theorem dX9_setCell_160 : decode cX9_setCell 160 = .ok (.laload, 1) := by decide +kernel
theorem dX9_setCell_161 : decode cX9_setCell 161 = .ok (.lstore 11, 2) := by decide +kernel
theorem dX9_setCell_163 : decode cX9_setCell 163 = .ok (.aload_n 0, 1) := by decide +kernel
theorem dX9_setCell_164 : decode cX9_setCell 164 = .ok (.getfield 7, 3) := by decide +kernel
theorem dX9_setCell_167 : decode cX9_setCell 167 = .ok (.iload 5, 2) := by decide +kernel
theorem dX9_setCell_169 : decode cX9_setCell 169 = .ok (.iload_n 2, 1) := by decide +kernel
theorem dX9_setCell_170 : decode cX9_setCell 170 = .ok (.i2l, 1) := by decide +kernel
theorem dX9_setCell_171 : decode cX9_setCell 171 = .ok (.lastore, 1) := by decide +kernel
theorem dX9_setCell_172 : decode cX9_setCell 172 = .ok (.aload_n 0, 1) := by decide +kernel
theorem dX9_setCell_173 : decode cX9_setCell 173 = .ok (.getfield 7, 3) := by decide +kernel
theorem dX9_setCell_176 : decode cX9_setCell 176 = .ok (.iload 5, 2) := by decide +kernel
theorem dX9_setCell_178 : decode cX9_setCell 178 = .ok (.iconst 1, 1) := by decide +kernel
theorem dX9_setCell_179 : decode cX9_setCell 179 = .ok (.iadd, 1) := by decide +kernel
theorem dX9_setCell_180 : decode cX9_setCell 180 = .ok (.iload_n 3, 1) := by decide +kernel
theorem dX9_setCell_181 : decode cX9_setCell 181 = .ok (.i2l, 1) := by decide +kernel
theorem dX9_setCell_182 : decode cX9_setCell 182 = .ok (.lastore, 1) := by decide +kernel
theorem dX9_setCell_183 : decode cX9_setCell 183 = .ok (.aload_n 0, 1) := by decide +kernel
theorem dX9_setCell_184 : decode cX9_setCell 184 = .ok (.getfield 7, 3) := by decide +kernel
theorem dX9_setCell_187 : decode cX9_setCell 187 = .ok (.iload 5, 2) := by decide +kernel
theorem dX9_setCell_189 : decode cX9_setCell 189 = .ok (.iconst 2, 1) := by decide +kernel
theorem dX9_setCell_190 : decode cX9_setCell 190 = .ok (.iadd, 1) := by decide +kernel
theorem dX9_setCell_191 : decode cX9_setCell 191 = .ok (.iload 4, 2) := by decide +kernel
theorem dX9_setCell_193 : decode cX9_setCell 193 = .ok (.i2l, 1) := by decide +kernel
theorem dX9_setCell_194 : decode cX9_setCell 194 = .ok (.lastore, 1) := by decide +kernel
theorem dX9_setCell_195 : decode cX9_setCell 195 = .ok (.lload 11, 2) := by decide +kernel
theorem dX9_setCell_197 : decode cX9_setCell 197 = .ok (.l2i, 1) := by decide +kernel
theorem dX9_setCell_198 : decode cX9_setCell 198 = .ok (.ireturn, 1) := by decide +kernel
theorem dX9_place_0 : decode cX9_place 0 = .ok (.aload_n 0, 1) := by decide +kernel
theorem dX9_place_1 : decode cX9_place 1 = .ok (.iload_n 1, 1) := by decide +kernel
theorem dX9_place_2 : decode cX9_place 2 = .ok (.iload_n 2, 1) := by decide +kernel
theorem dX9_place_3 : decode cX9_place 3 = .ok (.invokestatic 81, 3) := by decide +kernel
theorem dX9_place_6 : decode cX9_place 6 = .ok (.ifCond .eq 15, 3) := by decide +kernel
theorem dX9_place_9 : decode cX9_place 9 = .ok (.iload_n 3, 1) := by decide +kernel
theorem dX9_place_10 : decode cX9_place 10 = .ok (.i2l, 1) := by decide +kernel
theorem dX9_place_11 : decode cX9_place 11 = .ok (.lconst 1, 1) := by decide +kernel
theorem dX9_place_12 : decode cX9_place 12 = .ok (.ldc2_w 90, 3) := by decide +kernel
theorem dX9_place_15 : decode cX9_place 15 = .ok (.invokestatic 44, 3) := by decide +kernel
theorem dX9_place_18 : decode cX9_place 18 = .ok (.ifCond .ne 7, 3) := by decide +kernel
theorem dX9_place_21 : decode cX9_place 21 = .ok (.iconst 1, 1) := by decide +kernel
theorem dX9_place_22 : decode cX9_place 22 = .ok (.goto 19, 3) := by decide +kernel
theorem dX9_place_25 : decode cX9_place 25 = .ok (.aload_n 0, 1) := by decide +kernel
theorem dX9_place_26 : decode cX9_place 26 = .ok (.bipush 9, 2) := by decide +kernel
theorem dX9_place_28 : decode cX9_place 28 = .ok (.invokevirtual 66, 3) := by decide +kernel
theorem dX9_place_31 : decode cX9_place 31 = .ok (.bipush 8, 2) := by decide +kernel
theorem dX9_place_33 : decode cX9_place 33 = .ok (.if_icmp .ne 7, 3) := by decide +kernel
theorem dX9_place_36 : decode cX9_place 36 = .ok (.iconst 2, 1) := by decide +kernel
theorem dX9_place_37 : decode cX9_place 37 = .ok (.goto 4, 3) := by decide +kernel
theorem dX9_place_40 : decode cX9_place 40 = .ok (.iconst 0, 1) := by decide +kernel
theorem dX9_place_41 : decode cX9_place 41 = .ok (.invokevirtual 55, 3) := by decide +kernel
theorem dX9_place_44 : decode cX9_place 44 = .ok (.ifCond .eq 5, 3) := by decide +kernel
theorem dX9_place_47 : decode cX9_place 47 = .ok (.iconst 0, 1) := by decide +kernel
theorem dX9_place_48 : decode cX9_place 48 = .ok (.ireturn, 1) := by decide +kernel
theorem dX9_place_49 : decode cX9_place 49 = .ok (.aload_n 0, 1) := by decide +kernel
theorem dX9_place_50 : decode cX9_place 50 = .ok (.invokevirtual 87, 3) := by decide +kernel
theorem dX9_place_53 : decode cX9_place 53 = .ok (.bipush 10, 2) := by decide +kernel
theorem dX9_place_55 : decode cX9_place 55 = .ok (.iconst 3, 1) := by decide +kernel
theorem dX9_place_56 : decode cX9_place 56 = .ok (.aload_n 0, 1) := by decide +kernel
theorem dX9_place_57 : decode cX9_place 57 = .ok (.bipush 9, 2) := by decide +kernel
theorem dX9_place_59 : decode cX9_place 59 = .ok (.invokevirtual 66, 3) := by decide +kernel
theorem dX9_place_62 : decode cX9_place 62 = .ok (.imul, 1) := by decide +kernel
theorem dX9_place_63 : decode cX9_place 63 = .ok (.iadd, 1) := by decide +kernel
theorem dX9_place_64 : decode cX9_place 64 = .ok (.istore 4, 2) := by decide +kernel
theorem dX9_place_66 : decode cX9_place 66 = .ok (.aload_n 0, 1) := by decide +kernel
theorem dX9_place_67 : decode cX9_place 67 = .ok (.getfield 7, 3) := by decide +kernel
theorem dX9_place_70 : decode cX9_place 70 = .ok (.iload 4, 2) := by decide +kernel
theorem dX9_place_72 : decode cX9_place 72 = .ok (.iload_n 1, 1) := by decide +kernel
theorem dX9_place_73 : decode cX9_place 73 = .ok (.i2l, 1) := by decide +kernel
theorem dX9_place_74 : decode cX9_place 74 = .ok (.lastore, 1) := by decide +kernel
theorem dX9_place_75 : decode cX9_place 75 = .ok (.aload_n 0, 1) := by decide +kernel
theorem dX9_place_76 : decode cX9_place 76 = .ok (.getfield 7, 3) := by decide +kernel
theorem dX9_place_79 : decode cX9_place 79 = .ok (.iload 4, 2) := by decide +kernel
theorem dX9_place_81 : decode cX9_place 81 = .ok (.iconst 1, 1) := by decide +kernel
theorem dX9_place_82 : decode cX9_place 82 = .ok (.iadd, 1) := by decide +kernel
theorem dX9_place_83 : decode cX9_place 83 = .ok (.iload_n 2, 1) := by decide +kernel
theorem dX9_place_84 : decode cX9_place 84 = .ok (.i2l, 1) := by decide +kernel
theorem dX9_place_85 : decode cX9_place 85 = .ok (.lastore, 1) := by decide +kernel
theorem dX9_place_86 : decode cX9_place 86 = .ok (.aload_n 0, 1) := by decide +kernel
theorem dX9_place_87 : decode cX9_place 87 = .ok (.getfield 7, 3) := by decide +kernel
theorem dX9_place_90 : decode cX9_place 90 = .ok (.iload 4, 2) := by decide +kernel
theorem dX9_place_92 : decode cX9_place 92 = .ok (.iconst 2, 1) := by decide +kernel
theorem dX9_place_93 : decode cX9_place 93 = .ok (.iadd, 1) := by decide +kernel
theorem dX9_place_94 : decode cX9_place 94 = .ok (.iload_n 3, 1) := by decide +kernel
theorem dX9_place_95 : decode cX9_place 95 = .ok (.i2l, 1) := by decide +kernel
theorem dX9_place_96 : decode cX9_place 96 = .ok (.lastore, 1) := by decide +kernel
theorem dX9_place_97 : decode cX9_place 97 = .ok (.aload_n 0, 1) := by decide +kernel
theorem dX9_place_98 : decode cX9_place 98 = .ok (.getfield 7, 3) := by decide +kernel
theorem dX9_place_101 : decode cX9_place 101 = .ok (.bipush 9, 2) := by decide +kernel
theorem dX9_place_103 : decode cX9_place 103 = .ok (.dup2, 1) := by decide +kernel
theorem dX9_place_104 : decode cX9_place 104 = .ok (.laload, 1) := by decide +kernel
theorem dX9_place_105 : decode cX9_place 105 = .ok (.lconst 1, 1) := by decide +kernel
theorem dX9_place_106 : decode cX9_place 106 = .ok (.ladd, 1) := by decide +kernel
theorem dX9_place_107 : decode cX9_place 107 = .ok (.lastore, 1) := by decide +kernel
theorem dX9_place_108 : decode cX9_place 108 = .ok (.aload_n 0, 1) := by decide +kernel
theorem dX9_place_109 : decode cX9_place 109 = .ok (.bipush 9, 2) := by decide +kernel
theorem dX9_place_111 : decode cX9_place 111 = .ok (.invokevirtual 66, 3) := by decide +kernel
theorem dX9_place_114 : decode cX9_place 114 = .ok (.iconst 1, 1) := by decide +kernel
theorem dX9_place_115 : decode cX9_place 115 = .ok (.isub, 1) := by decide +kernel
theorem dX9_place_116 : decode cX9_place 116 = .ok (.ireturn, 1) := by decide +kernel
theorem dX9_lift_0 : decode cX9_lift 0 = .ok (.aload_n 0, 1) := by decide +kernel
theorem dX9_lift_1 : decode cX9_lift 1 = .ok (.iload_n 1, 1) := by decide +kernel
theorem dX9_lift_2 : decode cX9_lift 2 = .ok (.i2l, 1) := by decide +kernel
theorem dX9_lift_3 : decode cX9_lift 3 = .ok (.lconst 0, 1) := by decide +kernel
theorem dX9_lift_4 : decode cX9_lift 4 = .ok (.aload_n 0, 1) := by decide +kernel
theorem dX9_lift_5 : decode cX9_lift 5 = .ok (.bipush 9, 2) := by decide +kernel
theorem dX9_lift_7 : decode cX9_lift 7 = .ok (.invokevirtual 66, 3) := by decide +kernel
theorem dX9_lift_10 : decode cX9_lift 10 = .ok (.iconst 1, 1) := by decide +kernel
theorem dX9_lift_11 : decode cX9_lift 11 = .ok (.isub, 1) := by decide +kernel
theorem dX9_lift_12 : decode cX9_lift 12 = .ok (.i2l, 1) := by decide +kernel
theorem dX9_lift_13 : decode cX9_lift 13 = .ok (.invokestatic 44, 3) := by decide +kernel
theorem dX9_lift_16 : decode cX9_lift 16 = .ok (.ifCond .eq 7, 3) := by decide +kernel
theorem dX9_lift_19 : decode cX9_lift 19 = .ok (.iconst 0, 1) := by decide +kernel
theorem dX9_lift_20 : decode cX9_lift 20 = .ok (.goto 4, 3) := by decide +kernel
theorem dX9_lift_23 : decode cX9_lift 23 = .ok (.iconst 1, 1) := by decide +kernel
theorem dX9_lift_24 : decode cX9_lift 24 = .ok (.invokevirtual 55, 3) := by decide +kernel
theorem dX9_lift_27 : decode cX9_lift 27 = .ok (.ifCond .eq 5, 3) := by decide +kernel
theorem dX9_lift_30 : decode cX9_lift 30 = .ok (.iconst 0, 1) := by decide +kernel
theorem dX9_lift_31 : decode cX9_lift 31 = .ok (.ireturn, 1) := by decide +kernel
theorem dX9_lift_32 : decode cX9_lift 32 = .ok (.aload_n 0, 1) := by decide +kernel
theorem dX9_lift_33 : decode cX9_lift 33 = .ok (.invokevirtual 87, 3) := by decide +kernel
theorem dX9_lift_36 : decode cX9_lift 36 = .ok (.aload_n 0, 1) := by decide +kernel
theorem dX9_lift_37 : decode cX9_lift 37 = .ok (.getfield 7, 3) := by decide +kernel
theorem dX9_lift_40 : decode cX9_lift 40 = .ok (.bipush 10, 2) := by decide +kernel
theorem dX9_lift_42 : decode cX9_lift 42 = .ok (.iconst 3, 1) := by decide +kernel
theorem dX9_lift_43 : decode cX9_lift 43 = .ok (.iload_n 1, 1) := by decide +kernel
theorem dX9_lift_44 : decode cX9_lift 44 = .ok (.imul, 1) := by decide +kernel
theorem dX9_lift_45 : decode cX9_lift 45 = .ok (.iadd, 1) := by decide +kernel
theorem dX9_lift_46 : decode cX9_lift 46 = .ok (.iconst 2, 1) := by decide +kernel
theorem dX9_lift_47 : decode cX9_lift 47 = .ok (.iadd, 1) := by decide +kernel
theorem dX9_lift_48 : decode cX9_lift 48 = .ok (.laload, 1) := by decide +kernel
theorem dX9_lift_49 : decode cX9_lift 49 = .ok (.l2i, 1) := by decide +kernel
theorem dX9_lift_50 : decode cX9_lift 50 = .ok (.istore_n 2, 1) := by decide +kernel
theorem dX9_lift_51 : decode cX9_lift 51 = .ok (.aload_n 0, 1) := by decide +kernel
theorem dX9_lift_52 : decode cX9_lift 52 = .ok (.getfield 7, 3) := by decide +kernel
theorem dX9_lift_55 : decode cX9_lift 55 = .ok (.bipush 9, 2) := by decide +kernel
theorem dX9_lift_57 : decode cX9_lift 57 = .ok (.dup2, 1) := by decide +kernel
theorem dX9_lift_58 : decode cX9_lift 58 = .ok (.laload, 1) := by decide +kernel
theorem dX9_lift_59 : decode cX9_lift 59 = .ok (.lconst 1, 1) := by decide +kernel
theorem dX9_lift_60 : decode cX9_lift 60 = .ok (.lsub, 1) := by decide +kernel
theorem dX9_lift_61 : decode cX9_lift 61 = .ok (.lastore, 1) := by decide +kernel
theorem dX9_lift_62 : decode cX9_lift 62 = .ok (.bipush 10, 2) := by decide +kernel
theorem dX9_lift_64 : decode cX9_lift 64 = .ok (.iconst 3, 1) := by decide +kernel
theorem dX9_lift_65 : decode cX9_lift 65 = .ok (.iload_n 1, 1) := by decide +kernel
theorem dX9_lift_66 : decode cX9_lift 66 = .ok (.imul, 1) := by decide +kernel
theorem dX9_lift_67 : decode cX9_lift 67 = .ok (.iadd, 1) := by decide +kernel
theorem dX9_lift_68 : decode cX9_lift 68 = .ok (.istore_n 3, 1) := by decide +kernel
theorem dX9_lift_69 : decode cX9_lift 69 = .ok (.iload_n 3, 1) := by decide +kernel
theorem dX9_lift_70 : decode cX9_lift 70 = .ok (.bipush 10, 2) := by decide +kernel
theorem dX9_lift_72 : decode cX9_lift 72 = .ok (.iconst 3, 1) := by decide +kernel
theorem dX9_lift_73 : decode cX9_lift 73 = .ok (.aload_n 0, 1) := by decide +kernel
theorem dX9_lift_74 : decode cX9_lift 74 = .ok (.bipush 9, 2) := by decide +kernel
theorem dX9_lift_76 : decode cX9_lift 76 = .ok (.invokevirtual 66, 3) := by decide +kernel
theorem dX9_lift_79 : decode cX9_lift 79 = .ok (.imul, 1) := by decide +kernel
theorem dX9_lift_80 : decode cX9_lift 80 = .ok (.iadd, 1) := by decide +kernel
theorem dX9_lift_81 : decode cX9_lift 81 = .ok (.if_icmp .ge 23, 3) := by decide +kernel
theorem dX9_lift_84 : decode cX9_lift 84 = .ok (.aload_n 0, 1) := by decide +kernel
theorem dX9_lift_85 : decode cX9_lift 85 = .ok (.getfield 7, 3) := by decide +kernel
theorem dX9_lift_88 : decode cX9_lift 88 = .ok (.iload_n 3, 1) := by decide +kernel
theorem dX9_lift_89 : decode cX9_lift 89 = .ok (.aload_n 0, 1) := by decide +kernel
theorem dX9_lift_90 : decode cX9_lift 90 = .ok (.getfield 7, 3) := by decide +kernel
theorem dX9_lift_93 : decode cX9_lift 93 = .ok (.iload_n 3, 1) := by decide +kernel
theorem dX9_lift_94 : decode cX9_lift 94 = .ok (.iconst 3, 1) := by decide +kernel
theorem dX9_lift_95 : decode cX9_lift 95 = .ok (.iadd, 1) := by decide +kernel
theorem dX9_lift_96 : decode cX9_lift 96 = .ok (.laload, 1) := by decide +kernel
theorem dX9_lift_97 : decode cX9_lift 97 = .ok (.lastore, 1) := by decide +kernel
theorem dX9_lift_98 : decode cX9_lift 98 = .ok (.iinc 3 1, 3) := by decide +kernel
theorem dX9_lift_101 : decode cX9_lift 101 = .ok (.goto (-32), 3) := by decide +kernel
theorem dX9_lift_104 : decode cX9_lift 104 = .ok (.iload_n 2, 1) := by decide +kernel
theorem dX9_lift_105 : decode cX9_lift 105 = .ok (.ireturn, 1) := by decide +kernel
theorem dX9_load_0 : decode cX9_load 0 = .ok (.aload_n 0, 1) := by decide +kernel
theorem dX9_load_1 : decode cX9_load 1 = .ok (.iload_n 1, 1) := by decide +kernel
theorem dX9_load_2 : decode cX9_load 2 = .ok (.invokestatic 78, 3) := by decide +kernel
theorem dX9_load_5 : decode cX9_load 5 = .ok (.ifCond .ne 7, 3) := by decide +kernel
theorem dX9_load_8 : decode cX9_load 8 = .ok (.iconst 1, 1) := by decide +kernel
theorem dX9_load_9 : decode cX9_load 9 = .ok (.goto 15, 3) := by decide +kernel
theorem dX9_load_12 : decode cX9_load 12 = .ok (.iload_n 2, 1) := by decide +kernel
theorem dX9_load_13 : decode cX9_load 13 = .ok (.invokestatic 92, 3) := by decide +kernel
theorem dX9_load_16 : decode cX9_load 16 = .ok (.ifCond .eq 7, 3) := by decide +kernel
theorem dX9_load_19 : decode cX9_load 19 = .ok (.iconst 0, 1) := by decide +kernel
theorem dX9_load_20 : decode cX9_load 20 = .ok (.goto 4, 3) := by decide +kernel
theorem dX9_load_23 : decode cX9_load 23 = .ok (.iconst 2, 1) := by decide +kernel
theorem dX9_load_24 : decode cX9_load 24 = .ok (.invokevirtual 55, 3) := by decide +kernel
theorem dX9_load_27 : decode cX9_load 27 = .ok (.ifCond .eq 7, 3) := by decide +kernel
theorem dX9_load_30 : decode cX9_load 30 = .ok (.lconst 0, 1) := by decide +kernel
theorem dX9_load_31 : decode cX9_load 31 = .ok (.goto 16, 3) := by decide +kernel
theorem dX9_load_34 : decode cX9_load 34 = .ok (.aload_n 0, 1) := by decide +kernel
theorem dX9_load_35 : decode cX9_load 35 = .ok (.iload_n 1, 1) := by decide +kernel
theorem dX9_load_36 : decode cX9_load 36 = .ok (.invokevirtual 95, 3) := by decide +kernel
theorem dX9_load_39 : decode cX9_load 39 = .ok (.aload_n 0, 1) := by decide +kernel
theorem dX9_load_40 : decode cX9_load 40 = .ok (.invokevirtual 98, 3) := by decide +kernel
theorem dX9_load_43 : decode cX9_load 43 = .ok (.iload_n 2, 1) := by decide +kernel
theorem dX9_load_44 : decode cX9_load 44 = .ok (.invokestatic 101, 3) := by decide +kernel
theorem dX9_load_47 : decode cX9_load 47 = .ok (.lreturn, 1) := by decide +kernel
theorem dX9_reading_0 : decode cX9_reading 0 = .ok (.aload_n 0, 1) := by decide +kernel
theorem dX9_reading_1 : decode cX9_reading 1 = .ok (.iload_n 1, 1) := by decide +kernel
theorem dX9_reading_2 : decode cX9_reading 2 = .ok (.invokestatic 78, 3) := by decide +kernel
theorem dX9_reading_5 : decode cX9_reading 5 = .ok (.ifCond .ne 7, 3) := by decide +kernel
theorem dX9_reading_8 : decode cX9_reading 8 = .ok (.iconst 1, 1) := by decide +kernel
theorem dX9_reading_9 : decode cX9_reading 9 = .ok (.goto 20, 3) := by decide +kernel
theorem dX9_reading_12 : decode cX9_reading 12 = .ok (.iload_n 2, 1) := by decide +kernel
theorem dX9_reading_13 : decode cX9_reading 13 = .ok (.i2l, 1) := by decide +kernel
theorem dX9_reading_14 : decode cX9_reading 14 = .ok (.lconst 1, 1) := by decide +kernel
theorem dX9_reading_15 : decode cX9_reading 15 = .ok (.ldc2_w 31, 3) := by decide +kernel
theorem dX9_reading_18 : decode cX9_reading 18 = .ok (.invokestatic 44, 3) := by decide +kernel
theorem dX9_reading_21 : decode cX9_reading 21 = .ok (.ifCond .eq 7, 3) := by decide +kernel
theorem dX9_reading_24 : decode cX9_reading 24 = .ok (.iconst 0, 1) := by decide +kernel
theorem dX9_reading_25 : decode cX9_reading 25 = .ok (.goto 4, 3) := by decide +kernel
theorem dX9_reading_28 : decode cX9_reading 28 = .ok (.iconst 2, 1) := by decide +kernel
theorem dX9_reading_29 : decode cX9_reading 29 = .ok (.invokevirtual 55, 3) := by decide +kernel
theorem dX9_reading_32 : decode cX9_reading 32 = .ok (.ifCond .eq 5, 3) := by decide +kernel
theorem dX9_reading_35 : decode cX9_reading 35 = .ok (.iconst 0, 1) := by decide +kernel
theorem dX9_reading_36 : decode cX9_reading 36 = .ok (.ireturn, 1) := by decide +kernel
theorem dX9_reading_37 : decode cX9_reading 37 = .ok (.aload_n 0, 1) := by decide +kernel
theorem dX9_reading_38 : decode cX9_reading 38 = .ok (.iload_n 1, 1) := by decide +kernel
theorem dX9_reading_39 : decode cX9_reading 39 = .ok (.invokevirtual 95, 3) := by decide +kernel
theorem dX9_reading_42 : decode cX9_reading 42 = .ok (.aload_n 0, 1) := by decide +kernel
theorem dX9_reading_43 : decode cX9_reading 43 = .ok (.invokevirtual 98, 3) := by decide +kernel
theorem dX9_reading_46 : decode cX9_reading 46 = .ok (.iload_n 2, 1) := by decide +kernel
theorem dX9_reading_47 : decode cX9_reading 47 = .ok (.i2l, 1) := by decide +kernel
theorem dX9_reading_48 : decode cX9_reading 48 = .ok (.lmul, 1) := by decide +kernel
theorem dX9_reading_49 : decode cX9_reading 49 = .ok (.invokestatic 105, 3) := by decide +kernel
theorem dX9_reading_52 : decode cX9_reading 52 = .ok (.l2i, 1) := by decide +kernel
theorem dX9_reading_53 : decode cX9_reading 53 = .ok (.iload_n 2, 1) := by decide +kernel
theorem dX9_reading_54 : decode cX9_reading 54 = .ok (.imul, 1) := by decide +kernel
theorem dX9_reading_55 : decode cX9_reading 55 = .ok (.ireturn, 1) := by decide +kernel
theorem dX9_isStill_0 : decode cX9_isStill 0 = .ok (.aload_n 0, 1) := by decide +kernel
theorem dX9_isStill_1 : decode cX9_isStill 1 = .ok (.iconst 0, 1) := by decide +kernel
theorem dX9_isStill_2 : decode cX9_isStill 2 = .ok (.invokevirtual 95, 3) := by decide +kernel
theorem dX9_isStill_5 : decode cX9_isStill 5 = .ok (.lconst 0, 1) := by decide +kernel
theorem dX9_isStill_6 : decode cX9_isStill 6 = .ok (.lcmp, 1) := by decide +kernel
theorem dX9_isStill_7 : decode cX9_isStill 7 = .ok (.ifCond .lt 27, 3) := by decide +kernel
theorem dX9_isStill_10 : decode cX9_isStill 10 = .ok (.aload_n 0, 1) := by decide +kernel
theorem dX9_isStill_11 : decode cX9_isStill 11 = .ok (.iconst 1, 1) := by decide +kernel
theorem dX9_isStill_12 : decode cX9_isStill 12 = .ok (.invokevirtual 95, 3) := by decide +kernel
theorem dX9_isStill_15 : decode cX9_isStill 15 = .ok (.lconst 0, 1) := by decide +kernel
theorem dX9_isStill_16 : decode cX9_isStill 16 = .ok (.lcmp, 1) := by decide +kernel
theorem dX9_isStill_17 : decode cX9_isStill 17 = .ok (.ifCond .lt 17, 3) := by decide +kernel
theorem dX9_isStill_20 : decode cX9_isStill 20 = .ok (.aload_n 0, 1) := by decide +kernel
theorem dX9_isStill_21 : decode cX9_isStill 21 = .ok (.iconst 2, 1) := by decide +kernel
theorem dX9_isStill_22 : decode cX9_isStill 22 = .ok (.invokevirtual 95, 3) := by decide +kernel
theorem dX9_isStill_25 : decode cX9_isStill 25 = .ok (.lconst 0, 1) := by decide +kernel
theorem dX9_isStill_26 : decode cX9_isStill 26 = .ok (.lcmp, 1) := by decide +kernel
theorem dX9_isStill_27 : decode cX9_isStill 27 = .ok (.ifCond .lt 7, 3) := by decide +kernel
theorem dX9_isStill_30 : decode cX9_isStill 30 = .ok (.iconst 1, 1) := by decide +kernel
theorem dX9_isStill_31 : decode cX9_isStill 31 = .ok (.goto 4, 3) := by decide +kernel
theorem dX9_isStill_34 : decode cX9_isStill 34 = .ok (.iconst 0, 1) := by decide +kernel
theorem dX9_isStill_35 : decode cX9_isStill 35 = .ok (.ireturn, 1) := by decide +kernel
theorem dX9_isStable_0 : decode cX9_isStable 0 = .ok (.aload_n 0, 1) := by decide +kernel
theorem dX9_isStable_1 : decode cX9_isStable 1 = .ok (.iconst 0, 1) := by decide +kernel
theorem dX9_isStable_2 : decode cX9_isStable 2 = .ok (.putfield 38, 3) := by decide +kernel
theorem dX9_isStable_5 : decode cX9_isStable 5 = .ok (.aload_n 0, 1) := by decide +kernel
theorem dX9_isStable_6 : decode cX9_isStable 6 = .ok (.invokevirtual 108, 3) := by decide +kernel
theorem dX9_isStable_9 : decode cX9_isStable 9 = .ok (.ireturn, 1) := by decide +kernel
theorem dX9_capacity_0 : decode cX9_capacity 0 = .ok (.aload_n 0, 1) := by decide +kernel
theorem dX9_capacity_1 : decode cX9_capacity 1 = .ok (.getfield 7, 3) := by decide +kernel
theorem dX9_capacity_4 : decode cX9_capacity 4 = .ok (.iconst 0, 1) := by decide +kernel
theorem dX9_capacity_5 : decode cX9_capacity 5 = .ok (.iconst 3, 1) := by decide +kernel
theorem dX9_capacity_6 : decode cX9_capacity 6 = .ok (.iload_n 1, 1) := by decide +kernel
theorem dX9_capacity_7 : decode cX9_capacity 7 = .ok (.imul, 1) := by decide +kernel
theorem dX9_capacity_8 : decode cX9_capacity 8 = .ok (.iadd, 1) := by decide +kernel
theorem dX9_capacity_9 : decode cX9_capacity 9 = .ok (.iconst 2, 1) := by decide +kernel
theorem dX9_capacity_10 : decode cX9_capacity 10 = .ok (.iadd, 1) := by decide +kernel
theorem dX9_capacity_11 : decode cX9_capacity 11 = .ok (.laload, 1) := by decide +kernel
theorem dX9_capacity_12 : decode cX9_capacity 12 = .ok (.aload_n 0, 1) := by decide +kernel
theorem dX9_capacity_13 : decode cX9_capacity 13 = .ok (.invokevirtual 98, 3) := by decide +kernel
theorem dX9_capacity_16 : decode cX9_capacity 16 = .ok (.lmul, 1) := by decide +kernel
theorem dX9_capacity_17 : decode cX9_capacity 17 = .ok (.lreturn, 1) := by decide +kernel
theorem dX9_overs_0 : decode cX9_overs 0 = .ok (.iconst 0, 1) := by decide +kernel
theorem dX9_overs_1 : decode cX9_overs 1 = .ok (.istore_n 1, 1) := by decide +kernel
theorem dX9_overs_2 : decode cX9_overs 2 = .ok (.iconst 0, 1) := by decide +kernel
theorem dX9_overs_3 : decode cX9_overs 3 = .ok (.istore_n 2, 1) := by decide +kernel
theorem dX9_overs_4 : decode cX9_overs 4 = .ok (.iload_n 2, 1) := by decide +kernel
theorem dX9_overs_5 : decode cX9_overs 5 = .ok (.iconst 3, 1) := by decide +kernel
theorem dX9_overs_6 : decode cX9_overs 6 = .ok (.if_icmp .ge 33, 3) := by decide +kernel
theorem dX9_overs_9 : decode cX9_overs 9 = .ok (.iload_n 1, 1) := by decide +kernel
theorem dX9_overs_10 : decode cX9_overs 10 = .ok (.aload_n 0, 1) := by decide +kernel
theorem dX9_overs_11 : decode cX9_overs 11 = .ok (.iload_n 2, 1) := by decide +kernel
theorem dX9_overs_12 : decode cX9_overs 12 = .ok (.invokevirtual 95, 3) := by decide +kernel
theorem dX9_overs_15 : decode cX9_overs 15 = .ok (.aload_n 0, 1) := by decide +kernel
theorem dX9_overs_16 : decode cX9_overs 16 = .ok (.iload_n 2, 1) := by decide +kernel
theorem dX9_overs_17 : decode cX9_overs 17 = .ok (.invokevirtual 112, 3) := by decide +kernel
theorem dX9_overs_20 : decode cX9_overs 20 = .ok (.lcmp, 1) := by decide +kernel
theorem dX9_overs_21 : decode cX9_overs 21 = .ok (.ifCond .le 9, 3) := by decide +kernel
theorem dX9_overs_24 : decode cX9_overs 24 = .ok (.iconst 1, 1) := by decide +kernel
theorem dX9_overs_25 : decode cX9_overs 25 = .ok (.iload_n 2, 1) := by decide +kernel
theorem dX9_overs_26 : decode cX9_overs 26 = .ok (.ishl, 1) := by decide +kernel
theorem dX9_overs_27 : decode cX9_overs 27 = .ok (.goto 4, 3) := by decide +kernel
theorem dX9_overs_30 : decode cX9_overs 30 = .ok (.iconst 0, 1) := by decide +kernel
theorem dX9_overs_31 : decode cX9_overs 31 = .ok (.ior, 1) := by decide +kernel
theorem dX9_overs_32 : decode cX9_overs 32 = .ok (.istore_n 1, 1) := by decide +kernel
theorem dX9_overs_33 : decode cX9_overs 33 = .ok (.iinc 2 1, 3) := by decide +kernel
theorem dX9_overs_36 : decode cX9_overs 36 = .ok (.goto (-32), 3) := by decide +kernel
theorem dX9_overs_39 : decode cX9_overs 39 = .ok (.iload_n 1, 1) := by decide +kernel
theorem dX9_overs_40 : decode cX9_overs 40 = .ok (.ireturn, 1) := by decide +kernel
theorem dX9_overloaded_0 : decode cX9_overloaded 0 = .ok (.aload_n 0, 1) := by decide +kernel
theorem dX9_overloaded_1 : decode cX9_overloaded 1 = .ok (.iconst 0, 1) := by decide +kernel
theorem dX9_overloaded_2 : decode cX9_overloaded 2 = .ok (.putfield 38, 3) := by decide +kernel
theorem dX9_overloaded_5 : decode cX9_overloaded 5 = .ok (.aload_n 0, 1) := by decide +kernel
theorem dX9_overloaded_6 : decode cX9_overloaded 6 = .ok (.invokevirtual 115, 3) := by decide +kernel
theorem dX9_overloaded_9 : decode cX9_overloaded 9 = .ok (.ireturn, 1) := by decide +kernel
theorem dX9_room_0 : decode cX9_room 0 = .ok (.aload_n 0, 1) := by decide +kernel
theorem dX9_room_1 : decode cX9_room 1 = .ok (.iload_n 1, 1) := by decide +kernel
theorem dX9_room_2 : decode cX9_room 2 = .ok (.iload_n 2, 1) := by decide +kernel
theorem dX9_room_3 : decode cX9_room 3 = .ok (.invokestatic 81, 3) := by decide +kernel
theorem dX9_room_6 : decode cX9_room 6 = .ok (.ifCond .eq 7, 3) := by decide +kernel
theorem dX9_room_9 : decode cX9_room 9 = .ok (.iconst 0, 1) := by decide +kernel
theorem dX9_room_10 : decode cX9_room 10 = .ok (.goto 4, 3) := by decide +kernel
theorem dX9_room_13 : decode cX9_room 13 = .ok (.iconst 1, 1) := by decide +kernel
theorem dX9_room_14 : decode cX9_room 14 = .ok (.invokevirtual 55, 3) := by decide +kernel
theorem dX9_room_17 : decode cX9_room 17 = .ok (.ifCond .eq 5, 3) := by decide +kernel
theorem dX9_room_20 : decode cX9_room 20 = .ok (.iconst 0, 1) := by decide +kernel
theorem dX9_room_21 : decode cX9_room 21 = .ok (.ireturn, 1) := by decide +kernel
theorem dX9_room_22 : decode cX9_room 22 = .ok (.aload_n 0, 1) := by decide +kernel
theorem dX9_room_23 : decode cX9_room 23 = .ok (.invokevirtual 108, 3) := by decide +kernel
theorem dX9_room_26 : decode cX9_room 26 = .ok (.ifCond .eq 10, 3) := by decide +kernel
theorem dX9_room_29 : decode cX9_room 29 = .ok (.aload_n 0, 1) := by decide +kernel
theorem dX9_room_30 : decode cX9_room 30 = .ok (.invokevirtual 115, 3) := by decide +kernel
theorem dX9_room_33 : decode cX9_room 33 = .ok (.ifCond .eq 5, 3) := by decide +kernel
theorem dX9_room_36 : decode cX9_room 36 = .ok (.iconst (-1), 1) := by decide +kernel
theorem dX9_room_37 : decode cX9_room 37 = .ok (.ireturn, 1) := by decide +kernel
theorem dX9_room_38 : decode cX9_room 38 = .ok (.ldc2_w 119, 3) := by decide +kernel
theorem dX9_room_41 : decode cX9_room 41 = .ok (.lstore_n 3, 1) := by decide +kernel
theorem dX9_room_42 : decode cX9_room 42 = .ok (.iconst 0, 1) := by decide +kernel
theorem dX9_room_43 : decode cX9_room 43 = .ok (.istore 5, 2) := by decide +kernel
theorem dX9_room_45 : decode cX9_room 45 = .ok (.iload 5, 2) := by decide +kernel
theorem dX9_room_47 : decode cX9_room 47 = .ok (.iconst 3, 1) := by decide +kernel
theorem dX9_room_48 : decode cX9_room 48 = .ok (.if_icmp .ge 109, 3) := by decide +kernel
theorem dX9_room_51 : decode cX9_room 51 = .ok (.aload_n 0, 1) := by decide +kernel
theorem dX9_room_52 : decode cX9_room 52 = .ok (.invokevirtual 74, 3) := by decide +kernel
theorem dX9_room_55 : decode cX9_room 55 = .ok (.lconst 0, 1) := by decide +kernel
theorem dX9_room_56 : decode cX9_room 56 = .ok (.lcmp, 1) := by decide +kernel
theorem dX9_room_57 : decode cX9_room 57 = .ok (.ifCond .ge 18, 3) := by decide +kernel
theorem dX9_room_60 : decode cX9_room 60 = .ok (.aload_n 0, 1) := by decide +kernel
theorem dX9_room_61 : decode cX9_room 61 = .ok (.iload 5, 2) := by decide +kernel
theorem dX9_room_63 : decode cX9_room 63 = .ok (.lconst 1, 1) := by decide +kernel
theorem dX9_room_64 : decode cX9_room 64 = .ok (.iload_n 1, 1) := by decide +kernel
theorem dX9_room_65 : decode cX9_room 65 = .ok (.i2l, 1) := by decide +kernel
theorem dX9_room_66 : decode cX9_room 66 = .ok (.iload_n 2, 1) := by decide +kernel
theorem dX9_room_67 : decode cX9_room 67 = .ok (.i2l, 1) := by decide +kernel
theorem dX9_room_68 : decode cX9_room 68 = .ok (.invokevirtual 70, 3) := by decide +kernel
theorem dX9_room_71 : decode cX9_room 71 = .ok (.lneg, 1) := by decide +kernel
theorem dX9_room_72 : decode cX9_room 72 = .ok (.goto 14, 3) := by decide +kernel
theorem dX9_room_75 : decode cX9_room 75 = .ok (.aload_n 0, 1) := by decide +kernel
theorem dX9_room_76 : decode cX9_room 76 = .ok (.iload 5, 2) := by decide +kernel
theorem dX9_room_78 : decode cX9_room 78 = .ok (.lconst 1, 1) := by decide +kernel
theorem dX9_room_79 : decode cX9_room 79 = .ok (.iload_n 1, 1) := by decide +kernel
theorem dX9_room_80 : decode cX9_room 80 = .ok (.i2l, 1) := by decide +kernel
theorem dX9_room_81 : decode cX9_room 81 = .ok (.iload_n 2, 1) := by decide +kernel
theorem dX9_room_82 : decode cX9_room 82 = .ok (.i2l, 1) := by decide +kernel
theorem dX9_room_83 : decode cX9_room 83 = .ok (.invokevirtual 70, 3) := by decide +kernel
theorem dX9_room_86 : decode cX9_room 86 = .ok (.lstore 6, 2) := by decide +kernel
theorem dX9_room_88 : decode cX9_room 88 = .ok (.lload 6, 2) := by decide +kernel
theorem dX9_room_90 : decode cX9_room 90 = .ok (.lconst 0, 1) := by decide +kernel
theorem dX9_room_91 : decode cX9_room 91 = .ok (.lcmp, 1) := by decide +kernel
theorem dX9_room_92 : decode cX9_room 92 = .ok (.ifCond .le 22, 3) := by decide +kernel
theorem dX9_room_95 : decode cX9_room 95 = .ok (.aload_n 0, 1) := by decide +kernel
theorem dX9_room_96 : decode cX9_room 96 = .ok (.iload 5, 2) := by decide +kernel
theorem dX9_room_98 : decode cX9_room 98 = .ok (.invokevirtual 112, 3) := by decide +kernel
theorem dX9_room_101 : decode cX9_room 101 = .ok (.aload_n 0, 1) := by decide +kernel
theorem dX9_room_102 : decode cX9_room 102 = .ok (.iload 5, 2) := by decide +kernel
theorem dX9_room_104 : decode cX9_room 104 = .ok (.invokevirtual 95, 3) := by decide +kernel
theorem dX9_room_107 : decode cX9_room 107 = .ok (.lsub, 1) := by decide +kernel
theorem dX9_room_108 : decode cX9_room 108 = .ok (.lload 6, 2) := by decide +kernel
theorem dX9_room_110 : decode cX9_room 110 = .ok (.ldiv, 1) := by decide +kernel
theorem dX9_room_111 : decode cX9_room 111 = .ok (.goto 24, 3) := by decide +kernel
theorem dX9_room_114 : decode cX9_room 114 = .ok (.lload 6, 2) := by decide +kernel
theorem dX9_room_116 : decode cX9_room 116 = .ok (.lconst 0, 1) := by decide +kernel
theorem dX9_room_117 : decode cX9_room 117 = .ok (.lcmp, 1) := by decide +kernel
theorem dX9_room_118 : decode cX9_room 118 = .ok (.ifCond .ge 16, 3) := by decide +kernel
theorem dX9_room_121 : decode cX9_room 121 = .ok (.aload_n 0, 1) := by decide +kernel
theorem dX9_room_122 : decode cX9_room 122 = .ok (.iload 5, 2) := by decide +kernel
theorem dX9_room_124 : decode cX9_room 124 = .ok (.invokevirtual 95, 3) := by decide +kernel
theorem dX9_room_127 : decode cX9_room 127 = .ok (.lload 6, 2) := by decide +kernel
theorem dX9_room_129 : decode cX9_room 129 = .ok (.lneg, 1) := by decide +kernel
theorem dX9_room_130 : decode cX9_room 130 = .ok (.ldiv, 1) := by decide +kernel
theorem dX9_room_131 : decode cX9_room 131 = .ok (.goto 4, 3) := by decide +kernel
theorem dX9_room_134 : decode cX9_room 134 = .ok (.lload_n 3, 1) := by decide +kernel
theorem dX9_room_135 : decode cX9_room 135 = .ok (.lstore 8, 2) := by decide +kernel
theorem dX9_room_137 : decode cX9_room 137 = .ok (.lload 8, 2) := by decide +kernel
theorem dX9_room_139 : decode cX9_room 139 = .ok (.lload_n 3, 1) := by decide +kernel
theorem dX9_room_140 : decode cX9_room 140 = .ok (.lcmp, 1) := by decide +kernel
theorem dX9_room_141 : decode cX9_room 141 = .ok (.ifCond .ge 8, 3) := by decide +kernel
theorem dX9_room_144 : decode cX9_room 144 = .ok (.lload 8, 2) := by decide +kernel
theorem dX9_room_146 : decode cX9_room 146 = .ok (.goto 4, 3) := by decide +kernel
theorem dX9_room_149 : decode cX9_room 149 = .ok (.lload_n 3, 1) := by decide +kernel
theorem dX9_room_150 : decode cX9_room 150 = .ok (.lstore_n 3, 1) := by decide +kernel
theorem dX9_room_151 : decode cX9_room 151 = .ok (.iinc 5 1, 3) := by decide +kernel
theorem dX9_room_154 : decode cX9_room 154 = .ok (.goto (-109), 3) := by decide +kernel
theorem dX9_room_157 : decode cX9_room 157 = .ok (.lload_n 3, 1) := by decide +kernel
theorem dX9_room_158 : decode cX9_room 158 = .ok (.l2i, 1) := by decide +kernel
theorem dX9_room_159 : decode cX9_room 159 = .ok (.ireturn, 1) := by decide +kernel
theorem dX9_chanceAt_0 : decode cX9_chanceAt 0 = .ok (.bipush 44, 2) := by decide +kernel
theorem dX9_chanceAt_2 : decode cX9_chanceAt 2 = .ok (.iconst 3, 1) := by decide +kernel
theorem dX9_chanceAt_3 : decode cX9_chanceAt 3 = .ok (.bipush 8, 2) := by decide +kernel
theorem dX9_chanceAt_5 : decode cX9_chanceAt 5 = .ok (.iload_n 1, 1) := by decide +kernel
theorem dX9_chanceAt_6 : decode cX9_chanceAt 6 = .ok (.imul, 1) := by decide +kernel
theorem dX9_chanceAt_7 : decode cX9_chanceAt 7 = .ok (.iload_n 2, 1) := by decide +kernel
theorem dX9_chanceAt_8 : decode cX9_chanceAt 8 = .ok (.iadd, 1) := by decide +kernel
theorem dX9_chanceAt_9 : decode cX9_chanceAt 9 = .ok (.imul, 1) := by decide +kernel
theorem dX9_chanceAt_10 : decode cX9_chanceAt 10 = .ok (.iadd, 1) := by decide +kernel
theorem dX9_chanceAt_11 : decode cX9_chanceAt 11 = .ok (.ireturn, 1) := by decide +kernel
theorem dX9_laysHypotheses_0 : decode cX9_laysHypotheses 0 = .ok (.iconst 0, 1) := by decide +kernel
theorem dX9_laysHypotheses_1 : decode cX9_laysHypotheses 1 = .ok (.istore_n 1, 1) := by decide +kernel
theorem dX9_laysHypotheses_2 : decode cX9_laysHypotheses 2 = .ok (.iload_n 1, 1) := by decide +kernel
theorem dX9_laysHypotheses_3 : decode cX9_laysHypotheses 3 = .ok (.bipush 8, 2) := by decide +kernel
theorem dX9_laysHypotheses_5 : decode cX9_laysHypotheses 5 = .ok (.if_icmp .ge 55, 3) := by decide +kernel
theorem dX9_laysHypotheses_8 : decode cX9_laysHypotheses 8 = .ok (.aload_n 0, 1) := by decide +kernel
theorem dX9_laysHypotheses_9 : decode cX9_laysHypotheses 9 = .ok (.getfield 7, 3) := by decide +kernel
theorem dX9_laysHypotheses_12 : decode cX9_laysHypotheses 12 = .ok (.bipush 35, 2) := by decide +kernel
theorem dX9_laysHypotheses_14 : decode cX9_laysHypotheses 14 = .ok (.iload_n 1, 1) := by decide +kernel
theorem dX9_laysHypotheses_15 : decode cX9_laysHypotheses 15 = .ok (.iadd, 1) := by decide +kernel
theorem dX9_laysHypotheses_16 : decode cX9_laysHypotheses 16 = .ok (.iload_n 1, 1) := by decide +kernel
theorem dX9_laysHypotheses_17 : decode cX9_laysHypotheses 17 = .ok (.aload_n 0, 1) := by decide +kernel
theorem dX9_laysHypotheses_18 : decode cX9_laysHypotheses 18 = .ok (.bipush 34, 2) := by decide +kernel
theorem dX9_laysHypotheses_20 : decode cX9_laysHypotheses 20 = .ok (.invokevirtual 66, 3) := by decide +kernel
theorem dX9_laysHypotheses_23 : decode cX9_laysHypotheses 23 = .ok (.if_icmp .ge 7, 3) := by decide +kernel
theorem dX9_laysHypotheses_26 : decode cX9_laysHypotheses 26 = .ok (.lconst 1, 1) := by decide +kernel
theorem dX9_laysHypotheses_27 : decode cX9_laysHypotheses 27 = .ok (.goto 4, 3) := by decide +kernel
theorem dX9_laysHypotheses_30 : decode cX9_laysHypotheses 30 = .ok (.lconst 0, 1) := by decide +kernel
theorem dX9_laysHypotheses_31 : decode cX9_laysHypotheses 31 = .ok (.lastore, 1) := by decide +kernel
theorem dX9_laysHypotheses_32 : decode cX9_laysHypotheses 32 = .ok (.iconst 0, 1) := by decide +kernel
theorem dX9_laysHypotheses_33 : decode cX9_laysHypotheses 33 = .ok (.istore_n 2, 1) := by decide +kernel
theorem dX9_laysHypotheses_34 : decode cX9_laysHypotheses 34 = .ok (.iload_n 2, 1) := by decide +kernel
theorem dX9_laysHypotheses_35 : decode cX9_laysHypotheses 35 = .ok (.bipush 10, 2) := by decide +kernel
theorem dX9_laysHypotheses_37 : decode cX9_laysHypotheses 37 = .ok (.if_icmp .ge 17, 3) := by decide +kernel
theorem dX9_laysHypotheses_40 : decode cX9_laysHypotheses 40 = .ok (.aload_n 0, 1) := by decide +kernel
theorem dX9_laysHypotheses_41 : decode cX9_laysHypotheses 41 = .ok (.iload_n 2, 1) := by decide +kernel
theorem dX9_laysHypotheses_42 : decode cX9_laysHypotheses 42 = .ok (.iload_n 1, 1) := by decide +kernel
theorem dX9_laysHypotheses_43 : decode cX9_laysHypotheses 43 = .ok (.iconst 0, 1) := by decide +kernel
theorem dX9_laysHypotheses_44 : decode cX9_laysHypotheses 44 = .ok (.iconst 0, 1) := by decide +kernel
theorem dX9_laysHypotheses_45 : decode cX9_laysHypotheses 45 = .ok (.invokevirtual 121, 3) := by decide +kernel
theorem dX9_laysHypotheses_48 : decode cX9_laysHypotheses 48 = .ok (.iinc 2 1, 3) := by decide +kernel
theorem dX9_laysHypotheses_51 : decode cX9_laysHypotheses 51 = .ok (.goto (-17), 3) := by decide +kernel
theorem dX9_laysHypotheses_54 : decode cX9_laysHypotheses 54 = .ok (.iinc 1 1, 3) := by decide +kernel
theorem dX9_laysHypotheses_57 : decode cX9_laysHypotheses 57 = .ok (.goto (-55), 3) := by decide +kernel
theorem dX9_laysHypotheses_60 : decode cX9_laysHypotheses 60 = .ok (.return_, 1) := by decide +kernel
theorem dX9_laysChances_0 : decode cX9_laysChances 0 = .ok (.aload_n 0, 1) := by decide +kernel
theorem dX9_laysChances_1 : decode cX9_laysChances 1 = .ok (.iload_n 1, 1) := by decide +kernel
theorem dX9_laysChances_2 : decode cX9_laysChances 2 = .ok (.iload_n 2, 1) := by decide +kernel
theorem dX9_laysChances_3 : decode cX9_laysChances 3 = .ok (.invokevirtual 125, 3) := by decide +kernel
theorem dX9_laysChances_6 : decode cX9_laysChances 6 = .ok (.istore 5, 2) := by decide +kernel
theorem dX9_laysChances_8 : decode cX9_laysChances 8 = .ok (.aload_n 0, 1) := by decide +kernel
theorem dX9_laysChances_9 : decode cX9_laysChances 9 = .ok (.getfield 7, 3) := by decide +kernel
theorem dX9_laysChances_12 : decode cX9_laysChances 12 = .ok (.iload 5, 2) := by decide +kernel
theorem dX9_laysChances_14 : decode cX9_laysChances 14 = .ok (.iload_n 3, 1) := by decide +kernel
theorem dX9_laysChances_15 : decode cX9_laysChances 15 = .ok (.i2l, 1) := by decide +kernel
theorem dX9_laysChances_16 : decode cX9_laysChances 16 = .ok (.lastore, 1) := by decide +kernel
theorem dX9_laysChances_17 : decode cX9_laysChances 17 = .ok (.aload_n 0, 1) := by decide +kernel
theorem dX9_laysChances_18 : decode cX9_laysChances 18 = .ok (.getfield 7, 3) := by decide +kernel
theorem dX9_laysChances_21 : decode cX9_laysChances 21 = .ok (.iload 5, 2) := by decide +kernel
theorem dX9_laysChances_23 : decode cX9_laysChances 23 = .ok (.iconst 1, 1) := by decide +kernel
theorem dX9_laysChances_24 : decode cX9_laysChances 24 = .ok (.iadd, 1) := by decide +kernel
theorem dX9_laysChances_25 : decode cX9_laysChances 25 = .ok (.iload 4, 2) := by decide +kernel
theorem dX9_laysChances_27 : decode cX9_laysChances 27 = .ok (.i2l, 1) := by decide +kernel
theorem dX9_laysChances_28 : decode cX9_laysChances 28 = .ok (.lastore, 1) := by decide +kernel
theorem dX9_laysChances_29 : decode cX9_laysChances 29 = .ok (.aload_n 0, 1) := by decide +kernel
theorem dX9_laysChances_30 : decode cX9_laysChances 30 = .ok (.getfield 7, 3) := by decide +kernel
theorem dX9_laysChances_33 : decode cX9_laysChances 33 = .ok (.iload 5, 2) := by decide +kernel
theorem dX9_laysChances_35 : decode cX9_laysChances 35 = .ok (.iconst 2, 1) := by decide +kernel
theorem dX9_laysChances_36 : decode cX9_laysChances 36 = .ok (.iadd, 1) := by decide +kernel
theorem dX9_laysChances_37 : decode cX9_laysChances 37 = .ok (.bipush 10, 2) := by decide +kernel
theorem dX9_laysChances_39 : decode cX9_laysChances 39 = .ok (.iload_n 3, 1) := by decide +kernel
theorem dX9_laysChances_40 : decode cX9_laysChances 40 = .ok (.isub, 1) := by decide +kernel
theorem dX9_laysChances_41 : decode cX9_laysChances 41 = .ok (.iload 4, 2) := by decide +kernel
theorem dX9_laysChances_43 : decode cX9_laysChances 43 = .ok (.isub, 1) := by decide +kernel
theorem dX9_laysChances_44 : decode cX9_laysChances 44 = .ok (.i2l, 1) := by decide +kernel
theorem dX9_laysChances_45 : decode cX9_laysChances 45 = .ok (.lastore, 1) := by decide +kernel
theorem dX9_laysChances_46 : decode cX9_laysChances 46 = .ok (.return_, 1) := by decide +kernel
theorem dX9_setHypotheses_0 : decode cX9_setHypotheses 0 = .ok (.aload_n 0, 1) := by decide +kernel
theorem dX9_setHypotheses_1 : decode cX9_setHypotheses 1 = .ok (.iload_n 1, 1) := by decide +kernel
theorem dX9_setHypotheses_2 : decode cX9_setHypotheses 2 = .ok (.i2l, 1) := by decide +kernel
theorem dX9_setHypotheses_3 : decode cX9_setHypotheses 3 = .ok (.lconst 1, 1) := by decide +kernel
theorem dX9_setHypotheses_4 : decode cX9_setHypotheses 4 = .ok (.ldc2_w 129, 3) := by decide +kernel
theorem dX9_setHypotheses_7 : decode cX9_setHypotheses 7 = .ok (.invokestatic 44, 3) := by decide +kernel
theorem dX9_setHypotheses_10 : decode cX9_setHypotheses 10 = .ok (.ifCond .eq 7, 3) := by decide +kernel
theorem dX9_setHypotheses_13 : decode cX9_setHypotheses 13 = .ok (.iconst 0, 1) := by decide +kernel
theorem dX9_setHypotheses_14 : decode cX9_setHypotheses 14 = .ok (.goto 4, 3) := by decide +kernel
theorem dX9_setHypotheses_17 : decode cX9_setHypotheses 17 = .ok (.iconst 1, 1) := by decide +kernel
theorem dX9_setHypotheses_18 : decode cX9_setHypotheses 18 = .ok (.invokevirtual 55, 3) := by decide +kernel
theorem dX9_setHypotheses_21 : decode cX9_setHypotheses 21 = .ok (.ifCond .eq 5, 3) := by decide +kernel
theorem dX9_setHypotheses_24 : decode cX9_setHypotheses 24 = .ok (.iconst 0, 1) := by decide +kernel
theorem dX9_setHypotheses_25 : decode cX9_setHypotheses 25 = .ok (.ireturn, 1) := by decide +kernel
theorem dX9_setHypotheses_26 : decode cX9_setHypotheses 26 = .ok (.aload_n 0, 1) := by decide +kernel
theorem dX9_setHypotheses_27 : decode cX9_setHypotheses 27 = .ok (.invokevirtual 87, 3) := by decide +kernel
theorem dX9_setHypotheses_30 : decode cX9_setHypotheses 30 = .ok (.aload_n 0, 1) := by decide +kernel
theorem dX9_setHypotheses_31 : decode cX9_setHypotheses 31 = .ok (.bipush 34, 2) := by decide +kernel
theorem dX9_setHypotheses_33 : decode cX9_setHypotheses 33 = .ok (.invokevirtual 66, 3) := by decide +kernel
theorem dX9_setHypotheses_36 : decode cX9_setHypotheses 36 = .ok (.istore_n 2, 1) := by decide +kernel
theorem dX9_setHypotheses_37 : decode cX9_setHypotheses 37 = .ok (.aload_n 0, 1) := by decide +kernel
theorem dX9_setHypotheses_38 : decode cX9_setHypotheses 38 = .ok (.getfield 7, 3) := by decide +kernel
theorem dX9_setHypotheses_41 : decode cX9_setHypotheses 41 = .ok (.bipush 34, 2) := by decide +kernel
theorem dX9_setHypotheses_43 : decode cX9_setHypotheses 43 = .ok (.iload_n 1, 1) := by decide +kernel
theorem dX9_setHypotheses_44 : decode cX9_setHypotheses 44 = .ok (.i2l, 1) := by decide +kernel
theorem dX9_setHypotheses_45 : decode cX9_setHypotheses 45 = .ok (.lastore, 1) := by decide +kernel
theorem dX9_setHypotheses_46 : decode cX9_setHypotheses 46 = .ok (.aload_n 0, 1) := by decide +kernel
theorem dX9_setHypotheses_47 : decode cX9_setHypotheses 47 = .ok (.invokevirtual 35, 3) := by decide +kernel
theorem dX9_setHypotheses_50 : decode cX9_setHypotheses 50 = .ok (.iload_n 2, 1) := by decide +kernel
theorem dX9_setHypotheses_51 : decode cX9_setHypotheses 51 = .ok (.ireturn, 1) := by decide +kernel
theorem dX9_isHypothesis_0 : decode cX9_isHypothesis 0 = .ok (.iload_n 1, 1) := by decide +kernel
theorem dX9_isHypothesis_1 : decode cX9_isHypothesis 1 = .ok (.i2l, 1) := by decide +kernel
theorem dX9_isHypothesis_2 : decode cX9_isHypothesis 2 = .ok (.lconst 0, 1) := by decide +kernel
theorem dX9_isHypothesis_3 : decode cX9_isHypothesis 3 = .ok (.aload_n 0, 1) := by decide +kernel
theorem dX9_isHypothesis_4 : decode cX9_isHypothesis 4 = .ok (.bipush 34, 2) := by decide +kernel
theorem dX9_isHypothesis_6 : decode cX9_isHypothesis 6 = .ok (.invokevirtual 66, 3) := by decide +kernel
theorem dX9_isHypothesis_9 : decode cX9_isHypothesis 9 = .ok (.iconst 1, 1) := by decide +kernel
theorem dX9_isHypothesis_10 : decode cX9_isHypothesis 10 = .ok (.isub, 1) := by decide +kernel
theorem dX9_isHypothesis_11 : decode cX9_isHypothesis 11 = .ok (.i2l, 1) := by decide +kernel
theorem dX9_isHypothesis_12 : decode cX9_isHypothesis 12 = .ok (.invokestatic 44, 3) := by decide +kernel
theorem dX9_isHypothesis_15 : decode cX9_isHypothesis 15 = .ok (.ireturn, 1) := by decide +kernel
theorem dX9_isTest_0 : decode cX9_isTest 0 = .ok (.iload_n 1, 1) := by decide +kernel
theorem dX9_isTest_1 : decode cX9_isTest 1 = .ok (.i2l, 1) := by decide +kernel
theorem dX9_isTest_2 : decode cX9_isTest 2 = .ok (.lconst 0, 1) := by decide +kernel
theorem dX9_isTest_3 : decode cX9_isTest 3 = .ok (.aload_n 0, 1) := by decide +kernel
theorem dX9_isTest_4 : decode cX9_isTest 4 = .ok (.bipush 43, 2) := by decide +kernel
theorem dX9_isTest_6 : decode cX9_isTest 6 = .ok (.invokevirtual 66, 3) := by decide +kernel
theorem dX9_isTest_9 : decode cX9_isTest 9 = .ok (.iconst 1, 1) := by decide +kernel
theorem dX9_isTest_10 : decode cX9_isTest 10 = .ok (.isub, 1) := by decide +kernel
theorem dX9_isTest_11 : decode cX9_isTest 11 = .ok (.i2l, 1) := by decide +kernel
theorem dX9_isTest_12 : decode cX9_isTest 12 = .ok (.invokestatic 44, 3) := by decide +kernel
theorem dX9_isTest_15 : decode cX9_isTest 15 = .ok (.ireturn, 1) := by decide +kernel
theorem dX9_weights_0 : decode cX9_weights 0 = .ok (.lconst 0, 1) := by decide +kernel
theorem dX9_weights_1 : decode cX9_weights 1 = .ok (.lstore_n 1, 1) := by decide +kernel
theorem dX9_weights_2 : decode cX9_weights 2 = .ok (.iconst 0, 1) := by decide +kernel
theorem dX9_weights_3 : decode cX9_weights 3 = .ok (.istore_n 3, 1) := by decide +kernel
theorem dX9_weights_4 : decode cX9_weights 4 = .ok (.iload_n 3, 1) := by decide +kernel
theorem dX9_weights_5 : decode cX9_weights 5 = .ok (.bipush 8, 2) := by decide +kernel
theorem dX9_weights_7 : decode cX9_weights 7 = .ok (.if_icmp .ge 21, 3) := by decide +kernel
theorem dX9_weights_10 : decode cX9_weights 10 = .ok (.lload_n 1, 1) := by decide +kernel
theorem dX9_weights_11 : decode cX9_weights 11 = .ok (.aload_n 0, 1) := by decide +kernel
theorem dX9_weights_12 : decode cX9_weights 12 = .ok (.getfield 7, 3) := by decide +kernel
theorem dX9_weights_15 : decode cX9_weights 15 = .ok (.bipush 35, 2) := by decide +kernel
theorem dX9_weights_17 : decode cX9_weights 17 = .ok (.iload_n 3, 1) := by decide +kernel
theorem dX9_weights_18 : decode cX9_weights 18 = .ok (.iadd, 1) := by decide +kernel
theorem dX9_weights_19 : decode cX9_weights 19 = .ok (.laload, 1) := by decide +kernel
theorem dX9_weights_20 : decode cX9_weights 20 = .ok (.ladd, 1) := by decide +kernel
theorem dX9_weights_21 : decode cX9_weights 21 = .ok (.lstore_n 1, 1) := by decide +kernel
theorem dX9_weights_22 : decode cX9_weights 22 = .ok (.iinc 3 1, 3) := by decide +kernel
theorem dX9_weights_25 : decode cX9_weights 25 = .ok (.goto (-21), 3) := by decide +kernel
theorem dX9_weights_28 : decode cX9_weights 28 = .ok (.lload_n 1, 1) := by decide +kernel
theorem dX9_weights_29 : decode cX9_weights 29 = .ok (.lreturn, 1) := by decide +kernel
theorem dX9_setWeight_0 : decode cX9_setWeight 0 = .ok (.aload_n 0, 1) := by decide +kernel
theorem dX9_setWeight_1 : decode cX9_setWeight 1 = .ok (.aload_n 0, 1) := by decide +kernel
theorem dX9_setWeight_2 : decode cX9_setWeight 2 = .ok (.iload_n 1, 1) := by decide +kernel
theorem dX9_setWeight_3 : decode cX9_setWeight 3 = .ok (.invokevirtual 131, 3) := by decide +kernel
theorem dX9_setWeight_6 : decode cX9_setWeight 6 = .ok (.ifCond .ne 7, 3) := by decide +kernel
theorem dX9_setWeight_9 : decode cX9_setWeight 9 = .ok (.iconst 1, 1) := by decide +kernel
theorem dX9_setWeight_10 : decode cX9_setWeight 10 = .ok (.goto 45, 3) := by decide +kernel
theorem dX9_setWeight_13 : decode cX9_setWeight 13 = .ok (.iload_n 2, 1) := by decide +kernel
theorem dX9_setWeight_14 : decode cX9_setWeight 14 = .ok (.i2l, 1) := by decide +kernel
theorem dX9_setWeight_15 : decode cX9_setWeight 15 = .ok (.lconst 0, 1) := by decide +kernel
theorem dX9_setWeight_16 : decode cX9_setWeight 16 = .ok (.ldc2_w 134, 3) := by decide +kernel
theorem dX9_setWeight_19 : decode cX9_setWeight 19 = .ok (.invokestatic 44, 3) := by decide +kernel
theorem dX9_setWeight_22 : decode cX9_setWeight 22 = .ok (.ifCond .ne 7, 3) := by decide +kernel
theorem dX9_setWeight_25 : decode cX9_setWeight 25 = .ok (.iconst 2, 1) := by decide +kernel
theorem dX9_setWeight_26 : decode cX9_setWeight 26 = .ok (.goto 29, 3) := by decide +kernel
theorem dX9_setWeight_29 : decode cX9_setWeight 29 = .ok (.iload_n 2, 1) := by decide +kernel
theorem dX9_setWeight_30 : decode cX9_setWeight 30 = .ok (.ifCond .ne 24, 3) := by decide +kernel
theorem dX9_setWeight_33 : decode cX9_setWeight 33 = .ok (.aload_n 0, 1) := by decide +kernel
theorem dX9_setWeight_34 : decode cX9_setWeight 34 = .ok (.invokevirtual 136, 3) := by decide +kernel
theorem dX9_setWeight_37 : decode cX9_setWeight 37 = .ok (.aload_n 0, 1) := by decide +kernel
theorem dX9_setWeight_38 : decode cX9_setWeight 38 = .ok (.getfield 7, 3) := by decide +kernel
theorem dX9_setWeight_41 : decode cX9_setWeight 41 = .ok (.bipush 35, 2) := by decide +kernel
theorem dX9_setWeight_43 : decode cX9_setWeight 43 = .ok (.iload_n 1, 1) := by decide +kernel
theorem dX9_setWeight_44 : decode cX9_setWeight 44 = .ok (.iadd, 1) := by decide +kernel
theorem dX9_setWeight_45 : decode cX9_setWeight 45 = .ok (.laload, 1) := by decide +kernel
theorem dX9_setWeight_46 : decode cX9_setWeight 46 = .ok (.lcmp, 1) := by decide +kernel
theorem dX9_setWeight_47 : decode cX9_setWeight 47 = .ok (.ifCond .ne 7, 3) := by decide +kernel
theorem dX9_setWeight_50 : decode cX9_setWeight 50 = .ok (.iconst 3, 1) := by decide +kernel
theorem dX9_setWeight_51 : decode cX9_setWeight 51 = .ok (.goto 4, 3) := by decide +kernel
theorem dX9_setWeight_54 : decode cX9_setWeight 54 = .ok (.iconst 0, 1) := by decide +kernel
theorem dX9_setWeight_55 : decode cX9_setWeight 55 = .ok (.invokevirtual 55, 3) := by decide +kernel
theorem dX9_setWeight_58 : decode cX9_setWeight 58 = .ok (.ifCond .eq 5, 3) := by decide +kernel
theorem dX9_setWeight_61 : decode cX9_setWeight 61 = .ok (.lconst 0, 1) := by decide +kernel
theorem dX9_setWeight_62 : decode cX9_setWeight 62 = .ok (.lreturn, 1) := by decide +kernel
theorem dX9_setWeight_63 : decode cX9_setWeight 63 = .ok (.aload_n 0, 1) := by decide +kernel
theorem dX9_setWeight_64 : decode cX9_setWeight 64 = .ok (.invokevirtual 87, 3) := by decide +kernel
theorem dX9_setWeight_67 : decode cX9_setWeight 67 = .ok (.aload_n 0, 1) := by decide +kernel
theorem dX9_setWeight_68 : decode cX9_setWeight 68 = .ok (.getfield 7, 3) := by decide +kernel
theorem dX9_setWeight_71 : decode cX9_setWeight 71 = .ok (.bipush 35, 2) := by decide +kernel
theorem dX9_setWeight_73 : decode cX9_setWeight 73 = .ok (.iload_n 1, 1) := by decide +kernel
theorem dX9_setWeight_74 : decode cX9_setWeight 74 = .ok (.iadd, 1) := by decide +kernel
theorem dX9_setWeight_75 : decode cX9_setWeight 75 = .ok (.laload, 1) := by decide +kernel
theorem dX9_setWeight_76 : decode cX9_setWeight 76 = .ok (.lstore_n 3, 1) := by decide +kernel
theorem dX9_setWeight_77 : decode cX9_setWeight 77 = .ok (.aload_n 0, 1) := by decide +kernel
theorem dX9_setWeight_78 : decode cX9_setWeight 78 = .ok (.getfield 7, 3) := by decide +kernel
theorem dX9_setWeight_81 : decode cX9_setWeight 81 = .ok (.bipush 35, 2) := by decide +kernel
theorem dX9_setWeight_83 : decode cX9_setWeight 83 = .ok (.iload_n 1, 1) := by decide +kernel
theorem dX9_setWeight_84 : decode cX9_setWeight 84 = .ok (.iadd, 1) := by decide +kernel
theorem dX9_setWeight_85 : decode cX9_setWeight 85 = .ok (.iload_n 2, 1) := by decide +kernel
theorem dX9_setWeight_86 : decode cX9_setWeight 86 = .ok (.i2l, 1) := by decide +kernel
theorem dX9_setWeight_87 : decode cX9_setWeight 87 = .ok (.lastore, 1) := by decide +kernel
theorem dX9_setWeight_88 : decode cX9_setWeight 88 = .ok (.lload_n 3, 1) := by decide +kernel
theorem dX9_setWeight_89 : decode cX9_setWeight 89 = .ok (.lreturn, 1) := by decide +kernel
theorem dX9_addTest_0 : decode cX9_addTest 0 = .ok (.aload_n 0, 1) := by decide +kernel
theorem dX9_addTest_1 : decode cX9_addTest 1 = .ok (.aload_n 0, 1) := by decide +kernel
theorem dX9_addTest_2 : decode cX9_addTest 2 = .ok (.bipush 43, 2) := by decide +kernel
theorem dX9_addTest_4 : decode cX9_addTest 4 = .ok (.invokevirtual 66, 3) := by decide +kernel
theorem dX9_addTest_7 : decode cX9_addTest 7 = .ok (.bipush 10, 2) := by decide +kernel
theorem dX9_addTest_9 : decode cX9_addTest 9 = .ok (.if_icmp .ne 7, 3) := by decide +kernel
theorem dX9_addTest_12 : decode cX9_addTest 12 = .ok (.iconst 1, 1) := by decide +kernel
theorem dX9_addTest_13 : decode cX9_addTest 13 = .ok (.goto 4, 3) := by decide +kernel
theorem dX9_addTest_16 : decode cX9_addTest 16 = .ok (.iconst 0, 1) := by decide +kernel
theorem dX9_addTest_17 : decode cX9_addTest 17 = .ok (.invokevirtual 55, 3) := by decide +kernel
theorem dX9_addTest_20 : decode cX9_addTest 20 = .ok (.ifCond .eq 5, 3) := by decide +kernel
theorem dX9_addTest_23 : decode cX9_addTest 23 = .ok (.iconst 0, 1) := by decide +kernel
theorem dX9_addTest_24 : decode cX9_addTest 24 = .ok (.ireturn, 1) := by decide +kernel
theorem dX9_addTest_25 : decode cX9_addTest 25 = .ok (.aload_n 0, 1) := by decide +kernel
theorem dX9_addTest_26 : decode cX9_addTest 26 = .ok (.invokevirtual 87, 3) := by decide +kernel
theorem dX9_addTest_29 : decode cX9_addTest 29 = .ok (.aload_n 0, 1) := by decide +kernel
theorem dX9_addTest_30 : decode cX9_addTest 30 = .ok (.bipush 43, 2) := by decide +kernel
theorem dX9_addTest_32 : decode cX9_addTest 32 = .ok (.invokevirtual 66, 3) := by decide +kernel
theorem dX9_addTest_35 : decode cX9_addTest 35 = .ok (.istore_n 1, 1) := by decide +kernel
theorem dX9_addTest_36 : decode cX9_addTest 36 = .ok (.iconst 0, 1) := by decide +kernel
theorem dX9_addTest_37 : decode cX9_addTest 37 = .ok (.istore_n 2, 1) := by decide +kernel
theorem dX9_addTest_38 : decode cX9_addTest 38 = .ok (.iload_n 2, 1) := by decide +kernel
theorem dX9_addTest_39 : decode cX9_addTest 39 = .ok (.bipush 8, 2) := by decide +kernel
theorem dX9_addTest_41 : decode cX9_addTest 41 = .ok (.if_icmp .ge 17, 3) := by decide +kernel
theorem dX9_addTest_44 : decode cX9_addTest 44 = .ok (.aload_n 0, 1) := by decide +kernel
theorem dX9_addTest_45 : decode cX9_addTest 45 = .ok (.iload_n 1, 1) := by decide +kernel
theorem dX9_addTest_46 : decode cX9_addTest 46 = .ok (.iload_n 2, 1) := by decide +kernel
theorem dX9_addTest_47 : decode cX9_addTest 47 = .ok (.iconst 0, 1) := by decide +kernel
theorem dX9_addTest_48 : decode cX9_addTest 48 = .ok (.iconst 0, 1) := by decide +kernel
theorem dX9_addTest_49 : decode cX9_addTest 49 = .ok (.invokevirtual 121, 3) := by decide +kernel
theorem dX9_addTest_52 : decode cX9_addTest 52 = .ok (.iinc 2 1, 3) := by decide +kernel
theorem dX9_addTest_55 : decode cX9_addTest 55 = .ok (.goto (-17), 3) := by decide +kernel
theorem dX9_addTest_58 : decode cX9_addTest 58 = .ok (.aload_n 0, 1) := by decide +kernel
theorem dX9_addTest_59 : decode cX9_addTest 59 = .ok (.getfield 7, 3) := by decide +kernel
theorem dX9_addTest_62 : decode cX9_addTest 62 = .ok (.bipush 43, 2) := by decide +kernel
theorem dX9_addTest_64 : decode cX9_addTest 64 = .ok (.dup2, 1) := by decide +kernel
theorem dX9_addTest_65 : decode cX9_addTest 65 = .ok (.laload, 1) := by decide +kernel
theorem dX9_addTest_66 : decode cX9_addTest 66 = .ok (.lconst 1, 1) := by decide +kernel
theorem dX9_addTest_67 : decode cX9_addTest 67 = .ok (.ladd, 1) := by decide +kernel
theorem dX9_addTest_68 : decode cX9_addTest 68 = .ok (.lastore, 1) := by decide +kernel
theorem dX9_addTest_69 : decode cX9_addTest 69 = .ok (.iload_n 1, 1) := by decide +kernel
theorem dX9_addTest_70 : decode cX9_addTest 70 = .ok (.ireturn, 1) := by decide +kernel
theorem dX9_setChances_0 : decode cX9_setChances 0 = .ok (.aload_n 0, 1) := by decide +kernel
theorem dX9_setChances_1 : decode cX9_setChances 1 = .ok (.aload_n 0, 1) := by decide +kernel
theorem dX9_setChances_2 : decode cX9_setChances 2 = .ok (.iload_n 1, 1) := by decide +kernel
theorem dX9_setChances_3 : decode cX9_setChances 3 = .ok (.invokevirtual 139, 3) := by decide +kernel
theorem dX9_setChances_6 : decode cX9_setChances 6 = .ok (.ifCond .eq 11, 3) := by decide +kernel
theorem dX9_setChances_9 : decode cX9_setChances 9 = .ok (.aload_n 0, 1) := by decide +kernel
theorem dX9_setChances_10 : decode cX9_setChances 10 = .ok (.iload_n 2, 1) := by decide +kernel
theorem dX9_setChances_11 : decode cX9_setChances 11 = .ok (.invokevirtual 131, 3) := by decide +kernel
theorem dX9_setChances_14 : decode cX9_setChances 14 = .ok (.ifCond .ne 7, 3) := by decide +kernel
theorem dX9_setChances_17 : decode cX9_setChances 17 = .ok (.iconst 1, 1) := by decide +kernel
theorem dX9_setChances_18 : decode cX9_setChances 18 = .ok (.goto 35, 3) := by decide +kernel
theorem dX9_setChances_21 : decode cX9_setChances 21 = .ok (.iload_n 3, 1) := by decide +kernel
theorem dX9_setChances_22 : decode cX9_setChances 22 = .ok (.i2l, 1) := by decide +kernel
theorem dX9_setChances_23 : decode cX9_setChances 23 = .ok (.lconst 0, 1) := by decide +kernel
theorem dX9_setChances_24 : decode cX9_setChances 24 = .ok (.ldc2_w 142, 3) := by decide +kernel
theorem dX9_setChances_27 : decode cX9_setChances 27 = .ok (.invokestatic 44, 3) := by decide +kernel
theorem dX9_setChances_30 : decode cX9_setChances 30 = .ok (.ifCond .eq 22, 3) := by decide +kernel
theorem dX9_setChances_33 : decode cX9_setChances 33 = .ok (.iload 4, 2) := by decide +kernel
theorem dX9_setChances_35 : decode cX9_setChances 35 = .ok (.i2l, 1) := by decide +kernel
theorem dX9_setChances_36 : decode cX9_setChances 36 = .ok (.lconst 0, 1) := by decide +kernel
theorem dX9_setChances_37 : decode cX9_setChances 37 = .ok (.bipush 10, 2) := by decide +kernel
theorem dX9_setChances_39 : decode cX9_setChances 39 = .ok (.iload_n 3, 1) := by decide +kernel
theorem dX9_setChances_40 : decode cX9_setChances 40 = .ok (.isub, 1) := by decide +kernel
theorem dX9_setChances_41 : decode cX9_setChances 41 = .ok (.i2l, 1) := by decide +kernel
theorem dX9_setChances_42 : decode cX9_setChances 42 = .ok (.invokestatic 44, 3) := by decide +kernel
theorem dX9_setChances_45 : decode cX9_setChances 45 = .ok (.ifCond .eq 7, 3) := by decide +kernel
theorem dX9_setChances_48 : decode cX9_setChances 48 = .ok (.iconst 0, 1) := by decide +kernel
theorem dX9_setChances_49 : decode cX9_setChances 49 = .ok (.goto 4, 3) := by decide +kernel
theorem dX9_setChances_52 : decode cX9_setChances 52 = .ok (.iconst 2, 1) := by decide +kernel
theorem dX9_setChances_53 : decode cX9_setChances 53 = .ok (.invokevirtual 55, 3) := by decide +kernel
theorem dX9_setChances_56 : decode cX9_setChances 56 = .ok (.ifCond .eq 5, 3) := by decide +kernel
theorem dX9_setChances_59 : decode cX9_setChances 59 = .ok (.iconst 0, 1) := by decide +kernel
theorem dX9_setChances_60 : decode cX9_setChances 60 = .ok (.ireturn, 1) := by decide +kernel
theorem dX9_setChances_61 : decode cX9_setChances 61 = .ok (.aload_n 0, 1) := by decide +kernel
theorem dX9_setChances_62 : decode cX9_setChances 62 = .ok (.invokevirtual 87, 3) := by decide +kernel
theorem dX9_setChances_65 : decode cX9_setChances 65 = .ok (.aload_n 0, 1) := by decide +kernel
theorem dX9_setChances_66 : decode cX9_setChances 66 = .ok (.iload_n 1, 1) := by decide +kernel
theorem dX9_setChances_67 : decode cX9_setChances 67 = .ok (.iload_n 2, 1) := by decide +kernel
theorem dX9_setChances_68 : decode cX9_setChances 68 = .ok (.iload_n 3, 1) := by decide +kernel
theorem dX9_setChances_69 : decode cX9_setChances 69 = .ok (.iload 4, 2) := by decide +kernel
theorem dX9_setChances_71 : decode cX9_setChances 71 = .ok (.invokevirtual 121, 3) := by decide +kernel
theorem dX9_setChances_74 : decode cX9_setChances 74 = .ok (.bipush 10, 2) := by decide +kernel
theorem dX9_setChances_76 : decode cX9_setChances 76 = .ok (.iload_n 3, 1) := by decide +kernel
theorem dX9_setChances_77 : decode cX9_setChances 77 = .ok (.isub, 1) := by decide +kernel
theorem dX9_setChances_78 : decode cX9_setChances 78 = .ok (.iload 4, 2) := by decide +kernel
theorem dX9_setChances_80 : decode cX9_setChances 80 = .ok (.isub, 1) := by decide +kernel
theorem dX9_setChances_81 : decode cX9_setChances 81 = .ok (.ireturn, 1) := by decide +kernel
theorem dX9_laysThen_0 : decode cX9_laysThen 0 = .ok (.lconst 0, 1) := by decide +kernel
theorem dX9_laysThen_1 : decode cX9_laysThen 1 = .ok (.lstore_n 3, 1) := by decide +kernel
theorem dX9_laysThen_2 : decode cX9_laysThen 2 = .ok (.iconst 0, 1) := by decide +kernel
theorem dX9_laysThen_3 : decode cX9_laysThen 3 = .ok (.istore 5, 2) := by decide +kernel
theorem dX9_laysThen_5 : decode cX9_laysThen 5 = .ok (.iload 5, 2) := by decide +kernel
theorem dX9_laysThen_7 : decode cX9_laysThen 7 = .ok (.bipush 8, 2) := by decide +kernel
theorem dX9_laysThen_9 : decode cX9_laysThen 9 = .ok (.if_icmp .ge 53, 3) := by decide +kernel
theorem dX9_laysThen_12 : decode cX9_laysThen 12 = .ok (.aload_n 0, 1) := by decide +kernel
theorem dX9_laysThen_13 : decode cX9_laysThen 13 = .ok (.getfield 16, 3) := by decide +kernel
theorem dX9_laysThen_16 : decode cX9_laysThen 16 = .ok (.iload 5, 2) := by decide +kernel
theorem dX9_laysThen_18 : decode cX9_laysThen 18 = .ok (.aload_n 0, 1) := by decide +kernel
theorem dX9_laysThen_19 : decode cX9_laysThen 19 = .ok (.getfield 7, 3) := by decide +kernel
theorem dX9_laysThen_22 : decode cX9_laysThen 22 = .ok (.bipush 35, 2) := by decide +kernel
theorem dX9_laysThen_24 : decode cX9_laysThen 24 = .ok (.iload 5, 2) := by decide +kernel
theorem dX9_laysThen_26 : decode cX9_laysThen 26 = .ok (.iadd, 1) := by decide +kernel
theorem dX9_laysThen_27 : decode cX9_laysThen 27 = .ok (.laload, 1) := by decide +kernel
theorem dX9_laysThen_28 : decode cX9_laysThen 28 = .ok (.aload_n 0, 1) := by decide +kernel
theorem dX9_laysThen_29 : decode cX9_laysThen 29 = .ok (.getfield 7, 3) := by decide +kernel
theorem dX9_laysThen_32 : decode cX9_laysThen 32 = .ok (.aload_n 0, 1) := by decide +kernel
theorem dX9_laysThen_33 : decode cX9_laysThen 33 = .ok (.iload_n 1, 1) := by decide +kernel
theorem dX9_laysThen_34 : decode cX9_laysThen 34 = .ok (.iload 5, 2) := by decide +kernel
theorem dX9_laysThen_36 : decode cX9_laysThen 36 = .ok (.invokevirtual 125, 3) := by decide +kernel
theorem dX9_laysThen_39 : decode cX9_laysThen 39 = .ok (.iload_n 2, 1) := by decide +kernel
theorem dX9_laysThen_40 : decode cX9_laysThen 40 = .ok (.iadd, 1) := by decide +kernel
theorem dX9_laysThen_41 : decode cX9_laysThen 41 = .ok (.laload, 1) := by decide +kernel
theorem dX9_laysThen_42 : decode cX9_laysThen 42 = .ok (.lmul, 1) := by decide +kernel
theorem dX9_laysThen_43 : decode cX9_laysThen 43 = .ok (.lastore, 1) := by decide +kernel
theorem dX9_laysThen_44 : decode cX9_laysThen 44 = .ok (.lload_n 3, 1) := by decide +kernel
theorem dX9_laysThen_45 : decode cX9_laysThen 45 = .ok (.aload_n 0, 1) := by decide +kernel
theorem dX9_laysThen_46 : decode cX9_laysThen 46 = .ok (.getfield 16, 3) := by decide +kernel
theorem dX9_laysThen_49 : decode cX9_laysThen 49 = .ok (.iload 5, 2) := by decide +kernel
theorem dX9_laysThen_51 : decode cX9_laysThen 51 = .ok (.laload, 1) := by decide +kernel
theorem dX9_laysThen_52 : decode cX9_laysThen 52 = .ok (.invokestatic 48, 3) := by decide +kernel
theorem dX9_laysThen_55 : decode cX9_laysThen 55 = .ok (.lstore_n 3, 1) := by decide +kernel
theorem dX9_laysThen_56 : decode cX9_laysThen 56 = .ok (.iinc 5 1, 3) := by decide +kernel
theorem dX9_laysThen_59 : decode cX9_laysThen 59 = .ok (.goto (-54), 3) := by decide +kernel
theorem dX9_laysThen_62 : decode cX9_laysThen 62 = .ok (.lconst 0, 1) := by decide +kernel
theorem dX9_laysThen_63 : decode cX9_laysThen 63 = .ok (.lstore 5, 2) := by decide +kernel
theorem dX9_laysThen_65 : decode cX9_laysThen 65 = .ok (.iconst 0, 1) := by decide +kernel
theorem dX9_laysThen_66 : decode cX9_laysThen 66 = .ok (.istore 7, 2) := by decide +kernel
theorem dX9_laysThen_68 : decode cX9_laysThen 68 = .ok (.iload 7, 2) := by decide +kernel
theorem dX9_laysThen_70 : decode cX9_laysThen 70 = .ok (.bipush 8, 2) := by decide +kernel
theorem dX9_laysThen_72 : decode cX9_laysThen 72 = .ok (.if_icmp .ge 62, 3) := by decide +kernel
theorem dX9_laysThen_75 : decode cX9_laysThen 75 = .ok (.aload_n 0, 1) := by decide +kernel
theorem dX9_laysThen_76 : decode cX9_laysThen 76 = .ok (.getfield 16, 3) := by decide +kernel
theorem dX9_laysThen_79 : decode cX9_laysThen 79 = .ok (.iload 7, 2) := by decide +kernel
theorem dX9_laysThen_81 : decode cX9_laysThen 81 = .ok (.lload_n 3, 1) := by decide +kernel
theorem dX9_laysThen_82 : decode cX9_laysThen 82 = .ok (.lconst 0, 1) := by decide +kernel
theorem dX9_laysThen_83 : decode cX9_laysThen 83 = .ok (.lcmp, 1) := by decide +kernel
theorem dX9_laysThen_84 : decode cX9_laysThen 84 = .ok (.ifCond .ne 7, 3) := by decide +kernel
theorem dX9_laysThen_87 : decode cX9_laysThen 87 = .ok (.lconst 0, 1) := by decide +kernel
theorem dX9_laysThen_88 : decode cX9_laysThen 88 = .ok (.goto 12, 3) := by decide +kernel
theorem dX9_laysThen_91 : decode cX9_laysThen 91 = .ok (.aload_n 0, 1) := by decide +kernel
theorem dX9_laysThen_92 : decode cX9_laysThen 92 = .ok (.getfield 16, 3) := by decide +kernel
theorem dX9_laysThen_95 : decode cX9_laysThen 95 = .ok (.iload 7, 2) := by decide +kernel
theorem dX9_laysThen_97 : decode cX9_laysThen 97 = .ok (.laload, 1) := by decide +kernel
theorem dX9_laysThen_98 : decode cX9_laysThen 98 = .ok (.lload_n 3, 1) := by decide +kernel
theorem dX9_laysThen_99 : decode cX9_laysThen 99 = .ok (.ldiv, 1) := by decide +kernel
theorem dX9_laysThen_100 : decode cX9_laysThen 100 = .ok (.lastore, 1) := by decide +kernel
theorem dX9_laysThen_101 : decode cX9_laysThen 101 = .ok (.aload_n 0, 1) := by decide +kernel
theorem dX9_laysThen_102 : decode cX9_laysThen 102 = .ok (.getfield 16, 3) := by decide +kernel
theorem dX9_laysThen_105 : decode cX9_laysThen 105 = .ok (.iload 7, 2) := by decide +kernel
theorem dX9_laysThen_107 : decode cX9_laysThen 107 = .ok (.laload, 1) := by decide +kernel
theorem dX9_laysThen_108 : decode cX9_laysThen 108 = .ok (.lload 5, 2) := by decide +kernel
theorem dX9_laysThen_110 : decode cX9_laysThen 110 = .ok (.lcmp, 1) := by decide +kernel
theorem dX9_laysThen_111 : decode cX9_laysThen 111 = .ok (.ifCond .le 13, 3) := by decide +kernel
theorem dX9_laysThen_114 : decode cX9_laysThen 114 = .ok (.aload_n 0, 1) := by decide +kernel
theorem dX9_laysThen_115 : decode cX9_laysThen 115 = .ok (.getfield 16, 3) := by decide +kernel
theorem dX9_laysThen_118 : decode cX9_laysThen 118 = .ok (.iload 7, 2) := by decide +kernel
theorem dX9_laysThen_120 : decode cX9_laysThen 120 = .ok (.laload, 1) := by decide +kernel
theorem dX9_laysThen_121 : decode cX9_laysThen 121 = .ok (.goto 5, 3) := by decide +kernel
theorem dX9_laysThen_124 : decode cX9_laysThen 124 = .ok (.lload 5, 2) := by decide +kernel
theorem dX9_laysThen_126 : decode cX9_laysThen 126 = .ok (.lstore 5, 2) := by decide +kernel
theorem dX9_laysThen_128 : decode cX9_laysThen 128 = .ok (.iinc 7 1, 3) := by decide +kernel
theorem dX9_laysThen_131 : decode cX9_laysThen 131 = .ok (.goto (-63), 3) := by decide +kernel
theorem dX9_laysThen_134 : decode cX9_laysThen 134 = .ok (.lload 5, 2) := by decide +kernel
theorem dX9_laysThen_136 : decode cX9_laysThen 136 = .ok (.lreturn, 1) := by decide +kernel
theorem dX9_observe_0 : decode cX9_observe 0 = .ok (.aload_n 0, 1) := by decide +kernel
theorem dX9_observe_1 : decode cX9_observe 1 = .ok (.aload_n 0, 1) := by decide +kernel
theorem dX9_observe_2 : decode cX9_observe 2 = .ok (.iload_n 1, 1) := by decide +kernel
theorem dX9_observe_3 : decode cX9_observe 3 = .ok (.invokevirtual 139, 3) := by decide +kernel
theorem dX9_observe_6 : decode cX9_observe 6 = .ok (.ifCond .ne 7, 3) := by decide +kernel
theorem dX9_observe_9 : decode cX9_observe 9 = .ok (.iconst 1, 1) := by decide +kernel
theorem dX9_observe_10 : decode cX9_observe 10 = .ok (.goto 20, 3) := by decide +kernel
theorem dX9_observe_13 : decode cX9_observe 13 = .ok (.iload_n 2, 1) := by decide +kernel
theorem dX9_observe_14 : decode cX9_observe 14 = .ok (.i2l, 1) := by decide +kernel
theorem dX9_observe_15 : decode cX9_observe 15 = .ok (.lconst 0, 1) := by decide +kernel
theorem dX9_observe_16 : decode cX9_observe 16 = .ok (.ldc2_w 33, 3) := by decide +kernel
theorem dX9_observe_19 : decode cX9_observe 19 = .ok (.invokestatic 44, 3) := by decide +kernel
theorem dX9_observe_22 : decode cX9_observe 22 = .ok (.ifCond .eq 7, 3) := by decide +kernel
theorem dX9_observe_25 : decode cX9_observe 25 = .ok (.iconst 0, 1) := by decide +kernel
theorem dX9_observe_26 : decode cX9_observe 26 = .ok (.goto 4, 3) := by decide +kernel
theorem dX9_observe_29 : decode cX9_observe 29 = .ok (.iconst 2, 1) := by decide +kernel
theorem dX9_observe_30 : decode cX9_observe 30 = .ok (.invokevirtual 55, 3) := by decide +kernel
theorem dX9_observe_33 : decode cX9_observe 33 = .ok (.ifCond .eq 5, 3) := by decide +kernel
theorem dX9_observe_36 : decode cX9_observe 36 = .ok (.iconst 0, 1) := by decide +kernel
theorem dX9_observe_37 : decode cX9_observe 37 = .ok (.ireturn, 1) := by decide +kernel
theorem dX9_observe_38 : decode cX9_observe 38 = .ok (.aload_n 0, 1) := by decide +kernel
theorem dX9_observe_39 : decode cX9_observe 39 = .ok (.iload_n 1, 1) := by decide +kernel
theorem dX9_observe_40 : decode cX9_observe 40 = .ok (.iload_n 2, 1) := by decide +kernel
theorem dX9_observe_41 : decode cX9_observe 41 = .ok (.invokevirtual 144, 3) := by decide +kernel
theorem dX9_observe_44 : decode cX9_observe 44 = .ok (.lstore_n 3, 1) := by decide +kernel
theorem dX9_observe_45 : decode cX9_observe 45 = .ok (.aload_n 0, 1) := by decide +kernel
theorem dX9_observe_46 : decode cX9_observe 46 = .ok (.lload_n 3, 1) := by decide +kernel
theorem dX9_observe_47 : decode cX9_observe 47 = .ok (.lconst 0, 1) := by decide +kernel
theorem dX9_observe_48 : decode cX9_observe 48 = .ok (.lcmp, 1) := by decide +kernel
theorem dX9_observe_49 : decode cX9_observe 49 = .ok (.ifCond .ne 7, 3) := by decide +kernel
theorem dX9_observe_52 : decode cX9_observe 52 = .ok (.iconst 3, 1) := by decide +kernel
theorem dX9_observe_53 : decode cX9_observe 53 = .ok (.goto 16, 3) := by decide +kernel
theorem dX9_observe_56 : decode cX9_observe 56 = .ok (.lload_n 3, 1) := by decide +kernel
theorem dX9_observe_57 : decode cX9_observe 57 = .ok (.ldc2_w 119, 3) := by decide +kernel
theorem dX9_observe_60 : decode cX9_observe 60 = .ok (.lcmp, 1) := by decide +kernel
theorem dX9_observe_61 : decode cX9_observe 61 = .ok (.ifCond .le 7, 3) := by decide +kernel
theorem dX9_observe_64 : decode cX9_observe 64 = .ok (.iconst 4, 1) := by decide +kernel
theorem dX9_observe_65 : decode cX9_observe 65 = .ok (.goto 4, 3) := by decide +kernel
theorem dX9_observe_68 : decode cX9_observe 68 = .ok (.iconst 0, 1) := by decide +kernel
theorem dX9_observe_69 : decode cX9_observe 69 = .ok (.invokevirtual 55, 3) := by decide +kernel
theorem dX9_observe_72 : decode cX9_observe 72 = .ok (.ifCond .eq 5, 3) := by decide +kernel
theorem dX9_observe_75 : decode cX9_observe 75 = .ok (.iconst 0, 1) := by decide +kernel
theorem dX9_observe_76 : decode cX9_observe 76 = .ok (.ireturn, 1) := by decide +kernel
theorem dX9_observe_77 : decode cX9_observe 77 = .ok (.aload_n 0, 1) := by decide +kernel
theorem dX9_observe_78 : decode cX9_observe 78 = .ok (.invokevirtual 87, 3) := by decide +kernel
theorem dX9_observe_81 : decode cX9_observe 81 = .ok (.iconst (-1), 1) := by decide +kernel
theorem dX9_observe_82 : decode cX9_observe 82 = .ok (.istore 5, 2) := by decide +kernel
theorem dX9_observe_84 : decode cX9_observe 84 = .ok (.bipush 7, 2) := by decide +kernel
theorem dX9_observe_86 : decode cX9_observe 86 = .ok (.istore 6, 2) := by decide +kernel
theorem dX9_observe_88 : decode cX9_observe 88 = .ok (.iload 6, 2) := by decide +kernel
theorem dX9_observe_90 : decode cX9_observe 90 = .ok (.ifCond .lt 47, 3) := by decide +kernel
theorem dX9_observe_93 : decode cX9_observe 93 = .ok (.aload_n 0, 1) := by decide +kernel
theorem dX9_observe_94 : decode cX9_observe 94 = .ok (.getfield 7, 3) := by decide +kernel
theorem dX9_observe_97 : decode cX9_observe 97 = .ok (.bipush 35, 2) := by decide +kernel
theorem dX9_observe_99 : decode cX9_observe 99 = .ok (.iload 6, 2) := by decide +kernel
theorem dX9_observe_101 : decode cX9_observe 101 = .ok (.iadd, 1) := by decide +kernel
theorem dX9_observe_102 : decode cX9_observe 102 = .ok (.aload_n 0, 1) := by decide +kernel
theorem dX9_observe_103 : decode cX9_observe 103 = .ok (.getfield 16, 3) := by decide +kernel
theorem dX9_observe_106 : decode cX9_observe 106 = .ok (.iload 6, 2) := by decide +kernel
theorem dX9_observe_108 : decode cX9_observe 108 = .ok (.laload, 1) := by decide +kernel
theorem dX9_observe_109 : decode cX9_observe 109 = .ok (.lastore, 1) := by decide +kernel
theorem dX9_observe_110 : decode cX9_observe 110 = .ok (.aload_n 0, 1) := by decide +kernel
theorem dX9_observe_111 : decode cX9_observe 111 = .ok (.getfield 16, 3) := by decide +kernel
theorem dX9_observe_114 : decode cX9_observe 114 = .ok (.iload 6, 2) := by decide +kernel
theorem dX9_observe_116 : decode cX9_observe 116 = .ok (.laload, 1) := by decide +kernel
theorem dX9_observe_117 : decode cX9_observe 117 = .ok (.lload_n 3, 1) := by decide +kernel
theorem dX9_observe_118 : decode cX9_observe 118 = .ok (.lcmp, 1) := by decide +kernel
theorem dX9_observe_119 : decode cX9_observe 119 = .ok (.ifCond .ne 8, 3) := by decide +kernel
theorem dX9_observe_122 : decode cX9_observe 122 = .ok (.iload 6, 2) := by decide +kernel
theorem dX9_observe_124 : decode cX9_observe 124 = .ok (.goto 5, 3) := by decide +kernel
theorem dX9_observe_127 : decode cX9_observe 127 = .ok (.iload 5, 2) := by decide +kernel
theorem dX9_observe_129 : decode cX9_observe 129 = .ok (.istore 5, 2) := by decide +kernel
theorem dX9_observe_131 : decode cX9_observe 131 = .ok (.iinc 6 (-1), 3) := by decide +kernel
theorem dX9_observe_134 : decode cX9_observe 134 = .ok (.goto (-46), 3) := by decide +kernel
theorem dX9_observe_137 : decode cX9_observe 137 = .ok (.iload 5, 2) := by decide +kernel
theorem dX9_observe_139 : decode cX9_observe 139 = .ok (.ireturn, 1) := by decide +kernel
theorem dX9_odds_0 : decode cX9_odds 0 = .ok (.aload_n 0, 1) := by decide +kernel
theorem dX9_odds_1 : decode cX9_odds 1 = .ok (.aload_n 0, 1) := by decide +kernel
theorem dX9_odds_2 : decode cX9_odds 2 = .ok (.iload_n 1, 1) := by decide +kernel
theorem dX9_odds_3 : decode cX9_odds 3 = .ok (.invokevirtual 131, 3) := by decide +kernel
theorem dX9_odds_6 : decode cX9_odds 6 = .ok (.ifCond .ne 7, 3) := by decide +kernel
theorem dX9_odds_9 : decode cX9_odds 9 = .ok (.iconst 1, 1) := by decide +kernel
theorem dX9_odds_10 : decode cX9_odds 10 = .ok (.goto 15, 3) := by decide +kernel
theorem dX9_odds_13 : decode cX9_odds 13 = .ok (.iload_n 2, 1) := by decide +kernel
theorem dX9_odds_14 : decode cX9_odds 14 = .ok (.invokestatic 92, 3) := by decide +kernel
theorem dX9_odds_17 : decode cX9_odds 17 = .ok (.ifCond .eq 7, 3) := by decide +kernel
theorem dX9_odds_20 : decode cX9_odds 20 = .ok (.iconst 0, 1) := by decide +kernel
theorem dX9_odds_21 : decode cX9_odds 21 = .ok (.goto 4, 3) := by decide +kernel
theorem dX9_odds_24 : decode cX9_odds 24 = .ok (.iconst 2, 1) := by decide +kernel
theorem dX9_odds_25 : decode cX9_odds 25 = .ok (.invokevirtual 55, 3) := by decide +kernel
theorem dX9_odds_28 : decode cX9_odds 28 = .ok (.ifCond .eq 7, 3) := by decide +kernel
theorem dX9_odds_31 : decode cX9_odds 31 = .ok (.lconst 0, 1) := by decide +kernel
theorem dX9_odds_32 : decode cX9_odds 32 = .ok (.goto 20, 3) := by decide +kernel
theorem dX9_odds_35 : decode cX9_odds 35 = .ok (.aload_n 0, 1) := by decide +kernel
theorem dX9_odds_36 : decode cX9_odds 36 = .ok (.getfield 7, 3) := by decide +kernel
theorem dX9_odds_39 : decode cX9_odds 39 = .ok (.bipush 35, 2) := by decide +kernel
theorem dX9_odds_41 : decode cX9_odds 41 = .ok (.iload_n 1, 1) := by decide +kernel
theorem dX9_odds_42 : decode cX9_odds 42 = .ok (.iadd, 1) := by decide +kernel
theorem dX9_odds_43 : decode cX9_odds 43 = .ok (.laload, 1) := by decide +kernel
theorem dX9_odds_44 : decode cX9_odds 44 = .ok (.aload_n 0, 1) := by decide +kernel
theorem dX9_odds_45 : decode cX9_odds 45 = .ok (.invokevirtual 136, 3) := by decide +kernel
theorem dX9_odds_48 : decode cX9_odds 48 = .ok (.iload_n 2, 1) := by decide +kernel
theorem dX9_odds_49 : decode cX9_odds 49 = .ok (.invokestatic 101, 3) := by decide +kernel
theorem dX9_odds_52 : decode cX9_odds 52 = .ok (.lreturn, 1) := by decide +kernel
theorem dX9_goes_0 : decode cX9_goes 0 = .ok (.iconst 0, 1) := by decide +kernel
theorem dX9_goes_1 : decode cX9_goes 1 = .ok (.istore 4, 2) := by decide +kernel
theorem dX9_goes_3 : decode cX9_goes 3 = .ok (.iload 4, 2) := by decide +kernel
theorem dX9_goes_5 : decode cX9_goes 5 = .ok (.bipush 8, 2) := by decide +kernel
theorem dX9_goes_7 : decode cX9_goes 7 = .ok (.if_icmp .ge 51, 3) := by decide +kernel
theorem dX9_goes_10 : decode cX9_goes 10 = .ok (.aload_n 0, 1) := by decide +kernel
theorem dX9_goes_11 : decode cX9_goes 11 = .ok (.getfield 19, 3) := by decide +kernel
theorem dX9_goes_14 : decode cX9_goes 14 = .ok (.bipush 8, 2) := by decide +kernel
theorem dX9_goes_16 : decode cX9_goes 16 = .ok (.iload_n 1, 1) := by decide +kernel
theorem dX9_goes_17 : decode cX9_goes 17 = .ok (.imul, 1) := by decide +kernel
theorem dX9_goes_18 : decode cX9_goes 18 = .ok (.bipush 8, 2) := by decide +kernel
theorem dX9_goes_20 : decode cX9_goes 20 = .ok (.iadd, 1) := by decide +kernel
theorem dX9_goes_21 : decode cX9_goes 21 = .ok (.iload 4, 2) := by decide +kernel
theorem dX9_goes_23 : decode cX9_goes 23 = .ok (.iadd, 1) := by decide +kernel
theorem dX9_goes_24 : decode cX9_goes 24 = .ok (.aload_n 0, 1) := by decide +kernel
theorem dX9_goes_25 : decode cX9_goes 25 = .ok (.getfield 19, 3) := by decide +kernel
theorem dX9_goes_28 : decode cX9_goes 28 = .ok (.bipush 8, 2) := by decide +kernel
theorem dX9_goes_30 : decode cX9_goes 30 = .ok (.iload_n 1, 1) := by decide +kernel
theorem dX9_goes_31 : decode cX9_goes 31 = .ok (.imul, 1) := by decide +kernel
theorem dX9_goes_32 : decode cX9_goes 32 = .ok (.iload 4, 2) := by decide +kernel
theorem dX9_goes_34 : decode cX9_goes 34 = .ok (.iadd, 1) := by decide +kernel
theorem dX9_goes_35 : decode cX9_goes 35 = .ok (.laload, 1) := by decide +kernel
theorem dX9_goes_36 : decode cX9_goes 36 = .ok (.aload_n 0, 1) := by decide +kernel
theorem dX9_goes_37 : decode cX9_goes 37 = .ok (.getfield 7, 3) := by decide +kernel
theorem dX9_goes_40 : decode cX9_goes 40 = .ok (.aload_n 0, 1) := by decide +kernel
theorem dX9_goes_41 : decode cX9_goes 41 = .ok (.iload_n 2, 1) := by decide +kernel
theorem dX9_goes_42 : decode cX9_goes 42 = .ok (.iload 4, 2) := by decide +kernel
theorem dX9_goes_44 : decode cX9_goes 44 = .ok (.invokevirtual 125, 3) := by decide +kernel
theorem dX9_goes_47 : decode cX9_goes 47 = .ok (.iload_n 3, 1) := by decide +kernel
theorem dX9_goes_48 : decode cX9_goes 48 = .ok (.iadd, 1) := by decide +kernel
theorem dX9_goes_49 : decode cX9_goes 49 = .ok (.laload, 1) := by decide +kernel
theorem dX9_goes_50 : decode cX9_goes 50 = .ok (.lmul, 1) := by decide +kernel
theorem dX9_goes_51 : decode cX9_goes 51 = .ok (.lastore, 1) := by decide +kernel
theorem dX9_goes_52 : decode cX9_goes 52 = .ok (.iinc 4 1, 3) := by decide +kernel
theorem dX9_goes_55 : decode cX9_goes 55 = .ok (.goto (-52), 3) := by decide +kernel
theorem dX9_goes_58 : decode cX9_goes 58 = .ok (.return_, 1) := by decide +kernel
theorem dX9_greatest_0 : decode cX9_greatest 0 = .ok (.lconst 0, 1) := by decide +kernel
theorem dX9_greatest_1 : decode cX9_greatest 1 = .ok (.lstore_n 2, 1) := by decide +kernel
theorem dX9_greatest_2 : decode cX9_greatest 2 = .ok (.iconst 0, 1) := by decide +kernel
theorem dX9_greatest_3 : decode cX9_greatest 3 = .ok (.istore 4, 2) := by decide +kernel
theorem dX9_greatest_5 : decode cX9_greatest 5 = .ok (.iload 4, 2) := by decide +kernel
theorem dX9_greatest_7 : decode cX9_greatest 7 = .ok (.bipush 8, 2) := by decide +kernel
theorem dX9_greatest_9 : decode cX9_greatest 9 = .ok (.if_icmp .ge 43, 3) := by decide +kernel
theorem dX9_greatest_12 : decode cX9_greatest 12 = .ok (.aload_n 0, 1) := by decide +kernel
theorem dX9_greatest_13 : decode cX9_greatest 13 = .ok (.getfield 19, 3) := by decide +kernel
theorem dX9_greatest_16 : decode cX9_greatest 16 = .ok (.bipush 8, 2) := by decide +kernel
theorem dX9_greatest_18 : decode cX9_greatest 18 = .ok (.iload_n 1, 1) := by decide +kernel
theorem dX9_greatest_19 : decode cX9_greatest 19 = .ok (.imul, 1) := by decide +kernel
theorem dX9_greatest_20 : decode cX9_greatest 20 = .ok (.iload 4, 2) := by decide +kernel
theorem dX9_greatest_22 : decode cX9_greatest 22 = .ok (.iadd, 1) := by decide +kernel
theorem dX9_greatest_23 : decode cX9_greatest 23 = .ok (.laload, 1) := by decide +kernel
theorem dX9_greatest_24 : decode cX9_greatest 24 = .ok (.lload_n 2, 1) := by decide +kernel
theorem dX9_greatest_25 : decode cX9_greatest 25 = .ok (.lcmp, 1) := by decide +kernel
theorem dX9_greatest_26 : decode cX9_greatest 26 = .ok (.ifCond .le 18, 3) := by decide +kernel
theorem dX9_greatest_29 : decode cX9_greatest 29 = .ok (.aload_n 0, 1) := by decide +kernel
theorem dX9_greatest_30 : decode cX9_greatest 30 = .ok (.getfield 19, 3) := by decide +kernel
theorem dX9_greatest_33 : decode cX9_greatest 33 = .ok (.bipush 8, 2) := by decide +kernel
theorem dX9_greatest_35 : decode cX9_greatest 35 = .ok (.iload_n 1, 1) := by decide +kernel
theorem dX9_greatest_36 : decode cX9_greatest 36 = .ok (.imul, 1) := by decide +kernel
theorem dX9_greatest_37 : decode cX9_greatest 37 = .ok (.iload 4, 2) := by decide +kernel
theorem dX9_greatest_39 : decode cX9_greatest 39 = .ok (.iadd, 1) := by decide +kernel
theorem dX9_greatest_40 : decode cX9_greatest 40 = .ok (.laload, 1) := by decide +kernel
theorem dX9_greatest_41 : decode cX9_greatest 41 = .ok (.goto 4, 3) := by decide +kernel
theorem dX9_greatest_44 : decode cX9_greatest 44 = .ok (.lload_n 2, 1) := by decide +kernel
theorem dX9_greatest_45 : decode cX9_greatest 45 = .ok (.lstore_n 2, 1) := by decide +kernel
theorem dX9_greatest_46 : decode cX9_greatest 46 = .ok (.iinc 4 1, 3) := by decide +kernel
theorem dX9_greatest_49 : decode cX9_greatest 49 = .ok (.goto (-44), 3) := by decide +kernel
theorem dX9_greatest_52 : decode cX9_greatest 52 = .ok (.lload_n 2, 1) := by decide +kernel
theorem dX9_greatest_53 : decode cX9_greatest 53 = .ok (.lreturn, 1) := by decide +kernel
theorem dX9_lastOne_0 : decode cX9_lastOne 0 = .ok (.ldc2_w 148, 3) := by decide +kernel
theorem dX9_lastOne_3 : decode cX9_lastOne 3 = .ok (.lstore_n 2, 1) := by decide +kernel
theorem dX9_lastOne_4 : decode cX9_lastOne 4 = .ok (.iconst 0, 1) := by decide +kernel
theorem dX9_lastOne_5 : decode cX9_lastOne 5 = .ok (.istore 4, 2) := by decide +kernel
theorem dX9_lastOne_7 : decode cX9_lastOne 7 = .ok (.iload 4, 2) := by decide +kernel
theorem dX9_lastOne_9 : decode cX9_lastOne 9 = .ok (.aload_n 0, 1) := by decide +kernel
theorem dX9_lastOne_10 : decode cX9_lastOne 10 = .ok (.bipush 43, 2) := by decide +kernel
theorem dX9_lastOne_12 : decode cX9_lastOne 12 = .ok (.invokevirtual 66, 3) := by decide +kernel
theorem dX9_lastOne_15 : decode cX9_lastOne 15 = .ok (.if_icmp .ge 86, 3) := by decide +kernel
theorem dX9_lastOne_18 : decode cX9_lastOne 18 = .ok (.lconst 0, 1) := by decide +kernel
theorem dX9_lastOne_19 : decode cX9_lastOne 19 = .ok (.lstore 5, 2) := by decide +kernel
theorem dX9_lastOne_21 : decode cX9_lastOne 21 = .ok (.iconst 0, 1) := by decide +kernel
theorem dX9_lastOne_22 : decode cX9_lastOne 22 = .ok (.istore 7, 2) := by decide +kernel
theorem dX9_lastOne_24 : decode cX9_lastOne 24 = .ok (.iload 7, 2) := by decide +kernel
theorem dX9_lastOne_26 : decode cX9_lastOne 26 = .ok (.iconst 3, 1) := by decide +kernel
theorem dX9_lastOne_27 : decode cX9_lastOne 27 = .ok (.if_icmp .ge 30, 3) := by decide +kernel
theorem dX9_lastOne_30 : decode cX9_lastOne 30 = .ok (.aload_n 0, 1) := by decide +kernel
theorem dX9_lastOne_31 : decode cX9_lastOne 31 = .ok (.iload_n 1, 1) := by decide +kernel
theorem dX9_lastOne_32 : decode cX9_lastOne 32 = .ok (.iload 4, 2) := by decide +kernel
theorem dX9_lastOne_34 : decode cX9_lastOne 34 = .ok (.iload 7, 2) := by decide +kernel
theorem dX9_lastOne_36 : decode cX9_lastOne 36 = .ok (.invokevirtual 150, 3) := by decide +kernel
theorem dX9_lastOne_39 : decode cX9_lastOne 39 = .ok (.lload 5, 2) := by decide +kernel
theorem dX9_lastOne_41 : decode cX9_lastOne 41 = .ok (.aload_n 0, 1) := by decide +kernel
theorem dX9_lastOne_42 : decode cX9_lastOne 42 = .ok (.iload_n 1, 1) := by decide +kernel
theorem dX9_lastOne_43 : decode cX9_lastOne 43 = .ok (.iconst 1, 1) := by decide +kernel
theorem dX9_lastOne_44 : decode cX9_lastOne 44 = .ok (.iadd, 1) := by decide +kernel
theorem dX9_lastOne_45 : decode cX9_lastOne 45 = .ok (.invokevirtual 154, 3) := by decide +kernel
theorem dX9_lastOne_48 : decode cX9_lastOne 48 = .ok (.ladd, 1) := by decide +kernel
theorem dX9_lastOne_49 : decode cX9_lastOne 49 = .ok (.lstore 5, 2) := by decide +kernel
theorem dX9_lastOne_51 : decode cX9_lastOne 51 = .ok (.iinc 7 1, 3) := by decide +kernel
theorem dX9_lastOne_54 : decode cX9_lastOne 54 = .ok (.goto (-30), 3) := by decide +kernel
theorem dX9_lastOne_57 : decode cX9_lastOne 57 = .ok (.aload_n 0, 1) := by decide +kernel
theorem dX9_lastOne_58 : decode cX9_lastOne 58 = .ok (.iload_n 1, 1) := by decide +kernel
theorem dX9_lastOne_59 : decode cX9_lastOne 59 = .ok (.ifCond .ne 15, 3) := by decide +kernel
theorem dX9_lastOne_62 : decode cX9_lastOne 62 = .ok (.lload 5, 2) := by decide +kernel
theorem dX9_lastOne_64 : decode cX9_lastOne 64 = .ok (.lload_n 2, 1) := by decide +kernel
theorem dX9_lastOne_65 : decode cX9_lastOne 65 = .ok (.lcmp, 1) := by decide +kernel
theorem dX9_lastOne_66 : decode cX9_lastOne 66 = .ok (.ifCond .le 8, 3) := by decide +kernel
theorem dX9_lastOne_69 : decode cX9_lastOne 69 = .ok (.iload 4, 2) := by decide +kernel
theorem dX9_lastOne_71 : decode cX9_lastOne 71 = .ok (.goto 7, 3) := by decide +kernel
theorem dX9_lastOne_74 : decode cX9_lastOne 74 = .ok (.aload_n 0, 1) := by decide +kernel
theorem dX9_lastOne_75 : decode cX9_lastOne 75 = .ok (.getfield 157, 3) := by decide +kernel
theorem dX9_lastOne_78 : decode cX9_lastOne 78 = .ok (.putfield 157, 3) := by decide +kernel
theorem dX9_lastOne_81 : decode cX9_lastOne 81 = .ok (.lload 5, 2) := by decide +kernel
theorem dX9_lastOne_83 : decode cX9_lastOne 83 = .ok (.lload_n 2, 1) := by decide +kernel
theorem dX9_lastOne_84 : decode cX9_lastOne 84 = .ok (.lcmp, 1) := by decide +kernel
theorem dX9_lastOne_85 : decode cX9_lastOne 85 = .ok (.ifCond .le 8, 3) := by decide +kernel
theorem dX9_lastOne_88 : decode cX9_lastOne 88 = .ok (.lload 5, 2) := by decide +kernel
theorem dX9_lastOne_90 : decode cX9_lastOne 90 = .ok (.goto 4, 3) := by decide +kernel
theorem dX9_lastOne_93 : decode cX9_lastOne 93 = .ok (.lload_n 2, 1) := by decide +kernel
theorem dX9_lastOne_94 : decode cX9_lastOne 94 = .ok (.lstore_n 2, 1) := by decide +kernel
theorem dX9_lastOne_95 : decode cX9_lastOne 95 = .ok (.iinc 4 1, 3) := by decide +kernel
theorem dX9_lastOne_98 : decode cX9_lastOne 98 = .ok (.goto (-91), 3) := by decide +kernel
theorem dX9_lastOne_101 : decode cX9_lastOne 101 = .ok (.lload_n 2, 1) := by decide +kernel
theorem dX9_lastOne_102 : decode cX9_lastOne 102 = .ok (.lreturn, 1) := by decide +kernel
theorem dX9_lastTwo_0 : decode cX9_lastTwo 0 = .ok (.ldc2_w 148, 3) := by decide +kernel
theorem dX9_lastTwo_3 : decode cX9_lastTwo 3 = .ok (.lstore_n 2, 1) := by decide +kernel
theorem dX9_lastTwo_4 : decode cX9_lastTwo 4 = .ok (.iconst 0, 1) := by decide +kernel
theorem dX9_lastTwo_5 : decode cX9_lastTwo 5 = .ok (.istore 4, 2) := by decide +kernel
theorem dX9_lastTwo_7 : decode cX9_lastTwo 7 = .ok (.iload 4, 2) := by decide +kernel
theorem dX9_lastTwo_9 : decode cX9_lastTwo 9 = .ok (.aload_n 0, 1) := by decide +kernel
theorem dX9_lastTwo_10 : decode cX9_lastTwo 10 = .ok (.bipush 43, 2) := by decide +kernel
theorem dX9_lastTwo_12 : decode cX9_lastTwo 12 = .ok (.invokevirtual 66, 3) := by decide +kernel
theorem dX9_lastTwo_15 : decode cX9_lastTwo 15 = .ok (.if_icmp .ge 86, 3) := by decide +kernel
theorem dX9_lastTwo_18 : decode cX9_lastTwo 18 = .ok (.lconst 0, 1) := by decide +kernel
theorem dX9_lastTwo_19 : decode cX9_lastTwo 19 = .ok (.lstore 5, 2) := by decide +kernel
theorem dX9_lastTwo_21 : decode cX9_lastTwo 21 = .ok (.iconst 0, 1) := by decide +kernel
theorem dX9_lastTwo_22 : decode cX9_lastTwo 22 = .ok (.istore 7, 2) := by decide +kernel
theorem dX9_lastTwo_24 : decode cX9_lastTwo 24 = .ok (.iload 7, 2) := by decide +kernel
theorem dX9_lastTwo_26 : decode cX9_lastTwo 26 = .ok (.iconst 3, 1) := by decide +kernel
theorem dX9_lastTwo_27 : decode cX9_lastTwo 27 = .ok (.if_icmp .ge 30, 3) := by decide +kernel
theorem dX9_lastTwo_30 : decode cX9_lastTwo 30 = .ok (.aload_n 0, 1) := by decide +kernel
theorem dX9_lastTwo_31 : decode cX9_lastTwo 31 = .ok (.iload_n 1, 1) := by decide +kernel
theorem dX9_lastTwo_32 : decode cX9_lastTwo 32 = .ok (.iload 4, 2) := by decide +kernel
theorem dX9_lastTwo_34 : decode cX9_lastTwo 34 = .ok (.iload 7, 2) := by decide +kernel
theorem dX9_lastTwo_36 : decode cX9_lastTwo 36 = .ok (.invokevirtual 150, 3) := by decide +kernel
theorem dX9_lastTwo_39 : decode cX9_lastTwo 39 = .ok (.lload 5, 2) := by decide +kernel
theorem dX9_lastTwo_41 : decode cX9_lastTwo 41 = .ok (.aload_n 0, 1) := by decide +kernel
theorem dX9_lastTwo_42 : decode cX9_lastTwo 42 = .ok (.iload_n 1, 1) := by decide +kernel
theorem dX9_lastTwo_43 : decode cX9_lastTwo 43 = .ok (.iconst 1, 1) := by decide +kernel
theorem dX9_lastTwo_44 : decode cX9_lastTwo 44 = .ok (.iadd, 1) := by decide +kernel
theorem dX9_lastTwo_45 : decode cX9_lastTwo 45 = .ok (.invokevirtual 160, 3) := by decide +kernel
theorem dX9_lastTwo_48 : decode cX9_lastTwo 48 = .ok (.ladd, 1) := by decide +kernel
theorem dX9_lastTwo_49 : decode cX9_lastTwo 49 = .ok (.lstore 5, 2) := by decide +kernel
theorem dX9_lastTwo_51 : decode cX9_lastTwo 51 = .ok (.iinc 7 1, 3) := by decide +kernel
theorem dX9_lastTwo_54 : decode cX9_lastTwo 54 = .ok (.goto (-30), 3) := by decide +kernel
theorem dX9_lastTwo_57 : decode cX9_lastTwo 57 = .ok (.aload_n 0, 1) := by decide +kernel
theorem dX9_lastTwo_58 : decode cX9_lastTwo 58 = .ok (.iload_n 1, 1) := by decide +kernel
theorem dX9_lastTwo_59 : decode cX9_lastTwo 59 = .ok (.ifCond .ne 15, 3) := by decide +kernel
theorem dX9_lastTwo_62 : decode cX9_lastTwo 62 = .ok (.lload 5, 2) := by decide +kernel
theorem dX9_lastTwo_64 : decode cX9_lastTwo 64 = .ok (.lload_n 2, 1) := by decide +kernel
theorem dX9_lastTwo_65 : decode cX9_lastTwo 65 = .ok (.lcmp, 1) := by decide +kernel
theorem dX9_lastTwo_66 : decode cX9_lastTwo 66 = .ok (.ifCond .le 8, 3) := by decide +kernel
theorem dX9_lastTwo_69 : decode cX9_lastTwo 69 = .ok (.iload 4, 2) := by decide +kernel
theorem dX9_lastTwo_71 : decode cX9_lastTwo 71 = .ok (.goto 7, 3) := by decide +kernel
theorem dX9_lastTwo_74 : decode cX9_lastTwo 74 = .ok (.aload_n 0, 1) := by decide +kernel
theorem dX9_lastTwo_75 : decode cX9_lastTwo 75 = .ok (.getfield 157, 3) := by decide +kernel
theorem dX9_lastTwo_78 : decode cX9_lastTwo 78 = .ok (.putfield 157, 3) := by decide +kernel
theorem dX9_lastTwo_81 : decode cX9_lastTwo 81 = .ok (.lload 5, 2) := by decide +kernel
theorem dX9_lastTwo_83 : decode cX9_lastTwo 83 = .ok (.lload_n 2, 1) := by decide +kernel
theorem dX9_lastTwo_84 : decode cX9_lastTwo 84 = .ok (.lcmp, 1) := by decide +kernel
theorem dX9_lastTwo_85 : decode cX9_lastTwo 85 = .ok (.ifCond .le 8, 3) := by decide +kernel
theorem dX9_lastTwo_88 : decode cX9_lastTwo 88 = .ok (.lload 5, 2) := by decide +kernel
theorem dX9_lastTwo_90 : decode cX9_lastTwo 90 = .ok (.goto 4, 3) := by decide +kernel
theorem dX9_lastTwo_93 : decode cX9_lastTwo 93 = .ok (.lload_n 2, 1) := by decide +kernel
theorem dX9_lastTwo_94 : decode cX9_lastTwo 94 = .ok (.lstore_n 2, 1) := by decide +kernel
theorem dX9_lastTwo_95 : decode cX9_lastTwo 95 = .ok (.iinc 4 1, 3) := by decide +kernel
theorem dX9_lastTwo_98 : decode cX9_lastTwo 98 = .ok (.goto (-91), 3) := by decide +kernel
theorem dX9_lastTwo_101 : decode cX9_lastTwo 101 = .ok (.lload_n 2, 1) := by decide +kernel
theorem dX9_lastTwo_102 : decode cX9_lastTwo 102 = .ok (.lreturn, 1) := by decide +kernel
theorem dX9_allThree_0 : decode cX9_allThree 0 = .ok (.ldc2_w 148, 3) := by decide +kernel
theorem dX9_allThree_3 : decode cX9_allThree 3 = .ok (.lstore_n 1, 1) := by decide +kernel
theorem dX9_allThree_4 : decode cX9_allThree 4 = .ok (.iconst 0, 1) := by decide +kernel
theorem dX9_allThree_5 : decode cX9_allThree 5 = .ok (.istore_n 3, 1) := by decide +kernel
theorem dX9_allThree_6 : decode cX9_allThree 6 = .ok (.iload_n 3, 1) := by decide +kernel
theorem dX9_allThree_7 : decode cX9_allThree 7 = .ok (.aload_n 0, 1) := by decide +kernel
theorem dX9_allThree_8 : decode cX9_allThree 8 = .ok (.bipush 43, 2) := by decide +kernel
theorem dX9_allThree_10 : decode cX9_allThree 10 = .ok (.invokevirtual 66, 3) := by decide +kernel
theorem dX9_allThree_13 : decode cX9_allThree 13 = .ok (.if_icmp .ge 78, 3) := by decide +kernel
theorem dX9_allThree_16 : decode cX9_allThree 16 = .ok (.lconst 0, 1) := by decide +kernel
theorem dX9_allThree_17 : decode cX9_allThree 17 = .ok (.lstore 4, 2) := by decide +kernel
theorem dX9_allThree_19 : decode cX9_allThree 19 = .ok (.iconst 0, 1) := by decide +kernel
theorem dX9_allThree_20 : decode cX9_allThree 20 = .ok (.istore 6, 2) := by decide +kernel
theorem dX9_allThree_22 : decode cX9_allThree 22 = .ok (.iload 6, 2) := by decide +kernel
theorem dX9_allThree_24 : decode cX9_allThree 24 = .ok (.iconst 3, 1) := by decide +kernel
theorem dX9_allThree_25 : decode cX9_allThree 25 = .ok (.if_icmp .ge 27, 3) := by decide +kernel
theorem dX9_allThree_28 : decode cX9_allThree 28 = .ok (.aload_n 0, 1) := by decide +kernel
theorem dX9_allThree_29 : decode cX9_allThree 29 = .ok (.iconst 0, 1) := by decide +kernel
theorem dX9_allThree_30 : decode cX9_allThree 30 = .ok (.iload_n 3, 1) := by decide +kernel
theorem dX9_allThree_31 : decode cX9_allThree 31 = .ok (.iload 6, 2) := by decide +kernel
theorem dX9_allThree_33 : decode cX9_allThree 33 = .ok (.invokevirtual 150, 3) := by decide +kernel
theorem dX9_allThree_36 : decode cX9_allThree 36 = .ok (.lload 4, 2) := by decide +kernel
theorem dX9_allThree_38 : decode cX9_allThree 38 = .ok (.aload_n 0, 1) := by decide +kernel
theorem dX9_allThree_39 : decode cX9_allThree 39 = .ok (.iconst 1, 1) := by decide +kernel
theorem dX9_allThree_40 : decode cX9_allThree 40 = .ok (.invokevirtual 163, 3) := by decide +kernel
theorem dX9_allThree_43 : decode cX9_allThree 43 = .ok (.ladd, 1) := by decide +kernel
theorem dX9_allThree_44 : decode cX9_allThree 44 = .ok (.lstore 4, 2) := by decide +kernel
theorem dX9_allThree_46 : decode cX9_allThree 46 = .ok (.iinc 6 1, 3) := by decide +kernel
theorem dX9_allThree_49 : decode cX9_allThree 49 = .ok (.goto (-27), 3) := by decide +kernel
theorem dX9_allThree_52 : decode cX9_allThree 52 = .ok (.aload_n 0, 1) := by decide +kernel
theorem dX9_allThree_53 : decode cX9_allThree 53 = .ok (.lload 4, 2) := by decide +kernel
theorem dX9_allThree_55 : decode cX9_allThree 55 = .ok (.lload_n 1, 1) := by decide +kernel
theorem dX9_allThree_56 : decode cX9_allThree 56 = .ok (.lcmp, 1) := by decide +kernel
theorem dX9_allThree_57 : decode cX9_allThree 57 = .ok (.ifCond .le 7, 3) := by decide +kernel
theorem dX9_allThree_60 : decode cX9_allThree 60 = .ok (.iload_n 3, 1) := by decide +kernel
theorem dX9_allThree_61 : decode cX9_allThree 61 = .ok (.goto 7, 3) := by decide +kernel
theorem dX9_allThree_64 : decode cX9_allThree 64 = .ok (.aload_n 0, 1) := by decide +kernel
theorem dX9_allThree_65 : decode cX9_allThree 65 = .ok (.getfield 157, 3) := by decide +kernel
theorem dX9_allThree_68 : decode cX9_allThree 68 = .ok (.putfield 157, 3) := by decide +kernel
theorem dX9_allThree_71 : decode cX9_allThree 71 = .ok (.lload 4, 2) := by decide +kernel
theorem dX9_allThree_73 : decode cX9_allThree 73 = .ok (.lload_n 1, 1) := by decide +kernel
theorem dX9_allThree_74 : decode cX9_allThree 74 = .ok (.lcmp, 1) := by decide +kernel
theorem dX9_allThree_75 : decode cX9_allThree 75 = .ok (.ifCond .le 8, 3) := by decide +kernel
theorem dX9_allThree_78 : decode cX9_allThree 78 = .ok (.lload 4, 2) := by decide +kernel
theorem dX9_allThree_80 : decode cX9_allThree 80 = .ok (.goto 4, 3) := by decide +kernel
theorem dX9_allThree_83 : decode cX9_allThree 83 = .ok (.lload_n 1, 1) := by decide +kernel
theorem dX9_allThree_84 : decode cX9_allThree 84 = .ok (.lstore_n 1, 1) := by decide +kernel
theorem dX9_allThree_85 : decode cX9_allThree 85 = .ok (.iinc 3 1, 3) := by decide +kernel
theorem dX9_allThree_88 : decode cX9_allThree 88 = .ok (.goto (-82), 3) := by decide +kernel
theorem dX9_allThree_91 : decode cX9_allThree 91 = .ok (.lload_n 1, 1) := by decide +kernel
theorem dX9_allThree_92 : decode cX9_allThree 92 = .ok (.lreturn, 1) := by decide +kernel
theorem dX9_plan_0 : decode cX9_plan 0 = .ok (.aload_n 0, 1) := by decide +kernel
theorem dX9_plan_1 : decode cX9_plan 1 = .ok (.iconst (-1), 1) := by decide +kernel
theorem dX9_plan_2 : decode cX9_plan 2 = .ok (.putfield 157, 3) := by decide +kernel
theorem dX9_plan_5 : decode cX9_plan 5 = .ok (.iconst 0, 1) := by decide +kernel
theorem dX9_plan_6 : decode cX9_plan 6 = .ok (.istore_n 2, 1) := by decide +kernel
theorem dX9_plan_7 : decode cX9_plan 7 = .ok (.iload_n 2, 1) := by decide +kernel
theorem dX9_plan_8 : decode cX9_plan 8 = .ok (.bipush 8, 2) := by decide +kernel
theorem dX9_plan_10 : decode cX9_plan 10 = .ok (.if_icmp .ge 24, 3) := by decide +kernel
theorem dX9_plan_13 : decode cX9_plan 13 = .ok (.aload_n 0, 1) := by decide +kernel
theorem dX9_plan_14 : decode cX9_plan 14 = .ok (.getfield 19, 3) := by decide +kernel
theorem dX9_plan_17 : decode cX9_plan 17 = .ok (.iload_n 2, 1) := by decide +kernel
theorem dX9_plan_18 : decode cX9_plan 18 = .ok (.aload_n 0, 1) := by decide +kernel
theorem dX9_plan_19 : decode cX9_plan 19 = .ok (.getfield 7, 3) := by decide +kernel
theorem dX9_plan_22 : decode cX9_plan 22 = .ok (.bipush 35, 2) := by decide +kernel
theorem dX9_plan_24 : decode cX9_plan 24 = .ok (.iload_n 2, 1) := by decide +kernel
theorem dX9_plan_25 : decode cX9_plan 25 = .ok (.iadd, 1) := by decide +kernel
theorem dX9_plan_26 : decode cX9_plan 26 = .ok (.laload, 1) := by decide +kernel
theorem dX9_plan_27 : decode cX9_plan 27 = .ok (.lastore, 1) := by decide +kernel
theorem dX9_plan_28 : decode cX9_plan 28 = .ok (.iinc 2 1, 3) := by decide +kernel
theorem dX9_plan_31 : decode cX9_plan 31 = .ok (.goto (-24), 3) := by decide +kernel
theorem dX9_plan_34 : decode cX9_plan 34 = .ok (.iload_n 1, 1) := by decide +kernel
theorem dX9_plan_35 : decode cX9_plan 35 = .ok (.tableswitch 43 0 2 #[25, 31, 37], 25) := by decide +kernel
theorem dX9_plan_60 : decode cX9_plan 60 = .ok (.aload_n 0, 1) := by decide +kernel
theorem dX9_plan_61 : decode cX9_plan 61 = .ok (.iconst 0, 1) := by decide +kernel
theorem dX9_plan_62 : decode cX9_plan 62 = .ok (.invokevirtual 154, 3) := by decide +kernel
theorem dX9_plan_65 : decode cX9_plan 65 = .ok (.lreturn, 1) := by decide +kernel
theorem dX9_plan_66 : decode cX9_plan 66 = .ok (.aload_n 0, 1) := by decide +kernel
theorem dX9_plan_67 : decode cX9_plan 67 = .ok (.iconst 0, 1) := by decide +kernel
theorem dX9_plan_68 : decode cX9_plan 68 = .ok (.invokevirtual 160, 3) := by decide +kernel
theorem dX9_plan_71 : decode cX9_plan 71 = .ok (.lreturn, 1) := by decide +kernel
theorem dX9_plan_72 : decode cX9_plan 72 = .ok (.aload_n 0, 1) := by decide +kernel
theorem dX9_plan_73 : decode cX9_plan 73 = .ok (.iconst 0, 1) := by decide +kernel
theorem dX9_plan_74 : decode cX9_plan 74 = .ok (.invokevirtual 163, 3) := by decide +kernel
theorem dX9_plan_77 : decode cX9_plan 77 = .ok (.lreturn, 1) := by decide +kernel
theorem dX9_plan_78 : decode cX9_plan 78 = .ok (.aload_n 0, 1) := by decide +kernel
theorem dX9_plan_79 : decode cX9_plan 79 = .ok (.invokevirtual 166, 3) := by decide +kernel
theorem dX9_plan_82 : decode cX9_plan 82 = .ok (.lreturn, 1) := by decide +kernel
theorem dX9_tens_0 : decode cX9_tens 0 = .ok (.lconst 1, 1) := by decide +kernel
theorem dX9_tens_1 : decode cX9_tens 1 = .ok (.lstore_n 1, 1) := by decide +kernel
theorem dX9_tens_2 : decode cX9_tens 2 = .ok (.iconst 0, 1) := by decide +kernel
theorem dX9_tens_3 : decode cX9_tens 3 = .ok (.istore_n 3, 1) := by decide +kernel
theorem dX9_tens_4 : decode cX9_tens 4 = .ok (.iload_n 3, 1) := by decide +kernel
theorem dX9_tens_5 : decode cX9_tens 5 = .ok (.iload_n 0, 1) := by decide +kernel
theorem dX9_tens_6 : decode cX9_tens 6 = .ok (.if_icmp .ge 15, 3) := by decide +kernel
theorem dX9_tens_9 : decode cX9_tens 9 = .ok (.lload_n 1, 1) := by decide +kernel
theorem dX9_tens_10 : decode cX9_tens 10 = .ok (.ldc2_w 142, 3) := by decide +kernel
theorem dX9_tens_13 : decode cX9_tens 13 = .ok (.lmul, 1) := by decide +kernel
theorem dX9_tens_14 : decode cX9_tens 14 = .ok (.lstore_n 1, 1) := by decide +kernel
theorem dX9_tens_15 : decode cX9_tens 15 = .ok (.iinc 3 1, 3) := by decide +kernel
theorem dX9_tens_18 : decode cX9_tens 18 = .ok (.goto (-14), 3) := by decide +kernel
theorem dX9_tens_21 : decode cX9_tens 21 = .ok (.lload_n 1, 1) := by decide +kernel
theorem dX9_tens_22 : decode cX9_tens 22 = .ok (.lreturn, 1) := by decide +kernel
theorem dX9_planValue_0 : decode cX9_planValue 0 = .ok (.aload_n 0, 1) := by decide +kernel
theorem dX9_planValue_1 : decode cX9_planValue 1 = .ok (.iload_n 1, 1) := by decide +kernel
theorem dX9_planValue_2 : decode cX9_planValue 2 = .ok (.i2l, 1) := by decide +kernel
theorem dX9_planValue_3 : decode cX9_planValue 3 = .ok (.lconst 0, 1) := by decide +kernel
theorem dX9_planValue_4 : decode cX9_planValue 4 = .ok (.ldc2_w 169, 3) := by decide +kernel
theorem dX9_planValue_7 : decode cX9_planValue 7 = .ok (.invokestatic 44, 3) := by decide +kernel
theorem dX9_planValue_10 : decode cX9_planValue 10 = .ok (.ifCond .eq 10, 3) := by decide +kernel
theorem dX9_planValue_13 : decode cX9_planValue 13 = .ok (.iload_n 2, 1) := by decide +kernel
theorem dX9_planValue_14 : decode cX9_planValue 14 = .ok (.invokestatic 92, 3) := by decide +kernel
theorem dX9_planValue_17 : decode cX9_planValue 17 = .ok (.ifCond .ne 7, 3) := by decide +kernel
theorem dX9_planValue_20 : decode cX9_planValue 20 = .ok (.iconst 1, 1) := by decide +kernel
theorem dX9_planValue_21 : decode cX9_planValue 21 = .ok (.goto 21, 3) := by decide +kernel
theorem dX9_planValue_24 : decode cX9_planValue 24 = .ok (.iload_n 1, 1) := by decide +kernel
theorem dX9_planValue_25 : decode cX9_planValue 25 = .ok (.ifCond .le 16, 3) := by decide +kernel
theorem dX9_planValue_28 : decode cX9_planValue 28 = .ok (.aload_n 0, 1) := by decide +kernel
theorem dX9_planValue_29 : decode cX9_planValue 29 = .ok (.bipush 43, 2) := by decide +kernel
theorem dX9_planValue_31 : decode cX9_planValue 31 = .ok (.invokevirtual 66, 3) := by decide +kernel
theorem dX9_planValue_34 : decode cX9_planValue 34 = .ok (.ifCond .ne 7, 3) := by decide +kernel
theorem dX9_planValue_37 : decode cX9_planValue 37 = .ok (.iconst 2, 1) := by decide +kernel
theorem dX9_planValue_38 : decode cX9_planValue 38 = .ok (.goto 4, 3) := by decide +kernel
theorem dX9_planValue_41 : decode cX9_planValue 41 = .ok (.iconst 0, 1) := by decide +kernel
theorem dX9_planValue_42 : decode cX9_planValue 42 = .ok (.invokevirtual 55, 3) := by decide +kernel
theorem dX9_planValue_45 : decode cX9_planValue 45 = .ok (.ifCond .eq 5, 3) := by decide +kernel
theorem dX9_planValue_48 : decode cX9_planValue 48 = .ok (.lconst 0, 1) := by decide +kernel
theorem dX9_planValue_49 : decode cX9_planValue 49 = .ok (.lreturn, 1) := by decide +kernel
theorem dX9_planValue_50 : decode cX9_planValue 50 = .ok (.aload_n 0, 1) := by decide +kernel
theorem dX9_planValue_51 : decode cX9_planValue 51 = .ok (.iload_n 1, 1) := by decide +kernel
theorem dX9_planValue_52 : decode cX9_planValue 52 = .ok (.invokevirtual 171, 3) := by decide +kernel
theorem dX9_planValue_55 : decode cX9_planValue 55 = .ok (.iload_n 1, 1) := by decide +kernel
theorem dX9_planValue_56 : decode cX9_planValue 56 = .ok (.invokestatic 174, 3) := by decide +kernel
theorem dX9_planValue_59 : decode cX9_planValue 59 = .ok (.aload_n 0, 1) := by decide +kernel
theorem dX9_planValue_60 : decode cX9_planValue 60 = .ok (.invokevirtual 136, 3) := by decide +kernel
theorem dX9_planValue_63 : decode cX9_planValue 63 = .ok (.lmul, 1) := by decide +kernel
theorem dX9_planValue_64 : decode cX9_planValue 64 = .ok (.iload_n 2, 1) := by decide +kernel
theorem dX9_planValue_65 : decode cX9_planValue 65 = .ok (.invokestatic 101, 3) := by decide +kernel
theorem dX9_planValue_68 : decode cX9_planValue 68 = .ok (.lreturn, 1) := by decide +kernel
theorem dX9_planFirst_0 : decode cX9_planFirst 0 = .ok (.aload_n 0, 1) := by decide +kernel
theorem dX9_planFirst_1 : decode cX9_planFirst 1 = .ok (.iload_n 1, 1) := by decide +kernel
theorem dX9_planFirst_2 : decode cX9_planFirst 2 = .ok (.i2l, 1) := by decide +kernel
theorem dX9_planFirst_3 : decode cX9_planFirst 3 = .ok (.lconst 1, 1) := by decide +kernel
theorem dX9_planFirst_4 : decode cX9_planFirst 4 = .ok (.ldc2_w 169, 3) := by decide +kernel
theorem dX9_planFirst_7 : decode cX9_planFirst 7 = .ok (.invokestatic 44, 3) := by decide +kernel
theorem dX9_planFirst_10 : decode cX9_planFirst 10 = .ok (.ifCond .ne 7, 3) := by decide +kernel
theorem dX9_planFirst_13 : decode cX9_planFirst 13 = .ok (.iconst 1, 1) := by decide +kernel
theorem dX9_planFirst_14 : decode cX9_planFirst 14 = .ok (.goto 17, 3) := by decide +kernel
theorem dX9_planFirst_17 : decode cX9_planFirst 17 = .ok (.aload_n 0, 1) := by decide +kernel
theorem dX9_planFirst_18 : decode cX9_planFirst 18 = .ok (.bipush 43, 2) := by decide +kernel
theorem dX9_planFirst_20 : decode cX9_planFirst 20 = .ok (.invokevirtual 66, 3) := by decide +kernel
theorem dX9_planFirst_23 : decode cX9_planFirst 23 = .ok (.ifCond .ne 7, 3) := by decide +kernel
theorem dX9_planFirst_26 : decode cX9_planFirst 26 = .ok (.iconst 2, 1) := by decide +kernel
theorem dX9_planFirst_27 : decode cX9_planFirst 27 = .ok (.goto 4, 3) := by decide +kernel
theorem dX9_planFirst_30 : decode cX9_planFirst 30 = .ok (.iconst 0, 1) := by decide +kernel
theorem dX9_planFirst_31 : decode cX9_planFirst 31 = .ok (.invokevirtual 55, 3) := by decide +kernel
theorem dX9_planFirst_34 : decode cX9_planFirst 34 = .ok (.ifCond .eq 5, 3) := by decide +kernel
theorem dX9_planFirst_37 : decode cX9_planFirst 37 = .ok (.iconst 0, 1) := by decide +kernel
theorem dX9_planFirst_38 : decode cX9_planFirst 38 = .ok (.ireturn, 1) := by decide +kernel
theorem dX9_planFirst_39 : decode cX9_planFirst 39 = .ok (.aload_n 0, 1) := by decide +kernel
theorem dX9_planFirst_40 : decode cX9_planFirst 40 = .ok (.iload_n 1, 1) := by decide +kernel
theorem dX9_planFirst_41 : decode cX9_planFirst 41 = .ok (.invokevirtual 171, 3) := by decide +kernel
theorem dX9_planFirst_44 : decode cX9_planFirst 44 = .ok (.pop2, 1) := by decide +kernel
theorem dX9_planFirst_45 : decode cX9_planFirst 45 = .ok (.aload_n 0, 1) := by decide +kernel
theorem dX9_planFirst_46 : decode cX9_planFirst 46 = .ok (.getfield 157, 3) := by decide +kernel
theorem dX9_planFirst_49 : decode cX9_planFirst 49 = .ok (.ireturn, 1) := by decide +kernel
theorem dX9_laysWays_0 : decode cX9_laysWays 0 = .ok (.iconst 0, 1) := by decide +kernel
theorem dX9_laysWays_1 : decode cX9_laysWays 1 = .ok (.istore_n 3, 1) := by decide +kernel
theorem dX9_laysWays_2 : decode cX9_laysWays 2 = .ok (.iload_n 3, 1) := by decide +kernel
theorem dX9_laysWays_3 : decode cX9_laysWays 3 = .ok (.bipush 17, 2) := by decide +kernel
theorem dX9_laysWays_5 : decode cX9_laysWays 5 = .ok (.if_icmp .ge 24, 3) := by decide +kernel
theorem dX9_laysWays_8 : decode cX9_laysWays 8 = .ok (.aload_n 0, 1) := by decide +kernel
theorem dX9_laysWays_9 : decode cX9_laysWays 9 = .ok (.getfield 22, 3) := by decide +kernel
theorem dX9_laysWays_12 : decode cX9_laysWays 12 = .ok (.iload_n 3, 1) := by decide +kernel
theorem dX9_laysWays_13 : decode cX9_laysWays 13 = .ok (.iload_n 3, 1) := by decide +kernel
theorem dX9_laysWays_14 : decode cX9_laysWays 14 = .ok (.ifCond .ne 7, 3) := by decide +kernel
theorem dX9_laysWays_17 : decode cX9_laysWays 17 = .ok (.lconst 1, 1) := by decide +kernel
theorem dX9_laysWays_18 : decode cX9_laysWays 18 = .ok (.goto 4, 3) := by decide +kernel
theorem dX9_laysWays_21 : decode cX9_laysWays 21 = .ok (.lconst 0, 1) := by decide +kernel
theorem dX9_laysWays_22 : decode cX9_laysWays 22 = .ok (.lastore, 1) := by decide +kernel
theorem dX9_laysWays_23 : decode cX9_laysWays 23 = .ok (.iinc 3 1, 3) := by decide +kernel
theorem dX9_laysWays_26 : decode cX9_laysWays 26 = .ok (.goto (-24), 3) := by decide +kernel
theorem dX9_laysWays_29 : decode cX9_laysWays 29 = .ok (.iconst 0, 1) := by decide +kernel
theorem dX9_laysWays_30 : decode cX9_laysWays 30 = .ok (.istore_n 3, 1) := by decide +kernel
theorem dX9_laysWays_31 : decode cX9_laysWays 31 = .ok (.iload_n 3, 1) := by decide +kernel
theorem dX9_laysWays_32 : decode cX9_laysWays 32 = .ok (.iload_n 1, 1) := by decide +kernel
theorem dX9_laysWays_33 : decode cX9_laysWays 33 = .ok (.if_icmp .ge 71, 3) := by decide +kernel
theorem dX9_laysWays_36 : decode cX9_laysWays 36 = .ok (.bipush 16, 2) := by decide +kernel
theorem dX9_laysWays_38 : decode cX9_laysWays 38 = .ok (.istore 4, 2) := by decide +kernel
theorem dX9_laysWays_40 : decode cX9_laysWays 40 = .ok (.iload 4, 2) := by decide +kernel
theorem dX9_laysWays_42 : decode cX9_laysWays 42 = .ok (.ifCond .le 42, 3) := by decide +kernel
theorem dX9_laysWays_45 : decode cX9_laysWays 45 = .ok (.aload_n 0, 1) := by decide +kernel
theorem dX9_laysWays_46 : decode cX9_laysWays 46 = .ok (.getfield 22, 3) := by decide +kernel
theorem dX9_laysWays_49 : decode cX9_laysWays 49 = .ok (.iload 4, 2) := by decide +kernel
theorem dX9_laysWays_51 : decode cX9_laysWays 51 = .ok (.aload_n 0, 1) := by decide +kernel
theorem dX9_laysWays_52 : decode cX9_laysWays 52 = .ok (.getfield 22, 3) := by decide +kernel
theorem dX9_laysWays_55 : decode cX9_laysWays 55 = .ok (.iload 4, 2) := by decide +kernel
theorem dX9_laysWays_57 : decode cX9_laysWays 57 = .ok (.laload, 1) := by decide +kernel
theorem dX9_laysWays_58 : decode cX9_laysWays 58 = .ok (.bipush 10, 2) := by decide +kernel
theorem dX9_laysWays_60 : decode cX9_laysWays 60 = .ok (.iload_n 2, 1) := by decide +kernel
theorem dX9_laysWays_61 : decode cX9_laysWays 61 = .ok (.isub, 1) := by decide +kernel
theorem dX9_laysWays_62 : decode cX9_laysWays 62 = .ok (.i2l, 1) := by decide +kernel
theorem dX9_laysWays_63 : decode cX9_laysWays 63 = .ok (.lmul, 1) := by decide +kernel
theorem dX9_laysWays_64 : decode cX9_laysWays 64 = .ok (.aload_n 0, 1) := by decide +kernel
theorem dX9_laysWays_65 : decode cX9_laysWays 65 = .ok (.getfield 22, 3) := by decide +kernel
theorem dX9_laysWays_68 : decode cX9_laysWays 68 = .ok (.iload 4, 2) := by decide +kernel
theorem dX9_laysWays_70 : decode cX9_laysWays 70 = .ok (.iconst 1, 1) := by decide +kernel
theorem dX9_laysWays_71 : decode cX9_laysWays 71 = .ok (.isub, 1) := by decide +kernel
theorem dX9_laysWays_72 : decode cX9_laysWays 72 = .ok (.laload, 1) := by decide +kernel
theorem dX9_laysWays_73 : decode cX9_laysWays 73 = .ok (.iload_n 2, 1) := by decide +kernel
theorem dX9_laysWays_74 : decode cX9_laysWays 74 = .ok (.i2l, 1) := by decide +kernel
theorem dX9_laysWays_75 : decode cX9_laysWays 75 = .ok (.lmul, 1) := by decide +kernel
theorem dX9_laysWays_76 : decode cX9_laysWays 76 = .ok (.ladd, 1) := by decide +kernel
theorem dX9_laysWays_77 : decode cX9_laysWays 77 = .ok (.lastore, 1) := by decide +kernel
theorem dX9_laysWays_78 : decode cX9_laysWays 78 = .ok (.iinc 4 (-1), 3) := by decide +kernel
theorem dX9_laysWays_81 : decode cX9_laysWays 81 = .ok (.goto (-41), 3) := by decide +kernel
theorem dX9_laysWays_84 : decode cX9_laysWays 84 = .ok (.aload_n 0, 1) := by decide +kernel
theorem dX9_laysWays_85 : decode cX9_laysWays 85 = .ok (.getfield 22, 3) := by decide +kernel
theorem dX9_laysWays_88 : decode cX9_laysWays 88 = .ok (.iconst 0, 1) := by decide +kernel
theorem dX9_laysWays_89 : decode cX9_laysWays 89 = .ok (.dup2, 1) := by decide +kernel
theorem dX9_laysWays_90 : decode cX9_laysWays 90 = .ok (.laload, 1) := by decide +kernel
theorem dX9_laysWays_91 : decode cX9_laysWays 91 = .ok (.bipush 10, 2) := by decide +kernel
theorem dX9_laysWays_93 : decode cX9_laysWays 93 = .ok (.iload_n 2, 1) := by decide +kernel
theorem dX9_laysWays_94 : decode cX9_laysWays 94 = .ok (.isub, 1) := by decide +kernel
theorem dX9_laysWays_95 : decode cX9_laysWays 95 = .ok (.i2l, 1) := by decide +kernel
theorem dX9_laysWays_96 : decode cX9_laysWays 96 = .ok (.lmul, 1) := by decide +kernel
theorem dX9_laysWays_97 : decode cX9_laysWays 97 = .ok (.lastore, 1) := by decide +kernel
theorem dX9_laysWays_98 : decode cX9_laysWays 98 = .ok (.iinc 3 1, 3) := by decide +kernel
theorem dX9_laysWays_101 : decode cX9_laysWays 101 = .ok (.goto (-70), 3) := by decide +kernel
theorem dX9_laysWays_104 : decode cX9_laysWays 104 = .ok (.return_, 1) := by decide +kernel
theorem dX9_tailOf_0 : decode cX9_tailOf 0 = .ok (.aload_n 0, 1) := by decide +kernel
theorem dX9_tailOf_1 : decode cX9_tailOf 1 = .ok (.iload_n 1, 1) := by decide +kernel
theorem dX9_tailOf_2 : decode cX9_tailOf 2 = .ok (.iload_n 3, 1) := by decide +kernel
theorem dX9_tailOf_3 : decode cX9_tailOf 3 = .ok (.invokevirtual 177, 3) := by decide +kernel
theorem dX9_tailOf_6 : decode cX9_tailOf 6 = .ok (.lconst 0, 1) := by decide +kernel
theorem dX9_tailOf_7 : decode cX9_tailOf 7 = .ok (.lstore 4, 2) := by decide +kernel
theorem dX9_tailOf_9 : decode cX9_tailOf 9 = .ok (.iload_n 2, 1) := by decide +kernel
theorem dX9_tailOf_10 : decode cX9_tailOf 10 = .ok (.istore 6, 2) := by decide +kernel
theorem dX9_tailOf_12 : decode cX9_tailOf 12 = .ok (.iload 6, 2) := by decide +kernel
theorem dX9_tailOf_14 : decode cX9_tailOf 14 = .ok (.bipush 17, 2) := by decide +kernel
theorem dX9_tailOf_16 : decode cX9_tailOf 16 = .ok (.if_icmp .ge 21, 3) := by decide +kernel
theorem dX9_tailOf_19 : decode cX9_tailOf 19 = .ok (.lload 4, 2) := by decide +kernel
theorem dX9_tailOf_21 : decode cX9_tailOf 21 = .ok (.aload_n 0, 1) := by decide +kernel
theorem dX9_tailOf_22 : decode cX9_tailOf 22 = .ok (.getfield 22, 3) := by decide +kernel
theorem dX9_tailOf_25 : decode cX9_tailOf 25 = .ok (.iload 6, 2) := by decide +kernel
theorem dX9_tailOf_27 : decode cX9_tailOf 27 = .ok (.laload, 1) := by decide +kernel
theorem dX9_tailOf_28 : decode cX9_tailOf 28 = .ok (.ladd, 1) := by decide +kernel
theorem dX9_tailOf_29 : decode cX9_tailOf 29 = .ok (.lstore 4, 2) := by decide +kernel
theorem dX9_tailOf_31 : decode cX9_tailOf 31 = .ok (.iinc 6 1, 3) := by decide +kernel
theorem dX9_tailOf_34 : decode cX9_tailOf 34 = .ok (.goto (-22), 3) := by decide +kernel
theorem dX9_tailOf_37 : decode cX9_tailOf 37 = .ok (.lload 4, 2) := by decide +kernel
theorem dX9_tailOf_39 : decode cX9_tailOf 39 = .ok (.lreturn, 1) := by decide +kernel
theorem dX9_isChance_0 : decode cX9_isChance 0 = .ok (.iload_n 0, 1) := by decide +kernel
theorem dX9_isChance_1 : decode cX9_isChance 1 = .ok (.i2l, 1) := by decide +kernel
theorem dX9_isChance_2 : decode cX9_isChance 2 = .ok (.lconst 0, 1) := by decide +kernel
theorem dX9_isChance_3 : decode cX9_isChance 3 = .ok (.ldc2_w 142, 3) := by decide +kernel
theorem dX9_isChance_6 : decode cX9_isChance 6 = .ok (.invokestatic 44, 3) := by decide +kernel
theorem dX9_isChance_9 : decode cX9_isChance 9 = .ok (.ireturn, 1) := by decide +kernel
theorem dX9_tail_0 : decode cX9_tail 0 = .ok (.aload_n 0, 1) := by decide +kernel
theorem dX9_tail_1 : decode cX9_tail 1 = .ok (.iload_n 1, 1) := by decide +kernel
theorem dX9_tail_2 : decode cX9_tail 2 = .ok (.i2l, 1) := by decide +kernel
theorem dX9_tail_3 : decode cX9_tail 3 = .ok (.lconst 0, 1) := by decide +kernel
theorem dX9_tail_4 : decode cX9_tail 4 = .ok (.ldc2_w 181, 3) := by decide +kernel
theorem dX9_tail_7 : decode cX9_tail 7 = .ok (.invokestatic 44, 3) := by decide +kernel
theorem dX9_tail_10 : decode cX9_tail 10 = .ok (.ifCond .eq 26, 3) := by decide +kernel
theorem dX9_tail_13 : decode cX9_tail 13 = .ok (.iload_n 2, 1) := by decide +kernel
theorem dX9_tail_14 : decode cX9_tail 14 = .ok (.i2l, 1) := by decide +kernel
theorem dX9_tail_15 : decode cX9_tail 15 = .ok (.lconst 0, 1) := by decide +kernel
theorem dX9_tail_16 : decode cX9_tail 16 = .ok (.ldc2_w 183, 3) := by decide +kernel
theorem dX9_tail_19 : decode cX9_tail 19 = .ok (.invokestatic 44, 3) := by decide +kernel
theorem dX9_tail_22 : decode cX9_tail 22 = .ok (.ifCond .eq 14, 3) := by decide +kernel
theorem dX9_tail_25 : decode cX9_tail 25 = .ok (.iload_n 3, 1) := by decide +kernel
theorem dX9_tail_26 : decode cX9_tail 26 = .ok (.invokestatic 185, 3) := by decide +kernel
theorem dX9_tail_29 : decode cX9_tail 29 = .ok (.ifCond .eq 7, 3) := by decide +kernel
theorem dX9_tail_32 : decode cX9_tail 32 = .ok (.iconst 0, 1) := by decide +kernel
theorem dX9_tail_33 : decode cX9_tail 33 = .ok (.goto 4, 3) := by decide +kernel
theorem dX9_tail_36 : decode cX9_tail 36 = .ok (.iconst 1, 1) := by decide +kernel
theorem dX9_tail_37 : decode cX9_tail 37 = .ok (.invokevirtual 55, 3) := by decide +kernel
theorem dX9_tail_40 : decode cX9_tail 40 = .ok (.ifCond .eq 5, 3) := by decide +kernel
theorem dX9_tail_43 : decode cX9_tail 43 = .ok (.lconst 0, 1) := by decide +kernel
theorem dX9_tail_44 : decode cX9_tail 44 = .ok (.lreturn, 1) := by decide +kernel
theorem dX9_tail_45 : decode cX9_tail 45 = .ok (.aload_n 0, 1) := by decide +kernel
theorem dX9_tail_46 : decode cX9_tail 46 = .ok (.iload_n 1, 1) := by decide +kernel
theorem dX9_tail_47 : decode cX9_tail 47 = .ok (.iload_n 2, 1) := by decide +kernel
theorem dX9_tail_48 : decode cX9_tail 48 = .ok (.iload_n 3, 1) := by decide +kernel
theorem dX9_tail_49 : decode cX9_tail 49 = .ok (.invokevirtual 188, 3) := by decide +kernel
theorem dX9_tail_52 : decode cX9_tail 52 = .ok (.lreturn, 1) := by decide +kernel
theorem dX9_fewestTrials_0 : decode cX9_fewestTrials 0 = .ok (.aload_n 0, 1) := by decide +kernel
theorem dX9_fewestTrials_1 : decode cX9_fewestTrials 1 = .ok (.iload_n 1, 1) := by decide +kernel
theorem dX9_fewestTrials_2 : decode cX9_fewestTrials 2 = .ok (.invokestatic 185, 3) := by decide +kernel
theorem dX9_fewestTrials_5 : decode cX9_fewestTrials 5 = .ok (.ifCond .eq 26, 3) := by decide +kernel
theorem dX9_fewestTrials_8 : decode cX9_fewestTrials 8 = .ok (.iload_n 2, 1) := by decide +kernel
theorem dX9_fewestTrials_9 : decode cX9_fewestTrials 9 = .ok (.invokestatic 185, 3) := by decide +kernel
theorem dX9_fewestTrials_12 : decode cX9_fewestTrials 12 = .ok (.ifCond .eq 19, 3) := by decide +kernel
theorem dX9_fewestTrials_15 : decode cX9_fewestTrials 15 = .ok (.iload_n 3, 1) := by decide +kernel
theorem dX9_fewestTrials_16 : decode cX9_fewestTrials 16 = .ok (.i2l, 1) := by decide +kernel
theorem dX9_fewestTrials_17 : decode cX9_fewestTrials 17 = .ok (.lconst 1, 1) := by decide +kernel
theorem dX9_fewestTrials_18 : decode cX9_fewestTrials 18 = .ok (.ldc2_w 90, 3) := by decide +kernel
theorem dX9_fewestTrials_21 : decode cX9_fewestTrials 21 = .ok (.invokestatic 44, 3) := by decide +kernel
theorem dX9_fewestTrials_24 : decode cX9_fewestTrials 24 = .ok (.ifCond .eq 7, 3) := by decide +kernel
theorem dX9_fewestTrials_27 : decode cX9_fewestTrials 27 = .ok (.iconst 0, 1) := by decide +kernel
theorem dX9_fewestTrials_28 : decode cX9_fewestTrials 28 = .ok (.goto 4, 3) := by decide +kernel
theorem dX9_fewestTrials_31 : decode cX9_fewestTrials 31 = .ok (.iconst 1, 1) := by decide +kernel
theorem dX9_fewestTrials_32 : decode cX9_fewestTrials 32 = .ok (.invokevirtual 55, 3) := by decide +kernel
theorem dX9_fewestTrials_35 : decode cX9_fewestTrials 35 = .ok (.ifCond .eq 5, 3) := by decide +kernel
theorem dX9_fewestTrials_38 : decode cX9_fewestTrials 38 = .ok (.iconst 0, 1) := by decide +kernel
theorem dX9_fewestTrials_39 : decode cX9_fewestTrials 39 = .ok (.ireturn, 1) := by decide +kernel
theorem dX9_fewestTrials_40 : decode cX9_fewestTrials 40 = .ok (.iconst 0, 1) := by decide +kernel
theorem dX9_fewestTrials_41 : decode cX9_fewestTrials 41 = .ok (.istore 4, 2) := by decide +kernel
theorem dX9_fewestTrials_43 : decode cX9_fewestTrials 43 = .ok (.iload 4, 2) := by decide +kernel
theorem dX9_fewestTrials_45 : decode cX9_fewestTrials 45 = .ok (.bipush 15, 2) := by decide +kernel
theorem dX9_fewestTrials_47 : decode cX9_fewestTrials 47 = .ok (.if_icmp .gt 84, 3) := by decide +kernel
theorem dX9_fewestTrials_50 : decode cX9_fewestTrials 50 = .ok (.iconst 0, 1) := by decide +kernel
theorem dX9_fewestTrials_51 : decode cX9_fewestTrials 51 = .ok (.istore 5, 2) := by decide +kernel
theorem dX9_fewestTrials_53 : decode cX9_fewestTrials 53 = .ok (.iload 5, 2) := by decide +kernel
theorem dX9_fewestTrials_55 : decode cX9_fewestTrials 55 = .ok (.iload 4, 2) := by decide +kernel
theorem dX9_fewestTrials_57 : decode cX9_fewestTrials 57 = .ok (.iconst 1, 1) := by decide +kernel
theorem dX9_fewestTrials_58 : decode cX9_fewestTrials 58 = .ok (.iadd, 1) := by decide +kernel
theorem dX9_fewestTrials_59 : decode cX9_fewestTrials 59 = .ok (.if_icmp .gt 66, 3) := by decide +kernel
theorem dX9_fewestTrials_62 : decode cX9_fewestTrials 62 = .ok (.iload_n 3, 1) := by decide +kernel
theorem dX9_fewestTrials_63 : decode cX9_fewestTrials 63 = .ok (.i2l, 1) := by decide +kernel
theorem dX9_fewestTrials_64 : decode cX9_fewestTrials 64 = .ok (.aload_n 0, 1) := by decide +kernel
theorem dX9_fewestTrials_65 : decode cX9_fewestTrials 65 = .ok (.iload 4, 2) := by decide +kernel
theorem dX9_fewestTrials_67 : decode cX9_fewestTrials 67 = .ok (.iload 5, 2) := by decide +kernel
theorem dX9_fewestTrials_69 : decode cX9_fewestTrials 69 = .ok (.iload_n 1, 1) := by decide +kernel
theorem dX9_fewestTrials_70 : decode cX9_fewestTrials 70 = .ok (.invokevirtual 188, 3) := by decide +kernel
theorem dX9_fewestTrials_73 : decode cX9_fewestTrials 73 = .ok (.lmul, 1) := by decide +kernel
theorem dX9_fewestTrials_74 : decode cX9_fewestTrials 74 = .ok (.iload 4, 2) := by decide +kernel
theorem dX9_fewestTrials_76 : decode cX9_fewestTrials 76 = .ok (.invokestatic 174, 3) := by decide +kernel
theorem dX9_fewestTrials_79 : decode cX9_fewestTrials 79 = .ok (.lcmp, 1) := by decide +kernel
theorem dX9_fewestTrials_80 : decode cX9_fewestTrials 80 = .ok (.ifCond .gt 39, 3) := by decide +kernel
theorem dX9_fewestTrials_83 : decode cX9_fewestTrials 83 = .ok (.iload_n 3, 1) := by decide +kernel
theorem dX9_fewestTrials_84 : decode cX9_fewestTrials 84 = .ok (.i2l, 1) := by decide +kernel
theorem dX9_fewestTrials_85 : decode cX9_fewestTrials 85 = .ok (.iload 4, 2) := by decide +kernel
theorem dX9_fewestTrials_87 : decode cX9_fewestTrials 87 = .ok (.invokestatic 174, 3) := by decide +kernel
theorem dX9_fewestTrials_90 : decode cX9_fewestTrials 90 = .ok (.aload_n 0, 1) := by decide +kernel
theorem dX9_fewestTrials_91 : decode cX9_fewestTrials 91 = .ok (.iload 4, 2) := by decide +kernel
theorem dX9_fewestTrials_93 : decode cX9_fewestTrials 93 = .ok (.iload 5, 2) := by decide +kernel
theorem dX9_fewestTrials_95 : decode cX9_fewestTrials 95 = .ok (.iload_n 2, 1) := by decide +kernel
theorem dX9_fewestTrials_96 : decode cX9_fewestTrials 96 = .ok (.invokevirtual 188, 3) := by decide +kernel
theorem dX9_fewestTrials_99 : decode cX9_fewestTrials 99 = .ok (.lsub, 1) := by decide +kernel
theorem dX9_fewestTrials_100 : decode cX9_fewestTrials 100 = .ok (.lmul, 1) := by decide +kernel
theorem dX9_fewestTrials_101 : decode cX9_fewestTrials 101 = .ok (.iload 4, 2) := by decide +kernel
theorem dX9_fewestTrials_103 : decode cX9_fewestTrials 103 = .ok (.invokestatic 174, 3) := by decide +kernel
theorem dX9_fewestTrials_106 : decode cX9_fewestTrials 106 = .ok (.lcmp, 1) := by decide +kernel
theorem dX9_fewestTrials_107 : decode cX9_fewestTrials 107 = .ok (.ifCond .gt 12, 3) := by decide +kernel
theorem dX9_fewestTrials_110 : decode cX9_fewestTrials 110 = .ok (.bipush 100, 2) := by decide +kernel
theorem dX9_fewestTrials_112 : decode cX9_fewestTrials 112 = .ok (.iload 4, 2) := by decide +kernel
theorem dX9_fewestTrials_114 : decode cX9_fewestTrials 114 = .ok (.imul, 1) := by decide +kernel
theorem dX9_fewestTrials_115 : decode cX9_fewestTrials 115 = .ok (.iload 5, 2) := by decide +kernel
theorem dX9_fewestTrials_117 : decode cX9_fewestTrials 117 = .ok (.iadd, 1) := by decide +kernel
theorem dX9_fewestTrials_118 : decode cX9_fewestTrials 118 = .ok (.ireturn, 1) := by decide +kernel
theorem dX9_fewestTrials_119 : decode cX9_fewestTrials 119 = .ok (.iinc 5 1, 3) := by decide +kernel
theorem dX9_fewestTrials_122 : decode cX9_fewestTrials 122 = .ok (.goto (-69), 3) := by decide +kernel
theorem dX9_fewestTrials_125 : decode cX9_fewestTrials 125 = .ok (.iinc 4 1, 3) := by decide +kernel
theorem dX9_fewestTrials_128 : decode cX9_fewestTrials 128 = .ok (.goto (-85), 3) := by decide +kernel
theorem dX9_fewestTrials_131 : decode cX9_fewestTrials 131 = .ok (.iconst (-1), 1) := by decide +kernel
theorem dX9_fewestTrials_132 : decode cX9_fewestTrials 132 = .ok (.ireturn, 1) := by decide +kernel
theorem dX9_adds_0 : decode cX9_adds 0 = .ok (.aload_n 0, 1) := by decide +kernel
theorem dX9_adds_1 : decode cX9_adds 1 = .ok (.invokevirtual 87, 3) := by decide +kernel
theorem dX9_adds_4 : decode cX9_adds 4 = .ok (.iload_n 1, 1) := by decide +kernel
theorem dX9_adds_5 : decode cX9_adds 5 = .ok (.iconst 1, 1) := by decide +kernel
theorem dX9_adds_6 : decode cX9_adds 6 = .ok (.iadd, 1) := by decide +kernel
theorem dX9_adds_7 : decode cX9_adds 7 = .ok (.iconst 2, 1) := by decide +kernel
theorem dX9_adds_8 : decode cX9_adds 8 = .ok (.aload_n 0, 1) := by decide +kernel
theorem dX9_adds_9 : decode cX9_adds 9 = .ok (.iload_n 1, 1) := by decide +kernel
theorem dX9_adds_10 : decode cX9_adds 10 = .ok (.invokevirtual 66, 3) := by decide +kernel
theorem dX9_adds_13 : decode cX9_adds 13 = .ok (.imul, 1) := by decide +kernel
theorem dX9_adds_14 : decode cX9_adds 14 = .ok (.iadd, 1) := by decide +kernel
theorem dX9_adds_15 : decode cX9_adds 15 = .ok (.istore 4, 2) := by decide +kernel
theorem dX9_adds_17 : decode cX9_adds 17 = .ok (.aload_n 0, 1) := by decide +kernel
theorem dX9_adds_18 : decode cX9_adds 18 = .ok (.getfield 7, 3) := by decide +kernel
theorem dX9_adds_21 : decode cX9_adds 21 = .ok (.iload 4, 2) := by decide +kernel
theorem dX9_adds_23 : decode cX9_adds 23 = .ok (.iload_n 2, 1) := by decide +kernel
theorem dX9_adds_24 : decode cX9_adds 24 = .ok (.i2l, 1) := by decide +kernel
theorem dX9_adds_25 : decode cX9_adds 25 = .ok (.lastore, 1) := by decide +kernel
theorem dX9_adds_26 : decode cX9_adds 26 = .ok (.aload_n 0, 1) := by decide +kernel
theorem dX9_adds_27 : decode cX9_adds 27 = .ok (.getfield 7, 3) := by decide +kernel
theorem dX9_adds_30 : decode cX9_adds 30 = .ok (.iload 4, 2) := by decide +kernel
theorem dX9_adds_32 : decode cX9_adds 32 = .ok (.iconst 1, 1) := by decide +kernel
theorem dX9_adds_33 : decode cX9_adds 33 = .ok (.iadd, 1) := by decide +kernel
theorem dX9_adds_34 : decode cX9_adds 34 = .ok (.iload_n 3, 1) := by decide +kernel
theorem dX9_adds_35 : decode cX9_adds 35 = .ok (.i2l, 1) := by decide +kernel
theorem dX9_adds_36 : decode cX9_adds 36 = .ok (.lastore, 1) := by decide +kernel
theorem dX9_adds_37 : decode cX9_adds 37 = .ok (.aload_n 0, 1) := by decide +kernel
theorem dX9_adds_38 : decode cX9_adds 38 = .ok (.getfield 7, 3) := by decide +kernel
theorem dX9_adds_41 : decode cX9_adds 41 = .ok (.iload_n 1, 1) := by decide +kernel
theorem dX9_adds_42 : decode cX9_adds 42 = .ok (.dup2, 1) := by decide +kernel
theorem dX9_adds_43 : decode cX9_adds 43 = .ok (.laload, 1) := by decide +kernel
theorem dX9_adds_44 : decode cX9_adds 44 = .ok (.lconst 1, 1) := by decide +kernel
theorem dX9_adds_45 : decode cX9_adds 45 = .ok (.ladd, 1) := by decide +kernel
theorem dX9_adds_46 : decode cX9_adds 46 = .ok (.lastore, 1) := by decide +kernel
theorem dX9_adds_47 : decode cX9_adds 47 = .ok (.aload_n 0, 1) := by decide +kernel
theorem dX9_adds_48 : decode cX9_adds 48 = .ok (.iload_n 1, 1) := by decide +kernel
theorem dX9_adds_49 : decode cX9_adds 49 = .ok (.invokevirtual 66, 3) := by decide +kernel
theorem dX9_adds_52 : decode cX9_adds 52 = .ok (.iconst 1, 1) := by decide +kernel
theorem dX9_adds_53 : decode cX9_adds 53 = .ok (.isub, 1) := by decide +kernel
theorem dX9_adds_54 : decode cX9_adds 54 = .ok (.ireturn, 1) := by decide +kernel
theorem dX9_addSupporter_0 : decode cX9_addSupporter 0 = .ok (.iload_n 1, 1) := by decide +kernel
theorem dX9_addSupporter_1 : decode cX9_addSupporter 1 = .ok (.i2l, 1) := by decide +kernel
theorem dX9_addSupporter_2 : decode cX9_addSupporter 2 = .ok (.lconst 1, 1) := by decide +kernel
theorem dX9_addSupporter_3 : decode cX9_addSupporter 3 = .ok (.ldc2_w 85, 3) := by decide +kernel
theorem dX9_addSupporter_6 : decode cX9_addSupporter 6 = .ok (.invokestatic 44, 3) := by decide +kernel
theorem dX9_addSupporter_9 : decode cX9_addSupporter 9 = .ok (.ifCond .eq 19, 3) := by decide +kernel
theorem dX9_addSupporter_12 : decode cX9_addSupporter 12 = .ok (.iload_n 2, 1) := by decide +kernel
theorem dX9_addSupporter_13 : decode cX9_addSupporter 13 = .ok (.i2l, 1) := by decide +kernel
theorem dX9_addSupporter_14 : decode cX9_addSupporter 14 = .ok (.lconst 0, 1) := by decide +kernel
theorem dX9_addSupporter_15 : decode cX9_addSupporter 15 = .ok (.ldc2_w 192, 3) := by decide +kernel
theorem dX9_addSupporter_18 : decode cX9_addSupporter 18 = .ok (.invokestatic 44, 3) := by decide +kernel
theorem dX9_addSupporter_21 : decode cX9_addSupporter 21 = .ok (.ifCond .eq 7, 3) := by decide +kernel
theorem dX9_addSupporter_24 : decode cX9_addSupporter 24 = .ok (.iconst 1, 1) := by decide +kernel
theorem dX9_addSupporter_25 : decode cX9_addSupporter 25 = .ok (.goto 4, 3) := by decide +kernel
theorem dX9_addSupporter_28 : decode cX9_addSupporter 28 = .ok (.iconst 0, 1) := by decide +kernel
theorem dX9_addSupporter_29 : decode cX9_addSupporter 29 = .ok (.istore_n 3, 1) := by decide +kernel
theorem dX9_addSupporter_30 : decode cX9_addSupporter 30 = .ok (.aload_n 0, 1) := by decide +kernel
theorem dX9_addSupporter_31 : decode cX9_addSupporter 31 = .ok (.iload_n 3, 1) := by decide +kernel
theorem dX9_addSupporter_32 : decode cX9_addSupporter 32 = .ok (.ifCond .ne 7, 3) := by decide +kernel
theorem dX9_addSupporter_35 : decode cX9_addSupporter 35 = .ok (.iconst 1, 1) := by decide +kernel
theorem dX9_addSupporter_36 : decode cX9_addSupporter 36 = .ok (.goto 20, 3) := by decide +kernel
theorem dX9_addSupporter_39 : decode cX9_addSupporter 39 = .ok (.aload_n 0, 1) := by decide +kernel
theorem dX9_addSupporter_40 : decode cX9_addSupporter 40 = .ok (.sipush 284, 3) := by decide +kernel
theorem dX9_addSupporter_43 : decode cX9_addSupporter 43 = .ok (.invokevirtual 66, 3) := by decide +kernel
theorem dX9_addSupporter_46 : decode cX9_addSupporter 46 = .ok (.bipush 8, 2) := by decide +kernel
theorem dX9_addSupporter_48 : decode cX9_addSupporter 48 = .ok (.if_icmp .ne 7, 3) := by decide +kernel
theorem dX9_addSupporter_51 : decode cX9_addSupporter 51 = .ok (.iconst 2, 1) := by decide +kernel
theorem dX9_addSupporter_52 : decode cX9_addSupporter 52 = .ok (.goto 4, 3) := by decide +kernel
theorem dX9_addSupporter_55 : decode cX9_addSupporter 55 = .ok (.iconst 0, 1) := by decide +kernel
theorem dX9_addSupporter_56 : decode cX9_addSupporter 56 = .ok (.invokevirtual 55, 3) := by decide +kernel
theorem dX9_addSupporter_59 : decode cX9_addSupporter 59 = .ok (.ifCond .eq 7, 3) := by decide +kernel
theorem dX9_addSupporter_62 : decode cX9_addSupporter 62 = .ok (.iconst 0, 1) := by decide +kernel
theorem dX9_addSupporter_63 : decode cX9_addSupporter 63 = .ok (.goto 12, 3) := by decide +kernel
theorem dX9_addSupporter_66 : decode cX9_addSupporter 66 = .ok (.aload_n 0, 1) := by decide +kernel
theorem dX9_addSupporter_67 : decode cX9_addSupporter 67 = .ok (.sipush 284, 3) := by decide +kernel
theorem dX9_addSupporter_70 : decode cX9_addSupporter 70 = .ok (.iload_n 1, 1) := by decide +kernel
theorem dX9_addSupporter_71 : decode cX9_addSupporter 71 = .ok (.iload_n 2, 1) := by decide +kernel
theorem dX9_addSupporter_72 : decode cX9_addSupporter 72 = .ok (.invokevirtual 194, 3) := by decide +kernel
theorem dX9_addSupporter_75 : decode cX9_addSupporter 75 = .ok (.ireturn, 1) := by decide +kernel
theorem dX9_addSession_0 : decode cX9_addSession 0 = .ok (.iload_n 1, 1) := by decide +kernel
theorem dX9_addSession_1 : decode cX9_addSession 1 = .ok (.i2l, 1) := by decide +kernel
theorem dX9_addSession_2 : decode cX9_addSession 2 = .ok (.lconst 1, 1) := by decide +kernel
theorem dX9_addSession_3 : decode cX9_addSession 3 = .ok (.ldc2_w 85, 3) := by decide +kernel
theorem dX9_addSession_6 : decode cX9_addSession 6 = .ok (.invokestatic 44, 3) := by decide +kernel
theorem dX9_addSession_9 : decode cX9_addSession 9 = .ok (.ifCond .eq 19, 3) := by decide +kernel
theorem dX9_addSession_12 : decode cX9_addSession 12 = .ok (.iload_n 2, 1) := by decide +kernel
theorem dX9_addSession_13 : decode cX9_addSession 13 = .ok (.i2l, 1) := by decide +kernel
theorem dX9_addSession_14 : decode cX9_addSession 14 = .ok (.lconst 0, 1) := by decide +kernel
theorem dX9_addSession_15 : decode cX9_addSession 15 = .ok (.ldc2_w 198, 3) := by decide +kernel
theorem dX9_addSession_18 : decode cX9_addSession 18 = .ok (.invokestatic 44, 3) := by decide +kernel
theorem dX9_addSession_21 : decode cX9_addSession 21 = .ok (.ifCond .eq 7, 3) := by decide +kernel
theorem dX9_addSession_24 : decode cX9_addSession 24 = .ok (.iconst 1, 1) := by decide +kernel
theorem dX9_addSession_25 : decode cX9_addSession 25 = .ok (.goto 4, 3) := by decide +kernel
theorem dX9_addSession_28 : decode cX9_addSession 28 = .ok (.iconst 0, 1) := by decide +kernel
theorem dX9_addSession_29 : decode cX9_addSession 29 = .ok (.istore_n 3, 1) := by decide +kernel
theorem dX9_addSession_30 : decode cX9_addSession 30 = .ok (.aload_n 0, 1) := by decide +kernel
theorem dX9_addSession_31 : decode cX9_addSession 31 = .ok (.iload_n 3, 1) := by decide +kernel
theorem dX9_addSession_32 : decode cX9_addSession 32 = .ok (.ifCond .ne 7, 3) := by decide +kernel
theorem dX9_addSession_35 : decode cX9_addSession 35 = .ok (.iconst 1, 1) := by decide +kernel
theorem dX9_addSession_36 : decode cX9_addSession 36 = .ok (.goto 20, 3) := by decide +kernel
theorem dX9_addSession_39 : decode cX9_addSession 39 = .ok (.aload_n 0, 1) := by decide +kernel
theorem dX9_addSession_40 : decode cX9_addSession 40 = .ok (.sipush 301, 3) := by decide +kernel
theorem dX9_addSession_43 : decode cX9_addSession 43 = .ok (.invokevirtual 66, 3) := by decide +kernel
theorem dX9_addSession_46 : decode cX9_addSession 46 = .ok (.bipush 8, 2) := by decide +kernel
theorem dX9_addSession_48 : decode cX9_addSession 48 = .ok (.if_icmp .ne 7, 3) := by decide +kernel
theorem dX9_addSession_51 : decode cX9_addSession 51 = .ok (.iconst 2, 1) := by decide +kernel
theorem dX9_addSession_52 : decode cX9_addSession 52 = .ok (.goto 4, 3) := by decide +kernel
theorem dX9_addSession_55 : decode cX9_addSession 55 = .ok (.iconst 0, 1) := by decide +kernel
theorem dX9_addSession_56 : decode cX9_addSession 56 = .ok (.invokevirtual 55, 3) := by decide +kernel
theorem dX9_addSession_59 : decode cX9_addSession 59 = .ok (.ifCond .eq 7, 3) := by decide +kernel
theorem dX9_addSession_62 : decode cX9_addSession 62 = .ok (.iconst 0, 1) := by decide +kernel
theorem dX9_addSession_63 : decode cX9_addSession 63 = .ok (.goto 12, 3) := by decide +kernel
theorem dX9_addSession_66 : decode cX9_addSession 66 = .ok (.aload_n 0, 1) := by decide +kernel
theorem dX9_addSession_67 : decode cX9_addSession 67 = .ok (.sipush 301, 3) := by decide +kernel
theorem dX9_addSession_70 : decode cX9_addSession 70 = .ok (.iload_n 1, 1) := by decide +kernel
theorem dX9_addSession_71 : decode cX9_addSession 71 = .ok (.iload_n 2, 1) := by decide +kernel
theorem dX9_addSession_72 : decode cX9_addSession 72 = .ok (.invokevirtual 194, 3) := by decide +kernel
theorem dX9_addSession_75 : decode cX9_addSession 75 = .ok (.ireturn, 1) := by decide +kernel
theorem dX9_clearSessions_0 : decode cX9_clearSessions 0 = .ok (.aload_n 0, 1) := by decide +kernel
theorem dX9_clearSessions_1 : decode cX9_clearSessions 1 = .ok (.iconst 0, 1) := by decide +kernel
theorem dX9_clearSessions_2 : decode cX9_clearSessions 2 = .ok (.putfield 38, 3) := by decide +kernel
theorem dX9_clearSessions_5 : decode cX9_clearSessions 5 = .ok (.aload_n 0, 1) := by decide +kernel
theorem dX9_clearSessions_6 : decode cX9_clearSessions 6 = .ok (.invokevirtual 87, 3) := by decide +kernel
theorem dX9_clearSessions_9 : decode cX9_clearSessions 9 = .ok (.aload_n 0, 1) := by decide +kernel
theorem dX9_clearSessions_10 : decode cX9_clearSessions 10 = .ok (.sipush 284, 3) := by decide +kernel
theorem dX9_clearSessions_13 : decode cX9_clearSessions 13 = .ok (.invokevirtual 66, 3) := by decide +kernel
theorem dX9_clearSessions_16 : decode cX9_clearSessions 16 = .ok (.aload_n 0, 1) := by decide +kernel
theorem dX9_clearSessions_17 : decode cX9_clearSessions 17 = .ok (.sipush 301, 3) := by decide +kernel
theorem dX9_clearSessions_20 : decode cX9_clearSessions 20 = .ok (.invokevirtual 66, 3) := by decide +kernel
theorem dX9_clearSessions_23 : decode cX9_clearSessions 23 = .ok (.iadd, 1) := by decide +kernel
theorem dX9_clearSessions_24 : decode cX9_clearSessions 24 = .ok (.istore_n 1, 1) := by decide +kernel
theorem dX9_clearSessions_25 : decode cX9_clearSessions 25 = .ok (.aload_n 0, 1) := by decide +kernel
theorem dX9_clearSessions_26 : decode cX9_clearSessions 26 = .ok (.getfield 7, 3) := by decide +kernel
theorem dX9_clearSessions_29 : decode cX9_clearSessions 29 = .ok (.sipush 284, 3) := by decide +kernel
theorem dX9_clearSessions_32 : decode cX9_clearSessions 32 = .ok (.lconst 0, 1) := by decide +kernel
theorem dX9_clearSessions_33 : decode cX9_clearSessions 33 = .ok (.lastore, 1) := by decide +kernel
theorem dX9_clearSessions_34 : decode cX9_clearSessions 34 = .ok (.aload_n 0, 1) := by decide +kernel
theorem dX9_clearSessions_35 : decode cX9_clearSessions 35 = .ok (.getfield 7, 3) := by decide +kernel
theorem dX9_clearSessions_38 : decode cX9_clearSessions 38 = .ok (.sipush 301, 3) := by decide +kernel
theorem dX9_clearSessions_41 : decode cX9_clearSessions 41 = .ok (.lconst 0, 1) := by decide +kernel
theorem dX9_clearSessions_42 : decode cX9_clearSessions 42 = .ok (.lastore, 1) := by decide +kernel
theorem dX9_clearSessions_43 : decode cX9_clearSessions 43 = .ok (.iload_n 1, 1) := by decide +kernel
theorem dX9_clearSessions_44 : decode cX9_clearSessions 44 = .ok (.ireturn, 1) := by decide +kernel
theorem dX9_canTake_0 : decode cX9_canTake 0 = .ok (.aload_n 0, 1) := by decide +kernel
theorem dX9_canTake_1 : decode cX9_canTake 1 = .ok (.getfield 7, 3) := by decide +kernel
theorem dX9_canTake_4 : decode cX9_canTake 4 = .ok (.sipush 302, 3) := by decide +kernel
theorem dX9_canTake_7 : decode cX9_canTake 7 = .ok (.iconst 2, 1) := by decide +kernel
theorem dX9_canTake_8 : decode cX9_canTake 8 = .ok (.iload_n 2, 1) := by decide +kernel
theorem dX9_canTake_9 : decode cX9_canTake 9 = .ok (.imul, 1) := by decide +kernel
theorem dX9_canTake_10 : decode cX9_canTake 10 = .ok (.iadd, 1) := by decide +kernel
theorem dX9_canTake_11 : decode cX9_canTake 11 = .ok (.laload, 1) := by decide +kernel
theorem dX9_canTake_12 : decode cX9_canTake 12 = .ok (.lstore_n 3, 1) := by decide +kernel
theorem dX9_canTake_13 : decode cX9_canTake 13 = .ok (.aload_n 0, 1) := by decide +kernel
theorem dX9_canTake_14 : decode cX9_canTake 14 = .ok (.getfield 7, 3) := by decide +kernel
theorem dX9_canTake_17 : decode cX9_canTake 17 = .ok (.sipush 302, 3) := by decide +kernel
theorem dX9_canTake_20 : decode cX9_canTake 20 = .ok (.iconst 2, 1) := by decide +kernel
theorem dX9_canTake_21 : decode cX9_canTake 21 = .ok (.iload_n 2, 1) := by decide +kernel
theorem dX9_canTake_22 : decode cX9_canTake 22 = .ok (.imul, 1) := by decide +kernel
theorem dX9_canTake_23 : decode cX9_canTake 23 = .ok (.iadd, 1) := by decide +kernel
theorem dX9_canTake_24 : decode cX9_canTake 24 = .ok (.iconst 1, 1) := by decide +kernel
theorem dX9_canTake_25 : decode cX9_canTake 25 = .ok (.iadd, 1) := by decide +kernel
theorem dX9_canTake_26 : decode cX9_canTake 26 = .ok (.laload, 1) := by decide +kernel
theorem dX9_canTake_27 : decode cX9_canTake 27 = .ok (.lstore 5, 2) := by decide +kernel
theorem dX9_canTake_29 : decode cX9_canTake 29 = .ok (.aload_n 0, 1) := by decide +kernel
theorem dX9_canTake_30 : decode cX9_canTake 30 = .ok (.getfield 7, 3) := by decide +kernel
theorem dX9_canTake_33 : decode cX9_canTake 33 = .ok (.sipush 285, 3) := by decide +kernel
theorem dX9_canTake_36 : decode cX9_canTake 36 = .ok (.iconst 2, 1) := by decide +kernel
theorem dX9_canTake_37 : decode cX9_canTake 37 = .ok (.iload_n 1, 1) := by decide +kernel
theorem dX9_canTake_38 : decode cX9_canTake 38 = .ok (.imul, 1) := by decide +kernel
theorem dX9_canTake_39 : decode cX9_canTake 39 = .ok (.iadd, 1) := by decide +kernel
theorem dX9_canTake_40 : decode cX9_canTake 40 = .ok (.laload, 1) := by decide +kernel
theorem dX9_canTake_41 : decode cX9_canTake 41 = .ok (.lload_n 3, 1) := by decide +kernel
theorem dX9_canTake_42 : decode cX9_canTake 42 = .ok (.lcmp, 1) := by decide +kernel
theorem dX9_canTake_43 : decode cX9_canTake 43 = .ok (.ifCond .lt 32, 3) := by decide +kernel
theorem dX9_canTake_46 : decode cX9_canTake 46 = .ok (.aload_n 0, 1) := by decide +kernel
theorem dX9_canTake_47 : decode cX9_canTake 47 = .ok (.getfield 7, 3) := by decide +kernel
theorem dX9_canTake_50 : decode cX9_canTake 50 = .ok (.sipush 285, 3) := by decide +kernel
theorem dX9_canTake_53 : decode cX9_canTake 53 = .ok (.iconst 2, 1) := by decide +kernel
theorem dX9_canTake_54 : decode cX9_canTake 54 = .ok (.iload_n 1, 1) := by decide +kernel
theorem dX9_canTake_55 : decode cX9_canTake 55 = .ok (.imul, 1) := by decide +kernel
theorem dX9_canTake_56 : decode cX9_canTake 56 = .ok (.iadd, 1) := by decide +kernel
theorem dX9_canTake_57 : decode cX9_canTake 57 = .ok (.iconst 1, 1) := by decide +kernel
theorem dX9_canTake_58 : decode cX9_canTake 58 = .ok (.iadd, 1) := by decide +kernel
theorem dX9_canTake_59 : decode cX9_canTake 59 = .ok (.laload, 1) := by decide +kernel
theorem dX9_canTake_60 : decode cX9_canTake 60 = .ok (.lload 5, 2) := by decide +kernel
theorem dX9_canTake_62 : decode cX9_canTake 62 = .ok (.l2i, 1) := by decide +kernel
theorem dX9_canTake_63 : decode cX9_canTake 63 = .ok (.lshr, 1) := by decide +kernel
theorem dX9_canTake_64 : decode cX9_canTake 64 = .ok (.lconst 1, 1) := by decide +kernel
theorem dX9_canTake_65 : decode cX9_canTake 65 = .ok (.land, 1) := by decide +kernel
theorem dX9_canTake_66 : decode cX9_canTake 66 = .ok (.lconst 1, 1) := by decide +kernel
theorem dX9_canTake_67 : decode cX9_canTake 67 = .ok (.lcmp, 1) := by decide +kernel
theorem dX9_canTake_68 : decode cX9_canTake 68 = .ok (.ifCond .ne 7, 3) := by decide +kernel
theorem dX9_canTake_71 : decode cX9_canTake 71 = .ok (.iconst 1, 1) := by decide +kernel
theorem dX9_canTake_72 : decode cX9_canTake 72 = .ok (.goto 4, 3) := by decide +kernel
theorem dX9_canTake_75 : decode cX9_canTake 75 = .ok (.iconst 0, 1) := by decide +kernel
theorem dX9_canTake_76 : decode cX9_canTake 76 = .ok (.ireturn, 1) := by decide +kernel
theorem dX9_laysMost_0 : decode cX9_laysMost 0 = .ok (.iconst 0, 1) := by decide +kernel
theorem dX9_laysMost_1 : decode cX9_laysMost 1 = .ok (.istore_n 1, 1) := by decide +kernel
theorem dX9_laysMost_2 : decode cX9_laysMost 2 = .ok (.iload_n 1, 1) := by decide +kernel
theorem dX9_laysMost_3 : decode cX9_laysMost 3 = .ok (.sipush 256, 3) := by decide +kernel
theorem dX9_laysMost_6 : decode cX9_laysMost 6 = .ok (.if_icmp .ge 28, 3) := by decide +kernel
theorem dX9_laysMost_9 : decode cX9_laysMost 9 = .ok (.aload_n 0, 1) := by decide +kernel
theorem dX9_laysMost_10 : decode cX9_laysMost 10 = .ok (.getfield 25, 3) := by decide +kernel
theorem dX9_laysMost_13 : decode cX9_laysMost 13 = .ok (.sipush 256, 3) := by decide +kernel
theorem dX9_laysMost_16 : decode cX9_laysMost 16 = .ok (.aload_n 0, 1) := by decide +kernel
theorem dX9_laysMost_17 : decode cX9_laysMost 17 = .ok (.sipush 301, 3) := by decide +kernel
theorem dX9_laysMost_20 : decode cX9_laysMost 20 = .ok (.invokevirtual 66, 3) := by decide +kernel
theorem dX9_laysMost_23 : decode cX9_laysMost 23 = .ok (.imul, 1) := by decide +kernel
theorem dX9_laysMost_24 : decode cX9_laysMost 24 = .ok (.iload_n 1, 1) := by decide +kernel
theorem dX9_laysMost_25 : decode cX9_laysMost 25 = .ok (.iadd, 1) := by decide +kernel
theorem dX9_laysMost_26 : decode cX9_laysMost 26 = .ok (.iconst 0, 1) := by decide +kernel
theorem dX9_laysMost_27 : decode cX9_laysMost 27 = .ok (.iastore, 1) := by decide +kernel
theorem dX9_laysMost_28 : decode cX9_laysMost 28 = .ok (.iinc 1 1, 3) := by decide +kernel
theorem dX9_laysMost_31 : decode cX9_laysMost 31 = .ok (.goto (-29), 3) := by decide +kernel
theorem dX9_laysMost_34 : decode cX9_laysMost 34 = .ok (.aload_n 0, 1) := by decide +kernel
theorem dX9_laysMost_35 : decode cX9_laysMost 35 = .ok (.sipush 301, 3) := by decide +kernel
theorem dX9_laysMost_38 : decode cX9_laysMost 38 = .ok (.invokevirtual 66, 3) := by decide +kernel
theorem dX9_laysMost_41 : decode cX9_laysMost 41 = .ok (.iconst 1, 1) := by decide +kernel
theorem dX9_laysMost_42 : decode cX9_laysMost 42 = .ok (.isub, 1) := by decide +kernel
theorem dX9_laysMost_43 : decode cX9_laysMost 43 = .ok (.istore_n 1, 1) := by decide +kernel
theorem dX9_laysMost_44 : decode cX9_laysMost 44 = .ok (.iload_n 1, 1) := by decide +kernel
theorem dX9_laysMost_45 : decode cX9_laysMost 45 = .ok (.ifCond .lt 133, 3) := by decide +kernel
theorem dX9_laysMost_48 : decode cX9_laysMost 48 = .ok (.iconst 0, 1) := by decide +kernel
theorem dX9_laysMost_49 : decode cX9_laysMost 49 = .ok (.istore_n 2, 1) := by decide +kernel
theorem dX9_laysMost_50 : decode cX9_laysMost 50 = .ok (.iload_n 2, 1) := by decide +kernel
theorem dX9_laysMost_51 : decode cX9_laysMost 51 = .ok (.sipush 256, 3) := by decide +kernel
theorem dX9_laysMost_54 : decode cX9_laysMost 54 = .ok (.if_icmp .ge 118, 3) := by decide +kernel
theorem dX9_laysMost_57 : decode cX9_laysMost 57 = .ok (.aload_n 0, 1) := by decide +kernel
theorem dX9_laysMost_58 : decode cX9_laysMost 58 = .ok (.getfield 25, 3) := by decide +kernel
theorem dX9_laysMost_61 : decode cX9_laysMost 61 = .ok (.sipush 256, 3) := by decide +kernel
theorem dX9_laysMost_64 : decode cX9_laysMost 64 = .ok (.iload_n 1, 1) := by decide +kernel
theorem dX9_laysMost_65 : decode cX9_laysMost 65 = .ok (.iconst 1, 1) := by decide +kernel
theorem dX9_laysMost_66 : decode cX9_laysMost 66 = .ok (.iadd, 1) := by decide +kernel
theorem dX9_laysMost_67 : decode cX9_laysMost 67 = .ok (.imul, 1) := by decide +kernel
theorem dX9_laysMost_68 : decode cX9_laysMost 68 = .ok (.iload_n 2, 1) := by decide +kernel
theorem dX9_laysMost_69 : decode cX9_laysMost 69 = .ok (.iadd, 1) := by decide +kernel
theorem dX9_laysMost_70 : decode cX9_laysMost 70 = .ok (.iaload, 1) := by decide +kernel
theorem dX9_laysMost_71 : decode cX9_laysMost 71 = .ok (.istore_n 3, 1) := by decide +kernel
theorem dX9_laysMost_72 : decode cX9_laysMost 72 = .ok (.iconst 0, 1) := by decide +kernel
theorem dX9_laysMost_73 : decode cX9_laysMost 73 = .ok (.istore 4, 2) := by decide +kernel
theorem dX9_laysMost_75 : decode cX9_laysMost 75 = .ok (.iload 4, 2) := by decide +kernel
theorem dX9_laysMost_77 : decode cX9_laysMost 77 = .ok (.aload_n 0, 1) := by decide +kernel
theorem dX9_laysMost_78 : decode cX9_laysMost 78 = .ok (.sipush 284, 3) := by decide +kernel
theorem dX9_laysMost_81 : decode cX9_laysMost 81 = .ok (.invokevirtual 66, 3) := by decide +kernel
theorem dX9_laysMost_84 : decode cX9_laysMost 84 = .ok (.if_icmp .ge 69, 3) := by decide +kernel
theorem dX9_laysMost_87 : decode cX9_laysMost 87 = .ok (.iload_n 2, 1) := by decide +kernel
theorem dX9_laysMost_88 : decode cX9_laysMost 88 = .ok (.iload 4, 2) := by decide +kernel
theorem dX9_laysMost_90 : decode cX9_laysMost 90 = .ok (.ishr, 1) := by decide +kernel
theorem dX9_laysMost_91 : decode cX9_laysMost 91 = .ok (.iconst 1, 1) := by decide +kernel
theorem dX9_laysMost_92 : decode cX9_laysMost 92 = .ok (.iand, 1) := by decide +kernel
theorem dX9_laysMost_93 : decode cX9_laysMost 93 = .ok (.iconst 1, 1) := by decide +kernel
theorem dX9_laysMost_94 : decode cX9_laysMost 94 = .ok (.if_icmp .ne 37, 3) := by decide +kernel
theorem dX9_laysMost_97 : decode cX9_laysMost 97 = .ok (.aload_n 0, 1) := by decide +kernel
theorem dX9_laysMost_98 : decode cX9_laysMost 98 = .ok (.iload 4, 2) := by decide +kernel
theorem dX9_laysMost_100 : decode cX9_laysMost 100 = .ok (.iload_n 1, 1) := by decide +kernel
theorem dX9_laysMost_101 : decode cX9_laysMost 101 = .ok (.invokevirtual 200, 3) := by decide +kernel
theorem dX9_laysMost_104 : decode cX9_laysMost 104 = .ok (.ifCond .eq 27, 3) := by decide +kernel
theorem dX9_laysMost_107 : decode cX9_laysMost 107 = .ok (.iconst 1, 1) := by decide +kernel
theorem dX9_laysMost_108 : decode cX9_laysMost 108 = .ok (.aload_n 0, 1) := by decide +kernel
theorem dX9_laysMost_109 : decode cX9_laysMost 109 = .ok (.getfield 25, 3) := by decide +kernel
theorem dX9_laysMost_112 : decode cX9_laysMost 112 = .ok (.sipush 256, 3) := by decide +kernel
theorem dX9_laysMost_115 : decode cX9_laysMost 115 = .ok (.iload_n 1, 1) := by decide +kernel
theorem dX9_laysMost_116 : decode cX9_laysMost 116 = .ok (.iconst 1, 1) := by decide +kernel
theorem dX9_laysMost_117 : decode cX9_laysMost 117 = .ok (.iadd, 1) := by decide +kernel
theorem dX9_laysMost_118 : decode cX9_laysMost 118 = .ok (.imul, 1) := by decide +kernel
theorem dX9_laysMost_119 : decode cX9_laysMost 119 = .ok (.iload_n 2, 1) := by decide +kernel
theorem dX9_laysMost_120 : decode cX9_laysMost 120 = .ok (.iconst 1, 1) := by decide +kernel
theorem dX9_laysMost_121 : decode cX9_laysMost 121 = .ok (.iload 4, 2) := by decide +kernel
theorem dX9_laysMost_123 : decode cX9_laysMost 123 = .ok (.ishl, 1) := by decide +kernel
theorem dX9_laysMost_124 : decode cX9_laysMost 124 = .ok (.ixor, 1) := by decide +kernel
theorem dX9_laysMost_125 : decode cX9_laysMost 125 = .ok (.iadd, 1) := by decide +kernel
theorem dX9_laysMost_126 : decode cX9_laysMost 126 = .ok (.iaload, 1) := by decide +kernel
theorem dX9_laysMost_127 : decode cX9_laysMost 127 = .ok (.iadd, 1) := by decide +kernel
theorem dX9_laysMost_128 : decode cX9_laysMost 128 = .ok (.goto 4, 3) := by decide +kernel
theorem dX9_laysMost_131 : decode cX9_laysMost 131 = .ok (.iconst 0, 1) := by decide +kernel
theorem dX9_laysMost_132 : decode cX9_laysMost 132 = .ok (.istore 5, 2) := by decide +kernel
theorem dX9_laysMost_134 : decode cX9_laysMost 134 = .ok (.iload 5, 2) := by decide +kernel
theorem dX9_laysMost_136 : decode cX9_laysMost 136 = .ok (.iload_n 3, 1) := by decide +kernel
theorem dX9_laysMost_137 : decode cX9_laysMost 137 = .ok (.if_icmp .le 8, 3) := by decide +kernel
theorem dX9_laysMost_140 : decode cX9_laysMost 140 = .ok (.iload 5, 2) := by decide +kernel
theorem dX9_laysMost_142 : decode cX9_laysMost 142 = .ok (.goto 4, 3) := by decide +kernel
theorem dX9_laysMost_145 : decode cX9_laysMost 145 = .ok (.iload_n 3, 1) := by decide +kernel
theorem dX9_laysMost_146 : decode cX9_laysMost 146 = .ok (.istore_n 3, 1) := by decide +kernel
theorem dX9_laysMost_147 : decode cX9_laysMost 147 = .ok (.iinc 4 1, 3) := by decide +kernel
theorem dX9_laysMost_150 : decode cX9_laysMost 150 = .ok (.goto (-75), 3) := by decide +kernel
theorem dX9_laysMost_153 : decode cX9_laysMost 153 = .ok (.aload_n 0, 1) := by decide +kernel
theorem dX9_laysMost_154 : decode cX9_laysMost 154 = .ok (.getfield 25, 3) := by decide +kernel
theorem dX9_laysMost_157 : decode cX9_laysMost 157 = .ok (.sipush 256, 3) := by decide +kernel
theorem dX9_laysMost_160 : decode cX9_laysMost 160 = .ok (.iload_n 1, 1) := by decide +kernel
theorem dX9_laysMost_161 : decode cX9_laysMost 161 = .ok (.imul, 1) := by decide +kernel
theorem dX9_laysMost_162 : decode cX9_laysMost 162 = .ok (.iload_n 2, 1) := by decide +kernel
theorem dX9_laysMost_163 : decode cX9_laysMost 163 = .ok (.iadd, 1) := by decide +kernel
theorem dX9_laysMost_164 : decode cX9_laysMost 164 = .ok (.iload_n 3, 1) := by decide +kernel
theorem dX9_laysMost_165 : decode cX9_laysMost 165 = .ok (.iastore, 1) := by decide +kernel
theorem dX9_laysMost_166 : decode cX9_laysMost 166 = .ok (.iinc 2 1, 3) := by decide +kernel
theorem dX9_laysMost_169 : decode cX9_laysMost 169 = .ok (.goto (-119), 3) := by decide +kernel
theorem dX9_laysMost_172 : decode cX9_laysMost 172 = .ok (.iinc 1 (-1), 3) := by decide +kernel
theorem dX9_laysMost_175 : decode cX9_laysMost 175 = .ok (.goto (-131), 3) := by decide +kernel
theorem dX9_laysMost_178 : decode cX9_laysMost 178 = .ok (.return_, 1) := by decide +kernel
theorem dX9_covered_0 : decode cX9_covered 0 = .ok (.aload_n 0, 1) := by decide +kernel
theorem dX9_covered_1 : decode cX9_covered 1 = .ok (.iconst 0, 1) := by decide +kernel
theorem dX9_covered_2 : decode cX9_covered 2 = .ok (.putfield 38, 3) := by decide +kernel
theorem dX9_covered_5 : decode cX9_covered 5 = .ok (.aload_n 0, 1) := by decide +kernel
theorem dX9_covered_6 : decode cX9_covered 6 = .ok (.invokevirtual 203, 3) := by decide +kernel
theorem dX9_covered_9 : decode cX9_covered 9 = .ok (.aload_n 0, 1) := by decide +kernel
theorem dX9_covered_10 : decode cX9_covered 10 = .ok (.getfield 25, 3) := by decide +kernel
theorem dX9_covered_13 : decode cX9_covered 13 = .ok (.sipush 255, 3) := by decide +kernel
theorem dX9_covered_16 : decode cX9_covered 16 = .ok (.iaload, 1) := by decide +kernel
theorem dX9_covered_17 : decode cX9_covered 17 = .ok (.ireturn, 1) := by decide +kernel
theorem dX9_taker_0 : decode cX9_taker 0 = .ok (.aload_n 0, 1) := by decide +kernel
theorem dX9_taker_1 : decode cX9_taker 1 = .ok (.invokevirtual 203, 3) := by decide +kernel
theorem dX9_taker_4 : decode cX9_taker 4 = .ok (.sipush 255, 3) := by decide +kernel
theorem dX9_taker_7 : decode cX9_taker 7 = .ok (.istore_n 2, 1) := by decide +kernel
theorem dX9_taker_8 : decode cX9_taker 8 = .ok (.iconst (-1), 1) := by decide +kernel
theorem dX9_taker_9 : decode cX9_taker 9 = .ok (.istore_n 3, 1) := by decide +kernel
theorem dX9_taker_10 : decode cX9_taker 10 = .ok (.iconst 0, 1) := by decide +kernel
theorem dX9_taker_11 : decode cX9_taker 11 = .ok (.istore 4, 2) := by decide +kernel
theorem dX9_taker_13 : decode cX9_taker 13 = .ok (.iload 4, 2) := by decide +kernel
theorem dX9_taker_15 : decode cX9_taker 15 = .ok (.iload_n 1, 1) := by decide +kernel
theorem dX9_taker_16 : decode cX9_taker 16 = .ok (.if_icmp .gt 126, 3) := by decide +kernel
theorem dX9_taker_19 : decode cX9_taker 19 = .ok (.iconst (-1), 1) := by decide +kernel
theorem dX9_taker_20 : decode cX9_taker 20 = .ok (.istore_n 3, 1) := by decide +kernel
theorem dX9_taker_21 : decode cX9_taker 21 = .ok (.aload_n 0, 1) := by decide +kernel
theorem dX9_taker_22 : decode cX9_taker 22 = .ok (.sipush 284, 3) := by decide +kernel
theorem dX9_taker_25 : decode cX9_taker 25 = .ok (.invokevirtual 66, 3) := by decide +kernel
theorem dX9_taker_28 : decode cX9_taker 28 = .ok (.iconst 1, 1) := by decide +kernel
theorem dX9_taker_29 : decode cX9_taker 29 = .ok (.isub, 1) := by decide +kernel
theorem dX9_taker_30 : decode cX9_taker 30 = .ok (.istore 5, 2) := by decide +kernel
theorem dX9_taker_32 : decode cX9_taker 32 = .ok (.iload 5, 2) := by decide +kernel
theorem dX9_taker_34 : decode cX9_taker 34 = .ok (.ifCond .lt 87, 3) := by decide +kernel
theorem dX9_taker_37 : decode cX9_taker 37 = .ok (.iload_n 2, 1) := by decide +kernel
theorem dX9_taker_38 : decode cX9_taker 38 = .ok (.iload 5, 2) := by decide +kernel
theorem dX9_taker_40 : decode cX9_taker 40 = .ok (.ishr, 1) := by decide +kernel
theorem dX9_taker_41 : decode cX9_taker 41 = .ok (.iconst 1, 1) := by decide +kernel
theorem dX9_taker_42 : decode cX9_taker 42 = .ok (.iand, 1) := by decide +kernel
theorem dX9_taker_43 : decode cX9_taker 43 = .ok (.iconst 1, 1) := by decide +kernel
theorem dX9_taker_44 : decode cX9_taker 44 = .ok (.if_icmp .ne 56, 3) := by decide +kernel
theorem dX9_taker_47 : decode cX9_taker 47 = .ok (.aload_n 0, 1) := by decide +kernel
theorem dX9_taker_48 : decode cX9_taker 48 = .ok (.iload 5, 2) := by decide +kernel
theorem dX9_taker_50 : decode cX9_taker 50 = .ok (.iload 4, 2) := by decide +kernel
theorem dX9_taker_52 : decode cX9_taker 52 = .ok (.invokevirtual 200, 3) := by decide +kernel
theorem dX9_taker_55 : decode cX9_taker 55 = .ok (.ifCond .eq 45, 3) := by decide +kernel
theorem dX9_taker_58 : decode cX9_taker 58 = .ok (.iconst 1, 1) := by decide +kernel
theorem dX9_taker_59 : decode cX9_taker 59 = .ok (.aload_n 0, 1) := by decide +kernel
theorem dX9_taker_60 : decode cX9_taker 60 = .ok (.getfield 25, 3) := by decide +kernel
theorem dX9_taker_63 : decode cX9_taker 63 = .ok (.sipush 256, 3) := by decide +kernel
theorem dX9_taker_66 : decode cX9_taker 66 = .ok (.iload 4, 2) := by decide +kernel
theorem dX9_taker_68 : decode cX9_taker 68 = .ok (.iconst 1, 1) := by decide +kernel
theorem dX9_taker_69 : decode cX9_taker 69 = .ok (.iadd, 1) := by decide +kernel
theorem dX9_taker_70 : decode cX9_taker 70 = .ok (.imul, 1) := by decide +kernel
theorem dX9_taker_71 : decode cX9_taker 71 = .ok (.iload_n 2, 1) := by decide +kernel
theorem dX9_taker_72 : decode cX9_taker 72 = .ok (.iconst 1, 1) := by decide +kernel
theorem dX9_taker_73 : decode cX9_taker 73 = .ok (.iload 5, 2) := by decide +kernel
theorem dX9_taker_75 : decode cX9_taker 75 = .ok (.ishl, 1) := by decide +kernel
theorem dX9_taker_76 : decode cX9_taker 76 = .ok (.ixor, 1) := by decide +kernel
theorem dX9_taker_77 : decode cX9_taker 77 = .ok (.iadd, 1) := by decide +kernel
theorem dX9_taker_78 : decode cX9_taker 78 = .ok (.iaload, 1) := by decide +kernel
theorem dX9_taker_79 : decode cX9_taker 79 = .ok (.iadd, 1) := by decide +kernel
theorem dX9_taker_80 : decode cX9_taker 80 = .ok (.aload_n 0, 1) := by decide +kernel
theorem dX9_taker_81 : decode cX9_taker 81 = .ok (.getfield 25, 3) := by decide +kernel
theorem dX9_taker_84 : decode cX9_taker 84 = .ok (.sipush 256, 3) := by decide +kernel
theorem dX9_taker_87 : decode cX9_taker 87 = .ok (.iload 4, 2) := by decide +kernel
theorem dX9_taker_89 : decode cX9_taker 89 = .ok (.imul, 1) := by decide +kernel
theorem dX9_taker_90 : decode cX9_taker 90 = .ok (.iload_n 2, 1) := by decide +kernel
theorem dX9_taker_91 : decode cX9_taker 91 = .ok (.iadd, 1) := by decide +kernel
theorem dX9_taker_92 : decode cX9_taker 92 = .ok (.iaload, 1) := by decide +kernel
theorem dX9_taker_93 : decode cX9_taker 93 = .ok (.if_icmp .ne 7, 3) := by decide +kernel
theorem dX9_taker_96 : decode cX9_taker 96 = .ok (.iconst 1, 1) := by decide +kernel
theorem dX9_taker_97 : decode cX9_taker 97 = .ok (.goto 4, 3) := by decide +kernel
theorem dX9_taker_100 : decode cX9_taker 100 = .ok (.iconst 0, 1) := by decide +kernel
theorem dX9_taker_101 : decode cX9_taker 101 = .ok (.istore 6, 2) := by decide +kernel
theorem dX9_taker_103 : decode cX9_taker 103 = .ok (.iload 6, 2) := by decide +kernel
theorem dX9_taker_105 : decode cX9_taker 105 = .ok (.ifCond .eq 8, 3) := by decide +kernel
theorem dX9_taker_108 : decode cX9_taker 108 = .ok (.iload 5, 2) := by decide +kernel
theorem dX9_taker_110 : decode cX9_taker 110 = .ok (.goto 4, 3) := by decide +kernel
theorem dX9_taker_113 : decode cX9_taker 113 = .ok (.iload_n 3, 1) := by decide +kernel
theorem dX9_taker_114 : decode cX9_taker 114 = .ok (.istore_n 3, 1) := by decide +kernel
theorem dX9_taker_115 : decode cX9_taker 115 = .ok (.iinc 5 (-1), 3) := by decide +kernel
theorem dX9_taker_118 : decode cX9_taker 118 = .ok (.goto (-86), 3) := by decide +kernel
theorem dX9_taker_121 : decode cX9_taker 121 = .ok (.iload_n 2, 1) := by decide +kernel
theorem dX9_taker_122 : decode cX9_taker 122 = .ok (.iload_n 3, 1) := by decide +kernel
theorem dX9_taker_123 : decode cX9_taker 123 = .ok (.iconst (-1), 1) := by decide +kernel
theorem dX9_taker_124 : decode cX9_taker 124 = .ok (.if_icmp .ne 7, 3) := by decide +kernel
theorem dX9_taker_127 : decode cX9_taker 127 = .ok (.iconst 0, 1) := by decide +kernel
theorem dX9_taker_128 : decode cX9_taker 128 = .ok (.goto 6, 3) := by decide +kernel
theorem dX9_taker_131 : decode cX9_taker 131 = .ok (.iconst 1, 1) := by decide +kernel
theorem dX9_taker_132 : decode cX9_taker 132 = .ok (.iload_n 3, 1) := by decide +kernel
theorem dX9_taker_133 : decode cX9_taker 133 = .ok (.ishl, 1) := by decide +kernel
theorem dX9_taker_134 : decode cX9_taker 134 = .ok (.ixor, 1) := by decide +kernel
theorem dX9_taker_135 : decode cX9_taker 135 = .ok (.istore_n 2, 1) := by decide +kernel
theorem dX9_taker_136 : decode cX9_taker 136 = .ok (.iinc 4 1, 3) := by decide +kernel
theorem dX9_taker_139 : decode cX9_taker 139 = .ok (.goto (-126), 3) := by decide +kernel
theorem dX9_taker_142 : decode cX9_taker 142 = .ok (.iload_n 3, 1) := by decide +kernel
theorem dX9_taker_143 : decode cX9_taker 143 = .ok (.ireturn, 1) := by decide +kernel
theorem dX9_supporterOf_0 : decode cX9_supporterOf 0 = .ok (.aload_n 0, 1) := by decide +kernel
theorem dX9_supporterOf_1 : decode cX9_supporterOf 1 = .ok (.iload_n 1, 1) := by decide +kernel
theorem dX9_supporterOf_2 : decode cX9_supporterOf 2 = .ok (.i2l, 1) := by decide +kernel
theorem dX9_supporterOf_3 : decode cX9_supporterOf 3 = .ok (.lconst 0, 1) := by decide +kernel
theorem dX9_supporterOf_4 : decode cX9_supporterOf 4 = .ok (.aload_n 0, 1) := by decide +kernel
theorem dX9_supporterOf_5 : decode cX9_supporterOf 5 = .ok (.sipush 301, 3) := by decide +kernel
theorem dX9_supporterOf_8 : decode cX9_supporterOf 8 = .ok (.invokevirtual 66, 3) := by decide +kernel
theorem dX9_supporterOf_11 : decode cX9_supporterOf 11 = .ok (.iconst 1, 1) := by decide +kernel
theorem dX9_supporterOf_12 : decode cX9_supporterOf 12 = .ok (.isub, 1) := by decide +kernel
theorem dX9_supporterOf_13 : decode cX9_supporterOf 13 = .ok (.i2l, 1) := by decide +kernel
theorem dX9_supporterOf_14 : decode cX9_supporterOf 14 = .ok (.invokestatic 44, 3) := by decide +kernel
theorem dX9_supporterOf_17 : decode cX9_supporterOf 17 = .ok (.ifCond .eq 7, 3) := by decide +kernel
theorem dX9_supporterOf_20 : decode cX9_supporterOf 20 = .ok (.iconst 0, 1) := by decide +kernel
theorem dX9_supporterOf_21 : decode cX9_supporterOf 21 = .ok (.goto 4, 3) := by decide +kernel
theorem dX9_supporterOf_24 : decode cX9_supporterOf 24 = .ok (.iconst 1, 1) := by decide +kernel
theorem dX9_supporterOf_25 : decode cX9_supporterOf 25 = .ok (.invokevirtual 55, 3) := by decide +kernel
theorem dX9_supporterOf_28 : decode cX9_supporterOf 28 = .ok (.ifCond .eq 7, 3) := by decide +kernel
theorem dX9_supporterOf_31 : decode cX9_supporterOf 31 = .ok (.iconst 0, 1) := by decide +kernel
theorem dX9_supporterOf_32 : decode cX9_supporterOf 32 = .ok (.goto 8, 3) := by decide +kernel
theorem dX9_supporterOf_35 : decode cX9_supporterOf 35 = .ok (.aload_n 0, 1) := by decide +kernel
theorem dX9_supporterOf_36 : decode cX9_supporterOf 36 = .ok (.iload_n 1, 1) := by decide +kernel
theorem dX9_supporterOf_37 : decode cX9_supporterOf 37 = .ok (.invokevirtual 206, 3) := by decide +kernel
theorem dX9_supporterOf_40 : decode cX9_supporterOf 40 = .ok (.ireturn, 1) := by decide +kernel
theorem dX9_mix_0 : decode cX9_mix 0 = .ok (.aload_n 0, 1) := by decide +kernel
theorem dX9_mix_1 : decode cX9_mix 1 = .ok (.ldc2_w 209, 3) := by decide +kernel
theorem dX9_mix_4 : decode cX9_mix 4 = .ok (.aload_n 0, 1) := by decide +kernel
theorem dX9_mix_5 : decode cX9_mix 5 = .ok (.getfield 211, 3) := by decide +kernel
theorem dX9_mix_8 : decode cX9_mix 8 = .ok (.lmul, 1) := by decide +kernel
theorem dX9_mix_9 : decode cX9_mix 9 = .ok (.lload_n 1, 1) := by decide +kernel
theorem dX9_mix_10 : decode cX9_mix 10 = .ok (.ladd, 1) := by decide +kernel
theorem dX9_mix_11 : decode cX9_mix 11 = .ok (.putfield 211, 3) := by decide +kernel
theorem dX9_mix_14 : decode cX9_mix 14 = .ok (.return_, 1) := by decide +kernel
theorem dX9_mixAll_0 : decode cX9_mixAll 0 = .ok (.iload_n 1, 1) := by decide +kernel
theorem dX9_mixAll_1 : decode cX9_mixAll 1 = .ok (.istore_n 3, 1) := by decide +kernel
theorem dX9_mixAll_2 : decode cX9_mixAll 2 = .ok (.iload_n 3, 1) := by decide +kernel
theorem dX9_mixAll_3 : decode cX9_mixAll 3 = .ok (.iload_n 1, 1) := by decide +kernel
theorem dX9_mixAll_4 : decode cX9_mixAll 4 = .ok (.iload_n 2, 1) := by decide +kernel
theorem dX9_mixAll_5 : decode cX9_mixAll 5 = .ok (.iadd, 1) := by decide +kernel
theorem dX9_mixAll_6 : decode cX9_mixAll 6 = .ok (.if_icmp .ge 19, 3) := by decide +kernel
theorem dX9_mixAll_9 : decode cX9_mixAll 9 = .ok (.aload_n 0, 1) := by decide +kernel
theorem dX9_mixAll_10 : decode cX9_mixAll 10 = .ok (.aload_n 0, 1) := by decide +kernel
theorem dX9_mixAll_11 : decode cX9_mixAll 11 = .ok (.getfield 7, 3) := by decide +kernel
theorem dX9_mixAll_14 : decode cX9_mixAll 14 = .ok (.iload_n 3, 1) := by decide +kernel
theorem dX9_mixAll_15 : decode cX9_mixAll 15 = .ok (.laload, 1) := by decide +kernel
theorem dX9_mixAll_16 : decode cX9_mixAll 16 = .ok (.invokevirtual 215, 3) := by decide +kernel
theorem dX9_mixAll_19 : decode cX9_mixAll 19 = .ok (.iinc 3 1, 3) := by decide +kernel
theorem dX9_mixAll_22 : decode cX9_mixAll 22 = .ok (.goto (-20), 3) := by decide +kernel
theorem dX9_mixAll_25 : decode cX9_mixAll 25 = .ok (.return_, 1) := by decide +kernel
theorem dX9_digest_0 : decode cX9_digest 0 = .ok (.aload_n 0, 1) := by decide +kernel
theorem dX9_digest_1 : decode cX9_digest 1 = .ok (.iconst 0, 1) := by decide +kernel
theorem dX9_digest_2 : decode cX9_digest 2 = .ok (.putfield 38, 3) := by decide +kernel
theorem dX9_digest_5 : decode cX9_digest 5 = .ok (.aload_n 0, 1) := by decide +kernel
theorem dX9_digest_6 : decode cX9_digest 6 = .ok (.ldc2_w 219, 3) := by decide +kernel
theorem dX9_digest_9 : decode cX9_digest 9 = .ok (.putfield 211, 3) := by decide +kernel
theorem dX9_digest_12 : decode cX9_digest 12 = .ok (.iconst 0, 1) := by decide +kernel
theorem dX9_digest_13 : decode cX9_digest 13 = .ok (.istore_n 1, 1) := by decide +kernel
theorem dX9_digest_14 : decode cX9_digest 14 = .ok (.iload_n 1, 1) := by decide +kernel
theorem dX9_digest_15 : decode cX9_digest 15 = .ok (.iconst 3, 1) := by decide +kernel
theorem dX9_digest_16 : decode cX9_digest 16 = .ok (.if_icmp .ge 53, 3) := by decide +kernel
theorem dX9_digest_19 : decode cX9_digest 19 = .ok (.aload_n 0, 1) := by decide +kernel
theorem dX9_digest_20 : decode cX9_digest 20 = .ok (.iconst 0, 1) := by decide +kernel
theorem dX9_digest_21 : decode cX9_digest 21 = .ok (.iconst 3, 1) := by decide +kernel
theorem dX9_digest_22 : decode cX9_digest 22 = .ok (.iload_n 1, 1) := by decide +kernel
theorem dX9_digest_23 : decode cX9_digest 23 = .ok (.imul, 1) := by decide +kernel
theorem dX9_digest_24 : decode cX9_digest 24 = .ok (.iadd, 1) := by decide +kernel
theorem dX9_digest_25 : decode cX9_digest 25 = .ok (.iconst 3, 1) := by decide +kernel
theorem dX9_digest_26 : decode cX9_digest 26 = .ok (.invokevirtual 221, 3) := by decide +kernel
theorem dX9_digest_29 : decode cX9_digest 29 = .ok (.aload_n 0, 1) := by decide +kernel
theorem dX9_digest_30 : decode cX9_digest 30 = .ok (.aload_n 0, 1) := by decide +kernel
theorem dX9_digest_31 : decode cX9_digest 31 = .ok (.iload_n 1, 1) := by decide +kernel
theorem dX9_digest_32 : decode cX9_digest 32 = .ok (.invokevirtual 95, 3) := by decide +kernel
theorem dX9_digest_35 : decode cX9_digest 35 = .ok (.aload_n 0, 1) := by decide +kernel
theorem dX9_digest_36 : decode cX9_digest 36 = .ok (.invokevirtual 98, 3) := by decide +kernel
theorem dX9_digest_39 : decode cX9_digest 39 = .ok (.iconst 0, 1) := by decide +kernel
theorem dX9_digest_40 : decode cX9_digest 40 = .ok (.invokestatic 101, 3) := by decide +kernel
theorem dX9_digest_43 : decode cX9_digest 43 = .ok (.invokevirtual 215, 3) := by decide +kernel
theorem dX9_digest_46 : decode cX9_digest 46 = .ok (.aload_n 0, 1) := by decide +kernel
theorem dX9_digest_47 : decode cX9_digest 47 = .ok (.aload_n 0, 1) := by decide +kernel
theorem dX9_digest_48 : decode cX9_digest 48 = .ok (.iload_n 1, 1) := by decide +kernel
theorem dX9_digest_49 : decode cX9_digest 49 = .ok (.invokevirtual 95, 3) := by decide +kernel
theorem dX9_digest_52 : decode cX9_digest 52 = .ok (.aload_n 0, 1) := by decide +kernel
theorem dX9_digest_53 : decode cX9_digest 53 = .ok (.invokevirtual 98, 3) := by decide +kernel
theorem dX9_digest_56 : decode cX9_digest 56 = .ok (.iconst 1, 1) := by decide +kernel
theorem dX9_digest_57 : decode cX9_digest 57 = .ok (.invokestatic 101, 3) := by decide +kernel
theorem dX9_digest_60 : decode cX9_digest 60 = .ok (.invokevirtual 215, 3) := by decide +kernel
theorem dX9_digest_63 : decode cX9_digest 63 = .ok (.iinc 1 1, 3) := by decide +kernel
theorem dX9_digest_66 : decode cX9_digest 66 = .ok (.goto (-52), 3) := by decide +kernel
theorem dX9_digest_69 : decode cX9_digest 69 = .ok (.aload_n 0, 1) := by decide +kernel
theorem dX9_digest_70 : decode cX9_digest 70 = .ok (.aload_n 0, 1) := by decide +kernel
theorem dX9_digest_71 : decode cX9_digest 71 = .ok (.invokevirtual 108, 3) := by decide +kernel
theorem dX9_digest_74 : decode cX9_digest 74 = .ok (.ifCond .eq 7, 3) := by decide +kernel
theorem dX9_digest_77 : decode cX9_digest 77 = .ok (.lconst 1, 1) := by decide +kernel
theorem dX9_digest_78 : decode cX9_digest 78 = .ok (.goto 4, 3) := by decide +kernel
theorem dX9_digest_81 : decode cX9_digest 81 = .ok (.lconst 0, 1) := by decide +kernel
theorem dX9_digest_82 : decode cX9_digest 82 = .ok (.invokevirtual 215, 3) := by decide +kernel
theorem dX9_digest_85 : decode cX9_digest 85 = .ok (.aload_n 0, 1) := by decide +kernel
theorem dX9_digest_86 : decode cX9_digest 86 = .ok (.aload_n 0, 1) := by decide +kernel
theorem dX9_digest_87 : decode cX9_digest 87 = .ok (.invokevirtual 115, 3) := by decide +kernel
theorem dX9_digest_90 : decode cX9_digest 90 = .ok (.i2l, 1) := by decide +kernel
theorem dX9_digest_91 : decode cX9_digest 91 = .ok (.invokevirtual 215, 3) := by decide +kernel
theorem dX9_digest_94 : decode cX9_digest 94 = .ok (.aload_n 0, 1) := by decide +kernel
theorem dX9_digest_95 : decode cX9_digest 95 = .ok (.bipush 9, 2) := by decide +kernel
theorem dX9_digest_97 : decode cX9_digest 97 = .ok (.iconst 1, 1) := by decide +kernel
theorem dX9_digest_98 : decode cX9_digest 98 = .ok (.iconst 3, 1) := by decide +kernel
theorem dX9_digest_99 : decode cX9_digest 99 = .ok (.aload_n 0, 1) := by decide +kernel
theorem dX9_digest_100 : decode cX9_digest 100 = .ok (.bipush 9, 2) := by decide +kernel
theorem dX9_digest_102 : decode cX9_digest 102 = .ok (.invokevirtual 66, 3) := by decide +kernel
theorem dX9_digest_105 : decode cX9_digest 105 = .ok (.imul, 1) := by decide +kernel
theorem dX9_digest_106 : decode cX9_digest 106 = .ok (.iadd, 1) := by decide +kernel
theorem dX9_digest_107 : decode cX9_digest 107 = .ok (.invokevirtual 221, 3) := by decide +kernel
theorem dX9_digest_110 : decode cX9_digest 110 = .ok (.aload_n 0, 1) := by decide +kernel
theorem dX9_digest_111 : decode cX9_digest 111 = .ok (.bipush 34, 2) := by decide +kernel
theorem dX9_digest_113 : decode cX9_digest 113 = .ok (.iconst 1, 1) := by decide +kernel
theorem dX9_digest_114 : decode cX9_digest 114 = .ok (.aload_n 0, 1) := by decide +kernel
theorem dX9_digest_115 : decode cX9_digest 115 = .ok (.bipush 34, 2) := by decide +kernel
theorem dX9_digest_117 : decode cX9_digest 117 = .ok (.invokevirtual 66, 3) := by decide +kernel
theorem dX9_digest_120 : decode cX9_digest 120 = .ok (.iadd, 1) := by decide +kernel
theorem dX9_digest_121 : decode cX9_digest 121 = .ok (.invokevirtual 221, 3) := by decide +kernel
theorem dX9_digest_124 : decode cX9_digest 124 = .ok (.aload_n 0, 1) := by decide +kernel
theorem dX9_digest_125 : decode cX9_digest 125 = .ok (.aload_n 0, 1) := by decide +kernel
theorem dX9_digest_126 : decode cX9_digest 126 = .ok (.bipush 43, 2) := by decide +kernel
theorem dX9_digest_128 : decode cX9_digest 128 = .ok (.invokevirtual 66, 3) := by decide +kernel
theorem dX9_digest_131 : decode cX9_digest 131 = .ok (.i2l, 1) := by decide +kernel
theorem dX9_digest_132 : decode cX9_digest 132 = .ok (.invokevirtual 215, 3) := by decide +kernel
theorem dX9_digest_135 : decode cX9_digest 135 = .ok (.iconst 0, 1) := by decide +kernel
theorem dX9_digest_136 : decode cX9_digest 136 = .ok (.istore_n 1, 1) := by decide +kernel
theorem dX9_digest_137 : decode cX9_digest 137 = .ok (.iload_n 1, 1) := by decide +kernel
theorem dX9_digest_138 : decode cX9_digest 138 = .ok (.aload_n 0, 1) := by decide +kernel
theorem dX9_digest_139 : decode cX9_digest 139 = .ok (.bipush 43, 2) := by decide +kernel
theorem dX9_digest_141 : decode cX9_digest 141 = .ok (.invokevirtual 66, 3) := by decide +kernel
theorem dX9_digest_144 : decode cX9_digest 144 = .ok (.if_icmp .ge 27, 3) := by decide +kernel
theorem dX9_digest_147 : decode cX9_digest 147 = .ok (.aload_n 0, 1) := by decide +kernel
theorem dX9_digest_148 : decode cX9_digest 148 = .ok (.aload_n 0, 1) := by decide +kernel
theorem dX9_digest_149 : decode cX9_digest 149 = .ok (.iload_n 1, 1) := by decide +kernel
theorem dX9_digest_150 : decode cX9_digest 150 = .ok (.iconst 0, 1) := by decide +kernel
theorem dX9_digest_151 : decode cX9_digest 151 = .ok (.invokevirtual 125, 3) := by decide +kernel
theorem dX9_digest_154 : decode cX9_digest 154 = .ok (.iconst 3, 1) := by decide +kernel
theorem dX9_digest_155 : decode cX9_digest 155 = .ok (.aload_n 0, 1) := by decide +kernel
theorem dX9_digest_156 : decode cX9_digest 156 = .ok (.bipush 34, 2) := by decide +kernel
theorem dX9_digest_158 : decode cX9_digest 158 = .ok (.invokevirtual 66, 3) := by decide +kernel
theorem dX9_digest_161 : decode cX9_digest 161 = .ok (.imul, 1) := by decide +kernel
theorem dX9_digest_162 : decode cX9_digest 162 = .ok (.invokevirtual 221, 3) := by decide +kernel
theorem dX9_digest_165 : decode cX9_digest 165 = .ok (.iinc 1 1, 3) := by decide +kernel
theorem dX9_digest_168 : decode cX9_digest 168 = .ok (.goto (-31), 3) := by decide +kernel
theorem dX9_digest_171 : decode cX9_digest 171 = .ok (.aload_n 0, 1) := by decide +kernel
theorem dX9_digest_172 : decode cX9_digest 172 = .ok (.sipush 284, 3) := by decide +kernel
theorem dX9_digest_175 : decode cX9_digest 175 = .ok (.iconst 1, 1) := by decide +kernel
theorem dX9_digest_176 : decode cX9_digest 176 = .ok (.iconst 2, 1) := by decide +kernel
theorem dX9_digest_177 : decode cX9_digest 177 = .ok (.aload_n 0, 1) := by decide +kernel
theorem dX9_digest_178 : decode cX9_digest 178 = .ok (.sipush 284, 3) := by decide +kernel
theorem dX9_digest_181 : decode cX9_digest 181 = .ok (.invokevirtual 66, 3) := by decide +kernel
theorem dX9_digest_184 : decode cX9_digest 184 = .ok (.imul, 1) := by decide +kernel
theorem dX9_digest_185 : decode cX9_digest 185 = .ok (.iadd, 1) := by decide +kernel
theorem dX9_digest_186 : decode cX9_digest 186 = .ok (.invokevirtual 221, 3) := by decide +kernel
theorem dX9_digest_189 : decode cX9_digest 189 = .ok (.aload_n 0, 1) := by decide +kernel
theorem dX9_digest_190 : decode cX9_digest 190 = .ok (.aload_n 0, 1) := by decide +kernel
theorem dX9_digest_191 : decode cX9_digest 191 = .ok (.sipush 301, 3) := by decide +kernel
theorem dX9_digest_194 : decode cX9_digest 194 = .ok (.invokevirtual 66, 3) := by decide +kernel
theorem dX9_digest_197 : decode cX9_digest 197 = .ok (.i2l, 1) := by decide +kernel
theorem dX9_digest_198 : decode cX9_digest 198 = .ok (.invokevirtual 215, 3) := by decide +kernel
theorem dX9_digest_201 : decode cX9_digest 201 = .ok (.iconst 0, 1) := by decide +kernel
theorem dX9_digest_202 : decode cX9_digest 202 = .ok (.istore_n 1, 1) := by decide +kernel
theorem dX9_digest_203 : decode cX9_digest 203 = .ok (.iload_n 1, 1) := by decide +kernel
theorem dX9_digest_204 : decode cX9_digest 204 = .ok (.aload_n 0, 1) := by decide +kernel
theorem dX9_digest_205 : decode cX9_digest 205 = .ok (.sipush 301, 3) := by decide +kernel
theorem dX9_digest_208 : decode cX9_digest 208 = .ok (.invokevirtual 66, 3) := by decide +kernel
theorem dX9_digest_211 : decode cX9_digest 211 = .ok (.if_icmp .ge 31, 3) := by decide +kernel
theorem dX9_digest_214 : decode cX9_digest 214 = .ok (.aload_n 0, 1) := by decide +kernel
theorem dX9_digest_215 : decode cX9_digest 215 = .ok (.sipush 302, 3) := by decide +kernel
theorem dX9_digest_218 : decode cX9_digest 218 = .ok (.iconst 2, 1) := by decide +kernel
theorem dX9_digest_219 : decode cX9_digest 219 = .ok (.iload_n 1, 1) := by decide +kernel
theorem dX9_digest_220 : decode cX9_digest 220 = .ok (.imul, 1) := by decide +kernel
theorem dX9_digest_221 : decode cX9_digest 221 = .ok (.iadd, 1) := by decide +kernel
theorem dX9_digest_222 : decode cX9_digest 222 = .ok (.iconst 2, 1) := by decide +kernel
theorem dX9_digest_223 : decode cX9_digest 223 = .ok (.invokevirtual 221, 3) := by decide +kernel
theorem dX9_digest_226 : decode cX9_digest 226 = .ok (.aload_n 0, 1) := by decide +kernel
theorem dX9_digest_227 : decode cX9_digest 227 = .ok (.aload_n 0, 1) := by decide +kernel
theorem dX9_digest_228 : decode cX9_digest 228 = .ok (.iload_n 1, 1) := by decide +kernel
theorem dX9_digest_229 : decode cX9_digest 229 = .ok (.invokevirtual 206, 3) := by decide +kernel
theorem dX9_digest_232 : decode cX9_digest 232 = .ok (.i2l, 1) := by decide +kernel
theorem dX9_digest_233 : decode cX9_digest 233 = .ok (.invokevirtual 215, 3) := by decide +kernel
theorem dX9_digest_236 : decode cX9_digest 236 = .ok (.iinc 1 1, 3) := by decide +kernel
theorem dX9_digest_239 : decode cX9_digest 239 = .ok (.goto (-36), 3) := by decide +kernel
theorem dX9_digest_242 : decode cX9_digest 242 = .ok (.aload_n 0, 1) := by decide +kernel
theorem dX9_digest_243 : decode cX9_digest 243 = .ok (.aload_n 0, 1) := by decide +kernel
theorem dX9_digest_244 : decode cX9_digest 244 = .ok (.getfield 52, 3) := by decide +kernel
theorem dX9_digest_247 : decode cX9_digest 247 = .ok (.i2l, 1) := by decide +kernel
theorem dX9_digest_248 : decode cX9_digest 248 = .ok (.invokevirtual 215, 3) := by decide +kernel
theorem dX9_digest_251 : decode cX9_digest 251 = .ok (.aload_n 0, 1) := by decide +kernel
theorem dX9_digest_252 : decode cX9_digest 252 = .ok (.getfield 211, 3) := by decide +kernel
theorem dX9_digest_255 : decode cX9_digest 255 = .ok (.lreturn, 1) := by decide +kernel
