theorem dX0_init_0 : decode cX0_init 0 = .ok (.aload_n 0, 1) := by decide +kernel
theorem dX0_init_1 : decode cX0_init 1 = .ok (.invokespecial 3, 3) := by decide +kernel
theorem dX0_init_4 : decode cX0_init 4 = .ok (.aload_n 0, 1) := by decide +kernel
theorem dX0_init_5 : decode cX0_init 5 = .ok (.bipush 9, 2) := by decide +kernel
theorem dX0_init_7 : decode cX0_init 7 = .ok (.sipush 256, 3) := by decide +kernel
theorem dX0_init_10 : decode cX0_init 10 = .ok (.multianewarray 9 2, 4) := by decide +kernel
theorem dX0_init_14 : decode cX0_init 14 = .ok (.putfield 11, 3) := by decide +kernel
theorem dX0_init_17 : decode cX0_init 17 = .ok (.aload_n 0, 1) := by decide +kernel
theorem dX0_init_18 : decode cX0_init 18 = .ok (.bipush 8, 2) := by decide +kernel
theorem dX0_init_20 : decode cX0_init 20 = .ok (.newarray .int, 2) := by decide +kernel
theorem dX0_init_22 : decode cX0_init 22 = .ok (.putfield 16, 3) := by decide +kernel
theorem dX0_init_25 : decode cX0_init 25 = .ok (.return_, 1) := by decide +kernel
theorem dX0_solve_0 : decode cX0_solve 0 = .ok (.aload_n 0, 1) := by decide +kernel
theorem dX0_solve_1 : decode cX0_solve 1 = .ok (.aload_n 1, 1) := by decide +kernel
theorem dX0_solve_2 : decode cX0_solve 2 = .ok (.invokevirtual 20, 3) := by decide +kernel
theorem dX0_solve_5 : decode cX0_solve 5 = .ok (.aload_n 0, 1) := by decide +kernel
theorem dX0_solve_6 : decode cX0_solve 6 = .ok (.aload_n 0, 1) := by decide +kernel
theorem dX0_solve_7 : decode cX0_solve 7 = .ok (.getfield 11, 3) := by decide +kernel
theorem dX0_solve_10 : decode cX0_solve 10 = .ok (.iconst 0, 1) := by decide +kernel
theorem dX0_solve_11 : decode cX0_solve 11 = .ok (.aaload, 1) := by decide +kernel
theorem dX0_solve_12 : decode cX0_solve 12 = .ok (.iconst 0, 1) := by decide +kernel
theorem dX0_solve_13 : decode cX0_solve 13 = .ok (.iaload, 1) := by decide +kernel
theorem dX0_solve_14 : decode cX0_solve 14 = .ok (.putfield 24, 3) := by decide +kernel
theorem dX0_solve_17 : decode cX0_solve 17 = .ok (.iconst 0, 1) := by decide +kernel
theorem dX0_solve_18 : decode cX0_solve 18 = .ok (.istore_n 2, 1) := by decide +kernel
theorem dX0_solve_19 : decode cX0_solve 19 = .ok (.iconst 0, 1) := by decide +kernel
theorem dX0_solve_20 : decode cX0_solve 20 = .ok (.istore_n 3, 1) := by decide +kernel
theorem dX0_solve_21 : decode cX0_solve 21 = .ok (.iload_n 3, 1) := by decide +kernel
theorem dX0_solve_22 : decode cX0_solve 22 = .ok (.aload_n 1, 1) := by decide +kernel
theorem dX0_solve_23 : decode cX0_solve 23 = .ok (.getfield 28, 3) := by decide +kernel
theorem dX0_solve_26 : decode cX0_solve 26 = .ok (.if_icmp .ge 43, 3) := by decide +kernel
theorem dX0_solve_29 : decode cX0_solve 29 = .ok (.aload_n 0, 1) := by decide +kernel
theorem dX0_solve_30 : decode cX0_solve 30 = .ok (.getfield 16, 3) := by decide +kernel
theorem dX0_solve_33 : decode cX0_solve 33 = .ok (.iload_n 3, 1) := by decide +kernel
theorem dX0_solve_34 : decode cX0_solve 34 = .ok (.aload_n 0, 1) := by decide +kernel
theorem dX0_solve_35 : decode cX0_solve 35 = .ok (.aload_n 1, 1) := by decide +kernel
theorem dX0_solve_36 : decode cX0_solve 36 = .ok (.iload_n 3, 1) := by decide +kernel
theorem dX0_solve_37 : decode cX0_solve 37 = .ok (.iload_n 2, 1) := by decide +kernel
theorem dX0_solve_38 : decode cX0_solve 38 = .ok (.invokevirtual 33, 3) := by decide +kernel
theorem dX0_solve_41 : decode cX0_solve 41 = .ok (.iastore, 1) := by decide +kernel
theorem dX0_solve_42 : decode cX0_solve 42 = .ok (.aload_n 0, 1) := by decide +kernel
theorem dX0_solve_43 : decode cX0_solve 43 = .ok (.getfield 16, 3) := by decide +kernel
theorem dX0_solve_46 : decode cX0_solve 46 = .ok (.iload_n 3, 1) := by decide +kernel
theorem dX0_solve_47 : decode cX0_solve 47 = .ok (.iaload, 1) := by decide +kernel
theorem dX0_solve_48 : decode cX0_solve 48 = .ok (.iconst (-1), 1) := by decide +kernel
theorem dX0_solve_49 : decode cX0_solve 49 = .ok (.if_icmp .eq 14, 3) := by decide +kernel
theorem dX0_solve_52 : decode cX0_solve 52 = .ok (.iload_n 2, 1) := by decide +kernel
theorem dX0_solve_53 : decode cX0_solve 53 = .ok (.iconst 1, 1) := by decide +kernel
theorem dX0_solve_54 : decode cX0_solve 54 = .ok (.aload_n 0, 1) := by decide +kernel
theorem dX0_solve_55 : decode cX0_solve 55 = .ok (.getfield 16, 3) := by decide +kernel
theorem dX0_solve_58 : decode cX0_solve 58 = .ok (.iload_n 3, 1) := by decide +kernel
theorem dX0_solve_59 : decode cX0_solve 59 = .ok (.iaload, 1) := by decide +kernel
theorem dX0_solve_60 : decode cX0_solve 60 = .ok (.ishl, 1) := by decide +kernel
theorem dX0_solve_61 : decode cX0_solve 61 = .ok (.ior, 1) := by decide +kernel
theorem dX0_solve_62 : decode cX0_solve 62 = .ok (.istore_n 2, 1) := by decide +kernel
theorem dX0_solve_63 : decode cX0_solve 63 = .ok (.iinc 3 1, 3) := by decide +kernel
theorem dX0_solve_66 : decode cX0_solve 66 = .ok (.goto (-45), 3) := by decide +kernel
theorem dX0_solve_69 : decode cX0_solve 69 = .ok (.return_, 1) := by decide +kernel
theorem dX0_fill_0 : decode cX0_fill 0 = .ok (.iconst 1, 1) := by decide +kernel
theorem dX0_fill_1 : decode cX0_fill 1 = .ok (.aload_n 1, 1) := by decide +kernel
theorem dX0_fill_2 : decode cX0_fill 2 = .ok (.getfield 37, 3) := by decide +kernel
theorem dX0_fill_5 : decode cX0_fill 5 = .ok (.ishl, 1) := by decide +kernel
theorem dX0_fill_6 : decode cX0_fill 6 = .ok (.istore_n 2, 1) := by decide +kernel
theorem dX0_fill_7 : decode cX0_fill 7 = .ok (.iconst 0, 1) := by decide +kernel
theorem dX0_fill_8 : decode cX0_fill 8 = .ok (.istore_n 3, 1) := by decide +kernel
theorem dX0_fill_9 : decode cX0_fill 9 = .ok (.iload_n 3, 1) := by decide +kernel
theorem dX0_fill_10 : decode cX0_fill 10 = .ok (.iload_n 2, 1) := by decide +kernel
theorem dX0_fill_11 : decode cX0_fill 11 = .ok (.if_icmp .ge 21, 3) := by decide +kernel
theorem dX0_fill_14 : decode cX0_fill 14 = .ok (.aload_n 0, 1) := by decide +kernel
theorem dX0_fill_15 : decode cX0_fill 15 = .ok (.getfield 11, 3) := by decide +kernel
theorem dX0_fill_18 : decode cX0_fill 18 = .ok (.aload_n 1, 1) := by decide +kernel
theorem dX0_fill_19 : decode cX0_fill 19 = .ok (.getfield 28, 3) := by decide +kernel
theorem dX0_fill_22 : decode cX0_fill 22 = .ok (.aaload, 1) := by decide +kernel
theorem dX0_fill_23 : decode cX0_fill 23 = .ok (.iload_n 3, 1) := by decide +kernel
theorem dX0_fill_24 : decode cX0_fill 24 = .ok (.iconst 0, 1) := by decide +kernel
theorem dX0_fill_25 : decode cX0_fill 25 = .ok (.iastore, 1) := by decide +kernel
theorem dX0_fill_26 : decode cX0_fill 26 = .ok (.iinc 3 1, 3) := by decide +kernel
theorem dX0_fill_29 : decode cX0_fill 29 = .ok (.goto (-20), 3) := by decide +kernel
theorem dX0_fill_32 : decode cX0_fill 32 = .ok (.aload_n 1, 1) := by decide +kernel
theorem dX0_fill_33 : decode cX0_fill 33 = .ok (.getfield 28, 3) := by decide +kernel
theorem dX0_fill_36 : decode cX0_fill 36 = .ok (.iconst 1, 1) := by decide +kernel
theorem dX0_fill_37 : decode cX0_fill 37 = .ok (.isub, 1) := by decide +kernel
theorem dX0_fill_38 : decode cX0_fill 38 = .ok (.istore_n 3, 1) := by decide +kernel
theorem dX0_fill_39 : decode cX0_fill 39 = .ok (.iload_n 3, 1) := by decide +kernel
theorem dX0_fill_40 : decode cX0_fill 40 = .ok (.ifCond .lt 41, 3) := by decide +kernel
theorem dX0_fill_43 : decode cX0_fill 43 = .ok (.iconst 0, 1) := by decide +kernel
theorem dX0_fill_44 : decode cX0_fill 44 = .ok (.istore 4, 2) := by decide +kernel
theorem dX0_fill_46 : decode cX0_fill 46 = .ok (.iload 4, 2) := by decide +kernel
theorem dX0_fill_48 : decode cX0_fill 48 = .ok (.iload_n 2, 1) := by decide +kernel
theorem dX0_fill_49 : decode cX0_fill 49 = .ok (.if_icmp .ge 26, 3) := by decide +kernel
theorem dX0_fill_52 : decode cX0_fill 52 = .ok (.aload_n 0, 1) := by decide +kernel
theorem dX0_fill_53 : decode cX0_fill 53 = .ok (.getfield 11, 3) := by decide +kernel
theorem dX0_fill_56 : decode cX0_fill 56 = .ok (.iload_n 3, 1) := by decide +kernel
theorem dX0_fill_57 : decode cX0_fill 57 = .ok (.aaload, 1) := by decide +kernel
theorem dX0_fill_58 : decode cX0_fill 58 = .ok (.iload 4, 2) := by decide +kernel
theorem dX0_fill_60 : decode cX0_fill 60 = .ok (.aload_n 0, 1) := by decide +kernel
theorem dX0_fill_61 : decode cX0_fill 61 = .ok (.aload_n 1, 1) := by decide +kernel
theorem dX0_fill_62 : decode cX0_fill 62 = .ok (.iload_n 3, 1) := by decide +kernel
theorem dX0_fill_63 : decode cX0_fill 63 = .ok (.iload 4, 2) := by decide +kernel
theorem dX0_fill_65 : decode cX0_fill 65 = .ok (.invokevirtual 40, 3) := by decide +kernel
theorem dX0_fill_68 : decode cX0_fill 68 = .ok (.iastore, 1) := by decide +kernel
theorem dX0_fill_69 : decode cX0_fill 69 = .ok (.iinc 4 1, 3) := by decide +kernel
theorem dX0_fill_72 : decode cX0_fill 72 = .ok (.goto (-26), 3) := by decide +kernel
theorem dX0_fill_75 : decode cX0_fill 75 = .ok (.iinc 3 (-1), 3) := by decide +kernel
theorem dX0_fill_78 : decode cX0_fill 78 = .ok (.goto (-39), 3) := by decide +kernel
theorem dX0_fill_81 : decode cX0_fill 81 = .ok (.return_, 1) := by decide +kernel
theorem dX0_mostFrom_0 : decode cX0_mostFrom 0 = .ok (.aload_n 0, 1) := by decide +kernel
theorem dX0_mostFrom_1 : decode cX0_mostFrom 1 = .ok (.getfield 11, 3) := by decide +kernel
theorem dX0_mostFrom_4 : decode cX0_mostFrom 4 = .ok (.iload_n 2, 1) := by decide +kernel
theorem dX0_mostFrom_5 : decode cX0_mostFrom 5 = .ok (.iconst 1, 1) := by decide +kernel
theorem dX0_mostFrom_6 : decode cX0_mostFrom 6 = .ok (.iadd, 1) := by decide +kernel
theorem dX0_mostFrom_7 : decode cX0_mostFrom 7 = .ok (.aaload, 1) := by decide +kernel
theorem dX0_mostFrom_8 : decode cX0_mostFrom 8 = .ok (.iload_n 3, 1) := by decide +kernel
theorem dX0_mostFrom_9 : decode cX0_mostFrom 9 = .ok (.iaload, 1) := by decide +kernel
theorem dX0_mostFrom_10 : decode cX0_mostFrom 10 = .ok (.istore 4, 2) := by decide +kernel
theorem dX0_mostFrom_12 : decode cX0_mostFrom 12 = .ok (.iconst 0, 1) := by decide +kernel
theorem dX0_mostFrom_13 : decode cX0_mostFrom 13 = .ok (.istore 5, 2) := by decide +kernel
theorem dX0_mostFrom_15 : decode cX0_mostFrom 15 = .ok (.iload 5, 2) := by decide +kernel
theorem dX0_mostFrom_17 : decode cX0_mostFrom 17 = .ok (.aload_n 1, 1) := by decide +kernel
theorem dX0_mostFrom_18 : decode cX0_mostFrom 18 = .ok (.getfield 37, 3) := by decide +kernel
theorem dX0_mostFrom_21 : decode cX0_mostFrom 21 = .ok (.if_icmp .ge 52, 3) := by decide +kernel
theorem dX0_mostFrom_24 : decode cX0_mostFrom 24 = .ok (.iload_n 3, 1) := by decide +kernel
theorem dX0_mostFrom_25 : decode cX0_mostFrom 25 = .ok (.iload 5, 2) := by decide +kernel
theorem dX0_mostFrom_27 : decode cX0_mostFrom 27 = .ok (.invokestatic 43, 3) := by decide +kernel
theorem dX0_mostFrom_30 : decode cX0_mostFrom 30 = .ok (.ifCond .eq 37, 3) := by decide +kernel
theorem dX0_mostFrom_33 : decode cX0_mostFrom 33 = .ok (.aload_n 1, 1) := by decide +kernel
theorem dX0_mostFrom_34 : decode cX0_mostFrom 34 = .ok (.iload 5, 2) := by decide +kernel
theorem dX0_mostFrom_36 : decode cX0_mostFrom 36 = .ok (.iload_n 2, 1) := by decide +kernel
theorem dX0_mostFrom_37 : decode cX0_mostFrom 37 = .ok (.invokevirtual 47, 3) := by decide +kernel
theorem dX0_mostFrom_40 : decode cX0_mostFrom 40 = .ok (.ifCond .eq 27, 3) := by decide +kernel
theorem dX0_mostFrom_43 : decode cX0_mostFrom 43 = .ok (.iload 4, 2) := by decide +kernel
theorem dX0_mostFrom_45 : decode cX0_mostFrom 45 = .ok (.iconst 1, 1) := by decide +kernel
theorem dX0_mostFrom_46 : decode cX0_mostFrom 46 = .ok (.aload_n 0, 1) := by decide +kernel
theorem dX0_mostFrom_47 : decode cX0_mostFrom 47 = .ok (.getfield 11, 3) := by decide +kernel
theorem dX0_mostFrom_50 : decode cX0_mostFrom 50 = .ok (.iload_n 2, 1) := by decide +kernel
theorem dX0_mostFrom_51 : decode cX0_mostFrom 51 = .ok (.iconst 1, 1) := by decide +kernel
theorem dX0_mostFrom_52 : decode cX0_mostFrom 52 = .ok (.iadd, 1) := by decide +kernel
theorem dX0_mostFrom_53 : decode cX0_mostFrom 53 = .ok (.aaload, 1) := by decide +kernel
theorem dX0_mostFrom_54 : decode cX0_mostFrom 54 = .ok (.iload_n 3, 1) := by decide +kernel
theorem dX0_mostFrom_55 : decode cX0_mostFrom 55 = .ok (.iconst 1, 1) := by decide +kernel
theorem dX0_mostFrom_56 : decode cX0_mostFrom 56 = .ok (.iload 5, 2) := by decide +kernel
theorem dX0_mostFrom_58 : decode cX0_mostFrom 58 = .ok (.ishl, 1) := by decide +kernel
theorem dX0_mostFrom_59 : decode cX0_mostFrom 59 = .ok (.ior, 1) := by decide +kernel
theorem dX0_mostFrom_60 : decode cX0_mostFrom 60 = .ok (.iaload, 1) := by decide +kernel
theorem dX0_mostFrom_61 : decode cX0_mostFrom 61 = .ok (.iadd, 1) := by decide +kernel
theorem dX0_mostFrom_62 : decode cX0_mostFrom 62 = .ok (.invokestatic 50, 3) := by decide +kernel
theorem dX0_mostFrom_65 : decode cX0_mostFrom 65 = .ok (.istore 4, 2) := by decide +kernel
theorem dX0_mostFrom_67 : decode cX0_mostFrom 67 = .ok (.iinc 5 1, 3) := by decide +kernel
theorem dX0_mostFrom_70 : decode cX0_mostFrom 70 = .ok (.goto (-55), 3) := by decide +kernel
theorem dX0_mostFrom_73 : decode cX0_mostFrom 73 = .ok (.iload 4, 2) := by decide +kernel
theorem dX0_mostFrom_75 : decode cX0_mostFrom 75 = .ok (.ireturn, 1) := by decide +kernel
theorem dX0_firstTaker_0 : decode cX0_firstTaker 0 = .ok (.iconst 0, 1) := by decide +kernel
theorem dX0_firstTaker_1 : decode cX0_firstTaker 1 = .ok (.istore 4, 2) := by decide +kernel
theorem dX0_firstTaker_3 : decode cX0_firstTaker 3 = .ok (.iload 4, 2) := by decide +kernel
theorem dX0_firstTaker_5 : decode cX0_firstTaker 5 = .ok (.aload_n 1, 1) := by decide +kernel
theorem dX0_firstTaker_6 : decode cX0_firstTaker 6 = .ok (.getfield 37, 3) := by decide +kernel
theorem dX0_firstTaker_9 : decode cX0_firstTaker 9 = .ok (.if_icmp .ge 59, 3) := by decide +kernel
theorem dX0_firstTaker_12 : decode cX0_firstTaker 12 = .ok (.iload_n 3, 1) := by decide +kernel
theorem dX0_firstTaker_13 : decode cX0_firstTaker 13 = .ok (.iload 4, 2) := by decide +kernel
theorem dX0_firstTaker_15 : decode cX0_firstTaker 15 = .ok (.invokestatic 43, 3) := by decide +kernel
theorem dX0_firstTaker_18 : decode cX0_firstTaker 18 = .ok (.ifCond .eq 44, 3) := by decide +kernel
theorem dX0_firstTaker_21 : decode cX0_firstTaker 21 = .ok (.aload_n 1, 1) := by decide +kernel
theorem dX0_firstTaker_22 : decode cX0_firstTaker 22 = .ok (.iload 4, 2) := by decide +kernel
theorem dX0_firstTaker_24 : decode cX0_firstTaker 24 = .ok (.iload_n 2, 1) := by decide +kernel
theorem dX0_firstTaker_25 : decode cX0_firstTaker 25 = .ok (.invokevirtual 47, 3) := by decide +kernel
theorem dX0_firstTaker_28 : decode cX0_firstTaker 28 = .ok (.ifCond .eq 34, 3) := by decide +kernel
theorem dX0_firstTaker_31 : decode cX0_firstTaker 31 = .ok (.iconst 1, 1) := by decide +kernel
theorem dX0_firstTaker_32 : decode cX0_firstTaker 32 = .ok (.aload_n 0, 1) := by decide +kernel
theorem dX0_firstTaker_33 : decode cX0_firstTaker 33 = .ok (.getfield 11, 3) := by decide +kernel
theorem dX0_firstTaker_36 : decode cX0_firstTaker 36 = .ok (.iload_n 2, 1) := by decide +kernel
theorem dX0_firstTaker_37 : decode cX0_firstTaker 37 = .ok (.iconst 1, 1) := by decide +kernel
theorem dX0_firstTaker_38 : decode cX0_firstTaker 38 = .ok (.iadd, 1) := by decide +kernel
theorem dX0_firstTaker_39 : decode cX0_firstTaker 39 = .ok (.aaload, 1) := by decide +kernel
theorem dX0_firstTaker_40 : decode cX0_firstTaker 40 = .ok (.iload_n 3, 1) := by decide +kernel
theorem dX0_firstTaker_41 : decode cX0_firstTaker 41 = .ok (.iconst 1, 1) := by decide +kernel
theorem dX0_firstTaker_42 : decode cX0_firstTaker 42 = .ok (.iload 4, 2) := by decide +kernel
theorem dX0_firstTaker_44 : decode cX0_firstTaker 44 = .ok (.ishl, 1) := by decide +kernel
theorem dX0_firstTaker_45 : decode cX0_firstTaker 45 = .ok (.ior, 1) := by decide +kernel
theorem dX0_firstTaker_46 : decode cX0_firstTaker 46 = .ok (.iaload, 1) := by decide +kernel
theorem dX0_firstTaker_47 : decode cX0_firstTaker 47 = .ok (.iadd, 1) := by decide +kernel
theorem dX0_firstTaker_48 : decode cX0_firstTaker 48 = .ok (.aload_n 0, 1) := by decide +kernel
theorem dX0_firstTaker_49 : decode cX0_firstTaker 49 = .ok (.getfield 11, 3) := by decide +kernel
theorem dX0_firstTaker_52 : decode cX0_firstTaker 52 = .ok (.iload_n 2, 1) := by decide +kernel
theorem dX0_firstTaker_53 : decode cX0_firstTaker 53 = .ok (.aaload, 1) := by decide +kernel
theorem dX0_firstTaker_54 : decode cX0_firstTaker 54 = .ok (.iload_n 3, 1) := by decide +kernel
theorem dX0_firstTaker_55 : decode cX0_firstTaker 55 = .ok (.iaload, 1) := by decide +kernel
theorem dX0_firstTaker_56 : decode cX0_firstTaker 56 = .ok (.if_icmp .ne 6, 3) := by decide +kernel
theorem dX0_firstTaker_59 : decode cX0_firstTaker 59 = .ok (.iload 4, 2) := by decide +kernel
theorem dX0_firstTaker_61 : decode cX0_firstTaker 61 = .ok (.ireturn, 1) := by decide +kernel
theorem dX0_firstTaker_62 : decode cX0_firstTaker 62 = .ok (.iinc 4 1, 3) := by decide +kernel
theorem dX0_firstTaker_65 : decode cX0_firstTaker 65 = .ok (.goto (-62), 3) := by decide +kernel
theorem dX0_firstTaker_68 : decode cX0_firstTaker 68 = .ok (.iconst (-1), 1) := by decide +kernel
theorem dX0_firstTaker_69 : decode cX0_firstTaker 69 = .ok (.ireturn, 1) := by decide +kernel
theorem dX0_isFree_0 : decode cX0_isFree 0 = .ok (.iload_n 0, 1) := by decide +kernel
theorem dX0_isFree_1 : decode cX0_isFree 1 = .ok (.iload_n 1, 1) := by decide +kernel
theorem dX0_isFree_2 : decode cX0_isFree 2 = .ok (.ishr, 1) := by decide +kernel
theorem dX0_isFree_3 : decode cX0_isFree 3 = .ok (.iconst 1, 1) := by decide +kernel
theorem dX0_isFree_4 : decode cX0_isFree 4 = .ok (.iand, 1) := by decide +kernel
theorem dX0_isFree_5 : decode cX0_isFree 5 = .ok (.ifCond .ne 7, 3) := by decide +kernel
theorem dX0_isFree_8 : decode cX0_isFree 8 = .ok (.iconst 1, 1) := by decide +kernel
theorem dX0_isFree_9 : decode cX0_isFree 9 = .ok (.goto 4, 3) := by decide +kernel
theorem dX0_isFree_12 : decode cX0_isFree 12 = .ok (.iconst 0, 1) := by decide +kernel
theorem dX0_isFree_13 : decode cX0_isFree 13 = .ok (.ireturn, 1) := by decide +kernel
theorem dX1_init_0 : decode cX1_init 0 = .ok (.aload_n 0, 1) := by decide +kernel
theorem dX1_init_1 : decode cX1_init 1 = .ok (.invokespecial 3, 3) := by decide +kernel
theorem dX1_init_4 : decode cX1_init 4 = .ok (.aload_n 0, 1) := by decide +kernel
theorem dX1_init_5 : decode cX1_init 5 = .ok (.iconst 2, 1) := by decide +kernel
theorem dX1_init_6 : decode cX1_init 6 = .ok (.putfield 9, 3) := by decide +kernel
theorem dX1_init_9 : decode cX1_init 9 = .ok (.aload_n 0, 1) := by decide +kernel
theorem dX1_init_10 : decode cX1_init 10 = .ok (.bipush 8, 2) := by decide +kernel
theorem dX1_init_12 : decode cX1_init 12 = .ok (.newarray .long, 2) := by decide +kernel
theorem dX1_init_14 : decode cX1_init 14 = .ok (.putfield 15, 3) := by decide +kernel
theorem dX1_init_17 : decode cX1_init 17 = .ok (.aload_n 0, 1) := by decide +kernel
theorem dX1_init_18 : decode cX1_init 18 = .ok (.bipush 10, 2) := by decide +kernel
theorem dX1_init_20 : decode cX1_init 20 = .ok (.bipush 24, 2) := by decide +kernel
theorem dX1_init_22 : decode cX1_init 22 = .ok (.multianewarray 19 2, 4) := by decide +kernel
theorem dX1_init_26 : decode cX1_init 26 = .ok (.putfield 21, 3) := by decide +kernel
theorem dX1_init_29 : decode cX1_init 29 = .ok (.iconst 0, 1) := by decide +kernel
theorem dX1_init_30 : decode cX1_init 30 = .ok (.istore_n 1, 1) := by decide +kernel
theorem dX1_init_31 : decode cX1_init 31 = .ok (.iload_n 1, 1) := by decide +kernel
theorem dX1_init_32 : decode cX1_init 32 = .ok (.iconst 2, 1) := by decide +kernel
theorem dX1_init_33 : decode cX1_init 33 = .ok (.if_icmp .ge 16, 3) := by decide +kernel
theorem dX1_init_36 : decode cX1_init 36 = .ok (.aload_n 0, 1) := by decide +kernel
theorem dX1_init_37 : decode cX1_init 37 = .ok (.getfield 15, 3) := by decide +kernel
theorem dX1_init_40 : decode cX1_init 40 = .ok (.iload_n 1, 1) := by decide +kernel
theorem dX1_init_41 : decode cX1_init 41 = .ok (.lconst 1, 1) := by decide +kernel
theorem dX1_init_42 : decode cX1_init 42 = .ok (.lastore, 1) := by decide +kernel
theorem dX1_init_43 : decode cX1_init 43 = .ok (.iinc 1 1, 3) := by decide +kernel
theorem dX1_init_46 : decode cX1_init 46 = .ok (.goto (-15), 3) := by decide +kernel
theorem dX1_init_49 : decode cX1_init 49 = .ok (.return_, 1) := by decide +kernel
theorem dX1_copyFrom_0 : decode cX1_copyFrom 0 = .ok (.aload_n 0, 1) := by decide +kernel
theorem dX1_copyFrom_1 : decode cX1_copyFrom 1 = .ok (.aload_n 1, 1) := by decide +kernel
theorem dX1_copyFrom_2 : decode cX1_copyFrom 2 = .ok (.getfield 9, 3) := by decide +kernel
theorem dX1_copyFrom_5 : decode cX1_copyFrom 5 = .ok (.putfield 9, 3) := by decide +kernel
theorem dX1_copyFrom_8 : decode cX1_copyFrom 8 = .ok (.aload_n 1, 1) := by decide +kernel
theorem dX1_copyFrom_9 : decode cX1_copyFrom 9 = .ok (.getfield 15, 3) := by decide +kernel
theorem dX1_copyFrom_12 : decode cX1_copyFrom 12 = .ok (.iconst 0, 1) := by decide +kernel
theorem dX1_copyFrom_13 : decode cX1_copyFrom 13 = .ok (.aload_n 0, 1) := by decide +kernel
theorem dX1_copyFrom_14 : decode cX1_copyFrom 14 = .ok (.getfield 15, 3) := by decide +kernel
theorem dX1_copyFrom_17 : decode cX1_copyFrom 17 = .ok (.iconst 0, 1) := by decide +kernel
theorem dX1_copyFrom_18 : decode cX1_copyFrom 18 = .ok (.bipush 8, 2) := by decide +kernel
theorem dX1_copyFrom_20 : decode cX1_copyFrom 20 = .ok (.invokestatic 24, 3) := by decide +kernel
theorem dX1_copyFrom_23 : decode cX1_copyFrom 23 = .ok (.aload_n 0, 1) := by decide +kernel
theorem dX1_copyFrom_24 : decode cX1_copyFrom 24 = .ok (.aload_n 1, 1) := by decide +kernel
theorem dX1_copyFrom_25 : decode cX1_copyFrom 25 = .ok (.getfield 30, 3) := by decide +kernel
theorem dX1_copyFrom_28 : decode cX1_copyFrom 28 = .ok (.putfield 30, 3) := by decide +kernel
theorem dX1_copyFrom_31 : decode cX1_copyFrom 31 = .ok (.iconst 0, 1) := by decide +kernel
theorem dX1_copyFrom_32 : decode cX1_copyFrom 32 = .ok (.istore_n 2, 1) := by decide +kernel
theorem dX1_copyFrom_33 : decode cX1_copyFrom 33 = .ok (.iload_n 2, 1) := by decide +kernel
theorem dX1_copyFrom_34 : decode cX1_copyFrom 34 = .ok (.aload_n 0, 1) := by decide +kernel
theorem dX1_copyFrom_35 : decode cX1_copyFrom 35 = .ok (.getfield 30, 3) := by decide +kernel
theorem dX1_copyFrom_38 : decode cX1_copyFrom 38 = .ok (.if_icmp .ge 28, 3) := by decide +kernel
theorem dX1_copyFrom_41 : decode cX1_copyFrom 41 = .ok (.aload_n 1, 1) := by decide +kernel
theorem dX1_copyFrom_42 : decode cX1_copyFrom 42 = .ok (.getfield 21, 3) := by decide +kernel
theorem dX1_copyFrom_45 : decode cX1_copyFrom 45 = .ok (.iload_n 2, 1) := by decide +kernel
theorem dX1_copyFrom_46 : decode cX1_copyFrom 46 = .ok (.aaload, 1) := by decide +kernel
theorem dX1_copyFrom_47 : decode cX1_copyFrom 47 = .ok (.iconst 0, 1) := by decide +kernel
theorem dX1_copyFrom_48 : decode cX1_copyFrom 48 = .ok (.aload_n 0, 1) := by decide +kernel
theorem dX1_copyFrom_49 : decode cX1_copyFrom 49 = .ok (.getfield 21, 3) := by decide +kernel
theorem dX1_copyFrom_52 : decode cX1_copyFrom 52 = .ok (.iload_n 2, 1) := by decide +kernel
theorem dX1_copyFrom_53 : decode cX1_copyFrom 53 = .ok (.aaload, 1) := by decide +kernel
theorem dX1_copyFrom_54 : decode cX1_copyFrom 54 = .ok (.iconst 0, 1) := by decide +kernel
theorem dX1_copyFrom_55 : decode cX1_copyFrom 55 = .ok (.bipush 24, 2) := by decide +kernel
theorem dX1_copyFrom_57 : decode cX1_copyFrom 57 = .ok (.invokestatic 24, 3) := by decide +kernel
theorem dX1_copyFrom_60 : decode cX1_copyFrom 60 = .ok (.iinc 2 1, 3) := by decide +kernel
theorem dX1_copyFrom_63 : decode cX1_copyFrom 63 = .ok (.goto (-30), 3) := by decide +kernel
theorem dX1_copyFrom_66 : decode cX1_copyFrom 66 = .ok (.return_, 1) := by decide +kernel
theorem dX1_restart_0 : decode cX1_restart 0 = .ok (.aload_n 0, 1) := by decide +kernel
theorem dX1_restart_1 : decode cX1_restart 1 = .ok (.iload_n 1, 1) := by decide +kernel
theorem dX1_restart_2 : decode cX1_restart 2 = .ok (.putfield 9, 3) := by decide +kernel
theorem dX1_restart_5 : decode cX1_restart 5 = .ok (.iconst 0, 1) := by decide +kernel
theorem dX1_restart_6 : decode cX1_restart 6 = .ok (.istore_n 2, 1) := by decide +kernel
theorem dX1_restart_7 : decode cX1_restart 7 = .ok (.iload_n 2, 1) := by decide +kernel
theorem dX1_restart_8 : decode cX1_restart 8 = .ok (.aload_n 0, 1) := by decide +kernel
theorem dX1_restart_9 : decode cX1_restart 9 = .ok (.getfield 9, 3) := by decide +kernel
theorem dX1_restart_12 : decode cX1_restart 12 = .ok (.if_icmp .ge 16, 3) := by decide +kernel
theorem dX1_restart_15 : decode cX1_restart 15 = .ok (.aload_n 0, 1) := by decide +kernel
theorem dX1_restart_16 : decode cX1_restart 16 = .ok (.getfield 15, 3) := by decide +kernel
theorem dX1_restart_19 : decode cX1_restart 19 = .ok (.iload_n 2, 1) := by decide +kernel
theorem dX1_restart_20 : decode cX1_restart 20 = .ok (.lconst 1, 1) := by decide +kernel
theorem dX1_restart_21 : decode cX1_restart 21 = .ok (.lastore, 1) := by decide +kernel
theorem dX1_restart_22 : decode cX1_restart 22 = .ok (.iinc 2 1, 3) := by decide +kernel
theorem dX1_restart_25 : decode cX1_restart 25 = .ok (.goto (-18), 3) := by decide +kernel
theorem dX1_restart_28 : decode cX1_restart 28 = .ok (.iconst 0, 1) := by decide +kernel
theorem dX1_restart_29 : decode cX1_restart 29 = .ok (.istore_n 2, 1) := by decide +kernel
theorem dX1_restart_30 : decode cX1_restart 30 = .ok (.iload_n 2, 1) := by decide +kernel
theorem dX1_restart_31 : decode cX1_restart 31 = .ok (.aload_n 0, 1) := by decide +kernel
theorem dX1_restart_32 : decode cX1_restart 32 = .ok (.getfield 30, 3) := by decide +kernel
theorem dX1_restart_35 : decode cX1_restart 35 = .ok (.if_icmp .ge 14, 3) := by decide +kernel
theorem dX1_restart_38 : decode cX1_restart 38 = .ok (.aload_n 0, 1) := by decide +kernel
theorem dX1_restart_39 : decode cX1_restart 39 = .ok (.iload_n 2, 1) := by decide +kernel
theorem dX1_restart_40 : decode cX1_restart 40 = .ok (.invokevirtual 33, 3) := by decide +kernel
theorem dX1_restart_43 : decode cX1_restart 43 = .ok (.iinc 2 1, 3) := by decide +kernel
theorem dX1_restart_46 : decode cX1_restart 46 = .ok (.goto (-16), 3) := by decide +kernel
theorem dX1_restart_49 : decode cX1_restart 49 = .ok (.return_, 1) := by decide +kernel
theorem dX1_resetChances_0 : decode cX1_resetChances 0 = .ok (.iconst 0, 1) := by decide +kernel
theorem dX1_resetChances_1 : decode cX1_resetChances 1 = .ok (.istore_n 2, 1) := by decide +kernel
theorem dX1_resetChances_2 : decode cX1_resetChances 2 = .ok (.iload_n 2, 1) := by decide +kernel
theorem dX1_resetChances_3 : decode cX1_resetChances 3 = .ok (.bipush 8, 2) := by decide +kernel
theorem dX1_resetChances_5 : decode cX1_resetChances 5 = .ok (.if_icmp .ge 18, 3) := by decide +kernel
theorem dX1_resetChances_8 : decode cX1_resetChances 8 = .ok (.aload_n 0, 1) := by decide +kernel
theorem dX1_resetChances_9 : decode cX1_resetChances 9 = .ok (.iload_n 1, 1) := by decide +kernel
theorem dX1_resetChances_10 : decode cX1_resetChances 10 = .ok (.iload_n 2, 1) := by decide +kernel
theorem dX1_resetChances_11 : decode cX1_resetChances 11 = .ok (.iconst 0, 1) := by decide +kernel
theorem dX1_resetChances_12 : decode cX1_resetChances 12 = .ok (.iconst 0, 1) := by decide +kernel
theorem dX1_resetChances_13 : decode cX1_resetChances 13 = .ok (.invokevirtual 37, 3) := by decide +kernel
theorem dX1_resetChances_16 : decode cX1_resetChances 16 = .ok (.pop, 1) := by decide +kernel
theorem dX1_resetChances_17 : decode cX1_resetChances 17 = .ok (.iinc 2 1, 3) := by decide +kernel
theorem dX1_resetChances_20 : decode cX1_resetChances 20 = .ok (.goto (-18), 3) := by decide +kernel
theorem dX1_resetChances_23 : decode cX1_resetChances 23 = .ok (.return_, 1) := by decide +kernel
theorem dX1_changeChances_0 : decode cX1_changeChances 0 = .ok (.aload_n 0, 1) := by decide +kernel
theorem dX1_changeChances_1 : decode cX1_changeChances 1 = .ok (.getfield 21, 3) := by decide +kernel
theorem dX1_changeChances_4 : decode cX1_changeChances 4 = .ok (.iload_n 1, 1) := by decide +kernel
theorem dX1_changeChances_5 : decode cX1_changeChances 5 = .ok (.aaload, 1) := by decide +kernel
theorem dX1_changeChances_6 : decode cX1_changeChances 6 = .ok (.astore 5, 2) := by decide +kernel
theorem dX1_changeChances_8 : decode cX1_changeChances 8 = .ok (.iload_n 2, 1) := by decide +kernel
theorem dX1_changeChances_9 : decode cX1_changeChances 9 = .ok (.iconst 3, 1) := by decide +kernel
theorem dX1_changeChances_10 : decode cX1_changeChances 10 = .ok (.imul, 1) := by decide +kernel
theorem dX1_changeChances_11 : decode cX1_changeChances 11 = .ok (.istore 6, 2) := by decide +kernel
theorem dX1_changeChances_13 : decode cX1_changeChances 13 = .ok (.aload 5, 2) := by decide +kernel
theorem dX1_changeChances_15 : decode cX1_changeChances 15 = .ok (.iload 6, 2) := by decide +kernel
theorem dX1_changeChances_17 : decode cX1_changeChances 17 = .ok (.iload_n 3, 1) := by decide +kernel
theorem dX1_changeChances_18 : decode cX1_changeChances 18 = .ok (.iastore, 1) := by decide +kernel
theorem dX1_changeChances_19 : decode cX1_changeChances 19 = .ok (.aload 5, 2) := by decide +kernel
theorem dX1_changeChances_21 : decode cX1_changeChances 21 = .ok (.iload 6, 2) := by decide +kernel
theorem dX1_changeChances_23 : decode cX1_changeChances 23 = .ok (.iconst 1, 1) := by decide +kernel
theorem dX1_changeChances_24 : decode cX1_changeChances 24 = .ok (.iadd, 1) := by decide +kernel
theorem dX1_changeChances_25 : decode cX1_changeChances 25 = .ok (.iload 4, 2) := by decide +kernel
theorem dX1_changeChances_27 : decode cX1_changeChances 27 = .ok (.iastore, 1) := by decide +kernel
theorem dX1_changeChances_28 : decode cX1_changeChances 28 = .ok (.aload 5, 2) := by decide +kernel
theorem dX1_changeChances_30 : decode cX1_changeChances 30 = .ok (.iload 6, 2) := by decide +kernel
theorem dX1_changeChances_32 : decode cX1_changeChances 32 = .ok (.iconst 2, 1) := by decide +kernel
theorem dX1_changeChances_33 : decode cX1_changeChances 33 = .ok (.iadd, 1) := by decide +kernel
theorem dX1_changeChances_34 : decode cX1_changeChances 34 = .ok (.bipush 10, 2) := by decide +kernel
theorem dX1_changeChances_36 : decode cX1_changeChances 36 = .ok (.iload_n 3, 1) := by decide +kernel
theorem dX1_changeChances_37 : decode cX1_changeChances 37 = .ok (.isub, 1) := by decide +kernel
theorem dX1_changeChances_38 : decode cX1_changeChances 38 = .ok (.iload 4, 2) := by decide +kernel
theorem dX1_changeChances_40 : decode cX1_changeChances 40 = .ok (.isub, 1) := by decide +kernel
theorem dX1_changeChances_41 : decode cX1_changeChances 41 = .ok (.iastore, 1) := by decide +kernel
theorem dX1_changeChances_42 : decode cX1_changeChances 42 = .ok (.aload 5, 2) := by decide +kernel
theorem dX1_changeChances_44 : decode cX1_changeChances 44 = .ok (.iload 6, 2) := by decide +kernel
theorem dX1_changeChances_46 : decode cX1_changeChances 46 = .ok (.iconst 2, 1) := by decide +kernel
theorem dX1_changeChances_47 : decode cX1_changeChances 47 = .ok (.iadd, 1) := by decide +kernel
theorem dX1_changeChances_48 : decode cX1_changeChances 48 = .ok (.iaload, 1) := by decide +kernel
theorem dX1_changeChances_49 : decode cX1_changeChances 49 = .ok (.ireturn, 1) := by decide +kernel
theorem dX1_appendTest_0 : decode cX1_appendTest 0 = .ok (.aload_n 0, 1) := by decide +kernel
theorem dX1_appendTest_1 : decode cX1_appendTest 1 = .ok (.getfield 30, 3) := by decide +kernel
theorem dX1_appendTest_4 : decode cX1_appendTest 4 = .ok (.istore_n 1, 1) := by decide +kernel
theorem dX1_appendTest_5 : decode cX1_appendTest 5 = .ok (.aload_n 0, 1) := by decide +kernel
theorem dX1_appendTest_6 : decode cX1_appendTest 6 = .ok (.iload_n 1, 1) := by decide +kernel
theorem dX1_appendTest_7 : decode cX1_appendTest 7 = .ok (.invokevirtual 33, 3) := by decide +kernel
theorem dX1_appendTest_10 : decode cX1_appendTest 10 = .ok (.aload_n 0, 1) := by decide +kernel
theorem dX1_appendTest_11 : decode cX1_appendTest 11 = .ok (.dup, 1) := by decide +kernel
theorem dX1_appendTest_12 : decode cX1_appendTest 12 = .ok (.getfield 30, 3) := by decide +kernel
theorem dX1_appendTest_15 : decode cX1_appendTest 15 = .ok (.iconst 1, 1) := by decide +kernel
theorem dX1_appendTest_16 : decode cX1_appendTest 16 = .ok (.iadd, 1) := by decide +kernel
theorem dX1_appendTest_17 : decode cX1_appendTest 17 = .ok (.putfield 30, 3) := by decide +kernel
theorem dX1_appendTest_20 : decode cX1_appendTest 20 = .ok (.iload_n 1, 1) := by decide +kernel
theorem dX1_appendTest_21 : decode cX1_appendTest 21 = .ok (.ireturn, 1) := by decide +kernel
theorem dX1_othersAreZero_0 : decode cX1_othersAreZero 0 = .ok (.iconst 0, 1) := by decide +kernel
theorem dX1_othersAreZero_1 : decode cX1_othersAreZero 1 = .ok (.istore_n 2, 1) := by decide +kernel
theorem dX1_othersAreZero_2 : decode cX1_othersAreZero 2 = .ok (.iload_n 2, 1) := by decide +kernel
theorem dX1_othersAreZero_3 : decode cX1_othersAreZero 3 = .ok (.aload_n 0, 1) := by decide +kernel
theorem dX1_othersAreZero_4 : decode cX1_othersAreZero 4 = .ok (.getfield 9, 3) := by decide +kernel
theorem dX1_othersAreZero_7 : decode cX1_othersAreZero 7 = .ok (.if_icmp .ge 27, 3) := by decide +kernel
theorem dX1_othersAreZero_10 : decode cX1_othersAreZero 10 = .ok (.iload_n 2, 1) := by decide +kernel
theorem dX1_othersAreZero_11 : decode cX1_othersAreZero 11 = .ok (.iload_n 1, 1) := by decide +kernel
theorem dX1_othersAreZero_12 : decode cX1_othersAreZero 12 = .ok (.if_icmp .eq 16, 3) := by decide +kernel
theorem dX1_othersAreZero_15 : decode cX1_othersAreZero 15 = .ok (.aload_n 0, 1) := by decide +kernel
theorem dX1_othersAreZero_16 : decode cX1_othersAreZero 16 = .ok (.getfield 15, 3) := by decide +kernel
theorem dX1_othersAreZero_19 : decode cX1_othersAreZero 19 = .ok (.iload_n 2, 1) := by decide +kernel
theorem dX1_othersAreZero_20 : decode cX1_othersAreZero 20 = .ok (.laload, 1) := by decide +kernel
theorem dX1_othersAreZero_21 : decode cX1_othersAreZero 21 = .ok (.lconst 0, 1) := by decide +kernel
theorem dX1_othersAreZero_22 : decode cX1_othersAreZero 22 = .ok (.lcmp, 1) := by decide +kernel
theorem dX1_othersAreZero_23 : decode cX1_othersAreZero 23 = .ok (.ifCond .eq 5, 3) := by decide +kernel
theorem dX1_othersAreZero_26 : decode cX1_othersAreZero 26 = .ok (.iconst 0, 1) := by decide +kernel
theorem dX1_othersAreZero_27 : decode cX1_othersAreZero 27 = .ok (.ireturn, 1) := by decide +kernel
theorem dX1_othersAreZero_28 : decode cX1_othersAreZero 28 = .ok (.iinc 2 1, 3) := by decide +kernel
theorem dX1_othersAreZero_31 : decode cX1_othersAreZero 31 = .ok (.goto (-29), 3) := by decide +kernel
theorem dX1_othersAreZero_34 : decode cX1_othersAreZero 34 = .ok (.iconst 1, 1) := by decide +kernel
theorem dX1_othersAreZero_35 : decode cX1_othersAreZero 35 = .ok (.ireturn, 1) := by decide +kernel
theorem dX1_changeWeight_0 : decode cX1_changeWeight 0 = .ok (.aload_n 0, 1) := by decide +kernel
theorem dX1_changeWeight_1 : decode cX1_changeWeight 1 = .ok (.getfield 15, 3) := by decide +kernel
theorem dX1_changeWeight_4 : decode cX1_changeWeight 4 = .ok (.iload_n 1, 1) := by decide +kernel
theorem dX1_changeWeight_5 : decode cX1_changeWeight 5 = .ok (.laload, 1) := by decide +kernel
theorem dX1_changeWeight_6 : decode cX1_changeWeight 6 = .ok (.lstore 4, 2) := by decide +kernel
theorem dX1_changeWeight_8 : decode cX1_changeWeight 8 = .ok (.aload_n 0, 1) := by decide +kernel
theorem dX1_changeWeight_9 : decode cX1_changeWeight 9 = .ok (.getfield 15, 3) := by decide +kernel
theorem dX1_changeWeight_12 : decode cX1_changeWeight 12 = .ok (.iload_n 1, 1) := by decide +kernel
theorem dX1_changeWeight_13 : decode cX1_changeWeight 13 = .ok (.lload_n 2, 1) := by decide +kernel
theorem dX1_changeWeight_14 : decode cX1_changeWeight 14 = .ok (.lastore, 1) := by decide +kernel
theorem dX1_changeWeight_15 : decode cX1_changeWeight 15 = .ok (.lload 4, 2) := by decide +kernel
theorem dX1_changeWeight_17 : decode cX1_changeWeight 17 = .ok (.lreturn, 1) := by decide +kernel
theorem dX1_takeWeights_0 : decode cX1_takeWeights 0 = .ok (.aload_n 1, 1) := by decide +kernel
theorem dX1_takeWeights_1 : decode cX1_takeWeights 1 = .ok (.iconst 0, 1) := by decide +kernel
theorem dX1_takeWeights_2 : decode cX1_takeWeights 2 = .ok (.aload_n 0, 1) := by decide +kernel
theorem dX1_takeWeights_3 : decode cX1_takeWeights 3 = .ok (.getfield 15, 3) := by decide +kernel
theorem dX1_takeWeights_6 : decode cX1_takeWeights 6 = .ok (.iconst 0, 1) := by decide +kernel
theorem dX1_takeWeights_7 : decode cX1_takeWeights 7 = .ok (.aload_n 0, 1) := by decide +kernel
theorem dX1_takeWeights_8 : decode cX1_takeWeights 8 = .ok (.getfield 9, 3) := by decide +kernel
theorem dX1_takeWeights_11 : decode cX1_takeWeights 11 = .ok (.invokestatic 24, 3) := by decide +kernel
theorem dX1_takeWeights_14 : decode cX1_takeWeights 14 = .ok (.return_, 1) := by decide +kernel
theorem dX1_multiply_0 : decode cX1_multiply 0 = .ok (.aload_n 0, 1) := by decide +kernel
theorem dX1_multiply_1 : decode cX1_multiply 1 = .ok (.getfield 21, 3) := by decide +kernel
theorem dX1_multiply_4 : decode cX1_multiply 4 = .ok (.iload_n 2, 1) := by decide +kernel
theorem dX1_multiply_5 : decode cX1_multiply 5 = .ok (.aaload, 1) := by decide +kernel
theorem dX1_multiply_6 : decode cX1_multiply 6 = .ok (.astore 5, 2) := by decide +kernel
theorem dX1_multiply_8 : decode cX1_multiply 8 = .ok (.iconst 0, 1) := by decide +kernel
theorem dX1_multiply_9 : decode cX1_multiply 9 = .ok (.istore 6, 2) := by decide +kernel
theorem dX1_multiply_11 : decode cX1_multiply 11 = .ok (.iload 6, 2) := by decide +kernel
theorem dX1_multiply_13 : decode cX1_multiply 13 = .ok (.aload_n 0, 1) := by decide +kernel
theorem dX1_multiply_14 : decode cX1_multiply 14 = .ok (.getfield 9, 3) := by decide +kernel
theorem dX1_multiply_17 : decode cX1_multiply 17 = .ok (.if_icmp .ge 29, 3) := by decide +kernel
theorem dX1_multiply_20 : decode cX1_multiply 20 = .ok (.aload 4, 2) := by decide +kernel
theorem dX1_multiply_22 : decode cX1_multiply 22 = .ok (.iload 6, 2) := by decide +kernel
theorem dX1_multiply_24 : decode cX1_multiply 24 = .ok (.aload_n 1, 1) := by decide +kernel
theorem dX1_multiply_25 : decode cX1_multiply 25 = .ok (.iload 6, 2) := by decide +kernel
theorem dX1_multiply_27 : decode cX1_multiply 27 = .ok (.laload, 1) := by decide +kernel
theorem dX1_multiply_28 : decode cX1_multiply 28 = .ok (.aload 5, 2) := by decide +kernel
theorem dX1_multiply_30 : decode cX1_multiply 30 = .ok (.iload 6, 2) := by decide +kernel
theorem dX1_multiply_32 : decode cX1_multiply 32 = .ok (.iconst 3, 1) := by decide +kernel
theorem dX1_multiply_33 : decode cX1_multiply 33 = .ok (.imul, 1) := by decide +kernel
theorem dX1_multiply_34 : decode cX1_multiply 34 = .ok (.iload_n 3, 1) := by decide +kernel
theorem dX1_multiply_35 : decode cX1_multiply 35 = .ok (.iadd, 1) := by decide +kernel
theorem dX1_multiply_36 : decode cX1_multiply 36 = .ok (.iaload, 1) := by decide +kernel
theorem dX1_multiply_37 : decode cX1_multiply 37 = .ok (.i2l, 1) := by decide +kernel
theorem dX1_multiply_38 : decode cX1_multiply 38 = .ok (.lmul, 1) := by decide +kernel
theorem dX1_multiply_39 : decode cX1_multiply 39 = .ok (.lastore, 1) := by decide +kernel
theorem dX1_multiply_40 : decode cX1_multiply 40 = .ok (.iinc 6 1, 3) := by decide +kernel
theorem dX1_multiply_43 : decode cX1_multiply 43 = .ok (.goto (-32), 3) := by decide +kernel
theorem dX1_multiply_46 : decode cX1_multiply 46 = .ok (.return_, 1) := by decide +kernel
theorem dX1_reduce_0 : decode cX1_reduce 0 = .ok (.lconst 0, 1) := by decide +kernel
theorem dX1_reduce_1 : decode cX1_reduce 1 = .ok (.lstore_n 2, 1) := by decide +kernel
theorem dX1_reduce_2 : decode cX1_reduce 2 = .ok (.iconst 0, 1) := by decide +kernel
theorem dX1_reduce_3 : decode cX1_reduce 3 = .ok (.istore 4, 2) := by decide +kernel
theorem dX1_reduce_5 : decode cX1_reduce 5 = .ok (.iload 4, 2) := by decide +kernel
theorem dX1_reduce_7 : decode cX1_reduce 7 = .ok (.aload_n 0, 1) := by decide +kernel
theorem dX1_reduce_8 : decode cX1_reduce 8 = .ok (.getfield 9, 3) := by decide +kernel
theorem dX1_reduce_11 : decode cX1_reduce 11 = .ok (.if_icmp .ge 18, 3) := by decide +kernel
theorem dX1_reduce_14 : decode cX1_reduce 14 = .ok (.lload_n 2, 1) := by decide +kernel
theorem dX1_reduce_15 : decode cX1_reduce 15 = .ok (.aload_n 1, 1) := by decide +kernel
theorem dX1_reduce_16 : decode cX1_reduce 16 = .ok (.iload 4, 2) := by decide +kernel
theorem dX1_reduce_18 : decode cX1_reduce 18 = .ok (.laload, 1) := by decide +kernel
theorem dX1_reduce_19 : decode cX1_reduce 19 = .ok (.invokestatic 41, 3) := by decide +kernel
theorem dX1_reduce_22 : decode cX1_reduce 22 = .ok (.lstore_n 2, 1) := by decide +kernel
theorem dX1_reduce_23 : decode cX1_reduce 23 = .ok (.iinc 4 1, 3) := by decide +kernel
theorem dX1_reduce_26 : decode cX1_reduce 26 = .ok (.goto (-21), 3) := by decide +kernel
theorem dX1_reduce_29 : decode cX1_reduce 29 = .ok (.lload_n 2, 1) := by decide +kernel
theorem dX1_reduce_30 : decode cX1_reduce 30 = .ok (.lconst 0, 1) := by decide +kernel
theorem dX1_reduce_31 : decode cX1_reduce 31 = .ok (.lcmp, 1) := by decide +kernel
theorem dX1_reduce_32 : decode cX1_reduce 32 = .ok (.ifCond .ne 4, 3) := by decide +kernel
theorem dX1_reduce_35 : decode cX1_reduce 35 = .ok (.return_, 1) := by decide +kernel
theorem dX1_reduce_36 : decode cX1_reduce 36 = .ok (.iconst 0, 1) := by decide +kernel
theorem dX1_reduce_37 : decode cX1_reduce 37 = .ok (.istore 4, 2) := by decide +kernel
theorem dX1_reduce_39 : decode cX1_reduce 39 = .ok (.iload 4, 2) := by decide +kernel
theorem dX1_reduce_41 : decode cX1_reduce 41 = .ok (.aload_n 0, 1) := by decide +kernel
theorem dX1_reduce_42 : decode cX1_reduce 42 = .ok (.getfield 9, 3) := by decide +kernel
theorem dX1_reduce_45 : decode cX1_reduce 45 = .ok (.if_icmp .ge 17, 3) := by decide +kernel
theorem dX1_reduce_48 : decode cX1_reduce 48 = .ok (.aload_n 1, 1) := by decide +kernel
theorem dX1_reduce_49 : decode cX1_reduce 49 = .ok (.iload 4, 2) := by decide +kernel
theorem dX1_reduce_51 : decode cX1_reduce 51 = .ok (.dup2, 1) := by decide +kernel
theorem dX1_reduce_52 : decode cX1_reduce 52 = .ok (.laload, 1) := by decide +kernel
theorem dX1_reduce_53 : decode cX1_reduce 53 = .ok (.lload_n 2, 1) := by decide +kernel
theorem dX1_reduce_54 : decode cX1_reduce 54 = .ok (.ldiv, 1) := by decide +kernel
theorem dX1_reduce_55 : decode cX1_reduce 55 = .ok (.lastore, 1) := by decide +kernel
theorem dX1_reduce_56 : decode cX1_reduce 56 = .ok (.iinc 4 1, 3) := by decide +kernel
theorem dX1_reduce_59 : decode cX1_reduce 59 = .ok (.goto (-20), 3) := by decide +kernel
theorem dX1_reduce_62 : decode cX1_reduce 62 = .ok (.return_, 1) := by decide +kernel
theorem dX1_greatest_0 : decode cX1_greatest 0 = .ok (.lconst 0, 1) := by decide +kernel
theorem dX1_greatest_1 : decode cX1_greatest 1 = .ok (.lstore_n 2, 1) := by decide +kernel
theorem dX1_greatest_2 : decode cX1_greatest 2 = .ok (.iconst 0, 1) := by decide +kernel
theorem dX1_greatest_3 : decode cX1_greatest 3 = .ok (.istore 4, 2) := by decide +kernel
theorem dX1_greatest_5 : decode cX1_greatest 5 = .ok (.iload 4, 2) := by decide +kernel
theorem dX1_greatest_7 : decode cX1_greatest 7 = .ok (.aload_n 0, 1) := by decide +kernel
theorem dX1_greatest_8 : decode cX1_greatest 8 = .ok (.getfield 9, 3) := by decide +kernel
theorem dX1_greatest_11 : decode cX1_greatest 11 = .ok (.if_icmp .ge 18, 3) := by decide +kernel
theorem dX1_greatest_14 : decode cX1_greatest 14 = .ok (.lload_n 2, 1) := by decide +kernel
theorem dX1_greatest_15 : decode cX1_greatest 15 = .ok (.aload_n 1, 1) := by decide +kernel
theorem dX1_greatest_16 : decode cX1_greatest 16 = .ok (.iload 4, 2) := by decide +kernel
theorem dX1_greatest_18 : decode cX1_greatest 18 = .ok (.laload, 1) := by decide +kernel
theorem dX1_greatest_19 : decode cX1_greatest 19 = .ok (.invokestatic 47, 3) := by decide +kernel
theorem dX1_greatest_22 : decode cX1_greatest 22 = .ok (.lstore_n 2, 1) := by decide +kernel
theorem dX1_greatest_23 : decode cX1_greatest 23 = .ok (.iinc 4 1, 3) := by decide +kernel
theorem dX1_greatest_26 : decode cX1_greatest 26 = .ok (.goto (-21), 3) := by decide +kernel
theorem dX1_greatest_29 : decode cX1_greatest 29 = .ok (.lload_n 2, 1) := by decide +kernel
theorem dX1_greatest_30 : decode cX1_greatest 30 = .ok (.lreturn, 1) := by decide +kernel
theorem dX1_mostProbable_0 : decode cX1_mostProbable 0 = .ok (.iconst 0, 1) := by decide +kernel
theorem dX1_mostProbable_1 : decode cX1_mostProbable 1 = .ok (.istore_n 1, 1) := by decide +kernel
theorem dX1_mostProbable_2 : decode cX1_mostProbable 2 = .ok (.iconst 1, 1) := by decide +kernel
theorem dX1_mostProbable_3 : decode cX1_mostProbable 3 = .ok (.istore_n 2, 1) := by decide +kernel
theorem dX1_mostProbable_4 : decode cX1_mostProbable 4 = .ok (.iload_n 2, 1) := by decide +kernel
theorem dX1_mostProbable_5 : decode cX1_mostProbable 5 = .ok (.aload_n 0, 1) := by decide +kernel
theorem dX1_mostProbable_6 : decode cX1_mostProbable 6 = .ok (.getfield 9, 3) := by decide +kernel
theorem dX1_mostProbable_9 : decode cX1_mostProbable 9 = .ok (.if_icmp .ge 27, 3) := by decide +kernel
theorem dX1_mostProbable_12 : decode cX1_mostProbable 12 = .ok (.aload_n 0, 1) := by decide +kernel
theorem dX1_mostProbable_13 : decode cX1_mostProbable 13 = .ok (.getfield 15, 3) := by decide +kernel
theorem dX1_mostProbable_16 : decode cX1_mostProbable 16 = .ok (.iload_n 2, 1) := by decide +kernel
theorem dX1_mostProbable_17 : decode cX1_mostProbable 17 = .ok (.laload, 1) := by decide +kernel
theorem dX1_mostProbable_18 : decode cX1_mostProbable 18 = .ok (.aload_n 0, 1) := by decide +kernel
theorem dX1_mostProbable_19 : decode cX1_mostProbable 19 = .ok (.getfield 15, 3) := by decide +kernel
theorem dX1_mostProbable_22 : decode cX1_mostProbable 22 = .ok (.iload_n 1, 1) := by decide +kernel
theorem dX1_mostProbable_23 : decode cX1_mostProbable 23 = .ok (.laload, 1) := by decide +kernel
theorem dX1_mostProbable_24 : decode cX1_mostProbable 24 = .ok (.lcmp, 1) := by decide +kernel
theorem dX1_mostProbable_25 : decode cX1_mostProbable 25 = .ok (.ifCond .le 5, 3) := by decide +kernel
theorem dX1_mostProbable_28 : decode cX1_mostProbable 28 = .ok (.iload_n 2, 1) := by decide +kernel
theorem dX1_mostProbable_29 : decode cX1_mostProbable 29 = .ok (.istore_n 1, 1) := by decide +kernel
theorem dX1_mostProbable_30 : decode cX1_mostProbable 30 = .ok (.iinc 2 1, 3) := by decide +kernel
theorem dX1_mostProbable_33 : decode cX1_mostProbable 33 = .ok (.goto (-29), 3) := by decide +kernel
theorem dX1_mostProbable_36 : decode cX1_mostProbable 36 = .ok (.iload_n 1, 1) := by decide +kernel
theorem dX1_mostProbable_37 : decode cX1_mostProbable 37 = .ok (.ireturn, 1) := by decide +kernel
theorem dX1_weightSum_0 : decode cX1_weightSum 0 = .ok (.lconst 0, 1) := by decide +kernel
theorem dX1_weightSum_1 : decode cX1_weightSum 1 = .ok (.lstore_n 1, 1) := by decide +kernel
theorem dX1_weightSum_2 : decode cX1_weightSum 2 = .ok (.iconst 0, 1) := by decide +kernel
theorem dX1_weightSum_3 : decode cX1_weightSum 3 = .ok (.istore_n 3, 1) := by decide +kernel
theorem dX1_weightSum_4 : decode cX1_weightSum 4 = .ok (.iload_n 3, 1) := by decide +kernel
theorem dX1_weightSum_5 : decode cX1_weightSum 5 = .ok (.aload_n 0, 1) := by decide +kernel
theorem dX1_weightSum_6 : decode cX1_weightSum 6 = .ok (.getfield 9, 3) := by decide +kernel
theorem dX1_weightSum_9 : decode cX1_weightSum 9 = .ok (.if_icmp .ge 18, 3) := by decide +kernel
theorem dX1_weightSum_12 : decode cX1_weightSum 12 = .ok (.lload_n 1, 1) := by decide +kernel
theorem dX1_weightSum_13 : decode cX1_weightSum 13 = .ok (.aload_n 0, 1) := by decide +kernel
theorem dX1_weightSum_14 : decode cX1_weightSum 14 = .ok (.getfield 15, 3) := by decide +kernel
theorem dX1_weightSum_17 : decode cX1_weightSum 17 = .ok (.iload_n 3, 1) := by decide +kernel
theorem dX1_weightSum_18 : decode cX1_weightSum 18 = .ok (.laload, 1) := by decide +kernel
theorem dX1_weightSum_19 : decode cX1_weightSum 19 = .ok (.ladd, 1) := by decide +kernel
theorem dX1_weightSum_20 : decode cX1_weightSum 20 = .ok (.lstore_n 1, 1) := by decide +kernel
theorem dX1_weightSum_21 : decode cX1_weightSum 21 = .ok (.iinc 3 1, 3) := by decide +kernel
theorem dX1_weightSum_24 : decode cX1_weightSum 24 = .ok (.goto (-20), 3) := by decide +kernel
theorem dX1_weightSum_27 : decode cX1_weightSum 27 = .ok (.lload_n 1, 1) := by decide +kernel
theorem dX1_weightSum_28 : decode cX1_weightSum 28 = .ok (.lreturn, 1) := by decide +kernel
theorem dX1_mixedInto_0 : decode cX1_mixedInto 0 = .ok (.lload_n 1, 1) := by decide +kernel
theorem dX1_mixedInto_1 : decode cX1_mixedInto 1 = .ok (.aload_n 0, 1) := by decide +kernel
theorem dX1_mixedInto_2 : decode cX1_mixedInto 2 = .ok (.getfield 9, 3) := by decide +kernel
theorem dX1_mixedInto_5 : decode cX1_mixedInto 5 = .ok (.i2l, 1) := by decide +kernel
theorem dX1_mixedInto_6 : decode cX1_mixedInto 6 = .ok (.invokestatic 52, 3) := by decide +kernel
theorem dX1_mixedInto_9 : decode cX1_mixedInto 9 = .ok (.lstore_n 3, 1) := by decide +kernel
theorem dX1_mixedInto_10 : decode cX1_mixedInto 10 = .ok (.iconst 0, 1) := by decide +kernel
theorem dX1_mixedInto_11 : decode cX1_mixedInto 11 = .ok (.istore 5, 2) := by decide +kernel
theorem dX1_mixedInto_13 : decode cX1_mixedInto 13 = .ok (.iload 5, 2) := by decide +kernel
theorem dX1_mixedInto_15 : decode cX1_mixedInto 15 = .ok (.aload_n 0, 1) := by decide +kernel
theorem dX1_mixedInto_16 : decode cX1_mixedInto 16 = .ok (.getfield 9, 3) := by decide +kernel
theorem dX1_mixedInto_19 : decode cX1_mixedInto 19 = .ok (.if_icmp .ge 21, 3) := by decide +kernel
theorem dX1_mixedInto_22 : decode cX1_mixedInto 22 = .ok (.lload_n 3, 1) := by decide +kernel
theorem dX1_mixedInto_23 : decode cX1_mixedInto 23 = .ok (.aload_n 0, 1) := by decide +kernel
theorem dX1_mixedInto_24 : decode cX1_mixedInto 24 = .ok (.getfield 15, 3) := by decide +kernel
theorem dX1_mixedInto_27 : decode cX1_mixedInto 27 = .ok (.iload 5, 2) := by decide +kernel
theorem dX1_mixedInto_29 : decode cX1_mixedInto 29 = .ok (.laload, 1) := by decide +kernel
theorem dX1_mixedInto_30 : decode cX1_mixedInto 30 = .ok (.invokestatic 52, 3) := by decide +kernel
theorem dX1_mixedInto_33 : decode cX1_mixedInto 33 = .ok (.lstore_n 3, 1) := by decide +kernel
theorem dX1_mixedInto_34 : decode cX1_mixedInto 34 = .ok (.iinc 5 1, 3) := by decide +kernel
theorem dX1_mixedInto_37 : decode cX1_mixedInto 37 = .ok (.goto (-24), 3) := by decide +kernel
theorem dX1_mixedInto_40 : decode cX1_mixedInto 40 = .ok (.lload_n 3, 1) := by decide +kernel
theorem dX1_mixedInto_41 : decode cX1_mixedInto 41 = .ok (.aload_n 0, 1) := by decide +kernel
theorem dX1_mixedInto_42 : decode cX1_mixedInto 42 = .ok (.getfield 30, 3) := by decide +kernel
theorem dX1_mixedInto_45 : decode cX1_mixedInto 45 = .ok (.i2l, 1) := by decide +kernel
theorem dX1_mixedInto_46 : decode cX1_mixedInto 46 = .ok (.invokestatic 52, 3) := by decide +kernel
theorem dX1_mixedInto_49 : decode cX1_mixedInto 49 = .ok (.lstore_n 3, 1) := by decide +kernel
theorem dX1_mixedInto_50 : decode cX1_mixedInto 50 = .ok (.iconst 0, 1) := by decide +kernel
theorem dX1_mixedInto_51 : decode cX1_mixedInto 51 = .ok (.istore 5, 2) := by decide +kernel
theorem dX1_mixedInto_53 : decode cX1_mixedInto 53 = .ok (.iload 5, 2) := by decide +kernel
theorem dX1_mixedInto_55 : decode cX1_mixedInto 55 = .ok (.aload_n 0, 1) := by decide +kernel
theorem dX1_mixedInto_56 : decode cX1_mixedInto 56 = .ok (.getfield 30, 3) := by decide +kernel
theorem dX1_mixedInto_59 : decode cX1_mixedInto 59 = .ok (.if_icmp .ge 45, 3) := by decide +kernel
theorem dX1_mixedInto_62 : decode cX1_mixedInto 62 = .ok (.iconst 0, 1) := by decide +kernel
theorem dX1_mixedInto_63 : decode cX1_mixedInto 63 = .ok (.istore 6, 2) := by decide +kernel
theorem dX1_mixedInto_65 : decode cX1_mixedInto 65 = .ok (.iload 6, 2) := by decide +kernel
theorem dX1_mixedInto_67 : decode cX1_mixedInto 67 = .ok (.aload_n 0, 1) := by decide +kernel
theorem dX1_mixedInto_68 : decode cX1_mixedInto 68 = .ok (.getfield 9, 3) := by decide +kernel
theorem dX1_mixedInto_71 : decode cX1_mixedInto 71 = .ok (.iconst 3, 1) := by decide +kernel
theorem dX1_mixedInto_72 : decode cX1_mixedInto 72 = .ok (.imul, 1) := by decide +kernel
theorem dX1_mixedInto_73 : decode cX1_mixedInto 73 = .ok (.if_icmp .ge 25, 3) := by decide +kernel
theorem dX1_mixedInto_76 : decode cX1_mixedInto 76 = .ok (.lload_n 3, 1) := by decide +kernel
theorem dX1_mixedInto_77 : decode cX1_mixedInto 77 = .ok (.aload_n 0, 1) := by decide +kernel
theorem dX1_mixedInto_78 : decode cX1_mixedInto 78 = .ok (.getfield 21, 3) := by decide +kernel
theorem dX1_mixedInto_81 : decode cX1_mixedInto 81 = .ok (.iload 5, 2) := by decide +kernel
theorem dX1_mixedInto_83 : decode cX1_mixedInto 83 = .ok (.aaload, 1) := by decide +kernel
theorem dX1_mixedInto_84 : decode cX1_mixedInto 84 = .ok (.iload 6, 2) := by decide +kernel
theorem dX1_mixedInto_86 : decode cX1_mixedInto 86 = .ok (.iaload, 1) := by decide +kernel
theorem dX1_mixedInto_87 : decode cX1_mixedInto 87 = .ok (.i2l, 1) := by decide +kernel
theorem dX1_mixedInto_88 : decode cX1_mixedInto 88 = .ok (.invokestatic 52, 3) := by decide +kernel
theorem dX1_mixedInto_91 : decode cX1_mixedInto 91 = .ok (.lstore_n 3, 1) := by decide +kernel
theorem dX1_mixedInto_92 : decode cX1_mixedInto 92 = .ok (.iinc 6 1, 3) := by decide +kernel
theorem dX1_mixedInto_95 : decode cX1_mixedInto 95 = .ok (.goto (-30), 3) := by decide +kernel
theorem dX1_mixedInto_98 : decode cX1_mixedInto 98 = .ok (.iinc 5 1, 3) := by decide +kernel
theorem dX1_mixedInto_101 : decode cX1_mixedInto 101 = .ok (.goto (-48), 3) := by decide +kernel
theorem dX1_mixedInto_104 : decode cX1_mixedInto 104 = .ok (.lload_n 3, 1) := by decide +kernel
theorem dX1_mixedInto_105 : decode cX1_mixedInto 105 = .ok (.lreturn, 1) := by decide +kernel
theorem dX2_gcd_0 : decode cX2_gcd 0 = .ok (.lload_n 0, 1) := by decide +kernel
theorem dX2_gcd_1 : decode cX2_gcd 1 = .ok (.invokestatic 7, 3) := by decide +kernel
theorem dX2_gcd_4 : decode cX2_gcd 4 = .ok (.lstore 4, 2) := by decide +kernel
theorem dX2_gcd_6 : decode cX2_gcd 6 = .ok (.lload_n 2, 1) := by decide +kernel
theorem dX2_gcd_7 : decode cX2_gcd 7 = .ok (.invokestatic 7, 3) := by decide +kernel
theorem dX2_gcd_10 : decode cX2_gcd 10 = .ok (.lstore 6, 2) := by decide +kernel
theorem dX2_gcd_12 : decode cX2_gcd 12 = .ok (.iconst 0, 1) := by decide +kernel
theorem dX2_gcd_13 : decode cX2_gcd 13 = .ok (.istore 8, 2) := by decide +kernel
theorem dX2_gcd_15 : decode cX2_gcd 15 = .ok (.iload 8, 2) := by decide +kernel
theorem dX2_gcd_17 : decode cX2_gcd 17 = .ok (.sipush 200, 3) := by decide +kernel
theorem dX2_gcd_20 : decode cX2_gcd 20 = .ok (.if_icmp .ge 31, 3) := by decide +kernel
theorem dX2_gcd_23 : decode cX2_gcd 23 = .ok (.lload 6, 2) := by decide +kernel
theorem dX2_gcd_25 : decode cX2_gcd 25 = .ok (.lconst 0, 1) := by decide +kernel
theorem dX2_gcd_26 : decode cX2_gcd 26 = .ok (.lcmp, 1) := by decide +kernel
theorem dX2_gcd_27 : decode cX2_gcd 27 = .ok (.ifCond .eq 24, 3) := by decide +kernel
theorem dX2_gcd_30 : decode cX2_gcd 30 = .ok (.lload 4, 2) := by decide +kernel
theorem dX2_gcd_32 : decode cX2_gcd 32 = .ok (.lload 6, 2) := by decide +kernel
theorem dX2_gcd_34 : decode cX2_gcd 34 = .ok (.lrem, 1) := by decide +kernel
theorem dX2_gcd_35 : decode cX2_gcd 35 = .ok (.lstore 9, 2) := by decide +kernel
theorem dX2_gcd_37 : decode cX2_gcd 37 = .ok (.lload 6, 2) := by decide +kernel
theorem dX2_gcd_39 : decode cX2_gcd 39 = .ok (.lstore 4, 2) := by decide +kernel
theorem dX2_gcd_41 : decode cX2_gcd 41 = .ok (.lload 9, 2) := by decide +kernel
theorem dX2_gcd_43 : decode cX2_gcd 43 = .ok (.lstore 6, 2) := by decide +kernel
theorem dX2_gcd_45 : decode cX2_gcd 45 = .ok (.iinc 8 1, 3) := by decide +kernel
theorem dX2_gcd_48 : decode cX2_gcd 48 = .ok (.goto (-33), 3) := by decide +kernel
theorem dX2_gcd_51 : decode cX2_gcd 51 = .ok (.lload 4, 2) := by decide +kernel
theorem dX2_gcd_53 : decode cX2_gcd 53 = .ok (.lreturn, 1) := by decide +kernel
theorem dX2_partOf_0 : decode cX2_partOf 0 = .ok (.lload_n 0, 1) := by decide +kernel
theorem dX2_partOf_1 : decode cX2_partOf 1 = .ok (.lload_n 2, 1) := by decide +kernel
theorem dX2_partOf_2 : decode cX2_partOf 2 = .ok (.invokestatic 15, 3) := by decide +kernel
theorem dX2_partOf_5 : decode cX2_partOf 5 = .ok (.lstore 5, 2) := by decide +kernel
theorem dX2_partOf_7 : decode cX2_partOf 7 = .ok (.iload 4, 2) := by decide +kernel
theorem dX2_partOf_9 : decode cX2_partOf 9 = .ok (.ifCond .ne 7, 3) := by decide +kernel
theorem dX2_partOf_12 : decode cX2_partOf 12 = .ok (.lload_n 0, 1) := by decide +kernel
theorem dX2_partOf_13 : decode cX2_partOf 13 = .ok (.goto 4, 3) := by decide +kernel
theorem dX2_partOf_16 : decode cX2_partOf 16 = .ok (.lload_n 2, 1) := by decide +kernel
theorem dX2_partOf_17 : decode cX2_partOf 17 = .ok (.lstore 7, 2) := by decide +kernel
theorem dX2_partOf_19 : decode cX2_partOf 19 = .ok (.lload 5, 2) := by decide +kernel
theorem dX2_partOf_21 : decode cX2_partOf 21 = .ok (.lconst 0, 1) := by decide +kernel
theorem dX2_partOf_22 : decode cX2_partOf 22 = .ok (.lcmp, 1) := by decide +kernel
theorem dX2_partOf_23 : decode cX2_partOf 23 = .ok (.ifCond .ne 7, 3) := by decide +kernel
theorem dX2_partOf_26 : decode cX2_partOf 26 = .ok (.lconst 0, 1) := by decide +kernel
theorem dX2_partOf_27 : decode cX2_partOf 27 = .ok (.goto 8, 3) := by decide +kernel
theorem dX2_partOf_30 : decode cX2_partOf 30 = .ok (.lload 7, 2) := by decide +kernel
theorem dX2_partOf_32 : decode cX2_partOf 32 = .ok (.lload 5, 2) := by decide +kernel
theorem dX2_partOf_34 : decode cX2_partOf 34 = .ok (.ldiv, 1) := by decide +kernel
theorem dX2_partOf_35 : decode cX2_partOf 35 = .ok (.lreturn, 1) := by decide +kernel
theorem dX3_init_0 : decode cX3_init 0 = .ok (.aload_n 0, 1) := by decide +kernel
theorem dX3_init_1 : decode cX3_init 1 = .ok (.invokespecial 3, 3) := by decide +kernel
theorem dX3_init_4 : decode cX3_init 4 = .ok (.aload_n 0, 1) := by decide +kernel
theorem dX3_init_5 : decode cX3_init 5 = .ok (.iconst 4, 1) := by decide +kernel
theorem dX3_init_6 : decode cX3_init 6 = .ok (.bipush 8, 2) := by decide +kernel
theorem dX3_init_8 : decode cX3_init 8 = .ok (.multianewarray 9 2, 4) := by decide +kernel
theorem dX3_init_12 : decode cX3_init 12 = .ok (.putfield 11, 3) := by decide +kernel
theorem dX3_init_15 : decode cX3_init 15 = .ok (.return_, 1) := by decide +kernel
theorem dX3_bestValue_0 : decode cX3_bestValue 0 = .ok (.aload_n 0, 1) := by decide +kernel
theorem dX3_bestValue_1 : decode cX3_bestValue 1 = .ok (.aload_n 1, 1) := by decide +kernel
theorem dX3_bestValue_2 : decode cX3_bestValue 2 = .ok (.iload_n 2, 1) := by decide +kernel
theorem dX3_bestValue_3 : decode cX3_bestValue 3 = .ok (.invokevirtual 16, 3) := by decide +kernel
theorem dX3_bestValue_6 : decode cX3_bestValue 6 = .ok (.aload_n 1, 1) := by decide +kernel
theorem dX3_bestValue_7 : decode cX3_bestValue 7 = .ok (.aload_n 0, 1) := by decide +kernel
theorem dX3_bestValue_8 : decode cX3_bestValue 8 = .ok (.getfield 11, 3) := by decide +kernel
theorem dX3_bestValue_11 : decode cX3_bestValue 11 = .ok (.iload_n 2, 1) := by decide +kernel
theorem dX3_bestValue_12 : decode cX3_bestValue 12 = .ok (.invokestatic 20, 3) := by decide +kernel
theorem dX3_bestValue_15 : decode cX3_bestValue 15 = .ok (.lreturn, 1) := by decide +kernel
theorem dX3_bestFirstTest_0 : decode cX3_bestFirstTest 0 = .ok (.aload_n 0, 1) := by decide +kernel
theorem dX3_bestFirstTest_1 : decode cX3_bestFirstTest 1 = .ok (.aload_n 1, 1) := by decide +kernel
theorem dX3_bestFirstTest_2 : decode cX3_bestFirstTest 2 = .ok (.iload_n 2, 1) := by decide +kernel
theorem dX3_bestFirstTest_3 : decode cX3_bestFirstTest 3 = .ok (.invokevirtual 16, 3) := by decide +kernel
theorem dX3_bestFirstTest_6 : decode cX3_bestFirstTest 6 = .ok (.ldc2_w 24, 3) := by decide +kernel
theorem dX3_bestFirstTest_9 : decode cX3_bestFirstTest 9 = .ok (.lstore_n 3, 1) := by decide +kernel
theorem dX3_bestFirstTest_10 : decode cX3_bestFirstTest 10 = .ok (.iconst (-1), 1) := by decide +kernel
theorem dX3_bestFirstTest_11 : decode cX3_bestFirstTest 11 = .ok (.istore 5, 2) := by decide +kernel
theorem dX3_bestFirstTest_13 : decode cX3_bestFirstTest 13 = .ok (.iconst 0, 1) := by decide +kernel
theorem dX3_bestFirstTest_14 : decode cX3_bestFirstTest 14 = .ok (.istore 6, 2) := by decide +kernel
theorem dX3_bestFirstTest_16 : decode cX3_bestFirstTest 16 = .ok (.iload 6, 2) := by decide +kernel
theorem dX3_bestFirstTest_18 : decode cX3_bestFirstTest 18 = .ok (.aload_n 1, 1) := by decide +kernel
theorem dX3_bestFirstTest_19 : decode cX3_bestFirstTest 19 = .ok (.getfield 26, 3) := by decide +kernel
theorem dX3_bestFirstTest_22 : decode cX3_bestFirstTest 22 = .ok (.if_icmp .ge 36, 3) := by decide +kernel
theorem dX3_bestFirstTest_25 : decode cX3_bestFirstTest 25 = .ok (.aload_n 1, 1) := by decide +kernel
theorem dX3_bestFirstTest_26 : decode cX3_bestFirstTest 26 = .ok (.aload_n 0, 1) := by decide +kernel
theorem dX3_bestFirstTest_27 : decode cX3_bestFirstTest 27 = .ok (.getfield 11, 3) := by decide +kernel
theorem dX3_bestFirstTest_30 : decode cX3_bestFirstTest 30 = .ok (.iload_n 2, 1) := by decide +kernel
theorem dX3_bestFirstTest_31 : decode cX3_bestFirstTest 31 = .ok (.iload 6, 2) := by decide +kernel
theorem dX3_bestFirstTest_33 : decode cX3_bestFirstTest 33 = .ok (.invokestatic 32, 3) := by decide +kernel
theorem dX3_bestFirstTest_36 : decode cX3_bestFirstTest 36 = .ok (.lstore 7, 2) := by decide +kernel
theorem dX3_bestFirstTest_38 : decode cX3_bestFirstTest 38 = .ok (.lload 7, 2) := by decide +kernel
theorem dX3_bestFirstTest_40 : decode cX3_bestFirstTest 40 = .ok (.lload_n 3, 1) := by decide +kernel
theorem dX3_bestFirstTest_41 : decode cX3_bestFirstTest 41 = .ok (.lcmp, 1) := by decide +kernel
theorem dX3_bestFirstTest_42 : decode cX3_bestFirstTest 42 = .ok (.ifCond .le 10, 3) := by decide +kernel
theorem dX3_bestFirstTest_45 : decode cX3_bestFirstTest 45 = .ok (.lload 7, 2) := by decide +kernel
theorem dX3_bestFirstTest_47 : decode cX3_bestFirstTest 47 = .ok (.lstore_n 3, 1) := by decide +kernel
theorem dX3_bestFirstTest_48 : decode cX3_bestFirstTest 48 = .ok (.iload 6, 2) := by decide +kernel
theorem dX3_bestFirstTest_50 : decode cX3_bestFirstTest 50 = .ok (.istore 5, 2) := by decide +kernel
theorem dX3_bestFirstTest_52 : decode cX3_bestFirstTest 52 = .ok (.iinc 6 1, 3) := by decide +kernel
theorem dX3_bestFirstTest_55 : decode cX3_bestFirstTest 55 = .ok (.goto (-39), 3) := by decide +kernel
theorem dX3_bestFirstTest_58 : decode cX3_bestFirstTest 58 = .ok (.iload 5, 2) := by decide +kernel
theorem dX3_bestFirstTest_60 : decode cX3_bestFirstTest 60 = .ok (.ireturn, 1) := by decide +kernel
theorem dX3_begin_0 : decode cX3_begin 0 = .ok (.aload_n 1, 1) := by decide +kernel
theorem dX3_begin_1 : decode cX3_begin 1 = .ok (.getfield 36, 3) := by decide +kernel
theorem dX3_begin_4 : decode cX3_begin 4 = .ok (.iconst 0, 1) := by decide +kernel
theorem dX3_begin_5 : decode cX3_begin 5 = .ok (.aload_n 0, 1) := by decide +kernel
theorem dX3_begin_6 : decode cX3_begin 6 = .ok (.getfield 11, 3) := by decide +kernel
theorem dX3_begin_9 : decode cX3_begin 9 = .ok (.iload_n 2, 1) := by decide +kernel
theorem dX3_begin_10 : decode cX3_begin 10 = .ok (.aaload, 1) := by decide +kernel
theorem dX3_begin_11 : decode cX3_begin 11 = .ok (.iconst 0, 1) := by decide +kernel
theorem dX3_begin_12 : decode cX3_begin 12 = .ok (.bipush 8, 2) := by decide +kernel
theorem dX3_begin_14 : decode cX3_begin 14 = .ok (.invokestatic 40, 3) := by decide +kernel
theorem dX3_begin_17 : decode cX3_begin 17 = .ok (.return_, 1) := by decide +kernel
theorem dX3_greatestValue_0 : decode cX3_greatestValue 0 = .ok (.iload_n 2, 1) := by decide +kernel
theorem dX3_greatestValue_1 : decode cX3_greatestValue 1 = .ok (.ifCond .gt 11, 3) := by decide +kernel
theorem dX3_greatestValue_4 : decode cX3_greatestValue 4 = .ok (.aload_n 0, 1) := by decide +kernel
theorem dX3_greatestValue_5 : decode cX3_greatestValue 5 = .ok (.aload_n 1, 1) := by decide +kernel
theorem dX3_greatestValue_6 : decode cX3_greatestValue 6 = .ok (.iconst 0, 1) := by decide +kernel
theorem dX3_greatestValue_7 : decode cX3_greatestValue 7 = .ok (.aaload, 1) := by decide +kernel
theorem dX3_greatestValue_8 : decode cX3_greatestValue 8 = .ok (.invokevirtual 46, 3) := by decide +kernel
theorem dX3_greatestValue_11 : decode cX3_greatestValue 11 = .ok (.lreturn, 1) := by decide +kernel
theorem dX3_greatestValue_12 : decode cX3_greatestValue 12 = .ok (.lconst 0, 1) := by decide +kernel
theorem dX3_greatestValue_13 : decode cX3_greatestValue 13 = .ok (.lstore_n 3, 1) := by decide +kernel
theorem dX3_greatestValue_14 : decode cX3_greatestValue 14 = .ok (.iconst 0, 1) := by decide +kernel
theorem dX3_greatestValue_15 : decode cX3_greatestValue 15 = .ok (.istore 5, 2) := by decide +kernel
theorem dX3_greatestValue_17 : decode cX3_greatestValue 17 = .ok (.iload 5, 2) := by decide +kernel
theorem dX3_greatestValue_19 : decode cX3_greatestValue 19 = .ok (.aload_n 0, 1) := by decide +kernel
theorem dX3_greatestValue_20 : decode cX3_greatestValue 20 = .ok (.getfield 26, 3) := by decide +kernel
theorem dX3_greatestValue_23 : decode cX3_greatestValue 23 = .ok (.if_icmp .ge 22, 3) := by decide +kernel
theorem dX3_greatestValue_26 : decode cX3_greatestValue 26 = .ok (.lload_n 3, 1) := by decide +kernel
theorem dX3_greatestValue_27 : decode cX3_greatestValue 27 = .ok (.aload_n 0, 1) := by decide +kernel
theorem dX3_greatestValue_28 : decode cX3_greatestValue 28 = .ok (.aload_n 1, 1) := by decide +kernel
theorem dX3_greatestValue_29 : decode cX3_greatestValue 29 = .ok (.iload_n 2, 1) := by decide +kernel
theorem dX3_greatestValue_30 : decode cX3_greatestValue 30 = .ok (.iload 5, 2) := by decide +kernel
theorem dX3_greatestValue_32 : decode cX3_greatestValue 32 = .ok (.invokestatic 32, 3) := by decide +kernel
theorem dX3_greatestValue_35 : decode cX3_greatestValue 35 = .ok (.invokestatic 50, 3) := by decide +kernel
theorem dX3_greatestValue_38 : decode cX3_greatestValue 38 = .ok (.lstore_n 3, 1) := by decide +kernel
theorem dX3_greatestValue_39 : decode cX3_greatestValue 39 = .ok (.iinc 5 1, 3) := by decide +kernel
theorem dX3_greatestValue_42 : decode cX3_greatestValue 42 = .ok (.goto (-25), 3) := by decide +kernel
theorem dX3_greatestValue_45 : decode cX3_greatestValue 45 = .ok (.lload_n 3, 1) := by decide +kernel
theorem dX3_greatestValue_46 : decode cX3_greatestValue 46 = .ok (.lreturn, 1) := by decide +kernel
theorem dX3_valueOfTest_0 : decode cX3_valueOfTest 0 = .ok (.iload_n 2, 1) := by decide +kernel
theorem dX3_valueOfTest_1 : decode cX3_valueOfTest 1 = .ok (.ifCond .le 8, 3) := by decide +kernel
theorem dX3_valueOfTest_4 : decode cX3_valueOfTest 4 = .ok (.iload_n 2, 1) := by decide +kernel
theorem dX3_valueOfTest_5 : decode cX3_valueOfTest 5 = .ok (.iconst 3, 1) := by decide +kernel
theorem dX3_valueOfTest_6 : decode cX3_valueOfTest 6 = .ok (.if_icmp .le 5, 3) := by decide +kernel
theorem dX3_valueOfTest_9 : decode cX3_valueOfTest 9 = .ok (.lconst 0, 1) := by decide +kernel
theorem dX3_valueOfTest_10 : decode cX3_valueOfTest 10 = .ok (.lreturn, 1) := by decide +kernel
theorem dX3_valueOfTest_11 : decode cX3_valueOfTest 11 = .ok (.lconst 0, 1) := by decide +kernel
theorem dX3_valueOfTest_12 : decode cX3_valueOfTest 12 = .ok (.lstore 4, 2) := by decide +kernel
theorem dX3_valueOfTest_14 : decode cX3_valueOfTest 14 = .ok (.iconst 0, 1) := by decide +kernel
theorem dX3_valueOfTest_15 : decode cX3_valueOfTest 15 = .ok (.istore 6, 2) := by decide +kernel
theorem dX3_valueOfTest_17 : decode cX3_valueOfTest 17 = .ok (.iload 6, 2) := by decide +kernel
theorem dX3_valueOfTest_19 : decode cX3_valueOfTest 19 = .ok (.iconst 3, 1) := by decide +kernel
theorem dX3_valueOfTest_20 : decode cX3_valueOfTest 20 = .ok (.if_icmp .ge 37, 3) := by decide +kernel
theorem dX3_valueOfTest_23 : decode cX3_valueOfTest 23 = .ok (.aload_n 0, 1) := by decide +kernel
theorem dX3_valueOfTest_24 : decode cX3_valueOfTest 24 = .ok (.aload_n 1, 1) := by decide +kernel
theorem dX3_valueOfTest_25 : decode cX3_valueOfTest 25 = .ok (.iload_n 2, 1) := by decide +kernel
theorem dX3_valueOfTest_26 : decode cX3_valueOfTest 26 = .ok (.aaload, 1) := by decide +kernel
theorem dX3_valueOfTest_27 : decode cX3_valueOfTest 27 = .ok (.iload_n 3, 1) := by decide +kernel
theorem dX3_valueOfTest_28 : decode cX3_valueOfTest 28 = .ok (.iload 6, 2) := by decide +kernel
theorem dX3_valueOfTest_30 : decode cX3_valueOfTest 30 = .ok (.aload_n 1, 1) := by decide +kernel
theorem dX3_valueOfTest_31 : decode cX3_valueOfTest 31 = .ok (.iload_n 2, 1) := by decide +kernel
theorem dX3_valueOfTest_32 : decode cX3_valueOfTest 32 = .ok (.iconst 1, 1) := by decide +kernel
theorem dX3_valueOfTest_33 : decode cX3_valueOfTest 33 = .ok (.isub, 1) := by decide +kernel
theorem dX3_valueOfTest_34 : decode cX3_valueOfTest 34 = .ok (.aaload, 1) := by decide +kernel
theorem dX3_valueOfTest_35 : decode cX3_valueOfTest 35 = .ok (.invokevirtual 56, 3) := by decide +kernel
theorem dX3_valueOfTest_38 : decode cX3_valueOfTest 38 = .ok (.lload 4, 2) := by decide +kernel
theorem dX3_valueOfTest_40 : decode cX3_valueOfTest 40 = .ok (.aload_n 0, 1) := by decide +kernel
theorem dX3_valueOfTest_41 : decode cX3_valueOfTest 41 = .ok (.aload_n 1, 1) := by decide +kernel
theorem dX3_valueOfTest_42 : decode cX3_valueOfTest 42 = .ok (.iload_n 2, 1) := by decide +kernel
theorem dX3_valueOfTest_43 : decode cX3_valueOfTest 43 = .ok (.iconst 1, 1) := by decide +kernel
theorem dX3_valueOfTest_44 : decode cX3_valueOfTest 44 = .ok (.isub, 1) := by decide +kernel
theorem dX3_valueOfTest_45 : decode cX3_valueOfTest 45 = .ok (.invokestatic 20, 3) := by decide +kernel
theorem dX3_valueOfTest_48 : decode cX3_valueOfTest 48 = .ok (.ladd, 1) := by decide +kernel
theorem dX3_valueOfTest_49 : decode cX3_valueOfTest 49 = .ok (.lstore 4, 2) := by decide +kernel
theorem dX3_valueOfTest_51 : decode cX3_valueOfTest 51 = .ok (.iinc 6 1, 3) := by decide +kernel
theorem dX3_valueOfTest_54 : decode cX3_valueOfTest 54 = .ok (.goto (-37), 3) := by decide +kernel
theorem dX3_valueOfTest_57 : decode cX3_valueOfTest 57 = .ok (.lload 4, 2) := by decide +kernel
theorem dX3_valueOfTest_59 : decode cX3_valueOfTest 59 = .ok (.lreturn, 1) := by decide +kernel
theorem dX4_init_0 : decode cX4_init 0 = .ok (.aload_n 0, 1) := by decide +kernel
theorem dX4_init_1 : decode cX4_init 1 = .ok (.invokespecial 3, 3) := by decide +kernel
theorem dX4_init_4 : decode cX4_init 4 = .ok (.aload_n 0, 1) := by decide +kernel
theorem dX4_init_5 : decode cX4_init 5 = .ok (.iconst 3, 1) := by decide +kernel
theorem dX4_init_6 : decode cX4_init 6 = .ok (.newarray .int, 2) := by decide +kernel
theorem dX4_init_8 : decode cX4_init 8 = .ok (.dup, 1) := by decide +kernel
theorem dX4_init_9 : decode cX4_init 9 = .ok (.iconst 0, 1) := by decide +kernel
theorem dX4_init_10 : decode cX4_init 10 = .ok (.iconst 0, 1) := by decide +kernel
theorem dX4_init_11 : decode cX4_init 11 = .ok (.iastore, 1) := by decide +kernel
theorem dX4_init_12 : decode cX4_init 12 = .ok (.dup, 1) := by decide +kernel
theorem dX4_init_13 : decode cX4_init 13 = .ok (.iconst 1, 1) := by decide +kernel
theorem dX4_init_14 : decode cX4_init 14 = .ok (.bipush 100, 2) := by decide +kernel
theorem dX4_init_16 : decode cX4_init 16 = .ok (.iastore, 1) := by decide +kernel
theorem dX4_init_17 : decode cX4_init 17 = .ok (.dup, 1) := by decide +kernel
theorem dX4_init_18 : decode cX4_init 18 = .ok (.iconst 2, 1) := by decide +kernel
theorem dX4_init_19 : decode cX4_init 19 = .ok (.iconst 0, 1) := by decide +kernel
theorem dX4_init_20 : decode cX4_init 20 = .ok (.iastore, 1) := by decide +kernel
theorem dX4_init_21 : decode cX4_init 21 = .ok (.putfield 9, 3) := by decide +kernel
theorem dX4_init_24 : decode cX4_init 24 = .ok (.aload_n 0, 1) := by decide +kernel
theorem dX4_init_25 : decode cX4_init 25 = .ok (.iconst 3, 1) := by decide +kernel
theorem dX4_init_26 : decode cX4_init 26 = .ok (.newarray .int, 2) := by decide +kernel
theorem dX4_init_28 : decode cX4_init 28 = .ok (.dup, 1) := by decide +kernel
theorem dX4_init_29 : decode cX4_init 29 = .ok (.iconst 0, 1) := by decide +kernel
theorem dX4_init_30 : decode cX4_init 30 = .ok (.iconst 0, 1) := by decide +kernel
theorem dX4_init_31 : decode cX4_init 31 = .ok (.iastore, 1) := by decide +kernel
theorem dX4_init_32 : decode cX4_init 32 = .ok (.dup, 1) := by decide +kernel
theorem dX4_init_33 : decode cX4_init 33 = .ok (.iconst 1, 1) := by decide +kernel
theorem dX4_init_34 : decode cX4_init 34 = .ok (.iconst 0, 1) := by decide +kernel
theorem dX4_init_35 : decode cX4_init 35 = .ok (.iastore, 1) := by decide +kernel
theorem dX4_init_36 : decode cX4_init 36 = .ok (.dup, 1) := by decide +kernel
theorem dX4_init_37 : decode cX4_init 37 = .ok (.iconst 2, 1) := by decide +kernel
theorem dX4_init_38 : decode cX4_init 38 = .ok (.bipush 100, 2) := by decide +kernel
theorem dX4_init_40 : decode cX4_init 40 = .ok (.iastore, 1) := by decide +kernel
theorem dX4_init_41 : decode cX4_init 41 = .ok (.putfield 15, 3) := by decide +kernel
theorem dX4_init_44 : decode cX4_init 44 = .ok (.aload_n 0, 1) := by decide +kernel
theorem dX4_init_45 : decode cX4_init 45 = .ok (.iconst 3, 1) := by decide +kernel
theorem dX4_init_46 : decode cX4_init 46 = .ok (.newarray .int, 2) := by decide +kernel
theorem dX4_init_48 : decode cX4_init 48 = .ok (.dup, 1) := by decide +kernel
theorem dX4_init_49 : decode cX4_init 49 = .ok (.iconst 0, 1) := by decide +kernel
theorem dX4_init_50 : decode cX4_init 50 = .ok (.sipush 5000, 3) := by decide +kernel
theorem dX4_init_53 : decode cX4_init 53 = .ok (.iastore, 1) := by decide +kernel
theorem dX4_init_54 : decode cX4_init 54 = .ok (.dup, 1) := by decide +kernel
theorem dX4_init_55 : decode cX4_init 55 = .ok (.iconst 1, 1) := by decide +kernel
theorem dX4_init_56 : decode cX4_init 56 = .ok (.sipush 5000, 3) := by decide +kernel
theorem dX4_init_59 : decode cX4_init 59 = .ok (.iastore, 1) := by decide +kernel
theorem dX4_init_60 : decode cX4_init 60 = .ok (.dup, 1) := by decide +kernel
theorem dX4_init_61 : decode cX4_init 61 = .ok (.iconst 2, 1) := by decide +kernel
theorem dX4_init_62 : decode cX4_init 62 = .ok (.sipush 5000, 3) := by decide +kernel
theorem dX4_init_65 : decode cX4_init 65 = .ok (.iastore, 1) := by decide +kernel
theorem dX4_init_66 : decode cX4_init 66 = .ok (.putfield 18, 3) := by decide +kernel
theorem dX4_init_69 : decode cX4_init 69 = .ok (.aload_n 0, 1) := by decide +kernel
theorem dX4_init_70 : decode cX4_init 70 = .ok (.bipush 8, 2) := by decide +kernel
theorem dX4_init_72 : decode cX4_init 72 = .ok (.newarray .int, 2) := by decide +kernel
theorem dX4_init_74 : decode cX4_init 74 = .ok (.putfield 21, 3) := by decide +kernel
theorem dX4_init_77 : decode cX4_init 77 = .ok (.aload_n 0, 1) := by decide +kernel
theorem dX4_init_78 : decode cX4_init 78 = .ok (.bipush 8, 2) := by decide +kernel
theorem dX4_init_80 : decode cX4_init 80 = .ok (.newarray .int, 2) := by decide +kernel
theorem dX4_init_82 : decode cX4_init 82 = .ok (.putfield 24, 3) := by decide +kernel
theorem dX4_init_85 : decode cX4_init 85 = .ok (.aload_n 0, 1) := by decide +kernel
theorem dX4_init_86 : decode cX4_init 86 = .ok (.bipush 8, 2) := by decide +kernel
theorem dX4_init_88 : decode cX4_init 88 = .ok (.newarray .int, 2) := by decide +kernel
theorem dX4_init_90 : decode cX4_init 90 = .ok (.putfield 27, 3) := by decide +kernel
theorem dX4_init_93 : decode cX4_init 93 = .ok (.return_, 1) := by decide +kernel
theorem dX4_copyFrom_0 : decode cX4_copyFrom 0 = .ok (.aload_n 1, 1) := by decide +kernel
theorem dX4_copyFrom_1 : decode cX4_copyFrom 1 = .ok (.getfield 9, 3) := by decide +kernel
theorem dX4_copyFrom_4 : decode cX4_copyFrom 4 = .ok (.iconst 0, 1) := by decide +kernel
theorem dX4_copyFrom_5 : decode cX4_copyFrom 5 = .ok (.aload_n 0, 1) := by decide +kernel
theorem dX4_copyFrom_6 : decode cX4_copyFrom 6 = .ok (.getfield 9, 3) := by decide +kernel
theorem dX4_copyFrom_9 : decode cX4_copyFrom 9 = .ok (.iconst 0, 1) := by decide +kernel
theorem dX4_copyFrom_10 : decode cX4_copyFrom 10 = .ok (.iconst 3, 1) := by decide +kernel
theorem dX4_copyFrom_11 : decode cX4_copyFrom 11 = .ok (.invokestatic 30, 3) := by decide +kernel
theorem dX4_copyFrom_14 : decode cX4_copyFrom 14 = .ok (.aload_n 1, 1) := by decide +kernel
theorem dX4_copyFrom_15 : decode cX4_copyFrom 15 = .ok (.getfield 15, 3) := by decide +kernel
theorem dX4_copyFrom_18 : decode cX4_copyFrom 18 = .ok (.iconst 0, 1) := by decide +kernel
theorem dX4_copyFrom_19 : decode cX4_copyFrom 19 = .ok (.aload_n 0, 1) := by decide +kernel
theorem dX4_copyFrom_20 : decode cX4_copyFrom 20 = .ok (.getfield 15, 3) := by decide +kernel
theorem dX4_copyFrom_23 : decode cX4_copyFrom 23 = .ok (.iconst 0, 1) := by decide +kernel
theorem dX4_copyFrom_24 : decode cX4_copyFrom 24 = .ok (.iconst 3, 1) := by decide +kernel
theorem dX4_copyFrom_25 : decode cX4_copyFrom 25 = .ok (.invokestatic 30, 3) := by decide +kernel
theorem dX4_copyFrom_28 : decode cX4_copyFrom 28 = .ok (.aload_n 1, 1) := by decide +kernel
theorem dX4_copyFrom_29 : decode cX4_copyFrom 29 = .ok (.getfield 18, 3) := by decide +kernel
theorem dX4_copyFrom_32 : decode cX4_copyFrom 32 = .ok (.iconst 0, 1) := by decide +kernel
theorem dX4_copyFrom_33 : decode cX4_copyFrom 33 = .ok (.aload_n 0, 1) := by decide +kernel
theorem dX4_copyFrom_34 : decode cX4_copyFrom 34 = .ok (.getfield 18, 3) := by decide +kernel
theorem dX4_copyFrom_37 : decode cX4_copyFrom 37 = .ok (.iconst 0, 1) := by decide +kernel
theorem dX4_copyFrom_38 : decode cX4_copyFrom 38 = .ok (.iconst 3, 1) := by decide +kernel
theorem dX4_copyFrom_39 : decode cX4_copyFrom 39 = .ok (.invokestatic 30, 3) := by decide +kernel
theorem dX4_copyFrom_42 : decode cX4_copyFrom 42 = .ok (.aload_n 0, 1) := by decide +kernel
theorem dX4_copyFrom_43 : decode cX4_copyFrom 43 = .ok (.aload_n 1, 1) := by decide +kernel
theorem dX4_copyFrom_44 : decode cX4_copyFrom 44 = .ok (.getfield 36, 3) := by decide +kernel
theorem dX4_copyFrom_47 : decode cX4_copyFrom 47 = .ok (.putfield 36, 3) := by decide +kernel
theorem dX4_copyFrom_50 : decode cX4_copyFrom 50 = .ok (.aload_n 1, 1) := by decide +kernel
theorem dX4_copyFrom_51 : decode cX4_copyFrom 51 = .ok (.getfield 21, 3) := by decide +kernel
theorem dX4_copyFrom_54 : decode cX4_copyFrom 54 = .ok (.iconst 0, 1) := by decide +kernel
theorem dX4_copyFrom_55 : decode cX4_copyFrom 55 = .ok (.aload_n 0, 1) := by decide +kernel
theorem dX4_copyFrom_56 : decode cX4_copyFrom 56 = .ok (.getfield 21, 3) := by decide +kernel
theorem dX4_copyFrom_59 : decode cX4_copyFrom 59 = .ok (.iconst 0, 1) := by decide +kernel
theorem dX4_copyFrom_60 : decode cX4_copyFrom 60 = .ok (.bipush 8, 2) := by decide +kernel
theorem dX4_copyFrom_62 : decode cX4_copyFrom 62 = .ok (.invokestatic 30, 3) := by decide +kernel
theorem dX4_copyFrom_65 : decode cX4_copyFrom 65 = .ok (.aload_n 1, 1) := by decide +kernel
theorem dX4_copyFrom_66 : decode cX4_copyFrom 66 = .ok (.getfield 24, 3) := by decide +kernel
theorem dX4_copyFrom_69 : decode cX4_copyFrom 69 = .ok (.iconst 0, 1) := by decide +kernel
theorem dX4_copyFrom_70 : decode cX4_copyFrom 70 = .ok (.aload_n 0, 1) := by decide +kernel
theorem dX4_copyFrom_71 : decode cX4_copyFrom 71 = .ok (.getfield 24, 3) := by decide +kernel
theorem dX4_copyFrom_74 : decode cX4_copyFrom 74 = .ok (.iconst 0, 1) := by decide +kernel
theorem dX4_copyFrom_75 : decode cX4_copyFrom 75 = .ok (.bipush 8, 2) := by decide +kernel
theorem dX4_copyFrom_77 : decode cX4_copyFrom 77 = .ok (.invokestatic 30, 3) := by decide +kernel
theorem dX4_copyFrom_80 : decode cX4_copyFrom 80 = .ok (.aload_n 1, 1) := by decide +kernel
theorem dX4_copyFrom_81 : decode cX4_copyFrom 81 = .ok (.getfield 27, 3) := by decide +kernel
theorem dX4_copyFrom_84 : decode cX4_copyFrom 84 = .ok (.iconst 0, 1) := by decide +kernel
theorem dX4_copyFrom_85 : decode cX4_copyFrom 85 = .ok (.aload_n 0, 1) := by decide +kernel
theorem dX4_copyFrom_86 : decode cX4_copyFrom 86 = .ok (.getfield 27, 3) := by decide +kernel
theorem dX4_copyFrom_89 : decode cX4_copyFrom 89 = .ok (.iconst 0, 1) := by decide +kernel
theorem dX4_copyFrom_90 : decode cX4_copyFrom 90 = .ok (.bipush 8, 2) := by decide +kernel
theorem dX4_copyFrom_92 : decode cX4_copyFrom 92 = .ok (.invokestatic 30, 3) := by decide +kernel
theorem dX4_copyFrom_95 : decode cX4_copyFrom 95 = .ok (.return_, 1) := by decide +kernel
theorem dX4_changeCell_0 : decode cX4_changeCell 0 = .ok (.aload_n 0, 1) := by decide +kernel
theorem dX4_changeCell_1 : decode cX4_changeCell 1 = .ok (.getfield 18, 3) := by decide +kernel
theorem dX4_changeCell_4 : decode cX4_changeCell 4 = .ok (.iload_n 1, 1) := by decide +kernel
theorem dX4_changeCell_5 : decode cX4_changeCell 5 = .ok (.iaload, 1) := by decide +kernel
theorem dX4_changeCell_6 : decode cX4_changeCell 6 = .ok (.istore 5, 2) := by decide +kernel
theorem dX4_changeCell_8 : decode cX4_changeCell 8 = .ok (.aload_n 0, 1) := by decide +kernel
theorem dX4_changeCell_9 : decode cX4_changeCell 9 = .ok (.getfield 9, 3) := by decide +kernel
theorem dX4_changeCell_12 : decode cX4_changeCell 12 = .ok (.iload_n 1, 1) := by decide +kernel
theorem dX4_changeCell_13 : decode cX4_changeCell 13 = .ok (.iload_n 2, 1) := by decide +kernel
theorem dX4_changeCell_14 : decode cX4_changeCell 14 = .ok (.iastore, 1) := by decide +kernel
theorem dX4_changeCell_15 : decode cX4_changeCell 15 = .ok (.aload_n 0, 1) := by decide +kernel
theorem dX4_changeCell_16 : decode cX4_changeCell 16 = .ok (.getfield 15, 3) := by decide +kernel
theorem dX4_changeCell_19 : decode cX4_changeCell 19 = .ok (.iload_n 1, 1) := by decide +kernel
theorem dX4_changeCell_20 : decode cX4_changeCell 20 = .ok (.iload_n 3, 1) := by decide +kernel
theorem dX4_changeCell_21 : decode cX4_changeCell 21 = .ok (.iastore, 1) := by decide +kernel
theorem dX4_changeCell_22 : decode cX4_changeCell 22 = .ok (.aload_n 0, 1) := by decide +kernel
theorem dX4_changeCell_23 : decode cX4_changeCell 23 = .ok (.getfield 18, 3) := by decide +kernel
theorem dX4_changeCell_26 : decode cX4_changeCell 26 = .ok (.iload_n 1, 1) := by decide +kernel
theorem dX4_changeCell_27 : decode cX4_changeCell 27 = .ok (.iload 4, 2) := by decide +kernel
theorem dX4_changeCell_29 : decode cX4_changeCell 29 = .ok (.iastore, 1) := by decide +kernel
theorem dX4_changeCell_30 : decode cX4_changeCell 30 = .ok (.iload 5, 2) := by decide +kernel
theorem dX4_changeCell_32 : decode cX4_changeCell 32 = .ok (.ireturn, 1) := by decide +kernel
theorem dX4_addObject_0 : decode cX4_addObject 0 = .ok (.aload_n 0, 1) := by decide +kernel
theorem dX4_addObject_1 : decode cX4_addObject 1 = .ok (.getfield 36, 3) := by decide +kernel
theorem dX4_addObject_4 : decode cX4_addObject 4 = .ok (.istore 4, 2) := by decide +kernel
theorem dX4_addObject_6 : decode cX4_addObject 6 = .ok (.aload_n 0, 1) := by decide +kernel
theorem dX4_addObject_7 : decode cX4_addObject 7 = .ok (.getfield 21, 3) := by decide +kernel
theorem dX4_addObject_10 : decode cX4_addObject 10 = .ok (.iload 4, 2) := by decide +kernel
theorem dX4_addObject_12 : decode cX4_addObject 12 = .ok (.iload_n 1, 1) := by decide +kernel
theorem dX4_addObject_13 : decode cX4_addObject 13 = .ok (.iastore, 1) := by decide +kernel
theorem dX4_addObject_14 : decode cX4_addObject 14 = .ok (.aload_n 0, 1) := by decide +kernel
theorem dX4_addObject_15 : decode cX4_addObject 15 = .ok (.getfield 24, 3) := by decide +kernel
theorem dX4_addObject_18 : decode cX4_addObject 18 = .ok (.iload 4, 2) := by decide +kernel
theorem dX4_addObject_20 : decode cX4_addObject 20 = .ok (.iload_n 2, 1) := by decide +kernel
theorem dX4_addObject_21 : decode cX4_addObject 21 = .ok (.iastore, 1) := by decide +kernel
theorem dX4_addObject_22 : decode cX4_addObject 22 = .ok (.aload_n 0, 1) := by decide +kernel
theorem dX4_addObject_23 : decode cX4_addObject 23 = .ok (.getfield 27, 3) := by decide +kernel
theorem dX4_addObject_26 : decode cX4_addObject 26 = .ok (.iload 4, 2) := by decide +kernel
theorem dX4_addObject_28 : decode cX4_addObject 28 = .ok (.iload_n 3, 1) := by decide +kernel
theorem dX4_addObject_29 : decode cX4_addObject 29 = .ok (.iastore, 1) := by decide +kernel
theorem dX4_addObject_30 : decode cX4_addObject 30 = .ok (.aload_n 0, 1) := by decide +kernel
theorem dX4_addObject_31 : decode cX4_addObject 31 = .ok (.dup, 1) := by decide +kernel
theorem dX4_addObject_32 : decode cX4_addObject 32 = .ok (.getfield 36, 3) := by decide +kernel
theorem dX4_addObject_35 : decode cX4_addObject 35 = .ok (.iconst 1, 1) := by decide +kernel
theorem dX4_addObject_36 : decode cX4_addObject 36 = .ok (.iadd, 1) := by decide +kernel
theorem dX4_addObject_37 : decode cX4_addObject 37 = .ok (.putfield 36, 3) := by decide +kernel
theorem dX4_addObject_40 : decode cX4_addObject 40 = .ok (.iload 4, 2) := by decide +kernel
theorem dX4_addObject_42 : decode cX4_addObject 42 = .ok (.ireturn, 1) := by decide +kernel
theorem dX4_removeObject_0 : decode cX4_removeObject 0 = .ok (.aload_n 0, 1) := by decide +kernel
theorem dX4_removeObject_1 : decode cX4_removeObject 1 = .ok (.getfield 27, 3) := by decide +kernel
theorem dX4_removeObject_4 : decode cX4_removeObject 4 = .ok (.iload_n 1, 1) := by decide +kernel
theorem dX4_removeObject_5 : decode cX4_removeObject 5 = .ok (.iaload, 1) := by decide +kernel
theorem dX4_removeObject_6 : decode cX4_removeObject 6 = .ok (.istore_n 2, 1) := by decide +kernel
theorem dX4_removeObject_7 : decode cX4_removeObject 7 = .ok (.iload_n 1, 1) := by decide +kernel
theorem dX4_removeObject_8 : decode cX4_removeObject 8 = .ok (.iconst 1, 1) := by decide +kernel
theorem dX4_removeObject_9 : decode cX4_removeObject 9 = .ok (.iadd, 1) := by decide +kernel
theorem dX4_removeObject_10 : decode cX4_removeObject 10 = .ok (.istore_n 3, 1) := by decide +kernel
theorem dX4_removeObject_11 : decode cX4_removeObject 11 = .ok (.iload_n 3, 1) := by decide +kernel
theorem dX4_removeObject_12 : decode cX4_removeObject 12 = .ok (.aload_n 0, 1) := by decide +kernel
theorem dX4_removeObject_13 : decode cX4_removeObject 13 = .ok (.getfield 36, 3) := by decide +kernel
theorem dX4_removeObject_16 : decode cX4_removeObject 16 = .ok (.if_icmp .ge 51, 3) := by decide +kernel
theorem dX4_removeObject_19 : decode cX4_removeObject 19 = .ok (.aload_n 0, 1) := by decide +kernel
theorem dX4_removeObject_20 : decode cX4_removeObject 20 = .ok (.getfield 21, 3) := by decide +kernel
theorem dX4_removeObject_23 : decode cX4_removeObject 23 = .ok (.iload_n 3, 1) := by decide +kernel
theorem dX4_removeObject_24 : decode cX4_removeObject 24 = .ok (.iconst 1, 1) := by decide +kernel
theorem dX4_removeObject_25 : decode cX4_removeObject 25 = .ok (.isub, 1) := by decide +kernel
theorem dX4_removeObject_26 : decode cX4_removeObject 26 = .ok (.aload_n 0, 1) := by decide +kernel
theorem dX4_removeObject_27 : decode cX4_removeObject 27 = .ok (.getfield 21, 3) := by decide +kernel
theorem dX4_removeObject_30 : decode cX4_removeObject 30 = .ok (.iload_n 3, 1) := by decide +kernel
theorem dX4_removeObject_31 : decode cX4_removeObject 31 = .ok (.iaload, 1) := by decide +kernel
theorem dX4_removeObject_32 : decode cX4_removeObject 32 = .ok (.iastore, 1) := by decide +kernel
theorem dX4_removeObject_33 : decode cX4_removeObject 33 = .ok (.aload_n 0, 1) := by decide +kernel
theorem dX4_removeObject_34 : decode cX4_removeObject 34 = .ok (.getfield 24, 3) := by decide +kernel
theorem dX4_removeObject_37 : decode cX4_removeObject 37 = .ok (.iload_n 3, 1) := by decide +kernel
theorem dX4_removeObject_38 : decode cX4_removeObject 38 = .ok (.iconst 1, 1) := by decide +kernel
theorem dX4_removeObject_39 : decode cX4_removeObject 39 = .ok (.isub, 1) := by decide +kernel
theorem dX4_removeObject_40 : decode cX4_removeObject 40 = .ok (.aload_n 0, 1) := by decide +kernel
theorem dX4_removeObject_41 : decode cX4_removeObject 41 = .ok (.getfield 24, 3) := by decide +kernel
theorem dX4_removeObject_44 : decode cX4_removeObject 44 = .ok (.iload_n 3, 1) := by decide +kernel
theorem dX4_removeObject_45 : decode cX4_removeObject 45 = .ok (.iaload, 1) := by decide +kernel
theorem dX4_removeObject_46 : decode cX4_removeObject 46 = .ok (.iastore, 1) := by decide +kernel
theorem dX4_removeObject_47 : decode cX4_removeObject 47 = .ok (.aload_n 0, 1) := by decide +kernel
theorem dX4_removeObject_48 : decode cX4_removeObject 48 = .ok (.getfield 27, 3) := by decide +kernel
theorem dX4_removeObject_51 : decode cX4_removeObject 51 = .ok (.iload_n 3, 1) := by decide +kernel
theorem dX4_removeObject_52 : decode cX4_removeObject 52 = .ok (.iconst 1, 1) := by decide +kernel
theorem dX4_removeObject_53 : decode cX4_removeObject 53 = .ok (.isub, 1) := by decide +kernel
theorem dX4_removeObject_54 : decode cX4_removeObject 54 = .ok (.aload_n 0, 1) := by decide +kernel
theorem dX4_removeObject_55 : decode cX4_removeObject 55 = .ok (.getfield 27, 3) := by decide +kernel
theorem dX4_removeObject_58 : decode cX4_removeObject 58 = .ok (.iload_n 3, 1) := by decide +kernel
theorem dX4_removeObject_59 : decode cX4_removeObject 59 = .ok (.iaload, 1) := by decide +kernel
theorem dX4_removeObject_60 : decode cX4_removeObject 60 = .ok (.iastore, 1) := by decide +kernel
theorem dX4_removeObject_61 : decode cX4_removeObject 61 = .ok (.iinc 3 1, 3) := by decide +kernel
theorem dX4_removeObject_64 : decode cX4_removeObject 64 = .ok (.goto (-53), 3) := by decide +kernel
theorem dX4_removeObject_67 : decode cX4_removeObject 67 = .ok (.aload_n 0, 1) := by decide +kernel
theorem dX4_removeObject_68 : decode cX4_removeObject 68 = .ok (.dup, 1) := by decide +kernel
theorem dX4_removeObject_69 : decode cX4_removeObject 69 = .ok (.getfield 36, 3) := by decide +kernel
theorem dX4_removeObject_72 : decode cX4_removeObject 72 = .ok (.iconst 1, 1) := by decide +kernel
theorem dX4_removeObject_73 : decode cX4_removeObject 73 = .ok (.isub, 1) := by decide +kernel
theorem dX4_removeObject_74 : decode cX4_removeObject 74 = .ok (.putfield 36, 3) := by decide +kernel
theorem dX4_removeObject_77 : decode cX4_removeObject 77 = .ok (.iload_n 2, 1) := by decide +kernel
theorem dX4_removeObject_78 : decode cX4_removeObject 78 = .ok (.ireturn, 1) := by decide +kernel
theorem dX4_wouldLieOnOneLine_0 : decode cX4_wouldLieOnOneLine 0 = .ok (.aload_n 0, 1) := by decide +kernel
theorem dX4_wouldLieOnOneLine_1 : decode cX4_wouldLieOnOneLine 1 = .ok (.iload_n 1, 1) := by decide +kernel
theorem dX4_wouldLieOnOneLine_2 : decode cX4_wouldLieOnOneLine 2 = .ok (.iload_n 2, 1) := by decide +kernel
theorem dX4_wouldLieOnOneLine_3 : decode cX4_wouldLieOnOneLine 3 = .ok (.iload_n 3, 1) := by decide +kernel
theorem dX4_wouldLieOnOneLine_4 : decode cX4_wouldLieOnOneLine 4 = .ok (.invokevirtual 40, 3) := by decide +kernel
theorem dX4_wouldLieOnOneLine_7 : decode cX4_wouldLieOnOneLine 7 = .ok (.lconst 0, 1) := by decide +kernel
theorem dX4_wouldLieOnOneLine_8 : decode cX4_wouldLieOnOneLine 8 = .ok (.lcmp, 1) := by decide +kernel
theorem dX4_wouldLieOnOneLine_9 : decode cX4_wouldLieOnOneLine 9 = .ok (.ifCond .ne 7, 3) := by decide +kernel
theorem dX4_wouldLieOnOneLine_12 : decode cX4_wouldLieOnOneLine 12 = .ok (.iconst 1, 1) := by decide +kernel
theorem dX4_wouldLieOnOneLine_13 : decode cX4_wouldLieOnOneLine 13 = .ok (.goto 4, 3) := by decide +kernel
theorem dX4_wouldLieOnOneLine_16 : decode cX4_wouldLieOnOneLine 16 = .ok (.iconst 0, 1) := by decide +kernel
theorem dX4_wouldLieOnOneLine_17 : decode cX4_wouldLieOnOneLine 17 = .ok (.ireturn, 1) := by decide +kernel
theorem dX4_signedArea_0 : decode cX4_signedArea 0 = .ok (.iload_n 1, 1) := by decide +kernel
theorem dX4_signedArea_1 : decode cX4_signedArea 1 = .ok (.iconst 1, 1) := by decide +kernel
theorem dX4_signedArea_2 : decode cX4_signedArea 2 = .ok (.iadd, 1) := by decide +kernel
theorem dX4_signedArea_3 : decode cX4_signedArea 3 = .ok (.iconst 3, 1) := by decide +kernel
theorem dX4_signedArea_4 : decode cX4_signedArea 4 = .ok (.irem, 1) := by decide +kernel
theorem dX4_signedArea_5 : decode cX4_signedArea 5 = .ok (.istore 4, 2) := by decide +kernel
theorem dX4_signedArea_7 : decode cX4_signedArea 7 = .ok (.iload_n 1, 1) := by decide +kernel
theorem dX4_signedArea_8 : decode cX4_signedArea 8 = .ok (.iconst 2, 1) := by decide +kernel
theorem dX4_signedArea_9 : decode cX4_signedArea 9 = .ok (.iadd, 1) := by decide +kernel
theorem dX4_signedArea_10 : decode cX4_signedArea 10 = .ok (.iconst 3, 1) := by decide +kernel
theorem dX4_signedArea_11 : decode cX4_signedArea 11 = .ok (.irem, 1) := by decide +kernel
theorem dX4_signedArea_12 : decode cX4_signedArea 12 = .ok (.istore 5, 2) := by decide +kernel
theorem dX4_signedArea_14 : decode cX4_signedArea 14 = .ok (.aload_n 0, 1) := by decide +kernel
theorem dX4_signedArea_15 : decode cX4_signedArea 15 = .ok (.getfield 9, 3) := by decide +kernel
theorem dX4_signedArea_18 : decode cX4_signedArea 18 = .ok (.iload 4, 2) := by decide +kernel
theorem dX4_signedArea_20 : decode cX4_signedArea 20 = .ok (.iaload, 1) := by decide +kernel
theorem dX4_signedArea_21 : decode cX4_signedArea 21 = .ok (.iload_n 2, 1) := by decide +kernel
theorem dX4_signedArea_22 : decode cX4_signedArea 22 = .ok (.isub, 1) := by decide +kernel
theorem dX4_signedArea_23 : decode cX4_signedArea 23 = .ok (.i2l, 1) := by decide +kernel
theorem dX4_signedArea_24 : decode cX4_signedArea 24 = .ok (.aload_n 0, 1) := by decide +kernel
theorem dX4_signedArea_25 : decode cX4_signedArea 25 = .ok (.getfield 15, 3) := by decide +kernel
theorem dX4_signedArea_28 : decode cX4_signedArea 28 = .ok (.iload 5, 2) := by decide +kernel
theorem dX4_signedArea_30 : decode cX4_signedArea 30 = .ok (.iaload, 1) := by decide +kernel
theorem dX4_signedArea_31 : decode cX4_signedArea 31 = .ok (.iload_n 3, 1) := by decide +kernel
theorem dX4_signedArea_32 : decode cX4_signedArea 32 = .ok (.isub, 1) := by decide +kernel
theorem dX4_signedArea_33 : decode cX4_signedArea 33 = .ok (.i2l, 1) := by decide +kernel
theorem dX4_signedArea_34 : decode cX4_signedArea 34 = .ok (.lmul, 1) := by decide +kernel
theorem dX4_signedArea_35 : decode cX4_signedArea 35 = .ok (.aload_n 0, 1) := by decide +kernel
theorem dX4_signedArea_36 : decode cX4_signedArea 36 = .ok (.getfield 9, 3) := by decide +kernel
theorem dX4_signedArea_39 : decode cX4_signedArea 39 = .ok (.iload 5, 2) := by decide +kernel
theorem dX4_signedArea_41 : decode cX4_signedArea 41 = .ok (.iaload, 1) := by decide +kernel
theorem dX4_signedArea_42 : decode cX4_signedArea 42 = .ok (.iload_n 2, 1) := by decide +kernel
theorem dX4_signedArea_43 : decode cX4_signedArea 43 = .ok (.isub, 1) := by decide +kernel
theorem dX4_signedArea_44 : decode cX4_signedArea 44 = .ok (.i2l, 1) := by decide +kernel
theorem dX4_signedArea_45 : decode cX4_signedArea 45 = .ok (.aload_n 0, 1) := by decide +kernel
theorem dX4_signedArea_46 : decode cX4_signedArea 46 = .ok (.getfield 15, 3) := by decide +kernel
theorem dX4_signedArea_49 : decode cX4_signedArea 49 = .ok (.iload 4, 2) := by decide +kernel
theorem dX4_signedArea_51 : decode cX4_signedArea 51 = .ok (.iaload, 1) := by decide +kernel
theorem dX4_signedArea_52 : decode cX4_signedArea 52 = .ok (.iload_n 3, 1) := by decide +kernel
theorem dX4_signedArea_53 : decode cX4_signedArea 53 = .ok (.isub, 1) := by decide +kernel
theorem dX4_signedArea_54 : decode cX4_signedArea 54 = .ok (.i2l, 1) := by decide +kernel
theorem dX4_signedArea_55 : decode cX4_signedArea 55 = .ok (.lmul, 1) := by decide +kernel
theorem dX4_signedArea_56 : decode cX4_signedArea 56 = .ok (.lsub, 1) := by decide +kernel
theorem dX4_signedArea_57 : decode cX4_signedArea 57 = .ok (.lreturn, 1) := by decide +kernel
theorem dX4_share_0 : decode cX4_share 0 = .ok (.aload_n 0, 1) := by decide +kernel
theorem dX4_share_1 : decode cX4_share 1 = .ok (.iload_n 1, 1) := by decide +kernel
theorem dX4_share_2 : decode cX4_share 2 = .ok (.iload_n 2, 1) := by decide +kernel
theorem dX4_share_3 : decode cX4_share 3 = .ok (.iload_n 3, 1) := by decide +kernel
theorem dX4_share_4 : decode cX4_share 4 = .ok (.invokevirtual 40, 3) := by decide +kernel
theorem dX4_share_7 : decode cX4_share 7 = .ok (.lstore 4, 2) := by decide +kernel
theorem dX4_share_9 : decode cX4_share 9 = .ok (.aload_n 0, 1) := by decide +kernel
theorem dX4_share_10 : decode cX4_share 10 = .ok (.iconst 0, 1) := by decide +kernel
theorem dX4_share_11 : decode cX4_share 11 = .ok (.aload_n 0, 1) := by decide +kernel
theorem dX4_share_12 : decode cX4_share 12 = .ok (.getfield 9, 3) := by decide +kernel
theorem dX4_share_15 : decode cX4_share 15 = .ok (.iconst 0, 1) := by decide +kernel
theorem dX4_share_16 : decode cX4_share 16 = .ok (.iaload, 1) := by decide +kernel
theorem dX4_share_17 : decode cX4_share 17 = .ok (.aload_n 0, 1) := by decide +kernel
theorem dX4_share_18 : decode cX4_share 18 = .ok (.getfield 15, 3) := by decide +kernel
theorem dX4_share_21 : decode cX4_share 21 = .ok (.iconst 0, 1) := by decide +kernel
theorem dX4_share_22 : decode cX4_share 22 = .ok (.iaload, 1) := by decide +kernel
theorem dX4_share_23 : decode cX4_share 23 = .ok (.invokevirtual 40, 3) := by decide +kernel
theorem dX4_share_26 : decode cX4_share 26 = .ok (.lconst 0, 1) := by decide +kernel
theorem dX4_share_27 : decode cX4_share 27 = .ok (.lcmp, 1) := by decide +kernel
theorem dX4_share_28 : decode cX4_share 28 = .ok (.ifCond .ge 9, 3) := by decide +kernel
theorem dX4_share_31 : decode cX4_share 31 = .ok (.lload 4, 2) := by decide +kernel
theorem dX4_share_33 : decode cX4_share 33 = .ok (.lneg, 1) := by decide +kernel
theorem dX4_share_34 : decode cX4_share 34 = .ok (.goto 5, 3) := by decide +kernel
theorem dX4_share_37 : decode cX4_share 37 = .ok (.lload 4, 2) := by decide +kernel
theorem dX4_share_39 : decode cX4_share 39 = .ok (.lreturn, 1) := by decide +kernel
theorem dX4_denominator_0 : decode cX4_denominator 0 = .ok (.aload_n 0, 1) := by decide +kernel
theorem dX4_denominator_1 : decode cX4_denominator 1 = .ok (.iconst 0, 1) := by decide +kernel
theorem dX4_denominator_2 : decode cX4_denominator 2 = .ok (.aload_n 0, 1) := by decide +kernel
theorem dX4_denominator_3 : decode cX4_denominator 3 = .ok (.getfield 9, 3) := by decide +kernel
theorem dX4_denominator_6 : decode cX4_denominator 6 = .ok (.iconst 0, 1) := by decide +kernel
theorem dX4_denominator_7 : decode cX4_denominator 7 = .ok (.iaload, 1) := by decide +kernel
theorem dX4_denominator_8 : decode cX4_denominator 8 = .ok (.aload_n 0, 1) := by decide +kernel
theorem dX4_denominator_9 : decode cX4_denominator 9 = .ok (.getfield 15, 3) := by decide +kernel
theorem dX4_denominator_12 : decode cX4_denominator 12 = .ok (.iconst 0, 1) := by decide +kernel
theorem dX4_denominator_13 : decode cX4_denominator 13 = .ok (.iaload, 1) := by decide +kernel
theorem dX4_denominator_14 : decode cX4_denominator 14 = .ok (.invokevirtual 44, 3) := by decide +kernel
theorem dX4_denominator_17 : decode cX4_denominator 17 = .ok (.lreturn, 1) := by decide +kernel
theorem dX4_numerator_0 : decode cX4_numerator 0 = .ok (.lconst 0, 1) := by decide +kernel
theorem dX4_numerator_1 : decode cX4_numerator 1 = .ok (.lstore_n 2, 1) := by decide +kernel
theorem dX4_numerator_2 : decode cX4_numerator 2 = .ok (.iconst 0, 1) := by decide +kernel
theorem dX4_numerator_3 : decode cX4_numerator 3 = .ok (.istore 4, 2) := by decide +kernel
theorem dX4_numerator_5 : decode cX4_numerator 5 = .ok (.iload 4, 2) := by decide +kernel
theorem dX4_numerator_7 : decode cX4_numerator 7 = .ok (.aload_n 0, 1) := by decide +kernel
theorem dX4_numerator_8 : decode cX4_numerator 8 = .ok (.getfield 36, 3) := by decide +kernel
theorem dX4_numerator_11 : decode cX4_numerator 11 = .ok (.if_icmp .ge 40, 3) := by decide +kernel
theorem dX4_numerator_14 : decode cX4_numerator 14 = .ok (.lload_n 2, 1) := by decide +kernel
theorem dX4_numerator_15 : decode cX4_numerator 15 = .ok (.aload_n 0, 1) := by decide +kernel
theorem dX4_numerator_16 : decode cX4_numerator 16 = .ok (.getfield 27, 3) := by decide +kernel
theorem dX4_numerator_19 : decode cX4_numerator 19 = .ok (.iload 4, 2) := by decide +kernel
theorem dX4_numerator_21 : decode cX4_numerator 21 = .ok (.iaload, 1) := by decide +kernel
theorem dX4_numerator_22 : decode cX4_numerator 22 = .ok (.i2l, 1) := by decide +kernel
theorem dX4_numerator_23 : decode cX4_numerator 23 = .ok (.aload_n 0, 1) := by decide +kernel
theorem dX4_numerator_24 : decode cX4_numerator 24 = .ok (.iload_n 1, 1) := by decide +kernel
theorem dX4_numerator_25 : decode cX4_numerator 25 = .ok (.aload_n 0, 1) := by decide +kernel
theorem dX4_numerator_26 : decode cX4_numerator 26 = .ok (.getfield 21, 3) := by decide +kernel
theorem dX4_numerator_29 : decode cX4_numerator 29 = .ok (.iload 4, 2) := by decide +kernel
theorem dX4_numerator_31 : decode cX4_numerator 31 = .ok (.iaload, 1) := by decide +kernel
theorem dX4_numerator_32 : decode cX4_numerator 32 = .ok (.aload_n 0, 1) := by decide +kernel
theorem dX4_numerator_33 : decode cX4_numerator 33 = .ok (.getfield 24, 3) := by decide +kernel
theorem dX4_numerator_36 : decode cX4_numerator 36 = .ok (.iload 4, 2) := by decide +kernel
theorem dX4_numerator_38 : decode cX4_numerator 38 = .ok (.iaload, 1) := by decide +kernel
theorem dX4_numerator_39 : decode cX4_numerator 39 = .ok (.invokevirtual 44, 3) := by decide +kernel
theorem dX4_numerator_42 : decode cX4_numerator 42 = .ok (.lmul, 1) := by decide +kernel
theorem dX4_numerator_43 : decode cX4_numerator 43 = .ok (.ladd, 1) := by decide +kernel
theorem dX4_numerator_44 : decode cX4_numerator 44 = .ok (.lstore_n 2, 1) := by decide +kernel
theorem dX4_numerator_45 : decode cX4_numerator 45 = .ok (.iinc 4 1, 3) := by decide +kernel
theorem dX4_numerator_48 : decode cX4_numerator 48 = .ok (.goto (-43), 3) := by decide +kernel
theorem dX4_numerator_51 : decode cX4_numerator 51 = .ok (.lload_n 2, 1) := by decide +kernel
theorem dX4_numerator_52 : decode cX4_numerator 52 = .ok (.lreturn, 1) := by decide +kernel
theorem dX4_loadPart_0 : decode cX4_loadPart 0 = .ok (.aload_n 0, 1) := by decide +kernel
theorem dX4_loadPart_1 : decode cX4_loadPart 1 = .ok (.iload_n 1, 1) := by decide +kernel
theorem dX4_loadPart_2 : decode cX4_loadPart 2 = .ok (.invokevirtual 47, 3) := by decide +kernel
theorem dX4_loadPart_5 : decode cX4_loadPart 5 = .ok (.aload_n 0, 1) := by decide +kernel
theorem dX4_loadPart_6 : decode cX4_loadPart 6 = .ok (.invokevirtual 51, 3) := by decide +kernel
theorem dX4_loadPart_9 : decode cX4_loadPart 9 = .ok (.iload_n 2, 1) := by decide +kernel
theorem dX4_loadPart_10 : decode cX4_loadPart 10 = .ok (.invokestatic 55, 3) := by decide +kernel
theorem dX4_loadPart_13 : decode cX4_loadPart 13 = .ok (.lreturn, 1) := by decide +kernel
theorem dX4_shownLoad_0 : decode cX4_shownLoad 0 = .ok (.aload_n 0, 1) := by decide +kernel
theorem dX4_shownLoad_1 : decode cX4_shownLoad 1 = .ok (.invokevirtual 51, 3) := by decide +kernel
theorem dX4_shownLoad_4 : decode cX4_shownLoad 4 = .ok (.iload_n 2, 1) := by decide +kernel
theorem dX4_shownLoad_5 : decode cX4_shownLoad 5 = .ok (.i2l, 1) := by decide +kernel
theorem dX4_shownLoad_6 : decode cX4_shownLoad 6 = .ok (.lmul, 1) := by decide +kernel
theorem dX4_shownLoad_7 : decode cX4_shownLoad 7 = .ok (.lstore_n 3, 1) := by decide +kernel
theorem dX4_shownLoad_8 : decode cX4_shownLoad 8 = .ok (.lload_n 3, 1) := by decide +kernel
theorem dX4_shownLoad_9 : decode cX4_shownLoad 9 = .ok (.lconst 0, 1) := by decide +kernel
theorem dX4_shownLoad_10 : decode cX4_shownLoad 10 = .ok (.lcmp, 1) := by decide +kernel
theorem dX4_shownLoad_11 : decode cX4_shownLoad 11 = .ok (.ifCond .ne 7, 3) := by decide +kernel
theorem dX4_shownLoad_14 : decode cX4_shownLoad 14 = .ok (.iconst 0, 1) := by decide +kernel
theorem dX4_shownLoad_15 : decode cX4_shownLoad 15 = .ok (.goto 16, 3) := by decide +kernel
theorem dX4_shownLoad_18 : decode cX4_shownLoad 18 = .ok (.aload_n 0, 1) := by decide +kernel
theorem dX4_shownLoad_19 : decode cX4_shownLoad 19 = .ok (.iload_n 1, 1) := by decide +kernel
theorem dX4_shownLoad_20 : decode cX4_shownLoad 20 = .ok (.invokevirtual 47, 3) := by decide +kernel
theorem dX4_shownLoad_23 : decode cX4_shownLoad 23 = .ok (.lload_n 3, 1) := by decide +kernel
theorem dX4_shownLoad_24 : decode cX4_shownLoad 24 = .ok (.invokestatic 61, 3) := by decide +kernel
theorem dX4_shownLoad_27 : decode cX4_shownLoad 27 = .ok (.iload_n 2, 1) := by decide +kernel
theorem dX4_shownLoad_28 : decode cX4_shownLoad 28 = .ok (.i2l, 1) := by decide +kernel
theorem dX4_shownLoad_29 : decode cX4_shownLoad 29 = .ok (.lmul, 1) := by decide +kernel
theorem dX4_shownLoad_30 : decode cX4_shownLoad 30 = .ok (.l2i, 1) := by decide +kernel
theorem dX4_shownLoad_31 : decode cX4_shownLoad 31 = .ok (.ireturn, 1) := by decide +kernel
theorem dX4_hasNoNegativeLoad_0 : decode cX4_hasNoNegativeLoad 0 = .ok (.iconst 0, 1) := by decide +kernel
theorem dX4_hasNoNegativeLoad_1 : decode cX4_hasNoNegativeLoad 1 = .ok (.istore_n 1, 1) := by decide +kernel
theorem dX4_hasNoNegativeLoad_2 : decode cX4_hasNoNegativeLoad 2 = .ok (.iload_n 1, 1) := by decide +kernel
theorem dX4_hasNoNegativeLoad_3 : decode cX4_hasNoNegativeLoad 3 = .ok (.iconst 3, 1) := by decide +kernel
theorem dX4_hasNoNegativeLoad_4 : decode cX4_hasNoNegativeLoad 4 = .ok (.if_icmp .ge 21, 3) := by decide +kernel
theorem dX4_hasNoNegativeLoad_7 : decode cX4_hasNoNegativeLoad 7 = .ok (.aload_n 0, 1) := by decide +kernel
theorem dX4_hasNoNegativeLoad_8 : decode cX4_hasNoNegativeLoad 8 = .ok (.iload_n 1, 1) := by decide +kernel
theorem dX4_hasNoNegativeLoad_9 : decode cX4_hasNoNegativeLoad 9 = .ok (.invokevirtual 47, 3) := by decide +kernel
theorem dX4_hasNoNegativeLoad_12 : decode cX4_hasNoNegativeLoad 12 = .ok (.lconst 0, 1) := by decide +kernel
theorem dX4_hasNoNegativeLoad_13 : decode cX4_hasNoNegativeLoad 13 = .ok (.lcmp, 1) := by decide +kernel
theorem dX4_hasNoNegativeLoad_14 : decode cX4_hasNoNegativeLoad 14 = .ok (.ifCond .ge 5, 3) := by decide +kernel
theorem dX4_hasNoNegativeLoad_17 : decode cX4_hasNoNegativeLoad 17 = .ok (.iconst 0, 1) := by decide +kernel
theorem dX4_hasNoNegativeLoad_18 : decode cX4_hasNoNegativeLoad 18 = .ok (.ireturn, 1) := by decide +kernel
theorem dX4_hasNoNegativeLoad_19 : decode cX4_hasNoNegativeLoad 19 = .ok (.iinc 1 1, 3) := by decide +kernel
theorem dX4_hasNoNegativeLoad_22 : decode cX4_hasNoNegativeLoad 22 = .ok (.goto (-20), 3) := by decide +kernel
theorem dX4_hasNoNegativeLoad_25 : decode cX4_hasNoNegativeLoad 25 = .ok (.iconst 1, 1) := by decide +kernel
theorem dX4_hasNoNegativeLoad_26 : decode cX4_hasNoNegativeLoad 26 = .ok (.ireturn, 1) := by decide +kernel
theorem dX4_overloadedCells_0 : decode cX4_overloadedCells 0 = .ok (.iconst 0, 1) := by decide +kernel
theorem dX4_overloadedCells_1 : decode cX4_overloadedCells 1 = .ok (.istore_n 1, 1) := by decide +kernel
theorem dX4_overloadedCells_2 : decode cX4_overloadedCells 2 = .ok (.iconst 0, 1) := by decide +kernel
theorem dX4_overloadedCells_3 : decode cX4_overloadedCells 3 = .ok (.istore_n 2, 1) := by decide +kernel
theorem dX4_overloadedCells_4 : decode cX4_overloadedCells 4 = .ok (.iload_n 2, 1) := by decide +kernel
theorem dX4_overloadedCells_5 : decode cX4_overloadedCells 5 = .ok (.iconst 3, 1) := by decide +kernel
theorem dX4_overloadedCells_6 : decode cX4_overloadedCells 6 = .ok (.if_icmp .ge 25, 3) := by decide +kernel
theorem dX4_overloadedCells_9 : decode cX4_overloadedCells 9 = .ok (.aload_n 0, 1) := by decide +kernel
theorem dX4_overloadedCells_10 : decode cX4_overloadedCells 10 = .ok (.iload_n 2, 1) := by decide +kernel
theorem dX4_overloadedCells_11 : decode cX4_overloadedCells 11 = .ok (.invokevirtual 67, 3) := by decide +kernel
theorem dX4_overloadedCells_14 : decode cX4_overloadedCells 14 = .ok (.lconst 0, 1) := by decide +kernel
theorem dX4_overloadedCells_15 : decode cX4_overloadedCells 15 = .ok (.lcmp, 1) := by decide +kernel
theorem dX4_overloadedCells_16 : decode cX4_overloadedCells 16 = .ok (.ifCond .ge 9, 3) := by decide +kernel
theorem dX4_overloadedCells_19 : decode cX4_overloadedCells 19 = .ok (.iload_n 1, 1) := by decide +kernel
theorem dX4_overloadedCells_20 : decode cX4_overloadedCells 20 = .ok (.iconst 1, 1) := by decide +kernel
theorem dX4_overloadedCells_21 : decode cX4_overloadedCells 21 = .ok (.iload_n 2, 1) := by decide +kernel
theorem dX4_overloadedCells_22 : decode cX4_overloadedCells 22 = .ok (.ishl, 1) := by decide +kernel
theorem dX4_overloadedCells_23 : decode cX4_overloadedCells 23 = .ok (.ior, 1) := by decide +kernel
theorem dX4_overloadedCells_24 : decode cX4_overloadedCells 24 = .ok (.istore_n 1, 1) := by decide +kernel
theorem dX4_overloadedCells_25 : decode cX4_overloadedCells 25 = .ok (.iinc 2 1, 3) := by decide +kernel
theorem dX4_overloadedCells_28 : decode cX4_overloadedCells 28 = .ok (.goto (-24), 3) := by decide +kernel
theorem dX4_overloadedCells_31 : decode cX4_overloadedCells 31 = .ok (.iload_n 1, 1) := by decide +kernel
theorem dX4_overloadedCells_32 : decode cX4_overloadedCells 32 = .ok (.ireturn, 1) := by decide +kernel
theorem dX4_spare_0 : decode cX4_spare 0 = .ok (.aload_n 0, 1) := by decide +kernel
theorem dX4_spare_1 : decode cX4_spare 1 = .ok (.getfield 18, 3) := by decide +kernel
theorem dX4_spare_4 : decode cX4_spare 4 = .ok (.iload_n 1, 1) := by decide +kernel
theorem dX4_spare_5 : decode cX4_spare 5 = .ok (.iaload, 1) := by decide +kernel
theorem dX4_spare_6 : decode cX4_spare 6 = .ok (.i2l, 1) := by decide +kernel
theorem dX4_spare_7 : decode cX4_spare 7 = .ok (.aload_n 0, 1) := by decide +kernel
theorem dX4_spare_8 : decode cX4_spare 8 = .ok (.invokevirtual 51, 3) := by decide +kernel
theorem dX4_spare_11 : decode cX4_spare 11 = .ok (.lmul, 1) := by decide +kernel
theorem dX4_spare_12 : decode cX4_spare 12 = .ok (.aload_n 0, 1) := by decide +kernel
theorem dX4_spare_13 : decode cX4_spare 13 = .ok (.iload_n 1, 1) := by decide +kernel
theorem dX4_spare_14 : decode cX4_spare 14 = .ok (.invokevirtual 47, 3) := by decide +kernel
theorem dX4_spare_17 : decode cX4_spare 17 = .ok (.lsub, 1) := by decide +kernel
theorem dX4_spare_18 : decode cX4_spare 18 = .ok (.lreturn, 1) := by decide +kernel
theorem dX4_greatestAddition_0 : decode cX4_greatestAddition 0 = .ok (.aload_n 0, 1) := by decide +kernel
theorem dX4_greatestAddition_1 : decode cX4_greatestAddition 1 = .ok (.invokevirtual 70, 3) := by decide +kernel
theorem dX4_greatestAddition_4 : decode cX4_greatestAddition 4 = .ok (.ifCond .eq 10, 3) := by decide +kernel
theorem dX4_greatestAddition_7 : decode cX4_greatestAddition 7 = .ok (.aload_n 0, 1) := by decide +kernel
theorem dX4_greatestAddition_8 : decode cX4_greatestAddition 8 = .ok (.invokevirtual 74, 3) := by decide +kernel
theorem dX4_greatestAddition_11 : decode cX4_greatestAddition 11 = .ok (.ifCond .eq 5, 3) := by decide +kernel
theorem dX4_greatestAddition_14 : decode cX4_greatestAddition 14 = .ok (.iconst (-1), 1) := by decide +kernel
theorem dX4_greatestAddition_15 : decode cX4_greatestAddition 15 = .ok (.ireturn, 1) := by decide +kernel
theorem dX4_greatestAddition_16 : decode cX4_greatestAddition 16 = .ok (.ldc2_w 78, 3) := by decide +kernel
theorem dX4_greatestAddition_19 : decode cX4_greatestAddition 19 = .ok (.lstore_n 3, 1) := by decide +kernel
theorem dX4_greatestAddition_20 : decode cX4_greatestAddition 20 = .ok (.iconst 0, 1) := by decide +kernel
theorem dX4_greatestAddition_21 : decode cX4_greatestAddition 21 = .ok (.istore 5, 2) := by decide +kernel
theorem dX4_greatestAddition_23 : decode cX4_greatestAddition 23 = .ok (.iload 5, 2) := by decide +kernel
theorem dX4_greatestAddition_25 : decode cX4_greatestAddition 25 = .ok (.iconst 3, 1) := by decide +kernel
theorem dX4_greatestAddition_26 : decode cX4_greatestAddition 26 = .ok (.if_icmp .ge 65, 3) := by decide +kernel
theorem dX4_greatestAddition_29 : decode cX4_greatestAddition 29 = .ok (.aload_n 0, 1) := by decide +kernel
theorem dX4_greatestAddition_30 : decode cX4_greatestAddition 30 = .ok (.iload 5, 2) := by decide +kernel
theorem dX4_greatestAddition_32 : decode cX4_greatestAddition 32 = .ok (.iload_n 1, 1) := by decide +kernel
theorem dX4_greatestAddition_33 : decode cX4_greatestAddition 33 = .ok (.iload_n 2, 1) := by decide +kernel
theorem dX4_greatestAddition_34 : decode cX4_greatestAddition 34 = .ok (.invokevirtual 44, 3) := by decide +kernel
theorem dX4_greatestAddition_37 : decode cX4_greatestAddition 37 = .ok (.lstore 6, 2) := by decide +kernel
theorem dX4_greatestAddition_39 : decode cX4_greatestAddition 39 = .ok (.lload 6, 2) := by decide +kernel
theorem dX4_greatestAddition_41 : decode cX4_greatestAddition 41 = .ok (.lconst 0, 1) := by decide +kernel
theorem dX4_greatestAddition_42 : decode cX4_greatestAddition 42 = .ok (.lcmp, 1) := by decide +kernel
theorem dX4_greatestAddition_43 : decode cX4_greatestAddition 43 = .ok (.ifCond .le 20, 3) := by decide +kernel
theorem dX4_greatestAddition_46 : decode cX4_greatestAddition 46 = .ok (.lload_n 3, 1) := by decide +kernel
theorem dX4_greatestAddition_47 : decode cX4_greatestAddition 47 = .ok (.aload_n 0, 1) := by decide +kernel
theorem dX4_greatestAddition_48 : decode cX4_greatestAddition 48 = .ok (.iload 5, 2) := by decide +kernel
theorem dX4_greatestAddition_50 : decode cX4_greatestAddition 50 = .ok (.invokevirtual 67, 3) := by decide +kernel
theorem dX4_greatestAddition_53 : decode cX4_greatestAddition 53 = .ok (.lload 6, 2) := by decide +kernel
theorem dX4_greatestAddition_55 : decode cX4_greatestAddition 55 = .ok (.ldiv, 1) := by decide +kernel
theorem dX4_greatestAddition_56 : decode cX4_greatestAddition 56 = .ok (.invokestatic 80, 3) := by decide +kernel
theorem dX4_greatestAddition_59 : decode cX4_greatestAddition 59 = .ok (.lstore_n 3, 1) := by decide +kernel
theorem dX4_greatestAddition_60 : decode cX4_greatestAddition 60 = .ok (.goto 25, 3) := by decide +kernel
theorem dX4_greatestAddition_63 : decode cX4_greatestAddition 63 = .ok (.lload 6, 2) := by decide +kernel
theorem dX4_greatestAddition_65 : decode cX4_greatestAddition 65 = .ok (.lconst 0, 1) := by decide +kernel
theorem dX4_greatestAddition_66 : decode cX4_greatestAddition 66 = .ok (.lcmp, 1) := by decide +kernel
theorem dX4_greatestAddition_67 : decode cX4_greatestAddition 67 = .ok (.ifCond .ge 18, 3) := by decide +kernel
theorem dX4_greatestAddition_70 : decode cX4_greatestAddition 70 = .ok (.lload_n 3, 1) := by decide +kernel
theorem dX4_greatestAddition_71 : decode cX4_greatestAddition 71 = .ok (.aload_n 0, 1) := by decide +kernel
theorem dX4_greatestAddition_72 : decode cX4_greatestAddition 72 = .ok (.iload 5, 2) := by decide +kernel
theorem dX4_greatestAddition_74 : decode cX4_greatestAddition 74 = .ok (.invokevirtual 47, 3) := by decide +kernel
theorem dX4_greatestAddition_77 : decode cX4_greatestAddition 77 = .ok (.lload 6, 2) := by decide +kernel
theorem dX4_greatestAddition_79 : decode cX4_greatestAddition 79 = .ok (.lneg, 1) := by decide +kernel
theorem dX4_greatestAddition_80 : decode cX4_greatestAddition 80 = .ok (.ldiv, 1) := by decide +kernel
theorem dX4_greatestAddition_81 : decode cX4_greatestAddition 81 = .ok (.invokestatic 80, 3) := by decide +kernel
theorem dX4_greatestAddition_84 : decode cX4_greatestAddition 84 = .ok (.lstore_n 3, 1) := by decide +kernel
theorem dX4_greatestAddition_85 : decode cX4_greatestAddition 85 = .ok (.iinc 5 1, 3) := by decide +kernel
theorem dX4_greatestAddition_88 : decode cX4_greatestAddition 88 = .ok (.goto (-65), 3) := by decide +kernel
theorem dX4_greatestAddition_91 : decode cX4_greatestAddition 91 = .ok (.lload_n 3, 1) := by decide +kernel
theorem dX4_greatestAddition_92 : decode cX4_greatestAddition 92 = .ok (.l2i, 1) := by decide +kernel
theorem dX4_greatestAddition_93 : decode cX4_greatestAddition 93 = .ok (.ireturn, 1) := by decide +kernel
theorem dX4_mixedInto_0 : decode cX4_mixedInto 0 = .ok (.lload_n 1, 1) := by decide +kernel
theorem dX4_mixedInto_1 : decode cX4_mixedInto 1 = .ok (.lstore_n 3, 1) := by decide +kernel
theorem dX4_mixedInto_2 : decode cX4_mixedInto 2 = .ok (.iconst 0, 1) := by decide +kernel
theorem dX4_mixedInto_3 : decode cX4_mixedInto 3 = .ok (.istore 5, 2) := by decide +kernel
theorem dX4_mixedInto_5 : decode cX4_mixedInto 5 = .ok (.iload 5, 2) := by decide +kernel
theorem dX4_mixedInto_7 : decode cX4_mixedInto 7 = .ok (.iconst 3, 1) := by decide +kernel
theorem dX4_mixedInto_8 : decode cX4_mixedInto 8 = .ok (.if_icmp .ge 72, 3) := by decide +kernel
theorem dX4_mixedInto_11 : decode cX4_mixedInto 11 = .ok (.lload_n 3, 1) := by decide +kernel
theorem dX4_mixedInto_12 : decode cX4_mixedInto 12 = .ok (.aload_n 0, 1) := by decide +kernel
theorem dX4_mixedInto_13 : decode cX4_mixedInto 13 = .ok (.getfield 9, 3) := by decide +kernel
theorem dX4_mixedInto_16 : decode cX4_mixedInto 16 = .ok (.iload 5, 2) := by decide +kernel
theorem dX4_mixedInto_18 : decode cX4_mixedInto 18 = .ok (.iaload, 1) := by decide +kernel
theorem dX4_mixedInto_19 : decode cX4_mixedInto 19 = .ok (.i2l, 1) := by decide +kernel
theorem dX4_mixedInto_20 : decode cX4_mixedInto 20 = .ok (.invokestatic 83, 3) := by decide +kernel
theorem dX4_mixedInto_23 : decode cX4_mixedInto 23 = .ok (.lstore_n 3, 1) := by decide +kernel
theorem dX4_mixedInto_24 : decode cX4_mixedInto 24 = .ok (.lload_n 3, 1) := by decide +kernel
theorem dX4_mixedInto_25 : decode cX4_mixedInto 25 = .ok (.aload_n 0, 1) := by decide +kernel
theorem dX4_mixedInto_26 : decode cX4_mixedInto 26 = .ok (.getfield 15, 3) := by decide +kernel
theorem dX4_mixedInto_29 : decode cX4_mixedInto 29 = .ok (.iload 5, 2) := by decide +kernel
theorem dX4_mixedInto_31 : decode cX4_mixedInto 31 = .ok (.iaload, 1) := by decide +kernel
theorem dX4_mixedInto_32 : decode cX4_mixedInto 32 = .ok (.i2l, 1) := by decide +kernel
theorem dX4_mixedInto_33 : decode cX4_mixedInto 33 = .ok (.invokestatic 83, 3) := by decide +kernel
theorem dX4_mixedInto_36 : decode cX4_mixedInto 36 = .ok (.lstore_n 3, 1) := by decide +kernel
theorem dX4_mixedInto_37 : decode cX4_mixedInto 37 = .ok (.lload_n 3, 1) := by decide +kernel
theorem dX4_mixedInto_38 : decode cX4_mixedInto 38 = .ok (.aload_n 0, 1) := by decide +kernel
theorem dX4_mixedInto_39 : decode cX4_mixedInto 39 = .ok (.getfield 18, 3) := by decide +kernel
theorem dX4_mixedInto_42 : decode cX4_mixedInto 42 = .ok (.iload 5, 2) := by decide +kernel
theorem dX4_mixedInto_44 : decode cX4_mixedInto 44 = .ok (.iaload, 1) := by decide +kernel
theorem dX4_mixedInto_45 : decode cX4_mixedInto 45 = .ok (.i2l, 1) := by decide +kernel
theorem dX4_mixedInto_46 : decode cX4_mixedInto 46 = .ok (.invokestatic 83, 3) := by decide +kernel
theorem dX4_mixedInto_49 : decode cX4_mixedInto 49 = .ok (.lstore_n 3, 1) := by decide +kernel
theorem dX4_mixedInto_50 : decode cX4_mixedInto 50 = .ok (.lload_n 3, 1) := by decide +kernel
theorem dX4_mixedInto_51 : decode cX4_mixedInto 51 = .ok (.aload_n 0, 1) := by decide +kernel
theorem dX4_mixedInto_52 : decode cX4_mixedInto 52 = .ok (.iload 5, 2) := by decide +kernel
theorem dX4_mixedInto_54 : decode cX4_mixedInto 54 = .ok (.iconst 0, 1) := by decide +kernel
theorem dX4_mixedInto_55 : decode cX4_mixedInto 55 = .ok (.invokevirtual 86, 3) := by decide +kernel
theorem dX4_mixedInto_58 : decode cX4_mixedInto 58 = .ok (.invokestatic 83, 3) := by decide +kernel
theorem dX4_mixedInto_61 : decode cX4_mixedInto 61 = .ok (.lstore_n 3, 1) := by decide +kernel
theorem dX4_mixedInto_62 : decode cX4_mixedInto 62 = .ok (.lload_n 3, 1) := by decide +kernel
theorem dX4_mixedInto_63 : decode cX4_mixedInto 63 = .ok (.aload_n 0, 1) := by decide +kernel
theorem dX4_mixedInto_64 : decode cX4_mixedInto 64 = .ok (.iload 5, 2) := by decide +kernel
theorem dX4_mixedInto_66 : decode cX4_mixedInto 66 = .ok (.iconst 1, 1) := by decide +kernel
theorem dX4_mixedInto_67 : decode cX4_mixedInto 67 = .ok (.invokevirtual 86, 3) := by decide +kernel
theorem dX4_mixedInto_70 : decode cX4_mixedInto 70 = .ok (.invokestatic 83, 3) := by decide +kernel
theorem dX4_mixedInto_73 : decode cX4_mixedInto 73 = .ok (.lstore_n 3, 1) := by decide +kernel
theorem dX4_mixedInto_74 : decode cX4_mixedInto 74 = .ok (.iinc 5 1, 3) := by decide +kernel
theorem dX4_mixedInto_77 : decode cX4_mixedInto 77 = .ok (.goto (-72), 3) := by decide +kernel
theorem dX4_mixedInto_80 : decode cX4_mixedInto 80 = .ok (.lload_n 3, 1) := by decide +kernel
theorem dX4_mixedInto_81 : decode cX4_mixedInto 81 = .ok (.aload_n 0, 1) := by decide +kernel
theorem dX4_mixedInto_82 : decode cX4_mixedInto 82 = .ok (.invokevirtual 70, 3) := by decide +kernel
theorem dX4_mixedInto_85 : decode cX4_mixedInto 85 = .ok (.ifCond .eq 7, 3) := by decide +kernel
theorem dX4_mixedInto_88 : decode cX4_mixedInto 88 = .ok (.lconst 1, 1) := by decide +kernel
theorem dX4_mixedInto_89 : decode cX4_mixedInto 89 = .ok (.goto 4, 3) := by decide +kernel
theorem dX4_mixedInto_92 : decode cX4_mixedInto 92 = .ok (.lconst 0, 1) := by decide +kernel
theorem dX4_mixedInto_93 : decode cX4_mixedInto 93 = .ok (.invokestatic 83, 3) := by decide +kernel
theorem dX4_mixedInto_96 : decode cX4_mixedInto 96 = .ok (.lstore_n 3, 1) := by decide +kernel
theorem dX4_mixedInto_97 : decode cX4_mixedInto 97 = .ok (.lload_n 3, 1) := by decide +kernel
theorem dX4_mixedInto_98 : decode cX4_mixedInto 98 = .ok (.aload_n 0, 1) := by decide +kernel
theorem dX4_mixedInto_99 : decode cX4_mixedInto 99 = .ok (.invokevirtual 74, 3) := by decide +kernel
theorem dX4_mixedInto_102 : decode cX4_mixedInto 102 = .ok (.i2l, 1) := by decide +kernel
theorem dX4_mixedInto_103 : decode cX4_mixedInto 103 = .ok (.invokestatic 83, 3) := by decide +kernel
theorem dX4_mixedInto_106 : decode cX4_mixedInto 106 = .ok (.lstore_n 3, 1) := by decide +kernel
theorem dX4_mixedInto_107 : decode cX4_mixedInto 107 = .ok (.lload_n 3, 1) := by decide +kernel
theorem dX4_mixedInto_108 : decode cX4_mixedInto 108 = .ok (.aload_n 0, 1) := by decide +kernel
theorem dX4_mixedInto_109 : decode cX4_mixedInto 109 = .ok (.getfield 36, 3) := by decide +kernel
theorem dX4_mixedInto_112 : decode cX4_mixedInto 112 = .ok (.i2l, 1) := by decide +kernel
theorem dX4_mixedInto_113 : decode cX4_mixedInto 113 = .ok (.invokestatic 83, 3) := by decide +kernel
theorem dX4_mixedInto_116 : decode cX4_mixedInto 116 = .ok (.lstore_n 3, 1) := by decide +kernel
theorem dX4_mixedInto_117 : decode cX4_mixedInto 117 = .ok (.iconst 0, 1) := by decide +kernel
theorem dX4_mixedInto_118 : decode cX4_mixedInto 118 = .ok (.istore 5, 2) := by decide +kernel
theorem dX4_mixedInto_120 : decode cX4_mixedInto 120 = .ok (.iload 5, 2) := by decide +kernel
theorem dX4_mixedInto_122 : decode cX4_mixedInto 122 = .ok (.aload_n 0, 1) := by decide +kernel
theorem dX4_mixedInto_123 : decode cX4_mixedInto 123 = .ok (.getfield 36, 3) := by decide +kernel
theorem dX4_mixedInto_126 : decode cX4_mixedInto 126 = .ok (.if_icmp .ge 48, 3) := by decide +kernel
theorem dX4_mixedInto_129 : decode cX4_mixedInto 129 = .ok (.lload_n 3, 1) := by decide +kernel
theorem dX4_mixedInto_130 : decode cX4_mixedInto 130 = .ok (.aload_n 0, 1) := by decide +kernel
theorem dX4_mixedInto_131 : decode cX4_mixedInto 131 = .ok (.getfield 21, 3) := by decide +kernel
theorem dX4_mixedInto_134 : decode cX4_mixedInto 134 = .ok (.iload 5, 2) := by decide +kernel
theorem dX4_mixedInto_136 : decode cX4_mixedInto 136 = .ok (.iaload, 1) := by decide +kernel
theorem dX4_mixedInto_137 : decode cX4_mixedInto 137 = .ok (.i2l, 1) := by decide +kernel
theorem dX4_mixedInto_138 : decode cX4_mixedInto 138 = .ok (.invokestatic 83, 3) := by decide +kernel
theorem dX4_mixedInto_141 : decode cX4_mixedInto 141 = .ok (.lstore_n 3, 1) := by decide +kernel
theorem dX4_mixedInto_142 : decode cX4_mixedInto 142 = .ok (.lload_n 3, 1) := by decide +kernel
theorem dX4_mixedInto_143 : decode cX4_mixedInto 143 = .ok (.aload_n 0, 1) := by decide +kernel
theorem dX4_mixedInto_144 : decode cX4_mixedInto 144 = .ok (.getfield 24, 3) := by decide +kernel
theorem dX4_mixedInto_147 : decode cX4_mixedInto 147 = .ok (.iload 5, 2) := by decide +kernel
theorem dX4_mixedInto_149 : decode cX4_mixedInto 149 = .ok (.iaload, 1) := by decide +kernel
theorem dX4_mixedInto_150 : decode cX4_mixedInto 150 = .ok (.i2l, 1) := by decide +kernel
theorem dX4_mixedInto_151 : decode cX4_mixedInto 151 = .ok (.invokestatic 83, 3) := by decide +kernel
theorem dX4_mixedInto_154 : decode cX4_mixedInto 154 = .ok (.lstore_n 3, 1) := by decide +kernel
theorem dX4_mixedInto_155 : decode cX4_mixedInto 155 = .ok (.lload_n 3, 1) := by decide +kernel
theorem dX4_mixedInto_156 : decode cX4_mixedInto 156 = .ok (.aload_n 0, 1) := by decide +kernel
theorem dX4_mixedInto_157 : decode cX4_mixedInto 157 = .ok (.getfield 27, 3) := by decide +kernel
theorem dX4_mixedInto_160 : decode cX4_mixedInto 160 = .ok (.iload 5, 2) := by decide +kernel
theorem dX4_mixedInto_162 : decode cX4_mixedInto 162 = .ok (.iaload, 1) := by decide +kernel
theorem dX4_mixedInto_163 : decode cX4_mixedInto 163 = .ok (.i2l, 1) := by decide +kernel
theorem dX4_mixedInto_164 : decode cX4_mixedInto 164 = .ok (.invokestatic 83, 3) := by decide +kernel
theorem dX4_mixedInto_167 : decode cX4_mixedInto 167 = .ok (.lstore_n 3, 1) := by decide +kernel
theorem dX4_mixedInto_168 : decode cX4_mixedInto 168 = .ok (.iinc 5 1, 3) := by decide +kernel
theorem dX4_mixedInto_171 : decode cX4_mixedInto 171 = .ok (.goto (-51), 3) := by decide +kernel
theorem dX4_mixedInto_174 : decode cX4_mixedInto 174 = .ok (.lload_n 3, 1) := by decide +kernel
theorem dX4_mixedInto_175 : decode cX4_mixedInto 175 = .ok (.lreturn, 1) := by decide +kernel
theorem dX5_init_0 : decode cX5_init 0 = .ok (.aload_n 0, 1) := by decide +kernel
theorem dX5_init_1 : decode cX5_init 1 = .ok (.invokespecial 3, 3) := by decide +kernel
theorem dX5_init_4 : decode cX5_init 4 = .ok (.aload_n 0, 1) := by decide +kernel
theorem dX5_init_5 : decode cX5_init 5 = .ok (.bipush 8, 2) := by decide +kernel
theorem dX5_init_7 : decode cX5_init 7 = .ok (.newarray .int, 2) := by decide +kernel
theorem dX5_init_9 : decode cX5_init 9 = .ok (.putfield 9, 3) := by decide +kernel
theorem dX5_init_12 : decode cX5_init 12 = .ok (.aload_n 0, 1) := by decide +kernel
theorem dX5_init_13 : decode cX5_init 13 = .ok (.bipush 8, 2) := by decide +kernel
theorem dX5_init_15 : decode cX5_init 15 = .ok (.newarray .int, 2) := by decide +kernel
theorem dX5_init_17 : decode cX5_init 17 = .ok (.putfield 15, 3) := by decide +kernel
theorem dX5_init_20 : decode cX5_init 20 = .ok (.aload_n 0, 1) := by decide +kernel
theorem dX5_init_21 : decode cX5_init 21 = .ok (.bipush 8, 2) := by decide +kernel
theorem dX5_init_23 : decode cX5_init 23 = .ok (.newarray .int, 2) := by decide +kernel
theorem dX5_init_25 : decode cX5_init 25 = .ok (.putfield 18, 3) := by decide +kernel
theorem dX5_init_28 : decode cX5_init 28 = .ok (.aload_n 0, 1) := by decide +kernel
theorem dX5_init_29 : decode cX5_init 29 = .ok (.bipush 8, 2) := by decide +kernel
theorem dX5_init_31 : decode cX5_init 31 = .ok (.newarray .int, 2) := by decide +kernel
theorem dX5_init_33 : decode cX5_init 33 = .ok (.putfield 21, 3) := by decide +kernel
theorem dX5_init_36 : decode cX5_init 36 = .ok (.return_, 1) := by decide +kernel
theorem dX5_copyFrom_0 : decode cX5_copyFrom 0 = .ok (.aload_n 0, 1) := by decide +kernel
theorem dX5_copyFrom_1 : decode cX5_copyFrom 1 = .ok (.aload_n 1, 1) := by decide +kernel
theorem dX5_copyFrom_2 : decode cX5_copyFrom 2 = .ok (.getfield 24, 3) := by decide +kernel
theorem dX5_copyFrom_5 : decode cX5_copyFrom 5 = .ok (.putfield 24, 3) := by decide +kernel
theorem dX5_copyFrom_8 : decode cX5_copyFrom 8 = .ok (.aload_n 1, 1) := by decide +kernel
theorem dX5_copyFrom_9 : decode cX5_copyFrom 9 = .ok (.getfield 9, 3) := by decide +kernel
theorem dX5_copyFrom_12 : decode cX5_copyFrom 12 = .ok (.iconst 0, 1) := by decide +kernel
theorem dX5_copyFrom_13 : decode cX5_copyFrom 13 = .ok (.aload_n 0, 1) := by decide +kernel
theorem dX5_copyFrom_14 : decode cX5_copyFrom 14 = .ok (.getfield 9, 3) := by decide +kernel
theorem dX5_copyFrom_17 : decode cX5_copyFrom 17 = .ok (.iconst 0, 1) := by decide +kernel
theorem dX5_copyFrom_18 : decode cX5_copyFrom 18 = .ok (.bipush 8, 2) := by decide +kernel
theorem dX5_copyFrom_20 : decode cX5_copyFrom 20 = .ok (.invokestatic 28, 3) := by decide +kernel
theorem dX5_copyFrom_23 : decode cX5_copyFrom 23 = .ok (.aload_n 1, 1) := by decide +kernel
theorem dX5_copyFrom_24 : decode cX5_copyFrom 24 = .ok (.getfield 15, 3) := by decide +kernel
theorem dX5_copyFrom_27 : decode cX5_copyFrom 27 = .ok (.iconst 0, 1) := by decide +kernel
theorem dX5_copyFrom_28 : decode cX5_copyFrom 28 = .ok (.aload_n 0, 1) := by decide +kernel
theorem dX5_copyFrom_29 : decode cX5_copyFrom 29 = .ok (.getfield 15, 3) := by decide +kernel
theorem dX5_copyFrom_32 : decode cX5_copyFrom 32 = .ok (.iconst 0, 1) := by decide +kernel
theorem dX5_copyFrom_33 : decode cX5_copyFrom 33 = .ok (.bipush 8, 2) := by decide +kernel
theorem dX5_copyFrom_35 : decode cX5_copyFrom 35 = .ok (.invokestatic 28, 3) := by decide +kernel
theorem dX5_copyFrom_38 : decode cX5_copyFrom 38 = .ok (.aload_n 0, 1) := by decide +kernel
theorem dX5_copyFrom_39 : decode cX5_copyFrom 39 = .ok (.aload_n 1, 1) := by decide +kernel
theorem dX5_copyFrom_40 : decode cX5_copyFrom 40 = .ok (.getfield 34, 3) := by decide +kernel
theorem dX5_copyFrom_43 : decode cX5_copyFrom 43 = .ok (.putfield 34, 3) := by decide +kernel
theorem dX5_copyFrom_46 : decode cX5_copyFrom 46 = .ok (.aload_n 1, 1) := by decide +kernel
theorem dX5_copyFrom_47 : decode cX5_copyFrom 47 = .ok (.getfield 18, 3) := by decide +kernel
theorem dX5_copyFrom_50 : decode cX5_copyFrom 50 = .ok (.iconst 0, 1) := by decide +kernel
theorem dX5_copyFrom_51 : decode cX5_copyFrom 51 = .ok (.aload_n 0, 1) := by decide +kernel
theorem dX5_copyFrom_52 : decode cX5_copyFrom 52 = .ok (.getfield 18, 3) := by decide +kernel
theorem dX5_copyFrom_55 : decode cX5_copyFrom 55 = .ok (.iconst 0, 1) := by decide +kernel
theorem dX5_copyFrom_56 : decode cX5_copyFrom 56 = .ok (.bipush 8, 2) := by decide +kernel
theorem dX5_copyFrom_58 : decode cX5_copyFrom 58 = .ok (.invokestatic 28, 3) := by decide +kernel
theorem dX5_copyFrom_61 : decode cX5_copyFrom 61 = .ok (.aload_n 1, 1) := by decide +kernel
theorem dX5_copyFrom_62 : decode cX5_copyFrom 62 = .ok (.getfield 21, 3) := by decide +kernel
theorem dX5_copyFrom_65 : decode cX5_copyFrom 65 = .ok (.iconst 0, 1) := by decide +kernel
theorem dX5_copyFrom_66 : decode cX5_copyFrom 66 = .ok (.aload_n 0, 1) := by decide +kernel
theorem dX5_copyFrom_67 : decode cX5_copyFrom 67 = .ok (.getfield 21, 3) := by decide +kernel
theorem dX5_copyFrom_70 : decode cX5_copyFrom 70 = .ok (.iconst 0, 1) := by decide +kernel
theorem dX5_copyFrom_71 : decode cX5_copyFrom 71 = .ok (.bipush 8, 2) := by decide +kernel
theorem dX5_copyFrom_73 : decode cX5_copyFrom 73 = .ok (.invokestatic 28, 3) := by decide +kernel
theorem dX5_copyFrom_76 : decode cX5_copyFrom 76 = .ok (.return_, 1) := by decide +kernel
theorem dX5_appendSupporter_0 : decode cX5_appendSupporter 0 = .ok (.aload_n 0, 1) := by decide +kernel
theorem dX5_appendSupporter_1 : decode cX5_appendSupporter 1 = .ok (.getfield 24, 3) := by decide +kernel
theorem dX5_appendSupporter_4 : decode cX5_appendSupporter 4 = .ok (.istore_n 3, 1) := by decide +kernel
theorem dX5_appendSupporter_5 : decode cX5_appendSupporter 5 = .ok (.aload_n 0, 1) := by decide +kernel
theorem dX5_appendSupporter_6 : decode cX5_appendSupporter 6 = .ok (.getfield 9, 3) := by decide +kernel
theorem dX5_appendSupporter_9 : decode cX5_appendSupporter 9 = .ok (.iload_n 3, 1) := by decide +kernel
theorem dX5_appendSupporter_10 : decode cX5_appendSupporter 10 = .ok (.iload_n 1, 1) := by decide +kernel
theorem dX5_appendSupporter_11 : decode cX5_appendSupporter 11 = .ok (.iastore, 1) := by decide +kernel
theorem dX5_appendSupporter_12 : decode cX5_appendSupporter 12 = .ok (.aload_n 0, 1) := by decide +kernel
theorem dX5_appendSupporter_13 : decode cX5_appendSupporter 13 = .ok (.getfield 15, 3) := by decide +kernel
theorem dX5_appendSupporter_16 : decode cX5_appendSupporter 16 = .ok (.iload_n 3, 1) := by decide +kernel
theorem dX5_appendSupporter_17 : decode cX5_appendSupporter 17 = .ok (.iload_n 2, 1) := by decide +kernel
theorem dX5_appendSupporter_18 : decode cX5_appendSupporter 18 = .ok (.iastore, 1) := by decide +kernel
theorem dX5_appendSupporter_19 : decode cX5_appendSupporter 19 = .ok (.aload_n 0, 1) := by decide +kernel
theorem dX5_appendSupporter_20 : decode cX5_appendSupporter 20 = .ok (.dup, 1) := by decide +kernel
theorem dX5_appendSupporter_21 : decode cX5_appendSupporter 21 = .ok (.getfield 24, 3) := by decide +kernel
theorem dX5_appendSupporter_24 : decode cX5_appendSupporter 24 = .ok (.iconst 1, 1) := by decide +kernel
theorem dX5_appendSupporter_25 : decode cX5_appendSupporter 25 = .ok (.iadd, 1) := by decide +kernel
theorem dX5_appendSupporter_26 : decode cX5_appendSupporter 26 = .ok (.putfield 24, 3) := by decide +kernel
theorem dX5_appendSupporter_29 : decode cX5_appendSupporter 29 = .ok (.iload_n 3, 1) := by decide +kernel
theorem dX5_appendSupporter_30 : decode cX5_appendSupporter 30 = .ok (.ireturn, 1) := by decide +kernel
theorem dX5_appendSession_0 : decode cX5_appendSession 0 = .ok (.aload_n 0, 1) := by decide +kernel
theorem dX5_appendSession_1 : decode cX5_appendSession 1 = .ok (.getfield 34, 3) := by decide +kernel
theorem dX5_appendSession_4 : decode cX5_appendSession 4 = .ok (.istore_n 3, 1) := by decide +kernel
theorem dX5_appendSession_5 : decode cX5_appendSession 5 = .ok (.aload_n 0, 1) := by decide +kernel
theorem dX5_appendSession_6 : decode cX5_appendSession 6 = .ok (.getfield 18, 3) := by decide +kernel
theorem dX5_appendSession_9 : decode cX5_appendSession 9 = .ok (.iload_n 3, 1) := by decide +kernel
theorem dX5_appendSession_10 : decode cX5_appendSession 10 = .ok (.iload_n 1, 1) := by decide +kernel
theorem dX5_appendSession_11 : decode cX5_appendSession 11 = .ok (.iastore, 1) := by decide +kernel
theorem dX5_appendSession_12 : decode cX5_appendSession 12 = .ok (.aload_n 0, 1) := by decide +kernel
theorem dX5_appendSession_13 : decode cX5_appendSession 13 = .ok (.getfield 21, 3) := by decide +kernel
theorem dX5_appendSession_16 : decode cX5_appendSession 16 = .ok (.iload_n 3, 1) := by decide +kernel
theorem dX5_appendSession_17 : decode cX5_appendSession 17 = .ok (.iload_n 2, 1) := by decide +kernel
theorem dX5_appendSession_18 : decode cX5_appendSession 18 = .ok (.iastore, 1) := by decide +kernel
theorem dX5_appendSession_19 : decode cX5_appendSession 19 = .ok (.aload_n 0, 1) := by decide +kernel
theorem dX5_appendSession_20 : decode cX5_appendSession 20 = .ok (.dup, 1) := by decide +kernel
theorem dX5_appendSession_21 : decode cX5_appendSession 21 = .ok (.getfield 34, 3) := by decide +kernel
theorem dX5_appendSession_24 : decode cX5_appendSession 24 = .ok (.iconst 1, 1) := by decide +kernel
theorem dX5_appendSession_25 : decode cX5_appendSession 25 = .ok (.iadd, 1) := by decide +kernel
theorem dX5_appendSession_26 : decode cX5_appendSession 26 = .ok (.putfield 34, 3) := by decide +kernel
theorem dX5_appendSession_29 : decode cX5_appendSession 29 = .ok (.iload_n 3, 1) := by decide +kernel
theorem dX5_appendSession_30 : decode cX5_appendSession 30 = .ok (.ireturn, 1) := by decide +kernel
theorem dX5_removeAll_0 : decode cX5_removeAll 0 = .ok (.aload_n 0, 1) := by decide +kernel
theorem dX5_removeAll_1 : decode cX5_removeAll 1 = .ok (.getfield 24, 3) := by decide +kernel
theorem dX5_removeAll_4 : decode cX5_removeAll 4 = .ok (.aload_n 0, 1) := by decide +kernel
theorem dX5_removeAll_5 : decode cX5_removeAll 5 = .ok (.getfield 34, 3) := by decide +kernel
theorem dX5_removeAll_8 : decode cX5_removeAll 8 = .ok (.iadd, 1) := by decide +kernel
theorem dX5_removeAll_9 : decode cX5_removeAll 9 = .ok (.istore_n 1, 1) := by decide +kernel
theorem dX5_removeAll_10 : decode cX5_removeAll 10 = .ok (.aload_n 0, 1) := by decide +kernel
theorem dX5_removeAll_11 : decode cX5_removeAll 11 = .ok (.iconst 0, 1) := by decide +kernel
theorem dX5_removeAll_12 : decode cX5_removeAll 12 = .ok (.putfield 24, 3) := by decide +kernel
theorem dX5_removeAll_15 : decode cX5_removeAll 15 = .ok (.aload_n 0, 1) := by decide +kernel
theorem dX5_removeAll_16 : decode cX5_removeAll 16 = .ok (.iconst 0, 1) := by decide +kernel
theorem dX5_removeAll_17 : decode cX5_removeAll 17 = .ok (.putfield 34, 3) := by decide +kernel
theorem dX5_removeAll_20 : decode cX5_removeAll 20 = .ok (.iload_n 1, 1) := by decide +kernel
theorem dX5_removeAll_21 : decode cX5_removeAll 21 = .ok (.ireturn, 1) := by decide +kernel
theorem dX5_canTake_0 : decode cX5_canTake 0 = .ok (.aload_n 0, 1) := by decide +kernel
theorem dX5_canTake_1 : decode cX5_canTake 1 = .ok (.getfield 15, 3) := by decide +kernel
theorem dX5_canTake_4 : decode cX5_canTake 4 = .ok (.iload_n 1, 1) := by decide +kernel
theorem dX5_canTake_5 : decode cX5_canTake 5 = .ok (.iaload, 1) := by decide +kernel
theorem dX5_canTake_6 : decode cX5_canTake 6 = .ok (.aload_n 0, 1) := by decide +kernel
theorem dX5_canTake_7 : decode cX5_canTake 7 = .ok (.getfield 21, 3) := by decide +kernel
theorem dX5_canTake_10 : decode cX5_canTake 10 = .ok (.iload_n 2, 1) := by decide +kernel
theorem dX5_canTake_11 : decode cX5_canTake 11 = .ok (.iaload, 1) := by decide +kernel
theorem dX5_canTake_12 : decode cX5_canTake 12 = .ok (.ishr, 1) := by decide +kernel
theorem dX5_canTake_13 : decode cX5_canTake 13 = .ok (.iconst 1, 1) := by decide +kernel
theorem dX5_canTake_14 : decode cX5_canTake 14 = .ok (.iand, 1) := by decide +kernel
theorem dX5_canTake_15 : decode cX5_canTake 15 = .ok (.iconst 1, 1) := by decide +kernel
theorem dX5_canTake_16 : decode cX5_canTake 16 = .ok (.if_icmp .ne 7, 3) := by decide +kernel
theorem dX5_canTake_19 : decode cX5_canTake 19 = .ok (.iconst 1, 1) := by decide +kernel
theorem dX5_canTake_20 : decode cX5_canTake 20 = .ok (.goto 4, 3) := by decide +kernel
theorem dX5_canTake_23 : decode cX5_canTake 23 = .ok (.iconst 0, 1) := by decide +kernel
theorem dX5_canTake_24 : decode cX5_canTake 24 = .ok (.istore_n 3, 1) := by decide +kernel
theorem dX5_canTake_25 : decode cX5_canTake 25 = .ok (.iload_n 3, 1) := by decide +kernel
theorem dX5_canTake_26 : decode cX5_canTake 26 = .ok (.ifCond .eq 22, 3) := by decide +kernel
theorem dX5_canTake_29 : decode cX5_canTake 29 = .ok (.aload_n 0, 1) := by decide +kernel
theorem dX5_canTake_30 : decode cX5_canTake 30 = .ok (.getfield 9, 3) := by decide +kernel
theorem dX5_canTake_33 : decode cX5_canTake 33 = .ok (.iload_n 1, 1) := by decide +kernel
theorem dX5_canTake_34 : decode cX5_canTake 34 = .ok (.iaload, 1) := by decide +kernel
theorem dX5_canTake_35 : decode cX5_canTake 35 = .ok (.aload_n 0, 1) := by decide +kernel
theorem dX5_canTake_36 : decode cX5_canTake 36 = .ok (.getfield 18, 3) := by decide +kernel
theorem dX5_canTake_39 : decode cX5_canTake 39 = .ok (.iload_n 2, 1) := by decide +kernel
theorem dX5_canTake_40 : decode cX5_canTake 40 = .ok (.iaload, 1) := by decide +kernel
theorem dX5_canTake_41 : decode cX5_canTake 41 = .ok (.if_icmp .lt 7, 3) := by decide +kernel
theorem dX5_canTake_44 : decode cX5_canTake 44 = .ok (.iconst 1, 1) := by decide +kernel
theorem dX5_canTake_45 : decode cX5_canTake 45 = .ok (.goto 4, 3) := by decide +kernel
theorem dX5_canTake_48 : decode cX5_canTake 48 = .ok (.iconst 0, 1) := by decide +kernel
theorem dX5_canTake_49 : decode cX5_canTake 49 = .ok (.ireturn, 1) := by decide +kernel
theorem dX5_mixedInto_0 : decode cX5_mixedInto 0 = .ok (.lload_n 1, 1) := by decide +kernel
theorem dX5_mixedInto_1 : decode cX5_mixedInto 1 = .ok (.aload_n 0, 1) := by decide +kernel
theorem dX5_mixedInto_2 : decode cX5_mixedInto 2 = .ok (.getfield 24, 3) := by decide +kernel
theorem dX5_mixedInto_5 : decode cX5_mixedInto 5 = .ok (.i2l, 1) := by decide +kernel
theorem dX5_mixedInto_6 : decode cX5_mixedInto 6 = .ok (.invokestatic 37, 3) := by decide +kernel
theorem dX5_mixedInto_9 : decode cX5_mixedInto 9 = .ok (.lstore 4, 2) := by decide +kernel
theorem dX5_mixedInto_11 : decode cX5_mixedInto 11 = .ok (.iconst 0, 1) := by decide +kernel
theorem dX5_mixedInto_12 : decode cX5_mixedInto 12 = .ok (.istore 6, 2) := by decide +kernel
theorem dX5_mixedInto_14 : decode cX5_mixedInto 14 = .ok (.iload 6, 2) := by decide +kernel
theorem dX5_mixedInto_16 : decode cX5_mixedInto 16 = .ok (.aload_n 0, 1) := by decide +kernel
theorem dX5_mixedInto_17 : decode cX5_mixedInto 17 = .ok (.getfield 24, 3) := by decide +kernel
theorem dX5_mixedInto_20 : decode cX5_mixedInto 20 = .ok (.if_icmp .ge 39, 3) := by decide +kernel
theorem dX5_mixedInto_23 : decode cX5_mixedInto 23 = .ok (.lload 4, 2) := by decide +kernel
theorem dX5_mixedInto_25 : decode cX5_mixedInto 25 = .ok (.aload_n 0, 1) := by decide +kernel
theorem dX5_mixedInto_26 : decode cX5_mixedInto 26 = .ok (.getfield 9, 3) := by decide +kernel
theorem dX5_mixedInto_29 : decode cX5_mixedInto 29 = .ok (.iload 6, 2) := by decide +kernel
theorem dX5_mixedInto_31 : decode cX5_mixedInto 31 = .ok (.iaload, 1) := by decide +kernel
theorem dX5_mixedInto_32 : decode cX5_mixedInto 32 = .ok (.i2l, 1) := by decide +kernel
theorem dX5_mixedInto_33 : decode cX5_mixedInto 33 = .ok (.invokestatic 37, 3) := by decide +kernel
theorem dX5_mixedInto_36 : decode cX5_mixedInto 36 = .ok (.lstore 4, 2) := by decide +kernel
theorem dX5_mixedInto_38 : decode cX5_mixedInto 38 = .ok (.lload 4, 2) := by decide +kernel
theorem dX5_mixedInto_40 : decode cX5_mixedInto 40 = .ok (.aload_n 0, 1) := by decide +kernel
theorem dX5_mixedInto_41 : decode cX5_mixedInto 41 = .ok (.getfield 15, 3) := by decide +kernel
theorem dX5_mixedInto_44 : decode cX5_mixedInto 44 = .ok (.iload 6, 2) := by decide +kernel
theorem dX5_mixedInto_46 : decode cX5_mixedInto 46 = .ok (.iaload, 1) := by decide +kernel
theorem dX5_mixedInto_47 : decode cX5_mixedInto 47 = .ok (.i2l, 1) := by decide +kernel
theorem dX5_mixedInto_48 : decode cX5_mixedInto 48 = .ok (.invokestatic 37, 3) := by decide +kernel
theorem dX5_mixedInto_51 : decode cX5_mixedInto 51 = .ok (.lstore 4, 2) := by decide +kernel
theorem dX5_mixedInto_53 : decode cX5_mixedInto 53 = .ok (.iinc 6 1, 3) := by decide +kernel
theorem dX5_mixedInto_56 : decode cX5_mixedInto 56 = .ok (.goto (-42), 3) := by decide +kernel
theorem dX5_mixedInto_59 : decode cX5_mixedInto 59 = .ok (.lload 4, 2) := by decide +kernel
theorem dX5_mixedInto_61 : decode cX5_mixedInto 61 = .ok (.aload_n 0, 1) := by decide +kernel
theorem dX5_mixedInto_62 : decode cX5_mixedInto 62 = .ok (.getfield 34, 3) := by decide +kernel
theorem dX5_mixedInto_65 : decode cX5_mixedInto 65 = .ok (.i2l, 1) := by decide +kernel
theorem dX5_mixedInto_66 : decode cX5_mixedInto 66 = .ok (.invokestatic 37, 3) := by decide +kernel
theorem dX5_mixedInto_69 : decode cX5_mixedInto 69 = .ok (.lstore 4, 2) := by decide +kernel
theorem dX5_mixedInto_71 : decode cX5_mixedInto 71 = .ok (.iconst 0, 1) := by decide +kernel
theorem dX5_mixedInto_72 : decode cX5_mixedInto 72 = .ok (.istore 6, 2) := by decide +kernel
theorem dX5_mixedInto_74 : decode cX5_mixedInto 74 = .ok (.iload 6, 2) := by decide +kernel
theorem dX5_mixedInto_76 : decode cX5_mixedInto 76 = .ok (.aload_n 0, 1) := by decide +kernel
theorem dX5_mixedInto_77 : decode cX5_mixedInto 77 = .ok (.getfield 34, 3) := by decide +kernel
theorem dX5_mixedInto_80 : decode cX5_mixedInto 80 = .ok (.if_icmp .ge 54, 3) := by decide +kernel
theorem dX5_mixedInto_83 : decode cX5_mixedInto 83 = .ok (.lload 4, 2) := by decide +kernel
theorem dX5_mixedInto_85 : decode cX5_mixedInto 85 = .ok (.aload_n 0, 1) := by decide +kernel
theorem dX5_mixedInto_86 : decode cX5_mixedInto 86 = .ok (.getfield 18, 3) := by decide +kernel
theorem dX5_mixedInto_89 : decode cX5_mixedInto 89 = .ok (.iload 6, 2) := by decide +kernel
theorem dX5_mixedInto_91 : decode cX5_mixedInto 91 = .ok (.iaload, 1) := by decide +kernel
theorem dX5_mixedInto_92 : decode cX5_mixedInto 92 = .ok (.i2l, 1) := by decide +kernel
theorem dX5_mixedInto_93 : decode cX5_mixedInto 93 = .ok (.invokestatic 37, 3) := by decide +kernel
theorem dX5_mixedInto_96 : decode cX5_mixedInto 96 = .ok (.lstore 4, 2) := by decide +kernel
theorem dX5_mixedInto_98 : decode cX5_mixedInto 98 = .ok (.lload 4, 2) := by decide +kernel
theorem dX5_mixedInto_100 : decode cX5_mixedInto 100 = .ok (.aload_n 0, 1) := by decide +kernel
theorem dX5_mixedInto_101 : decode cX5_mixedInto 101 = .ok (.getfield 21, 3) := by decide +kernel
theorem dX5_mixedInto_104 : decode cX5_mixedInto 104 = .ok (.iload 6, 2) := by decide +kernel
theorem dX5_mixedInto_106 : decode cX5_mixedInto 106 = .ok (.iaload, 1) := by decide +kernel
theorem dX5_mixedInto_107 : decode cX5_mixedInto 107 = .ok (.i2l, 1) := by decide +kernel
theorem dX5_mixedInto_108 : decode cX5_mixedInto 108 = .ok (.invokestatic 37, 3) := by decide +kernel
theorem dX5_mixedInto_111 : decode cX5_mixedInto 111 = .ok (.lstore 4, 2) := by decide +kernel
theorem dX5_mixedInto_113 : decode cX5_mixedInto 113 = .ok (.lload 4, 2) := by decide +kernel
theorem dX5_mixedInto_115 : decode cX5_mixedInto 115 = .ok (.aload_n 3, 1) := by decide +kernel
theorem dX5_mixedInto_116 : decode cX5_mixedInto 116 = .ok (.getfield 41, 3) := by decide +kernel
theorem dX5_mixedInto_119 : decode cX5_mixedInto 119 = .ok (.iload 6, 2) := by decide +kernel
theorem dX5_mixedInto_121 : decode cX5_mixedInto 121 = .ok (.iaload, 1) := by decide +kernel
theorem dX5_mixedInto_122 : decode cX5_mixedInto 122 = .ok (.i2l, 1) := by decide +kernel
theorem dX5_mixedInto_123 : decode cX5_mixedInto 123 = .ok (.invokestatic 37, 3) := by decide +kernel
theorem dX5_mixedInto_126 : decode cX5_mixedInto 126 = .ok (.lstore 4, 2) := by decide +kernel
theorem dX5_mixedInto_128 : decode cX5_mixedInto 128 = .ok (.iinc 6 1, 3) := by decide +kernel
theorem dX5_mixedInto_131 : decode cX5_mixedInto 131 = .ok (.goto (-57), 3) := by decide +kernel
theorem dX5_mixedInto_134 : decode cX5_mixedInto 134 = .ok (.lload 4, 2) := by decide +kernel
theorem dX5_mixedInto_136 : decode cX5_mixedInto 136 = .ok (.lreturn, 1) := by decide +kernel
theorem dX6_init_0 : decode cX6_init 0 = .ok (.aload_n 0, 1) := by decide +kernel
theorem dX6_init_1 : decode cX6_init 1 = .ok (.invokespecial 1, 3) := by decide +kernel
theorem dX6_init_4 : decode cX6_init 4 = .ok (.aload_n 0, 1) := by decide +kernel
theorem dX6_init_5 : decode cX6_init 5 = .ok (.new 7, 3) := by decide +kernel
theorem dX6_init_8 : decode cX6_init 8 = .ok (.dup, 1) := by decide +kernel
theorem dX6_init_9 : decode cX6_init 9 = .ok (.invokespecial 9, 3) := by decide +kernel
theorem dX6_init_12 : decode cX6_init 12 = .ok (.putfield 10, 3) := by decide +kernel
theorem dX6_init_15 : decode cX6_init 15 = .ok (.aload_n 0, 1) := by decide +kernel
theorem dX6_init_16 : decode cX6_init 16 = .ok (.new 16, 3) := by decide +kernel
theorem dX6_init_19 : decode cX6_init 19 = .ok (.dup, 1) := by decide +kernel
theorem dX6_init_20 : decode cX6_init 20 = .ok (.invokespecial 18, 3) := by decide +kernel
theorem dX6_init_23 : decode cX6_init 23 = .ok (.putfield 19, 3) := by decide +kernel
theorem dX6_init_26 : decode cX6_init 26 = .ok (.aload_n 0, 1) := by decide +kernel
theorem dX6_init_27 : decode cX6_init 27 = .ok (.new 23, 3) := by decide +kernel
theorem dX6_init_30 : decode cX6_init 30 = .ok (.dup, 1) := by decide +kernel
theorem dX6_init_31 : decode cX6_init 31 = .ok (.invokespecial 25, 3) := by decide +kernel
theorem dX6_init_34 : decode cX6_init 34 = .ok (.putfield 26, 3) := by decide +kernel
theorem dX6_init_37 : decode cX6_init 37 = .ok (.return_, 1) := by decide +kernel
theorem dX6_copyFrom_0 : decode cX6_copyFrom 0 = .ok (.aload_n 0, 1) := by decide +kernel
theorem dX6_copyFrom_1 : decode cX6_copyFrom 1 = .ok (.getfield 10, 3) := by decide +kernel
theorem dX6_copyFrom_4 : decode cX6_copyFrom 4 = .ok (.aload_n 1, 1) := by decide +kernel
theorem dX6_copyFrom_5 : decode cX6_copyFrom 5 = .ok (.getfield 10, 3) := by decide +kernel
theorem dX6_copyFrom_8 : decode cX6_copyFrom 8 = .ok (.invokevirtual 30, 3) := by decide +kernel
theorem dX6_copyFrom_11 : decode cX6_copyFrom 11 = .ok (.aload_n 0, 1) := by decide +kernel
theorem dX6_copyFrom_12 : decode cX6_copyFrom 12 = .ok (.getfield 19, 3) := by decide +kernel
theorem dX6_copyFrom_15 : decode cX6_copyFrom 15 = .ok (.aload_n 1, 1) := by decide +kernel
theorem dX6_copyFrom_16 : decode cX6_copyFrom 16 = .ok (.getfield 19, 3) := by decide +kernel
theorem dX6_copyFrom_19 : decode cX6_copyFrom 19 = .ok (.invokevirtual 34, 3) := by decide +kernel
theorem dX6_copyFrom_22 : decode cX6_copyFrom 22 = .ok (.aload_n 0, 1) := by decide +kernel
theorem dX6_copyFrom_23 : decode cX6_copyFrom 23 = .ok (.getfield 26, 3) := by decide +kernel
theorem dX6_copyFrom_26 : decode cX6_copyFrom 26 = .ok (.aload_n 1, 1) := by decide +kernel
theorem dX6_copyFrom_27 : decode cX6_copyFrom 27 = .ok (.getfield 26, 3) := by decide +kernel
theorem dX6_copyFrom_30 : decode cX6_copyFrom 30 = .ok (.invokevirtual 37, 3) := by decide +kernel
theorem dX6_copyFrom_33 : decode cX6_copyFrom 33 = .ok (.return_, 1) := by decide +kernel
theorem dX7_power_0 : decode cX7_power 0 = .ok (.lconst 1, 1) := by decide +kernel
theorem dX7_power_1 : decode cX7_power 1 = .ok (.lstore_n 2, 1) := by decide +kernel
theorem dX7_power_2 : decode cX7_power 2 = .ok (.iconst 0, 1) := by decide +kernel
theorem dX7_power_3 : decode cX7_power 3 = .ok (.istore 4, 2) := by decide +kernel
theorem dX7_power_5 : decode cX7_power 5 = .ok (.iload 4, 2) := by decide +kernel
theorem dX7_power_7 : decode cX7_power 7 = .ok (.iload_n 1, 1) := by decide +kernel
theorem dX7_power_8 : decode cX7_power 8 = .ok (.if_icmp .ge 14, 3) := by decide +kernel
theorem dX7_power_11 : decode cX7_power 11 = .ok (.lload_n 2, 1) := by decide +kernel
theorem dX7_power_12 : decode cX7_power 12 = .ok (.iload_n 0, 1) := by decide +kernel
theorem dX7_power_13 : decode cX7_power 13 = .ok (.i2l, 1) := by decide +kernel
theorem dX7_power_14 : decode cX7_power 14 = .ok (.lmul, 1) := by decide +kernel
theorem dX7_power_15 : decode cX7_power 15 = .ok (.lstore_n 2, 1) := by decide +kernel
theorem dX7_power_16 : decode cX7_power 16 = .ok (.iinc 4 1, 3) := by decide +kernel
theorem dX7_power_19 : decode cX7_power 19 = .ok (.goto (-14), 3) := by decide +kernel
theorem dX7_power_22 : decode cX7_power 22 = .ok (.lload_n 2, 1) := by decide +kernel
theorem dX7_power_23 : decode cX7_power 23 = .ok (.lreturn, 1) := by decide +kernel
theorem dX7_ways_0 : decode cX7_ways 0 = .ok (.lconst 1, 1) := by decide +kernel
theorem dX7_ways_1 : decode cX7_ways 1 = .ok (.lstore_n 2, 1) := by decide +kernel
theorem dX7_ways_2 : decode cX7_ways 2 = .ok (.iconst 1, 1) := by decide +kernel
theorem dX7_ways_3 : decode cX7_ways 3 = .ok (.istore 4, 2) := by decide +kernel
theorem dX7_ways_5 : decode cX7_ways 5 = .ok (.iload 4, 2) := by decide +kernel
theorem dX7_ways_7 : decode cX7_ways 7 = .ok (.iload_n 1, 1) := by decide +kernel
theorem dX7_ways_8 : decode cX7_ways 8 = .ok (.if_icmp .gt 23, 3) := by decide +kernel
theorem dX7_ways_11 : decode cX7_ways 11 = .ok (.lload_n 2, 1) := by decide +kernel
theorem dX7_ways_12 : decode cX7_ways 12 = .ok (.iload_n 0, 1) := by decide +kernel
theorem dX7_ways_13 : decode cX7_ways 13 = .ok (.iload_n 1, 1) := by decide +kernel
theorem dX7_ways_14 : decode cX7_ways 14 = .ok (.isub, 1) := by decide +kernel
theorem dX7_ways_15 : decode cX7_ways 15 = .ok (.iload 4, 2) := by decide +kernel
theorem dX7_ways_17 : decode cX7_ways 17 = .ok (.iadd, 1) := by decide +kernel
theorem dX7_ways_18 : decode cX7_ways 18 = .ok (.i2l, 1) := by decide +kernel
theorem dX7_ways_19 : decode cX7_ways 19 = .ok (.lmul, 1) := by decide +kernel
theorem dX7_ways_20 : decode cX7_ways 20 = .ok (.iload 4, 2) := by decide +kernel
theorem dX7_ways_22 : decode cX7_ways 22 = .ok (.i2l, 1) := by decide +kernel
theorem dX7_ways_23 : decode cX7_ways 23 = .ok (.ldiv, 1) := by decide +kernel
theorem dX7_ways_24 : decode cX7_ways 24 = .ok (.lstore_n 2, 1) := by decide +kernel
theorem dX7_ways_25 : decode cX7_ways 25 = .ok (.iinc 4 1, 3) := by decide +kernel
theorem dX7_ways_28 : decode cX7_ways 28 = .ok (.goto (-23), 3) := by decide +kernel
theorem dX7_ways_31 : decode cX7_ways 31 = .ok (.lload_n 2, 1) := by decide +kernel
theorem dX7_ways_32 : decode cX7_ways 32 = .ok (.lreturn, 1) := by decide +kernel
theorem dX7_atLeast_0 : decode cX7_atLeast 0 = .ok (.lconst 0, 1) := by decide +kernel
theorem dX7_atLeast_1 : decode cX7_atLeast 1 = .ok (.lstore_n 3, 1) := by decide +kernel
theorem dX7_atLeast_2 : decode cX7_atLeast 2 = .ok (.iload_n 1, 1) := by decide +kernel
theorem dX7_atLeast_3 : decode cX7_atLeast 3 = .ok (.istore 5, 2) := by decide +kernel
theorem dX7_atLeast_5 : decode cX7_atLeast 5 = .ok (.iload 5, 2) := by decide +kernel
theorem dX7_atLeast_7 : decode cX7_atLeast 7 = .ok (.iload_n 0, 1) := by decide +kernel
theorem dX7_atLeast_8 : decode cX7_atLeast 8 = .ok (.if_icmp .gt 37, 3) := by decide +kernel
theorem dX7_atLeast_11 : decode cX7_atLeast 11 = .ok (.lload_n 3, 1) := by decide +kernel
theorem dX7_atLeast_12 : decode cX7_atLeast 12 = .ok (.iload_n 0, 1) := by decide +kernel
theorem dX7_atLeast_13 : decode cX7_atLeast 13 = .ok (.iload 5, 2) := by decide +kernel
theorem dX7_atLeast_15 : decode cX7_atLeast 15 = .ok (.invokestatic 9, 3) := by decide +kernel
theorem dX7_atLeast_18 : decode cX7_atLeast 18 = .ok (.iload_n 2, 1) := by decide +kernel
theorem dX7_atLeast_19 : decode cX7_atLeast 19 = .ok (.iload 5, 2) := by decide +kernel
theorem dX7_atLeast_21 : decode cX7_atLeast 21 = .ok (.invokestatic 15, 3) := by decide +kernel
theorem dX7_atLeast_24 : decode cX7_atLeast 24 = .ok (.lmul, 1) := by decide +kernel
theorem dX7_atLeast_25 : decode cX7_atLeast 25 = .ok (.bipush 10, 2) := by decide +kernel
theorem dX7_atLeast_27 : decode cX7_atLeast 27 = .ok (.iload_n 2, 1) := by decide +kernel
theorem dX7_atLeast_28 : decode cX7_atLeast 28 = .ok (.isub, 1) := by decide +kernel
theorem dX7_atLeast_29 : decode cX7_atLeast 29 = .ok (.iload_n 0, 1) := by decide +kernel
theorem dX7_atLeast_30 : decode cX7_atLeast 30 = .ok (.iload 5, 2) := by decide +kernel
theorem dX7_atLeast_32 : decode cX7_atLeast 32 = .ok (.isub, 1) := by decide +kernel
theorem dX7_atLeast_33 : decode cX7_atLeast 33 = .ok (.invokestatic 15, 3) := by decide +kernel
theorem dX7_atLeast_36 : decode cX7_atLeast 36 = .ok (.lmul, 1) := by decide +kernel
theorem dX7_atLeast_37 : decode cX7_atLeast 37 = .ok (.ladd, 1) := by decide +kernel
theorem dX7_atLeast_38 : decode cX7_atLeast 38 = .ok (.lstore_n 3, 1) := by decide +kernel
theorem dX7_atLeast_39 : decode cX7_atLeast 39 = .ok (.iinc 5 1, 3) := by decide +kernel
theorem dX7_atLeast_42 : decode cX7_atLeast 42 = .ok (.goto (-37), 3) := by decide +kernel
theorem dX7_atLeast_45 : decode cX7_atLeast 45 = .ok (.lload_n 3, 1) := by decide +kernel
theorem dX7_atLeast_46 : decode cX7_atLeast 46 = .ok (.lreturn, 1) := by decide +kernel
theorem dX7_smallestPlan_0 : decode cX7_smallestPlan 0 = .ok (.iconst 0, 1) := by decide +kernel
theorem dX7_smallestPlan_1 : decode cX7_smallestPlan 1 = .ok (.istore_n 3, 1) := by decide +kernel
theorem dX7_smallestPlan_2 : decode cX7_smallestPlan 2 = .ok (.iload_n 3, 1) := by decide +kernel
theorem dX7_smallestPlan_3 : decode cX7_smallestPlan 3 = .ok (.bipush 15, 2) := by decide +kernel
theorem dX7_smallestPlan_5 : decode cX7_smallestPlan 5 = .ok (.if_icmp .gt 89, 3) := by decide +kernel
theorem dX7_smallestPlan_8 : decode cX7_smallestPlan 8 = .ok (.bipush 10, 2) := by decide +kernel
theorem dX7_smallestPlan_10 : decode cX7_smallestPlan 10 = .ok (.iload_n 3, 1) := by decide +kernel
theorem dX7_smallestPlan_11 : decode cX7_smallestPlan 11 = .ok (.invokestatic 15, 3) := by decide +kernel
theorem dX7_smallestPlan_14 : decode cX7_smallestPlan 14 = .ok (.lstore 4, 2) := by decide +kernel
theorem dX7_smallestPlan_16 : decode cX7_smallestPlan 16 = .ok (.iconst 0, 1) := by decide +kernel
theorem dX7_smallestPlan_17 : decode cX7_smallestPlan 17 = .ok (.istore 6, 2) := by decide +kernel
theorem dX7_smallestPlan_19 : decode cX7_smallestPlan 19 = .ok (.iload 6, 2) := by decide +kernel
theorem dX7_smallestPlan_21 : decode cX7_smallestPlan 21 = .ok (.iload_n 3, 1) := by decide +kernel
theorem dX7_smallestPlan_22 : decode cX7_smallestPlan 22 = .ok (.iconst 1, 1) := by decide +kernel
theorem dX7_smallestPlan_23 : decode cX7_smallestPlan 23 = .ok (.iadd, 1) := by decide +kernel
theorem dX7_smallestPlan_24 : decode cX7_smallestPlan 24 = .ok (.if_icmp .gt 64, 3) := by decide +kernel
theorem dX7_smallestPlan_27 : decode cX7_smallestPlan 27 = .ok (.iload_n 2, 1) := by decide +kernel
theorem dX7_smallestPlan_28 : decode cX7_smallestPlan 28 = .ok (.i2l, 1) := by decide +kernel
theorem dX7_smallestPlan_29 : decode cX7_smallestPlan 29 = .ok (.iload_n 3, 1) := by decide +kernel
theorem dX7_smallestPlan_30 : decode cX7_smallestPlan 30 = .ok (.iload 6, 2) := by decide +kernel
theorem dX7_smallestPlan_32 : decode cX7_smallestPlan 32 = .ok (.iload_n 0, 1) := by decide +kernel
theorem dX7_smallestPlan_33 : decode cX7_smallestPlan 33 = .ok (.invokestatic 18, 3) := by decide +kernel
theorem dX7_smallestPlan_36 : decode cX7_smallestPlan 36 = .ok (.lmul, 1) := by decide +kernel
theorem dX7_smallestPlan_37 : decode cX7_smallestPlan 37 = .ok (.lload 4, 2) := by decide +kernel
theorem dX7_smallestPlan_39 : decode cX7_smallestPlan 39 = .ok (.lcmp, 1) := by decide +kernel
theorem dX7_smallestPlan_40 : decode cX7_smallestPlan 40 = .ok (.ifCond .gt 7, 3) := by decide +kernel
theorem dX7_smallestPlan_43 : decode cX7_smallestPlan 43 = .ok (.iconst 1, 1) := by decide +kernel
theorem dX7_smallestPlan_44 : decode cX7_smallestPlan 44 = .ok (.goto 4, 3) := by decide +kernel
theorem dX7_smallestPlan_47 : decode cX7_smallestPlan 47 = .ok (.iconst 0, 1) := by decide +kernel
theorem dX7_smallestPlan_48 : decode cX7_smallestPlan 48 = .ok (.istore 7, 2) := by decide +kernel
theorem dX7_smallestPlan_50 : decode cX7_smallestPlan 50 = .ok (.iload 7, 2) := by decide +kernel
theorem dX7_smallestPlan_52 : decode cX7_smallestPlan 52 = .ok (.ifCond .eq 30, 3) := by decide +kernel
theorem dX7_smallestPlan_55 : decode cX7_smallestPlan 55 = .ok (.iload_n 2, 1) := by decide +kernel
theorem dX7_smallestPlan_56 : decode cX7_smallestPlan 56 = .ok (.i2l, 1) := by decide +kernel
theorem dX7_smallestPlan_57 : decode cX7_smallestPlan 57 = .ok (.lload 4, 2) := by decide +kernel
theorem dX7_smallestPlan_59 : decode cX7_smallestPlan 59 = .ok (.iload_n 3, 1) := by decide +kernel
theorem dX7_smallestPlan_60 : decode cX7_smallestPlan 60 = .ok (.iload 6, 2) := by decide +kernel
theorem dX7_smallestPlan_62 : decode cX7_smallestPlan 62 = .ok (.iload_n 1, 1) := by decide +kernel
theorem dX7_smallestPlan_63 : decode cX7_smallestPlan 63 = .ok (.invokestatic 18, 3) := by decide +kernel
theorem dX7_smallestPlan_66 : decode cX7_smallestPlan 66 = .ok (.lsub, 1) := by decide +kernel
theorem dX7_smallestPlan_67 : decode cX7_smallestPlan 67 = .ok (.lmul, 1) := by decide +kernel
theorem dX7_smallestPlan_68 : decode cX7_smallestPlan 68 = .ok (.lload 4, 2) := by decide +kernel
theorem dX7_smallestPlan_70 : decode cX7_smallestPlan 70 = .ok (.lcmp, 1) := by decide +kernel
theorem dX7_smallestPlan_71 : decode cX7_smallestPlan 71 = .ok (.ifCond .gt 11, 3) := by decide +kernel
theorem dX7_smallestPlan_74 : decode cX7_smallestPlan 74 = .ok (.bipush 100, 2) := by decide +kernel
theorem dX7_smallestPlan_76 : decode cX7_smallestPlan 76 = .ok (.iload_n 3, 1) := by decide +kernel
theorem dX7_smallestPlan_77 : decode cX7_smallestPlan 77 = .ok (.imul, 1) := by decide +kernel
theorem dX7_smallestPlan_78 : decode cX7_smallestPlan 78 = .ok (.iload 6, 2) := by decide +kernel
theorem dX7_smallestPlan_80 : decode cX7_smallestPlan 80 = .ok (.iadd, 1) := by decide +kernel
theorem dX7_smallestPlan_81 : decode cX7_smallestPlan 81 = .ok (.ireturn, 1) := by decide +kernel
theorem dX7_smallestPlan_82 : decode cX7_smallestPlan 82 = .ok (.iinc 6 1, 3) := by decide +kernel
theorem dX7_smallestPlan_85 : decode cX7_smallestPlan 85 = .ok (.goto (-66), 3) := by decide +kernel
theorem dX7_smallestPlan_88 : decode cX7_smallestPlan 88 = .ok (.iinc 3 1, 3) := by decide +kernel
theorem dX7_smallestPlan_91 : decode cX7_smallestPlan 91 = .ok (.goto (-89), 3) := by decide +kernel
theorem dX7_smallestPlan_94 : decode cX7_smallestPlan 94 = .ok (.iconst (-1), 1) := by decide +kernel
theorem dX7_smallestPlan_95 : decode cX7_smallestPlan 95 = .ok (.ireturn, 1) := by decide +kernel
theorem dX8_init_0 : decode cX8_init 0 = .ok (.aload_n 0, 1) := by decide +kernel
theorem dX8_init_1 : decode cX8_init 1 = .ok (.invokespecial 1, 3) := by decide +kernel
theorem dX8_init_4 : decode cX8_init 4 = .ok (.aload_n 0, 1) := by decide +kernel
theorem dX8_init_5 : decode cX8_init 5 = .ok (.new 7, 3) := by decide +kernel
theorem dX8_init_8 : decode cX8_init 8 = .ok (.dup, 1) := by decide +kernel
theorem dX8_init_9 : decode cX8_init 9 = .ok (.invokespecial 9, 3) := by decide +kernel
theorem dX8_init_12 : decode cX8_init 12 = .ok (.putfield 10, 3) := by decide +kernel
theorem dX8_init_15 : decode cX8_init 15 = .ok (.aload_n 0, 1) := by decide +kernel
theorem dX8_init_16 : decode cX8_init 16 = .ok (.iconst 4, 1) := by decide +kernel
theorem dX8_init_17 : decode cX8_init 17 = .ok (.anewarray 7, 3) := by decide +kernel
theorem dX8_init_20 : decode cX8_init 20 = .ok (.putfield 16, 3) := by decide +kernel
theorem dX8_init_23 : decode cX8_init 23 = .ok (.iconst 0, 1) := by decide +kernel
theorem dX8_init_24 : decode cX8_init 24 = .ok (.istore_n 1, 1) := by decide +kernel
theorem dX8_init_25 : decode cX8_init 25 = .ok (.iload_n 1, 1) := by decide +kernel
theorem dX8_init_26 : decode cX8_init 26 = .ok (.iconst 4, 1) := by decide +kernel
theorem dX8_init_27 : decode cX8_init 27 = .ok (.if_icmp .ge 22, 3) := by decide +kernel
theorem dX8_init_30 : decode cX8_init 30 = .ok (.aload_n 0, 1) := by decide +kernel
theorem dX8_init_31 : decode cX8_init 31 = .ok (.getfield 16, 3) := by decide +kernel
theorem dX8_init_34 : decode cX8_init 34 = .ok (.iload_n 1, 1) := by decide +kernel
theorem dX8_init_35 : decode cX8_init 35 = .ok (.new 7, 3) := by decide +kernel
theorem dX8_init_38 : decode cX8_init 38 = .ok (.dup, 1) := by decide +kernel
theorem dX8_init_39 : decode cX8_init 39 = .ok (.invokespecial 9, 3) := by decide +kernel
theorem dX8_init_42 : decode cX8_init 42 = .ok (.aastore, 1) := by decide +kernel
theorem dX8_init_43 : decode cX8_init 43 = .ok (.iinc 1 1, 3) := by decide +kernel
theorem dX8_init_46 : decode cX8_init 46 = .ok (.goto (-21), 3) := by decide +kernel
theorem dX8_init_49 : decode cX8_init 49 = .ok (.aload_n 0, 1) := by decide +kernel
theorem dX8_init_50 : decode cX8_init 50 = .ok (.iconst 0, 1) := by decide +kernel
theorem dX8_init_51 : decode cX8_init 51 = .ok (.putfield 20, 3) := by decide +kernel
theorem dX8_init_54 : decode cX8_init 54 = .ok (.aload_n 0, 1) := by decide +kernel
theorem dX8_init_55 : decode cX8_init 55 = .ok (.new 24, 3) := by decide +kernel
theorem dX8_init_58 : decode cX8_init 58 = .ok (.dup, 1) := by decide +kernel
theorem dX8_init_59 : decode cX8_init 59 = .ok (.invokespecial 26, 3) := by decide +kernel
theorem dX8_init_62 : decode cX8_init 62 = .ok (.putfield 27, 3) := by decide +kernel
theorem dX8_init_65 : decode cX8_init 65 = .ok (.aload_n 0, 1) := by decide +kernel
theorem dX8_init_66 : decode cX8_init 66 = .ok (.new 31, 3) := by decide +kernel
theorem dX8_init_69 : decode cX8_init 69 = .ok (.dup, 1) := by decide +kernel
theorem dX8_init_70 : decode cX8_init 70 = .ok (.invokespecial 33, 3) := by decide +kernel
theorem dX8_init_73 : decode cX8_init 73 = .ok (.putfield 34, 3) := by decide +kernel
theorem dX8_init_76 : decode cX8_init 76 = .ok (.aload_n 0, 1) := by decide +kernel
theorem dX8_init_77 : decode cX8_init 77 = .ok (.bipush 8, 2) := by decide +kernel
theorem dX8_init_79 : decode cX8_init 79 = .ok (.newarray .long, 2) := by decide +kernel
theorem dX8_init_81 : decode cX8_init 81 = .ok (.putfield 38, 3) := by decide +kernel
theorem dX8_init_84 : decode cX8_init 84 = .ok (.return_, 1) := by decide +kernel
theorem dX8_setCell_0 : decode cX8_setCell 0 = .ok (.iload_n 1, 1) := by decide +kernel
theorem dX8_setCell_1 : decode cX8_setCell 1 = .ok (.iconst 3, 1) := by decide +kernel
theorem dX8_setCell_2 : decode cX8_setCell 2 = .ok (.invokestatic 42, 3) := by decide +kernel
theorem dX8_setCell_5 : decode cX8_setCell 5 = .ok (.iload_n 2, 1) := by decide +kernel
theorem dX8_setCell_6 : decode cX8_setCell 6 = .ok (.iload_n 3, 1) := by decide +kernel
theorem dX8_setCell_7 : decode cX8_setCell 7 = .ok (.invokestatic 46, 3) := by decide +kernel
theorem dX8_setCell_10 : decode cX8_setCell 10 = .ok (.iload 4, 2) := by decide +kernel
theorem dX8_setCell_12 : decode cX8_setCell 12 = .ok (.iconst 1, 1) := by decide +kernel
theorem dX8_setCell_13 : decode cX8_setCell 13 = .ok (.ldc 49, 2) := by decide +kernel
theorem dX8_setCell_15 : decode cX8_setCell 15 = .ok (.invokestatic 50, 3) := by decide +kernel
theorem dX8_setCell_18 : decode cX8_setCell 18 = .ok (.aload_n 0, 1) := by decide +kernel
theorem dX8_setCell_19 : decode cX8_setCell 19 = .ok (.getfield 10, 3) := by decide +kernel
theorem dX8_setCell_22 : decode cX8_setCell 22 = .ok (.getfield 54, 3) := by decide +kernel
theorem dX8_setCell_25 : decode cX8_setCell 25 = .ok (.iload_n 1, 1) := by decide +kernel
theorem dX8_setCell_26 : decode cX8_setCell 26 = .ok (.iload_n 2, 1) := by decide +kernel
theorem dX8_setCell_27 : decode cX8_setCell 27 = .ok (.iload_n 3, 1) := by decide +kernel
theorem dX8_setCell_28 : decode cX8_setCell 28 = .ok (.invokevirtual 58, 3) := by decide +kernel
theorem dX8_setCell_31 : decode cX8_setCell 31 = .ok (.ifCond .eq 13, 3) := by decide +kernel
theorem dX8_setCell_34 : decode cX8_setCell 34 = .ok (.new 64, 3) := by decide +kernel
theorem dX8_setCell_37 : decode cX8_setCell 37 = .ok (.dup, 1) := by decide +kernel
theorem dX8_setCell_38 : decode cX8_setCell 38 = .ok (.ldc 66, 2) := by decide +kernel
theorem dX8_setCell_40 : decode cX8_setCell 40 = .ok (.invokespecial 68, 3) := by decide +kernel
theorem dX8_setCell_43 : decode cX8_setCell 43 = .ok (.athrow, 1) := by decide +kernel
theorem dX8_setCell_44 : decode cX8_setCell 44 = .ok (.aload_n 0, 1) := by decide +kernel
theorem dX8_setCell_45 : decode cX8_setCell 45 = .ok (.invokevirtual 71, 3) := by decide +kernel
theorem dX8_setCell_48 : decode cX8_setCell 48 = .ok (.aload_n 0, 1) := by decide +kernel
theorem dX8_setCell_49 : decode cX8_setCell 49 = .ok (.getfield 10, 3) := by decide +kernel
theorem dX8_setCell_52 : decode cX8_setCell 52 = .ok (.getfield 54, 3) := by decide +kernel
theorem dX8_setCell_55 : decode cX8_setCell 55 = .ok (.iload_n 1, 1) := by decide +kernel
theorem dX8_setCell_56 : decode cX8_setCell 56 = .ok (.iload_n 2, 1) := by decide +kernel
theorem dX8_setCell_57 : decode cX8_setCell 57 = .ok (.iload_n 3, 1) := by decide +kernel
theorem dX8_setCell_58 : decode cX8_setCell 58 = .ok (.iload 4, 2) := by decide +kernel
theorem dX8_setCell_60 : decode cX8_setCell 60 = .ok (.invokevirtual 74, 3) := by decide +kernel
theorem dX8_setCell_63 : decode cX8_setCell 63 = .ok (.ireturn, 1) := by decide +kernel
theorem dX8_place_0 : decode cX8_place 0 = .ok (.iload_n 1, 1) := by decide +kernel
theorem dX8_place_1 : decode cX8_place 1 = .ok (.iload_n 2, 1) := by decide +kernel
theorem dX8_place_2 : decode cX8_place 2 = .ok (.invokestatic 46, 3) := by decide +kernel
theorem dX8_place_5 : decode cX8_place 5 = .ok (.iload_n 3, 1) := by decide +kernel
theorem dX8_place_6 : decode cX8_place 6 = .ok (.iconst 1, 1) := by decide +kernel
theorem dX8_place_7 : decode cX8_place 7 = .ok (.sipush 1000, 3) := by decide +kernel
theorem dX8_place_10 : decode cX8_place 10 = .ok (.invokestatic 50, 3) := by decide +kernel
theorem dX8_place_13 : decode cX8_place 13 = .ok (.aload_n 0, 1) := by decide +kernel
theorem dX8_place_14 : decode cX8_place 14 = .ok (.getfield 10, 3) := by decide +kernel
theorem dX8_place_17 : decode cX8_place 17 = .ok (.getfield 54, 3) := by decide +kernel
theorem dX8_place_20 : decode cX8_place 20 = .ok (.getfield 78, 3) := by decide +kernel
theorem dX8_place_23 : decode cX8_place 23 = .ok (.bipush 8, 2) := by decide +kernel
theorem dX8_place_25 : decode cX8_place 25 = .ok (.invokestatic 81, 3) := by decide +kernel
theorem dX8_place_28 : decode cX8_place 28 = .ok (.aload_n 0, 1) := by decide +kernel
theorem dX8_place_29 : decode cX8_place 29 = .ok (.invokevirtual 71, 3) := by decide +kernel
theorem dX8_place_32 : decode cX8_place 32 = .ok (.aload_n 0, 1) := by decide +kernel
theorem dX8_place_33 : decode cX8_place 33 = .ok (.getfield 10, 3) := by decide +kernel
theorem dX8_place_36 : decode cX8_place 36 = .ok (.getfield 54, 3) := by decide +kernel
theorem dX8_place_39 : decode cX8_place 39 = .ok (.iload_n 1, 1) := by decide +kernel
theorem dX8_place_40 : decode cX8_place 40 = .ok (.iload_n 2, 1) := by decide +kernel
theorem dX8_place_41 : decode cX8_place 41 = .ok (.iload_n 3, 1) := by decide +kernel
theorem dX8_place_42 : decode cX8_place 42 = .ok (.invokevirtual 84, 3) := by decide +kernel
theorem dX8_place_45 : decode cX8_place 45 = .ok (.ireturn, 1) := by decide +kernel
theorem dX8_lift_0 : decode cX8_lift 0 = .ok (.iload_n 1, 1) := by decide +kernel
theorem dX8_lift_1 : decode cX8_lift 1 = .ok (.aload_n 0, 1) := by decide +kernel
theorem dX8_lift_2 : decode cX8_lift 2 = .ok (.getfield 10, 3) := by decide +kernel
theorem dX8_lift_5 : decode cX8_lift 5 = .ok (.getfield 54, 3) := by decide +kernel
theorem dX8_lift_8 : decode cX8_lift 8 = .ok (.getfield 78, 3) := by decide +kernel
theorem dX8_lift_11 : decode cX8_lift 11 = .ok (.invokestatic 42, 3) := by decide +kernel
theorem dX8_lift_14 : decode cX8_lift 14 = .ok (.aload_n 0, 1) := by decide +kernel
theorem dX8_lift_15 : decode cX8_lift 15 = .ok (.invokevirtual 71, 3) := by decide +kernel
theorem dX8_lift_18 : decode cX8_lift 18 = .ok (.aload_n 0, 1) := by decide +kernel
theorem dX8_lift_19 : decode cX8_lift 19 = .ok (.getfield 10, 3) := by decide +kernel
theorem dX8_lift_22 : decode cX8_lift 22 = .ok (.getfield 54, 3) := by decide +kernel
theorem dX8_lift_25 : decode cX8_lift 25 = .ok (.iload_n 1, 1) := by decide +kernel
theorem dX8_lift_26 : decode cX8_lift 26 = .ok (.invokevirtual 88, 3) := by decide +kernel
theorem dX8_lift_29 : decode cX8_lift 29 = .ok (.ireturn, 1) := by decide +kernel
theorem dX8_load_0 : decode cX8_load 0 = .ok (.iload_n 1, 1) := by decide +kernel
theorem dX8_load_1 : decode cX8_load 1 = .ok (.iconst 3, 1) := by decide +kernel
theorem dX8_load_2 : decode cX8_load 2 = .ok (.invokestatic 42, 3) := by decide +kernel
theorem dX8_load_5 : decode cX8_load 5 = .ok (.iload_n 2, 1) := by decide +kernel
theorem dX8_load_6 : decode cX8_load 6 = .ok (.iconst 0, 1) := by decide +kernel
theorem dX8_load_7 : decode cX8_load 7 = .ok (.iconst 1, 1) := by decide +kernel
theorem dX8_load_8 : decode cX8_load 8 = .ok (.invokestatic 50, 3) := by decide +kernel
theorem dX8_load_11 : decode cX8_load 11 = .ok (.aload_n 0, 1) := by decide +kernel
theorem dX8_load_12 : decode cX8_load 12 = .ok (.getfield 10, 3) := by decide +kernel
theorem dX8_load_15 : decode cX8_load 15 = .ok (.getfield 54, 3) := by decide +kernel
theorem dX8_load_18 : decode cX8_load 18 = .ok (.iload_n 1, 1) := by decide +kernel
theorem dX8_load_19 : decode cX8_load 19 = .ok (.iload_n 2, 1) := by decide +kernel
theorem dX8_load_20 : decode cX8_load 20 = .ok (.invokevirtual 92, 3) := by decide +kernel
theorem dX8_load_23 : decode cX8_load 23 = .ok (.lreturn, 1) := by decide +kernel
theorem dX8_reading_0 : decode cX8_reading 0 = .ok (.iload_n 1, 1) := by decide +kernel
theorem dX8_reading_1 : decode cX8_reading 1 = .ok (.iconst 3, 1) := by decide +kernel
theorem dX8_reading_2 : decode cX8_reading 2 = .ok (.invokestatic 42, 3) := by decide +kernel
theorem dX8_reading_5 : decode cX8_reading 5 = .ok (.iload_n 2, 1) := by decide +kernel
theorem dX8_reading_6 : decode cX8_reading 6 = .ok (.iconst 1, 1) := by decide +kernel
theorem dX8_reading_7 : decode cX8_reading 7 = .ok (.bipush 100, 2) := by decide +kernel
theorem dX8_reading_9 : decode cX8_reading 9 = .ok (.invokestatic 50, 3) := by decide +kernel
theorem dX8_reading_12 : decode cX8_reading 12 = .ok (.aload_n 0, 1) := by decide +kernel
theorem dX8_reading_13 : decode cX8_reading 13 = .ok (.getfield 10, 3) := by decide +kernel
theorem dX8_reading_16 : decode cX8_reading 16 = .ok (.getfield 54, 3) := by decide +kernel
theorem dX8_reading_19 : decode cX8_reading 19 = .ok (.iload_n 1, 1) := by decide +kernel
theorem dX8_reading_20 : decode cX8_reading 20 = .ok (.iload_n 2, 1) := by decide +kernel
theorem dX8_reading_21 : decode cX8_reading 21 = .ok (.invokevirtual 96, 3) := by decide +kernel
theorem dX8_reading_24 : decode cX8_reading 24 = .ok (.ireturn, 1) := by decide +kernel
theorem dX8_isStable_0 : decode cX8_isStable 0 = .ok (.aload_n 0, 1) := by decide +kernel
theorem dX8_isStable_1 : decode cX8_isStable 1 = .ok (.getfield 10, 3) := by decide +kernel
theorem dX8_isStable_4 : decode cX8_isStable 4 = .ok (.getfield 54, 3) := by decide +kernel
theorem dX8_isStable_7 : decode cX8_isStable 7 = .ok (.invokevirtual 100, 3) := by decide +kernel
theorem dX8_isStable_10 : decode cX8_isStable 10 = .ok (.ireturn, 1) := by decide +kernel
theorem dX8_overloaded_0 : decode cX8_overloaded 0 = .ok (.aload_n 0, 1) := by decide +kernel
theorem dX8_overloaded_1 : decode cX8_overloaded 1 = .ok (.getfield 10, 3) := by decide +kernel
theorem dX8_overloaded_4 : decode cX8_overloaded 4 = .ok (.getfield 54, 3) := by decide +kernel
theorem dX8_overloaded_7 : decode cX8_overloaded 7 = .ok (.invokevirtual 104, 3) := by decide +kernel
theorem dX8_overloaded_10 : decode cX8_overloaded 10 = .ok (.ireturn, 1) := by decide +kernel
theorem dX8_room_0 : decode cX8_room 0 = .ok (.iload_n 1, 1) := by decide +kernel
theorem dX8_room_1 : decode cX8_room 1 = .ok (.iload_n 2, 1) := by decide +kernel
theorem dX8_room_2 : decode cX8_room 2 = .ok (.invokestatic 46, 3) := by decide +kernel
theorem dX8_room_5 : decode cX8_room 5 = .ok (.aload_n 0, 1) := by decide +kernel
theorem dX8_room_6 : decode cX8_room 6 = .ok (.getfield 10, 3) := by decide +kernel
theorem dX8_room_9 : decode cX8_room 9 = .ok (.getfield 54, 3) := by decide +kernel
theorem dX8_room_12 : decode cX8_room 12 = .ok (.iload_n 1, 1) := by decide +kernel
theorem dX8_room_13 : decode cX8_room 13 = .ok (.iload_n 2, 1) := by decide +kernel
theorem dX8_room_14 : decode cX8_room 14 = .ok (.invokevirtual 108, 3) := by decide +kernel
theorem dX8_room_17 : decode cX8_room 17 = .ok (.ireturn, 1) := by decide +kernel
theorem dX8_setHypotheses_0 : decode cX8_setHypotheses 0 = .ok (.iload_n 1, 1) := by decide +kernel
theorem dX8_setHypotheses_1 : decode cX8_setHypotheses 1 = .ok (.iconst 1, 1) := by decide +kernel
theorem dX8_setHypotheses_2 : decode cX8_setHypotheses 2 = .ok (.bipush 8, 2) := by decide +kernel
theorem dX8_setHypotheses_4 : decode cX8_setHypotheses 4 = .ok (.invokestatic 50, 3) := by decide +kernel
theorem dX8_setHypotheses_7 : decode cX8_setHypotheses 7 = .ok (.aload_n 0, 1) := by decide +kernel
theorem dX8_setHypotheses_8 : decode cX8_setHypotheses 8 = .ok (.invokevirtual 71, 3) := by decide +kernel
theorem dX8_setHypotheses_11 : decode cX8_setHypotheses 11 = .ok (.aload_n 0, 1) := by decide +kernel
theorem dX8_setHypotheses_12 : decode cX8_setHypotheses 12 = .ok (.getfield 10, 3) := by decide +kernel
theorem dX8_setHypotheses_15 : decode cX8_setHypotheses 15 = .ok (.getfield 111, 3) := by decide +kernel
theorem dX8_setHypotheses_18 : decode cX8_setHypotheses 18 = .ok (.getfield 115, 3) := by decide +kernel
theorem dX8_setHypotheses_21 : decode cX8_setHypotheses 21 = .ok (.istore_n 2, 1) := by decide +kernel
theorem dX8_setHypotheses_22 : decode cX8_setHypotheses 22 = .ok (.aload_n 0, 1) := by decide +kernel
theorem dX8_setHypotheses_23 : decode cX8_setHypotheses 23 = .ok (.getfield 10, 3) := by decide +kernel
theorem dX8_setHypotheses_26 : decode cX8_setHypotheses 26 = .ok (.getfield 111, 3) := by decide +kernel
theorem dX8_setHypotheses_29 : decode cX8_setHypotheses 29 = .ok (.iload_n 1, 1) := by decide +kernel
theorem dX8_setHypotheses_30 : decode cX8_setHypotheses 30 = .ok (.invokevirtual 120, 3) := by decide +kernel
theorem dX8_setHypotheses_33 : decode cX8_setHypotheses 33 = .ok (.iload_n 2, 1) := by decide +kernel
theorem dX8_setHypotheses_34 : decode cX8_setHypotheses 34 = .ok (.ireturn, 1) := by decide +kernel
theorem dX8_setWeight_0 : decode cX8_setWeight 0 = .ok (.iload_n 1, 1) := by decide +kernel
theorem dX8_setWeight_1 : decode cX8_setWeight 1 = .ok (.aload_n 0, 1) := by decide +kernel
theorem dX8_setWeight_2 : decode cX8_setWeight 2 = .ok (.getfield 10, 3) := by decide +kernel
theorem dX8_setWeight_5 : decode cX8_setWeight 5 = .ok (.getfield 111, 3) := by decide +kernel
theorem dX8_setWeight_8 : decode cX8_setWeight 8 = .ok (.getfield 115, 3) := by decide +kernel
theorem dX8_setWeight_11 : decode cX8_setWeight 11 = .ok (.invokestatic 42, 3) := by decide +kernel
theorem dX8_setWeight_14 : decode cX8_setWeight 14 = .ok (.iload_n 2, 1) := by decide +kernel
theorem dX8_setWeight_15 : decode cX8_setWeight 15 = .ok (.iconst 0, 1) := by decide +kernel
theorem dX8_setWeight_16 : decode cX8_setWeight 16 = .ok (.ldc 124, 2) := by decide +kernel
theorem dX8_setWeight_18 : decode cX8_setWeight 18 = .ok (.invokestatic 50, 3) := by decide +kernel
theorem dX8_setWeight_21 : decode cX8_setWeight 21 = .ok (.iload_n 2, 1) := by decide +kernel
theorem dX8_setWeight_22 : decode cX8_setWeight 22 = .ok (.ifCond .ne 27, 3) := by decide +kernel
theorem dX8_setWeight_25 : decode cX8_setWeight 25 = .ok (.aload_n 0, 1) := by decide +kernel
theorem dX8_setWeight_26 : decode cX8_setWeight 26 = .ok (.getfield 10, 3) := by decide +kernel
theorem dX8_setWeight_29 : decode cX8_setWeight 29 = .ok (.getfield 111, 3) := by decide +kernel
theorem dX8_setWeight_32 : decode cX8_setWeight 32 = .ok (.iload_n 1, 1) := by decide +kernel
theorem dX8_setWeight_33 : decode cX8_setWeight 33 = .ok (.invokevirtual 125, 3) := by decide +kernel
theorem dX8_setWeight_36 : decode cX8_setWeight 36 = .ok (.ifCond .eq 13, 3) := by decide +kernel
theorem dX8_setWeight_39 : decode cX8_setWeight 39 = .ok (.new 129, 3) := by decide +kernel
theorem dX8_setWeight_42 : decode cX8_setWeight 42 = .ok (.dup, 1) := by decide +kernel
theorem dX8_setWeight_43 : decode cX8_setWeight 43 = .ok (.ldc 131, 2) := by decide +kernel
theorem dX8_setWeight_45 : decode cX8_setWeight 45 = .ok (.invokespecial 133, 3) := by decide +kernel
theorem dX8_setWeight_48 : decode cX8_setWeight 48 = .ok (.athrow, 1) := by decide +kernel
theorem dX8_setWeight_49 : decode cX8_setWeight 49 = .ok (.aload_n 0, 1) := by decide +kernel
theorem dX8_setWeight_50 : decode cX8_setWeight 50 = .ok (.invokevirtual 71, 3) := by decide +kernel
theorem dX8_setWeight_53 : decode cX8_setWeight 53 = .ok (.aload_n 0, 1) := by decide +kernel
theorem dX8_setWeight_54 : decode cX8_setWeight 54 = .ok (.getfield 10, 3) := by decide +kernel
theorem dX8_setWeight_57 : decode cX8_setWeight 57 = .ok (.getfield 111, 3) := by decide +kernel
theorem dX8_setWeight_60 : decode cX8_setWeight 60 = .ok (.iload_n 1, 1) := by decide +kernel
theorem dX8_setWeight_61 : decode cX8_setWeight 61 = .ok (.iload_n 2, 1) := by decide +kernel
theorem dX8_setWeight_62 : decode cX8_setWeight 62 = .ok (.i2l, 1) := by decide +kernel
theorem dX8_setWeight_63 : decode cX8_setWeight 63 = .ok (.invokevirtual 134, 3) := by decide +kernel
theorem dX8_setWeight_66 : decode cX8_setWeight 66 = .ok (.lreturn, 1) := by decide +kernel
theorem dX8_addTest_0 : decode cX8_addTest 0 = .ok (.aload_n 0, 1) := by decide +kernel
theorem dX8_addTest_1 : decode cX8_addTest 1 = .ok (.getfield 10, 3) := by decide +kernel
theorem dX8_addTest_4 : decode cX8_addTest 4 = .ok (.getfield 111, 3) := by decide +kernel
theorem dX8_addTest_7 : decode cX8_addTest 7 = .ok (.getfield 138, 3) := by decide +kernel
theorem dX8_addTest_10 : decode cX8_addTest 10 = .ok (.bipush 10, 2) := by decide +kernel
theorem dX8_addTest_12 : decode cX8_addTest 12 = .ok (.invokestatic 81, 3) := by decide +kernel
theorem dX8_addTest_15 : decode cX8_addTest 15 = .ok (.aload_n 0, 1) := by decide +kernel
theorem dX8_addTest_16 : decode cX8_addTest 16 = .ok (.invokevirtual 71, 3) := by decide +kernel
theorem dX8_addTest_19 : decode cX8_addTest 19 = .ok (.aload_n 0, 1) := by decide +kernel
theorem dX8_addTest_20 : decode cX8_addTest 20 = .ok (.getfield 10, 3) := by decide +kernel
theorem dX8_addTest_23 : decode cX8_addTest 23 = .ok (.getfield 111, 3) := by decide +kernel
theorem dX8_addTest_26 : decode cX8_addTest 26 = .ok (.invokevirtual 141, 3) := by decide +kernel
theorem dX8_addTest_29 : decode cX8_addTest 29 = .ok (.ireturn, 1) := by decide +kernel
theorem dX8_setChances_0 : decode cX8_setChances 0 = .ok (.iload_n 1, 1) := by decide +kernel
theorem dX8_setChances_1 : decode cX8_setChances 1 = .ok (.aload_n 0, 1) := by decide +kernel
theorem dX8_setChances_2 : decode cX8_setChances 2 = .ok (.getfield 10, 3) := by decide +kernel
theorem dX8_setChances_5 : decode cX8_setChances 5 = .ok (.getfield 111, 3) := by decide +kernel
theorem dX8_setChances_8 : decode cX8_setChances 8 = .ok (.getfield 138, 3) := by decide +kernel
theorem dX8_setChances_11 : decode cX8_setChances 11 = .ok (.invokestatic 42, 3) := by decide +kernel
theorem dX8_setChances_14 : decode cX8_setChances 14 = .ok (.iload_n 2, 1) := by decide +kernel
theorem dX8_setChances_15 : decode cX8_setChances 15 = .ok (.aload_n 0, 1) := by decide +kernel
theorem dX8_setChances_16 : decode cX8_setChances 16 = .ok (.getfield 10, 3) := by decide +kernel
theorem dX8_setChances_19 : decode cX8_setChances 19 = .ok (.getfield 111, 3) := by decide +kernel
theorem dX8_setChances_22 : decode cX8_setChances 22 = .ok (.getfield 115, 3) := by decide +kernel
theorem dX8_setChances_25 : decode cX8_setChances 25 = .ok (.invokestatic 42, 3) := by decide +kernel
theorem dX8_setChances_28 : decode cX8_setChances 28 = .ok (.iload_n 3, 1) := by decide +kernel
theorem dX8_setChances_29 : decode cX8_setChances 29 = .ok (.iconst 0, 1) := by decide +kernel
theorem dX8_setChances_30 : decode cX8_setChances 30 = .ok (.bipush 10, 2) := by decide +kernel
theorem dX8_setChances_32 : decode cX8_setChances 32 = .ok (.invokestatic 50, 3) := by decide +kernel
theorem dX8_setChances_35 : decode cX8_setChances 35 = .ok (.iload 4, 2) := by decide +kernel
theorem dX8_setChances_37 : decode cX8_setChances 37 = .ok (.iconst 0, 1) := by decide +kernel
theorem dX8_setChances_38 : decode cX8_setChances 38 = .ok (.bipush 10, 2) := by decide +kernel
theorem dX8_setChances_40 : decode cX8_setChances 40 = .ok (.iload_n 3, 1) := by decide +kernel
theorem dX8_setChances_41 : decode cX8_setChances 41 = .ok (.isub, 1) := by decide +kernel
theorem dX8_setChances_42 : decode cX8_setChances 42 = .ok (.invokestatic 50, 3) := by decide +kernel
theorem dX8_setChances_45 : decode cX8_setChances 45 = .ok (.aload_n 0, 1) := by decide +kernel
theorem dX8_setChances_46 : decode cX8_setChances 46 = .ok (.invokevirtual 71, 3) := by decide +kernel
theorem dX8_setChances_49 : decode cX8_setChances 49 = .ok (.aload_n 0, 1) := by decide +kernel
theorem dX8_setChances_50 : decode cX8_setChances 50 = .ok (.getfield 10, 3) := by decide +kernel
theorem dX8_setChances_53 : decode cX8_setChances 53 = .ok (.getfield 111, 3) := by decide +kernel
theorem dX8_setChances_56 : decode cX8_setChances 56 = .ok (.iload_n 1, 1) := by decide +kernel
theorem dX8_setChances_57 : decode cX8_setChances 57 = .ok (.iload_n 2, 1) := by decide +kernel
theorem dX8_setChances_58 : decode cX8_setChances 58 = .ok (.iload_n 3, 1) := by decide +kernel
theorem dX8_setChances_59 : decode cX8_setChances 59 = .ok (.iload 4, 2) := by decide +kernel
theorem dX8_setChances_61 : decode cX8_setChances 61 = .ok (.invokevirtual 144, 3) := by decide +kernel
theorem dX8_setChances_64 : decode cX8_setChances 64 = .ok (.ireturn, 1) := by decide +kernel
theorem dX8_observe_0 : decode cX8_observe 0 = .ok (.iload_n 1, 1) := by decide +kernel
theorem dX8_observe_1 : decode cX8_observe 1 = .ok (.aload_n 0, 1) := by decide +kernel
theorem dX8_observe_2 : decode cX8_observe 2 = .ok (.getfield 10, 3) := by decide +kernel
theorem dX8_observe_5 : decode cX8_observe 5 = .ok (.getfield 111, 3) := by decide +kernel
theorem dX8_observe_8 : decode cX8_observe 8 = .ok (.getfield 138, 3) := by decide +kernel
theorem dX8_observe_11 : decode cX8_observe 11 = .ok (.invokestatic 42, 3) := by decide +kernel
theorem dX8_observe_14 : decode cX8_observe 14 = .ok (.iload_n 2, 1) := by decide +kernel
theorem dX8_observe_15 : decode cX8_observe 15 = .ok (.iconst 0, 1) := by decide +kernel
theorem dX8_observe_16 : decode cX8_observe 16 = .ok (.iconst 2, 1) := by decide +kernel
theorem dX8_observe_17 : decode cX8_observe 17 = .ok (.invokestatic 50, 3) := by decide +kernel
theorem dX8_observe_20 : decode cX8_observe 20 = .ok (.aload_n 0, 1) := by decide +kernel
theorem dX8_observe_21 : decode cX8_observe 21 = .ok (.getfield 10, 3) := by decide +kernel
theorem dX8_observe_24 : decode cX8_observe 24 = .ok (.getfield 111, 3) := by decide +kernel
theorem dX8_observe_27 : decode cX8_observe 27 = .ok (.aload_n 0, 1) := by decide +kernel
theorem dX8_observe_28 : decode cX8_observe 28 = .ok (.getfield 10, 3) := by decide +kernel
theorem dX8_observe_31 : decode cX8_observe 31 = .ok (.getfield 111, 3) := by decide +kernel
theorem dX8_observe_34 : decode cX8_observe 34 = .ok (.getfield 147, 3) := by decide +kernel
theorem dX8_observe_37 : decode cX8_observe 37 = .ok (.iload_n 1, 1) := by decide +kernel
theorem dX8_observe_38 : decode cX8_observe 38 = .ok (.iload_n 2, 1) := by decide +kernel
theorem dX8_observe_39 : decode cX8_observe 39 = .ok (.aload_n 0, 1) := by decide +kernel
theorem dX8_observe_40 : decode cX8_observe 40 = .ok (.getfield 38, 3) := by decide +kernel
theorem dX8_observe_43 : decode cX8_observe 43 = .ok (.invokevirtual 150, 3) := by decide +kernel
theorem dX8_observe_46 : decode cX8_observe 46 = .ok (.aload_n 0, 1) := by decide +kernel
theorem dX8_observe_47 : decode cX8_observe 47 = .ok (.getfield 10, 3) := by decide +kernel
theorem dX8_observe_50 : decode cX8_observe 50 = .ok (.getfield 111, 3) := by decide +kernel
theorem dX8_observe_53 : decode cX8_observe 53 = .ok (.aload_n 0, 1) := by decide +kernel
theorem dX8_observe_54 : decode cX8_observe 54 = .ok (.getfield 38, 3) := by decide +kernel
theorem dX8_observe_57 : decode cX8_observe 57 = .ok (.invokevirtual 154, 3) := by decide +kernel
theorem dX8_observe_60 : decode cX8_observe 60 = .ok (.aload_n 0, 1) := by decide +kernel
theorem dX8_observe_61 : decode cX8_observe 61 = .ok (.getfield 10, 3) := by decide +kernel
theorem dX8_observe_64 : decode cX8_observe 64 = .ok (.getfield 111, 3) := by decide +kernel
theorem dX8_observe_67 : decode cX8_observe 67 = .ok (.aload_n 0, 1) := by decide +kernel
theorem dX8_observe_68 : decode cX8_observe 68 = .ok (.getfield 38, 3) := by decide +kernel
theorem dX8_observe_71 : decode cX8_observe 71 = .ok (.invokevirtual 158, 3) := by decide +kernel
theorem dX8_observe_74 : decode cX8_observe 74 = .ok (.lstore_n 3, 1) := by decide +kernel
theorem dX8_observe_75 : decode cX8_observe 75 = .ok (.lload_n 3, 1) := by decide +kernel
theorem dX8_observe_76 : decode cX8_observe 76 = .ok (.lconst 0, 1) := by decide +kernel
theorem dX8_observe_77 : decode cX8_observe 77 = .ok (.lcmp, 1) := by decide +kernel
theorem dX8_observe_78 : decode cX8_observe 78 = .ok (.ifCond .ne 13, 3) := by decide +kernel
theorem dX8_observe_81 : decode cX8_observe 81 = .ok (.new 129, 3) := by decide +kernel
theorem dX8_observe_84 : decode cX8_observe 84 = .ok (.dup, 1) := by decide +kernel
theorem dX8_observe_85 : decode cX8_observe 85 = .ok (.ldc 131, 2) := by decide +kernel
theorem dX8_observe_87 : decode cX8_observe 87 = .ok (.invokespecial 133, 3) := by decide +kernel
theorem dX8_observe_90 : decode cX8_observe 90 = .ok (.athrow, 1) := by decide +kernel
theorem dX8_observe_91 : decode cX8_observe 91 = .ok (.lload_n 3, 1) := by decide +kernel
theorem dX8_observe_92 : decode cX8_observe 92 = .ok (.ldc2_w 162, 3) := by decide +kernel
theorem dX8_observe_95 : decode cX8_observe 95 = .ok (.lcmp, 1) := by decide +kernel
theorem dX8_observe_96 : decode cX8_observe 96 = .ok (.ifCond .le 13, 3) := by decide +kernel
theorem dX8_observe_99 : decode cX8_observe 99 = .ok (.new 164, 3) := by decide +kernel
theorem dX8_observe_102 : decode cX8_observe 102 = .ok (.dup, 1) := by decide +kernel
theorem dX8_observe_103 : decode cX8_observe 103 = .ok (.ldc 166, 2) := by decide +kernel
theorem dX8_observe_105 : decode cX8_observe 105 = .ok (.invokespecial 168, 3) := by decide +kernel
theorem dX8_observe_108 : decode cX8_observe 108 = .ok (.athrow, 1) := by decide +kernel
theorem dX8_observe_109 : decode cX8_observe 109 = .ok (.aload_n 0, 1) := by decide +kernel
theorem dX8_observe_110 : decode cX8_observe 110 = .ok (.invokevirtual 71, 3) := by decide +kernel
theorem dX8_observe_113 : decode cX8_observe 113 = .ok (.aload_n 0, 1) := by decide +kernel
theorem dX8_observe_114 : decode cX8_observe 114 = .ok (.getfield 10, 3) := by decide +kernel
theorem dX8_observe_117 : decode cX8_observe 117 = .ok (.getfield 111, 3) := by decide +kernel
theorem dX8_observe_120 : decode cX8_observe 120 = .ok (.aload_n 0, 1) := by decide +kernel
theorem dX8_observe_121 : decode cX8_observe 121 = .ok (.getfield 38, 3) := by decide +kernel
theorem dX8_observe_124 : decode cX8_observe 124 = .ok (.invokevirtual 169, 3) := by decide +kernel
theorem dX8_observe_127 : decode cX8_observe 127 = .ok (.aload_n 0, 1) := by decide +kernel
theorem dX8_observe_128 : decode cX8_observe 128 = .ok (.getfield 10, 3) := by decide +kernel
theorem dX8_observe_131 : decode cX8_observe 131 = .ok (.getfield 111, 3) := by decide +kernel
theorem dX8_observe_134 : decode cX8_observe 134 = .ok (.invokevirtual 172, 3) := by decide +kernel
theorem dX8_observe_137 : decode cX8_observe 137 = .ok (.ireturn, 1) := by decide +kernel
theorem dX8_odds_0 : decode cX8_odds 0 = .ok (.iload_n 1, 1) := by decide +kernel
theorem dX8_odds_1 : decode cX8_odds 1 = .ok (.aload_n 0, 1) := by decide +kernel
theorem dX8_odds_2 : decode cX8_odds 2 = .ok (.getfield 10, 3) := by decide +kernel
theorem dX8_odds_5 : decode cX8_odds 5 = .ok (.getfield 111, 3) := by decide +kernel
theorem dX8_odds_8 : decode cX8_odds 8 = .ok (.getfield 115, 3) := by decide +kernel
theorem dX8_odds_11 : decode cX8_odds 11 = .ok (.invokestatic 42, 3) := by decide +kernel
theorem dX8_odds_14 : decode cX8_odds 14 = .ok (.iload_n 2, 1) := by decide +kernel
theorem dX8_odds_15 : decode cX8_odds 15 = .ok (.iconst 0, 1) := by decide +kernel
theorem dX8_odds_16 : decode cX8_odds 16 = .ok (.iconst 1, 1) := by decide +kernel
theorem dX8_odds_17 : decode cX8_odds 17 = .ok (.invokestatic 50, 3) := by decide +kernel
theorem dX8_odds_20 : decode cX8_odds 20 = .ok (.aload_n 0, 1) := by decide +kernel
theorem dX8_odds_21 : decode cX8_odds 21 = .ok (.getfield 10, 3) := by decide +kernel
theorem dX8_odds_24 : decode cX8_odds 24 = .ok (.getfield 111, 3) := by decide +kernel
theorem dX8_odds_27 : decode cX8_odds 27 = .ok (.getfield 147, 3) := by decide +kernel
theorem dX8_odds_30 : decode cX8_odds 30 = .ok (.iload_n 1, 1) := by decide +kernel
theorem dX8_odds_31 : decode cX8_odds 31 = .ok (.laload, 1) := by decide +kernel
theorem dX8_odds_32 : decode cX8_odds 32 = .ok (.aload_n 0, 1) := by decide +kernel
theorem dX8_odds_33 : decode cX8_odds 33 = .ok (.getfield 10, 3) := by decide +kernel
theorem dX8_odds_36 : decode cX8_odds 36 = .ok (.getfield 111, 3) := by decide +kernel
theorem dX8_odds_39 : decode cX8_odds 39 = .ok (.invokevirtual 175, 3) := by decide +kernel
theorem dX8_odds_42 : decode cX8_odds 42 = .ok (.iload_n 2, 1) := by decide +kernel
theorem dX8_odds_43 : decode cX8_odds 43 = .ok (.invokestatic 179, 3) := by decide +kernel
theorem dX8_odds_46 : decode cX8_odds 46 = .ok (.lreturn, 1) := by decide +kernel
theorem dX8_planValue_0 : decode cX8_planValue 0 = .ok (.iload_n 1, 1) := by decide +kernel
theorem dX8_planValue_1 : decode cX8_planValue 1 = .ok (.iconst 0, 1) := by decide +kernel
theorem dX8_planValue_2 : decode cX8_planValue 2 = .ok (.iconst 3, 1) := by decide +kernel
theorem dX8_planValue_3 : decode cX8_planValue 3 = .ok (.invokestatic 50, 3) := by decide +kernel
theorem dX8_planValue_6 : decode cX8_planValue 6 = .ok (.iload_n 2, 1) := by decide +kernel
theorem dX8_planValue_7 : decode cX8_planValue 7 = .ok (.iconst 0, 1) := by decide +kernel
theorem dX8_planValue_8 : decode cX8_planValue 8 = .ok (.iconst 1, 1) := by decide +kernel
theorem dX8_planValue_9 : decode cX8_planValue 9 = .ok (.invokestatic 50, 3) := by decide +kernel
theorem dX8_planValue_12 : decode cX8_planValue 12 = .ok (.iload_n 1, 1) := by decide +kernel
theorem dX8_planValue_13 : decode cX8_planValue 13 = .ok (.ifCond .le 7, 3) := by decide +kernel
theorem dX8_planValue_16 : decode cX8_planValue 16 = .ok (.aload_n 0, 1) := by decide +kernel
theorem dX8_planValue_17 : decode cX8_planValue 17 = .ok (.invokevirtual 185, 3) := by decide +kernel
theorem dX8_planValue_20 : decode cX8_planValue 20 = .ok (.aload_n 0, 1) := by decide +kernel
theorem dX8_planValue_21 : decode cX8_planValue 21 = .ok (.getfield 27, 3) := by decide +kernel
theorem dX8_planValue_24 : decode cX8_planValue 24 = .ok (.aload_n 0, 1) := by decide +kernel
theorem dX8_planValue_25 : decode cX8_planValue 25 = .ok (.getfield 10, 3) := by decide +kernel
theorem dX8_planValue_28 : decode cX8_planValue 28 = .ok (.getfield 111, 3) := by decide +kernel
theorem dX8_planValue_31 : decode cX8_planValue 31 = .ok (.iload_n 1, 1) := by decide +kernel
theorem dX8_planValue_32 : decode cX8_planValue 32 = .ok (.invokevirtual 188, 3) := by decide +kernel
theorem dX8_planValue_35 : decode cX8_planValue 35 = .ok (.lstore_n 3, 1) := by decide +kernel
theorem dX8_planValue_36 : decode cX8_planValue 36 = .ok (.lload_n 3, 1) := by decide +kernel
theorem dX8_planValue_37 : decode cX8_planValue 37 = .ok (.bipush 10, 2) := by decide +kernel
theorem dX8_planValue_39 : decode cX8_planValue 39 = .ok (.iload_n 1, 1) := by decide +kernel
theorem dX8_planValue_40 : decode cX8_planValue 40 = .ok (.invokestatic 192, 3) := by decide +kernel
theorem dX8_planValue_43 : decode cX8_planValue 43 = .ok (.aload_n 0, 1) := by decide +kernel
theorem dX8_planValue_44 : decode cX8_planValue 44 = .ok (.getfield 10, 3) := by decide +kernel
theorem dX8_planValue_47 : decode cX8_planValue 47 = .ok (.getfield 111, 3) := by decide +kernel
theorem dX8_planValue_50 : decode cX8_planValue 50 = .ok (.invokevirtual 175, 3) := by decide +kernel
theorem dX8_planValue_53 : decode cX8_planValue 53 = .ok (.lmul, 1) := by decide +kernel
theorem dX8_planValue_54 : decode cX8_planValue 54 = .ok (.iload_n 2, 1) := by decide +kernel
theorem dX8_planValue_55 : decode cX8_planValue 55 = .ok (.invokestatic 179, 3) := by decide +kernel
theorem dX8_planValue_58 : decode cX8_planValue 58 = .ok (.lreturn, 1) := by decide +kernel
theorem dX8_planFirst_0 : decode cX8_planFirst 0 = .ok (.iload_n 1, 1) := by decide +kernel
theorem dX8_planFirst_1 : decode cX8_planFirst 1 = .ok (.iconst 1, 1) := by decide +kernel
theorem dX8_planFirst_2 : decode cX8_planFirst 2 = .ok (.iconst 3, 1) := by decide +kernel
theorem dX8_planFirst_3 : decode cX8_planFirst 3 = .ok (.invokestatic 50, 3) := by decide +kernel
theorem dX8_planFirst_6 : decode cX8_planFirst 6 = .ok (.aload_n 0, 1) := by decide +kernel
theorem dX8_planFirst_7 : decode cX8_planFirst 7 = .ok (.invokevirtual 185, 3) := by decide +kernel
theorem dX8_planFirst_10 : decode cX8_planFirst 10 = .ok (.aload_n 0, 1) := by decide +kernel
theorem dX8_planFirst_11 : decode cX8_planFirst 11 = .ok (.getfield 27, 3) := by decide +kernel
theorem dX8_planFirst_14 : decode cX8_planFirst 14 = .ok (.aload_n 0, 1) := by decide +kernel
theorem dX8_planFirst_15 : decode cX8_planFirst 15 = .ok (.getfield 10, 3) := by decide +kernel
theorem dX8_planFirst_18 : decode cX8_planFirst 18 = .ok (.getfield 111, 3) := by decide +kernel
theorem dX8_planFirst_21 : decode cX8_planFirst 21 = .ok (.iload_n 1, 1) := by decide +kernel
theorem dX8_planFirst_22 : decode cX8_planFirst 22 = .ok (.invokevirtual 197, 3) := by decide +kernel
theorem dX8_planFirst_25 : decode cX8_planFirst 25 = .ok (.ireturn, 1) := by decide +kernel
theorem dX8_tail_0 : decode cX8_tail 0 = .ok (.iload_n 1, 1) := by decide +kernel
theorem dX8_tail_1 : decode cX8_tail 1 = .ok (.iconst 0, 1) := by decide +kernel
theorem dX8_tail_2 : decode cX8_tail 2 = .ok (.bipush 15, 2) := by decide +kernel
theorem dX8_tail_4 : decode cX8_tail 4 = .ok (.invokestatic 50, 3) := by decide +kernel
theorem dX8_tail_7 : decode cX8_tail 7 = .ok (.iload_n 2, 1) := by decide +kernel
theorem dX8_tail_8 : decode cX8_tail 8 = .ok (.iconst 0, 1) := by decide +kernel
theorem dX8_tail_9 : decode cX8_tail 9 = .ok (.bipush 16, 2) := by decide +kernel
theorem dX8_tail_11 : decode cX8_tail 11 = .ok (.invokestatic 50, 3) := by decide +kernel
theorem dX8_tail_14 : decode cX8_tail 14 = .ok (.iload_n 3, 1) := by decide +kernel
theorem dX8_tail_15 : decode cX8_tail 15 = .ok (.iconst 0, 1) := by decide +kernel
theorem dX8_tail_16 : decode cX8_tail 16 = .ok (.bipush 10, 2) := by decide +kernel
theorem dX8_tail_18 : decode cX8_tail 18 = .ok (.invokestatic 50, 3) := by decide +kernel
theorem dX8_tail_21 : decode cX8_tail 21 = .ok (.iload_n 1, 1) := by decide +kernel
theorem dX8_tail_22 : decode cX8_tail 22 = .ok (.iload_n 2, 1) := by decide +kernel
theorem dX8_tail_23 : decode cX8_tail 23 = .ok (.iload_n 3, 1) := by decide +kernel
theorem dX8_tail_24 : decode cX8_tail 24 = .ok (.invokestatic 201, 3) := by decide +kernel
theorem dX8_tail_27 : decode cX8_tail 27 = .ok (.lreturn, 1) := by decide +kernel
theorem dX8_fewestTrials_0 : decode cX8_fewestTrials 0 = .ok (.iload_n 1, 1) := by decide +kernel
theorem dX8_fewestTrials_1 : decode cX8_fewestTrials 1 = .ok (.iconst 0, 1) := by decide +kernel
theorem dX8_fewestTrials_2 : decode cX8_fewestTrials 2 = .ok (.bipush 10, 2) := by decide +kernel
theorem dX8_fewestTrials_4 : decode cX8_fewestTrials 4 = .ok (.invokestatic 50, 3) := by decide +kernel
theorem dX8_fewestTrials_7 : decode cX8_fewestTrials 7 = .ok (.iload_n 2, 1) := by decide +kernel
theorem dX8_fewestTrials_8 : decode cX8_fewestTrials 8 = .ok (.iconst 0, 1) := by decide +kernel
theorem dX8_fewestTrials_9 : decode cX8_fewestTrials 9 = .ok (.bipush 10, 2) := by decide +kernel
theorem dX8_fewestTrials_11 : decode cX8_fewestTrials 11 = .ok (.invokestatic 50, 3) := by decide +kernel
theorem dX8_fewestTrials_14 : decode cX8_fewestTrials 14 = .ok (.iload_n 3, 1) := by decide +kernel
theorem dX8_fewestTrials_15 : decode cX8_fewestTrials 15 = .ok (.iconst 1, 1) := by decide +kernel
theorem dX8_fewestTrials_16 : decode cX8_fewestTrials 16 = .ok (.sipush 1000, 3) := by decide +kernel
theorem dX8_fewestTrials_19 : decode cX8_fewestTrials 19 = .ok (.invokestatic 50, 3) := by decide +kernel
theorem dX8_fewestTrials_22 : decode cX8_fewestTrials 22 = .ok (.iload_n 1, 1) := by decide +kernel
theorem dX8_fewestTrials_23 : decode cX8_fewestTrials 23 = .ok (.iload_n 2, 1) := by decide +kernel
theorem dX8_fewestTrials_24 : decode cX8_fewestTrials 24 = .ok (.iload_n 3, 1) := by decide +kernel
theorem dX8_fewestTrials_25 : decode cX8_fewestTrials 25 = .ok (.invokestatic 205, 3) := by decide +kernel
theorem dX8_fewestTrials_28 : decode cX8_fewestTrials 28 = .ok (.ireturn, 1) := by decide +kernel
theorem dX8_addSupporter_0 : decode cX8_addSupporter 0 = .ok (.iload_n 1, 1) := by decide +kernel
theorem dX8_addSupporter_1 : decode cX8_addSupporter 1 = .ok (.iconst 1, 1) := by decide +kernel
theorem dX8_addSupporter_2 : decode cX8_addSupporter 2 = .ok (.ldc 49, 2) := by decide +kernel
theorem dX8_addSupporter_4 : decode cX8_addSupporter 4 = .ok (.invokestatic 50, 3) := by decide +kernel
theorem dX8_addSupporter_7 : decode cX8_addSupporter 7 = .ok (.iload_n 2, 1) := by decide +kernel
theorem dX8_addSupporter_8 : decode cX8_addSupporter 8 = .ok (.iconst 0, 1) := by decide +kernel
theorem dX8_addSupporter_9 : decode cX8_addSupporter 9 = .ok (.ldc 208, 2) := by decide +kernel
theorem dX8_addSupporter_11 : decode cX8_addSupporter 11 = .ok (.invokestatic 50, 3) := by decide +kernel
theorem dX8_addSupporter_14 : decode cX8_addSupporter 14 = .ok (.aload_n 0, 1) := by decide +kernel
theorem dX8_addSupporter_15 : decode cX8_addSupporter 15 = .ok (.getfield 10, 3) := by decide +kernel
theorem dX8_addSupporter_18 : decode cX8_addSupporter 18 = .ok (.getfield 209, 3) := by decide +kernel
theorem dX8_addSupporter_21 : decode cX8_addSupporter 21 = .ok (.getfield 213, 3) := by decide +kernel
theorem dX8_addSupporter_24 : decode cX8_addSupporter 24 = .ok (.bipush 8, 2) := by decide +kernel
theorem dX8_addSupporter_26 : decode cX8_addSupporter 26 = .ok (.invokestatic 81, 3) := by decide +kernel
theorem dX8_addSupporter_29 : decode cX8_addSupporter 29 = .ok (.aload_n 0, 1) := by decide +kernel
theorem dX8_addSupporter_30 : decode cX8_addSupporter 30 = .ok (.invokevirtual 71, 3) := by decide +kernel
theorem dX8_addSupporter_33 : decode cX8_addSupporter 33 = .ok (.aload_n 0, 1) := by decide +kernel
theorem dX8_addSupporter_34 : decode cX8_addSupporter 34 = .ok (.getfield 10, 3) := by decide +kernel
theorem dX8_addSupporter_37 : decode cX8_addSupporter 37 = .ok (.getfield 209, 3) := by decide +kernel
theorem dX8_addSupporter_40 : decode cX8_addSupporter 40 = .ok (.iload_n 1, 1) := by decide +kernel
theorem dX8_addSupporter_41 : decode cX8_addSupporter 41 = .ok (.iload_n 2, 1) := by decide +kernel
theorem dX8_addSupporter_42 : decode cX8_addSupporter 42 = .ok (.invokevirtual 218, 3) := by decide +kernel
theorem dX8_addSupporter_45 : decode cX8_addSupporter 45 = .ok (.ireturn, 1) := by decide +kernel
theorem dX8_addSession_0 : decode cX8_addSession 0 = .ok (.iload_n 1, 1) := by decide +kernel
theorem dX8_addSession_1 : decode cX8_addSession 1 = .ok (.iconst 1, 1) := by decide +kernel
theorem dX8_addSession_2 : decode cX8_addSession 2 = .ok (.ldc 49, 2) := by decide +kernel
theorem dX8_addSession_4 : decode cX8_addSession 4 = .ok (.invokestatic 50, 3) := by decide +kernel
theorem dX8_addSession_7 : decode cX8_addSession 7 = .ok (.iload_n 2, 1) := by decide +kernel
theorem dX8_addSession_8 : decode cX8_addSession 8 = .ok (.iconst 0, 1) := by decide +kernel
theorem dX8_addSession_9 : decode cX8_addSession 9 = .ok (.bipush 23, 2) := by decide +kernel
theorem dX8_addSession_11 : decode cX8_addSession 11 = .ok (.invokestatic 50, 3) := by decide +kernel
theorem dX8_addSession_14 : decode cX8_addSession 14 = .ok (.aload_n 0, 1) := by decide +kernel
theorem dX8_addSession_15 : decode cX8_addSession 15 = .ok (.getfield 10, 3) := by decide +kernel
theorem dX8_addSession_18 : decode cX8_addSession 18 = .ok (.getfield 209, 3) := by decide +kernel
theorem dX8_addSession_21 : decode cX8_addSession 21 = .ok (.getfield 221, 3) := by decide +kernel
theorem dX8_addSession_24 : decode cX8_addSession 24 = .ok (.bipush 8, 2) := by decide +kernel
theorem dX8_addSession_26 : decode cX8_addSession 26 = .ok (.invokestatic 81, 3) := by decide +kernel
theorem dX8_addSession_29 : decode cX8_addSession 29 = .ok (.aload_n 0, 1) := by decide +kernel
theorem dX8_addSession_30 : decode cX8_addSession 30 = .ok (.invokevirtual 71, 3) := by decide +kernel
theorem dX8_addSession_33 : decode cX8_addSession 33 = .ok (.aload_n 0, 1) := by decide +kernel
theorem dX8_addSession_34 : decode cX8_addSession 34 = .ok (.getfield 10, 3) := by decide +kernel
theorem dX8_addSession_37 : decode cX8_addSession 37 = .ok (.getfield 209, 3) := by decide +kernel
theorem dX8_addSession_40 : decode cX8_addSession 40 = .ok (.iload_n 1, 1) := by decide +kernel
theorem dX8_addSession_41 : decode cX8_addSession 41 = .ok (.iload_n 2, 1) := by decide +kernel
theorem dX8_addSession_42 : decode cX8_addSession 42 = .ok (.invokevirtual 224, 3) := by decide +kernel
theorem dX8_addSession_45 : decode cX8_addSession 45 = .ok (.ireturn, 1) := by decide +kernel
theorem dX8_clearSessions_0 : decode cX8_clearSessions 0 = .ok (.aload_n 0, 1) := by decide +kernel
theorem dX8_clearSessions_1 : decode cX8_clearSessions 1 = .ok (.invokevirtual 71, 3) := by decide +kernel
theorem dX8_clearSessions_4 : decode cX8_clearSessions 4 = .ok (.aload_n 0, 1) := by decide +kernel
theorem dX8_clearSessions_5 : decode cX8_clearSessions 5 = .ok (.getfield 10, 3) := by decide +kernel
theorem dX8_clearSessions_8 : decode cX8_clearSessions 8 = .ok (.getfield 209, 3) := by decide +kernel
theorem dX8_clearSessions_11 : decode cX8_clearSessions 11 = .ok (.invokevirtual 227, 3) := by decide +kernel
theorem dX8_clearSessions_14 : decode cX8_clearSessions 14 = .ok (.ireturn, 1) := by decide +kernel
theorem dX8_covered_0 : decode cX8_covered 0 = .ok (.aload_n 0, 1) := by decide +kernel
theorem dX8_covered_1 : decode cX8_covered 1 = .ok (.getfield 34, 3) := by decide +kernel
theorem dX8_covered_4 : decode cX8_covered 4 = .ok (.aload_n 0, 1) := by decide +kernel
theorem dX8_covered_5 : decode cX8_covered 5 = .ok (.getfield 10, 3) := by decide +kernel
theorem dX8_covered_8 : decode cX8_covered 8 = .ok (.getfield 209, 3) := by decide +kernel
theorem dX8_covered_11 : decode cX8_covered 11 = .ok (.invokevirtual 230, 3) := by decide +kernel
theorem dX8_covered_14 : decode cX8_covered 14 = .ok (.aload_n 0, 1) := by decide +kernel
theorem dX8_covered_15 : decode cX8_covered 15 = .ok (.getfield 34, 3) := by decide +kernel
theorem dX8_covered_18 : decode cX8_covered 18 = .ok (.getfield 234, 3) := by decide +kernel
theorem dX8_covered_21 : decode cX8_covered 21 = .ok (.ireturn, 1) := by decide +kernel
theorem dX8_supporterOf_0 : decode cX8_supporterOf 0 = .ok (.iload_n 1, 1) := by decide +kernel
theorem dX8_supporterOf_1 : decode cX8_supporterOf 1 = .ok (.aload_n 0, 1) := by decide +kernel
theorem dX8_supporterOf_2 : decode cX8_supporterOf 2 = .ok (.getfield 10, 3) := by decide +kernel
theorem dX8_supporterOf_5 : decode cX8_supporterOf 5 = .ok (.getfield 209, 3) := by decide +kernel
theorem dX8_supporterOf_8 : decode cX8_supporterOf 8 = .ok (.getfield 221, 3) := by decide +kernel
theorem dX8_supporterOf_11 : decode cX8_supporterOf 11 = .ok (.invokestatic 42, 3) := by decide +kernel
theorem dX8_supporterOf_14 : decode cX8_supporterOf 14 = .ok (.aload_n 0, 1) := by decide +kernel
theorem dX8_supporterOf_15 : decode cX8_supporterOf 15 = .ok (.getfield 34, 3) := by decide +kernel
theorem dX8_supporterOf_18 : decode cX8_supporterOf 18 = .ok (.aload_n 0, 1) := by decide +kernel
theorem dX8_supporterOf_19 : decode cX8_supporterOf 19 = .ok (.getfield 10, 3) := by decide +kernel
theorem dX8_supporterOf_22 : decode cX8_supporterOf 22 = .ok (.getfield 209, 3) := by decide +kernel
theorem dX8_supporterOf_25 : decode cX8_supporterOf 25 = .ok (.invokevirtual 230, 3) := by decide +kernel
theorem dX8_supporterOf_28 : decode cX8_supporterOf 28 = .ok (.aload_n 0, 1) := by decide +kernel
theorem dX8_supporterOf_29 : decode cX8_supporterOf 29 = .ok (.getfield 34, 3) := by decide +kernel
theorem dX8_supporterOf_32 : decode cX8_supporterOf 32 = .ok (.getfield 237, 3) := by decide +kernel
theorem dX8_supporterOf_35 : decode cX8_supporterOf 35 = .ok (.iload_n 1, 1) := by decide +kernel
theorem dX8_supporterOf_36 : decode cX8_supporterOf 36 = .ok (.iaload, 1) := by decide +kernel
theorem dX8_supporterOf_37 : decode cX8_supporterOf 37 = .ok (.ireturn, 1) := by decide +kernel
theorem dX8_undo_0 : decode cX8_undo 0 = .ok (.aload_n 0, 1) := by decide +kernel
theorem dX8_undo_1 : decode cX8_undo 1 = .ok (.getfield 20, 3) := by decide +kernel
theorem dX8_undo_4 : decode cX8_undo 4 = .ok (.ifCond .ne 13, 3) := by decide +kernel
theorem dX8_undo_7 : decode cX8_undo 7 = .ok (.new 129, 3) := by decide +kernel
theorem dX8_undo_10 : decode cX8_undo 10 = .ok (.dup, 1) := by decide +kernel
theorem dX8_undo_11 : decode cX8_undo 11 = .ok (.ldc 241, 2) := by decide +kernel
theorem dX8_undo_13 : decode cX8_undo 13 = .ok (.invokespecial 133, 3) := by decide +kernel
theorem dX8_undo_16 : decode cX8_undo 16 = .ok (.athrow, 1) := by decide +kernel
theorem dX8_undo_17 : decode cX8_undo 17 = .ok (.aload_n 0, 1) := by decide +kernel
theorem dX8_undo_18 : decode cX8_undo 18 = .ok (.dup, 1) := by decide +kernel
theorem dX8_undo_19 : decode cX8_undo 19 = .ok (.getfield 20, 3) := by decide +kernel
theorem dX8_undo_22 : decode cX8_undo 22 = .ok (.iconst 1, 1) := by decide +kernel
theorem dX8_undo_23 : decode cX8_undo 23 = .ok (.isub, 1) := by decide +kernel
theorem dX8_undo_24 : decode cX8_undo 24 = .ok (.putfield 20, 3) := by decide +kernel
theorem dX8_undo_27 : decode cX8_undo 27 = .ok (.aload_n 0, 1) := by decide +kernel
theorem dX8_undo_28 : decode cX8_undo 28 = .ok (.getfield 10, 3) := by decide +kernel
theorem dX8_undo_31 : decode cX8_undo 31 = .ok (.aload_n 0, 1) := by decide +kernel
theorem dX8_undo_32 : decode cX8_undo 32 = .ok (.getfield 16, 3) := by decide +kernel
theorem dX8_undo_35 : decode cX8_undo 35 = .ok (.aload_n 0, 1) := by decide +kernel
theorem dX8_undo_36 : decode cX8_undo 36 = .ok (.getfield 20, 3) := by decide +kernel
theorem dX8_undo_39 : decode cX8_undo 39 = .ok (.aaload, 1) := by decide +kernel
theorem dX8_undo_40 : decode cX8_undo 40 = .ok (.invokevirtual 243, 3) := by decide +kernel
theorem dX8_undo_43 : decode cX8_undo 43 = .ok (.aload_n 0, 1) := by decide +kernel
theorem dX8_undo_44 : decode cX8_undo 44 = .ok (.getfield 20, 3) := by decide +kernel
theorem dX8_undo_47 : decode cX8_undo 47 = .ok (.ireturn, 1) := by decide +kernel
theorem dX8_digest_0 : decode cX8_digest 0 = .ok (.aload_n 0, 1) := by decide +kernel
theorem dX8_digest_1 : decode cX8_digest 1 = .ok (.getfield 34, 3) := by decide +kernel
theorem dX8_digest_4 : decode cX8_digest 4 = .ok (.aload_n 0, 1) := by decide +kernel
theorem dX8_digest_5 : decode cX8_digest 5 = .ok (.getfield 10, 3) := by decide +kernel
theorem dX8_digest_8 : decode cX8_digest 8 = .ok (.getfield 209, 3) := by decide +kernel
theorem dX8_digest_11 : decode cX8_digest 11 = .ok (.invokevirtual 230, 3) := by decide +kernel
theorem dX8_digest_14 : decode cX8_digest 14 = .ok (.aload_n 0, 1) := by decide +kernel
theorem dX8_digest_15 : decode cX8_digest 15 = .ok (.getfield 10, 3) := by decide +kernel
theorem dX8_digest_18 : decode cX8_digest 18 = .ok (.getfield 54, 3) := by decide +kernel
theorem dX8_digest_21 : decode cX8_digest 21 = .ok (.ldc2_w 247, 3) := by decide +kernel
theorem dX8_digest_24 : decode cX8_digest 24 = .ok (.invokevirtual 249, 3) := by decide +kernel
theorem dX8_digest_27 : decode cX8_digest 27 = .ok (.lstore_n 1, 1) := by decide +kernel
theorem dX8_digest_28 : decode cX8_digest 28 = .ok (.aload_n 0, 1) := by decide +kernel
theorem dX8_digest_29 : decode cX8_digest 29 = .ok (.getfield 10, 3) := by decide +kernel
theorem dX8_digest_32 : decode cX8_digest 32 = .ok (.getfield 111, 3) := by decide +kernel
theorem dX8_digest_35 : decode cX8_digest 35 = .ok (.lload_n 1, 1) := by decide +kernel
theorem dX8_digest_36 : decode cX8_digest 36 = .ok (.invokevirtual 253, 3) := by decide +kernel
theorem dX8_digest_39 : decode cX8_digest 39 = .ok (.lstore_n 1, 1) := by decide +kernel
theorem dX8_digest_40 : decode cX8_digest 40 = .ok (.aload_n 0, 1) := by decide +kernel
theorem dX8_digest_41 : decode cX8_digest 41 = .ok (.getfield 10, 3) := by decide +kernel
theorem dX8_digest_44 : decode cX8_digest 44 = .ok (.getfield 209, 3) := by decide +kernel
theorem dX8_digest_47 : decode cX8_digest 47 = .ok (.lload_n 1, 1) := by decide +kernel
theorem dX8_digest_48 : decode cX8_digest 48 = .ok (.aload_n 0, 1) := by decide +kernel
theorem dX8_digest_49 : decode cX8_digest 49 = .ok (.getfield 34, 3) := by decide +kernel
theorem dX8_digest_52 : decode cX8_digest 52 = .ok (.invokevirtual 254, 3) := by decide +kernel
theorem dX8_digest_55 : decode cX8_digest 55 = .ok (.lstore_n 1, 1) := by decide +kernel
theorem dX8_digest_56 : decode cX8_digest 56 = .ok (.lload_n 1, 1) := by decide +kernel
theorem dX8_digest_57 : decode cX8_digest 57 = .ok (.aload_n 0, 1) := by decide +kernel
theorem dX8_digest_58 : decode cX8_digest 58 = .ok (.getfield 20, 3) := by decide +kernel
theorem dX8_digest_61 : decode cX8_digest 61 = .ok (.i2l, 1) := by decide +kernel
theorem dX8_digest_62 : decode cX8_digest 62 = .ok (.invokestatic 257, 3) := by decide +kernel
theorem dX8_digest_65 : decode cX8_digest 65 = .ok (.lreturn, 1) := by decide +kernel
theorem dX8_mix_0 : decode cX8_mix 0 = .ok (.ldc2_w 261, 3) := by decide +kernel
theorem dX8_mix_3 : decode cX8_mix 3 = .ok (.lload_n 0, 1) := by decide +kernel
theorem dX8_mix_4 : decode cX8_mix 4 = .ok (.lmul, 1) := by decide +kernel
theorem dX8_mix_5 : decode cX8_mix 5 = .ok (.lload_n 2, 1) := by decide +kernel
theorem dX8_mix_6 : decode cX8_mix 6 = .ok (.ladd, 1) := by decide +kernel
theorem dX8_mix_7 : decode cX8_mix 7 = .ok (.lreturn, 1) := by decide +kernel
theorem dX8_save_0 : decode cX8_save 0 = .ok (.aload_n 0, 1) := by decide +kernel
theorem dX8_save_1 : decode cX8_save 1 = .ok (.getfield 20, 3) := by decide +kernel
theorem dX8_save_4 : decode cX8_save 4 = .ok (.iconst 4, 1) := by decide +kernel
theorem dX8_save_5 : decode cX8_save 5 = .ok (.if_icmp .ne 54, 3) := by decide +kernel
theorem dX8_save_8 : decode cX8_save 8 = .ok (.aload_n 0, 1) := by decide +kernel
theorem dX8_save_9 : decode cX8_save 9 = .ok (.getfield 16, 3) := by decide +kernel
theorem dX8_save_12 : decode cX8_save 12 = .ok (.iconst 0, 1) := by decide +kernel
theorem dX8_save_13 : decode cX8_save 13 = .ok (.aaload, 1) := by decide +kernel
theorem dX8_save_14 : decode cX8_save 14 = .ok (.astore_n 1, 1) := by decide +kernel
theorem dX8_save_15 : decode cX8_save 15 = .ok (.iconst 1, 1) := by decide +kernel
theorem dX8_save_16 : decode cX8_save 16 = .ok (.istore_n 2, 1) := by decide +kernel
theorem dX8_save_17 : decode cX8_save 17 = .ok (.iload_n 2, 1) := by decide +kernel
theorem dX8_save_18 : decode cX8_save 18 = .ok (.iconst 4, 1) := by decide +kernel
theorem dX8_save_19 : decode cX8_save 19 = .ok (.if_icmp .ge 23, 3) := by decide +kernel
theorem dX8_save_22 : decode cX8_save 22 = .ok (.aload_n 0, 1) := by decide +kernel
theorem dX8_save_23 : decode cX8_save 23 = .ok (.getfield 16, 3) := by decide +kernel
theorem dX8_save_26 : decode cX8_save 26 = .ok (.iload_n 2, 1) := by decide +kernel
theorem dX8_save_27 : decode cX8_save 27 = .ok (.iconst 1, 1) := by decide +kernel
theorem dX8_save_28 : decode cX8_save 28 = .ok (.isub, 1) := by decide +kernel
theorem dX8_save_29 : decode cX8_save 29 = .ok (.aload_n 0, 1) := by decide +kernel
theorem dX8_save_30 : decode cX8_save 30 = .ok (.getfield 16, 3) := by decide +kernel
theorem dX8_save_33 : decode cX8_save 33 = .ok (.iload_n 2, 1) := by decide +kernel
theorem dX8_save_34 : decode cX8_save 34 = .ok (.aaload, 1) := by decide +kernel
theorem dX8_save_35 : decode cX8_save 35 = .ok (.aastore, 1) := by decide +kernel
theorem dX8_save_36 : decode cX8_save 36 = .ok (.iinc 2 1, 3) := by decide +kernel
theorem dX8_save_39 : decode cX8_save 39 = .ok (.goto (-22), 3) := by decide +kernel
theorem dX8_save_42 : decode cX8_save 42 = .ok (.aload_n 0, 1) := by decide +kernel
theorem dX8_save_43 : decode cX8_save 43 = .ok (.getfield 16, 3) := by decide +kernel
theorem dX8_save_46 : decode cX8_save 46 = .ok (.iconst 3, 1) := by decide +kernel
theorem dX8_save_47 : decode cX8_save 47 = .ok (.aload_n 1, 1) := by decide +kernel
theorem dX8_save_48 : decode cX8_save 48 = .ok (.aastore, 1) := by decide +kernel
theorem dX8_save_49 : decode cX8_save 49 = .ok (.aload_n 0, 1) := by decide +kernel
theorem dX8_save_50 : decode cX8_save 50 = .ok (.dup, 1) := by decide +kernel
theorem dX8_save_51 : decode cX8_save 51 = .ok (.getfield 20, 3) := by decide +kernel
theorem dX8_save_54 : decode cX8_save 54 = .ok (.iconst 1, 1) := by decide +kernel
theorem dX8_save_55 : decode cX8_save 55 = .ok (.isub, 1) := by decide +kernel
theorem dX8_save_56 : decode cX8_save 56 = .ok (.putfield 20, 3) := by decide +kernel
theorem dX8_save_59 : decode cX8_save 59 = .ok (.aload_n 0, 1) := by decide +kernel
theorem dX8_save_60 : decode cX8_save 60 = .ok (.getfield 16, 3) := by decide +kernel
theorem dX8_save_63 : decode cX8_save 63 = .ok (.aload_n 0, 1) := by decide +kernel
theorem dX8_save_64 : decode cX8_save 64 = .ok (.getfield 20, 3) := by decide +kernel
theorem dX8_save_67 : decode cX8_save 67 = .ok (.aaload, 1) := by decide +kernel
theorem dX8_save_68 : decode cX8_save 68 = .ok (.aload_n 0, 1) := by decide +kernel
theorem dX8_save_69 : decode cX8_save 69 = .ok (.getfield 10, 3) := by decide +kernel
theorem dX8_save_72 : decode cX8_save 72 = .ok (.invokevirtual 243, 3) := by decide +kernel
theorem dX8_save_75 : decode cX8_save 75 = .ok (.aload_n 0, 1) := by decide +kernel
theorem dX8_save_76 : decode cX8_save 76 = .ok (.dup, 1) := by decide +kernel
theorem dX8_save_77 : decode cX8_save 77 = .ok (.getfield 20, 3) := by decide +kernel
theorem dX8_save_80 : decode cX8_save 80 = .ok (.iconst 1, 1) := by decide +kernel
theorem dX8_save_81 : decode cX8_save 81 = .ok (.iadd, 1) := by decide +kernel
theorem dX8_save_82 : decode cX8_save 82 = .ok (.putfield 20, 3) := by decide +kernel
theorem dX8_save_85 : decode cX8_save 85 = .ok (.return_, 1) := by decide +kernel
theorem dX8_requireIndex_0 : decode cX8_requireIndex 0 = .ok (.iload_n 0, 1) := by decide +kernel
theorem dX8_requireIndex_1 : decode cX8_requireIndex 1 = .ok (.ifCond .lt 8, 3) := by decide +kernel
theorem dX8_requireIndex_4 : decode cX8_requireIndex 4 = .ok (.iload_n 0, 1) := by decide +kernel
theorem dX8_requireIndex_5 : decode cX8_requireIndex 5 = .ok (.iload_n 1, 1) := by decide +kernel
theorem dX8_requireIndex_6 : decode cX8_requireIndex 6 = .ok (.if_icmp .lt 14, 3) := by decide +kernel
theorem dX8_requireIndex_9 : decode cX8_requireIndex 9 = .ok (.new 263, 3) := by decide +kernel
theorem dX8_requireIndex_12 : decode cX8_requireIndex 12 = .ok (.dup, 1) := by decide +kernel
theorem dX8_requireIndex_13 : decode cX8_requireIndex 13 = .ok (.ldc_w 265, 3) := by decide +kernel
theorem dX8_requireIndex_16 : decode cX8_requireIndex 16 = .ok (.invokespecial 267, 3) := by decide +kernel
theorem dX8_requireIndex_19 : decode cX8_requireIndex 19 = .ok (.athrow, 1) := by decide +kernel
theorem dX8_requireIndex_20 : decode cX8_requireIndex 20 = .ok (.return_, 1) := by decide +kernel
theorem dX8_requireRange_0 : decode cX8_requireRange 0 = .ok (.iload_n 0, 1) := by decide +kernel
theorem dX8_requireRange_1 : decode cX8_requireRange 1 = .ok (.iload_n 1, 1) := by decide +kernel
theorem dX8_requireRange_2 : decode cX8_requireRange 2 = .ok (.if_icmp .lt 8, 3) := by decide +kernel
theorem dX8_requireRange_5 : decode cX8_requireRange 5 = .ok (.iload_n 0, 1) := by decide +kernel
theorem dX8_requireRange_6 : decode cX8_requireRange 6 = .ok (.iload_n 2, 1) := by decide +kernel
theorem dX8_requireRange_7 : decode cX8_requireRange 7 = .ok (.if_icmp .le 14, 3) := by decide +kernel
theorem dX8_requireRange_10 : decode cX8_requireRange 10 = .ok (.new 64, 3) := by decide +kernel
theorem dX8_requireRange_13 : decode cX8_requireRange 13 = .ok (.dup, 1) := by decide +kernel
theorem dX8_requireRange_14 : decode cX8_requireRange 14 = .ok (.ldc_w 268, 3) := by decide +kernel
theorem dX8_requireRange_17 : decode cX8_requireRange 17 = .ok (.invokespecial 68, 3) := by decide +kernel
theorem dX8_requireRange_20 : decode cX8_requireRange 20 = .ok (.athrow, 1) := by decide +kernel
theorem dX8_requireRange_21 : decode cX8_requireRange 21 = .ok (.return_, 1) := by decide +kernel
theorem dX8_requirePlace_0 : decode cX8_requirePlace 0 = .ok (.iload_n 0, 1) := by decide +kernel
theorem dX8_requirePlace_1 : decode cX8_requirePlace 1 = .ok (.bipush (-100), 2) := by decide +kernel
theorem dX8_requirePlace_3 : decode cX8_requirePlace 3 = .ok (.bipush 100, 2) := by decide +kernel
theorem dX8_requirePlace_5 : decode cX8_requirePlace 5 = .ok (.invokestatic 50, 3) := by decide +kernel
theorem dX8_requirePlace_8 : decode cX8_requirePlace 8 = .ok (.iload_n 1, 1) := by decide +kernel
theorem dX8_requirePlace_9 : decode cX8_requirePlace 9 = .ok (.bipush (-100), 2) := by decide +kernel
theorem dX8_requirePlace_11 : decode cX8_requirePlace 11 = .ok (.bipush 100, 2) := by decide +kernel
theorem dX8_requirePlace_13 : decode cX8_requirePlace 13 = .ok (.invokestatic 50, 3) := by decide +kernel
theorem dX8_requirePlace_16 : decode cX8_requirePlace 16 = .ok (.return_, 1) := by decide +kernel
theorem dX8_requireSpace_0 : decode cX8_requireSpace 0 = .ok (.iload_n 0, 1) := by decide +kernel
theorem dX8_requireSpace_1 : decode cX8_requireSpace 1 = .ok (.iload_n 1, 1) := by decide +kernel
theorem dX8_requireSpace_2 : decode cX8_requireSpace 2 = .ok (.if_icmp .lt 14, 3) := by decide +kernel
theorem dX8_requireSpace_5 : decode cX8_requireSpace 5 = .ok (.new 129, 3) := by decide +kernel
theorem dX8_requireSpace_8 : decode cX8_requireSpace 8 = .ok (.dup, 1) := by decide +kernel
theorem dX8_requireSpace_9 : decode cX8_requireSpace 9 = .ok (.ldc_w 270, 3) := by decide +kernel
theorem dX8_requireSpace_12 : decode cX8_requireSpace 12 = .ok (.invokespecial 133, 3) := by decide +kernel
theorem dX8_requireSpace_15 : decode cX8_requireSpace 15 = .ok (.athrow, 1) := by decide +kernel
theorem dX8_requireSpace_16 : decode cX8_requireSpace 16 = .ok (.return_, 1) := by decide +kernel
theorem dX8_requireTests_0 : decode cX8_requireTests 0 = .ok (.aload_n 0, 1) := by decide +kernel
theorem dX8_requireTests_1 : decode cX8_requireTests 1 = .ok (.getfield 10, 3) := by decide +kernel
theorem dX8_requireTests_4 : decode cX8_requireTests 4 = .ok (.getfield 111, 3) := by decide +kernel
theorem dX8_requireTests_7 : decode cX8_requireTests 7 = .ok (.getfield 138, 3) := by decide +kernel
theorem dX8_requireTests_10 : decode cX8_requireTests 10 = .ok (.ifCond .ne 14, 3) := by decide +kernel
theorem dX8_requireTests_13 : decode cX8_requireTests 13 = .ok (.new 129, 3) := by decide +kernel
theorem dX8_requireTests_16 : decode cX8_requireTests 16 = .ok (.dup, 1) := by decide +kernel
theorem dX8_requireTests_17 : decode cX8_requireTests 17 = .ok (.ldc_w 272, 3) := by decide +kernel
theorem dX8_requireTests_20 : decode cX8_requireTests 20 = .ok (.invokespecial 133, 3) := by decide +kernel
theorem dX8_requireTests_23 : decode cX8_requireTests 23 = .ok (.athrow, 1) := by decide +kernel
theorem dX8_requireTests_24 : decode cX8_requireTests 24 = .ok (.return_, 1) := by decide +kernel
theorem dJx00060_init_a7421_0 : decode cJx00060_init_a7421 0 = .ok (.aload_n 0, 1) := by decide +kernel
theorem dJx00060_init_a7421_1 : decode cJx00060_init_a7421 1 = .ok (.aload_n 1, 1) := by decide +kernel
theorem dJx00060_init_a7421_2 : decode cJx00060_init_a7421 2 = .ok (.invokespecial 7, 3) := by decide +kernel
theorem dJx00060_init_a7421_5 : decode cJx00060_init_a7421 5 = .ok (.return_, 1) := by decide +kernel
theorem dJ9_floorDiv_f86c9_0 : decode cJ9_floorDiv_f86c9 0 = .ok (.lload_n 0, 1) := by decide +kernel
theorem dJ9_floorDiv_f86c9_1 : decode cJ9_floorDiv_f86c9 1 = .ok (.lload_n 2, 1) := by decide +kernel
theorem dJ9_floorDiv_f86c9_2 : decode cJ9_floorDiv_f86c9 2 = .ok (.ldiv, 1) := by decide +kernel
theorem dJ9_floorDiv_f86c9_3 : decode cJ9_floorDiv_f86c9 3 = .ok (.lstore 4, 2) := by decide +kernel
theorem dJ9_floorDiv_f86c9_5 : decode cJ9_floorDiv_f86c9 5 = .ok (.lload_n 0, 1) := by decide +kernel
theorem dJ9_floorDiv_f86c9_6 : decode cJ9_floorDiv_f86c9 6 = .ok (.lload_n 2, 1) := by decide +kernel
theorem dJ9_floorDiv_f86c9_7 : decode cJ9_floorDiv_f86c9 7 = .ok (.lxor, 1) := by decide +kernel
theorem dJ9_floorDiv_f86c9_8 : decode cJ9_floorDiv_f86c9 8 = .ok (.lconst 0, 1) := by decide +kernel
theorem dJ9_floorDiv_f86c9_9 : decode cJ9_floorDiv_f86c9 9 = .ok (.lcmp, 1) := by decide +kernel
theorem dJ9_floorDiv_f86c9_10 : decode cJ9_floorDiv_f86c9 10 = .ok (.ifCond .ge 17, 3) := by decide +kernel
theorem dJ9_floorDiv_f86c9_13 : decode cJ9_floorDiv_f86c9 13 = .ok (.lload 4, 2) := by decide +kernel
theorem dJ9_floorDiv_f86c9_15 : decode cJ9_floorDiv_f86c9 15 = .ok (.lload_n 2, 1) := by decide +kernel
theorem dJ9_floorDiv_f86c9_16 : decode cJ9_floorDiv_f86c9 16 = .ok (.lmul, 1) := by decide +kernel
theorem dJ9_floorDiv_f86c9_17 : decode cJ9_floorDiv_f86c9 17 = .ok (.lload_n 0, 1) := by decide +kernel
theorem dJ9_floorDiv_f86c9_18 : decode cJ9_floorDiv_f86c9 18 = .ok (.lcmp, 1) := by decide +kernel
theorem dJ9_floorDiv_f86c9_19 : decode cJ9_floorDiv_f86c9 19 = .ok (.ifCond .eq 8, 3) := by decide +kernel
theorem dJ9_floorDiv_f86c9_22 : decode cJ9_floorDiv_f86c9 22 = .ok (.lload 4, 2) := by decide +kernel
theorem dJ9_floorDiv_f86c9_24 : decode cJ9_floorDiv_f86c9 24 = .ok (.lconst 1, 1) := by decide +kernel
theorem dJ9_floorDiv_f86c9_25 : decode cJ9_floorDiv_f86c9 25 = .ok (.lsub, 1) := by decide +kernel
theorem dJ9_floorDiv_f86c9_26 : decode cJ9_floorDiv_f86c9 26 = .ok (.lreturn, 1) := by decide +kernel
theorem dJ9_floorDiv_f86c9_27 : decode cJ9_floorDiv_f86c9 27 = .ok (.lload 4, 2) := by decide +kernel
theorem dJ9_floorDiv_f86c9_29 : decode cJ9_floorDiv_f86c9 29 = .ok (.lreturn, 1) := by decide +kernel
theorem dJ9_abs_067f4_0 : decode cJ9_abs_067f4 0 = .ok (.lload_n 0, 1) := by decide +kernel
theorem dJ9_abs_067f4_1 : decode cJ9_abs_067f4 1 = .ok (.lconst 0, 1) := by decide +kernel
theorem dJ9_abs_067f4_2 : decode cJ9_abs_067f4 2 = .ok (.lcmp, 1) := by decide +kernel
theorem dJ9_abs_067f4_3 : decode cJ9_abs_067f4 3 = .ok (.ifCond .ge 8, 3) := by decide +kernel
theorem dJ9_abs_067f4_6 : decode cJ9_abs_067f4 6 = .ok (.lload_n 0, 1) := by decide +kernel
theorem dJ9_abs_067f4_7 : decode cJ9_abs_067f4 7 = .ok (.lneg, 1) := by decide +kernel
theorem dJ9_abs_067f4_8 : decode cJ9_abs_067f4 8 = .ok (.goto 4, 3) := by decide +kernel
theorem dJ9_abs_067f4_11 : decode cJ9_abs_067f4 11 = .ok (.lload_n 0, 1) := by decide +kernel
theorem dJ9_abs_067f4_12 : decode cJ9_abs_067f4 12 = .ok (.lreturn, 1) := by decide +kernel
theorem dJ9_max_7cf53_0 : decode cJ9_max_7cf53 0 = .ok (.iload_n 0, 1) := by decide +kernel
theorem dJ9_max_7cf53_1 : decode cJ9_max_7cf53 1 = .ok (.iload_n 1, 1) := by decide +kernel
theorem dJ9_max_7cf53_2 : decode cJ9_max_7cf53 2 = .ok (.if_icmp .lt 7, 3) := by decide +kernel
theorem dJ9_max_7cf53_5 : decode cJ9_max_7cf53 5 = .ok (.iload_n 0, 1) := by decide +kernel
theorem dJ9_max_7cf53_6 : decode cJ9_max_7cf53 6 = .ok (.goto 4, 3) := by decide +kernel
theorem dJ9_max_7cf53_9 : decode cJ9_max_7cf53 9 = .ok (.iload_n 1, 1) := by decide +kernel
theorem dJ9_max_7cf53_10 : decode cJ9_max_7cf53 10 = .ok (.ireturn, 1) := by decide +kernel
theorem dJ9_max_f86c9_0 : decode cJ9_max_f86c9 0 = .ok (.lload_n 0, 1) := by decide +kernel
theorem dJ9_max_f86c9_1 : decode cJ9_max_f86c9 1 = .ok (.lload_n 2, 1) := by decide +kernel
theorem dJ9_max_f86c9_2 : decode cJ9_max_f86c9 2 = .ok (.lcmp, 1) := by decide +kernel
theorem dJ9_max_f86c9_3 : decode cJ9_max_f86c9 3 = .ok (.ifCond .lt 7, 3) := by decide +kernel
theorem dJ9_max_f86c9_6 : decode cJ9_max_f86c9 6 = .ok (.lload_n 0, 1) := by decide +kernel
theorem dJ9_max_f86c9_7 : decode cJ9_max_f86c9 7 = .ok (.goto 4, 3) := by decide +kernel
theorem dJ9_max_f86c9_10 : decode cJ9_max_f86c9 10 = .ok (.lload_n 2, 1) := by decide +kernel
theorem dJ9_max_f86c9_11 : decode cJ9_max_f86c9 11 = .ok (.lreturn, 1) := by decide +kernel
theorem dJ9_min_f86c9_0 : decode cJ9_min_f86c9 0 = .ok (.lload_n 0, 1) := by decide +kernel
theorem dJ9_min_f86c9_1 : decode cJ9_min_f86c9 1 = .ok (.lload_n 2, 1) := by decide +kernel
theorem dJ9_min_f86c9_2 : decode cJ9_min_f86c9 2 = .ok (.lcmp, 1) := by decide +kernel
theorem dJ9_min_f86c9_3 : decode cJ9_min_f86c9 3 = .ok (.ifCond .gt 7, 3) := by decide +kernel
theorem dJ9_min_f86c9_6 : decode cJ9_min_f86c9 6 = .ok (.lload_n 0, 1) := by decide +kernel
theorem dJ9_min_f86c9_7 : decode cJ9_min_f86c9 7 = .ok (.goto 4, 3) := by decide +kernel
theorem dJ9_min_f86c9_10 : decode cJ9_min_f86c9 10 = .ok (.lload_n 2, 1) := by decide +kernel
theorem dJ9_min_f86c9_11 : decode cJ9_min_f86c9 11 = .ok (.lreturn, 1) := by decide +kernel
