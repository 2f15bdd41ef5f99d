theorem dX0_init_0 : decode cX0_init 0 = .ok (.aload_n 0, 1) := by decide +kernel
theorem dX0_init_1 : decode cX0_init 1 = .ok (.invokespecial 1, 3) := by decide +kernel
theorem dX0_init_4 : decode cX0_init 4 = .ok (.aload_n 0, 1) := by decide +kernel
theorem dX0_init_5 : decode cX0_init 5 = .ok (.lconst 0, 1) := by decide +kernel
theorem dX0_init_6 : decode cX0_init 6 = .ok (.putfield 7, 3) := by decide +kernel
theorem dX0_init_9 : decode cX0_init 9 = .ok (.aload_n 0, 1) := by decide +kernel
theorem dX0_init_10 : decode cX0_init 10 = .ok (.lconst 0, 1) := by decide +kernel
theorem dX0_init_11 : decode cX0_init 11 = .ok (.putfield 13, 3) := by decide +kernel
theorem dX0_init_14 : decode cX0_init 14 = .ok (.aload_n 0, 1) := by decide +kernel
theorem dX0_init_15 : decode cX0_init 15 = .ok (.lconst 0, 1) := by decide +kernel
theorem dX0_init_16 : decode cX0_init 16 = .ok (.putfield 16, 3) := by decide +kernel
theorem dX0_init_19 : decode cX0_init 19 = .ok (.return_, 1) := by decide +kernel
theorem dX0_clear_0 : decode cX0_clear 0 = .ok (.aload_n 0, 1) := by decide +kernel
theorem dX0_clear_1 : decode cX0_clear 1 = .ok (.lconst 0, 1) := by decide +kernel
theorem dX0_clear_2 : decode cX0_clear 2 = .ok (.putfield 7, 3) := by decide +kernel
theorem dX0_clear_5 : decode cX0_clear 5 = .ok (.aload_n 0, 1) := by decide +kernel
theorem dX0_clear_6 : decode cX0_clear 6 = .ok (.lconst 0, 1) := by decide +kernel
theorem dX0_clear_7 : decode cX0_clear 7 = .ok (.putfield 13, 3) := by decide +kernel
theorem dX0_clear_10 : decode cX0_clear 10 = .ok (.aload_n 0, 1) := by decide +kernel
theorem dX0_clear_11 : decode cX0_clear 11 = .ok (.lconst 0, 1) := by decide +kernel
theorem dX0_clear_12 : decode cX0_clear 12 = .ok (.putfield 16, 3) := by decide +kernel
theorem dX0_clear_15 : decode cX0_clear 15 = .ok (.return_, 1) := by decide +kernel
theorem dX0_add_0 : decode cX0_add 0 = .ok (.aload_n 0, 1) := by decide +kernel
theorem dX0_add_1 : decode cX0_add 1 = .ok (.dup, 1) := by decide +kernel
theorem dX0_add_2 : decode cX0_add 2 = .ok (.getfield 7, 3) := by decide +kernel
theorem dX0_add_5 : decode cX0_add 5 = .ok (.iload_n 3, 1) := by decide +kernel
theorem dX0_add_6 : decode cX0_add 6 = .ok (.i2l, 1) := by decide +kernel
theorem dX0_add_7 : decode cX0_add 7 = .ok (.ladd, 1) := by decide +kernel
theorem dX0_add_8 : decode cX0_add 8 = .ok (.putfield 7, 3) := by decide +kernel
theorem dX0_add_11 : decode cX0_add 11 = .ok (.aload_n 0, 1) := by decide +kernel
theorem dX0_add_12 : decode cX0_add 12 = .ok (.dup, 1) := by decide +kernel
theorem dX0_add_13 : decode cX0_add 13 = .ok (.getfield 13, 3) := by decide +kernel
theorem dX0_add_16 : decode cX0_add 16 = .ok (.iload_n 3, 1) := by decide +kernel
theorem dX0_add_17 : decode cX0_add 17 = .ok (.i2l, 1) := by decide +kernel
theorem dX0_add_18 : decode cX0_add 18 = .ok (.aload_n 1, 1) := by decide +kernel
theorem dX0_add_19 : decode cX0_add 19 = .ok (.getfield 19, 3) := by decide +kernel
theorem dX0_add_22 : decode cX0_add 22 = .ok (.iload_n 2, 1) := by decide +kernel
theorem dX0_add_23 : decode cX0_add 23 = .ok (.iaload, 1) := by decide +kernel
theorem dX0_add_24 : decode cX0_add 24 = .ok (.i2l, 1) := by decide +kernel
theorem dX0_add_25 : decode cX0_add 25 = .ok (.lmul, 1) := by decide +kernel
theorem dX0_add_26 : decode cX0_add 26 = .ok (.ladd, 1) := by decide +kernel
theorem dX0_add_27 : decode cX0_add 27 = .ok (.putfield 13, 3) := by decide +kernel
theorem dX0_add_30 : decode cX0_add 30 = .ok (.aload_n 0, 1) := by decide +kernel
theorem dX0_add_31 : decode cX0_add 31 = .ok (.dup, 1) := by decide +kernel
theorem dX0_add_32 : decode cX0_add 32 = .ok (.getfield 16, 3) := by decide +kernel
theorem dX0_add_35 : decode cX0_add 35 = .ok (.iload_n 3, 1) := by decide +kernel
theorem dX0_add_36 : decode cX0_add 36 = .ok (.i2l, 1) := by decide +kernel
theorem dX0_add_37 : decode cX0_add 37 = .ok (.aload_n 1, 1) := by decide +kernel
theorem dX0_add_38 : decode cX0_add 38 = .ok (.getfield 25, 3) := by decide +kernel
theorem dX0_add_41 : decode cX0_add 41 = .ok (.iload_n 2, 1) := by decide +kernel
theorem dX0_add_42 : decode cX0_add 42 = .ok (.iaload, 1) := by decide +kernel
theorem dX0_add_43 : decode cX0_add 43 = .ok (.i2l, 1) := by decide +kernel
theorem dX0_add_44 : decode cX0_add 44 = .ok (.lmul, 1) := by decide +kernel
theorem dX0_add_45 : decode cX0_add 45 = .ok (.ladd, 1) := by decide +kernel
theorem dX0_add_46 : decode cX0_add 46 = .ok (.putfield 16, 3) := by decide +kernel
theorem dX0_add_49 : decode cX0_add 49 = .ok (.return_, 1) := by decide +kernel
theorem dX0_isEmpty_0 : decode cX0_isEmpty 0 = .ok (.aload_n 0, 1) := by decide +kernel
theorem dX0_isEmpty_1 : decode cX0_isEmpty 1 = .ok (.getfield 7, 3) := by decide +kernel
theorem dX0_isEmpty_4 : decode cX0_isEmpty 4 = .ok (.lconst 0, 1) := by decide +kernel
theorem dX0_isEmpty_5 : decode cX0_isEmpty 5 = .ok (.lcmp, 1) := by decide +kernel
theorem dX0_isEmpty_6 : decode cX0_isEmpty 6 = .ok (.ifCond .ne 7, 3) := by decide +kernel
theorem dX0_isEmpty_9 : decode cX0_isEmpty 9 = .ok (.iconst 1, 1) := by decide +kernel
theorem dX0_isEmpty_10 : decode cX0_isEmpty 10 = .ok (.goto 4, 3) := by decide +kernel
theorem dX0_isEmpty_13 : decode cX0_isEmpty 13 = .ok (.iconst 0, 1) := by decide +kernel
theorem dX0_isEmpty_14 : decode cX0_isEmpty 14 = .ok (.ireturn, 1) := by decide +kernel
theorem dX0_pullFrom_0 : decode cX0_pullFrom 0 = .ok (.aload_n 1, 1) := by decide +kernel
theorem dX0_pullFrom_1 : decode cX0_pullFrom 1 = .ok (.getfield 19, 3) := by decide +kernel
theorem dX0_pullFrom_4 : decode cX0_pullFrom 4 = .ok (.iload_n 2, 1) := by decide +kernel
theorem dX0_pullFrom_5 : decode cX0_pullFrom 5 = .ok (.iaload, 1) := by decide +kernel
theorem dX0_pullFrom_6 : decode cX0_pullFrom 6 = .ok (.i2l, 1) := by decide +kernel
theorem dX0_pullFrom_7 : decode cX0_pullFrom 7 = .ok (.lstore_n 3, 1) := by decide +kernel
theorem dX0_pullFrom_8 : decode cX0_pullFrom 8 = .ok (.aload_n 1, 1) := by decide +kernel
theorem dX0_pullFrom_9 : decode cX0_pullFrom 9 = .ok (.getfield 25, 3) := by decide +kernel
theorem dX0_pullFrom_12 : decode cX0_pullFrom 12 = .ok (.iload_n 2, 1) := by decide +kernel
theorem dX0_pullFrom_13 : decode cX0_pullFrom 13 = .ok (.iaload, 1) := by decide +kernel
theorem dX0_pullFrom_14 : decode cX0_pullFrom 14 = .ok (.i2l, 1) := by decide +kernel
theorem dX0_pullFrom_15 : decode cX0_pullFrom 15 = .ok (.lstore 5, 2) := by decide +kernel
theorem dX0_pullFrom_17 : decode cX0_pullFrom 17 = .ok (.aload_n 0, 1) := by decide +kernel
theorem dX0_pullFrom_18 : decode cX0_pullFrom 18 = .ok (.getfield 7, 3) := by decide +kernel
theorem dX0_pullFrom_21 : decode cX0_pullFrom 21 = .ok (.lload_n 3, 1) := by decide +kernel
theorem dX0_pullFrom_22 : decode cX0_pullFrom 22 = .ok (.lload_n 3, 1) := by decide +kernel
theorem dX0_pullFrom_23 : decode cX0_pullFrom 23 = .ok (.lmul, 1) := by decide +kernel
theorem dX0_pullFrom_24 : decode cX0_pullFrom 24 = .ok (.lload 5, 2) := by decide +kernel
theorem dX0_pullFrom_26 : decode cX0_pullFrom 26 = .ok (.lload 5, 2) := by decide +kernel
theorem dX0_pullFrom_28 : decode cX0_pullFrom 28 = .ok (.lmul, 1) := by decide +kernel
theorem dX0_pullFrom_29 : decode cX0_pullFrom 29 = .ok (.ladd, 1) := by decide +kernel
theorem dX0_pullFrom_30 : decode cX0_pullFrom 30 = .ok (.lmul, 1) := by decide +kernel
theorem dX0_pullFrom_31 : decode cX0_pullFrom 31 = .ok (.ldc2_w 28, 3) := by decide +kernel
theorem dX0_pullFrom_34 : decode cX0_pullFrom 34 = .ok (.lload_n 3, 1) := by decide +kernel
theorem dX0_pullFrom_35 : decode cX0_pullFrom 35 = .ok (.lmul, 1) := by decide +kernel
theorem dX0_pullFrom_36 : decode cX0_pullFrom 36 = .ok (.aload_n 0, 1) := by decide +kernel
theorem dX0_pullFrom_37 : decode cX0_pullFrom 37 = .ok (.getfield 13, 3) := by decide +kernel
theorem dX0_pullFrom_40 : decode cX0_pullFrom 40 = .ok (.lmul, 1) := by decide +kernel
theorem dX0_pullFrom_41 : decode cX0_pullFrom 41 = .ok (.lsub, 1) := by decide +kernel
theorem dX0_pullFrom_42 : decode cX0_pullFrom 42 = .ok (.ldc2_w 28, 3) := by decide +kernel
theorem dX0_pullFrom_45 : decode cX0_pullFrom 45 = .ok (.lload 5, 2) := by decide +kernel
theorem dX0_pullFrom_47 : decode cX0_pullFrom 47 = .ok (.lmul, 1) := by decide +kernel
theorem dX0_pullFrom_48 : decode cX0_pullFrom 48 = .ok (.aload_n 0, 1) := by decide +kernel
theorem dX0_pullFrom_49 : decode cX0_pullFrom 49 = .ok (.getfield 16, 3) := by decide +kernel
theorem dX0_pullFrom_52 : decode cX0_pullFrom 52 = .ok (.lmul, 1) := by decide +kernel
theorem dX0_pullFrom_53 : decode cX0_pullFrom 53 = .ok (.lsub, 1) := by decide +kernel
theorem dX0_pullFrom_54 : decode cX0_pullFrom 54 = .ok (.lreturn, 1) := by decide +kernel
theorem dX1_init_0 : decode cX1_init 0 = .ok (.aload_n 0, 1) := by decide +kernel
theorem dX1_init_1 : decode cX1_init 1 = .ok (.invokespecial 3, 3) := by decide +kernel
theorem dX1_init_4 : decode cX1_init 4 = .ok (.aload_n 0, 1) := by decide +kernel
theorem dX1_init_5 : decode cX1_init 5 = .ok (.iconst 0, 1) := by decide +kernel
theorem dX1_init_6 : decode cX1_init 6 = .ok (.putfield 9, 3) := by decide +kernel
theorem dX1_init_9 : decode cX1_init 9 = .ok (.aload_n 0, 1) := by decide +kernel
theorem dX1_init_10 : decode cX1_init 10 = .ok (.iconst 0, 1) := by decide +kernel
theorem dX1_init_11 : decode cX1_init 11 = .ok (.putfield 15, 3) := by decide +kernel
theorem dX1_init_14 : decode cX1_init 14 = .ok (.aload_n 0, 1) := by decide +kernel
theorem dX1_init_15 : decode cX1_init 15 = .ok (.iconst 0, 1) := by decide +kernel
theorem dX1_init_16 : decode cX1_init 16 = .ok (.putfield 18, 3) := by decide +kernel
theorem dX1_init_19 : decode cX1_init 19 = .ok (.aload_n 0, 1) := by decide +kernel
theorem dX1_init_20 : decode cX1_init 20 = .ok (.iconst 1, 1) := by decide +kernel
theorem dX1_init_21 : decode cX1_init 21 = .ok (.putfield 21, 3) := by decide +kernel
theorem dX1_init_24 : decode cX1_init 24 = .ok (.aload_n 0, 1) := by decide +kernel
theorem dX1_init_25 : decode cX1_init 25 = .ok (.sipush 384, 3) := by decide +kernel
theorem dX1_init_28 : decode cX1_init 28 = .ok (.newarray .int, 2) := by decide +kernel
theorem dX1_init_30 : decode cX1_init 30 = .ok (.putfield 24, 3) := by decide +kernel
theorem dX1_init_33 : decode cX1_init 33 = .ok (.aload_n 0, 1) := by decide +kernel
theorem dX1_init_34 : decode cX1_init 34 = .ok (.sipush 384, 3) := by decide +kernel
theorem dX1_init_37 : decode cX1_init 37 = .ok (.newarray .boolean, 2) := by decide +kernel
theorem dX1_init_39 : decode cX1_init 39 = .ok (.putfield 28, 3) := by decide +kernel
theorem dX1_init_42 : decode cX1_init 42 = .ok (.aload_n 0, 1) := by decide +kernel
theorem dX1_init_43 : decode cX1_init 43 = .ok (.sipush 384, 3) := by decide +kernel
theorem dX1_init_46 : decode cX1_init 46 = .ok (.newarray .int, 2) := by decide +kernel
theorem dX1_init_48 : decode cX1_init 48 = .ok (.putfield 32, 3) := by decide +kernel
theorem dX1_init_51 : decode cX1_init 51 = .ok (.aload_n 0, 1) := by decide +kernel
theorem dX1_init_52 : decode cX1_init 52 = .ok (.sipush 384, 3) := by decide +kernel
theorem dX1_init_55 : decode cX1_init 55 = .ok (.newarray .int, 2) := by decide +kernel
theorem dX1_init_57 : decode cX1_init 57 = .ok (.putfield 35, 3) := by decide +kernel
theorem dX1_init_60 : decode cX1_init 60 = .ok (.aload_n 0, 1) := by decide +kernel
theorem dX1_init_61 : decode cX1_init 61 = .ok (.bipush 24, 2) := by decide +kernel
theorem dX1_init_63 : decode cX1_init 63 = .ok (.newarray .int, 2) := by decide +kernel
theorem dX1_init_65 : decode cX1_init 65 = .ok (.putfield 38, 3) := by decide +kernel
theorem dX1_init_68 : decode cX1_init 68 = .ok (.aload_n 0, 1) := by decide +kernel
theorem dX1_init_69 : decode cX1_init 69 = .ok (.bipush 48, 2) := by decide +kernel
theorem dX1_init_71 : decode cX1_init 71 = .ok (.newarray .byte, 2) := by decide +kernel
theorem dX1_init_73 : decode cX1_init 73 = .ok (.putfield 41, 3) := by decide +kernel
theorem dX1_init_76 : decode cX1_init 76 = .ok (.aload_n 0, 1) := by decide +kernel
theorem dX1_init_77 : decode cX1_init 77 = .ok (.bipush 8, 2) := by decide +kernel
theorem dX1_init_79 : decode cX1_init 79 = .ok (.newarray .int, 2) := by decide +kernel
theorem dX1_init_81 : decode cX1_init 81 = .ok (.putfield 45, 3) := by decide +kernel
theorem dX1_init_84 : decode cX1_init 84 = .ok (.return_, 1) := by decide +kernel
theorem dX1_cells_0 : decode cX1_cells 0 = .ok (.aload_n 0, 1) := by decide +kernel
theorem dX1_cells_1 : decode cX1_cells 1 = .ok (.getfield 9, 3) := by decide +kernel
theorem dX1_cells_4 : decode cX1_cells 4 = .ok (.aload_n 0, 1) := by decide +kernel
theorem dX1_cells_5 : decode cX1_cells 5 = .ok (.getfield 15, 3) := by decide +kernel
theorem dX1_cells_8 : decode cX1_cells 8 = .ok (.imul, 1) := by decide +kernel
theorem dX1_cells_9 : decode cX1_cells 9 = .ok (.ireturn, 1) := by decide +kernel
theorem dX1_clear_0 : decode cX1_clear 0 = .ok (.aload_n 0, 1) := by decide +kernel
theorem dX1_clear_1 : decode cX1_clear 1 = .ok (.iconst 0, 1) := by decide +kernel
theorem dX1_clear_2 : decode cX1_clear 2 = .ok (.putfield 9, 3) := by decide +kernel
theorem dX1_clear_5 : decode cX1_clear 5 = .ok (.aload_n 0, 1) := by decide +kernel
theorem dX1_clear_6 : decode cX1_clear 6 = .ok (.iconst 0, 1) := by decide +kernel
theorem dX1_clear_7 : decode cX1_clear 7 = .ok (.putfield 15, 3) := by decide +kernel
theorem dX1_clear_10 : decode cX1_clear 10 = .ok (.aload_n 0, 1) := by decide +kernel
theorem dX1_clear_11 : decode cX1_clear 11 = .ok (.iconst 0, 1) := by decide +kernel
theorem dX1_clear_12 : decode cX1_clear 12 = .ok (.putfield 18, 3) := by decide +kernel
theorem dX1_clear_15 : decode cX1_clear 15 = .ok (.aload_n 0, 1) := by decide +kernel
theorem dX1_clear_16 : decode cX1_clear 16 = .ok (.iconst 1, 1) := by decide +kernel
theorem dX1_clear_17 : decode cX1_clear 17 = .ok (.putfield 21, 3) := by decide +kernel
theorem dX1_clear_20 : decode cX1_clear 20 = .ok (.return_, 1) := by decide +kernel
theorem dX1_shape_0 : decode cX1_shape 0 = .ok (.aload_n 0, 1) := by decide +kernel
theorem dX1_shape_1 : decode cX1_shape 1 = .ok (.iload_n 1, 1) := by decide +kernel
theorem dX1_shape_2 : decode cX1_shape 2 = .ok (.putfield 9, 3) := by decide +kernel
theorem dX1_shape_5 : decode cX1_shape 5 = .ok (.aload_n 0, 1) := by decide +kernel
theorem dX1_shape_6 : decode cX1_shape 6 = .ok (.iload_n 2, 1) := by decide +kernel
theorem dX1_shape_7 : decode cX1_shape 7 = .ok (.putfield 15, 3) := by decide +kernel
theorem dX1_shape_10 : decode cX1_shape 10 = .ok (.iconst 0, 1) := by decide +kernel
theorem dX1_shape_11 : decode cX1_shape 11 = .ok (.istore_n 3, 1) := by decide +kernel
theorem dX1_shape_12 : decode cX1_shape 12 = .ok (.iload_n 3, 1) := by decide +kernel
theorem dX1_shape_13 : decode cX1_shape 13 = .ok (.aload_n 0, 1) := by decide +kernel
theorem dX1_shape_14 : decode cX1_shape 14 = .ok (.getfield 15, 3) := by decide +kernel
theorem dX1_shape_17 : decode cX1_shape 17 = .ok (.if_icmp .ge 71, 3) := by decide +kernel
theorem dX1_shape_20 : decode cX1_shape 20 = .ok (.iconst 0, 1) := by decide +kernel
theorem dX1_shape_21 : decode cX1_shape 21 = .ok (.istore 4, 2) := by decide +kernel
theorem dX1_shape_23 : decode cX1_shape 23 = .ok (.iload 4, 2) := by decide +kernel
theorem dX1_shape_25 : decode cX1_shape 25 = .ok (.aload_n 0, 1) := by decide +kernel
theorem dX1_shape_26 : decode cX1_shape 26 = .ok (.getfield 9, 3) := by decide +kernel
theorem dX1_shape_29 : decode cX1_shape 29 = .ok (.if_icmp .ge 53, 3) := by decide +kernel
theorem dX1_shape_32 : decode cX1_shape 32 = .ok (.iload_n 3, 1) := by decide +kernel
theorem dX1_shape_33 : decode cX1_shape 33 = .ok (.aload_n 0, 1) := by decide +kernel
theorem dX1_shape_34 : decode cX1_shape 34 = .ok (.getfield 9, 3) := by decide +kernel
theorem dX1_shape_37 : decode cX1_shape 37 = .ok (.imul, 1) := by decide +kernel
theorem dX1_shape_38 : decode cX1_shape 38 = .ok (.iload 4, 2) := by decide +kernel
theorem dX1_shape_40 : decode cX1_shape 40 = .ok (.iadd, 1) := by decide +kernel
theorem dX1_shape_41 : decode cX1_shape 41 = .ok (.istore 5, 2) := by decide +kernel
theorem dX1_shape_43 : decode cX1_shape 43 = .ok (.aload_n 0, 1) := by decide +kernel
theorem dX1_shape_44 : decode cX1_shape 44 = .ok (.getfield 24, 3) := by decide +kernel
theorem dX1_shape_47 : decode cX1_shape 47 = .ok (.iload 5, 2) := by decide +kernel
theorem dX1_shape_49 : decode cX1_shape 49 = .ok (.iconst (-1), 1) := by decide +kernel
theorem dX1_shape_50 : decode cX1_shape 50 = .ok (.iastore, 1) := by decide +kernel
theorem dX1_shape_51 : decode cX1_shape 51 = .ok (.aload_n 0, 1) := by decide +kernel
theorem dX1_shape_52 : decode cX1_shape 52 = .ok (.getfield 28, 3) := by decide +kernel
theorem dX1_shape_55 : decode cX1_shape 55 = .ok (.iload 5, 2) := by decide +kernel
theorem dX1_shape_57 : decode cX1_shape 57 = .ok (.iconst 0, 1) := by decide +kernel
theorem dX1_shape_58 : decode cX1_shape 58 = .ok (.bastore, 1) := by decide +kernel
theorem dX1_shape_59 : decode cX1_shape 59 = .ok (.aload_n 0, 1) := by decide +kernel
theorem dX1_shape_60 : decode cX1_shape 60 = .ok (.getfield 32, 3) := by decide +kernel
theorem dX1_shape_63 : decode cX1_shape 63 = .ok (.iload 5, 2) := by decide +kernel
theorem dX1_shape_65 : decode cX1_shape 65 = .ok (.iload 4, 2) := by decide +kernel
theorem dX1_shape_67 : decode cX1_shape 67 = .ok (.iastore, 1) := by decide +kernel
theorem dX1_shape_68 : decode cX1_shape 68 = .ok (.aload_n 0, 1) := by decide +kernel
theorem dX1_shape_69 : decode cX1_shape 69 = .ok (.getfield 35, 3) := by decide +kernel
theorem dX1_shape_72 : decode cX1_shape 72 = .ok (.iload 5, 2) := by decide +kernel
theorem dX1_shape_74 : decode cX1_shape 74 = .ok (.iload_n 3, 1) := by decide +kernel
theorem dX1_shape_75 : decode cX1_shape 75 = .ok (.iastore, 1) := by decide +kernel
theorem dX1_shape_76 : decode cX1_shape 76 = .ok (.iinc 4 1, 3) := by decide +kernel
theorem dX1_shape_79 : decode cX1_shape 79 = .ok (.goto (-56), 3) := by decide +kernel
theorem dX1_shape_82 : decode cX1_shape 82 = .ok (.iinc 3 1, 3) := by decide +kernel
theorem dX1_shape_85 : decode cX1_shape 85 = .ok (.goto (-73), 3) := by decide +kernel
theorem dX1_shape_88 : decode cX1_shape 88 = .ok (.return_, 1) := by decide +kernel
theorem dX1_copyFrom_0 : decode cX1_copyFrom 0 = .ok (.aload_n 0, 1) := by decide +kernel
theorem dX1_copyFrom_1 : decode cX1_copyFrom 1 = .ok (.aload_n 1, 1) := by decide +kernel
theorem dX1_copyFrom_2 : decode cX1_copyFrom 2 = .ok (.getfield 9, 3) := by decide +kernel
theorem dX1_copyFrom_5 : decode cX1_copyFrom 5 = .ok (.putfield 9, 3) := by decide +kernel
theorem dX1_copyFrom_8 : decode cX1_copyFrom 8 = .ok (.aload_n 0, 1) := by decide +kernel
theorem dX1_copyFrom_9 : decode cX1_copyFrom 9 = .ok (.aload_n 1, 1) := by decide +kernel
theorem dX1_copyFrom_10 : decode cX1_copyFrom 10 = .ok (.getfield 15, 3) := by decide +kernel
theorem dX1_copyFrom_13 : decode cX1_copyFrom 13 = .ok (.putfield 15, 3) := by decide +kernel
theorem dX1_copyFrom_16 : decode cX1_copyFrom 16 = .ok (.aload_n 0, 1) := by decide +kernel
theorem dX1_copyFrom_17 : decode cX1_copyFrom 17 = .ok (.aload_n 1, 1) := by decide +kernel
theorem dX1_copyFrom_18 : decode cX1_copyFrom 18 = .ok (.getfield 18, 3) := by decide +kernel
theorem dX1_copyFrom_21 : decode cX1_copyFrom 21 = .ok (.putfield 18, 3) := by decide +kernel
theorem dX1_copyFrom_24 : decode cX1_copyFrom 24 = .ok (.aload_n 0, 1) := by decide +kernel
theorem dX1_copyFrom_25 : decode cX1_copyFrom 25 = .ok (.aload_n 1, 1) := by decide +kernel
theorem dX1_copyFrom_26 : decode cX1_copyFrom 26 = .ok (.getfield 21, 3) := by decide +kernel
theorem dX1_copyFrom_29 : decode cX1_copyFrom 29 = .ok (.putfield 21, 3) := by decide +kernel
theorem dX1_copyFrom_32 : decode cX1_copyFrom 32 = .ok (.aload_n 1, 1) := by decide +kernel
theorem dX1_copyFrom_33 : decode cX1_copyFrom 33 = .ok (.getfield 24, 3) := by decide +kernel
theorem dX1_copyFrom_36 : decode cX1_copyFrom 36 = .ok (.iconst 0, 1) := by decide +kernel
theorem dX1_copyFrom_37 : decode cX1_copyFrom 37 = .ok (.aload_n 0, 1) := by decide +kernel
theorem dX1_copyFrom_38 : decode cX1_copyFrom 38 = .ok (.getfield 24, 3) := by decide +kernel
theorem dX1_copyFrom_41 : decode cX1_copyFrom 41 = .ok (.iconst 0, 1) := by decide +kernel
theorem dX1_copyFrom_42 : decode cX1_copyFrom 42 = .ok (.sipush 384, 3) := by decide +kernel
theorem dX1_copyFrom_45 : decode cX1_copyFrom 45 = .ok (.invokestatic 48, 3) := by decide +kernel
theorem dX1_copyFrom_48 : decode cX1_copyFrom 48 = .ok (.aload_n 1, 1) := by decide +kernel
theorem dX1_copyFrom_49 : decode cX1_copyFrom 49 = .ok (.getfield 32, 3) := by decide +kernel
theorem dX1_copyFrom_52 : decode cX1_copyFrom 52 = .ok (.iconst 0, 1) := by decide +kernel
theorem dX1_copyFrom_53 : decode cX1_copyFrom 53 = .ok (.aload_n 0, 1) := by decide +kernel
theorem dX1_copyFrom_54 : decode cX1_copyFrom 54 = .ok (.getfield 32, 3) := by decide +kernel
theorem dX1_copyFrom_57 : decode cX1_copyFrom 57 = .ok (.iconst 0, 1) := by decide +kernel
theorem dX1_copyFrom_58 : decode cX1_copyFrom 58 = .ok (.sipush 384, 3) := by decide +kernel
theorem dX1_copyFrom_61 : decode cX1_copyFrom 61 = .ok (.invokestatic 48, 3) := by decide +kernel
theorem dX1_copyFrom_64 : decode cX1_copyFrom 64 = .ok (.aload_n 1, 1) := by decide +kernel
theorem dX1_copyFrom_65 : decode cX1_copyFrom 65 = .ok (.getfield 35, 3) := by decide +kernel
theorem dX1_copyFrom_68 : decode cX1_copyFrom 68 = .ok (.iconst 0, 1) := by decide +kernel
theorem dX1_copyFrom_69 : decode cX1_copyFrom 69 = .ok (.aload_n 0, 1) := by decide +kernel
theorem dX1_copyFrom_70 : decode cX1_copyFrom 70 = .ok (.getfield 35, 3) := by decide +kernel
theorem dX1_copyFrom_73 : decode cX1_copyFrom 73 = .ok (.iconst 0, 1) := by decide +kernel
theorem dX1_copyFrom_74 : decode cX1_copyFrom 74 = .ok (.sipush 384, 3) := by decide +kernel
theorem dX1_copyFrom_77 : decode cX1_copyFrom 77 = .ok (.invokestatic 48, 3) := by decide +kernel
theorem dX1_copyFrom_80 : decode cX1_copyFrom 80 = .ok (.aload_n 1, 1) := by decide +kernel
theorem dX1_copyFrom_81 : decode cX1_copyFrom 81 = .ok (.getfield 38, 3) := by decide +kernel
theorem dX1_copyFrom_84 : decode cX1_copyFrom 84 = .ok (.iconst 0, 1) := by decide +kernel
theorem dX1_copyFrom_85 : decode cX1_copyFrom 85 = .ok (.aload_n 0, 1) := by decide +kernel
theorem dX1_copyFrom_86 : decode cX1_copyFrom 86 = .ok (.getfield 38, 3) := by decide +kernel
theorem dX1_copyFrom_89 : decode cX1_copyFrom 89 = .ok (.iconst 0, 1) := by decide +kernel
theorem dX1_copyFrom_90 : decode cX1_copyFrom 90 = .ok (.bipush 24, 2) := by decide +kernel
theorem dX1_copyFrom_92 : decode cX1_copyFrom 92 = .ok (.invokestatic 48, 3) := by decide +kernel
theorem dX1_copyFrom_95 : decode cX1_copyFrom 95 = .ok (.aload_n 1, 1) := by decide +kernel
theorem dX1_copyFrom_96 : decode cX1_copyFrom 96 = .ok (.getfield 41, 3) := by decide +kernel
theorem dX1_copyFrom_99 : decode cX1_copyFrom 99 = .ok (.iconst 0, 1) := by decide +kernel
theorem dX1_copyFrom_100 : decode cX1_copyFrom 100 = .ok (.aload_n 0, 1) := by decide +kernel
theorem dX1_copyFrom_101 : decode cX1_copyFrom 101 = .ok (.getfield 41, 3) := by decide +kernel
theorem dX1_copyFrom_104 : decode cX1_copyFrom 104 = .ok (.iconst 0, 1) := by decide +kernel
theorem dX1_copyFrom_105 : decode cX1_copyFrom 105 = .ok (.bipush 48, 2) := by decide +kernel
theorem dX1_copyFrom_107 : decode cX1_copyFrom 107 = .ok (.invokestatic 48, 3) := by decide +kernel
theorem dX1_copyFrom_110 : decode cX1_copyFrom 110 = .ok (.aload_n 1, 1) := by decide +kernel
theorem dX1_copyFrom_111 : decode cX1_copyFrom 111 = .ok (.getfield 45, 3) := by decide +kernel
theorem dX1_copyFrom_114 : decode cX1_copyFrom 114 = .ok (.iconst 0, 1) := by decide +kernel
theorem dX1_copyFrom_115 : decode cX1_copyFrom 115 = .ok (.aload_n 0, 1) := by decide +kernel
theorem dX1_copyFrom_116 : decode cX1_copyFrom 116 = .ok (.getfield 45, 3) := by decide +kernel
theorem dX1_copyFrom_119 : decode cX1_copyFrom 119 = .ok (.iconst 0, 1) := by decide +kernel
theorem dX1_copyFrom_120 : decode cX1_copyFrom 120 = .ok (.bipush 8, 2) := by decide +kernel
theorem dX1_copyFrom_122 : decode cX1_copyFrom 122 = .ok (.invokestatic 48, 3) := by decide +kernel
theorem dX1_copyFrom_125 : decode cX1_copyFrom 125 = .ok (.iconst 0, 1) := by decide +kernel
theorem dX1_copyFrom_126 : decode cX1_copyFrom 126 = .ok (.istore_n 2, 1) := by decide +kernel
theorem dX1_copyFrom_127 : decode cX1_copyFrom 127 = .ok (.iload_n 2, 1) := by decide +kernel
theorem dX1_copyFrom_128 : decode cX1_copyFrom 128 = .ok (.sipush 384, 3) := by decide +kernel
theorem dX1_copyFrom_131 : decode cX1_copyFrom 131 = .ok (.if_icmp .ge 21, 3) := by decide +kernel
theorem dX1_copyFrom_134 : decode cX1_copyFrom 134 = .ok (.aload_n 0, 1) := by decide +kernel
theorem dX1_copyFrom_135 : decode cX1_copyFrom 135 = .ok (.getfield 28, 3) := by decide +kernel
theorem dX1_copyFrom_138 : decode cX1_copyFrom 138 = .ok (.iload_n 2, 1) := by decide +kernel
theorem dX1_copyFrom_139 : decode cX1_copyFrom 139 = .ok (.aload_n 1, 1) := by decide +kernel
theorem dX1_copyFrom_140 : decode cX1_copyFrom 140 = .ok (.getfield 28, 3) := by decide +kernel
theorem dX1_copyFrom_143 : decode cX1_copyFrom 143 = .ok (.iload_n 2, 1) := by decide +kernel
theorem dX1_copyFrom_144 : decode cX1_copyFrom 144 = .ok (.baload, 1) := by decide +kernel
theorem dX1_copyFrom_145 : decode cX1_copyFrom 145 = .ok (.bastore, 1) := by decide +kernel
theorem dX1_copyFrom_146 : decode cX1_copyFrom 146 = .ok (.iinc 2 1, 3) := by decide +kernel
theorem dX1_copyFrom_149 : decode cX1_copyFrom 149 = .ok (.goto (-22), 3) := by decide +kernel
theorem dX1_copyFrom_152 : decode cX1_copyFrom 152 = .ok (.return_, 1) := by decide +kernel
theorem dX1_far_0 : decode cX1_far 0 = .ok (.aload_n 0, 1) := by decide +kernel
theorem dX1_far_1 : decode cX1_far 1 = .ok (.getfield 32, 3) := by decide +kernel
theorem dX1_far_4 : decode cX1_far 4 = .ok (.iload_n 1, 1) := by decide +kernel
theorem dX1_far_5 : decode cX1_far 5 = .ok (.iaload, 1) := by decide +kernel
theorem dX1_far_6 : decode cX1_far 6 = .ok (.aload_n 0, 1) := by decide +kernel
theorem dX1_far_7 : decode cX1_far 7 = .ok (.getfield 32, 3) := by decide +kernel
theorem dX1_far_10 : decode cX1_far 10 = .ok (.iload_n 2, 1) := by decide +kernel
theorem dX1_far_11 : decode cX1_far 11 = .ok (.iaload, 1) := by decide +kernel
theorem dX1_far_12 : decode cX1_far 12 = .ok (.isub, 1) := by decide +kernel
theorem dX1_far_13 : decode cX1_far 13 = .ok (.istore_n 3, 1) := by decide +kernel
theorem dX1_far_14 : decode cX1_far 14 = .ok (.aload_n 0, 1) := by decide +kernel
theorem dX1_far_15 : decode cX1_far 15 = .ok (.getfield 35, 3) := by decide +kernel
theorem dX1_far_18 : decode cX1_far 18 = .ok (.iload_n 1, 1) := by decide +kernel
theorem dX1_far_19 : decode cX1_far 19 = .ok (.iaload, 1) := by decide +kernel
theorem dX1_far_20 : decode cX1_far 20 = .ok (.aload_n 0, 1) := by decide +kernel
theorem dX1_far_21 : decode cX1_far 21 = .ok (.getfield 35, 3) := by decide +kernel
theorem dX1_far_24 : decode cX1_far 24 = .ok (.iload_n 2, 1) := by decide +kernel
theorem dX1_far_25 : decode cX1_far 25 = .ok (.iaload, 1) := by decide +kernel
theorem dX1_far_26 : decode cX1_far 26 = .ok (.isub, 1) := by decide +kernel
theorem dX1_far_27 : decode cX1_far 27 = .ok (.istore 4, 2) := by decide +kernel
theorem dX1_far_29 : decode cX1_far 29 = .ok (.iload_n 3, 1) := by decide +kernel
theorem dX1_far_30 : decode cX1_far 30 = .ok (.iload_n 3, 1) := by decide +kernel
theorem dX1_far_31 : decode cX1_far 31 = .ok (.imul, 1) := by decide +kernel
theorem dX1_far_32 : decode cX1_far 32 = .ok (.iload 4, 2) := by decide +kernel
theorem dX1_far_34 : decode cX1_far 34 = .ok (.iload 4, 2) := by decide +kernel
theorem dX1_far_36 : decode cX1_far 36 = .ok (.imul, 1) := by decide +kernel
theorem dX1_far_37 : decode cX1_far 37 = .ok (.iadd, 1) := by decide +kernel
theorem dX1_far_38 : decode cX1_far 38 = .ok (.ireturn, 1) := by decide +kernel
theorem dX1_beside_0 : decode cX1_beside 0 = .ok (.aload_n 0, 1) := by decide +kernel
theorem dX1_beside_1 : decode cX1_beside 1 = .ok (.getfield 32, 3) := by decide +kernel
theorem dX1_beside_4 : decode cX1_beside 4 = .ok (.iload_n 1, 1) := by decide +kernel
theorem dX1_beside_5 : decode cX1_beside 5 = .ok (.iaload, 1) := by decide +kernel
theorem dX1_beside_6 : decode cX1_beside 6 = .ok (.istore_n 3, 1) := by decide +kernel
theorem dX1_beside_7 : decode cX1_beside 7 = .ok (.aload_n 0, 1) := by decide +kernel
theorem dX1_beside_8 : decode cX1_beside 8 = .ok (.getfield 35, 3) := by decide +kernel
theorem dX1_beside_11 : decode cX1_beside 11 = .ok (.iload_n 1, 1) := by decide +kernel
theorem dX1_beside_12 : decode cX1_beside 12 = .ok (.iaload, 1) := by decide +kernel
theorem dX1_beside_13 : decode cX1_beside 13 = .ok (.istore 4, 2) := by decide +kernel
theorem dX1_beside_15 : decode cX1_beside 15 = .ok (.iload_n 2, 1) := by decide +kernel
theorem dX1_beside_16 : decode cX1_beside 16 = .ok (.tableswitch 74 0 2 #[28, 44, 56], 28) := by decide +kernel
theorem dX1_beside_44 : decode cX1_beside 44 = .ok (.iload 4, 2) := by decide +kernel
theorem dX1_beside_46 : decode cX1_beside 46 = .ok (.ifCond .le 12, 3) := by decide +kernel
theorem dX1_beside_49 : decode cX1_beside 49 = .ok (.iload_n 1, 1) := by decide +kernel
theorem dX1_beside_50 : decode cX1_beside 50 = .ok (.aload_n 0, 1) := by decide +kernel
theorem dX1_beside_51 : decode cX1_beside 51 = .ok (.getfield 9, 3) := by decide +kernel
theorem dX1_beside_54 : decode cX1_beside 54 = .ok (.isub, 1) := by decide +kernel
theorem dX1_beside_55 : decode cX1_beside 55 = .ok (.goto 4, 3) := by decide +kernel
theorem dX1_beside_58 : decode cX1_beside 58 = .ok (.iconst (-1), 1) := by decide +kernel
theorem dX1_beside_59 : decode cX1_beside 59 = .ok (.ireturn, 1) := by decide +kernel
theorem dX1_beside_60 : decode cX1_beside 60 = .ok (.iload_n 3, 1) := by decide +kernel
theorem dX1_beside_61 : decode cX1_beside 61 = .ok (.ifCond .le 9, 3) := by decide +kernel
theorem dX1_beside_64 : decode cX1_beside 64 = .ok (.iload_n 1, 1) := by decide +kernel
theorem dX1_beside_65 : decode cX1_beside 65 = .ok (.iconst 1, 1) := by decide +kernel
theorem dX1_beside_66 : decode cX1_beside 66 = .ok (.isub, 1) := by decide +kernel
theorem dX1_beside_67 : decode cX1_beside 67 = .ok (.goto 4, 3) := by decide +kernel
theorem dX1_beside_70 : decode cX1_beside 70 = .ok (.iconst (-1), 1) := by decide +kernel
theorem dX1_beside_71 : decode cX1_beside 71 = .ok (.ireturn, 1) := by decide +kernel
theorem dX1_beside_72 : decode cX1_beside 72 = .ok (.iload_n 3, 1) := by decide +kernel
theorem dX1_beside_73 : decode cX1_beside 73 = .ok (.aload_n 0, 1) := by decide +kernel
theorem dX1_beside_74 : decode cX1_beside 74 = .ok (.getfield 9, 3) := by decide +kernel
theorem dX1_beside_77 : decode cX1_beside 77 = .ok (.iconst 1, 1) := by decide +kernel
theorem dX1_beside_78 : decode cX1_beside 78 = .ok (.isub, 1) := by decide +kernel
theorem dX1_beside_79 : decode cX1_beside 79 = .ok (.if_icmp .ge 9, 3) := by decide +kernel
theorem dX1_beside_82 : decode cX1_beside 82 = .ok (.iload_n 1, 1) := by decide +kernel
theorem dX1_beside_83 : decode cX1_beside 83 = .ok (.iconst 1, 1) := by decide +kernel
theorem dX1_beside_84 : decode cX1_beside 84 = .ok (.iadd, 1) := by decide +kernel
theorem dX1_beside_85 : decode cX1_beside 85 = .ok (.goto 4, 3) := by decide +kernel
theorem dX1_beside_88 : decode cX1_beside 88 = .ok (.iconst (-1), 1) := by decide +kernel
theorem dX1_beside_89 : decode cX1_beside 89 = .ok (.ireturn, 1) := by decide +kernel
theorem dX1_beside_90 : decode cX1_beside 90 = .ok (.iload 4, 2) := by decide +kernel
theorem dX1_beside_92 : decode cX1_beside 92 = .ok (.aload_n 0, 1) := by decide +kernel
theorem dX1_beside_93 : decode cX1_beside 93 = .ok (.getfield 15, 3) := by decide +kernel
theorem dX1_beside_96 : decode cX1_beside 96 = .ok (.iconst 1, 1) := by decide +kernel
theorem dX1_beside_97 : decode cX1_beside 97 = .ok (.isub, 1) := by decide +kernel
theorem dX1_beside_98 : decode cX1_beside 98 = .ok (.if_icmp .ge 12, 3) := by decide +kernel
theorem dX1_beside_101 : decode cX1_beside 101 = .ok (.iload_n 1, 1) := by decide +kernel
theorem dX1_beside_102 : decode cX1_beside 102 = .ok (.aload_n 0, 1) := by decide +kernel
theorem dX1_beside_103 : decode cX1_beside 103 = .ok (.getfield 9, 3) := by decide +kernel
theorem dX1_beside_106 : decode cX1_beside 106 = .ok (.iadd, 1) := by decide +kernel
theorem dX1_beside_107 : decode cX1_beside 107 = .ok (.goto 4, 3) := by decide +kernel
theorem dX1_beside_110 : decode cX1_beside 110 = .ok (.iconst (-1), 1) := by decide +kernel
theorem dX1_beside_111 : decode cX1_beside 111 = .ok (.ireturn, 1) := by decide +kernel
theorem dX1_isLand_0 : decode cX1_isLand 0 = .ok (.aload_n 0, 1) := by decide +kernel
theorem dX1_isLand_1 : decode cX1_isLand 1 = .ok (.getfield 24, 3) := by decide +kernel
theorem dX1_isLand_4 : decode cX1_isLand 4 = .ok (.iload_n 1, 1) := by decide +kernel
theorem dX1_isLand_5 : decode cX1_isLand 5 = .ok (.iaload, 1) := by decide +kernel
theorem dX1_isLand_6 : decode cX1_isLand 6 = .ok (.iconst (-1), 1) := by decide +kernel
theorem dX1_isLand_7 : decode cX1_isLand 7 = .ok (.if_icmp .eq 16, 3) := by decide +kernel
theorem dX1_isLand_10 : decode cX1_isLand 10 = .ok (.aload_n 0, 1) := by decide +kernel
theorem dX1_isLand_11 : decode cX1_isLand 11 = .ok (.getfield 28, 3) := by decide +kernel
theorem dX1_isLand_14 : decode cX1_isLand 14 = .ok (.iload_n 1, 1) := by decide +kernel
theorem dX1_isLand_15 : decode cX1_isLand 15 = .ok (.baload, 1) := by decide +kernel
theorem dX1_isLand_16 : decode cX1_isLand 16 = .ok (.ifCond .ne 7, 3) := by decide +kernel
theorem dX1_isLand_19 : decode cX1_isLand 19 = .ok (.iconst 1, 1) := by decide +kernel
theorem dX1_isLand_20 : decode cX1_isLand 20 = .ok (.goto 4, 3) := by decide +kernel
theorem dX1_isLand_23 : decode cX1_isLand 23 = .ok (.iconst 0, 1) := by decide +kernel
theorem dX1_isLand_24 : decode cX1_isLand 24 = .ok (.ireturn, 1) := by decide +kernel
theorem dX1_isLandOf_0 : decode cX1_isLandOf 0 = .ok (.aload_n 0, 1) := by decide +kernel
theorem dX1_isLandOf_1 : decode cX1_isLandOf 1 = .ok (.getfield 24, 3) := by decide +kernel
theorem dX1_isLandOf_4 : decode cX1_isLandOf 4 = .ok (.iload_n 1, 1) := by decide +kernel
theorem dX1_isLandOf_5 : decode cX1_isLandOf 5 = .ok (.iaload, 1) := by decide +kernel
theorem dX1_isLandOf_6 : decode cX1_isLandOf 6 = .ok (.iload_n 2, 1) := by decide +kernel
theorem dX1_isLandOf_7 : decode cX1_isLandOf 7 = .ok (.if_icmp .ne 16, 3) := by decide +kernel
theorem dX1_isLandOf_10 : decode cX1_isLandOf 10 = .ok (.aload_n 0, 1) := by decide +kernel
theorem dX1_isLandOf_11 : decode cX1_isLandOf 11 = .ok (.getfield 28, 3) := by decide +kernel
theorem dX1_isLandOf_14 : decode cX1_isLandOf 14 = .ok (.iload_n 1, 1) := by decide +kernel
theorem dX1_isLandOf_15 : decode cX1_isLandOf 15 = .ok (.baload, 1) := by decide +kernel
theorem dX1_isLandOf_16 : decode cX1_isLandOf 16 = .ok (.ifCond .ne 7, 3) := by decide +kernel
theorem dX1_isLandOf_19 : decode cX1_isLandOf 19 = .ok (.iconst 1, 1) := by decide +kernel
theorem dX1_isLandOf_20 : decode cX1_isLandOf 20 = .ok (.goto 4, 3) := by decide +kernel
theorem dX1_isLandOf_23 : decode cX1_isLandOf 23 = .ok (.iconst 0, 1) := by decide +kernel
theorem dX1_isLandOf_24 : decode cX1_isLandOf 24 = .ok (.ireturn, 1) := by decide +kernel
theorem dX1_livingIn_0 : decode cX1_livingIn 0 = .ok (.aload_n 0, 1) := by decide +kernel
theorem dX1_livingIn_1 : decode cX1_livingIn 1 = .ok (.getfield 38, 3) := by decide +kernel
theorem dX1_livingIn_4 : decode cX1_livingIn 4 = .ok (.iload_n 1, 1) := by decide +kernel
theorem dX1_livingIn_5 : decode cX1_livingIn 5 = .ok (.iconst 3, 1) := by decide +kernel
theorem dX1_livingIn_6 : decode cX1_livingIn 6 = .ok (.imul, 1) := by decide +kernel
theorem dX1_livingIn_7 : decode cX1_livingIn 7 = .ok (.iload_n 2, 1) := by decide +kernel
theorem dX1_livingIn_8 : decode cX1_livingIn 8 = .ok (.iadd, 1) := by decide +kernel
theorem dX1_livingIn_9 : decode cX1_livingIn 9 = .ok (.iaload, 1) := by decide +kernel
theorem dX1_livingIn_10 : decode cX1_livingIn 10 = .ok (.ireturn, 1) := by decide +kernel
theorem dX1_settle_0 : decode cX1_settle 0 = .ok (.aload_n 0, 1) := by decide +kernel
theorem dX1_settle_1 : decode cX1_settle 1 = .ok (.getfield 38, 3) := by decide +kernel
theorem dX1_settle_4 : decode cX1_settle 4 = .ok (.iload_n 1, 1) := by decide +kernel
theorem dX1_settle_5 : decode cX1_settle 5 = .ok (.iconst 3, 1) := by decide +kernel
theorem dX1_settle_6 : decode cX1_settle 6 = .ok (.imul, 1) := by decide +kernel
theorem dX1_settle_7 : decode cX1_settle 7 = .ok (.iload_n 2, 1) := by decide +kernel
theorem dX1_settle_8 : decode cX1_settle 8 = .ok (.iadd, 1) := by decide +kernel
theorem dX1_settle_9 : decode cX1_settle 9 = .ok (.iload_n 3, 1) := by decide +kernel
theorem dX1_settle_10 : decode cX1_settle 10 = .ok (.ldc 54, 2) := by decide +kernel
theorem dX1_settle_12 : decode cX1_settle 12 = .ok (.if_icmp .ge 7, 3) := by decide +kernel
theorem dX1_settle_15 : decode cX1_settle 15 = .ok (.iload_n 3, 1) := by decide +kernel
theorem dX1_settle_16 : decode cX1_settle 16 = .ok (.goto 5, 3) := by decide +kernel
theorem dX1_settle_19 : decode cX1_settle 19 = .ok (.ldc 54, 2) := by decide +kernel
theorem dX1_settle_21 : decode cX1_settle 21 = .ok (.iastore, 1) := by decide +kernel
theorem dX1_settle_22 : decode cX1_settle 22 = .ok (.return_, 1) := by decide +kernel
theorem dX1_cellsOf_0 : decode cX1_cellsOf 0 = .ok (.iconst 0, 1) := by decide +kernel
theorem dX1_cellsOf_1 : decode cX1_cellsOf 1 = .ok (.istore_n 2, 1) := by decide +kernel
theorem dX1_cellsOf_2 : decode cX1_cellsOf 2 = .ok (.iconst 0, 1) := by decide +kernel
theorem dX1_cellsOf_3 : decode cX1_cellsOf 3 = .ok (.istore_n 3, 1) := by decide +kernel
theorem dX1_cellsOf_4 : decode cX1_cellsOf 4 = .ok (.iload_n 3, 1) := by decide +kernel
theorem dX1_cellsOf_5 : decode cX1_cellsOf 5 = .ok (.aload_n 0, 1) := by decide +kernel
theorem dX1_cellsOf_6 : decode cX1_cellsOf 6 = .ok (.invokevirtual 55, 3) := by decide +kernel
theorem dX1_cellsOf_9 : decode cX1_cellsOf 9 = .ok (.if_icmp .ge 27, 3) := by decide +kernel
theorem dX1_cellsOf_12 : decode cX1_cellsOf 12 = .ok (.iload_n 2, 1) := by decide +kernel
theorem dX1_cellsOf_13 : decode cX1_cellsOf 13 = .ok (.aload_n 0, 1) := by decide +kernel
theorem dX1_cellsOf_14 : decode cX1_cellsOf 14 = .ok (.getfield 24, 3) := by decide +kernel
theorem dX1_cellsOf_17 : decode cX1_cellsOf 17 = .ok (.iload_n 3, 1) := by decide +kernel
theorem dX1_cellsOf_18 : decode cX1_cellsOf 18 = .ok (.iaload, 1) := by decide +kernel
theorem dX1_cellsOf_19 : decode cX1_cellsOf 19 = .ok (.iload_n 1, 1) := by decide +kernel
theorem dX1_cellsOf_20 : decode cX1_cellsOf 20 = .ok (.if_icmp .ne 7, 3) := by decide +kernel
theorem dX1_cellsOf_23 : decode cX1_cellsOf 23 = .ok (.iconst 1, 1) := by decide +kernel
theorem dX1_cellsOf_24 : decode cX1_cellsOf 24 = .ok (.goto 4, 3) := by decide +kernel
theorem dX1_cellsOf_27 : decode cX1_cellsOf 27 = .ok (.iconst 0, 1) := by decide +kernel
theorem dX1_cellsOf_28 : decode cX1_cellsOf 28 = .ok (.iadd, 1) := by decide +kernel
theorem dX1_cellsOf_29 : decode cX1_cellsOf 29 = .ok (.istore_n 2, 1) := by decide +kernel
theorem dX1_cellsOf_30 : decode cX1_cellsOf 30 = .ok (.iinc 3 1, 3) := by decide +kernel
theorem dX1_cellsOf_33 : decode cX1_cellsOf 33 = .ok (.goto (-29), 3) := by decide +kernel
theorem dX1_cellsOf_36 : decode cX1_cellsOf 36 = .ok (.iload_n 2, 1) := by decide +kernel
theorem dX1_cellsOf_37 : decode cX1_cellsOf 37 = .ok (.ireturn, 1) := by decide +kernel
theorem dX1_landOf_0 : decode cX1_landOf 0 = .ok (.iconst 0, 1) := by decide +kernel
theorem dX1_landOf_1 : decode cX1_landOf 1 = .ok (.istore_n 2, 1) := by decide +kernel
theorem dX1_landOf_2 : decode cX1_landOf 2 = .ok (.iconst 0, 1) := by decide +kernel
theorem dX1_landOf_3 : decode cX1_landOf 3 = .ok (.istore_n 3, 1) := by decide +kernel
theorem dX1_landOf_4 : decode cX1_landOf 4 = .ok (.iload_n 3, 1) := by decide +kernel
theorem dX1_landOf_5 : decode cX1_landOf 5 = .ok (.aload_n 0, 1) := by decide +kernel
theorem dX1_landOf_6 : decode cX1_landOf 6 = .ok (.invokevirtual 55, 3) := by decide +kernel
theorem dX1_landOf_9 : decode cX1_landOf 9 = .ok (.if_icmp .ge 26, 3) := by decide +kernel
theorem dX1_landOf_12 : decode cX1_landOf 12 = .ok (.iload_n 2, 1) := by decide +kernel
theorem dX1_landOf_13 : decode cX1_landOf 13 = .ok (.aload_n 0, 1) := by decide +kernel
theorem dX1_landOf_14 : decode cX1_landOf 14 = .ok (.iload_n 3, 1) := by decide +kernel
theorem dX1_landOf_15 : decode cX1_landOf 15 = .ok (.iload_n 1, 1) := by decide +kernel
theorem dX1_landOf_16 : decode cX1_landOf 16 = .ok (.invokevirtual 59, 3) := by decide +kernel
theorem dX1_landOf_19 : decode cX1_landOf 19 = .ok (.ifCond .eq 7, 3) := by decide +kernel
theorem dX1_landOf_22 : decode cX1_landOf 22 = .ok (.iconst 1, 1) := by decide +kernel
theorem dX1_landOf_23 : decode cX1_landOf 23 = .ok (.goto 4, 3) := by decide +kernel
theorem dX1_landOf_26 : decode cX1_landOf 26 = .ok (.iconst 0, 1) := by decide +kernel
theorem dX1_landOf_27 : decode cX1_landOf 27 = .ok (.iadd, 1) := by decide +kernel
theorem dX1_landOf_28 : decode cX1_landOf 28 = .ok (.istore_n 2, 1) := by decide +kernel
theorem dX1_landOf_29 : decode cX1_landOf 29 = .ok (.iinc 3 1, 3) := by decide +kernel
theorem dX1_landOf_32 : decode cX1_landOf 32 = .ok (.goto (-28), 3) := by decide +kernel
theorem dX1_landOf_35 : decode cX1_landOf 35 = .ok (.iload_n 2, 1) := by decide +kernel
theorem dX1_landOf_36 : decode cX1_landOf 36 = .ok (.ireturn, 1) := by decide +kernel
theorem dX1_shoreOf_0 : decode cX1_shoreOf 0 = .ok (.iconst 0, 1) := by decide +kernel
theorem dX1_shoreOf_1 : decode cX1_shoreOf 1 = .ok (.istore_n 2, 1) := by decide +kernel
theorem dX1_shoreOf_2 : decode cX1_shoreOf 2 = .ok (.iconst 0, 1) := by decide +kernel
theorem dX1_shoreOf_3 : decode cX1_shoreOf 3 = .ok (.istore_n 3, 1) := by decide +kernel
theorem dX1_shoreOf_4 : decode cX1_shoreOf 4 = .ok (.iload_n 3, 1) := by decide +kernel
theorem dX1_shoreOf_5 : decode cX1_shoreOf 5 = .ok (.aload_n 0, 1) := by decide +kernel
theorem dX1_shoreOf_6 : decode cX1_shoreOf 6 = .ok (.invokevirtual 55, 3) := by decide +kernel
theorem dX1_shoreOf_9 : decode cX1_shoreOf 9 = .ok (.if_icmp .ge 66, 3) := by decide +kernel
theorem dX1_shoreOf_12 : decode cX1_shoreOf 12 = .ok (.iconst 0, 1) := by decide +kernel
theorem dX1_shoreOf_13 : decode cX1_shoreOf 13 = .ok (.istore 4, 2) := by decide +kernel
theorem dX1_shoreOf_15 : decode cX1_shoreOf 15 = .ok (.iload 4, 2) := by decide +kernel
theorem dX1_shoreOf_17 : decode cX1_shoreOf 17 = .ok (.iconst 4, 1) := by decide +kernel
theorem dX1_shoreOf_18 : decode cX1_shoreOf 18 = .ok (.if_icmp .ge 51, 3) := by decide +kernel
theorem dX1_shoreOf_21 : decode cX1_shoreOf 21 = .ok (.aload_n 0, 1) := by decide +kernel
theorem dX1_shoreOf_22 : decode cX1_shoreOf 22 = .ok (.iload_n 3, 1) := by decide +kernel
theorem dX1_shoreOf_23 : decode cX1_shoreOf 23 = .ok (.iload_n 1, 1) := by decide +kernel
theorem dX1_shoreOf_24 : decode cX1_shoreOf 24 = .ok (.invokevirtual 59, 3) := by decide +kernel
theorem dX1_shoreOf_27 : decode cX1_shoreOf 27 = .ok (.ifCond .eq 42, 3) := by decide +kernel
theorem dX1_shoreOf_30 : decode cX1_shoreOf 30 = .ok (.aload_n 0, 1) := by decide +kernel
theorem dX1_shoreOf_31 : decode cX1_shoreOf 31 = .ok (.iload_n 3, 1) := by decide +kernel
theorem dX1_shoreOf_32 : decode cX1_shoreOf 32 = .ok (.iload 4, 2) := by decide +kernel
theorem dX1_shoreOf_34 : decode cX1_shoreOf 34 = .ok (.invokevirtual 63, 3) := by decide +kernel
theorem dX1_shoreOf_37 : decode cX1_shoreOf 37 = .ok (.istore 5, 2) := by decide +kernel
theorem dX1_shoreOf_39 : decode cX1_shoreOf 39 = .ok (.iload_n 2, 1) := by decide +kernel
theorem dX1_shoreOf_40 : decode cX1_shoreOf 40 = .ok (.iload 5, 2) := by decide +kernel
theorem dX1_shoreOf_42 : decode cX1_shoreOf 42 = .ok (.iconst (-1), 1) := by decide +kernel
theorem dX1_shoreOf_43 : decode cX1_shoreOf 43 = .ok (.if_icmp .eq 17, 3) := by decide +kernel
theorem dX1_shoreOf_46 : decode cX1_shoreOf 46 = .ok (.aload_n 0, 1) := by decide +kernel
theorem dX1_shoreOf_47 : decode cX1_shoreOf 47 = .ok (.getfield 28, 3) := by decide +kernel
theorem dX1_shoreOf_50 : decode cX1_shoreOf 50 = .ok (.iload 5, 2) := by decide +kernel
theorem dX1_shoreOf_52 : decode cX1_shoreOf 52 = .ok (.baload, 1) := by decide +kernel
theorem dX1_shoreOf_53 : decode cX1_shoreOf 53 = .ok (.ifCond .eq 7, 3) := by decide +kernel
theorem dX1_shoreOf_56 : decode cX1_shoreOf 56 = .ok (.iconst 1, 1) := by decide +kernel
theorem dX1_shoreOf_57 : decode cX1_shoreOf 57 = .ok (.goto 4, 3) := by decide +kernel
theorem dX1_shoreOf_60 : decode cX1_shoreOf 60 = .ok (.iconst 0, 1) := by decide +kernel
theorem dX1_shoreOf_61 : decode cX1_shoreOf 61 = .ok (.iadd, 1) := by decide +kernel
theorem dX1_shoreOf_62 : decode cX1_shoreOf 62 = .ok (.istore_n 2, 1) := by decide +kernel
theorem dX1_shoreOf_63 : decode cX1_shoreOf 63 = .ok (.iinc 4 1, 3) := by decide +kernel
theorem dX1_shoreOf_66 : decode cX1_shoreOf 66 = .ok (.goto (-51), 3) := by decide +kernel
theorem dX1_shoreOf_69 : decode cX1_shoreOf 69 = .ok (.iinc 3 1, 3) := by decide +kernel
theorem dX1_shoreOf_72 : decode cX1_shoreOf 72 = .ok (.goto (-68), 3) := by decide +kernel
theorem dX1_shoreOf_75 : decode cX1_shoreOf 75 = .ok (.iload_n 2, 1) := by decide +kernel
theorem dX1_shoreOf_76 : decode cX1_shoreOf 76 = .ok (.ireturn, 1) := by decide +kernel
theorem dX1_borderOf_0 : decode cX1_borderOf 0 = .ok (.iconst 0, 1) := by decide +kernel
theorem dX1_borderOf_1 : decode cX1_borderOf 1 = .ok (.istore_n 2, 1) := by decide +kernel
theorem dX1_borderOf_2 : decode cX1_borderOf 2 = .ok (.iconst 0, 1) := by decide +kernel
theorem dX1_borderOf_3 : decode cX1_borderOf 3 = .ok (.istore_n 3, 1) := by decide +kernel
theorem dX1_borderOf_4 : decode cX1_borderOf 4 = .ok (.iload_n 3, 1) := by decide +kernel
theorem dX1_borderOf_5 : decode cX1_borderOf 5 = .ok (.aload_n 0, 1) := by decide +kernel
theorem dX1_borderOf_6 : decode cX1_borderOf 6 = .ok (.invokevirtual 55, 3) := by decide +kernel
theorem dX1_borderOf_9 : decode cX1_borderOf 9 = .ok (.if_icmp .ge 76, 3) := by decide +kernel
theorem dX1_borderOf_12 : decode cX1_borderOf 12 = .ok (.iconst 0, 1) := by decide +kernel
theorem dX1_borderOf_13 : decode cX1_borderOf 13 = .ok (.istore 4, 2) := by decide +kernel
theorem dX1_borderOf_15 : decode cX1_borderOf 15 = .ok (.iload 4, 2) := by decide +kernel
theorem dX1_borderOf_17 : decode cX1_borderOf 17 = .ok (.iconst 4, 1) := by decide +kernel
theorem dX1_borderOf_18 : decode cX1_borderOf 18 = .ok (.if_icmp .ge 61, 3) := by decide +kernel
theorem dX1_borderOf_21 : decode cX1_borderOf 21 = .ok (.aload_n 0, 1) := by decide +kernel
theorem dX1_borderOf_22 : decode cX1_borderOf 22 = .ok (.iload_n 3, 1) := by decide +kernel
theorem dX1_borderOf_23 : decode cX1_borderOf 23 = .ok (.iload_n 1, 1) := by decide +kernel
theorem dX1_borderOf_24 : decode cX1_borderOf 24 = .ok (.invokevirtual 59, 3) := by decide +kernel
theorem dX1_borderOf_27 : decode cX1_borderOf 27 = .ok (.ifCond .eq 52, 3) := by decide +kernel
theorem dX1_borderOf_30 : decode cX1_borderOf 30 = .ok (.aload_n 0, 1) := by decide +kernel
theorem dX1_borderOf_31 : decode cX1_borderOf 31 = .ok (.iload_n 3, 1) := by decide +kernel
theorem dX1_borderOf_32 : decode cX1_borderOf 32 = .ok (.iload 4, 2) := by decide +kernel
theorem dX1_borderOf_34 : decode cX1_borderOf 34 = .ok (.invokevirtual 63, 3) := by decide +kernel
theorem dX1_borderOf_37 : decode cX1_borderOf 37 = .ok (.istore 5, 2) := by decide +kernel
theorem dX1_borderOf_39 : decode cX1_borderOf 39 = .ok (.iload_n 2, 1) := by decide +kernel
theorem dX1_borderOf_40 : decode cX1_borderOf 40 = .ok (.iload 5, 2) := by decide +kernel
theorem dX1_borderOf_42 : decode cX1_borderOf 42 = .ok (.iconst (-1), 1) := by decide +kernel
theorem dX1_borderOf_43 : decode cX1_borderOf 43 = .ok (.if_icmp .eq 27, 3) := by decide +kernel
theorem dX1_borderOf_46 : decode cX1_borderOf 46 = .ok (.aload_n 0, 1) := by decide +kernel
theorem dX1_borderOf_47 : decode cX1_borderOf 47 = .ok (.iload 5, 2) := by decide +kernel
theorem dX1_borderOf_49 : decode cX1_borderOf 49 = .ok (.invokevirtual 67, 3) := by decide +kernel
theorem dX1_borderOf_52 : decode cX1_borderOf 52 = .ok (.ifCond .eq 18, 3) := by decide +kernel
theorem dX1_borderOf_55 : decode cX1_borderOf 55 = .ok (.aload_n 0, 1) := by decide +kernel
theorem dX1_borderOf_56 : decode cX1_borderOf 56 = .ok (.getfield 24, 3) := by decide +kernel
theorem dX1_borderOf_59 : decode cX1_borderOf 59 = .ok (.iload 5, 2) := by decide +kernel
theorem dX1_borderOf_61 : decode cX1_borderOf 61 = .ok (.iaload, 1) := by decide +kernel
theorem dX1_borderOf_62 : decode cX1_borderOf 62 = .ok (.iload_n 1, 1) := by decide +kernel
theorem dX1_borderOf_63 : decode cX1_borderOf 63 = .ok (.if_icmp .eq 7, 3) := by decide +kernel
theorem dX1_borderOf_66 : decode cX1_borderOf 66 = .ok (.iconst 1, 1) := by decide +kernel
theorem dX1_borderOf_67 : decode cX1_borderOf 67 = .ok (.goto 4, 3) := by decide +kernel
theorem dX1_borderOf_70 : decode cX1_borderOf 70 = .ok (.iconst 0, 1) := by decide +kernel
theorem dX1_borderOf_71 : decode cX1_borderOf 71 = .ok (.iadd, 1) := by decide +kernel
theorem dX1_borderOf_72 : decode cX1_borderOf 72 = .ok (.istore_n 2, 1) := by decide +kernel
theorem dX1_borderOf_73 : decode cX1_borderOf 73 = .ok (.iinc 4 1, 3) := by decide +kernel
theorem dX1_borderOf_76 : decode cX1_borderOf 76 = .ok (.goto (-61), 3) := by decide +kernel
theorem dX1_borderOf_79 : decode cX1_borderOf 79 = .ok (.iinc 3 1, 3) := by decide +kernel
theorem dX1_borderOf_82 : decode cX1_borderOf 82 = .ok (.goto (-78), 3) := by decide +kernel
theorem dX1_borderOf_85 : decode cX1_borderOf 85 = .ok (.iload_n 2, 1) := by decide +kernel
theorem dX1_borderOf_86 : decode cX1_borderOf 86 = .ok (.ireturn, 1) := by decide +kernel
theorem dX1_startsRun_0 : decode cX1_startsRun 0 = .ok (.iload_n 2, 1) := by decide +kernel
theorem dX1_startsRun_1 : decode cX1_startsRun 1 = .ok (.aload_n 0, 1) := by decide +kernel
theorem dX1_startsRun_2 : decode cX1_startsRun 2 = .ok (.getfield 9, 3) := by decide +kernel
theorem dX1_startsRun_5 : decode cX1_startsRun 5 = .ok (.imul, 1) := by decide +kernel
theorem dX1_startsRun_6 : decode cX1_startsRun 6 = .ok (.iload_n 3, 1) := by decide +kernel
theorem dX1_startsRun_7 : decode cX1_startsRun 7 = .ok (.iadd, 1) := by decide +kernel
theorem dX1_startsRun_8 : decode cX1_startsRun 8 = .ok (.istore 4, 2) := by decide +kernel
theorem dX1_startsRun_10 : decode cX1_startsRun 10 = .ok (.aload_n 0, 1) := by decide +kernel
theorem dX1_startsRun_11 : decode cX1_startsRun 11 = .ok (.iload 4, 2) := by decide +kernel
theorem dX1_startsRun_13 : decode cX1_startsRun 13 = .ok (.iload_n 1, 1) := by decide +kernel
theorem dX1_startsRun_14 : decode cX1_startsRun 14 = .ok (.invokevirtual 59, 3) := by decide +kernel
theorem dX1_startsRun_17 : decode cX1_startsRun 17 = .ok (.ifCond .eq 23, 3) := by decide +kernel
theorem dX1_startsRun_20 : decode cX1_startsRun 20 = .ok (.iload_n 3, 1) := by decide +kernel
theorem dX1_startsRun_21 : decode cX1_startsRun 21 = .ok (.ifCond .eq 15, 3) := by decide +kernel
theorem dX1_startsRun_24 : decode cX1_startsRun 24 = .ok (.aload_n 0, 1) := by decide +kernel
theorem dX1_startsRun_25 : decode cX1_startsRun 25 = .ok (.iload 4, 2) := by decide +kernel
theorem dX1_startsRun_27 : decode cX1_startsRun 27 = .ok (.iconst 1, 1) := by decide +kernel
theorem dX1_startsRun_28 : decode cX1_startsRun 28 = .ok (.isub, 1) := by decide +kernel
theorem dX1_startsRun_29 : decode cX1_startsRun 29 = .ok (.iload_n 1, 1) := by decide +kernel
theorem dX1_startsRun_30 : decode cX1_startsRun 30 = .ok (.invokevirtual 59, 3) := by decide +kernel
theorem dX1_startsRun_33 : decode cX1_startsRun 33 = .ok (.ifCond .ne 7, 3) := by decide +kernel
theorem dX1_startsRun_36 : decode cX1_startsRun 36 = .ok (.iconst 1, 1) := by decide +kernel
theorem dX1_startsRun_37 : decode cX1_startsRun 37 = .ok (.goto 4, 3) := by decide +kernel
theorem dX1_startsRun_40 : decode cX1_startsRun 40 = .ok (.iconst 0, 1) := by decide +kernel
theorem dX1_startsRun_41 : decode cX1_startsRun 41 = .ok (.ireturn, 1) := by decide +kernel
theorem dX1_runsOf_0 : decode cX1_runsOf 0 = .ok (.iconst 0, 1) := by decide +kernel
theorem dX1_runsOf_1 : decode cX1_runsOf 1 = .ok (.istore_n 3, 1) := by decide +kernel
theorem dX1_runsOf_2 : decode cX1_runsOf 2 = .ok (.iconst 0, 1) := by decide +kernel
theorem dX1_runsOf_3 : decode cX1_runsOf 3 = .ok (.istore 4, 2) := by decide +kernel
theorem dX1_runsOf_5 : decode cX1_runsOf 5 = .ok (.iload 4, 2) := by decide +kernel
theorem dX1_runsOf_7 : decode cX1_runsOf 7 = .ok (.aload_n 0, 1) := by decide +kernel
theorem dX1_runsOf_8 : decode cX1_runsOf 8 = .ok (.getfield 9, 3) := by decide +kernel
theorem dX1_runsOf_11 : decode cX1_runsOf 11 = .ok (.if_icmp .ge 28, 3) := by decide +kernel
theorem dX1_runsOf_14 : decode cX1_runsOf 14 = .ok (.iload_n 3, 1) := by decide +kernel
theorem dX1_runsOf_15 : decode cX1_runsOf 15 = .ok (.aload_n 0, 1) := by decide +kernel
theorem dX1_runsOf_16 : decode cX1_runsOf 16 = .ok (.iload_n 1, 1) := by decide +kernel
theorem dX1_runsOf_17 : decode cX1_runsOf 17 = .ok (.iload_n 2, 1) := by decide +kernel
theorem dX1_runsOf_18 : decode cX1_runsOf 18 = .ok (.iload 4, 2) := by decide +kernel
theorem dX1_runsOf_20 : decode cX1_runsOf 20 = .ok (.invokevirtual 71, 3) := by decide +kernel
theorem dX1_runsOf_23 : decode cX1_runsOf 23 = .ok (.ifCond .eq 7, 3) := by decide +kernel
theorem dX1_runsOf_26 : decode cX1_runsOf 26 = .ok (.iconst 1, 1) := by decide +kernel
theorem dX1_runsOf_27 : decode cX1_runsOf 27 = .ok (.goto 4, 3) := by decide +kernel
theorem dX1_runsOf_30 : decode cX1_runsOf 30 = .ok (.iconst 0, 1) := by decide +kernel
theorem dX1_runsOf_31 : decode cX1_runsOf 31 = .ok (.iadd, 1) := by decide +kernel
theorem dX1_runsOf_32 : decode cX1_runsOf 32 = .ok (.istore_n 3, 1) := by decide +kernel
theorem dX1_runsOf_33 : decode cX1_runsOf 33 = .ok (.iinc 4 1, 3) := by decide +kernel
theorem dX1_runsOf_36 : decode cX1_runsOf 36 = .ok (.goto (-31), 3) := by decide +kernel
theorem dX1_runsOf_39 : decode cX1_runsOf 39 = .ok (.iload_n 3, 1) := by decide +kernel
theorem dX1_runsOf_40 : decode cX1_runsOf 40 = .ok (.ireturn, 1) := by decide +kernel
theorem dX1_allRunsOf_0 : decode cX1_allRunsOf 0 = .ok (.iconst 0, 1) := by decide +kernel
theorem dX1_allRunsOf_1 : decode cX1_allRunsOf 1 = .ok (.istore_n 2, 1) := by decide +kernel
theorem dX1_allRunsOf_2 : decode cX1_allRunsOf 2 = .ok (.iconst 0, 1) := by decide +kernel
theorem dX1_allRunsOf_3 : decode cX1_allRunsOf 3 = .ok (.istore_n 3, 1) := by decide +kernel
theorem dX1_allRunsOf_4 : decode cX1_allRunsOf 4 = .ok (.iload_n 3, 1) := by decide +kernel
theorem dX1_allRunsOf_5 : decode cX1_allRunsOf 5 = .ok (.aload_n 0, 1) := by decide +kernel
theorem dX1_allRunsOf_6 : decode cX1_allRunsOf 6 = .ok (.getfield 15, 3) := by decide +kernel
theorem dX1_allRunsOf_9 : decode cX1_allRunsOf 9 = .ok (.if_icmp .ge 18, 3) := by decide +kernel
theorem dX1_allRunsOf_12 : decode cX1_allRunsOf 12 = .ok (.iload_n 2, 1) := by decide +kernel
theorem dX1_allRunsOf_13 : decode cX1_allRunsOf 13 = .ok (.aload_n 0, 1) := by decide +kernel
theorem dX1_allRunsOf_14 : decode cX1_allRunsOf 14 = .ok (.iload_n 1, 1) := by decide +kernel
theorem dX1_allRunsOf_15 : decode cX1_allRunsOf 15 = .ok (.iload_n 3, 1) := by decide +kernel
theorem dX1_allRunsOf_16 : decode cX1_allRunsOf 16 = .ok (.invokevirtual 75, 3) := by decide +kernel
theorem dX1_allRunsOf_19 : decode cX1_allRunsOf 19 = .ok (.iadd, 1) := by decide +kernel
theorem dX1_allRunsOf_20 : decode cX1_allRunsOf 20 = .ok (.istore_n 2, 1) := by decide +kernel
theorem dX1_allRunsOf_21 : decode cX1_allRunsOf 21 = .ok (.iinc 3 1, 3) := by decide +kernel
theorem dX1_allRunsOf_24 : decode cX1_allRunsOf 24 = .ok (.goto (-20), 3) := by decide +kernel
theorem dX1_allRunsOf_27 : decode cX1_allRunsOf 27 = .ok (.iload_n 2, 1) := by decide +kernel
theorem dX1_allRunsOf_28 : decode cX1_allRunsOf 28 = .ok (.ireturn, 1) := by decide +kernel
theorem dX1_runEdge_0 : decode cX1_runEdge 0 = .ok (.iconst 0, 1) := by decide +kernel
theorem dX1_runEdge_1 : decode cX1_runEdge 1 = .ok (.istore 5, 2) := by decide +kernel
theorem dX1_runEdge_3 : decode cX1_runEdge 3 = .ok (.iconst 0, 1) := by decide +kernel
theorem dX1_runEdge_4 : decode cX1_runEdge 4 = .ok (.istore 6, 2) := by decide +kernel
theorem dX1_runEdge_6 : decode cX1_runEdge 6 = .ok (.iload 6, 2) := by decide +kernel
theorem dX1_runEdge_8 : decode cX1_runEdge 8 = .ok (.aload_n 0, 1) := by decide +kernel
theorem dX1_runEdge_9 : decode cX1_runEdge 9 = .ok (.getfield 9, 3) := by decide +kernel
theorem dX1_runEdge_12 : decode cX1_runEdge 12 = .ok (.if_icmp .ge 48, 3) := by decide +kernel
theorem dX1_runEdge_15 : decode cX1_runEdge 15 = .ok (.aload_n 0, 1) := by decide +kernel
theorem dX1_runEdge_16 : decode cX1_runEdge 16 = .ok (.iload_n 1, 1) := by decide +kernel
theorem dX1_runEdge_17 : decode cX1_runEdge 17 = .ok (.iload_n 2, 1) := by decide +kernel
theorem dX1_runEdge_18 : decode cX1_runEdge 18 = .ok (.iload 6, 2) := by decide +kernel
theorem dX1_runEdge_20 : decode cX1_runEdge 20 = .ok (.invokevirtual 71, 3) := by decide +kernel
theorem dX1_runEdge_23 : decode cX1_runEdge 23 = .ok (.ifCond .eq 31, 3) := by decide +kernel
theorem dX1_runEdge_26 : decode cX1_runEdge 26 = .ok (.iload 5, 2) := by decide +kernel
theorem dX1_runEdge_28 : decode cX1_runEdge 28 = .ok (.iload_n 3, 1) := by decide +kernel
theorem dX1_runEdge_29 : decode cX1_runEdge 29 = .ok (.if_icmp .ne 22, 3) := by decide +kernel
theorem dX1_runEdge_32 : decode cX1_runEdge 32 = .ok (.iload 4, 2) := by decide +kernel
theorem dX1_runEdge_34 : decode cX1_runEdge 34 = .ok (.ifCond .eq 14, 3) := by decide +kernel
theorem dX1_runEdge_37 : decode cX1_runEdge 37 = .ok (.aload_n 0, 1) := by decide +kernel
theorem dX1_runEdge_38 : decode cX1_runEdge 38 = .ok (.iload_n 1, 1) := by decide +kernel
theorem dX1_runEdge_39 : decode cX1_runEdge 39 = .ok (.iload_n 2, 1) := by decide +kernel
theorem dX1_runEdge_40 : decode cX1_runEdge 40 = .ok (.iload 6, 2) := by decide +kernel
theorem dX1_runEdge_42 : decode cX1_runEdge 42 = .ok (.invokevirtual 78, 3) := by decide +kernel
theorem dX1_runEdge_45 : decode cX1_runEdge 45 = .ok (.goto 5, 3) := by decide +kernel
theorem dX1_runEdge_48 : decode cX1_runEdge 48 = .ok (.iload 6, 2) := by decide +kernel
theorem dX1_runEdge_50 : decode cX1_runEdge 50 = .ok (.ireturn, 1) := by decide +kernel
theorem dX1_runEdge_51 : decode cX1_runEdge 51 = .ok (.iinc 5 1, 3) := by decide +kernel
theorem dX1_runEdge_54 : decode cX1_runEdge 54 = .ok (.iinc 6 1, 3) := by decide +kernel
theorem dX1_runEdge_57 : decode cX1_runEdge 57 = .ok (.goto (-51), 3) := by decide +kernel
theorem dX1_runEdge_60 : decode cX1_runEdge 60 = .ok (.iconst (-1), 1) := by decide +kernel
theorem dX1_runEdge_61 : decode cX1_runEdge 61 = .ok (.ireturn, 1) := by decide +kernel
theorem dX1_runEnd_0 : decode cX1_runEnd 0 = .ok (.iload_n 3, 1) := by decide +kernel
theorem dX1_runEnd_1 : decode cX1_runEnd 1 = .ok (.istore 4, 2) := by decide +kernel
theorem dX1_runEnd_3 : decode cX1_runEnd 3 = .ok (.iload 4, 2) := by decide +kernel
theorem dX1_runEnd_5 : decode cX1_runEnd 5 = .ok (.aload_n 0, 1) := by decide +kernel
theorem dX1_runEnd_6 : decode cX1_runEnd 6 = .ok (.getfield 9, 3) := by decide +kernel
theorem dX1_runEnd_9 : decode cX1_runEnd 9 = .ok (.iconst 1, 1) := by decide +kernel
theorem dX1_runEnd_10 : decode cX1_runEnd 10 = .ok (.isub, 1) := by decide +kernel
theorem dX1_runEnd_11 : decode cX1_runEnd 11 = .ok (.if_icmp .ge 28, 3) := by decide +kernel
theorem dX1_runEnd_14 : decode cX1_runEnd 14 = .ok (.aload_n 0, 1) := by decide +kernel
theorem dX1_runEnd_15 : decode cX1_runEnd 15 = .ok (.iload_n 2, 1) := by decide +kernel
theorem dX1_runEnd_16 : decode cX1_runEnd 16 = .ok (.aload_n 0, 1) := by decide +kernel
theorem dX1_runEnd_17 : decode cX1_runEnd 17 = .ok (.getfield 9, 3) := by decide +kernel
theorem dX1_runEnd_20 : decode cX1_runEnd 20 = .ok (.imul, 1) := by decide +kernel
theorem dX1_runEnd_21 : decode cX1_runEnd 21 = .ok (.iload 4, 2) := by decide +kernel
theorem dX1_runEnd_23 : decode cX1_runEnd 23 = .ok (.iadd, 1) := by decide +kernel
theorem dX1_runEnd_24 : decode cX1_runEnd 24 = .ok (.iconst 1, 1) := by decide +kernel
theorem dX1_runEnd_25 : decode cX1_runEnd 25 = .ok (.iadd, 1) := by decide +kernel
theorem dX1_runEnd_26 : decode cX1_runEnd 26 = .ok (.iload_n 1, 1) := by decide +kernel
theorem dX1_runEnd_27 : decode cX1_runEnd 27 = .ok (.invokevirtual 59, 3) := by decide +kernel
theorem dX1_runEnd_30 : decode cX1_runEnd 30 = .ok (.ifCond .eq 9, 3) := by decide +kernel
theorem dX1_runEnd_33 : decode cX1_runEnd 33 = .ok (.iinc 4 1, 3) := by decide +kernel
theorem dX1_runEnd_36 : decode cX1_runEnd 36 = .ok (.goto (-33), 3) := by decide +kernel
theorem dX1_runEnd_39 : decode cX1_runEnd 39 = .ok (.iload 4, 2) := by decide +kernel
theorem dX1_runEnd_41 : decode cX1_runEnd 41 = .ok (.ireturn, 1) := by decide +kernel
theorem dX1_seaCells_0 : decode cX1_seaCells 0 = .ok (.iconst 0, 1) := by decide +kernel
theorem dX1_seaCells_1 : decode cX1_seaCells 1 = .ok (.istore_n 1, 1) := by decide +kernel
theorem dX1_seaCells_2 : decode cX1_seaCells 2 = .ok (.iconst 0, 1) := by decide +kernel
theorem dX1_seaCells_3 : decode cX1_seaCells 3 = .ok (.istore_n 2, 1) := by decide +kernel
theorem dX1_seaCells_4 : decode cX1_seaCells 4 = .ok (.iload_n 2, 1) := by decide +kernel
theorem dX1_seaCells_5 : decode cX1_seaCells 5 = .ok (.aload_n 0, 1) := by decide +kernel
theorem dX1_seaCells_6 : decode cX1_seaCells 6 = .ok (.invokevirtual 55, 3) := by decide +kernel
theorem dX1_seaCells_9 : decode cX1_seaCells 9 = .ok (.if_icmp .ge 26, 3) := by decide +kernel
theorem dX1_seaCells_12 : decode cX1_seaCells 12 = .ok (.iload_n 1, 1) := by decide +kernel
theorem dX1_seaCells_13 : decode cX1_seaCells 13 = .ok (.aload_n 0, 1) := by decide +kernel
theorem dX1_seaCells_14 : decode cX1_seaCells 14 = .ok (.getfield 28, 3) := by decide +kernel
theorem dX1_seaCells_17 : decode cX1_seaCells 17 = .ok (.iload_n 2, 1) := by decide +kernel
theorem dX1_seaCells_18 : decode cX1_seaCells 18 = .ok (.baload, 1) := by decide +kernel
theorem dX1_seaCells_19 : decode cX1_seaCells 19 = .ok (.ifCond .eq 7, 3) := by decide +kernel
theorem dX1_seaCells_22 : decode cX1_seaCells 22 = .ok (.iconst 1, 1) := by decide +kernel
theorem dX1_seaCells_23 : decode cX1_seaCells 23 = .ok (.goto 4, 3) := by decide +kernel
theorem dX1_seaCells_26 : decode cX1_seaCells 26 = .ok (.iconst 0, 1) := by decide +kernel
theorem dX1_seaCells_27 : decode cX1_seaCells 27 = .ok (.iadd, 1) := by decide +kernel
theorem dX1_seaCells_28 : decode cX1_seaCells 28 = .ok (.istore_n 1, 1) := by decide +kernel
theorem dX1_seaCells_29 : decode cX1_seaCells 29 = .ok (.iinc 2 1, 3) := by decide +kernel
theorem dX1_seaCells_32 : decode cX1_seaCells 32 = .ok (.goto (-28), 3) := by decide +kernel
theorem dX1_seaCells_35 : decode cX1_seaCells 35 = .ok (.iload_n 1, 1) := by decide +kernel
theorem dX1_seaCells_36 : decode cX1_seaCells 36 = .ok (.ireturn, 1) := by decide +kernel
theorem dX1_landCells_0 : decode cX1_landCells 0 = .ok (.iconst 0, 1) := by decide +kernel
theorem dX1_landCells_1 : decode cX1_landCells 1 = .ok (.istore_n 1, 1) := by decide +kernel
theorem dX1_landCells_2 : decode cX1_landCells 2 = .ok (.iconst 0, 1) := by decide +kernel
theorem dX1_landCells_3 : decode cX1_landCells 3 = .ok (.istore_n 2, 1) := by decide +kernel
theorem dX1_landCells_4 : decode cX1_landCells 4 = .ok (.iload_n 2, 1) := by decide +kernel
theorem dX1_landCells_5 : decode cX1_landCells 5 = .ok (.aload_n 0, 1) := by decide +kernel
theorem dX1_landCells_6 : decode cX1_landCells 6 = .ok (.invokevirtual 55, 3) := by decide +kernel
theorem dX1_landCells_9 : decode cX1_landCells 9 = .ok (.if_icmp .ge 25, 3) := by decide +kernel
theorem dX1_landCells_12 : decode cX1_landCells 12 = .ok (.iload_n 1, 1) := by decide +kernel
theorem dX1_landCells_13 : decode cX1_landCells 13 = .ok (.aload_n 0, 1) := by decide +kernel
theorem dX1_landCells_14 : decode cX1_landCells 14 = .ok (.iload_n 2, 1) := by decide +kernel
theorem dX1_landCells_15 : decode cX1_landCells 15 = .ok (.invokevirtual 67, 3) := by decide +kernel
theorem dX1_landCells_18 : decode cX1_landCells 18 = .ok (.ifCond .eq 7, 3) := by decide +kernel
theorem dX1_landCells_21 : decode cX1_landCells 21 = .ok (.iconst 1, 1) := by decide +kernel
theorem dX1_landCells_22 : decode cX1_landCells 22 = .ok (.goto 4, 3) := by decide +kernel
theorem dX1_landCells_25 : decode cX1_landCells 25 = .ok (.iconst 0, 1) := by decide +kernel
theorem dX1_landCells_26 : decode cX1_landCells 26 = .ok (.iadd, 1) := by decide +kernel
theorem dX1_landCells_27 : decode cX1_landCells 27 = .ok (.istore_n 1, 1) := by decide +kernel
theorem dX1_landCells_28 : decode cX1_landCells 28 = .ok (.iinc 2 1, 3) := by decide +kernel
theorem dX1_landCells_31 : decode cX1_landCells 31 = .ok (.goto (-27), 3) := by decide +kernel
theorem dX1_landCells_34 : decode cX1_landCells 34 = .ok (.iload_n 1, 1) := by decide +kernel
theorem dX1_landCells_35 : decode cX1_landCells 35 = .ok (.ireturn, 1) := by decide +kernel
theorem dX1_freeCells_0 : decode cX1_freeCells 0 = .ok (.aload_n 0, 1) := by decide +kernel
theorem dX1_freeCells_1 : decode cX1_freeCells 1 = .ok (.invokevirtual 55, 3) := by decide +kernel
theorem dX1_freeCells_4 : decode cX1_freeCells 4 = .ok (.aload_n 0, 1) := by decide +kernel
theorem dX1_freeCells_5 : decode cX1_freeCells 5 = .ok (.invokevirtual 82, 3) := by decide +kernel
theorem dX1_freeCells_8 : decode cX1_freeCells 8 = .ok (.isub, 1) := by decide +kernel
theorem dX1_freeCells_9 : decode cX1_freeCells 9 = .ok (.aload_n 0, 1) := by decide +kernel
theorem dX1_freeCells_10 : decode cX1_freeCells 10 = .ok (.invokevirtual 85, 3) := by decide +kernel
theorem dX1_freeCells_13 : decode cX1_freeCells 13 = .ok (.isub, 1) := by decide +kernel
theorem dX1_freeCells_14 : decode cX1_freeCells 14 = .ok (.ireturn, 1) := by decide +kernel
theorem dX1_everybody_0 : decode cX1_everybody 0 = .ok (.iconst 0, 1) := by decide +kernel
theorem dX1_everybody_1 : decode cX1_everybody 1 = .ok (.istore_n 1, 1) := by decide +kernel
theorem dX1_everybody_2 : decode cX1_everybody 2 = .ok (.iconst 0, 1) := by decide +kernel
theorem dX1_everybody_3 : decode cX1_everybody 3 = .ok (.istore_n 2, 1) := by decide +kernel
theorem dX1_everybody_4 : decode cX1_everybody 4 = .ok (.iload_n 2, 1) := by decide +kernel
theorem dX1_everybody_5 : decode cX1_everybody 5 = .ok (.aload_n 0, 1) := by decide +kernel
theorem dX1_everybody_6 : decode cX1_everybody 6 = .ok (.getfield 18, 3) := by decide +kernel
theorem dX1_everybody_9 : decode cX1_everybody 9 = .ok (.if_icmp .ge 34, 3) := by decide +kernel
theorem dX1_everybody_12 : decode cX1_everybody 12 = .ok (.iconst 0, 1) := by decide +kernel
theorem dX1_everybody_13 : decode cX1_everybody 13 = .ok (.istore_n 3, 1) := by decide +kernel
theorem dX1_everybody_14 : decode cX1_everybody 14 = .ok (.iload_n 3, 1) := by decide +kernel
theorem dX1_everybody_15 : decode cX1_everybody 15 = .ok (.aload_n 0, 1) := by decide +kernel
theorem dX1_everybody_16 : decode cX1_everybody 16 = .ok (.getfield 21, 3) := by decide +kernel
theorem dX1_everybody_19 : decode cX1_everybody 19 = .ok (.if_icmp .ge 18, 3) := by decide +kernel
theorem dX1_everybody_22 : decode cX1_everybody 22 = .ok (.iload_n 1, 1) := by decide +kernel
theorem dX1_everybody_23 : decode cX1_everybody 23 = .ok (.aload_n 0, 1) := by decide +kernel
theorem dX1_everybody_24 : decode cX1_everybody 24 = .ok (.iload_n 2, 1) := by decide +kernel
theorem dX1_everybody_25 : decode cX1_everybody 25 = .ok (.iload_n 3, 1) := by decide +kernel
theorem dX1_everybody_26 : decode cX1_everybody 26 = .ok (.invokevirtual 88, 3) := by decide +kernel
theorem dX1_everybody_29 : decode cX1_everybody 29 = .ok (.iadd, 1) := by decide +kernel
theorem dX1_everybody_30 : decode cX1_everybody 30 = .ok (.istore_n 1, 1) := by decide +kernel
theorem dX1_everybody_31 : decode cX1_everybody 31 = .ok (.iinc 3 1, 3) := by decide +kernel
theorem dX1_everybody_34 : decode cX1_everybody 34 = .ok (.goto (-20), 3) := by decide +kernel
theorem dX1_everybody_37 : decode cX1_everybody 37 = .ok (.iinc 2 1, 3) := by decide +kernel
theorem dX1_everybody_40 : decode cX1_everybody 40 = .ok (.goto (-36), 3) := by decide +kernel
theorem dX1_everybody_43 : decode cX1_everybody 43 = .ok (.iload_n 1, 1) := by decide +kernel
theorem dX1_everybody_44 : decode cX1_everybody 44 = .ok (.ireturn, 1) := by decide +kernel
theorem dX1_shift_0 : decode cX1_shift 0 = .ok (.aload_n 0, 1) := by decide +kernel
theorem dX1_shift_1 : decode cX1_shift 1 = .ok (.iload_n 1, 1) := by decide +kernel
theorem dX1_shift_2 : decode cX1_shift 2 = .ok (.invokevirtual 91, 3) := by decide +kernel
theorem dX1_shift_5 : decode cX1_shift 5 = .ok (.istore 6, 2) := by decide +kernel
theorem dX1_shift_7 : decode cX1_shift 7 = .ok (.iconst 0, 1) := by decide +kernel
theorem dX1_shift_8 : decode cX1_shift 8 = .ok (.istore 7, 2) := by decide +kernel
theorem dX1_shift_10 : decode cX1_shift 10 = .ok (.iconst 0, 1) := by decide +kernel
theorem dX1_shift_11 : decode cX1_shift 11 = .ok (.istore 8, 2) := by decide +kernel
theorem dX1_shift_13 : decode cX1_shift 13 = .ok (.iload 4, 2) := by decide +kernel
theorem dX1_shift_15 : decode cX1_shift 15 = .ok (.istore 9, 2) := by decide +kernel
theorem dX1_shift_17 : decode cX1_shift 17 = .ok (.iload 9, 2) := by decide +kernel
theorem dX1_shift_19 : decode cX1_shift 19 = .ok (.iload 5, 2) := by decide +kernel
theorem dX1_shift_21 : decode cX1_shift 21 = .ok (.if_icmp .gt 62, 3) := by decide +kernel
theorem dX1_shift_24 : decode cX1_shift 24 = .ok (.iload_n 3, 1) := by decide +kernel
theorem dX1_shift_25 : decode cX1_shift 25 = .ok (.aload_n 0, 1) := by decide +kernel
theorem dX1_shift_26 : decode cX1_shift 26 = .ok (.getfield 9, 3) := by decide +kernel
theorem dX1_shift_29 : decode cX1_shift 29 = .ok (.imul, 1) := by decide +kernel
theorem dX1_shift_30 : decode cX1_shift 30 = .ok (.iload 9, 2) := by decide +kernel
theorem dX1_shift_32 : decode cX1_shift 32 = .ok (.iadd, 1) := by decide +kernel
theorem dX1_shift_33 : decode cX1_shift 33 = .ok (.istore 10, 2) := by decide +kernel
theorem dX1_shift_35 : decode cX1_shift 35 = .ok (.aload_n 0, 1) := by decide +kernel
theorem dX1_shift_36 : decode cX1_shift 36 = .ok (.getfield 24, 3) := by decide +kernel
theorem dX1_shift_39 : decode cX1_shift 39 = .ok (.iload 10, 2) := by decide +kernel
theorem dX1_shift_41 : decode cX1_shift 41 = .ok (.iaload, 1) := by decide +kernel
theorem dX1_shift_42 : decode cX1_shift 42 = .ok (.iload_n 1, 1) := by decide +kernel
theorem dX1_shift_43 : decode cX1_shift 43 = .ok (.if_icmp .ne 34, 3) := by decide +kernel
theorem dX1_shift_46 : decode cX1_shift 46 = .ok (.aload_n 0, 1) := by decide +kernel
theorem dX1_shift_47 : decode cX1_shift 47 = .ok (.getfield 24, 3) := by decide +kernel
theorem dX1_shift_50 : decode cX1_shift 50 = .ok (.iload 10, 2) := by decide +kernel
theorem dX1_shift_52 : decode cX1_shift 52 = .ok (.iload_n 2, 1) := by decide +kernel
theorem dX1_shift_53 : decode cX1_shift 53 = .ok (.iastore, 1) := by decide +kernel
theorem dX1_shift_54 : decode cX1_shift 54 = .ok (.iinc 7 1, 3) := by decide +kernel
theorem dX1_shift_57 : decode cX1_shift 57 = .ok (.iload 8, 2) := by decide +kernel
theorem dX1_shift_59 : decode cX1_shift 59 = .ok (.aload_n 0, 1) := by decide +kernel
theorem dX1_shift_60 : decode cX1_shift 60 = .ok (.getfield 28, 3) := by decide +kernel
theorem dX1_shift_63 : decode cX1_shift 63 = .ok (.iload 10, 2) := by decide +kernel
theorem dX1_shift_65 : decode cX1_shift 65 = .ok (.baload, 1) := by decide +kernel
theorem dX1_shift_66 : decode cX1_shift 66 = .ok (.ifCond .eq 7, 3) := by decide +kernel
theorem dX1_shift_69 : decode cX1_shift 69 = .ok (.iconst 0, 1) := by decide +kernel
theorem dX1_shift_70 : decode cX1_shift 70 = .ok (.goto 4, 3) := by decide +kernel
theorem dX1_shift_73 : decode cX1_shift 73 = .ok (.iconst 1, 1) := by decide +kernel
theorem dX1_shift_74 : decode cX1_shift 74 = .ok (.iadd, 1) := by decide +kernel
theorem dX1_shift_75 : decode cX1_shift 75 = .ok (.istore 8, 2) := by decide +kernel
theorem dX1_shift_77 : decode cX1_shift 77 = .ok (.iinc 9 1, 3) := by decide +kernel
theorem dX1_shift_80 : decode cX1_shift 80 = .ok (.goto (-63), 3) := by decide +kernel
theorem dX1_shift_83 : decode cX1_shift 83 = .ok (.iload 6, 2) := by decide +kernel
theorem dX1_shift_85 : decode cX1_shift 85 = .ok (.ifCond .le 70, 3) := by decide +kernel
theorem dX1_shift_88 : decode cX1_shift 88 = .ok (.iconst 0, 1) := by decide +kernel
theorem dX1_shift_89 : decode cX1_shift 89 = .ok (.istore 9, 2) := by decide +kernel
theorem dX1_shift_91 : decode cX1_shift 91 = .ok (.iload 9, 2) := by decide +kernel
theorem dX1_shift_93 : decode cX1_shift 93 = .ok (.aload_n 0, 1) := by decide +kernel
theorem dX1_shift_94 : decode cX1_shift 94 = .ok (.getfield 21, 3) := by decide +kernel
theorem dX1_shift_97 : decode cX1_shift 97 = .ok (.if_icmp .ge 58, 3) := by decide +kernel
theorem dX1_shift_100 : decode cX1_shift 100 = .ok (.aload_n 0, 1) := by decide +kernel
theorem dX1_shift_101 : decode cX1_shift 101 = .ok (.iload_n 1, 1) := by decide +kernel
theorem dX1_shift_102 : decode cX1_shift 102 = .ok (.iload 9, 2) := by decide +kernel
theorem dX1_shift_104 : decode cX1_shift 104 = .ok (.invokevirtual 88, 3) := by decide +kernel
theorem dX1_shift_107 : decode cX1_shift 107 = .ok (.iload 8, 2) := by decide +kernel
theorem dX1_shift_109 : decode cX1_shift 109 = .ok (.imul, 1) := by decide +kernel
theorem dX1_shift_110 : decode cX1_shift 110 = .ok (.iload 6, 2) := by decide +kernel
theorem dX1_shift_112 : decode cX1_shift 112 = .ok (.idiv, 1) := by decide +kernel
theorem dX1_shift_113 : decode cX1_shift 113 = .ok (.istore 10, 2) := by decide +kernel
theorem dX1_shift_115 : decode cX1_shift 115 = .ok (.aload_n 0, 1) := by decide +kernel
theorem dX1_shift_116 : decode cX1_shift 116 = .ok (.iload_n 1, 1) := by decide +kernel
theorem dX1_shift_117 : decode cX1_shift 117 = .ok (.iload 9, 2) := by decide +kernel
theorem dX1_shift_119 : decode cX1_shift 119 = .ok (.aload_n 0, 1) := by decide +kernel
theorem dX1_shift_120 : decode cX1_shift 120 = .ok (.iload_n 1, 1) := by decide +kernel
theorem dX1_shift_121 : decode cX1_shift 121 = .ok (.iload 9, 2) := by decide +kernel
theorem dX1_shift_123 : decode cX1_shift 123 = .ok (.invokevirtual 88, 3) := by decide +kernel
theorem dX1_shift_126 : decode cX1_shift 126 = .ok (.iload 10, 2) := by decide +kernel
theorem dX1_shift_128 : decode cX1_shift 128 = .ok (.isub, 1) := by decide +kernel
theorem dX1_shift_129 : decode cX1_shift 129 = .ok (.invokevirtual 95, 3) := by decide +kernel
theorem dX1_shift_132 : decode cX1_shift 132 = .ok (.aload_n 0, 1) := by decide +kernel
theorem dX1_shift_133 : decode cX1_shift 133 = .ok (.iload_n 2, 1) := by decide +kernel
theorem dX1_shift_134 : decode cX1_shift 134 = .ok (.iload 9, 2) := by decide +kernel
theorem dX1_shift_136 : decode cX1_shift 136 = .ok (.aload_n 0, 1) := by decide +kernel
theorem dX1_shift_137 : decode cX1_shift 137 = .ok (.iload_n 2, 1) := by decide +kernel
theorem dX1_shift_138 : decode cX1_shift 138 = .ok (.iload 9, 2) := by decide +kernel
theorem dX1_shift_140 : decode cX1_shift 140 = .ok (.invokevirtual 88, 3) := by decide +kernel
theorem dX1_shift_143 : decode cX1_shift 143 = .ok (.iload 10, 2) := by decide +kernel
theorem dX1_shift_145 : decode cX1_shift 145 = .ok (.iadd, 1) := by decide +kernel
theorem dX1_shift_146 : decode cX1_shift 146 = .ok (.invokevirtual 95, 3) := by decide +kernel
theorem dX1_shift_149 : decode cX1_shift 149 = .ok (.iinc 9 1, 3) := by decide +kernel
theorem dX1_shift_152 : decode cX1_shift 152 = .ok (.goto (-61), 3) := by decide +kernel
theorem dX1_shift_155 : decode cX1_shift 155 = .ok (.iload 7, 2) := by decide +kernel
theorem dX1_shift_157 : decode cX1_shift 157 = .ok (.ireturn, 1) := by decide +kernel
theorem dX1_join_0 : decode cX1_join 0 = .ok (.iconst 0, 1) := by decide +kernel
theorem dX1_join_1 : decode cX1_join 1 = .ok (.istore_n 3, 1) := by decide +kernel
theorem dX1_join_2 : decode cX1_join 2 = .ok (.iload_n 3, 1) := by decide +kernel
theorem dX1_join_3 : decode cX1_join 3 = .ok (.aload_n 0, 1) := by decide +kernel
theorem dX1_join_4 : decode cX1_join 4 = .ok (.invokevirtual 55, 3) := by decide +kernel
theorem dX1_join_7 : decode cX1_join 7 = .ok (.if_icmp .ge 26, 3) := by decide +kernel
theorem dX1_join_10 : decode cX1_join 10 = .ok (.aload_n 0, 1) := by decide +kernel
theorem dX1_join_11 : decode cX1_join 11 = .ok (.getfield 24, 3) := by decide +kernel
theorem dX1_join_14 : decode cX1_join 14 = .ok (.iload_n 3, 1) := by decide +kernel
theorem dX1_join_15 : decode cX1_join 15 = .ok (.iaload, 1) := by decide +kernel
theorem dX1_join_16 : decode cX1_join 16 = .ok (.iload_n 2, 1) := by decide +kernel
theorem dX1_join_17 : decode cX1_join 17 = .ok (.if_icmp .ne 10, 3) := by decide +kernel
theorem dX1_join_20 : decode cX1_join 20 = .ok (.aload_n 0, 1) := by decide +kernel
theorem dX1_join_21 : decode cX1_join 21 = .ok (.getfield 24, 3) := by decide +kernel
theorem dX1_join_24 : decode cX1_join 24 = .ok (.iload_n 3, 1) := by decide +kernel
theorem dX1_join_25 : decode cX1_join 25 = .ok (.iload_n 1, 1) := by decide +kernel
theorem dX1_join_26 : decode cX1_join 26 = .ok (.iastore, 1) := by decide +kernel
theorem dX1_join_27 : decode cX1_join 27 = .ok (.iinc 3 1, 3) := by decide +kernel
theorem dX1_join_30 : decode cX1_join 30 = .ok (.goto (-28), 3) := by decide +kernel
theorem dX1_join_33 : decode cX1_join 33 = .ok (.iconst 0, 1) := by decide +kernel
theorem dX1_join_34 : decode cX1_join 34 = .ok (.istore_n 3, 1) := by decide +kernel
theorem dX1_join_35 : decode cX1_join 35 = .ok (.iload_n 3, 1) := by decide +kernel
theorem dX1_join_36 : decode cX1_join 36 = .ok (.aload_n 0, 1) := by decide +kernel
theorem dX1_join_37 : decode cX1_join 37 = .ok (.getfield 21, 3) := by decide +kernel
theorem dX1_join_40 : decode cX1_join 40 = .ok (.if_icmp .ge 35, 3) := by decide +kernel
theorem dX1_join_43 : decode cX1_join 43 = .ok (.aload_n 0, 1) := by decide +kernel
theorem dX1_join_44 : decode cX1_join 44 = .ok (.iload_n 1, 1) := by decide +kernel
theorem dX1_join_45 : decode cX1_join 45 = .ok (.iload_n 3, 1) := by decide +kernel
theorem dX1_join_46 : decode cX1_join 46 = .ok (.aload_n 0, 1) := by decide +kernel
theorem dX1_join_47 : decode cX1_join 47 = .ok (.iload_n 1, 1) := by decide +kernel
theorem dX1_join_48 : decode cX1_join 48 = .ok (.iload_n 3, 1) := by decide +kernel
theorem dX1_join_49 : decode cX1_join 49 = .ok (.invokevirtual 88, 3) := by decide +kernel
theorem dX1_join_52 : decode cX1_join 52 = .ok (.aload_n 0, 1) := by decide +kernel
theorem dX1_join_53 : decode cX1_join 53 = .ok (.iload_n 2, 1) := by decide +kernel
theorem dX1_join_54 : decode cX1_join 54 = .ok (.iload_n 3, 1) := by decide +kernel
theorem dX1_join_55 : decode cX1_join 55 = .ok (.invokevirtual 88, 3) := by decide +kernel
theorem dX1_join_58 : decode cX1_join 58 = .ok (.iadd, 1) := by decide +kernel
theorem dX1_join_59 : decode cX1_join 59 = .ok (.invokevirtual 95, 3) := by decide +kernel
theorem dX1_join_62 : decode cX1_join 62 = .ok (.aload_n 0, 1) := by decide +kernel
theorem dX1_join_63 : decode cX1_join 63 = .ok (.iload_n 2, 1) := by decide +kernel
theorem dX1_join_64 : decode cX1_join 64 = .ok (.iload_n 3, 1) := by decide +kernel
theorem dX1_join_65 : decode cX1_join 65 = .ok (.iconst 0, 1) := by decide +kernel
theorem dX1_join_66 : decode cX1_join 66 = .ok (.invokevirtual 95, 3) := by decide +kernel
theorem dX1_join_69 : decode cX1_join 69 = .ok (.iinc 3 1, 3) := by decide +kernel
theorem dX1_join_72 : decode cX1_join 72 = .ok (.goto (-37), 3) := by decide +kernel
theorem dX1_join_75 : decode cX1_join 75 = .ok (.return_, 1) := by decide +kernel
theorem dX2_init_0 : decode cX2_init 0 = .ok (.aload_n 0, 1) := by decide +kernel
theorem dX2_init_1 : decode cX2_init 1 = .ok (.invokespecial 3, 3) := by decide +kernel
theorem dX2_init_4 : decode cX2_init 4 = .ok (.aload_n 0, 1) := by decide +kernel
theorem dX2_init_5 : decode cX2_init 5 = .ok (.iconst (-1), 1) := by decide +kernel
theorem dX2_init_6 : decode cX2_init 6 = .ok (.putfield 9, 3) := by decide +kernel
theorem dX2_init_9 : decode cX2_init 9 = .ok (.aload_n 0, 1) := by decide +kernel
theorem dX2_init_10 : decode cX2_init 10 = .ok (.iconst 0, 1) := by decide +kernel
theorem dX2_init_11 : decode cX2_init 11 = .ok (.putfield 15, 3) := by decide +kernel
theorem dX2_init_14 : decode cX2_init 14 = .ok (.aload_n 0, 1) := by decide +kernel
theorem dX2_init_15 : decode cX2_init 15 = .ok (.sipush 1152, 3) := by decide +kernel
theorem dX2_init_18 : decode cX2_init 18 = .ok (.newarray .int, 2) := by decide +kernel
theorem dX2_init_20 : decode cX2_init 20 = .ok (.putfield 18, 3) := by decide +kernel
theorem dX2_init_23 : decode cX2_init 23 = .ok (.aload_n 0, 1) := by decide +kernel
theorem dX2_init_24 : decode cX2_init 24 = .ok (.sipush 384, 3) := by decide +kernel
theorem dX2_init_27 : decode cX2_init 27 = .ok (.newarray .int, 2) := by decide +kernel
theorem dX2_init_29 : decode cX2_init 29 = .ok (.putfield 22, 3) := by decide +kernel
theorem dX2_init_32 : decode cX2_init 32 = .ok (.aload_n 0, 1) := by decide +kernel
theorem dX2_init_33 : decode cX2_init 33 = .ok (.sipush 384, 3) := by decide +kernel
theorem dX2_init_36 : decode cX2_init 36 = .ok (.newarray .int, 2) := by decide +kernel
theorem dX2_init_38 : decode cX2_init 38 = .ok (.putfield 25, 3) := by decide +kernel
theorem dX2_init_41 : decode cX2_init 41 = .ok (.aload_n 0, 1) := by decide +kernel
theorem dX2_init_42 : decode cX2_init 42 = .ok (.iconst 0, 1) := by decide +kernel
theorem dX2_init_43 : decode cX2_init 43 = .ok (.putfield 28, 3) := by decide +kernel
theorem dX2_init_46 : decode cX2_init 46 = .ok (.aload_n 0, 1) := by decide +kernel
theorem dX2_init_47 : decode cX2_init 47 = .ok (.new 31, 3) := by decide +kernel
theorem dX2_init_50 : decode cX2_init 50 = .ok (.dup, 1) := by decide +kernel
theorem dX2_init_51 : decode cX2_init 51 = .ok (.invokespecial 33, 3) := by decide +kernel
theorem dX2_init_54 : decode cX2_init 54 = .ok (.putfield 34, 3) := by decide +kernel
theorem dX2_init_57 : decode cX2_init 57 = .ok (.return_, 1) := by decide +kernel
theorem dX2_forget_0 : decode cX2_forget 0 = .ok (.aload_n 0, 1) := by decide +kernel
theorem dX2_forget_1 : decode cX2_forget 1 = .ok (.iconst (-1), 1) := by decide +kernel
theorem dX2_forget_2 : decode cX2_forget 2 = .ok (.putfield 9, 3) := by decide +kernel
theorem dX2_forget_5 : decode cX2_forget 5 = .ok (.return_, 1) := by decide +kernel
theorem dX2_isOf_0 : decode cX2_isOf 0 = .ok (.aload_n 0, 1) := by decide +kernel
theorem dX2_isOf_1 : decode cX2_isOf 1 = .ok (.getfield 9, 3) := by decide +kernel
theorem dX2_isOf_4 : decode cX2_isOf 4 = .ok (.iload_n 1, 1) := by decide +kernel
theorem dX2_isOf_5 : decode cX2_isOf 5 = .ok (.if_icmp .ne 7, 3) := by decide +kernel
theorem dX2_isOf_8 : decode cX2_isOf 8 = .ok (.iconst 1, 1) := by decide +kernel
theorem dX2_isOf_9 : decode cX2_isOf 9 = .ok (.goto 4, 3) := by decide +kernel
theorem dX2_isOf_12 : decode cX2_isOf 12 = .ok (.iconst 0, 1) := by decide +kernel
theorem dX2_isOf_13 : decode cX2_isOf 13 = .ok (.ireturn, 1) := by decide +kernel
theorem dX2_gather_0 : decode cX2_gather 0 = .ok (.aload_n 0, 1) := by decide +kernel
theorem dX2_gather_1 : decode cX2_gather 1 = .ok (.iload 4, 2) := by decide +kernel
theorem dX2_gather_3 : decode cX2_gather 3 = .ok (.putfield 9, 3) := by decide +kernel
theorem dX2_gather_6 : decode cX2_gather 6 = .ok (.aload_n 0, 1) := by decide +kernel
theorem dX2_gather_7 : decode cX2_gather 7 = .ok (.aload_n 1, 1) := by decide +kernel
theorem dX2_gather_8 : decode cX2_gather 8 = .ok (.invokevirtual 38, 3) := by decide +kernel
theorem dX2_gather_11 : decode cX2_gather 11 = .ok (.putfield 15, 3) := by decide +kernel
theorem dX2_gather_14 : decode cX2_gather 14 = .ok (.aload_n 0, 1) := by decide +kernel
theorem dX2_gather_15 : decode cX2_gather 15 = .ok (.getfield 18, 3) := by decide +kernel
theorem dX2_gather_18 : decode cX2_gather 18 = .ok (.iconst 0, 1) := by decide +kernel
theorem dX2_gather_19 : decode cX2_gather 19 = .ok (.invokestatic 43, 3) := by decide +kernel
theorem dX2_gather_22 : decode cX2_gather 22 = .ok (.iconst 0, 1) := by decide +kernel
theorem dX2_gather_23 : decode cX2_gather 23 = .ok (.istore 5, 2) := by decide +kernel
theorem dX2_gather_25 : decode cX2_gather 25 = .ok (.iload 5, 2) := by decide +kernel
theorem dX2_gather_27 : decode cX2_gather 27 = .ok (.aload_n 1, 1) := by decide +kernel
theorem dX2_gather_28 : decode cX2_gather 28 = .ok (.getfield 49, 3) := by decide +kernel
theorem dX2_gather_31 : decode cX2_gather 31 = .ok (.if_icmp .ge 41, 3) := by decide +kernel
theorem dX2_gather_34 : decode cX2_gather 34 = .ok (.iconst 0, 1) := by decide +kernel
theorem dX2_gather_35 : decode cX2_gather 35 = .ok (.istore 6, 2) := by decide +kernel
theorem dX2_gather_37 : decode cX2_gather 37 = .ok (.iload 6, 2) := by decide +kernel
theorem dX2_gather_39 : decode cX2_gather 39 = .ok (.aload_n 1, 1) := by decide +kernel
theorem dX2_gather_40 : decode cX2_gather 40 = .ok (.getfield 52, 3) := by decide +kernel
theorem dX2_gather_43 : decode cX2_gather 43 = .ok (.if_icmp .ge 23, 3) := by decide +kernel
theorem dX2_gather_46 : decode cX2_gather 46 = .ok (.aload_n 0, 1) := by decide +kernel
theorem dX2_gather_47 : decode cX2_gather 47 = .ok (.aload_n 1, 1) := by decide +kernel
theorem dX2_gather_48 : decode cX2_gather 48 = .ok (.getfield 52, 3) := by decide +kernel
theorem dX2_gather_51 : decode cX2_gather 51 = .ok (.aload_n 2, 1) := by decide +kernel
theorem dX2_gather_52 : decode cX2_gather 52 = .ok (.aload_n 3, 1) := by decide +kernel
theorem dX2_gather_53 : decode cX2_gather 53 = .ok (.iload 5, 2) := by decide +kernel
theorem dX2_gather_55 : decode cX2_gather 55 = .ok (.iload 6, 2) := by decide +kernel
theorem dX2_gather_57 : decode cX2_gather 57 = .ok (.invokevirtual 55, 3) := by decide +kernel
theorem dX2_gather_60 : decode cX2_gather 60 = .ok (.iinc 6 1, 3) := by decide +kernel
theorem dX2_gather_63 : decode cX2_gather 63 = .ok (.goto (-26), 3) := by decide +kernel
theorem dX2_gather_66 : decode cX2_gather 66 = .ok (.iinc 5 1, 3) := by decide +kernel
theorem dX2_gather_69 : decode cX2_gather 69 = .ok (.goto (-44), 3) := by decide +kernel
theorem dX2_gather_72 : decode cX2_gather 72 = .ok (.aload_n 0, 1) := by decide +kernel
theorem dX2_gather_73 : decode cX2_gather 73 = .ok (.invokevirtual 59, 3) := by decide +kernel
theorem dX2_gather_76 : decode cX2_gather 76 = .ok (.return_, 1) := by decide +kernel
theorem dX2_stand_0 : decode cX2_stand 0 = .ok (.aload_n 2, 1) := by decide +kernel
theorem dX2_stand_1 : decode cX2_stand 1 = .ok (.getfield 62, 3) := by decide +kernel
theorem dX2_stand_4 : decode cX2_stand 4 = .ok (.iload 4, 2) := by decide +kernel
theorem dX2_stand_6 : decode cX2_stand 6 = .ok (.iaload, 1) := by decide +kernel
theorem dX2_stand_7 : decode cX2_stand 7 = .ok (.istore 6, 2) := by decide +kernel
theorem dX2_stand_9 : decode cX2_stand 9 = .ok (.iload 6, 2) := by decide +kernel
theorem dX2_stand_11 : decode cX2_stand 11 = .ok (.iconst 1, 1) := by decide +kernel
theorem dX2_stand_12 : decode cX2_stand 12 = .ok (.if_icmp .lt 8, 3) := by decide +kernel
theorem dX2_stand_15 : decode cX2_stand 15 = .ok (.iload_n 1, 1) := by decide +kernel
theorem dX2_stand_16 : decode cX2_stand 16 = .ok (.iconst 1, 1) := by decide +kernel
theorem dX2_stand_17 : decode cX2_stand 17 = .ok (.if_icmp .ge 4, 3) := by decide +kernel
theorem dX2_stand_20 : decode cX2_stand 20 = .ok (.return_, 1) := by decide +kernel
theorem dX2_stand_21 : decode cX2_stand 21 = .ok (.aload_n 2, 1) := by decide +kernel
theorem dX2_stand_22 : decode cX2_stand 22 = .ok (.iload 4, 2) := by decide +kernel
theorem dX2_stand_24 : decode cX2_stand 24 = .ok (.iload 5, 2) := by decide +kernel
theorem dX2_stand_26 : decode cX2_stand 26 = .ok (.aload_n 0, 1) := by decide +kernel
theorem dX2_stand_27 : decode cX2_stand 27 = .ok (.getfield 9, 3) := by decide +kernel
theorem dX2_stand_30 : decode cX2_stand 30 = .ok (.invokevirtual 67, 3) := by decide +kernel
theorem dX2_stand_33 : decode cX2_stand 33 = .ok (.istore 7, 2) := by decide +kernel
theorem dX2_stand_35 : decode cX2_stand 35 = .ok (.iload 6, 2) := by decide +kernel
theorem dX2_stand_37 : decode cX2_stand 37 = .ok (.iload_n 1, 1) := by decide +kernel
theorem dX2_stand_38 : decode cX2_stand 38 = .ok (.irem, 1) := by decide +kernel
theorem dX2_stand_39 : decode cX2_stand 39 = .ok (.ifCond .ne 10, 3) := by decide +kernel
theorem dX2_stand_42 : decode cX2_stand 42 = .ok (.iload 6, 2) := by decide +kernel
theorem dX2_stand_44 : decode cX2_stand 44 = .ok (.iload_n 1, 1) := by decide +kernel
theorem dX2_stand_45 : decode cX2_stand 45 = .ok (.idiv, 1) := by decide +kernel
theorem dX2_stand_46 : decode cX2_stand 46 = .ok (.goto 5, 3) := by decide +kernel
theorem dX2_stand_49 : decode cX2_stand 49 = .ok (.iload 6, 2) := by decide +kernel
theorem dX2_stand_51 : decode cX2_stand 51 = .ok (.istore 8, 2) := by decide +kernel
theorem dX2_stand_53 : decode cX2_stand 53 = .ok (.iload 8, 2) := by decide +kernel
theorem dX2_stand_55 : decode cX2_stand 55 = .ok (.iconst 1, 1) := by decide +kernel
theorem dX2_stand_56 : decode cX2_stand 56 = .ok (.if_icmp .ge 4, 3) := by decide +kernel
theorem dX2_stand_59 : decode cX2_stand 59 = .ok (.return_, 1) := by decide +kernel
theorem dX2_stand_60 : decode cX2_stand 60 = .ok (.iconst 0, 1) := by decide +kernel
theorem dX2_stand_61 : decode cX2_stand 61 = .ok (.istore 9, 2) := by decide +kernel
theorem dX2_stand_63 : decode cX2_stand 63 = .ok (.iload 9, 2) := by decide +kernel
theorem dX2_stand_65 : decode cX2_stand 65 = .ok (.iload 8, 2) := by decide +kernel
theorem dX2_stand_67 : decode cX2_stand 67 = .ok (.if_icmp .ge 75, 3) := by decide +kernel
theorem dX2_stand_70 : decode cX2_stand 70 = .ok (.iload 9, 2) := by decide +kernel
theorem dX2_stand_72 : decode cX2_stand 72 = .ok (.iload 7, 2) := by decide +kernel
theorem dX2_stand_74 : decode cX2_stand 74 = .ok (.if_icmp .ge 68, 3) := by decide +kernel
theorem dX2_stand_77 : decode cX2_stand 77 = .ok (.aload_n 3, 1) := by decide +kernel
theorem dX2_stand_78 : decode cX2_stand 78 = .ok (.iload 4, 2) := by decide +kernel
theorem dX2_stand_80 : decode cX2_stand 80 = .ok (.iload 9, 2) := by decide +kernel
theorem dX2_stand_82 : decode cX2_stand 82 = .ok (.iload_n 1, 1) := by decide +kernel
theorem dX2_stand_83 : decode cX2_stand 83 = .ok (.imul, 1) := by decide +kernel
theorem dX2_stand_84 : decode cX2_stand 84 = .ok (.iload 5, 2) := by decide +kernel
theorem dX2_stand_86 : decode cX2_stand 86 = .ok (.iadd, 1) := by decide +kernel
theorem dX2_stand_87 : decode cX2_stand 87 = .ok (.iload 6, 2) := by decide +kernel
theorem dX2_stand_89 : decode cX2_stand 89 = .ok (.irem, 1) := by decide +kernel
theorem dX2_stand_90 : decode cX2_stand 90 = .ok (.invokevirtual 71, 3) := by decide +kernel
theorem dX2_stand_93 : decode cX2_stand 93 = .ok (.istore 10, 2) := by decide +kernel
theorem dX2_stand_95 : decode cX2_stand 95 = .ok (.iload 10, 2) := by decide +kernel
theorem dX2_stand_97 : decode cX2_stand 97 = .ok (.iconst (-1), 1) := by decide +kernel
theorem dX2_stand_98 : decode cX2_stand 98 = .ok (.if_icmp .eq 38, 3) := by decide +kernel
theorem dX2_stand_101 : decode cX2_stand 101 = .ok (.aload_n 0, 1) := by decide +kernel
theorem dX2_stand_102 : decode cX2_stand 102 = .ok (.getfield 18, 3) := by decide +kernel
theorem dX2_stand_105 : decode cX2_stand 105 = .ok (.iload 5, 2) := by decide +kernel
theorem dX2_stand_107 : decode cX2_stand 107 = .ok (.sipush 384, 3) := by decide +kernel
theorem dX2_stand_110 : decode cX2_stand 110 = .ok (.imul, 1) := by decide +kernel
theorem dX2_stand_111 : decode cX2_stand 111 = .ok (.iload 10, 2) := by decide +kernel
theorem dX2_stand_113 : decode cX2_stand 113 = .ok (.iadd, 1) := by decide +kernel
theorem dX2_stand_114 : decode cX2_stand 114 = .ok (.iload 7, 2) := by decide +kernel
theorem dX2_stand_116 : decode cX2_stand 116 = .ok (.iload 8, 2) := by decide +kernel
theorem dX2_stand_118 : decode cX2_stand 118 = .ok (.idiv, 1) := by decide +kernel
theorem dX2_stand_119 : decode cX2_stand 119 = .ok (.iload 9, 2) := by decide +kernel
theorem dX2_stand_121 : decode cX2_stand 121 = .ok (.iload 7, 2) := by decide +kernel
theorem dX2_stand_123 : decode cX2_stand 123 = .ok (.iload 8, 2) := by decide +kernel
theorem dX2_stand_125 : decode cX2_stand 125 = .ok (.irem, 1) := by decide +kernel
theorem dX2_stand_126 : decode cX2_stand 126 = .ok (.if_icmp .ge 7, 3) := by decide +kernel
theorem dX2_stand_129 : decode cX2_stand 129 = .ok (.iconst 1, 1) := by decide +kernel
theorem dX2_stand_130 : decode cX2_stand 130 = .ok (.goto 4, 3) := by decide +kernel
theorem dX2_stand_133 : decode cX2_stand 133 = .ok (.iconst 0, 1) := by decide +kernel
theorem dX2_stand_134 : decode cX2_stand 134 = .ok (.iadd, 1) := by decide +kernel
theorem dX2_stand_135 : decode cX2_stand 135 = .ok (.iastore, 1) := by decide +kernel
theorem dX2_stand_136 : decode cX2_stand 136 = .ok (.iinc 9 1, 3) := by decide +kernel
theorem dX2_stand_139 : decode cX2_stand 139 = .ok (.goto (-76), 3) := by decide +kernel
theorem dX2_stand_142 : decode cX2_stand 142 = .ok (.return_, 1) := by decide +kernel
theorem dX2_addUp_0 : decode cX2_addUp 0 = .ok (.aload_n 0, 1) := by decide +kernel
theorem dX2_addUp_1 : decode cX2_addUp 1 = .ok (.iconst 0, 1) := by decide +kernel
theorem dX2_addUp_2 : decode cX2_addUp 2 = .ok (.putfield 28, 3) := by decide +kernel
theorem dX2_addUp_5 : decode cX2_addUp 5 = .ok (.iconst 0, 1) := by decide +kernel
theorem dX2_addUp_6 : decode cX2_addUp 6 = .ok (.istore_n 1, 1) := by decide +kernel
theorem dX2_addUp_7 : decode cX2_addUp 7 = .ok (.iload_n 1, 1) := by decide +kernel
theorem dX2_addUp_8 : decode cX2_addUp 8 = .ok (.aload_n 0, 1) := by decide +kernel
theorem dX2_addUp_9 : decode cX2_addUp 9 = .ok (.getfield 15, 3) := by decide +kernel
theorem dX2_addUp_12 : decode cX2_addUp 12 = .ok (.if_icmp .ge 70, 3) := by decide +kernel
theorem dX2_addUp_15 : decode cX2_addUp 15 = .ok (.iconst 0, 1) := by decide +kernel
theorem dX2_addUp_16 : decode cX2_addUp 16 = .ok (.istore_n 2, 1) := by decide +kernel
theorem dX2_addUp_17 : decode cX2_addUp 17 = .ok (.iconst 0, 1) := by decide +kernel
theorem dX2_addUp_18 : decode cX2_addUp 18 = .ok (.istore_n 3, 1) := by decide +kernel
theorem dX2_addUp_19 : decode cX2_addUp 19 = .ok (.iload_n 3, 1) := by decide +kernel
theorem dX2_addUp_20 : decode cX2_addUp 20 = .ok (.iconst 3, 1) := by decide +kernel
theorem dX2_addUp_21 : decode cX2_addUp 21 = .ok (.if_icmp .ge 24, 3) := by decide +kernel
theorem dX2_addUp_24 : decode cX2_addUp 24 = .ok (.iload_n 2, 1) := by decide +kernel
theorem dX2_addUp_25 : decode cX2_addUp 25 = .ok (.aload_n 0, 1) := by decide +kernel
theorem dX2_addUp_26 : decode cX2_addUp 26 = .ok (.getfield 18, 3) := by decide +kernel
theorem dX2_addUp_29 : decode cX2_addUp 29 = .ok (.iload_n 3, 1) := by decide +kernel
theorem dX2_addUp_30 : decode cX2_addUp 30 = .ok (.sipush 384, 3) := by decide +kernel
theorem dX2_addUp_33 : decode cX2_addUp 33 = .ok (.imul, 1) := by decide +kernel
theorem dX2_addUp_34 : decode cX2_addUp 34 = .ok (.iload_n 1, 1) := by decide +kernel
theorem dX2_addUp_35 : decode cX2_addUp 35 = .ok (.iadd, 1) := by decide +kernel
theorem dX2_addUp_36 : decode cX2_addUp 36 = .ok (.iaload, 1) := by decide +kernel
theorem dX2_addUp_37 : decode cX2_addUp 37 = .ok (.iadd, 1) := by decide +kernel
theorem dX2_addUp_38 : decode cX2_addUp 38 = .ok (.istore_n 2, 1) := by decide +kernel
theorem dX2_addUp_39 : decode cX2_addUp 39 = .ok (.iinc 3 1, 3) := by decide +kernel
theorem dX2_addUp_42 : decode cX2_addUp 42 = .ok (.goto (-23), 3) := by decide +kernel
theorem dX2_addUp_45 : decode cX2_addUp 45 = .ok (.aload_n 0, 1) := by decide +kernel
theorem dX2_addUp_46 : decode cX2_addUp 46 = .ok (.getfield 22, 3) := by decide +kernel
theorem dX2_addUp_49 : decode cX2_addUp 49 = .ok (.iload_n 1, 1) := by decide +kernel
theorem dX2_addUp_50 : decode cX2_addUp 50 = .ok (.iload_n 2, 1) := by decide +kernel
theorem dX2_addUp_51 : decode cX2_addUp 51 = .ok (.iastore, 1) := by decide +kernel
theorem dX2_addUp_52 : decode cX2_addUp 52 = .ok (.iload_n 2, 1) := by decide +kernel
theorem dX2_addUp_53 : decode cX2_addUp 53 = .ok (.ifCond .le 23, 3) := by decide +kernel
theorem dX2_addUp_56 : decode cX2_addUp 56 = .ok (.aload_n 0, 1) := by decide +kernel
theorem dX2_addUp_57 : decode cX2_addUp 57 = .ok (.getfield 25, 3) := by decide +kernel
theorem dX2_addUp_60 : decode cX2_addUp 60 = .ok (.aload_n 0, 1) := by decide +kernel
theorem dX2_addUp_61 : decode cX2_addUp 61 = .ok (.getfield 28, 3) := by decide +kernel
theorem dX2_addUp_64 : decode cX2_addUp 64 = .ok (.iload_n 1, 1) := by decide +kernel
theorem dX2_addUp_65 : decode cX2_addUp 65 = .ok (.iastore, 1) := by decide +kernel
theorem dX2_addUp_66 : decode cX2_addUp 66 = .ok (.aload_n 0, 1) := by decide +kernel
theorem dX2_addUp_67 : decode cX2_addUp 67 = .ok (.dup, 1) := by decide +kernel
theorem dX2_addUp_68 : decode cX2_addUp 68 = .ok (.getfield 28, 3) := by decide +kernel
theorem dX2_addUp_71 : decode cX2_addUp 71 = .ok (.iconst 1, 1) := by decide +kernel
theorem dX2_addUp_72 : decode cX2_addUp 72 = .ok (.iadd, 1) := by decide +kernel
theorem dX2_addUp_73 : decode cX2_addUp 73 = .ok (.putfield 28, 3) := by decide +kernel
theorem dX2_addUp_76 : decode cX2_addUp 76 = .ok (.iinc 1 1, 3) := by decide +kernel
theorem dX2_addUp_79 : decode cX2_addUp 79 = .ok (.goto (-72), 3) := by decide +kernel
theorem dX2_addUp_82 : decode cX2_addUp 82 = .ok (.return_, 1) := by decide +kernel
theorem dX2_weightOf_0 : decode cX2_weightOf 0 = .ok (.iload_n 2, 1) := by decide +kernel
theorem dX2_weightOf_1 : decode cX2_weightOf 1 = .ok (.iconst (-1), 1) := by decide +kernel
theorem dX2_weightOf_2 : decode cX2_weightOf 2 = .ok (.if_icmp .ne 12, 3) := by decide +kernel
theorem dX2_weightOf_5 : decode cX2_weightOf 5 = .ok (.aload_n 0, 1) := by decide +kernel
theorem dX2_weightOf_6 : decode cX2_weightOf 6 = .ok (.getfield 22, 3) := by decide +kernel
theorem dX2_weightOf_9 : decode cX2_weightOf 9 = .ok (.iload_n 1, 1) := by decide +kernel
theorem dX2_weightOf_10 : decode cX2_weightOf 10 = .ok (.iaload, 1) := by decide +kernel
theorem dX2_weightOf_11 : decode cX2_weightOf 11 = .ok (.goto 15, 3) := by decide +kernel
theorem dX2_weightOf_14 : decode cX2_weightOf 14 = .ok (.aload_n 0, 1) := by decide +kernel
theorem dX2_weightOf_15 : decode cX2_weightOf 15 = .ok (.getfield 18, 3) := by decide +kernel
theorem dX2_weightOf_18 : decode cX2_weightOf 18 = .ok (.iload_n 2, 1) := by decide +kernel
theorem dX2_weightOf_19 : decode cX2_weightOf 19 = .ok (.sipush 384, 3) := by decide +kernel
theorem dX2_weightOf_22 : decode cX2_weightOf 22 = .ok (.imul, 1) := by decide +kernel
theorem dX2_weightOf_23 : decode cX2_weightOf 23 = .ok (.iload_n 1, 1) := by decide +kernel
theorem dX2_weightOf_24 : decode cX2_weightOf 24 = .ok (.iadd, 1) := by decide +kernel
theorem dX2_weightOf_25 : decode cX2_weightOf 25 = .ok (.iaload, 1) := by decide +kernel
theorem dX2_weightOf_26 : decode cX2_weightOf 26 = .ok (.ireturn, 1) := by decide +kernel
theorem dX2_moreThan_0 : decode cX2_moreThan 0 = .ok (.iconst 0, 1) := by decide +kernel
theorem dX2_moreThan_1 : decode cX2_moreThan 1 = .ok (.istore_n 3, 1) := by decide +kernel
theorem dX2_moreThan_2 : decode cX2_moreThan 2 = .ok (.iconst 0, 1) := by decide +kernel
theorem dX2_moreThan_3 : decode cX2_moreThan 3 = .ok (.istore 4, 2) := by decide +kernel
theorem dX2_moreThan_5 : decode cX2_moreThan 5 = .ok (.iload 4, 2) := by decide +kernel
theorem dX2_moreThan_7 : decode cX2_moreThan 7 = .ok (.aload_n 2, 1) := by decide +kernel
theorem dX2_moreThan_8 : decode cX2_moreThan 8 = .ok (.getfield 52, 3) := by decide +kernel
theorem dX2_moreThan_11 : decode cX2_moreThan 11 = .ok (.if_icmp .ge 51, 3) := by decide +kernel
theorem dX2_moreThan_14 : decode cX2_moreThan 14 = .ok (.iconst 0, 1) := by decide +kernel
theorem dX2_moreThan_15 : decode cX2_moreThan 15 = .ok (.istore 5, 2) := by decide +kernel
theorem dX2_moreThan_17 : decode cX2_moreThan 17 = .ok (.iload 5, 2) := by decide +kernel
theorem dX2_moreThan_19 : decode cX2_moreThan 19 = .ok (.aload_n 2, 1) := by decide +kernel
theorem dX2_moreThan_20 : decode cX2_moreThan 20 = .ok (.invokevirtual 38, 3) := by decide +kernel
theorem dX2_moreThan_23 : decode cX2_moreThan 23 = .ok (.if_icmp .ge 33, 3) := by decide +kernel
theorem dX2_moreThan_26 : decode cX2_moreThan 26 = .ok (.iload_n 3, 1) := by decide +kernel
theorem dX2_moreThan_27 : decode cX2_moreThan 27 = .ok (.iconst 0, 1) := by decide +kernel
theorem dX2_moreThan_28 : decode cX2_moreThan 28 = .ok (.aload_n 0, 1) := by decide +kernel
theorem dX2_moreThan_29 : decode cX2_moreThan 29 = .ok (.iload 5, 2) := by decide +kernel
theorem dX2_moreThan_31 : decode cX2_moreThan 31 = .ok (.iload 4, 2) := by decide +kernel
theorem dX2_moreThan_33 : decode cX2_moreThan 33 = .ok (.invokevirtual 77, 3) := by decide +kernel
theorem dX2_moreThan_36 : decode cX2_moreThan 36 = .ok (.aload_n 1, 1) := by decide +kernel
theorem dX2_moreThan_37 : decode cX2_moreThan 37 = .ok (.iload 5, 2) := by decide +kernel
theorem dX2_moreThan_39 : decode cX2_moreThan 39 = .ok (.iload 4, 2) := by decide +kernel
theorem dX2_moreThan_41 : decode cX2_moreThan 41 = .ok (.invokevirtual 77, 3) := by decide +kernel
theorem dX2_moreThan_44 : decode cX2_moreThan 44 = .ok (.isub, 1) := by decide +kernel
theorem dX2_moreThan_45 : decode cX2_moreThan 45 = .ok (.invokestatic 80, 3) := by decide +kernel
theorem dX2_moreThan_48 : decode cX2_moreThan 48 = .ok (.iadd, 1) := by decide +kernel
theorem dX2_moreThan_49 : decode cX2_moreThan 49 = .ok (.istore_n 3, 1) := by decide +kernel
theorem dX2_moreThan_50 : decode cX2_moreThan 50 = .ok (.iinc 5 1, 3) := by decide +kernel
theorem dX2_moreThan_53 : decode cX2_moreThan 53 = .ok (.goto (-36), 3) := by decide +kernel
theorem dX2_moreThan_56 : decode cX2_moreThan 56 = .ok (.iinc 4 1, 3) := by decide +kernel
theorem dX2_moreThan_59 : decode cX2_moreThan 59 = .ok (.goto (-54), 3) := by decide +kernel
theorem dX2_moreThan_62 : decode cX2_moreThan 62 = .ok (.iload_n 3, 1) := by decide +kernel
theorem dX2_moreThan_63 : decode cX2_moreThan 63 = .ok (.ireturn, 1) := by decide +kernel
theorem dX2_leastGap_0 : decode cX2_leastGap 0 = .ok (.iconst (-1), 1) := by decide +kernel
theorem dX2_leastGap_1 : decode cX2_leastGap 1 = .ok (.istore_n 2, 1) := by decide +kernel
theorem dX2_leastGap_2 : decode cX2_leastGap 2 = .ok (.iconst 0, 1) := by decide +kernel
theorem dX2_leastGap_3 : decode cX2_leastGap 3 = .ok (.istore_n 3, 1) := by decide +kernel
theorem dX2_leastGap_4 : decode cX2_leastGap 4 = .ok (.iload_n 3, 1) := by decide +kernel
theorem dX2_leastGap_5 : decode cX2_leastGap 5 = .ok (.aload_n 0, 1) := by decide +kernel
theorem dX2_leastGap_6 : decode cX2_leastGap 6 = .ok (.getfield 28, 3) := by decide +kernel
theorem dX2_leastGap_9 : decode cX2_leastGap 9 = .ok (.if_icmp .ge 67, 3) := by decide +kernel
theorem dX2_leastGap_12 : decode cX2_leastGap 12 = .ok (.iload_n 2, 1) := by decide +kernel
theorem dX2_leastGap_13 : decode cX2_leastGap 13 = .ok (.iconst 1, 1) := by decide +kernel
theorem dX2_leastGap_14 : decode cX2_leastGap 14 = .ok (.if_icmp .eq 62, 3) := by decide +kernel
theorem dX2_leastGap_17 : decode cX2_leastGap 17 = .ok (.iload_n 3, 1) := by decide +kernel
theorem dX2_leastGap_18 : decode cX2_leastGap 18 = .ok (.iconst 1, 1) := by decide +kernel
theorem dX2_leastGap_19 : decode cX2_leastGap 19 = .ok (.iadd, 1) := by decide +kernel
theorem dX2_leastGap_20 : decode cX2_leastGap 20 = .ok (.istore 4, 2) := by decide +kernel
theorem dX2_leastGap_22 : decode cX2_leastGap 22 = .ok (.iload 4, 2) := by decide +kernel
theorem dX2_leastGap_24 : decode cX2_leastGap 24 = .ok (.aload_n 0, 1) := by decide +kernel
theorem dX2_leastGap_25 : decode cX2_leastGap 25 = .ok (.getfield 28, 3) := by decide +kernel
theorem dX2_leastGap_28 : decode cX2_leastGap 28 = .ok (.if_icmp .ge 42, 3) := by decide +kernel
theorem dX2_leastGap_31 : decode cX2_leastGap 31 = .ok (.aload_n 1, 1) := by decide +kernel
theorem dX2_leastGap_32 : decode cX2_leastGap 32 = .ok (.aload_n 0, 1) := by decide +kernel
theorem dX2_leastGap_33 : decode cX2_leastGap 33 = .ok (.getfield 25, 3) := by decide +kernel
theorem dX2_leastGap_36 : decode cX2_leastGap 36 = .ok (.iload_n 3, 1) := by decide +kernel
theorem dX2_leastGap_37 : decode cX2_leastGap 37 = .ok (.iaload, 1) := by decide +kernel
theorem dX2_leastGap_38 : decode cX2_leastGap 38 = .ok (.aload_n 0, 1) := by decide +kernel
theorem dX2_leastGap_39 : decode cX2_leastGap 39 = .ok (.getfield 25, 3) := by decide +kernel
theorem dX2_leastGap_42 : decode cX2_leastGap 42 = .ok (.iload 4, 2) := by decide +kernel
theorem dX2_leastGap_44 : decode cX2_leastGap 44 = .ok (.iaload, 1) := by decide +kernel
theorem dX2_leastGap_45 : decode cX2_leastGap 45 = .ok (.invokevirtual 85, 3) := by decide +kernel
theorem dX2_leastGap_48 : decode cX2_leastGap 48 = .ok (.istore 5, 2) := by decide +kernel
theorem dX2_leastGap_50 : decode cX2_leastGap 50 = .ok (.iload_n 2, 1) := by decide +kernel
theorem dX2_leastGap_51 : decode cX2_leastGap 51 = .ok (.iconst (-1), 1) := by decide +kernel
theorem dX2_leastGap_52 : decode cX2_leastGap 52 = .ok (.if_icmp .eq 9, 3) := by decide +kernel
theorem dX2_leastGap_55 : decode cX2_leastGap 55 = .ok (.iload 5, 2) := by decide +kernel
theorem dX2_leastGap_57 : decode cX2_leastGap 57 = .ok (.iload_n 2, 1) := by decide +kernel
theorem dX2_leastGap_58 : decode cX2_leastGap 58 = .ok (.if_icmp .ge 6, 3) := by decide +kernel
theorem dX2_leastGap_61 : decode cX2_leastGap 61 = .ok (.iload 5, 2) := by decide +kernel
theorem dX2_leastGap_63 : decode cX2_leastGap 63 = .ok (.istore_n 2, 1) := by decide +kernel
theorem dX2_leastGap_64 : decode cX2_leastGap 64 = .ok (.iinc 4 1, 3) := by decide +kernel
theorem dX2_leastGap_67 : decode cX2_leastGap 67 = .ok (.goto (-45), 3) := by decide +kernel
theorem dX2_leastGap_70 : decode cX2_leastGap 70 = .ok (.iinc 3 1, 3) := by decide +kernel
theorem dX2_leastGap_73 : decode cX2_leastGap 73 = .ok (.goto (-69), 3) := by decide +kernel
theorem dX2_leastGap_76 : decode cX2_leastGap 76 = .ok (.iload_n 2, 1) := by decide +kernel
theorem dX2_leastGap_77 : decode cX2_leastGap 77 = .ok (.ireturn, 1) := by decide +kernel
theorem dX2_gauge_0 : decode cX2_gauge 0 = .ok (.iload_n 3, 1) := by decide +kernel
theorem dX2_gauge_1 : decode cX2_gauge 1 = .ok (.tableswitch 77 0 3 #[31, 38, 47, 70], 31) := by decide +kernel
theorem dX2_gauge_32 : decode cX2_gauge 32 = .ok (.aload_n 0, 1) := by decide +kernel
theorem dX2_gauge_33 : decode cX2_gauge 33 = .ok (.getfield 22, 3) := by decide +kernel
theorem dX2_gauge_36 : decode cX2_gauge 36 = .ok (.iload_n 2, 1) := by decide +kernel
theorem dX2_gauge_37 : decode cX2_gauge 37 = .ok (.iaload, 1) := by decide +kernel
theorem dX2_gauge_38 : decode cX2_gauge 38 = .ok (.ireturn, 1) := by decide +kernel
theorem dX2_gauge_39 : decode cX2_gauge 39 = .ok (.aload_n 0, 1) := by decide +kernel
theorem dX2_gauge_40 : decode cX2_gauge 40 = .ok (.aload_n 1, 1) := by decide +kernel
theorem dX2_gauge_41 : decode cX2_gauge 41 = .ok (.iload_n 2, 1) := by decide +kernel
theorem dX2_gauge_42 : decode cX2_gauge 42 = .ok (.iload 4, 2) := by decide +kernel
theorem dX2_gauge_44 : decode cX2_gauge 44 = .ok (.invokevirtual 88, 3) := by decide +kernel
theorem dX2_gauge_47 : decode cX2_gauge 47 = .ok (.ireturn, 1) := by decide +kernel
theorem dX2_gauge_48 : decode cX2_gauge 48 = .ok (.aload_n 0, 1) := by decide +kernel
theorem dX2_gauge_49 : decode cX2_gauge 49 = .ok (.getfield 28, 3) := by decide +kernel
theorem dX2_gauge_52 : decode cX2_gauge 52 = .ok (.ifCond .ne 7, 3) := by decide +kernel
theorem dX2_gauge_55 : decode cX2_gauge 55 = .ok (.iconst (-1), 1) := by decide +kernel
theorem dX2_gauge_56 : decode cX2_gauge 56 = .ok (.goto 14, 3) := by decide +kernel
theorem dX2_gauge_59 : decode cX2_gauge 59 = .ok (.aload_n 1, 1) := by decide +kernel
theorem dX2_gauge_60 : decode cX2_gauge 60 = .ok (.iload_n 2, 1) := by decide +kernel
theorem dX2_gauge_61 : decode cX2_gauge 61 = .ok (.aload_n 0, 1) := by decide +kernel
theorem dX2_gauge_62 : decode cX2_gauge 62 = .ok (.aload_n 1, 1) := by decide +kernel
theorem dX2_gauge_63 : decode cX2_gauge 63 = .ok (.iload_n 2, 1) := by decide +kernel
theorem dX2_gauge_64 : decode cX2_gauge 64 = .ok (.invokevirtual 92, 3) := by decide +kernel
theorem dX2_gauge_67 : decode cX2_gauge 67 = .ok (.invokevirtual 85, 3) := by decide +kernel
theorem dX2_gauge_70 : decode cX2_gauge 70 = .ok (.ireturn, 1) := by decide +kernel
theorem dX2_gauge_71 : decode cX2_gauge 71 = .ok (.aload_n 0, 1) := by decide +kernel
theorem dX2_gauge_72 : decode cX2_gauge 72 = .ok (.aload_n 1, 1) := by decide +kernel
theorem dX2_gauge_73 : decode cX2_gauge 73 = .ok (.iload_n 2, 1) := by decide +kernel
theorem dX2_gauge_74 : decode cX2_gauge 74 = .ok (.invokevirtual 96, 3) := by decide +kernel
theorem dX2_gauge_77 : decode cX2_gauge 77 = .ok (.ireturn, 1) := by decide +kernel
theorem dX2_gauge_78 : decode cX2_gauge 78 = .ok (.aload_n 0, 1) := by decide +kernel
theorem dX2_gauge_79 : decode cX2_gauge 79 = .ok (.aload_n 1, 1) := by decide +kernel
theorem dX2_gauge_80 : decode cX2_gauge 80 = .ok (.iload_n 2, 1) := by decide +kernel
theorem dX2_gauge_81 : decode cX2_gauge 81 = .ok (.invokevirtual 99, 3) := by decide +kernel
theorem dX2_gauge_84 : decode cX2_gauge 84 = .ok (.ireturn, 1) := by decide +kernel
theorem dX2_sumWithin_0 : decode cX2_sumWithin 0 = .ok (.iconst 0, 1) := by decide +kernel
theorem dX2_sumWithin_1 : decode cX2_sumWithin 1 = .ok (.istore 4, 2) := by decide +kernel
theorem dX2_sumWithin_3 : decode cX2_sumWithin 3 = .ok (.iconst 0, 1) := by decide +kernel
theorem dX2_sumWithin_4 : decode cX2_sumWithin 4 = .ok (.istore 5, 2) := by decide +kernel
theorem dX2_sumWithin_6 : decode cX2_sumWithin 6 = .ok (.iload 5, 2) := by decide +kernel
theorem dX2_sumWithin_8 : decode cX2_sumWithin 8 = .ok (.aload_n 0, 1) := by decide +kernel
theorem dX2_sumWithin_9 : decode cX2_sumWithin 9 = .ok (.getfield 28, 3) := by decide +kernel
theorem dX2_sumWithin_12 : decode cX2_sumWithin 12 = .ok (.if_icmp .ge 42, 3) := by decide +kernel
theorem dX2_sumWithin_15 : decode cX2_sumWithin 15 = .ok (.aload_n 1, 1) := by decide +kernel
theorem dX2_sumWithin_16 : decode cX2_sumWithin 16 = .ok (.iload_n 2, 1) := by decide +kernel
theorem dX2_sumWithin_17 : decode cX2_sumWithin 17 = .ok (.aload_n 0, 1) := by decide +kernel
theorem dX2_sumWithin_18 : decode cX2_sumWithin 18 = .ok (.getfield 25, 3) := by decide +kernel
theorem dX2_sumWithin_21 : decode cX2_sumWithin 21 = .ok (.iload 5, 2) := by decide +kernel
theorem dX2_sumWithin_23 : decode cX2_sumWithin 23 = .ok (.iaload, 1) := by decide +kernel
theorem dX2_sumWithin_24 : decode cX2_sumWithin 24 = .ok (.invokevirtual 85, 3) := by decide +kernel
theorem dX2_sumWithin_27 : decode cX2_sumWithin 27 = .ok (.iload_n 3, 1) := by decide +kernel
theorem dX2_sumWithin_28 : decode cX2_sumWithin 28 = .ok (.if_icmp .gt 20, 3) := by decide +kernel
theorem dX2_sumWithin_31 : decode cX2_sumWithin 31 = .ok (.iload 4, 2) := by decide +kernel
theorem dX2_sumWithin_33 : decode cX2_sumWithin 33 = .ok (.aload_n 0, 1) := by decide +kernel
theorem dX2_sumWithin_34 : decode cX2_sumWithin 34 = .ok (.getfield 22, 3) := by decide +kernel
theorem dX2_sumWithin_37 : decode cX2_sumWithin 37 = .ok (.aload_n 0, 1) := by decide +kernel
theorem dX2_sumWithin_38 : decode cX2_sumWithin 38 = .ok (.getfield 25, 3) := by decide +kernel
theorem dX2_sumWithin_41 : decode cX2_sumWithin 41 = .ok (.iload 5, 2) := by decide +kernel
theorem dX2_sumWithin_43 : decode cX2_sumWithin 43 = .ok (.iaload, 1) := by decide +kernel
theorem dX2_sumWithin_44 : decode cX2_sumWithin 44 = .ok (.iaload, 1) := by decide +kernel
theorem dX2_sumWithin_45 : decode cX2_sumWithin 45 = .ok (.iadd, 1) := by decide +kernel
theorem dX2_sumWithin_46 : decode cX2_sumWithin 46 = .ok (.istore 4, 2) := by decide +kernel
theorem dX2_sumWithin_48 : decode cX2_sumWithin 48 = .ok (.iinc 5 1, 3) := by decide +kernel
theorem dX2_sumWithin_51 : decode cX2_sumWithin 51 = .ok (.goto (-45), 3) := by decide +kernel
theorem dX2_sumWithin_54 : decode cX2_sumWithin 54 = .ok (.iload 4, 2) := by decide +kernel
theorem dX2_sumWithin_56 : decode cX2_sumWithin 56 = .ok (.ireturn, 1) := by decide +kernel
theorem dX2_farToSea_0 : decode cX2_farToSea 0 = .ok (.iconst (-1), 1) := by decide +kernel
theorem dX2_farToSea_1 : decode cX2_farToSea 1 = .ok (.istore_n 3, 1) := by decide +kernel
theorem dX2_farToSea_2 : decode cX2_farToSea 2 = .ok (.iconst 0, 1) := by decide +kernel
theorem dX2_farToSea_3 : decode cX2_farToSea 3 = .ok (.istore 4, 2) := by decide +kernel
theorem dX2_farToSea_5 : decode cX2_farToSea 5 = .ok (.iload 4, 2) := by decide +kernel
theorem dX2_farToSea_7 : decode cX2_farToSea 7 = .ok (.aload_n 0, 1) := by decide +kernel
theorem dX2_farToSea_8 : decode cX2_farToSea 8 = .ok (.getfield 15, 3) := by decide +kernel
theorem dX2_farToSea_11 : decode cX2_farToSea 11 = .ok (.if_icmp .ge 42, 3) := by decide +kernel
theorem dX2_farToSea_14 : decode cX2_farToSea 14 = .ok (.aload_n 1, 1) := by decide +kernel
theorem dX2_farToSea_15 : decode cX2_farToSea 15 = .ok (.getfield 102, 3) := by decide +kernel
theorem dX2_farToSea_18 : decode cX2_farToSea 18 = .ok (.iload 4, 2) := by decide +kernel
theorem dX2_farToSea_20 : decode cX2_farToSea 20 = .ok (.baload, 1) := by decide +kernel
theorem dX2_farToSea_21 : decode cX2_farToSea 21 = .ok (.ifCond .eq 26, 3) := by decide +kernel
theorem dX2_farToSea_24 : decode cX2_farToSea 24 = .ok (.aload_n 1, 1) := by decide +kernel
theorem dX2_farToSea_25 : decode cX2_farToSea 25 = .ok (.iload_n 2, 1) := by decide +kernel
theorem dX2_farToSea_26 : decode cX2_farToSea 26 = .ok (.iload 4, 2) := by decide +kernel
theorem dX2_farToSea_28 : decode cX2_farToSea 28 = .ok (.invokevirtual 85, 3) := by decide +kernel
theorem dX2_farToSea_31 : decode cX2_farToSea 31 = .ok (.istore 5, 2) := by decide +kernel
theorem dX2_farToSea_33 : decode cX2_farToSea 33 = .ok (.iload_n 3, 1) := by decide +kernel
theorem dX2_farToSea_34 : decode cX2_farToSea 34 = .ok (.iconst (-1), 1) := by decide +kernel
theorem dX2_farToSea_35 : decode cX2_farToSea 35 = .ok (.if_icmp .eq 9, 3) := by decide +kernel
theorem dX2_farToSea_38 : decode cX2_farToSea 38 = .ok (.iload 5, 2) := by decide +kernel
theorem dX2_farToSea_40 : decode cX2_farToSea 40 = .ok (.iload_n 3, 1) := by decide +kernel
theorem dX2_farToSea_41 : decode cX2_farToSea 41 = .ok (.if_icmp .ge 6, 3) := by decide +kernel
theorem dX2_farToSea_44 : decode cX2_farToSea 44 = .ok (.iload 5, 2) := by decide +kernel
theorem dX2_farToSea_46 : decode cX2_farToSea 46 = .ok (.istore_n 3, 1) := by decide +kernel
theorem dX2_farToSea_47 : decode cX2_farToSea 47 = .ok (.iinc 4 1, 3) := by decide +kernel
theorem dX2_farToSea_50 : decode cX2_farToSea 50 = .ok (.goto (-45), 3) := by decide +kernel
theorem dX2_farToSea_53 : decode cX2_farToSea 53 = .ok (.iload_n 3, 1) := by decide +kernel
theorem dX2_farToSea_54 : decode cX2_farToSea 54 = .ok (.ireturn, 1) := by decide +kernel
theorem dX2_spotsInLine_0 : decode cX2_spotsInLine 0 = .ok (.iconst 0, 1) := by decide +kernel
theorem dX2_spotsInLine_1 : decode cX2_spotsInLine 1 = .ok (.istore_n 3, 1) := by decide +kernel
theorem dX2_spotsInLine_2 : decode cX2_spotsInLine 2 = .ok (.iconst 0, 1) := by decide +kernel
theorem dX2_spotsInLine_3 : decode cX2_spotsInLine 3 = .ok (.istore 4, 2) := by decide +kernel
theorem dX2_spotsInLine_5 : decode cX2_spotsInLine 5 = .ok (.iload 4, 2) := by decide +kernel
theorem dX2_spotsInLine_7 : decode cX2_spotsInLine 7 = .ok (.aload_n 0, 1) := by decide +kernel
theorem dX2_spotsInLine_8 : decode cX2_spotsInLine 8 = .ok (.getfield 28, 3) := by decide +kernel
theorem dX2_spotsInLine_11 : decode cX2_spotsInLine 11 = .ok (.if_icmp .ge 70, 3) := by decide +kernel
theorem dX2_spotsInLine_14 : decode cX2_spotsInLine 14 = .ok (.aload_n 0, 1) := by decide +kernel
theorem dX2_spotsInLine_15 : decode cX2_spotsInLine 15 = .ok (.getfield 25, 3) := by decide +kernel
theorem dX2_spotsInLine_18 : decode cX2_spotsInLine 18 = .ok (.iload 4, 2) := by decide +kernel
theorem dX2_spotsInLine_20 : decode cX2_spotsInLine 20 = .ok (.iaload, 1) := by decide +kernel
theorem dX2_spotsInLine_21 : decode cX2_spotsInLine 21 = .ok (.istore 5, 2) := by decide +kernel
theorem dX2_spotsInLine_23 : decode cX2_spotsInLine 23 = .ok (.aload_n 1, 1) := by decide +kernel
theorem dX2_spotsInLine_24 : decode cX2_spotsInLine 24 = .ok (.getfield 106, 3) := by decide +kernel
theorem dX2_spotsInLine_27 : decode cX2_spotsInLine 27 = .ok (.iload 5, 2) := by decide +kernel
theorem dX2_spotsInLine_29 : decode cX2_spotsInLine 29 = .ok (.iaload, 1) := by decide +kernel
theorem dX2_spotsInLine_30 : decode cX2_spotsInLine 30 = .ok (.aload_n 1, 1) := by decide +kernel
theorem dX2_spotsInLine_31 : decode cX2_spotsInLine 31 = .ok (.getfield 106, 3) := by decide +kernel
theorem dX2_spotsInLine_34 : decode cX2_spotsInLine 34 = .ok (.iload_n 2, 1) := by decide +kernel
theorem dX2_spotsInLine_35 : decode cX2_spotsInLine 35 = .ok (.iaload, 1) := by decide +kernel
theorem dX2_spotsInLine_36 : decode cX2_spotsInLine 36 = .ok (.if_icmp .eq 19, 3) := by decide +kernel
theorem dX2_spotsInLine_39 : decode cX2_spotsInLine 39 = .ok (.aload_n 1, 1) := by decide +kernel
theorem dX2_spotsInLine_40 : decode cX2_spotsInLine 40 = .ok (.getfield 109, 3) := by decide +kernel
theorem dX2_spotsInLine_43 : decode cX2_spotsInLine 43 = .ok (.iload 5, 2) := by decide +kernel
theorem dX2_spotsInLine_45 : decode cX2_spotsInLine 45 = .ok (.iaload, 1) := by decide +kernel
theorem dX2_spotsInLine_46 : decode cX2_spotsInLine 46 = .ok (.aload_n 1, 1) := by decide +kernel
theorem dX2_spotsInLine_47 : decode cX2_spotsInLine 47 = .ok (.getfield 109, 3) := by decide +kernel
theorem dX2_spotsInLine_50 : decode cX2_spotsInLine 50 = .ok (.iload_n 2, 1) := by decide +kernel
theorem dX2_spotsInLine_51 : decode cX2_spotsInLine 51 = .ok (.iaload, 1) := by decide +kernel
theorem dX2_spotsInLine_52 : decode cX2_spotsInLine 52 = .ok (.if_icmp .ne 7, 3) := by decide +kernel
theorem dX2_spotsInLine_55 : decode cX2_spotsInLine 55 = .ok (.iconst 1, 1) := by decide +kernel
theorem dX2_spotsInLine_56 : decode cX2_spotsInLine 56 = .ok (.goto 4, 3) := by decide +kernel
theorem dX2_spotsInLine_59 : decode cX2_spotsInLine 59 = .ok (.iconst 0, 1) := by decide +kernel
theorem dX2_spotsInLine_60 : decode cX2_spotsInLine 60 = .ok (.istore 6, 2) := by decide +kernel
theorem dX2_spotsInLine_62 : decode cX2_spotsInLine 62 = .ok (.iload_n 3, 1) := by decide +kernel
theorem dX2_spotsInLine_63 : decode cX2_spotsInLine 63 = .ok (.iload 6, 2) := by decide +kernel
theorem dX2_spotsInLine_65 : decode cX2_spotsInLine 65 = .ok (.ifCond .eq 7, 3) := by decide +kernel
theorem dX2_spotsInLine_68 : decode cX2_spotsInLine 68 = .ok (.iconst 1, 1) := by decide +kernel
theorem dX2_spotsInLine_69 : decode cX2_spotsInLine 69 = .ok (.goto 4, 3) := by decide +kernel
theorem dX2_spotsInLine_72 : decode cX2_spotsInLine 72 = .ok (.iconst 0, 1) := by decide +kernel
theorem dX2_spotsInLine_73 : decode cX2_spotsInLine 73 = .ok (.iadd, 1) := by decide +kernel
theorem dX2_spotsInLine_74 : decode cX2_spotsInLine 74 = .ok (.istore_n 3, 1) := by decide +kernel
theorem dX2_spotsInLine_75 : decode cX2_spotsInLine 75 = .ok (.iinc 4 1, 3) := by decide +kernel
theorem dX2_spotsInLine_78 : decode cX2_spotsInLine 78 = .ok (.goto (-73), 3) := by decide +kernel
theorem dX2_spotsInLine_81 : decode cX2_spotsInLine 81 = .ok (.iload_n 3, 1) := by decide +kernel
theorem dX2_spotsInLine_82 : decode cX2_spotsInLine 82 = .ok (.ireturn, 1) := by decide +kernel
theorem dX2_topCell_0 : decode cX2_topCell 0 = .ok (.iconst (-1), 1) := by decide +kernel
theorem dX2_topCell_1 : decode cX2_topCell 1 = .ok (.istore 4, 2) := by decide +kernel
theorem dX2_topCell_3 : decode cX2_topCell 3 = .ok (.iconst 0, 1) := by decide +kernel
theorem dX2_topCell_4 : decode cX2_topCell 4 = .ok (.istore 5, 2) := by decide +kernel
theorem dX2_topCell_6 : decode cX2_topCell 6 = .ok (.iconst 0, 1) := by decide +kernel
theorem dX2_topCell_7 : decode cX2_topCell 7 = .ok (.istore 6, 2) := by decide +kernel
theorem dX2_topCell_9 : decode cX2_topCell 9 = .ok (.iload 6, 2) := by decide +kernel
theorem dX2_topCell_11 : decode cX2_topCell 11 = .ok (.aload_n 0, 1) := by decide +kernel
theorem dX2_topCell_12 : decode cX2_topCell 12 = .ok (.getfield 15, 3) := by decide +kernel
theorem dX2_topCell_15 : decode cX2_topCell 15 = .ok (.if_icmp .ge 50, 3) := by decide +kernel
theorem dX2_topCell_18 : decode cX2_topCell 18 = .ok (.aload_n 1, 1) := by decide +kernel
theorem dX2_topCell_19 : decode cX2_topCell 19 = .ok (.iload 6, 2) := by decide +kernel
theorem dX2_topCell_21 : decode cX2_topCell 21 = .ok (.invokevirtual 112, 3) := by decide +kernel
theorem dX2_topCell_24 : decode cX2_topCell 24 = .ok (.ifCond .eq 35, 3) := by decide +kernel
theorem dX2_topCell_27 : decode cX2_topCell 27 = .ok (.aload_n 0, 1) := by decide +kernel
theorem dX2_topCell_28 : decode cX2_topCell 28 = .ok (.aload_n 1, 1) := by decide +kernel
theorem dX2_topCell_29 : decode cX2_topCell 29 = .ok (.iload 6, 2) := by decide +kernel
theorem dX2_topCell_31 : decode cX2_topCell 31 = .ok (.iload_n 2, 1) := by decide +kernel
theorem dX2_topCell_32 : decode cX2_topCell 32 = .ok (.iload_n 3, 1) := by decide +kernel
theorem dX2_topCell_33 : decode cX2_topCell 33 = .ok (.invokevirtual 116, 3) := by decide +kernel
theorem dX2_topCell_36 : decode cX2_topCell 36 = .ok (.istore 7, 2) := by decide +kernel
theorem dX2_topCell_38 : decode cX2_topCell 38 = .ok (.iload 4, 2) := by decide +kernel
theorem dX2_topCell_40 : decode cX2_topCell 40 = .ok (.iconst (-1), 1) := by decide +kernel
theorem dX2_topCell_41 : decode cX2_topCell 41 = .ok (.if_icmp .eq 10, 3) := by decide +kernel
theorem dX2_topCell_44 : decode cX2_topCell 44 = .ok (.iload 7, 2) := by decide +kernel
theorem dX2_topCell_46 : decode cX2_topCell 46 = .ok (.iload 5, 2) := by decide +kernel
theorem dX2_topCell_48 : decode cX2_topCell 48 = .ok (.if_icmp .le 11, 3) := by decide +kernel
theorem dX2_topCell_51 : decode cX2_topCell 51 = .ok (.iload 6, 2) := by decide +kernel
theorem dX2_topCell_53 : decode cX2_topCell 53 = .ok (.istore 4, 2) := by decide +kernel
theorem dX2_topCell_55 : decode cX2_topCell 55 = .ok (.iload 7, 2) := by decide +kernel
theorem dX2_topCell_57 : decode cX2_topCell 57 = .ok (.istore 5, 2) := by decide +kernel
theorem dX2_topCell_59 : decode cX2_topCell 59 = .ok (.iinc 6 1, 3) := by decide +kernel
theorem dX2_topCell_62 : decode cX2_topCell 62 = .ok (.goto (-53), 3) := by decide +kernel
theorem dX2_topCell_65 : decode cX2_topCell 65 = .ok (.iload 4, 2) := by decide +kernel
theorem dX2_topCell_67 : decode cX2_topCell 67 = .ok (.ireturn, 1) := by decide +kernel
theorem dX2_nextSpot_0 : decode cX2_nextSpot 0 = .ok (.iconst (-1), 1) := by decide +kernel
theorem dX2_nextSpot_1 : decode cX2_nextSpot 1 = .ok (.istore_n 3, 1) := by decide +kernel
theorem dX2_nextSpot_2 : decode cX2_nextSpot 2 = .ok (.iconst 0, 1) := by decide +kernel
theorem dX2_nextSpot_3 : decode cX2_nextSpot 3 = .ok (.istore 4, 2) := by decide +kernel
theorem dX2_nextSpot_5 : decode cX2_nextSpot 5 = .ok (.iconst 0, 1) := by decide +kernel
theorem dX2_nextSpot_6 : decode cX2_nextSpot 6 = .ok (.istore 5, 2) := by decide +kernel
theorem dX2_nextSpot_8 : decode cX2_nextSpot 8 = .ok (.iload 5, 2) := by decide +kernel
theorem dX2_nextSpot_10 : decode cX2_nextSpot 10 = .ok (.aload_n 0, 1) := by decide +kernel
theorem dX2_nextSpot_11 : decode cX2_nextSpot 11 = .ok (.getfield 28, 3) := by decide +kernel
theorem dX2_nextSpot_14 : decode cX2_nextSpot 14 = .ok (.if_icmp .ge 47, 3) := by decide +kernel
theorem dX2_nextSpot_17 : decode cX2_nextSpot 17 = .ok (.aload_n 1, 1) := by decide +kernel
theorem dX2_nextSpot_18 : decode cX2_nextSpot 18 = .ok (.iload_n 2, 1) := by decide +kernel
theorem dX2_nextSpot_19 : decode cX2_nextSpot 19 = .ok (.aload_n 0, 1) := by decide +kernel
theorem dX2_nextSpot_20 : decode cX2_nextSpot 20 = .ok (.getfield 25, 3) := by decide +kernel
theorem dX2_nextSpot_23 : decode cX2_nextSpot 23 = .ok (.iload 5, 2) := by decide +kernel
theorem dX2_nextSpot_25 : decode cX2_nextSpot 25 = .ok (.iaload, 1) := by decide +kernel
theorem dX2_nextSpot_26 : decode cX2_nextSpot 26 = .ok (.invokevirtual 85, 3) := by decide +kernel
theorem dX2_nextSpot_29 : decode cX2_nextSpot 29 = .ok (.istore 6, 2) := by decide +kernel
theorem dX2_nextSpot_31 : decode cX2_nextSpot 31 = .ok (.iload_n 3, 1) := by decide +kernel
theorem dX2_nextSpot_32 : decode cX2_nextSpot 32 = .ok (.iconst (-1), 1) := by decide +kernel
theorem dX2_nextSpot_33 : decode cX2_nextSpot 33 = .ok (.if_icmp .eq 10, 3) := by decide +kernel
theorem dX2_nextSpot_36 : decode cX2_nextSpot 36 = .ok (.iload 6, 2) := by decide +kernel
theorem dX2_nextSpot_38 : decode cX2_nextSpot 38 = .ok (.iload 4, 2) := by decide +kernel
theorem dX2_nextSpot_40 : decode cX2_nextSpot 40 = .ok (.if_icmp .ge 15, 3) := by decide +kernel
theorem dX2_nextSpot_43 : decode cX2_nextSpot 43 = .ok (.aload_n 0, 1) := by decide +kernel
theorem dX2_nextSpot_44 : decode cX2_nextSpot 44 = .ok (.getfield 25, 3) := by decide +kernel
theorem dX2_nextSpot_47 : decode cX2_nextSpot 47 = .ok (.iload 5, 2) := by decide +kernel
theorem dX2_nextSpot_49 : decode cX2_nextSpot 49 = .ok (.iaload, 1) := by decide +kernel
theorem dX2_nextSpot_50 : decode cX2_nextSpot 50 = .ok (.istore_n 3, 1) := by decide +kernel
theorem dX2_nextSpot_51 : decode cX2_nextSpot 51 = .ok (.iload 6, 2) := by decide +kernel
theorem dX2_nextSpot_53 : decode cX2_nextSpot 53 = .ok (.istore 4, 2) := by decide +kernel
theorem dX2_nextSpot_55 : decode cX2_nextSpot 55 = .ok (.iinc 5 1, 3) := by decide +kernel
theorem dX2_nextSpot_58 : decode cX2_nextSpot 58 = .ok (.goto (-50), 3) := by decide +kernel
theorem dX2_nextSpot_61 : decode cX2_nextSpot 61 = .ok (.iload_n 3, 1) := by decide +kernel
theorem dX2_nextSpot_62 : decode cX2_nextSpot 62 = .ok (.ireturn, 1) := by decide +kernel
theorem dX2_clientsOf_0 : decode cX2_clientsOf 0 = .ok (.iconst 0, 1) := by decide +kernel
theorem dX2_clientsOf_1 : decode cX2_clientsOf 1 = .ok (.istore_n 3, 1) := by decide +kernel
theorem dX2_clientsOf_2 : decode cX2_clientsOf 2 = .ok (.iconst 0, 1) := by decide +kernel
theorem dX2_clientsOf_3 : decode cX2_clientsOf 3 = .ok (.istore 4, 2) := by decide +kernel
theorem dX2_clientsOf_5 : decode cX2_clientsOf 5 = .ok (.iload 4, 2) := by decide +kernel
theorem dX2_clientsOf_7 : decode cX2_clientsOf 7 = .ok (.aload_n 0, 1) := by decide +kernel
theorem dX2_clientsOf_8 : decode cX2_clientsOf 8 = .ok (.getfield 15, 3) := by decide +kernel
theorem dX2_clientsOf_11 : decode cX2_clientsOf 11 = .ok (.if_icmp .ge 41, 3) := by decide +kernel
theorem dX2_clientsOf_14 : decode cX2_clientsOf 14 = .ok (.aload_n 0, 1) := by decide +kernel
theorem dX2_clientsOf_15 : decode cX2_clientsOf 15 = .ok (.getfield 22, 3) := by decide +kernel
theorem dX2_clientsOf_18 : decode cX2_clientsOf 18 = .ok (.iload_n 2, 1) := by decide +kernel
theorem dX2_clientsOf_19 : decode cX2_clientsOf 19 = .ok (.iaload, 1) := by decide +kernel
theorem dX2_clientsOf_20 : decode cX2_clientsOf 20 = .ok (.ifCond .le 32, 3) := by decide +kernel
theorem dX2_clientsOf_23 : decode cX2_clientsOf 23 = .ok (.aload_n 1, 1) := by decide +kernel
theorem dX2_clientsOf_24 : decode cX2_clientsOf 24 = .ok (.iload 4, 2) := by decide +kernel
theorem dX2_clientsOf_26 : decode cX2_clientsOf 26 = .ok (.invokevirtual 112, 3) := by decide +kernel
theorem dX2_clientsOf_29 : decode cX2_clientsOf 29 = .ok (.ifCond .eq 17, 3) := by decide +kernel
theorem dX2_clientsOf_32 : decode cX2_clientsOf 32 = .ok (.aload_n 0, 1) := by decide +kernel
theorem dX2_clientsOf_33 : decode cX2_clientsOf 33 = .ok (.aload_n 1, 1) := by decide +kernel
theorem dX2_clientsOf_34 : decode cX2_clientsOf 34 = .ok (.iload 4, 2) := by decide +kernel
theorem dX2_clientsOf_36 : decode cX2_clientsOf 36 = .ok (.iload_n 2, 1) := by decide +kernel
theorem dX2_clientsOf_37 : decode cX2_clientsOf 37 = .ok (.invokevirtual 120, 3) := by decide +kernel
theorem dX2_clientsOf_40 : decode cX2_clientsOf 40 = .ok (.ifCond .eq 6, 3) := by decide +kernel
theorem dX2_clientsOf_43 : decode cX2_clientsOf 43 = .ok (.iinc 3 1, 3) := by decide +kernel
theorem dX2_clientsOf_46 : decode cX2_clientsOf 46 = .ok (.iinc 4 1, 3) := by decide +kernel
theorem dX2_clientsOf_49 : decode cX2_clientsOf 49 = .ok (.goto (-44), 3) := by decide +kernel
theorem dX2_clientsOf_52 : decode cX2_clientsOf 52 = .ok (.iload_n 3, 1) := by decide +kernel
theorem dX2_clientsOf_53 : decode cX2_clientsOf 53 = .ok (.ireturn, 1) := by decide +kernel
theorem dX2_hasNoneNearer_0 : decode cX2_hasNoneNearer 0 = .ok (.aload_n 1, 1) := by decide +kernel
theorem dX2_hasNoneNearer_1 : decode cX2_hasNoneNearer 1 = .ok (.iload_n 2, 1) := by decide +kernel
theorem dX2_hasNoneNearer_2 : decode cX2_hasNoneNearer 2 = .ok (.iload_n 3, 1) := by decide +kernel
theorem dX2_hasNoneNearer_3 : decode cX2_hasNoneNearer 3 = .ok (.invokevirtual 85, 3) := by decide +kernel
theorem dX2_hasNoneNearer_6 : decode cX2_hasNoneNearer 6 = .ok (.istore 4, 2) := by decide +kernel
theorem dX2_hasNoneNearer_8 : decode cX2_hasNoneNearer 8 = .ok (.iconst 0, 1) := by decide +kernel
theorem dX2_hasNoneNearer_9 : decode cX2_hasNoneNearer 9 = .ok (.istore 5, 2) := by decide +kernel
theorem dX2_hasNoneNearer_11 : decode cX2_hasNoneNearer 11 = .ok (.iload 5, 2) := by decide +kernel
theorem dX2_hasNoneNearer_13 : decode cX2_hasNoneNearer 13 = .ok (.aload_n 0, 1) := by decide +kernel
theorem dX2_hasNoneNearer_14 : decode cX2_hasNoneNearer 14 = .ok (.getfield 28, 3) := by decide +kernel
theorem dX2_hasNoneNearer_17 : decode cX2_hasNoneNearer 17 = .ok (.if_icmp .ge 50, 3) := by decide +kernel
theorem dX2_hasNoneNearer_20 : decode cX2_hasNoneNearer 20 = .ok (.aload_n 1, 1) := by decide +kernel
theorem dX2_hasNoneNearer_21 : decode cX2_hasNoneNearer 21 = .ok (.iload_n 2, 1) := by decide +kernel
theorem dX2_hasNoneNearer_22 : decode cX2_hasNoneNearer 22 = .ok (.aload_n 0, 1) := by decide +kernel
theorem dX2_hasNoneNearer_23 : decode cX2_hasNoneNearer 23 = .ok (.getfield 25, 3) := by decide +kernel
theorem dX2_hasNoneNearer_26 : decode cX2_hasNoneNearer 26 = .ok (.iload 5, 2) := by decide +kernel
theorem dX2_hasNoneNearer_28 : decode cX2_hasNoneNearer 28 = .ok (.iaload, 1) := by decide +kernel
theorem dX2_hasNoneNearer_29 : decode cX2_hasNoneNearer 29 = .ok (.invokevirtual 85, 3) := by decide +kernel
theorem dX2_hasNoneNearer_32 : decode cX2_hasNoneNearer 32 = .ok (.istore 6, 2) := by decide +kernel
theorem dX2_hasNoneNearer_34 : decode cX2_hasNoneNearer 34 = .ok (.iload 6, 2) := by decide +kernel
theorem dX2_hasNoneNearer_36 : decode cX2_hasNoneNearer 36 = .ok (.iload 4, 2) := by decide +kernel
theorem dX2_hasNoneNearer_38 : decode cX2_hasNoneNearer 38 = .ok (.if_icmp .lt 21, 3) := by decide +kernel
theorem dX2_hasNoneNearer_41 : decode cX2_hasNoneNearer 41 = .ok (.iload 6, 2) := by decide +kernel
theorem dX2_hasNoneNearer_43 : decode cX2_hasNoneNearer 43 = .ok (.iload 4, 2) := by decide +kernel
theorem dX2_hasNoneNearer_45 : decode cX2_hasNoneNearer 45 = .ok (.if_icmp .ne 16, 3) := by decide +kernel
theorem dX2_hasNoneNearer_48 : decode cX2_hasNoneNearer 48 = .ok (.aload_n 0, 1) := by decide +kernel
theorem dX2_hasNoneNearer_49 : decode cX2_hasNoneNearer 49 = .ok (.getfield 25, 3) := by decide +kernel
theorem dX2_hasNoneNearer_52 : decode cX2_hasNoneNearer 52 = .ok (.iload 5, 2) := by decide +kernel
theorem dX2_hasNoneNearer_54 : decode cX2_hasNoneNearer 54 = .ok (.iaload, 1) := by decide +kernel
theorem dX2_hasNoneNearer_55 : decode cX2_hasNoneNearer 55 = .ok (.iload_n 3, 1) := by decide +kernel
theorem dX2_hasNoneNearer_56 : decode cX2_hasNoneNearer 56 = .ok (.if_icmp .ge 5, 3) := by decide +kernel
theorem dX2_hasNoneNearer_59 : decode cX2_hasNoneNearer 59 = .ok (.iconst 0, 1) := by decide +kernel
theorem dX2_hasNoneNearer_60 : decode cX2_hasNoneNearer 60 = .ok (.ireturn, 1) := by decide +kernel
theorem dX2_hasNoneNearer_61 : decode cX2_hasNoneNearer 61 = .ok (.iinc 5 1, 3) := by decide +kernel
theorem dX2_hasNoneNearer_64 : decode cX2_hasNoneNearer 64 = .ok (.goto (-53), 3) := by decide +kernel
theorem dX2_hasNoneNearer_67 : decode cX2_hasNoneNearer 67 = .ok (.iconst 1, 1) := by decide +kernel
theorem dX2_hasNoneNearer_68 : decode cX2_hasNoneNearer 68 = .ok (.ireturn, 1) := by decide +kernel
theorem dX2_centralCell_0 : decode cX2_centralCell 0 = .ok (.aload_n 0, 1) := by decide +kernel
theorem dX2_centralCell_1 : decode cX2_centralCell 1 = .ok (.getfield 34, 3) := by decide +kernel
theorem dX2_centralCell_4 : decode cX2_centralCell 4 = .ok (.invokevirtual 124, 3) := by decide +kernel
theorem dX2_centralCell_7 : decode cX2_centralCell 7 = .ok (.iconst 0, 1) := by decide +kernel
theorem dX2_centralCell_8 : decode cX2_centralCell 8 = .ok (.istore_n 3, 1) := by decide +kernel
theorem dX2_centralCell_9 : decode cX2_centralCell 9 = .ok (.iload_n 3, 1) := by decide +kernel
theorem dX2_centralCell_10 : decode cX2_centralCell 10 = .ok (.aload_n 0, 1) := by decide +kernel
theorem dX2_centralCell_11 : decode cX2_centralCell 11 = .ok (.getfield 28, 3) := by decide +kernel
theorem dX2_centralCell_14 : decode cX2_centralCell 14 = .ok (.if_icmp .ge 34, 3) := by decide +kernel
theorem dX2_centralCell_17 : decode cX2_centralCell 17 = .ok (.aload_n 0, 1) := by decide +kernel
theorem dX2_centralCell_18 : decode cX2_centralCell 18 = .ok (.getfield 34, 3) := by decide +kernel
theorem dX2_centralCell_21 : decode cX2_centralCell 21 = .ok (.aload_n 1, 1) := by decide +kernel
theorem dX2_centralCell_22 : decode cX2_centralCell 22 = .ok (.aload_n 0, 1) := by decide +kernel
theorem dX2_centralCell_23 : decode cX2_centralCell 23 = .ok (.getfield 25, 3) := by decide +kernel
theorem dX2_centralCell_26 : decode cX2_centralCell 26 = .ok (.iload_n 3, 1) := by decide +kernel
theorem dX2_centralCell_27 : decode cX2_centralCell 27 = .ok (.iaload, 1) := by decide +kernel
theorem dX2_centralCell_28 : decode cX2_centralCell 28 = .ok (.aload_n 0, 1) := by decide +kernel
theorem dX2_centralCell_29 : decode cX2_centralCell 29 = .ok (.aload_n 0, 1) := by decide +kernel
theorem dX2_centralCell_30 : decode cX2_centralCell 30 = .ok (.getfield 25, 3) := by decide +kernel
theorem dX2_centralCell_33 : decode cX2_centralCell 33 = .ok (.iload_n 3, 1) := by decide +kernel
theorem dX2_centralCell_34 : decode cX2_centralCell 34 = .ok (.iaload, 1) := by decide +kernel
theorem dX2_centralCell_35 : decode cX2_centralCell 35 = .ok (.iload_n 2, 1) := by decide +kernel
theorem dX2_centralCell_36 : decode cX2_centralCell 36 = .ok (.invokevirtual 77, 3) := by decide +kernel
theorem dX2_centralCell_39 : decode cX2_centralCell 39 = .ok (.invokevirtual 127, 3) := by decide +kernel
theorem dX2_centralCell_42 : decode cX2_centralCell 42 = .ok (.iinc 3 1, 3) := by decide +kernel
theorem dX2_centralCell_45 : decode cX2_centralCell 45 = .ok (.goto (-36), 3) := by decide +kernel
theorem dX2_centralCell_48 : decode cX2_centralCell 48 = .ok (.aload_n 0, 1) := by decide +kernel
theorem dX2_centralCell_49 : decode cX2_centralCell 49 = .ok (.getfield 34, 3) := by decide +kernel
theorem dX2_centralCell_52 : decode cX2_centralCell 52 = .ok (.invokevirtual 131, 3) := by decide +kernel
theorem dX2_centralCell_55 : decode cX2_centralCell 55 = .ok (.ifCond .eq 5, 3) := by decide +kernel
theorem dX2_centralCell_58 : decode cX2_centralCell 58 = .ok (.iconst (-1), 1) := by decide +kernel
theorem dX2_centralCell_59 : decode cX2_centralCell 59 = .ok (.ireturn, 1) := by decide +kernel
theorem dX2_centralCell_60 : decode cX2_centralCell 60 = .ok (.iconst 0, 1) := by decide +kernel
theorem dX2_centralCell_61 : decode cX2_centralCell 61 = .ok (.istore_n 3, 1) := by decide +kernel
theorem dX2_centralCell_62 : decode cX2_centralCell 62 = .ok (.iconst 1, 1) := by decide +kernel
theorem dX2_centralCell_63 : decode cX2_centralCell 63 = .ok (.istore 4, 2) := by decide +kernel
theorem dX2_centralCell_65 : decode cX2_centralCell 65 = .ok (.iload 4, 2) := by decide +kernel
theorem dX2_centralCell_67 : decode cX2_centralCell 67 = .ok (.aload_n 0, 1) := by decide +kernel
theorem dX2_centralCell_68 : decode cX2_centralCell 68 = .ok (.getfield 15, 3) := by decide +kernel
theorem dX2_centralCell_71 : decode cX2_centralCell 71 = .ok (.if_icmp .ge 35, 3) := by decide +kernel
theorem dX2_centralCell_74 : decode cX2_centralCell 74 = .ok (.aload_n 0, 1) := by decide +kernel
theorem dX2_centralCell_75 : decode cX2_centralCell 75 = .ok (.getfield 34, 3) := by decide +kernel
theorem dX2_centralCell_78 : decode cX2_centralCell 78 = .ok (.aload_n 1, 1) := by decide +kernel
theorem dX2_centralCell_79 : decode cX2_centralCell 79 = .ok (.iload 4, 2) := by decide +kernel
theorem dX2_centralCell_81 : decode cX2_centralCell 81 = .ok (.invokevirtual 135, 3) := by decide +kernel
theorem dX2_centralCell_84 : decode cX2_centralCell 84 = .ok (.aload_n 0, 1) := by decide +kernel
theorem dX2_centralCell_85 : decode cX2_centralCell 85 = .ok (.getfield 34, 3) := by decide +kernel
theorem dX2_centralCell_88 : decode cX2_centralCell 88 = .ok (.aload_n 1, 1) := by decide +kernel
theorem dX2_centralCell_89 : decode cX2_centralCell 89 = .ok (.iload_n 3, 1) := by decide +kernel
theorem dX2_centralCell_90 : decode cX2_centralCell 90 = .ok (.invokevirtual 135, 3) := by decide +kernel
theorem dX2_centralCell_93 : decode cX2_centralCell 93 = .ok (.lcmp, 1) := by decide +kernel
theorem dX2_centralCell_94 : decode cX2_centralCell 94 = .ok (.ifCond .ge 6, 3) := by decide +kernel
theorem dX2_centralCell_97 : decode cX2_centralCell 97 = .ok (.iload 4, 2) := by decide +kernel
theorem dX2_centralCell_99 : decode cX2_centralCell 99 = .ok (.istore_n 3, 1) := by decide +kernel
theorem dX2_centralCell_100 : decode cX2_centralCell 100 = .ok (.iinc 4 1, 3) := by decide +kernel
theorem dX2_centralCell_103 : decode cX2_centralCell 103 = .ok (.goto (-38), 3) := by decide +kernel
theorem dX2_centralCell_106 : decode cX2_centralCell 106 = .ok (.iload_n 3, 1) := by decide +kernel
theorem dX2_centralCell_107 : decode cX2_centralCell 107 = .ok (.ireturn, 1) := by decide +kernel
theorem dX2_sumOfRow_0 : decode cX2_sumOfRow 0 = .ok (.iconst 0, 1) := by decide +kernel
theorem dX2_sumOfRow_1 : decode cX2_sumOfRow 1 = .ok (.istore_n 3, 1) := by decide +kernel
theorem dX2_sumOfRow_2 : decode cX2_sumOfRow 2 = .ok (.iconst 0, 1) := by decide +kernel
theorem dX2_sumOfRow_3 : decode cX2_sumOfRow 3 = .ok (.istore 4, 2) := by decide +kernel
theorem dX2_sumOfRow_5 : decode cX2_sumOfRow 5 = .ok (.iload 4, 2) := by decide +kernel
theorem dX2_sumOfRow_7 : decode cX2_sumOfRow 7 = .ok (.aload_n 1, 1) := by decide +kernel
theorem dX2_sumOfRow_8 : decode cX2_sumOfRow 8 = .ok (.getfield 139, 3) := by decide +kernel
theorem dX2_sumOfRow_11 : decode cX2_sumOfRow 11 = .ok (.if_icmp .ge 26, 3) := by decide +kernel
theorem dX2_sumOfRow_14 : decode cX2_sumOfRow 14 = .ok (.iload_n 3, 1) := by decide +kernel
theorem dX2_sumOfRow_15 : decode cX2_sumOfRow 15 = .ok (.aload_n 0, 1) := by decide +kernel
theorem dX2_sumOfRow_16 : decode cX2_sumOfRow 16 = .ok (.getfield 22, 3) := by decide +kernel
theorem dX2_sumOfRow_19 : decode cX2_sumOfRow 19 = .ok (.iload_n 2, 1) := by decide +kernel
theorem dX2_sumOfRow_20 : decode cX2_sumOfRow 20 = .ok (.aload_n 1, 1) := by decide +kernel
theorem dX2_sumOfRow_21 : decode cX2_sumOfRow 21 = .ok (.getfield 139, 3) := by decide +kernel
theorem dX2_sumOfRow_24 : decode cX2_sumOfRow 24 = .ok (.imul, 1) := by decide +kernel
theorem dX2_sumOfRow_25 : decode cX2_sumOfRow 25 = .ok (.iload 4, 2) := by decide +kernel
theorem dX2_sumOfRow_27 : decode cX2_sumOfRow 27 = .ok (.iadd, 1) := by decide +kernel
theorem dX2_sumOfRow_28 : decode cX2_sumOfRow 28 = .ok (.iaload, 1) := by decide +kernel
theorem dX2_sumOfRow_29 : decode cX2_sumOfRow 29 = .ok (.iadd, 1) := by decide +kernel
theorem dX2_sumOfRow_30 : decode cX2_sumOfRow 30 = .ok (.istore_n 3, 1) := by decide +kernel
theorem dX2_sumOfRow_31 : decode cX2_sumOfRow 31 = .ok (.iinc 4 1, 3) := by decide +kernel
theorem dX2_sumOfRow_34 : decode cX2_sumOfRow 34 = .ok (.goto (-29), 3) := by decide +kernel
theorem dX2_sumOfRow_37 : decode cX2_sumOfRow 37 = .ok (.iload_n 3, 1) := by decide +kernel
theorem dX2_sumOfRow_38 : decode cX2_sumOfRow 38 = .ok (.ireturn, 1) := by decide +kernel
theorem dX2_sumOfColumn_0 : decode cX2_sumOfColumn 0 = .ok (.iconst 0, 1) := by decide +kernel
theorem dX2_sumOfColumn_1 : decode cX2_sumOfColumn 1 = .ok (.istore_n 3, 1) := by decide +kernel
theorem dX2_sumOfColumn_2 : decode cX2_sumOfColumn 2 = .ok (.iconst 0, 1) := by decide +kernel
theorem dX2_sumOfColumn_3 : decode cX2_sumOfColumn 3 = .ok (.istore 4, 2) := by decide +kernel
theorem dX2_sumOfColumn_5 : decode cX2_sumOfColumn 5 = .ok (.iload 4, 2) := by decide +kernel
theorem dX2_sumOfColumn_7 : decode cX2_sumOfColumn 7 = .ok (.aload_n 1, 1) := by decide +kernel
theorem dX2_sumOfColumn_8 : decode cX2_sumOfColumn 8 = .ok (.getfield 142, 3) := by decide +kernel
theorem dX2_sumOfColumn_11 : decode cX2_sumOfColumn 11 = .ok (.if_icmp .ge 26, 3) := by decide +kernel
theorem dX2_sumOfColumn_14 : decode cX2_sumOfColumn 14 = .ok (.iload_n 3, 1) := by decide +kernel
theorem dX2_sumOfColumn_15 : decode cX2_sumOfColumn 15 = .ok (.aload_n 0, 1) := by decide +kernel
theorem dX2_sumOfColumn_16 : decode cX2_sumOfColumn 16 = .ok (.getfield 22, 3) := by decide +kernel
theorem dX2_sumOfColumn_19 : decode cX2_sumOfColumn 19 = .ok (.iload 4, 2) := by decide +kernel
theorem dX2_sumOfColumn_21 : decode cX2_sumOfColumn 21 = .ok (.aload_n 1, 1) := by decide +kernel
theorem dX2_sumOfColumn_22 : decode cX2_sumOfColumn 22 = .ok (.getfield 139, 3) := by decide +kernel
theorem dX2_sumOfColumn_25 : decode cX2_sumOfColumn 25 = .ok (.imul, 1) := by decide +kernel
theorem dX2_sumOfColumn_26 : decode cX2_sumOfColumn 26 = .ok (.iload_n 2, 1) := by decide +kernel
theorem dX2_sumOfColumn_27 : decode cX2_sumOfColumn 27 = .ok (.iadd, 1) := by decide +kernel
theorem dX2_sumOfColumn_28 : decode cX2_sumOfColumn 28 = .ok (.iaload, 1) := by decide +kernel
theorem dX2_sumOfColumn_29 : decode cX2_sumOfColumn 29 = .ok (.iadd, 1) := by decide +kernel
theorem dX2_sumOfColumn_30 : decode cX2_sumOfColumn 30 = .ok (.istore_n 3, 1) := by decide +kernel
theorem dX2_sumOfColumn_31 : decode cX2_sumOfColumn 31 = .ok (.iinc 4 1, 3) := by decide +kernel
theorem dX2_sumOfColumn_34 : decode cX2_sumOfColumn 34 = .ok (.goto (-29), 3) := by decide +kernel
theorem dX2_sumOfColumn_37 : decode cX2_sumOfColumn 37 = .ok (.iload_n 3, 1) := by decide +kernel
theorem dX2_sumOfColumn_38 : decode cX2_sumOfColumn 38 = .ok (.ireturn, 1) := by decide +kernel
theorem dX3_init_0 : decode cX3_init 0 = .ok (.aload_n 0, 1) := by decide +kernel
theorem dX3_init_1 : decode cX3_init 1 = .ok (.invokespecial 3, 3) := by decide +kernel
theorem dX3_init_4 : decode cX3_init 4 = .ok (.aload_n 0, 1) := by decide +kernel
theorem dX3_init_5 : decode cX3_init 5 = .ok (.iconst 0, 1) := by decide +kernel
theorem dX3_init_6 : decode cX3_init 6 = .ok (.putfield 9, 3) := by decide +kernel
theorem dX3_init_9 : decode cX3_init 9 = .ok (.aload_n 0, 1) := by decide +kernel
theorem dX3_init_10 : decode cX3_init 10 = .ok (.sipush 384, 3) := by decide +kernel
theorem dX3_init_13 : decode cX3_init 13 = .ok (.newarray .int, 2) := by decide +kernel
theorem dX3_init_15 : decode cX3_init 15 = .ok (.putfield 15, 3) := by decide +kernel
theorem dX3_init_18 : decode cX3_init 18 = .ok (.aload_n 0, 1) := by decide +kernel
theorem dX3_init_19 : decode cX3_init 19 = .ok (.sipush 384, 3) := by decide +kernel
theorem dX3_init_22 : decode cX3_init 22 = .ok (.newarray .int, 2) := by decide +kernel
theorem dX3_init_24 : decode cX3_init 24 = .ok (.putfield 19, 3) := by decide +kernel
theorem dX3_init_27 : decode cX3_init 27 = .ok (.aload_n 0, 1) := by decide +kernel
theorem dX3_init_28 : decode cX3_init 28 = .ok (.iconst 0, 1) := by decide +kernel
theorem dX3_init_29 : decode cX3_init 29 = .ok (.putfield 22, 3) := by decide +kernel
theorem dX3_init_32 : decode cX3_init 32 = .ok (.return_, 1) := by decide +kernel
theorem dX3_find_0 : decode cX3_find 0 = .ok (.aload_n 0, 1) := by decide +kernel
theorem dX3_find_1 : decode cX3_find 1 = .ok (.iconst 0, 1) := by decide +kernel
theorem dX3_find_2 : decode cX3_find 2 = .ok (.putfield 9, 3) := by decide +kernel
theorem dX3_find_5 : decode cX3_find 5 = .ok (.aload_n 0, 1) := by decide +kernel
theorem dX3_find_6 : decode cX3_find 6 = .ok (.getfield 15, 3) := by decide +kernel
theorem dX3_find_9 : decode cX3_find 9 = .ok (.iconst (-1), 1) := by decide +kernel
theorem dX3_find_10 : decode cX3_find 10 = .ok (.invokestatic 25, 3) := by decide +kernel
theorem dX3_find_13 : decode cX3_find 13 = .ok (.iconst 0, 1) := by decide +kernel
theorem dX3_find_14 : decode cX3_find 14 = .ok (.istore_n 3, 1) := by decide +kernel
theorem dX3_find_15 : decode cX3_find 15 = .ok (.iload_n 3, 1) := by decide +kernel
theorem dX3_find_16 : decode cX3_find 16 = .ok (.aload_n 1, 1) := by decide +kernel
theorem dX3_find_17 : decode cX3_find 17 = .ok (.invokevirtual 31, 3) := by decide +kernel
theorem dX3_find_20 : decode cX3_find 20 = .ok (.if_icmp .ge 45, 3) := by decide +kernel
theorem dX3_find_23 : decode cX3_find 23 = .ok (.aload_n 1, 1) := by decide +kernel
theorem dX3_find_24 : decode cX3_find 24 = .ok (.iload_n 3, 1) := by decide +kernel
theorem dX3_find_25 : decode cX3_find 25 = .ok (.iload_n 2, 1) := by decide +kernel
theorem dX3_find_26 : decode cX3_find 26 = .ok (.invokevirtual 37, 3) := by decide +kernel
theorem dX3_find_29 : decode cX3_find 29 = .ok (.ifCond .eq 30, 3) := by decide +kernel
theorem dX3_find_32 : decode cX3_find 32 = .ok (.aload_n 0, 1) := by decide +kernel
theorem dX3_find_33 : decode cX3_find 33 = .ok (.getfield 15, 3) := by decide +kernel
theorem dX3_find_36 : decode cX3_find 36 = .ok (.iload_n 3, 1) := by decide +kernel
theorem dX3_find_37 : decode cX3_find 37 = .ok (.iaload, 1) := by decide +kernel
theorem dX3_find_38 : decode cX3_find 38 = .ok (.iconst (-1), 1) := by decide +kernel
theorem dX3_find_39 : decode cX3_find 39 = .ok (.if_icmp .ne 20, 3) := by decide +kernel
theorem dX3_find_42 : decode cX3_find 42 = .ok (.aload_n 0, 1) := by decide +kernel
theorem dX3_find_43 : decode cX3_find 43 = .ok (.aload_n 1, 1) := by decide +kernel
theorem dX3_find_44 : decode cX3_find 44 = .ok (.iload_n 2, 1) := by decide +kernel
theorem dX3_find_45 : decode cX3_find 45 = .ok (.iload_n 3, 1) := by decide +kernel
theorem dX3_find_46 : decode cX3_find 46 = .ok (.invokevirtual 41, 3) := by decide +kernel
theorem dX3_find_49 : decode cX3_find 49 = .ok (.aload_n 0, 1) := by decide +kernel
theorem dX3_find_50 : decode cX3_find 50 = .ok (.dup, 1) := by decide +kernel
theorem dX3_find_51 : decode cX3_find 51 = .ok (.getfield 9, 3) := by decide +kernel
theorem dX3_find_54 : decode cX3_find 54 = .ok (.iconst 1, 1) := by decide +kernel
theorem dX3_find_55 : decode cX3_find 55 = .ok (.iadd, 1) := by decide +kernel
theorem dX3_find_56 : decode cX3_find 56 = .ok (.putfield 9, 3) := by decide +kernel
theorem dX3_find_59 : decode cX3_find 59 = .ok (.iinc 3 1, 3) := by decide +kernel
theorem dX3_find_62 : decode cX3_find 62 = .ok (.goto (-47), 3) := by decide +kernel
theorem dX3_find_65 : decode cX3_find 65 = .ok (.return_, 1) := by decide +kernel
theorem dX3_fill_0 : decode cX3_fill 0 = .ok (.aload_n 0, 1) := by decide +kernel
theorem dX3_fill_1 : decode cX3_fill 1 = .ok (.iconst 0, 1) := by decide +kernel
theorem dX3_fill_2 : decode cX3_fill 2 = .ok (.putfield 22, 3) := by decide +kernel
theorem dX3_fill_5 : decode cX3_fill 5 = .ok (.aload_n 0, 1) := by decide +kernel
theorem dX3_fill_6 : decode cX3_fill 6 = .ok (.iload_n 3, 1) := by decide +kernel
theorem dX3_fill_7 : decode cX3_fill 7 = .ok (.invokevirtual 44, 3) := by decide +kernel
theorem dX3_fill_10 : decode cX3_fill 10 = .ok (.iconst 0, 1) := by decide +kernel
theorem dX3_fill_11 : decode cX3_fill 11 = .ok (.istore 4, 2) := by decide +kernel
theorem dX3_fill_13 : decode cX3_fill 13 = .ok (.aload_n 0, 1) := by decide +kernel
theorem dX3_fill_14 : decode cX3_fill 14 = .ok (.getfield 22, 3) := by decide +kernel
theorem dX3_fill_17 : decode cX3_fill 17 = .ok (.ifCond .le 96, 3) := by decide +kernel
theorem dX3_fill_20 : decode cX3_fill 20 = .ok (.iload 4, 2) := by decide +kernel
theorem dX3_fill_22 : decode cX3_fill 22 = .ok (.sipush 384, 3) := by decide +kernel
theorem dX3_fill_25 : decode cX3_fill 25 = .ok (.if_icmp .ge 88, 3) := by decide +kernel
theorem dX3_fill_28 : decode cX3_fill 28 = .ok (.aload_n 0, 1) := by decide +kernel
theorem dX3_fill_29 : decode cX3_fill 29 = .ok (.dup, 1) := by decide +kernel
theorem dX3_fill_30 : decode cX3_fill 30 = .ok (.getfield 22, 3) := by decide +kernel
theorem dX3_fill_33 : decode cX3_fill 33 = .ok (.iconst 1, 1) := by decide +kernel
theorem dX3_fill_34 : decode cX3_fill 34 = .ok (.isub, 1) := by decide +kernel
theorem dX3_fill_35 : decode cX3_fill 35 = .ok (.putfield 22, 3) := by decide +kernel
theorem dX3_fill_38 : decode cX3_fill 38 = .ok (.aload_n 0, 1) := by decide +kernel
theorem dX3_fill_39 : decode cX3_fill 39 = .ok (.getfield 19, 3) := by decide +kernel
theorem dX3_fill_42 : decode cX3_fill 42 = .ok (.aload_n 0, 1) := by decide +kernel
theorem dX3_fill_43 : decode cX3_fill 43 = .ok (.getfield 22, 3) := by decide +kernel
theorem dX3_fill_46 : decode cX3_fill 46 = .ok (.iaload, 1) := by decide +kernel
theorem dX3_fill_47 : decode cX3_fill 47 = .ok (.istore 5, 2) := by decide +kernel
theorem dX3_fill_49 : decode cX3_fill 49 = .ok (.iconst 0, 1) := by decide +kernel
theorem dX3_fill_50 : decode cX3_fill 50 = .ok (.istore 6, 2) := by decide +kernel
theorem dX3_fill_52 : decode cX3_fill 52 = .ok (.iload 6, 2) := by decide +kernel
theorem dX3_fill_54 : decode cX3_fill 54 = .ok (.iconst 4, 1) := by decide +kernel
theorem dX3_fill_55 : decode cX3_fill 55 = .ok (.if_icmp .ge 52, 3) := by decide +kernel
theorem dX3_fill_58 : decode cX3_fill 58 = .ok (.aload_n 1, 1) := by decide +kernel
theorem dX3_fill_59 : decode cX3_fill 59 = .ok (.iload 5, 2) := by decide +kernel
theorem dX3_fill_61 : decode cX3_fill 61 = .ok (.iload 6, 2) := by decide +kernel
theorem dX3_fill_63 : decode cX3_fill 63 = .ok (.invokevirtual 48, 3) := by decide +kernel
theorem dX3_fill_66 : decode cX3_fill 66 = .ok (.istore 7, 2) := by decide +kernel
theorem dX3_fill_68 : decode cX3_fill 68 = .ok (.iload 7, 2) := by decide +kernel
theorem dX3_fill_70 : decode cX3_fill 70 = .ok (.iconst (-1), 1) := by decide +kernel
theorem dX3_fill_71 : decode cX3_fill 71 = .ok (.if_icmp .eq 30, 3) := by decide +kernel
theorem dX3_fill_74 : decode cX3_fill 74 = .ok (.aload_n 1, 1) := by decide +kernel
theorem dX3_fill_75 : decode cX3_fill 75 = .ok (.iload 7, 2) := by decide +kernel
theorem dX3_fill_77 : decode cX3_fill 77 = .ok (.iload_n 2, 1) := by decide +kernel
theorem dX3_fill_78 : decode cX3_fill 78 = .ok (.invokevirtual 37, 3) := by decide +kernel
theorem dX3_fill_81 : decode cX3_fill 81 = .ok (.ifCond .eq 20, 3) := by decide +kernel
theorem dX3_fill_84 : decode cX3_fill 84 = .ok (.aload_n 0, 1) := by decide +kernel
theorem dX3_fill_85 : decode cX3_fill 85 = .ok (.getfield 15, 3) := by decide +kernel
theorem dX3_fill_88 : decode cX3_fill 88 = .ok (.iload 7, 2) := by decide +kernel
theorem dX3_fill_90 : decode cX3_fill 90 = .ok (.iaload, 1) := by decide +kernel
theorem dX3_fill_91 : decode cX3_fill 91 = .ok (.iconst (-1), 1) := by decide +kernel
theorem dX3_fill_92 : decode cX3_fill 92 = .ok (.if_icmp .ne 9, 3) := by decide +kernel
theorem dX3_fill_95 : decode cX3_fill 95 = .ok (.aload_n 0, 1) := by decide +kernel
theorem dX3_fill_96 : decode cX3_fill 96 = .ok (.iload 7, 2) := by decide +kernel
theorem dX3_fill_98 : decode cX3_fill 98 = .ok (.invokevirtual 44, 3) := by decide +kernel
theorem dX3_fill_101 : decode cX3_fill 101 = .ok (.iinc 6 1, 3) := by decide +kernel
theorem dX3_fill_104 : decode cX3_fill 104 = .ok (.goto (-52), 3) := by decide +kernel
theorem dX3_fill_107 : decode cX3_fill 107 = .ok (.iinc 4 1, 3) := by decide +kernel
theorem dX3_fill_110 : decode cX3_fill 110 = .ok (.goto (-97), 3) := by decide +kernel
theorem dX3_fill_113 : decode cX3_fill 113 = .ok (.return_, 1) := by decide +kernel
theorem dX3_reach_0 : decode cX3_reach 0 = .ok (.aload_n 0, 1) := by decide +kernel
theorem dX3_reach_1 : decode cX3_reach 1 = .ok (.getfield 22, 3) := by decide +kernel
theorem dX3_reach_4 : decode cX3_reach 4 = .ok (.sipush 384, 3) := by decide +kernel
theorem dX3_reach_7 : decode cX3_reach 7 = .ok (.if_icmp .ge 33, 3) := by decide +kernel
theorem dX3_reach_10 : decode cX3_reach 10 = .ok (.aload_n 0, 1) := by decide +kernel
theorem dX3_reach_11 : decode cX3_reach 11 = .ok (.getfield 15, 3) := by decide +kernel
theorem dX3_reach_14 : decode cX3_reach 14 = .ok (.iload_n 1, 1) := by decide +kernel
theorem dX3_reach_15 : decode cX3_reach 15 = .ok (.aload_n 0, 1) := by decide +kernel
theorem dX3_reach_16 : decode cX3_reach 16 = .ok (.getfield 9, 3) := by decide +kernel
theorem dX3_reach_19 : decode cX3_reach 19 = .ok (.iastore, 1) := by decide +kernel
theorem dX3_reach_20 : decode cX3_reach 20 = .ok (.aload_n 0, 1) := by decide +kernel
theorem dX3_reach_21 : decode cX3_reach 21 = .ok (.getfield 19, 3) := by decide +kernel
theorem dX3_reach_24 : decode cX3_reach 24 = .ok (.aload_n 0, 1) := by decide +kernel
theorem dX3_reach_25 : decode cX3_reach 25 = .ok (.getfield 22, 3) := by decide +kernel
theorem dX3_reach_28 : decode cX3_reach 28 = .ok (.iload_n 1, 1) := by decide +kernel
theorem dX3_reach_29 : decode cX3_reach 29 = .ok (.iastore, 1) := by decide +kernel
theorem dX3_reach_30 : decode cX3_reach 30 = .ok (.aload_n 0, 1) := by decide +kernel
theorem dX3_reach_31 : decode cX3_reach 31 = .ok (.dup, 1) := by decide +kernel
theorem dX3_reach_32 : decode cX3_reach 32 = .ok (.getfield 22, 3) := by decide +kernel
theorem dX3_reach_35 : decode cX3_reach 35 = .ok (.iconst 1, 1) := by decide +kernel
theorem dX3_reach_36 : decode cX3_reach 36 = .ok (.iadd, 1) := by decide +kernel
theorem dX3_reach_37 : decode cX3_reach 37 = .ok (.putfield 22, 3) := by decide +kernel
theorem dX3_reach_40 : decode cX3_reach 40 = .ok (.return_, 1) := by decide +kernel
theorem dX4_init_0 : decode cX4_init 0 = .ok (.aload_n 0, 1) := by decide +kernel
theorem dX4_init_1 : decode cX4_init 1 = .ok (.invokespecial 3, 3) := by decide +kernel
theorem dX4_init_4 : decode cX4_init 4 = .ok (.aload_n 0, 1) := by decide +kernel
theorem dX4_init_5 : decode cX4_init 5 = .ok (.iconst 0, 1) := by decide +kernel
theorem dX4_init_6 : decode cX4_init 6 = .ok (.putfield 9, 3) := by decide +kernel
theorem dX4_init_9 : decode cX4_init 9 = .ok (.aload_n 0, 1) := by decide +kernel
theorem dX4_init_10 : decode cX4_init 10 = .ok (.iconst 0, 1) := by decide +kernel
theorem dX4_init_11 : decode cX4_init 11 = .ok (.putfield 15, 3) := by decide +kernel
theorem dX4_init_14 : decode cX4_init 14 = .ok (.aload_n 0, 1) := by decide +kernel
theorem dX4_init_15 : decode cX4_init 15 = .ok (.sipush 768, 3) := by decide +kernel
theorem dX4_init_18 : decode cX4_init 18 = .ok (.newarray .int, 2) := by decide +kernel
theorem dX4_init_20 : decode cX4_init 20 = .ok (.putfield 18, 3) := by decide +kernel
theorem dX4_init_23 : decode cX4_init 23 = .ok (.aload_n 0, 1) := by decide +kernel
theorem dX4_init_24 : decode cX4_init 24 = .ok (.sipush 384, 3) := by decide +kernel
theorem dX4_init_27 : decode cX4_init 27 = .ok (.newarray .int, 2) := by decide +kernel
theorem dX4_init_29 : decode cX4_init 29 = .ok (.putfield 22, 3) := by decide +kernel
theorem dX4_init_32 : decode cX4_init 32 = .ok (.aload_n 0, 1) := by decide +kernel
theorem dX4_init_33 : decode cX4_init 33 = .ok (.iconst 0, 1) := by decide +kernel
theorem dX4_init_34 : decode cX4_init 34 = .ok (.putfield 25, 3) := by decide +kernel
theorem dX4_init_37 : decode cX4_init 37 = .ok (.aload_n 0, 1) := by decide +kernel
theorem dX4_init_38 : decode cX4_init 38 = .ok (.iconst (-1), 1) := by decide +kernel
theorem dX4_init_39 : decode cX4_init 39 = .ok (.putfield 28, 3) := by decide +kernel
theorem dX4_init_42 : decode cX4_init 42 = .ok (.aload_n 0, 1) := by decide +kernel
theorem dX4_init_43 : decode cX4_init 43 = .ok (.iconst (-1), 1) := by decide +kernel
theorem dX4_init_44 : decode cX4_init 44 = .ok (.putfield 31, 3) := by decide +kernel
theorem dX4_init_47 : decode cX4_init 47 = .ok (.aload_n 0, 1) := by decide +kernel
theorem dX4_init_48 : decode cX4_init 48 = .ok (.iconst (-1), 1) := by decide +kernel
theorem dX4_init_49 : decode cX4_init 49 = .ok (.putfield 34, 3) := by decide +kernel
theorem dX4_init_52 : decode cX4_init 52 = .ok (.return_, 1) := by decide +kernel
theorem dX4_forget_0 : decode cX4_forget 0 = .ok (.aload_n 0, 1) := by decide +kernel
theorem dX4_forget_1 : decode cX4_forget 1 = .ok (.iconst (-1), 1) := by decide +kernel
theorem dX4_forget_2 : decode cX4_forget 2 = .ok (.putfield 28, 3) := by decide +kernel
theorem dX4_forget_5 : decode cX4_forget 5 = .ok (.return_, 1) := by decide +kernel
theorem dX4_isOf_0 : decode cX4_isOf 0 = .ok (.aload_n 0, 1) := by decide +kernel
theorem dX4_isOf_1 : decode cX4_isOf 1 = .ok (.getfield 28, 3) := by decide +kernel
theorem dX4_isOf_4 : decode cX4_isOf 4 = .ok (.iload_n 1, 1) := by decide +kernel
theorem dX4_isOf_5 : decode cX4_isOf 5 = .ok (.if_icmp .ne 23, 3) := by decide +kernel
theorem dX4_isOf_8 : decode cX4_isOf 8 = .ok (.aload_n 0, 1) := by decide +kernel
theorem dX4_isOf_9 : decode cX4_isOf 9 = .ok (.getfield 31, 3) := by decide +kernel
theorem dX4_isOf_12 : decode cX4_isOf 12 = .ok (.iload_n 2, 1) := by decide +kernel
theorem dX4_isOf_13 : decode cX4_isOf 13 = .ok (.if_icmp .ne 15, 3) := by decide +kernel
theorem dX4_isOf_16 : decode cX4_isOf 16 = .ok (.aload_n 0, 1) := by decide +kernel
theorem dX4_isOf_17 : decode cX4_isOf 17 = .ok (.getfield 34, 3) := by decide +kernel
theorem dX4_isOf_20 : decode cX4_isOf 20 = .ok (.iload_n 3, 1) := by decide +kernel
theorem dX4_isOf_21 : decode cX4_isOf 21 = .ok (.if_icmp .ne 7, 3) := by decide +kernel
theorem dX4_isOf_24 : decode cX4_isOf 24 = .ok (.iconst 1, 1) := by decide +kernel
theorem dX4_isOf_25 : decode cX4_isOf 25 = .ok (.goto 4, 3) := by decide +kernel
theorem dX4_isOf_28 : decode cX4_isOf 28 = .ok (.iconst 0, 1) := by decide +kernel
theorem dX4_isOf_29 : decode cX4_isOf 29 = .ok (.ireturn, 1) := by decide +kernel
theorem dX4_keepAs_0 : decode cX4_keepAs 0 = .ok (.aload_n 0, 1) := by decide +kernel
theorem dX4_keepAs_1 : decode cX4_keepAs 1 = .ok (.iload_n 1, 1) := by decide +kernel
theorem dX4_keepAs_2 : decode cX4_keepAs 2 = .ok (.putfield 28, 3) := by decide +kernel
theorem dX4_keepAs_5 : decode cX4_keepAs 5 = .ok (.aload_n 0, 1) := by decide +kernel
theorem dX4_keepAs_6 : decode cX4_keepAs 6 = .ok (.iload_n 2, 1) := by decide +kernel
theorem dX4_keepAs_7 : decode cX4_keepAs 7 = .ok (.putfield 31, 3) := by decide +kernel
theorem dX4_keepAs_10 : decode cX4_keepAs 10 = .ok (.aload_n 0, 1) := by decide +kernel
theorem dX4_keepAs_11 : decode cX4_keepAs 11 = .ok (.iload_n 3, 1) := by decide +kernel
theorem dX4_keepAs_12 : decode cX4_keepAs 12 = .ok (.putfield 34, 3) := by decide +kernel
theorem dX4_keepAs_15 : decode cX4_keepAs 15 = .ok (.return_, 1) := by decide +kernel
theorem dX4_stopAt_0 : decode cX4_stopAt 0 = .ok (.iload_n 1, 1) := by decide +kernel
theorem dX4_stopAt_1 : decode cX4_stopAt 1 = .ok (.ifCond .lt 20, 3) := by decide +kernel
theorem dX4_stopAt_4 : decode cX4_stopAt 4 = .ok (.iload_n 1, 1) := by decide +kernel
theorem dX4_stopAt_5 : decode cX4_stopAt 5 = .ok (.aload_n 0, 1) := by decide +kernel
theorem dX4_stopAt_6 : decode cX4_stopAt 6 = .ok (.getfield 9, 3) := by decide +kernel
theorem dX4_stopAt_9 : decode cX4_stopAt 9 = .ok (.if_icmp .ge 12, 3) := by decide +kernel
theorem dX4_stopAt_12 : decode cX4_stopAt 12 = .ok (.aload_n 0, 1) := by decide +kernel
theorem dX4_stopAt_13 : decode cX4_stopAt 13 = .ok (.getfield 18, 3) := by decide +kernel
theorem dX4_stopAt_16 : decode cX4_stopAt 16 = .ok (.iload_n 1, 1) := by decide +kernel
theorem dX4_stopAt_17 : decode cX4_stopAt 17 = .ok (.iaload, 1) := by decide +kernel
theorem dX4_stopAt_18 : decode cX4_stopAt 18 = .ok (.goto 4, 3) := by decide +kernel
theorem dX4_stopAt_21 : decode cX4_stopAt 21 = .ok (.iconst (-1), 1) := by decide +kernel
theorem dX4_stopAt_22 : decode cX4_stopAt 22 = .ok (.ireturn, 1) := by decide +kernel
theorem dX4_follow_0 : decode cX4_follow 0 = .ok (.aload_n 0, 1) := by decide +kernel
theorem dX4_follow_1 : decode cX4_follow 1 = .ok (.iconst 0, 1) := by decide +kernel
theorem dX4_follow_2 : decode cX4_follow 2 = .ok (.putfield 9, 3) := by decide +kernel
theorem dX4_follow_5 : decode cX4_follow 5 = .ok (.aload_n 0, 1) := by decide +kernel
theorem dX4_follow_6 : decode cX4_follow 6 = .ok (.iconst 0, 1) := by decide +kernel
theorem dX4_follow_7 : decode cX4_follow 7 = .ok (.putfield 15, 3) := by decide +kernel
theorem dX4_follow_10 : decode cX4_follow 10 = .ok (.iload_n 3, 1) := by decide +kernel
theorem dX4_follow_11 : decode cX4_follow 11 = .ok (.lookupswitch 45 #[(0, 25), (1, 36)], 25) := by decide +kernel
theorem dX4_follow_36 : decode cX4_follow 36 = .ok (.aload_n 0, 1) := by decide +kernel
theorem dX4_follow_37 : decode cX4_follow 37 = .ok (.aload_n 1, 1) := by decide +kernel
theorem dX4_follow_38 : decode cX4_follow 38 = .ok (.aload_n 2, 1) := by decide +kernel
theorem dX4_follow_39 : decode cX4_follow 39 = .ok (.iload 4, 2) := by decide +kernel
theorem dX4_follow_41 : decode cX4_follow 41 = .ok (.invokevirtual 37, 3) := by decide +kernel
theorem dX4_follow_44 : decode cX4_follow 44 = .ok (.goto 18, 3) := by decide +kernel
theorem dX4_follow_47 : decode cX4_follow 47 = .ok (.aload_n 0, 1) := by decide +kernel
theorem dX4_follow_48 : decode cX4_follow 48 = .ok (.aload_n 1, 1) := by decide +kernel
theorem dX4_follow_49 : decode cX4_follow 49 = .ok (.aload_n 2, 1) := by decide +kernel
theorem dX4_follow_50 : decode cX4_follow 50 = .ok (.invokevirtual 41, 3) := by decide +kernel
theorem dX4_follow_53 : decode cX4_follow 53 = .ok (.goto 9, 3) := by decide +kernel
theorem dX4_follow_56 : decode cX4_follow 56 = .ok (.aload_n 0, 1) := by decide +kernel
theorem dX4_follow_57 : decode cX4_follow 57 = .ok (.aload_n 1, 1) := by decide +kernel
theorem dX4_follow_58 : decode cX4_follow 58 = .ok (.aload_n 2, 1) := by decide +kernel
theorem dX4_follow_59 : decode cX4_follow 59 = .ok (.invokevirtual 45, 3) := by decide +kernel
theorem dX4_follow_62 : decode cX4_follow 62 = .ok (.return_, 1) := by decide +kernel
theorem dX4_push_0 : decode cX4_push 0 = .ok (.aload_n 0, 1) := by decide +kernel
theorem dX4_push_1 : decode cX4_push 1 = .ok (.getfield 9, 3) := by decide +kernel
theorem dX4_push_4 : decode cX4_push 4 = .ok (.sipush 768, 3) := by decide +kernel
theorem dX4_push_7 : decode cX4_push 7 = .ok (.if_icmp .ge 23, 3) := by decide +kernel
theorem dX4_push_10 : decode cX4_push 10 = .ok (.aload_n 0, 1) := by decide +kernel
theorem dX4_push_11 : decode cX4_push 11 = .ok (.getfield 18, 3) := by decide +kernel
theorem dX4_push_14 : decode cX4_push 14 = .ok (.aload_n 0, 1) := by decide +kernel
theorem dX4_push_15 : decode cX4_push 15 = .ok (.getfield 9, 3) := by decide +kernel
theorem dX4_push_18 : decode cX4_push 18 = .ok (.iload_n 1, 1) := by decide +kernel
theorem dX4_push_19 : decode cX4_push 19 = .ok (.iastore, 1) := by decide +kernel
theorem dX4_push_20 : decode cX4_push 20 = .ok (.aload_n 0, 1) := by decide +kernel
theorem dX4_push_21 : decode cX4_push 21 = .ok (.dup, 1) := by decide +kernel
theorem dX4_push_22 : decode cX4_push 22 = .ok (.getfield 9, 3) := by decide +kernel
theorem dX4_push_25 : decode cX4_push 25 = .ok (.iconst 1, 1) := by decide +kernel
theorem dX4_push_26 : decode cX4_push 26 = .ok (.iadd, 1) := by decide +kernel
theorem dX4_push_27 : decode cX4_push 27 = .ok (.putfield 9, 3) := by decide +kernel
theorem dX4_push_30 : decode cX4_push 30 = .ok (.return_, 1) := by decide +kernel
theorem dX4_keep_0 : decode cX4_keep 0 = .ok (.iconst 0, 1) := by decide +kernel
theorem dX4_keep_1 : decode cX4_keep 1 = .ok (.istore 4, 2) := by decide +kernel
theorem dX4_keep_3 : decode cX4_keep 3 = .ok (.iload 4, 2) := by decide +kernel
theorem dX4_keep_5 : decode cX4_keep 5 = .ok (.aload_n 2, 1) := by decide +kernel
theorem dX4_keep_6 : decode cX4_keep 6 = .ok (.getfield 48, 3) := by decide +kernel
theorem dX4_keep_9 : decode cX4_keep 9 = .ok (.if_icmp .ge 36, 3) := by decide +kernel
theorem dX4_keep_12 : decode cX4_keep 12 = .ok (.aload_n 0, 1) := by decide +kernel
theorem dX4_keep_13 : decode cX4_keep 13 = .ok (.aload_n 1, 1) := by decide +kernel
theorem dX4_keep_14 : decode cX4_keep 14 = .ok (.aload_n 2, 1) := by decide +kernel
theorem dX4_keep_15 : decode cX4_keep 15 = .ok (.getfield 53, 3) := by decide +kernel
theorem dX4_keep_18 : decode cX4_keep 18 = .ok (.iload 4, 2) := by decide +kernel
theorem dX4_keep_20 : decode cX4_keep 20 = .ok (.iaload, 1) := by decide +kernel
theorem dX4_keep_21 : decode cX4_keep 21 = .ok (.iload_n 3, 1) := by decide +kernel
theorem dX4_keep_22 : decode cX4_keep 22 = .ok (.invokevirtual 56, 3) := by decide +kernel
theorem dX4_keep_25 : decode cX4_keep 25 = .ok (.ifCond .eq 14, 3) := by decide +kernel
theorem dX4_keep_28 : decode cX4_keep 28 = .ok (.aload_n 0, 1) := by decide +kernel
theorem dX4_keep_29 : decode cX4_keep 29 = .ok (.aload_n 2, 1) := by decide +kernel
theorem dX4_keep_30 : decode cX4_keep 30 = .ok (.getfield 53, 3) := by decide +kernel
theorem dX4_keep_33 : decode cX4_keep 33 = .ok (.iload 4, 2) := by decide +kernel
theorem dX4_keep_35 : decode cX4_keep 35 = .ok (.iaload, 1) := by decide +kernel
theorem dX4_keep_36 : decode cX4_keep 36 = .ok (.invokevirtual 60, 3) := by decide +kernel
theorem dX4_keep_39 : decode cX4_keep 39 = .ok (.iinc 4 1, 3) := by decide +kernel
theorem dX4_keep_42 : decode cX4_keep 42 = .ok (.goto (-39), 3) := by decide +kernel
theorem dX4_keep_45 : decode cX4_keep 45 = .ok (.return_, 1) := by decide +kernel
theorem dX4_isApart_0 : decode cX4_isApart 0 = .ok (.iconst 0, 1) := by decide +kernel
theorem dX4_isApart_1 : decode cX4_isApart 1 = .ok (.istore 4, 2) := by decide +kernel
theorem dX4_isApart_3 : decode cX4_isApart 3 = .ok (.iload 4, 2) := by decide +kernel
theorem dX4_isApart_5 : decode cX4_isApart 5 = .ok (.aload_n 0, 1) := by decide +kernel
theorem dX4_isApart_6 : decode cX4_isApart 6 = .ok (.getfield 9, 3) := by decide +kernel
theorem dX4_isApart_9 : decode cX4_isApart 9 = .ok (.if_icmp .ge 27, 3) := by decide +kernel
theorem dX4_isApart_12 : decode cX4_isApart 12 = .ok (.aload_n 1, 1) := by decide +kernel
theorem dX4_isApart_13 : decode cX4_isApart 13 = .ok (.iload_n 2, 1) := by decide +kernel
theorem dX4_isApart_14 : decode cX4_isApart 14 = .ok (.aload_n 0, 1) := by decide +kernel
theorem dX4_isApart_15 : decode cX4_isApart 15 = .ok (.getfield 18, 3) := by decide +kernel
theorem dX4_isApart_18 : decode cX4_isApart 18 = .ok (.iload 4, 2) := by decide +kernel
theorem dX4_isApart_20 : decode cX4_isApart 20 = .ok (.iaload, 1) := by decide +kernel
theorem dX4_isApart_21 : decode cX4_isApart 21 = .ok (.invokevirtual 64, 3) := by decide +kernel
theorem dX4_isApart_24 : decode cX4_isApart 24 = .ok (.iload_n 3, 1) := by decide +kernel
theorem dX4_isApart_25 : decode cX4_isApart 25 = .ok (.if_icmp .ge 5, 3) := by decide +kernel
theorem dX4_isApart_28 : decode cX4_isApart 28 = .ok (.iconst 0, 1) := by decide +kernel
theorem dX4_isApart_29 : decode cX4_isApart 29 = .ok (.ireturn, 1) := by decide +kernel
theorem dX4_isApart_30 : decode cX4_isApart 30 = .ok (.iinc 4 1, 3) := by decide +kernel
theorem dX4_isApart_33 : decode cX4_isApart 33 = .ok (.goto (-30), 3) := by decide +kernel
theorem dX4_isApart_36 : decode cX4_isApart 36 = .ok (.iconst 1, 1) := by decide +kernel
theorem dX4_isApart_37 : decode cX4_isApart 37 = .ok (.ireturn, 1) := by decide +kernel
theorem dX4_walk_0 : decode cX4_walk 0 = .ok (.aload_n 2, 1) := by decide +kernel
theorem dX4_walk_1 : decode cX4_walk 1 = .ok (.getfield 53, 3) := by decide +kernel
theorem dX4_walk_4 : decode cX4_walk 4 = .ok (.iconst 0, 1) := by decide +kernel
theorem dX4_walk_5 : decode cX4_walk 5 = .ok (.aload_n 0, 1) := by decide +kernel
theorem dX4_walk_6 : decode cX4_walk 6 = .ok (.getfield 22, 3) := by decide +kernel
theorem dX4_walk_9 : decode cX4_walk 9 = .ok (.iconst 0, 1) := by decide +kernel
theorem dX4_walk_10 : decode cX4_walk 10 = .ok (.aload_n 2, 1) := by decide +kernel
theorem dX4_walk_11 : decode cX4_walk 11 = .ok (.getfield 48, 3) := by decide +kernel
theorem dX4_walk_14 : decode cX4_walk 14 = .ok (.invokestatic 70, 3) := by decide +kernel
theorem dX4_walk_17 : decode cX4_walk 17 = .ok (.aload_n 0, 1) := by decide +kernel
theorem dX4_walk_18 : decode cX4_walk 18 = .ok (.aload_n 2, 1) := by decide +kernel
theorem dX4_walk_19 : decode cX4_walk 19 = .ok (.getfield 48, 3) := by decide +kernel
theorem dX4_walk_22 : decode cX4_walk 22 = .ok (.putfield 25, 3) := by decide +kernel
theorem dX4_walk_25 : decode cX4_walk 25 = .ok (.aload_n 0, 1) := by decide +kernel
theorem dX4_walk_26 : decode cX4_walk 26 = .ok (.getfield 25, 3) := by decide +kernel
theorem dX4_walk_29 : decode cX4_walk 29 = .ok (.ifCond .le 12, 3) := by decide +kernel
theorem dX4_walk_32 : decode cX4_walk 32 = .ok (.aload_n 0, 1) := by decide +kernel
theorem dX4_walk_33 : decode cX4_walk 33 = .ok (.getfield 22, 3) := by decide +kernel
theorem dX4_walk_36 : decode cX4_walk 36 = .ok (.iconst 0, 1) := by decide +kernel
theorem dX4_walk_37 : decode cX4_walk 37 = .ok (.iaload, 1) := by decide +kernel
theorem dX4_walk_38 : decode cX4_walk 38 = .ok (.goto 4, 3) := by decide +kernel
theorem dX4_walk_41 : decode cX4_walk 41 = .ok (.iconst (-1), 1) := by decide +kernel
theorem dX4_walk_42 : decode cX4_walk 42 = .ok (.istore_n 3, 1) := by decide +kernel
theorem dX4_walk_43 : decode cX4_walk 43 = .ok (.iconst 0, 1) := by decide +kernel
theorem dX4_walk_44 : decode cX4_walk 44 = .ok (.istore 4, 2) := by decide +kernel
theorem dX4_walk_46 : decode cX4_walk 46 = .ok (.iload_n 3, 1) := by decide +kernel
theorem dX4_walk_47 : decode cX4_walk 47 = .ok (.iconst (-1), 1) := by decide +kernel
theorem dX4_walk_48 : decode cX4_walk 48 = .ok (.if_icmp .eq 59, 3) := by decide +kernel
theorem dX4_walk_51 : decode cX4_walk 51 = .ok (.iload 4, 2) := by decide +kernel
theorem dX4_walk_53 : decode cX4_walk 53 = .ok (.sipush 384, 3) := by decide +kernel
theorem dX4_walk_56 : decode cX4_walk 56 = .ok (.if_icmp .ge 51, 3) := by decide +kernel
theorem dX4_walk_59 : decode cX4_walk 59 = .ok (.aload_n 0, 1) := by decide +kernel
theorem dX4_walk_60 : decode cX4_walk 60 = .ok (.iload_n 3, 1) := by decide +kernel
theorem dX4_walk_61 : decode cX4_walk 61 = .ok (.invokevirtual 60, 3) := by decide +kernel
theorem dX4_walk_64 : decode cX4_walk 64 = .ok (.aload_n 0, 1) := by decide +kernel
theorem dX4_walk_65 : decode cX4_walk 65 = .ok (.aload_n 1, 1) := by decide +kernel
theorem dX4_walk_66 : decode cX4_walk 66 = .ok (.iload_n 3, 1) := by decide +kernel
theorem dX4_walk_67 : decode cX4_walk 67 = .ok (.invokevirtual 76, 3) := by decide +kernel
theorem dX4_walk_70 : decode cX4_walk 70 = .ok (.istore 5, 2) := by decide +kernel
theorem dX4_walk_72 : decode cX4_walk 72 = .ok (.aload_n 0, 1) := by decide +kernel
theorem dX4_walk_73 : decode cX4_walk 73 = .ok (.dup, 1) := by decide +kernel
theorem dX4_walk_74 : decode cX4_walk 74 = .ok (.getfield 15, 3) := by decide +kernel
theorem dX4_walk_77 : decode cX4_walk 77 = .ok (.iload 5, 2) := by decide +kernel
theorem dX4_walk_79 : decode cX4_walk 79 = .ok (.iconst (-1), 1) := by decide +kernel
theorem dX4_walk_80 : decode cX4_walk 80 = .ok (.if_icmp .ne 7, 3) := by decide +kernel
theorem dX4_walk_83 : decode cX4_walk 83 = .ok (.iconst 0, 1) := by decide +kernel
theorem dX4_walk_84 : decode cX4_walk 84 = .ok (.goto 10, 3) := by decide +kernel
theorem dX4_walk_87 : decode cX4_walk 87 = .ok (.aload_n 1, 1) := by decide +kernel
theorem dX4_walk_88 : decode cX4_walk 88 = .ok (.iload_n 3, 1) := by decide +kernel
theorem dX4_walk_89 : decode cX4_walk 89 = .ok (.iload 5, 2) := by decide +kernel
theorem dX4_walk_91 : decode cX4_walk 91 = .ok (.invokevirtual 64, 3) := by decide +kernel
theorem dX4_walk_94 : decode cX4_walk 94 = .ok (.iadd, 1) := by decide +kernel
theorem dX4_walk_95 : decode cX4_walk 95 = .ok (.putfield 15, 3) := by decide +kernel
theorem dX4_walk_98 : decode cX4_walk 98 = .ok (.iload 5, 2) := by decide +kernel
theorem dX4_walk_100 : decode cX4_walk 100 = .ok (.istore_n 3, 1) := by decide +kernel
theorem dX4_walk_101 : decode cX4_walk 101 = .ok (.iinc 4 1, 3) := by decide +kernel
theorem dX4_walk_104 : decode cX4_walk 104 = .ok (.goto (-58), 3) := by decide +kernel
theorem dX4_walk_107 : decode cX4_walk 107 = .ok (.return_, 1) := by decide +kernel
theorem dX4_nextAfter_0 : decode cX4_nextAfter 0 = .ok (.iconst (-1), 1) := by decide +kernel
theorem dX4_nextAfter_1 : decode cX4_nextAfter 1 = .ok (.istore_n 3, 1) := by decide +kernel
theorem dX4_nextAfter_2 : decode cX4_nextAfter 2 = .ok (.iconst 0, 1) := by decide +kernel
theorem dX4_nextAfter_3 : decode cX4_nextAfter 3 = .ok (.istore 4, 2) := by decide +kernel
theorem dX4_nextAfter_5 : decode cX4_nextAfter 5 = .ok (.iconst 0, 1) := by decide +kernel
theorem dX4_nextAfter_6 : decode cX4_nextAfter 6 = .ok (.istore 5, 2) := by decide +kernel
theorem dX4_nextAfter_8 : decode cX4_nextAfter 8 = .ok (.iconst 0, 1) := by decide +kernel
theorem dX4_nextAfter_9 : decode cX4_nextAfter 9 = .ok (.istore 6, 2) := by decide +kernel
theorem dX4_nextAfter_11 : decode cX4_nextAfter 11 = .ok (.iload 6, 2) := by decide +kernel
theorem dX4_nextAfter_13 : decode cX4_nextAfter 13 = .ok (.aload_n 0, 1) := by decide +kernel
theorem dX4_nextAfter_14 : decode cX4_nextAfter 14 = .ok (.getfield 25, 3) := by decide +kernel
theorem dX4_nextAfter_17 : decode cX4_nextAfter 17 = .ok (.if_icmp .ge 64, 3) := by decide +kernel
theorem dX4_nextAfter_20 : decode cX4_nextAfter 20 = .ok (.aload_n 0, 1) := by decide +kernel
theorem dX4_nextAfter_21 : decode cX4_nextAfter 21 = .ok (.getfield 22, 3) := by decide +kernel
theorem dX4_nextAfter_24 : decode cX4_nextAfter 24 = .ok (.iload 6, 2) := by decide +kernel
theorem dX4_nextAfter_26 : decode cX4_nextAfter 26 = .ok (.iaload, 1) := by decide +kernel
theorem dX4_nextAfter_27 : decode cX4_nextAfter 27 = .ok (.istore 7, 2) := by decide +kernel
theorem dX4_nextAfter_29 : decode cX4_nextAfter 29 = .ok (.iload 7, 2) := by decide +kernel
theorem dX4_nextAfter_31 : decode cX4_nextAfter 31 = .ok (.iload_n 2, 1) := by decide +kernel
theorem dX4_nextAfter_32 : decode cX4_nextAfter 32 = .ok (.if_icmp .eq 43, 3) := by decide +kernel
theorem dX4_nextAfter_35 : decode cX4_nextAfter 35 = .ok (.aload_n 0, 1) := by decide +kernel
theorem dX4_nextAfter_36 : decode cX4_nextAfter 36 = .ok (.getfield 22, 3) := by decide +kernel
theorem dX4_nextAfter_39 : decode cX4_nextAfter 39 = .ok (.iload 5, 2) := by decide +kernel
theorem dX4_nextAfter_41 : decode cX4_nextAfter 41 = .ok (.iload 7, 2) := by decide +kernel
theorem dX4_nextAfter_43 : decode cX4_nextAfter 43 = .ok (.iastore, 1) := by decide +kernel
theorem dX4_nextAfter_44 : decode cX4_nextAfter 44 = .ok (.iinc 5 1, 3) := by decide +kernel
theorem dX4_nextAfter_47 : decode cX4_nextAfter 47 = .ok (.aload_n 1, 1) := by decide +kernel
theorem dX4_nextAfter_48 : decode cX4_nextAfter 48 = .ok (.iload 7, 2) := by decide +kernel
theorem dX4_nextAfter_50 : decode cX4_nextAfter 50 = .ok (.iload_n 2, 1) := by decide +kernel
theorem dX4_nextAfter_51 : decode cX4_nextAfter 51 = .ok (.invokevirtual 64, 3) := by decide +kernel
theorem dX4_nextAfter_54 : decode cX4_nextAfter 54 = .ok (.istore 8, 2) := by decide +kernel
theorem dX4_nextAfter_56 : decode cX4_nextAfter 56 = .ok (.iload_n 3, 1) := by decide +kernel
theorem dX4_nextAfter_57 : decode cX4_nextAfter 57 = .ok (.iconst (-1), 1) := by decide +kernel
theorem dX4_nextAfter_58 : decode cX4_nextAfter 58 = .ok (.if_icmp .eq 10, 3) := by decide +kernel
theorem dX4_nextAfter_61 : decode cX4_nextAfter 61 = .ok (.iload 8, 2) := by decide +kernel
theorem dX4_nextAfter_63 : decode cX4_nextAfter 63 = .ok (.iload 4, 2) := by decide +kernel
theorem dX4_nextAfter_65 : decode cX4_nextAfter 65 = .ok (.if_icmp .ge 10, 3) := by decide +kernel
theorem dX4_nextAfter_68 : decode cX4_nextAfter 68 = .ok (.iload 7, 2) := by decide +kernel
theorem dX4_nextAfter_70 : decode cX4_nextAfter 70 = .ok (.istore_n 3, 1) := by decide +kernel
theorem dX4_nextAfter_71 : decode cX4_nextAfter 71 = .ok (.iload 8, 2) := by decide +kernel
theorem dX4_nextAfter_73 : decode cX4_nextAfter 73 = .ok (.istore 4, 2) := by decide +kernel
theorem dX4_nextAfter_75 : decode cX4_nextAfter 75 = .ok (.iinc 6 1, 3) := by decide +kernel
theorem dX4_nextAfter_78 : decode cX4_nextAfter 78 = .ok (.goto (-67), 3) := by decide +kernel
theorem dX4_nextAfter_81 : decode cX4_nextAfter 81 = .ok (.aload_n 0, 1) := by decide +kernel
theorem dX4_nextAfter_82 : decode cX4_nextAfter 82 = .ok (.iload 5, 2) := by decide +kernel
theorem dX4_nextAfter_84 : decode cX4_nextAfter 84 = .ok (.putfield 25, 3) := by decide +kernel
theorem dX4_nextAfter_87 : decode cX4_nextAfter 87 = .ok (.iload_n 3, 1) := by decide +kernel
theorem dX4_nextAfter_88 : decode cX4_nextAfter 88 = .ok (.ireturn, 1) := by decide +kernel
theorem dX4_wrap_0 : decode cX4_wrap 0 = .ok (.iconst 0, 1) := by decide +kernel
theorem dX4_wrap_1 : decode cX4_wrap 1 = .ok (.istore_n 3, 1) := by decide +kernel
theorem dX4_wrap_2 : decode cX4_wrap 2 = .ok (.iload_n 3, 1) := by decide +kernel
theorem dX4_wrap_3 : decode cX4_wrap 3 = .ok (.aload_n 2, 1) := by decide +kernel
theorem dX4_wrap_4 : decode cX4_wrap 4 = .ok (.getfield 48, 3) := by decide +kernel
theorem dX4_wrap_7 : decode cX4_wrap 7 = .ok (.if_icmp .ge 21, 3) := by decide +kernel
theorem dX4_wrap_10 : decode cX4_wrap 10 = .ok (.aload_n 0, 1) := by decide +kernel
theorem dX4_wrap_11 : decode cX4_wrap 11 = .ok (.aload_n 1, 1) := by decide +kernel
theorem dX4_wrap_12 : decode cX4_wrap 12 = .ok (.aload_n 2, 1) := by decide +kernel
theorem dX4_wrap_13 : decode cX4_wrap 13 = .ok (.getfield 53, 3) := by decide +kernel
theorem dX4_wrap_16 : decode cX4_wrap 16 = .ok (.iload_n 3, 1) := by decide +kernel
theorem dX4_wrap_17 : decode cX4_wrap 17 = .ok (.iaload, 1) := by decide +kernel
theorem dX4_wrap_18 : decode cX4_wrap 18 = .ok (.iconst 1, 1) := by decide +kernel
theorem dX4_wrap_19 : decode cX4_wrap 19 = .ok (.invokevirtual 80, 3) := by decide +kernel
theorem dX4_wrap_22 : decode cX4_wrap 22 = .ok (.iinc 3 1, 3) := by decide +kernel
theorem dX4_wrap_25 : decode cX4_wrap 25 = .ok (.goto (-23), 3) := by decide +kernel
theorem dX4_wrap_28 : decode cX4_wrap 28 = .ok (.aload_n 0, 1) := by decide +kernel
theorem dX4_wrap_29 : decode cX4_wrap 29 = .ok (.getfield 9, 3) := by decide +kernel
theorem dX4_wrap_32 : decode cX4_wrap 32 = .ok (.istore_n 3, 1) := by decide +kernel
theorem dX4_wrap_33 : decode cX4_wrap 33 = .ok (.aload_n 2, 1) := by decide +kernel
theorem dX4_wrap_34 : decode cX4_wrap 34 = .ok (.getfield 48, 3) := by decide +kernel
theorem dX4_wrap_37 : decode cX4_wrap 37 = .ok (.iconst 2, 1) := by decide +kernel
theorem dX4_wrap_38 : decode cX4_wrap 38 = .ok (.isub, 1) := by decide +kernel
theorem dX4_wrap_39 : decode cX4_wrap 39 = .ok (.istore 4, 2) := by decide +kernel
theorem dX4_wrap_41 : decode cX4_wrap 41 = .ok (.iload 4, 2) := by decide +kernel
theorem dX4_wrap_43 : decode cX4_wrap 43 = .ok (.ifCond .lt 22, 3) := by decide +kernel
theorem dX4_wrap_46 : decode cX4_wrap 46 = .ok (.aload_n 0, 1) := by decide +kernel
theorem dX4_wrap_47 : decode cX4_wrap 47 = .ok (.aload_n 1, 1) := by decide +kernel
theorem dX4_wrap_48 : decode cX4_wrap 48 = .ok (.aload_n 2, 1) := by decide +kernel
theorem dX4_wrap_49 : decode cX4_wrap 49 = .ok (.getfield 53, 3) := by decide +kernel
theorem dX4_wrap_52 : decode cX4_wrap 52 = .ok (.iload 4, 2) := by decide +kernel
theorem dX4_wrap_54 : decode cX4_wrap 54 = .ok (.iaload, 1) := by decide +kernel
theorem dX4_wrap_55 : decode cX4_wrap 55 = .ok (.iload_n 3, 1) := by decide +kernel
theorem dX4_wrap_56 : decode cX4_wrap 56 = .ok (.invokevirtual 80, 3) := by decide +kernel
theorem dX4_wrap_59 : decode cX4_wrap 59 = .ok (.iinc 4 (-1), 3) := by decide +kernel
theorem dX4_wrap_62 : decode cX4_wrap 62 = .ok (.goto (-21), 3) := by decide +kernel
theorem dX4_wrap_65 : decode cX4_wrap 65 = .ok (.aload_n 0, 1) := by decide +kernel
theorem dX4_wrap_66 : decode cX4_wrap 66 = .ok (.getfield 9, 3) := by decide +kernel
theorem dX4_wrap_69 : decode cX4_wrap 69 = .ok (.iconst 1, 1) := by decide +kernel
theorem dX4_wrap_70 : decode cX4_wrap 70 = .ok (.if_icmp .le 13, 3) := by decide +kernel
theorem dX4_wrap_73 : decode cX4_wrap 73 = .ok (.aload_n 0, 1) := by decide +kernel
theorem dX4_wrap_74 : decode cX4_wrap 74 = .ok (.dup, 1) := by decide +kernel
theorem dX4_wrap_75 : decode cX4_wrap 75 = .ok (.getfield 9, 3) := by decide +kernel
theorem dX4_wrap_78 : decode cX4_wrap 78 = .ok (.iconst 1, 1) := by decide +kernel
theorem dX4_wrap_79 : decode cX4_wrap 79 = .ok (.isub, 1) := by decide +kernel
theorem dX4_wrap_80 : decode cX4_wrap 80 = .ok (.putfield 9, 3) := by decide +kernel
theorem dX4_wrap_83 : decode cX4_wrap 83 = .ok (.return_, 1) := by decide +kernel
theorem dX4_turnTo_0 : decode cX4_turnTo 0 = .ok (.aload_n 0, 1) := by decide +kernel
theorem dX4_turnTo_1 : decode cX4_turnTo 1 = .ok (.getfield 9, 3) := by decide +kernel
theorem dX4_turnTo_4 : decode cX4_turnTo 4 = .ok (.iload_n 3, 1) := by decide +kernel
theorem dX4_turnTo_5 : decode cX4_turnTo 5 = .ok (.if_icmp .le 54, 3) := by decide +kernel
theorem dX4_turnTo_8 : decode cX4_turnTo 8 = .ok (.aload_n 0, 1) := by decide +kernel
theorem dX4_turnTo_9 : decode cX4_turnTo 9 = .ok (.getfield 9, 3) := by decide +kernel
theorem dX4_turnTo_12 : decode cX4_turnTo 12 = .ok (.iconst 1, 1) := by decide +kernel
theorem dX4_turnTo_13 : decode cX4_turnTo 13 = .ok (.if_icmp .le 46, 3) := by decide +kernel
theorem dX4_turnTo_16 : decode cX4_turnTo 16 = .ok (.aload_n 1, 1) := by decide +kernel
theorem dX4_turnTo_17 : decode cX4_turnTo 17 = .ok (.aload_n 0, 1) := by decide +kernel
theorem dX4_turnTo_18 : decode cX4_turnTo 18 = .ok (.getfield 18, 3) := by decide +kernel
theorem dX4_turnTo_21 : decode cX4_turnTo 21 = .ok (.aload_n 0, 1) := by decide +kernel
theorem dX4_turnTo_22 : decode cX4_turnTo 22 = .ok (.getfield 9, 3) := by decide +kernel
theorem dX4_turnTo_25 : decode cX4_turnTo 25 = .ok (.iconst 2, 1) := by decide +kernel
theorem dX4_turnTo_26 : decode cX4_turnTo 26 = .ok (.isub, 1) := by decide +kernel
theorem dX4_turnTo_27 : decode cX4_turnTo 27 = .ok (.iaload, 1) := by decide +kernel
theorem dX4_turnTo_28 : decode cX4_turnTo 28 = .ok (.aload_n 0, 1) := by decide +kernel
theorem dX4_turnTo_29 : decode cX4_turnTo 29 = .ok (.getfield 18, 3) := by decide +kernel
theorem dX4_turnTo_32 : decode cX4_turnTo 32 = .ok (.aload_n 0, 1) := by decide +kernel
theorem dX4_turnTo_33 : decode cX4_turnTo 33 = .ok (.getfield 9, 3) := by decide +kernel
theorem dX4_turnTo_36 : decode cX4_turnTo 36 = .ok (.iconst 1, 1) := by decide +kernel
theorem dX4_turnTo_37 : decode cX4_turnTo 37 = .ok (.isub, 1) := by decide +kernel
theorem dX4_turnTo_38 : decode cX4_turnTo 38 = .ok (.iaload, 1) := by decide +kernel
theorem dX4_turnTo_39 : decode cX4_turnTo 39 = .ok (.iload_n 2, 1) := by decide +kernel
theorem dX4_turnTo_40 : decode cX4_turnTo 40 = .ok (.invokestatic 84, 3) := by decide +kernel
theorem dX4_turnTo_43 : decode cX4_turnTo 43 = .ok (.ifCond .gt 16, 3) := by decide +kernel
theorem dX4_turnTo_46 : decode cX4_turnTo 46 = .ok (.aload_n 0, 1) := by decide +kernel
theorem dX4_turnTo_47 : decode cX4_turnTo 47 = .ok (.dup, 1) := by decide +kernel
theorem dX4_turnTo_48 : decode cX4_turnTo 48 = .ok (.getfield 9, 3) := by decide +kernel
theorem dX4_turnTo_51 : decode cX4_turnTo 51 = .ok (.iconst 1, 1) := by decide +kernel
theorem dX4_turnTo_52 : decode cX4_turnTo 52 = .ok (.isub, 1) := by decide +kernel
theorem dX4_turnTo_53 : decode cX4_turnTo 53 = .ok (.putfield 9, 3) := by decide +kernel
theorem dX4_turnTo_56 : decode cX4_turnTo 56 = .ok (.goto (-56), 3) := by decide +kernel
theorem dX4_turnTo_59 : decode cX4_turnTo 59 = .ok (.aload_n 0, 1) := by decide +kernel
theorem dX4_turnTo_60 : decode cX4_turnTo 60 = .ok (.iload_n 2, 1) := by decide +kernel
theorem dX4_turnTo_61 : decode cX4_turnTo 61 = .ok (.invokevirtual 60, 3) := by decide +kernel
theorem dX4_turnTo_64 : decode cX4_turnTo 64 = .ok (.return_, 1) := by decide +kernel
theorem dX4_turn_0 : decode cX4_turn 0 = .ok (.aload_n 0, 1) := by decide +kernel
theorem dX4_turn_1 : decode cX4_turn 1 = .ok (.getfield 88, 3) := by decide +kernel
theorem dX4_turn_4 : decode cX4_turn 4 = .ok (.iload_n 2, 1) := by decide +kernel
theorem dX4_turn_5 : decode cX4_turn 5 = .ok (.iaload, 1) := by decide +kernel
theorem dX4_turn_6 : decode cX4_turn 6 = .ok (.aload_n 0, 1) := by decide +kernel
theorem dX4_turn_7 : decode cX4_turn 7 = .ok (.getfield 88, 3) := by decide +kernel
theorem dX4_turn_10 : decode cX4_turn 10 = .ok (.iload_n 1, 1) := by decide +kernel
theorem dX4_turn_11 : decode cX4_turn 11 = .ok (.iaload, 1) := by decide +kernel
theorem dX4_turn_12 : decode cX4_turn 12 = .ok (.isub, 1) := by decide +kernel
theorem dX4_turn_13 : decode cX4_turn 13 = .ok (.istore 4, 2) := by decide +kernel
theorem dX4_turn_15 : decode cX4_turn 15 = .ok (.aload_n 0, 1) := by decide +kernel
theorem dX4_turn_16 : decode cX4_turn 16 = .ok (.getfield 91, 3) := by decide +kernel
theorem dX4_turn_19 : decode cX4_turn 19 = .ok (.iload_n 2, 1) := by decide +kernel
theorem dX4_turn_20 : decode cX4_turn 20 = .ok (.iaload, 1) := by decide +kernel
theorem dX4_turn_21 : decode cX4_turn 21 = .ok (.aload_n 0, 1) := by decide +kernel
theorem dX4_turn_22 : decode cX4_turn 22 = .ok (.getfield 91, 3) := by decide +kernel
theorem dX4_turn_25 : decode cX4_turn 25 = .ok (.iload_n 1, 1) := by decide +kernel
theorem dX4_turn_26 : decode cX4_turn 26 = .ok (.iaload, 1) := by decide +kernel
theorem dX4_turn_27 : decode cX4_turn 27 = .ok (.isub, 1) := by decide +kernel
theorem dX4_turn_28 : decode cX4_turn 28 = .ok (.istore 5, 2) := by decide +kernel
theorem dX4_turn_30 : decode cX4_turn 30 = .ok (.aload_n 0, 1) := by decide +kernel
theorem dX4_turn_31 : decode cX4_turn 31 = .ok (.getfield 88, 3) := by decide +kernel
theorem dX4_turn_34 : decode cX4_turn 34 = .ok (.iload_n 3, 1) := by decide +kernel
theorem dX4_turn_35 : decode cX4_turn 35 = .ok (.iaload, 1) := by decide +kernel
theorem dX4_turn_36 : decode cX4_turn 36 = .ok (.aload_n 0, 1) := by decide +kernel
theorem dX4_turn_37 : decode cX4_turn 37 = .ok (.getfield 88, 3) := by decide +kernel
theorem dX4_turn_40 : decode cX4_turn 40 = .ok (.iload_n 2, 1) := by decide +kernel
theorem dX4_turn_41 : decode cX4_turn 41 = .ok (.iaload, 1) := by decide +kernel
theorem dX4_turn_42 : decode cX4_turn 42 = .ok (.isub, 1) := by decide +kernel
theorem dX4_turn_43 : decode cX4_turn 43 = .ok (.istore 6, 2) := by decide +kernel
theorem dX4_turn_45 : decode cX4_turn 45 = .ok (.aload_n 0, 1) := by decide +kernel
theorem dX4_turn_46 : decode cX4_turn 46 = .ok (.getfield 91, 3) := by decide +kernel
theorem dX4_turn_49 : decode cX4_turn 49 = .ok (.iload_n 3, 1) := by decide +kernel
theorem dX4_turn_50 : decode cX4_turn 50 = .ok (.iaload, 1) := by decide +kernel
theorem dX4_turn_51 : decode cX4_turn 51 = .ok (.aload_n 0, 1) := by decide +kernel
theorem dX4_turn_52 : decode cX4_turn 52 = .ok (.getfield 91, 3) := by decide +kernel
theorem dX4_turn_55 : decode cX4_turn 55 = .ok (.iload_n 2, 1) := by decide +kernel
theorem dX4_turn_56 : decode cX4_turn 56 = .ok (.iaload, 1) := by decide +kernel
theorem dX4_turn_57 : decode cX4_turn 57 = .ok (.isub, 1) := by decide +kernel
theorem dX4_turn_58 : decode cX4_turn 58 = .ok (.istore 7, 2) := by decide +kernel
theorem dX4_turn_60 : decode cX4_turn 60 = .ok (.iload 4, 2) := by decide +kernel
theorem dX4_turn_62 : decode cX4_turn 62 = .ok (.iload 7, 2) := by decide +kernel
theorem dX4_turn_64 : decode cX4_turn 64 = .ok (.imul, 1) := by decide +kernel
theorem dX4_turn_65 : decode cX4_turn 65 = .ok (.iload 5, 2) := by decide +kernel
theorem dX4_turn_67 : decode cX4_turn 67 = .ok (.iload 6, 2) := by decide +kernel
theorem dX4_turn_69 : decode cX4_turn 69 = .ok (.imul, 1) := by decide +kernel
theorem dX4_turn_70 : decode cX4_turn 70 = .ok (.isub, 1) := by decide +kernel
theorem dX4_turn_71 : decode cX4_turn 71 = .ok (.ireturn, 1) := by decide +kernel
theorem dX4_doubleArea_0 : decode cX4_doubleArea 0 = .ok (.iconst 0, 1) := by decide +kernel
theorem dX4_doubleArea_1 : decode cX4_doubleArea 1 = .ok (.istore_n 2, 1) := by decide +kernel
theorem dX4_doubleArea_2 : decode cX4_doubleArea 2 = .ok (.iconst 0, 1) := by decide +kernel
theorem dX4_doubleArea_3 : decode cX4_doubleArea 3 = .ok (.istore_n 3, 1) := by decide +kernel
theorem dX4_doubleArea_4 : decode cX4_doubleArea 4 = .ok (.iload_n 3, 1) := by decide +kernel
theorem dX4_doubleArea_5 : decode cX4_doubleArea 5 = .ok (.aload_n 0, 1) := by decide +kernel
theorem dX4_doubleArea_6 : decode cX4_doubleArea 6 = .ok (.getfield 9, 3) := by decide +kernel
theorem dX4_doubleArea_9 : decode cX4_doubleArea 9 = .ok (.if_icmp .ge 75, 3) := by decide +kernel
theorem dX4_doubleArea_12 : decode cX4_doubleArea 12 = .ok (.aload_n 0, 1) := by decide +kernel
theorem dX4_doubleArea_13 : decode cX4_doubleArea 13 = .ok (.getfield 18, 3) := by decide +kernel
theorem dX4_doubleArea_16 : decode cX4_doubleArea 16 = .ok (.iload_n 3, 1) := by decide +kernel
theorem dX4_doubleArea_17 : decode cX4_doubleArea 17 = .ok (.iaload, 1) := by decide +kernel
theorem dX4_doubleArea_18 : decode cX4_doubleArea 18 = .ok (.istore 4, 2) := by decide +kernel
theorem dX4_doubleArea_20 : decode cX4_doubleArea 20 = .ok (.aload_n 0, 1) := by decide +kernel
theorem dX4_doubleArea_21 : decode cX4_doubleArea 21 = .ok (.getfield 18, 3) := by decide +kernel
theorem dX4_doubleArea_24 : decode cX4_doubleArea 24 = .ok (.iload_n 3, 1) := by decide +kernel
theorem dX4_doubleArea_25 : decode cX4_doubleArea 25 = .ok (.iconst 1, 1) := by decide +kernel
theorem dX4_doubleArea_26 : decode cX4_doubleArea 26 = .ok (.iadd, 1) := by decide +kernel
theorem dX4_doubleArea_27 : decode cX4_doubleArea 27 = .ok (.aload_n 0, 1) := by decide +kernel
theorem dX4_doubleArea_28 : decode cX4_doubleArea 28 = .ok (.getfield 9, 3) := by decide +kernel
theorem dX4_doubleArea_31 : decode cX4_doubleArea 31 = .ok (.if_icmp .ge 9, 3) := by decide +kernel
theorem dX4_doubleArea_34 : decode cX4_doubleArea 34 = .ok (.iload_n 3, 1) := by decide +kernel
theorem dX4_doubleArea_35 : decode cX4_doubleArea 35 = .ok (.iconst 1, 1) := by decide +kernel
theorem dX4_doubleArea_36 : decode cX4_doubleArea 36 = .ok (.iadd, 1) := by decide +kernel
theorem dX4_doubleArea_37 : decode cX4_doubleArea 37 = .ok (.goto 4, 3) := by decide +kernel
theorem dX4_doubleArea_40 : decode cX4_doubleArea 40 = .ok (.iconst 0, 1) := by decide +kernel
theorem dX4_doubleArea_41 : decode cX4_doubleArea 41 = .ok (.iaload, 1) := by decide +kernel
theorem dX4_doubleArea_42 : decode cX4_doubleArea 42 = .ok (.istore 5, 2) := by decide +kernel
theorem dX4_doubleArea_44 : decode cX4_doubleArea 44 = .ok (.iload_n 2, 1) := by decide +kernel
theorem dX4_doubleArea_45 : decode cX4_doubleArea 45 = .ok (.aload_n 1, 1) := by decide +kernel
theorem dX4_doubleArea_46 : decode cX4_doubleArea 46 = .ok (.getfield 88, 3) := by decide +kernel
theorem dX4_doubleArea_49 : decode cX4_doubleArea 49 = .ok (.iload 4, 2) := by decide +kernel
theorem dX4_doubleArea_51 : decode cX4_doubleArea 51 = .ok (.iaload, 1) := by decide +kernel
theorem dX4_doubleArea_52 : decode cX4_doubleArea 52 = .ok (.aload_n 1, 1) := by decide +kernel
theorem dX4_doubleArea_53 : decode cX4_doubleArea 53 = .ok (.getfield 91, 3) := by decide +kernel
theorem dX4_doubleArea_56 : decode cX4_doubleArea 56 = .ok (.iload 5, 2) := by decide +kernel
theorem dX4_doubleArea_58 : decode cX4_doubleArea 58 = .ok (.iaload, 1) := by decide +kernel
theorem dX4_doubleArea_59 : decode cX4_doubleArea 59 = .ok (.imul, 1) := by decide +kernel
theorem dX4_doubleArea_60 : decode cX4_doubleArea 60 = .ok (.aload_n 1, 1) := by decide +kernel
theorem dX4_doubleArea_61 : decode cX4_doubleArea 61 = .ok (.getfield 88, 3) := by decide +kernel
theorem dX4_doubleArea_64 : decode cX4_doubleArea 64 = .ok (.iload 5, 2) := by decide +kernel
theorem dX4_doubleArea_66 : decode cX4_doubleArea 66 = .ok (.iaload, 1) := by decide +kernel
theorem dX4_doubleArea_67 : decode cX4_doubleArea 67 = .ok (.aload_n 1, 1) := by decide +kernel
theorem dX4_doubleArea_68 : decode cX4_doubleArea 68 = .ok (.getfield 91, 3) := by decide +kernel
theorem dX4_doubleArea_71 : decode cX4_doubleArea 71 = .ok (.iload 4, 2) := by decide +kernel
theorem dX4_doubleArea_73 : decode cX4_doubleArea 73 = .ok (.iaload, 1) := by decide +kernel
theorem dX4_doubleArea_74 : decode cX4_doubleArea 74 = .ok (.imul, 1) := by decide +kernel
theorem dX4_doubleArea_75 : decode cX4_doubleArea 75 = .ok (.isub, 1) := by decide +kernel
theorem dX4_doubleArea_76 : decode cX4_doubleArea 76 = .ok (.iadd, 1) := by decide +kernel
theorem dX4_doubleArea_77 : decode cX4_doubleArea 77 = .ok (.istore_n 2, 1) := by decide +kernel
theorem dX4_doubleArea_78 : decode cX4_doubleArea 78 = .ok (.iinc 3 1, 3) := by decide +kernel
theorem dX4_doubleArea_81 : decode cX4_doubleArea 81 = .ok (.goto (-77), 3) := by decide +kernel
theorem dX4_doubleArea_84 : decode cX4_doubleArea 84 = .ok (.iload_n 2, 1) := by decide +kernel
theorem dX4_doubleArea_85 : decode cX4_doubleArea 85 = .ok (.ireturn, 1) := by decide +kernel
theorem dX5_init_0 : decode cX5_init 0 = .ok (.aload_n 0, 1) := by decide +kernel
theorem dX5_init_1 : decode cX5_init 1 = .ok (.invokespecial 3, 3) := by decide +kernel
theorem dX5_init_4 : decode cX5_init 4 = .ok (.aload_n 0, 1) := by decide +kernel
theorem dX5_init_5 : decode cX5_init 5 = .ok (.new 9, 3) := by decide +kernel
theorem dX5_init_8 : decode cX5_init 8 = .ok (.dup, 1) := by decide +kernel
theorem dX5_init_9 : decode cX5_init 9 = .ok (.invokespecial 11, 3) := by decide +kernel
theorem dX5_init_12 : decode cX5_init 12 = .ok (.putfield 12, 3) := by decide +kernel
theorem dX5_init_15 : decode cX5_init 15 = .ok (.aload_n 0, 1) := by decide +kernel
theorem dX5_init_16 : decode cX5_init 16 = .ok (.bipush 100, 2) := by decide +kernel
theorem dX5_init_18 : decode cX5_init 18 = .ok (.putfield 18, 3) := by decide +kernel
theorem dX5_init_21 : decode cX5_init 21 = .ok (.aload_n 0, 1) := by decide +kernel
theorem dX5_init_22 : decode cX5_init 22 = .ok (.iconst 5, 1) := by decide +kernel
theorem dX5_init_23 : decode cX5_init 23 = .ok (.putfield 22, 3) := by decide +kernel
theorem dX5_init_26 : decode cX5_init 26 = .ok (.aload_n 0, 1) := by decide +kernel
theorem dX5_init_27 : decode cX5_init 27 = .ok (.new 25, 3) := by decide +kernel
theorem dX5_init_30 : decode cX5_init 30 = .ok (.dup, 1) := by decide +kernel
theorem dX5_init_31 : decode cX5_init 31 = .ok (.invokespecial 27, 3) := by decide +kernel
theorem dX5_init_34 : decode cX5_init 34 = .ok (.putfield 28, 3) := by decide +kernel
theorem dX5_init_37 : decode cX5_init 37 = .ok (.aload_n 0, 1) := by decide +kernel
theorem dX5_init_38 : decode cX5_init 38 = .ok (.new 32, 3) := by decide +kernel
theorem dX5_init_41 : decode cX5_init 41 = .ok (.dup, 1) := by decide +kernel
theorem dX5_init_42 : decode cX5_init 42 = .ok (.invokespecial 34, 3) := by decide +kernel
theorem dX5_init_45 : decode cX5_init 45 = .ok (.putfield 35, 3) := by decide +kernel
theorem dX5_init_48 : decode cX5_init 48 = .ok (.aload_n 0, 1) := by decide +kernel
theorem dX5_init_49 : decode cX5_init 49 = .ok (.new 39, 3) := by decide +kernel
theorem dX5_init_52 : decode cX5_init 52 = .ok (.dup, 1) := by decide +kernel
theorem dX5_init_53 : decode cX5_init 53 = .ok (.invokespecial 41, 3) := by decide +kernel
theorem dX5_init_56 : decode cX5_init 56 = .ok (.putfield 42, 3) := by decide +kernel
theorem dX5_init_59 : decode cX5_init 59 = .ok (.return_, 1) := by decide +kernel
theorem dX5_tallied_0 : decode cX5_tallied 0 = .ok (.aload_n 0, 1) := by decide +kernel
theorem dX5_tallied_1 : decode cX5_tallied 1 = .ok (.getfield 28, 3) := by decide +kernel
theorem dX5_tallied_4 : decode cX5_tallied 4 = .ok (.getfield 46, 3) := by decide +kernel
theorem dX5_tallied_7 : decode cX5_tallied 7 = .ok (.ifCond .ne 22, 3) := by decide +kernel
theorem dX5_tallied_10 : decode cX5_tallied 10 = .ok (.aload_n 0, 1) := by decide +kernel
theorem dX5_tallied_11 : decode cX5_tallied 11 = .ok (.getfield 28, 3) := by decide +kernel
theorem dX5_tallied_14 : decode cX5_tallied 14 = .ok (.aload_n 0, 1) := by decide +kernel
theorem dX5_tallied_15 : decode cX5_tallied 15 = .ok (.getfield 12, 3) := by decide +kernel
theorem dX5_tallied_18 : decode cX5_tallied 18 = .ok (.aload_n 0, 1) := by decide +kernel
theorem dX5_tallied_19 : decode cX5_tallied 19 = .ok (.getfield 18, 3) := by decide +kernel
theorem dX5_tallied_22 : decode cX5_tallied 22 = .ok (.aload_n 0, 1) := by decide +kernel
theorem dX5_tallied_23 : decode cX5_tallied 23 = .ok (.getfield 22, 3) := by decide +kernel
theorem dX5_tallied_26 : decode cX5_tallied 26 = .ok (.invokevirtual 50, 3) := by decide +kernel
theorem dX5_tallied_29 : decode cX5_tallied 29 = .ok (.aload_n 0, 1) := by decide +kernel
theorem dX5_tallied_30 : decode cX5_tallied 30 = .ok (.getfield 28, 3) := by decide +kernel
theorem dX5_tallied_33 : decode cX5_tallied 33 = .ok (.areturn, 1) := by decide +kernel
theorem dX5_ranked_0 : decode cX5_ranked 0 = .ok (.aload_n 0, 1) := by decide +kernel
theorem dX5_ranked_1 : decode cX5_ranked 1 = .ok (.getfield 35, 3) := by decide +kernel
theorem dX5_ranked_4 : decode cX5_ranked 4 = .ok (.aload_n 0, 1) := by decide +kernel
theorem dX5_ranked_5 : decode cX5_ranked 5 = .ok (.getfield 12, 3) := by decide +kernel
theorem dX5_ranked_8 : decode cX5_ranked 8 = .ok (.aload_n 0, 1) := by decide +kernel
theorem dX5_ranked_9 : decode cX5_ranked 9 = .ok (.invokevirtual 54, 3) := by decide +kernel
theorem dX5_ranked_12 : decode cX5_ranked 12 = .ok (.getfield 58, 3) := by decide +kernel
theorem dX5_ranked_15 : decode cX5_ranked 15 = .ok (.invokevirtual 62, 3) := by decide +kernel
theorem dX5_ranked_18 : decode cX5_ranked 18 = .ok (.aload_n 0, 1) := by decide +kernel
theorem dX5_ranked_19 : decode cX5_ranked 19 = .ok (.getfield 35, 3) := by decide +kernel
theorem dX5_ranked_22 : decode cX5_ranked 22 = .ok (.areturn, 1) := by decide +kernel
theorem dX5_crowded_0 : decode cX5_crowded 0 = .ok (.aload_n 0, 1) := by decide +kernel
theorem dX5_crowded_1 : decode cX5_crowded 1 = .ok (.getfield 42, 3) := by decide +kernel
theorem dX5_crowded_4 : decode cX5_crowded 4 = .ok (.iload_n 1, 1) := by decide +kernel
theorem dX5_crowded_5 : decode cX5_crowded 5 = .ok (.invokevirtual 66, 3) := by decide +kernel
theorem dX5_crowded_8 : decode cX5_crowded 8 = .ok (.ifCond .ne 41, 3) := by decide +kernel
theorem dX5_crowded_11 : decode cX5_crowded 11 = .ok (.aload_n 0, 1) := by decide +kernel
theorem dX5_crowded_12 : decode cX5_crowded 12 = .ok (.getfield 35, 3) := by decide +kernel
theorem dX5_crowded_15 : decode cX5_crowded 15 = .ok (.aload_n 0, 1) := by decide +kernel
theorem dX5_crowded_16 : decode cX5_crowded 16 = .ok (.getfield 12, 3) := by decide +kernel
theorem dX5_crowded_19 : decode cX5_crowded 19 = .ok (.aload_n 0, 1) := by decide +kernel
theorem dX5_crowded_20 : decode cX5_crowded 20 = .ok (.invokevirtual 54, 3) := by decide +kernel
theorem dX5_crowded_23 : decode cX5_crowded 23 = .ok (.getfield 58, 3) := by decide +kernel
theorem dX5_crowded_26 : decode cX5_crowded 26 = .ok (.invokevirtual 62, 3) := by decide +kernel
theorem dX5_crowded_29 : decode cX5_crowded 29 = .ok (.aload_n 0, 1) := by decide +kernel
theorem dX5_crowded_30 : decode cX5_crowded 30 = .ok (.getfield 42, 3) := by decide +kernel
theorem dX5_crowded_33 : decode cX5_crowded 33 = .ok (.aload_n 0, 1) := by decide +kernel
theorem dX5_crowded_34 : decode cX5_crowded 34 = .ok (.getfield 12, 3) := by decide +kernel
theorem dX5_crowded_37 : decode cX5_crowded 37 = .ok (.aload_n 0, 1) := by decide +kernel
theorem dX5_crowded_38 : decode cX5_crowded 38 = .ok (.getfield 28, 3) := by decide +kernel
theorem dX5_crowded_41 : decode cX5_crowded 41 = .ok (.aload_n 0, 1) := by decide +kernel
theorem dX5_crowded_42 : decode cX5_crowded 42 = .ok (.getfield 35, 3) := by decide +kernel
theorem dX5_crowded_45 : decode cX5_crowded 45 = .ok (.iload_n 1, 1) := by decide +kernel
theorem dX5_crowded_46 : decode cX5_crowded 46 = .ok (.invokevirtual 70, 3) := by decide +kernel
theorem dX5_crowded_49 : decode cX5_crowded 49 = .ok (.aload_n 0, 1) := by decide +kernel
theorem dX5_crowded_50 : decode cX5_crowded 50 = .ok (.getfield 42, 3) := by decide +kernel
theorem dX5_crowded_53 : decode cX5_crowded 53 = .ok (.areturn, 1) := by decide +kernel
theorem dX5_numbersChanged_0 : decode cX5_numbersChanged 0 = .ok (.aload_n 0, 1) := by decide +kernel
theorem dX5_numbersChanged_1 : decode cX5_numbersChanged 1 = .ok (.getfield 28, 3) := by decide +kernel
theorem dX5_numbersChanged_4 : decode cX5_numbersChanged 4 = .ok (.iconst 0, 1) := by decide +kernel
theorem dX5_numbersChanged_5 : decode cX5_numbersChanged 5 = .ok (.putfield 46, 3) := by decide +kernel
theorem dX5_numbersChanged_8 : decode cX5_numbersChanged 8 = .ok (.aload_n 0, 1) := by decide +kernel
theorem dX5_numbersChanged_9 : decode cX5_numbersChanged 9 = .ok (.getfield 42, 3) := by decide +kernel
theorem dX5_numbersChanged_12 : decode cX5_numbersChanged 12 = .ok (.invokevirtual 74, 3) := by decide +kernel
theorem dX5_numbersChanged_15 : decode cX5_numbersChanged 15 = .ok (.return_, 1) := by decide +kernel
theorem dX5_landChanged_0 : decode cX5_landChanged 0 = .ok (.iload_n 1, 1) := by decide +kernel
theorem dX5_landChanged_1 : decode cX5_landChanged 1 = .ok (.iconst (-1), 1) := by decide +kernel
theorem dX5_landChanged_2 : decode cX5_landChanged 2 = .ok (.if_icmp .eq 15, 3) := by decide +kernel
theorem dX5_landChanged_5 : decode cX5_landChanged 5 = .ok (.aload_n 0, 1) := by decide +kernel
theorem dX5_landChanged_6 : decode cX5_landChanged 6 = .ok (.getfield 35, 3) := by decide +kernel
theorem dX5_landChanged_9 : decode cX5_landChanged 9 = .ok (.iload_n 1, 1) := by decide +kernel
theorem dX5_landChanged_10 : decode cX5_landChanged 10 = .ok (.invokevirtual 77, 3) := by decide +kernel
theorem dX5_landChanged_13 : decode cX5_landChanged 13 = .ok (.aload_n 0, 1) := by decide +kernel
theorem dX5_landChanged_14 : decode cX5_landChanged 14 = .ok (.invokevirtual 80, 3) := by decide +kernel
theorem dX5_landChanged_17 : decode cX5_landChanged 17 = .ok (.return_, 1) := by decide +kernel
theorem dX5_mapChanged_0 : decode cX5_mapChanged 0 = .ok (.aload_n 0, 1) := by decide +kernel
theorem dX5_mapChanged_1 : decode cX5_mapChanged 1 = .ok (.getfield 35, 3) := by decide +kernel
theorem dX5_mapChanged_4 : decode cX5_mapChanged 4 = .ok (.invokevirtual 83, 3) := by decide +kernel
theorem dX5_mapChanged_7 : decode cX5_mapChanged 7 = .ok (.aload_n 0, 1) := by decide +kernel
theorem dX5_mapChanged_8 : decode cX5_mapChanged 8 = .ok (.invokevirtual 80, 3) := by decide +kernel
theorem dX5_mapChanged_11 : decode cX5_mapChanged 11 = .ok (.return_, 1) := by decide +kernel
theorem dX5_copyFrom_0 : decode cX5_copyFrom 0 = .ok (.aload_n 0, 1) := by decide +kernel
theorem dX5_copyFrom_1 : decode cX5_copyFrom 1 = .ok (.getfield 12, 3) := by decide +kernel
theorem dX5_copyFrom_4 : decode cX5_copyFrom 4 = .ok (.aload_n 1, 1) := by decide +kernel
theorem dX5_copyFrom_5 : decode cX5_copyFrom 5 = .ok (.getfield 12, 3) := by decide +kernel
theorem dX5_copyFrom_8 : decode cX5_copyFrom 8 = .ok (.invokevirtual 86, 3) := by decide +kernel
theorem dX5_copyFrom_11 : decode cX5_copyFrom 11 = .ok (.aload_n 0, 1) := by decide +kernel
theorem dX5_copyFrom_12 : decode cX5_copyFrom 12 = .ok (.aload_n 1, 1) := by decide +kernel
theorem dX5_copyFrom_13 : decode cX5_copyFrom 13 = .ok (.getfield 18, 3) := by decide +kernel
theorem dX5_copyFrom_16 : decode cX5_copyFrom 16 = .ok (.putfield 18, 3) := by decide +kernel
theorem dX5_copyFrom_19 : decode cX5_copyFrom 19 = .ok (.aload_n 0, 1) := by decide +kernel
theorem dX5_copyFrom_20 : decode cX5_copyFrom 20 = .ok (.aload_n 1, 1) := by decide +kernel
theorem dX5_copyFrom_21 : decode cX5_copyFrom 21 = .ok (.getfield 22, 3) := by decide +kernel
theorem dX5_copyFrom_24 : decode cX5_copyFrom 24 = .ok (.putfield 22, 3) := by decide +kernel
theorem dX5_copyFrom_27 : decode cX5_copyFrom 27 = .ok (.aload_n 0, 1) := by decide +kernel
theorem dX5_copyFrom_28 : decode cX5_copyFrom 28 = .ok (.getfield 35, 3) := by decide +kernel
theorem dX5_copyFrom_31 : decode cX5_copyFrom 31 = .ok (.aload_n 1, 1) := by decide +kernel
theorem dX5_copyFrom_32 : decode cX5_copyFrom 32 = .ok (.getfield 35, 3) := by decide +kernel
theorem dX5_copyFrom_35 : decode cX5_copyFrom 35 = .ok (.invokevirtual 90, 3) := by decide +kernel
theorem dX5_copyFrom_38 : decode cX5_copyFrom 38 = .ok (.aload_n 0, 1) := by decide +kernel
theorem dX5_copyFrom_39 : decode cX5_copyFrom 39 = .ok (.invokevirtual 80, 3) := by decide +kernel
theorem dX5_copyFrom_42 : decode cX5_copyFrom 42 = .ok (.return_, 1) := by decide +kernel
theorem dX6_init_0 : decode cX6_init 0 = .ok (.aload_n 0, 1) := by decide +kernel
theorem dX6_init_1 : decode cX6_init 1 = .ok (.invokespecial 3, 3) := by decide +kernel
theorem dX6_init_4 : decode cX6_init 4 = .ok (.aload_n 0, 1) := by decide +kernel
theorem dX6_init_5 : decode cX6_init 5 = .ok (.sipush 384, 3) := by decide +kernel
theorem dX6_init_8 : decode cX6_init 8 = .ok (.newarray .int, 2) := by decide +kernel
theorem dX6_init_10 : decode cX6_init 10 = .ok (.putfield 9, 3) := by decide +kernel
theorem dX6_init_13 : decode cX6_init 13 = .ok (.aload_n 0, 1) := by decide +kernel
theorem dX6_init_14 : decode cX6_init 14 = .ok (.sipush 384, 3) := by decide +kernel
theorem dX6_init_17 : decode cX6_init 17 = .ok (.newarray .int, 2) := by decide +kernel
theorem dX6_init_19 : decode cX6_init 19 = .ok (.putfield 15, 3) := by decide +kernel
theorem dX6_init_22 : decode cX6_init 22 = .ok (.aload_n 0, 1) := by decide +kernel
theorem dX6_init_23 : decode cX6_init 23 = .ok (.bipush 8, 2) := by decide +kernel
theorem dX6_init_25 : decode cX6_init 25 = .ok (.newarray .int, 2) := by decide +kernel
theorem dX6_init_27 : decode cX6_init 27 = .ok (.putfield 18, 3) := by decide +kernel
theorem dX6_init_30 : decode cX6_init 30 = .ok (.aload_n 0, 1) := by decide +kernel
theorem dX6_init_31 : decode cX6_init 31 = .ok (.bipush 8, 2) := by decide +kernel
theorem dX6_init_33 : decode cX6_init 33 = .ok (.newarray .boolean, 2) := by decide +kernel
theorem dX6_init_35 : decode cX6_init 35 = .ok (.putfield 21, 3) := by decide +kernel
theorem dX6_init_38 : decode cX6_init 38 = .ok (.aload_n 0, 1) := by decide +kernel
theorem dX6_init_39 : decode cX6_init 39 = .ok (.iconst 0, 1) := by decide +kernel
theorem dX6_init_40 : decode cX6_init 40 = .ok (.putfield 25, 3) := by decide +kernel
theorem dX6_init_43 : decode cX6_init 43 = .ok (.aload_n 0, 1) := by decide +kernel
theorem dX6_init_44 : decode cX6_init 44 = .ok (.sipush 384, 3) := by decide +kernel
theorem dX6_init_47 : decode cX6_init 47 = .ok (.newarray .int, 2) := by decide +kernel
theorem dX6_init_49 : decode cX6_init 49 = .ok (.putfield 29, 3) := by decide +kernel
theorem dX6_init_52 : decode cX6_init 52 = .ok (.aload_n 0, 1) := by decide +kernel
theorem dX6_init_53 : decode cX6_init 53 = .ok (.sipush 384, 3) := by decide +kernel
theorem dX6_init_56 : decode cX6_init 56 = .ok (.newarray .int, 2) := by decide +kernel
theorem dX6_init_58 : decode cX6_init 58 = .ok (.putfield 32, 3) := by decide +kernel
theorem dX6_init_61 : decode cX6_init 61 = .ok (.aload_n 0, 1) := by decide +kernel
theorem dX6_init_62 : decode cX6_init 62 = .ok (.iconst 0, 1) := by decide +kernel
theorem dX6_init_63 : decode cX6_init 63 = .ok (.putfield 35, 3) := by decide +kernel
theorem dX6_init_66 : decode cX6_init 66 = .ok (.aload_n 0, 1) := by decide +kernel
theorem dX6_init_67 : decode cX6_init 67 = .ok (.new 39, 3) := by decide +kernel
theorem dX6_init_70 : decode cX6_init 70 = .ok (.dup, 1) := by decide +kernel
theorem dX6_init_71 : decode cX6_init 71 = .ok (.invokespecial 41, 3) := by decide +kernel
theorem dX6_init_74 : decode cX6_init 74 = .ok (.putfield 42, 3) := by decide +kernel
theorem dX6_init_77 : decode cX6_init 77 = .ok (.return_, 1) := by decide +kernel
theorem dX6_cellAt_0 : decode cX6_cellAt 0 = .ok (.aload_n 0, 1) := by decide +kernel
theorem dX6_cellAt_1 : decode cX6_cellAt 1 = .ok (.getfield 18, 3) := by decide +kernel
theorem dX6_cellAt_4 : decode cX6_cellAt 4 = .ok (.iload_n 1, 1) := by decide +kernel
theorem dX6_cellAt_5 : decode cX6_cellAt 5 = .ok (.iaload, 1) := by decide +kernel
theorem dX6_cellAt_6 : decode cX6_cellAt 6 = .ok (.iload_n 2, 1) := by decide +kernel
theorem dX6_cellAt_7 : decode cX6_cellAt 7 = .ok (.iadd, 1) := by decide +kernel
theorem dX6_cellAt_8 : decode cX6_cellAt 8 = .ok (.istore_n 3, 1) := by decide +kernel
theorem dX6_cellAt_9 : decode cX6_cellAt 9 = .ok (.iload_n 3, 1) := by decide +kernel
theorem dX6_cellAt_10 : decode cX6_cellAt 10 = .ok (.ifCond .lt 19, 3) := by decide +kernel
theorem dX6_cellAt_13 : decode cX6_cellAt 13 = .ok (.iload_n 3, 1) := by decide +kernel
theorem dX6_cellAt_14 : decode cX6_cellAt 14 = .ok (.sipush 384, 3) := by decide +kernel
theorem dX6_cellAt_17 : decode cX6_cellAt 17 = .ok (.if_icmp .ge 12, 3) := by decide +kernel
theorem dX6_cellAt_20 : decode cX6_cellAt 20 = .ok (.aload_n 0, 1) := by decide +kernel
theorem dX6_cellAt_21 : decode cX6_cellAt 21 = .ok (.getfield 15, 3) := by decide +kernel
theorem dX6_cellAt_24 : decode cX6_cellAt 24 = .ok (.iload_n 3, 1) := by decide +kernel
theorem dX6_cellAt_25 : decode cX6_cellAt 25 = .ok (.iaload, 1) := by decide +kernel
theorem dX6_cellAt_26 : decode cX6_cellAt 26 = .ok (.goto 4, 3) := by decide +kernel
theorem dX6_cellAt_29 : decode cX6_cellAt 29 = .ok (.iconst (-1), 1) := by decide +kernel
theorem dX6_cellAt_30 : decode cX6_cellAt 30 = .ok (.ireturn, 1) := by decide +kernel
theorem dX6_forget_0 : decode cX6_forget 0 = .ok (.aload_n 0, 1) := by decide +kernel
theorem dX6_forget_1 : decode cX6_forget 1 = .ok (.getfield 21, 3) := by decide +kernel
theorem dX6_forget_4 : decode cX6_forget 4 = .ok (.iload_n 1, 1) := by decide +kernel
theorem dX6_forget_5 : decode cX6_forget 5 = .ok (.iconst 0, 1) := by decide +kernel
theorem dX6_forget_6 : decode cX6_forget 6 = .ok (.bastore, 1) := by decide +kernel
theorem dX6_forget_7 : decode cX6_forget 7 = .ok (.aload_n 0, 1) := by decide +kernel
theorem dX6_forget_8 : decode cX6_forget 8 = .ok (.iconst 0, 1) := by decide +kernel
theorem dX6_forget_9 : decode cX6_forget 9 = .ok (.putfield 25, 3) := by decide +kernel
theorem dX6_forget_12 : decode cX6_forget 12 = .ok (.return_, 1) := by decide +kernel
theorem dX6_forgetAll_0 : decode cX6_forgetAll 0 = .ok (.iconst 0, 1) := by decide +kernel
theorem dX6_forgetAll_1 : decode cX6_forgetAll 1 = .ok (.istore_n 1, 1) := by decide +kernel
theorem dX6_forgetAll_2 : decode cX6_forgetAll 2 = .ok (.iload_n 1, 1) := by decide +kernel
theorem dX6_forgetAll_3 : decode cX6_forgetAll 3 = .ok (.bipush 8, 2) := by decide +kernel
theorem dX6_forgetAll_5 : decode cX6_forgetAll 5 = .ok (.if_icmp .ge 14, 3) := by decide +kernel
theorem dX6_forgetAll_8 : decode cX6_forgetAll 8 = .ok (.aload_n 0, 1) := by decide +kernel
theorem dX6_forgetAll_9 : decode cX6_forgetAll 9 = .ok (.iload_n 1, 1) := by decide +kernel
theorem dX6_forgetAll_10 : decode cX6_forgetAll 10 = .ok (.invokevirtual 46, 3) := by decide +kernel
theorem dX6_forgetAll_13 : decode cX6_forgetAll 13 = .ok (.iinc 1 1, 3) := by decide +kernel
theorem dX6_forgetAll_16 : decode cX6_forgetAll 16 = .ok (.goto (-14), 3) := by decide +kernel
theorem dX6_forgetAll_19 : decode cX6_forgetAll 19 = .ok (.return_, 1) := by decide +kernel
theorem dX6_copyFrom_0 : decode cX6_copyFrom 0 = .ok (.aload_n 1, 1) := by decide +kernel
theorem dX6_copyFrom_1 : decode cX6_copyFrom 1 = .ok (.getfield 9, 3) := by decide +kernel
theorem dX6_copyFrom_4 : decode cX6_copyFrom 4 = .ok (.iconst 0, 1) := by decide +kernel
theorem dX6_copyFrom_5 : decode cX6_copyFrom 5 = .ok (.aload_n 0, 1) := by decide +kernel
theorem dX6_copyFrom_6 : decode cX6_copyFrom 6 = .ok (.getfield 9, 3) := by decide +kernel
theorem dX6_copyFrom_9 : decode cX6_copyFrom 9 = .ok (.iconst 0, 1) := by decide +kernel
theorem dX6_copyFrom_10 : decode cX6_copyFrom 10 = .ok (.sipush 384, 3) := by decide +kernel
theorem dX6_copyFrom_13 : decode cX6_copyFrom 13 = .ok (.invokestatic 50, 3) := by decide +kernel
theorem dX6_copyFrom_16 : decode cX6_copyFrom 16 = .ok (.iconst 0, 1) := by decide +kernel
theorem dX6_copyFrom_17 : decode cX6_copyFrom 17 = .ok (.istore_n 2, 1) := by decide +kernel
theorem dX6_copyFrom_18 : decode cX6_copyFrom 18 = .ok (.iload_n 2, 1) := by decide +kernel
theorem dX6_copyFrom_19 : decode cX6_copyFrom 19 = .ok (.bipush 8, 2) := by decide +kernel
theorem dX6_copyFrom_21 : decode cX6_copyFrom 21 = .ok (.if_icmp .ge 21, 3) := by decide +kernel
theorem dX6_copyFrom_24 : decode cX6_copyFrom 24 = .ok (.aload_n 0, 1) := by decide +kernel
theorem dX6_copyFrom_25 : decode cX6_copyFrom 25 = .ok (.getfield 21, 3) := by decide +kernel
theorem dX6_copyFrom_28 : decode cX6_copyFrom 28 = .ok (.iload_n 2, 1) := by decide +kernel
theorem dX6_copyFrom_29 : decode cX6_copyFrom 29 = .ok (.aload_n 1, 1) := by decide +kernel
theorem dX6_copyFrom_30 : decode cX6_copyFrom 30 = .ok (.getfield 21, 3) := by decide +kernel
theorem dX6_copyFrom_33 : decode cX6_copyFrom 33 = .ok (.iload_n 2, 1) := by decide +kernel
theorem dX6_copyFrom_34 : decode cX6_copyFrom 34 = .ok (.baload, 1) := by decide +kernel
theorem dX6_copyFrom_35 : decode cX6_copyFrom 35 = .ok (.bastore, 1) := by decide +kernel
theorem dX6_copyFrom_36 : decode cX6_copyFrom 36 = .ok (.iinc 2 1, 3) := by decide +kernel
theorem dX6_copyFrom_39 : decode cX6_copyFrom 39 = .ok (.goto (-21), 3) := by decide +kernel
theorem dX6_copyFrom_42 : decode cX6_copyFrom 42 = .ok (.aload_n 0, 1) := by decide +kernel
theorem dX6_copyFrom_43 : decode cX6_copyFrom 43 = .ok (.iconst 0, 1) := by decide +kernel
theorem dX6_copyFrom_44 : decode cX6_copyFrom 44 = .ok (.putfield 25, 3) := by decide +kernel
theorem dX6_copyFrom_47 : decode cX6_copyFrom 47 = .ok (.return_, 1) := by decide +kernel
theorem dX6_renew_0 : decode cX6_renew 0 = .ok (.aload_n 0, 1) := by decide +kernel
theorem dX6_renew_1 : decode cX6_renew 1 = .ok (.getfield 25, 3) := by decide +kernel
theorem dX6_renew_4 : decode cX6_renew 4 = .ok (.ifCond .eq 4, 3) := by decide +kernel
theorem dX6_renew_7 : decode cX6_renew 7 = .ok (.return_, 1) := by decide +kernel
theorem dX6_renew_8 : decode cX6_renew 8 = .ok (.iconst 0, 1) := by decide +kernel
theorem dX6_renew_9 : decode cX6_renew 9 = .ok (.istore_n 3, 1) := by decide +kernel
theorem dX6_renew_10 : decode cX6_renew 10 = .ok (.iload_n 3, 1) := by decide +kernel
theorem dX6_renew_11 : decode cX6_renew 11 = .ok (.aload_n 1, 1) := by decide +kernel
theorem dX6_renew_12 : decode cX6_renew 12 = .ok (.getfield 56, 3) := by decide +kernel
theorem dX6_renew_15 : decode cX6_renew 15 = .ok (.if_icmp .ge 31, 3) := by decide +kernel
theorem dX6_renew_18 : decode cX6_renew 18 = .ok (.aload_n 0, 1) := by decide +kernel
theorem dX6_renew_19 : decode cX6_renew 19 = .ok (.getfield 21, 3) := by decide +kernel
theorem dX6_renew_22 : decode cX6_renew 22 = .ok (.iload_n 3, 1) := by decide +kernel
theorem dX6_renew_23 : decode cX6_renew 23 = .ok (.baload, 1) := by decide +kernel
theorem dX6_renew_24 : decode cX6_renew 24 = .ok (.ifCond .ne 16, 3) := by decide +kernel
theorem dX6_renew_27 : decode cX6_renew 27 = .ok (.aload_n 0, 1) := by decide +kernel
theorem dX6_renew_28 : decode cX6_renew 28 = .ok (.aload_n 1, 1) := by decide +kernel
theorem dX6_renew_29 : decode cX6_renew 29 = .ok (.iload_n 3, 1) := by decide +kernel
theorem dX6_renew_30 : decode cX6_renew 30 = .ok (.invokevirtual 61, 3) := by decide +kernel
theorem dX6_renew_33 : decode cX6_renew 33 = .ok (.aload_n 0, 1) := by decide +kernel
theorem dX6_renew_34 : decode cX6_renew 34 = .ok (.getfield 21, 3) := by decide +kernel
theorem dX6_renew_37 : decode cX6_renew 37 = .ok (.iload_n 3, 1) := by decide +kernel
theorem dX6_renew_38 : decode cX6_renew 38 = .ok (.iconst 1, 1) := by decide +kernel
theorem dX6_renew_39 : decode cX6_renew 39 = .ok (.bastore, 1) := by decide +kernel
theorem dX6_renew_40 : decode cX6_renew 40 = .ok (.iinc 3 1, 3) := by decide +kernel
theorem dX6_renew_43 : decode cX6_renew 43 = .ok (.goto (-33), 3) := by decide +kernel
theorem dX6_renew_46 : decode cX6_renew 46 = .ok (.aload_n 0, 1) := by decide +kernel
theorem dX6_renew_47 : decode cX6_renew 47 = .ok (.aload_n 1, 1) := by decide +kernel
theorem dX6_renew_48 : decode cX6_renew 48 = .ok (.aload_n 2, 1) := by decide +kernel
theorem dX6_renew_49 : decode cX6_renew 49 = .ok (.invokevirtual 65, 3) := by decide +kernel
theorem dX6_renew_52 : decode cX6_renew 52 = .ok (.aload_n 0, 1) := by decide +kernel
theorem dX6_renew_53 : decode cX6_renew 53 = .ok (.iconst 1, 1) := by decide +kernel
theorem dX6_renew_54 : decode cX6_renew 54 = .ok (.putfield 25, 3) := by decide +kernel
theorem dX6_renew_57 : decode cX6_renew 57 = .ok (.return_, 1) := by decide +kernel
theorem dX6_rank_0 : decode cX6_rank 0 = .ok (.aload_n 0, 1) := by decide +kernel
theorem dX6_rank_1 : decode cX6_rank 1 = .ok (.aload_n 1, 1) := by decide +kernel
theorem dX6_rank_2 : decode cX6_rank 2 = .ok (.iload_n 2, 1) := by decide +kernel
theorem dX6_rank_3 : decode cX6_rank 3 = .ok (.invokevirtual 69, 3) := by decide +kernel
theorem dX6_rank_6 : decode cX6_rank 6 = .ok (.aload_n 0, 1) := by decide +kernel
theorem dX6_rank_7 : decode cX6_rank 7 = .ok (.aload_n 1, 1) := by decide +kernel
theorem dX6_rank_8 : decode cX6_rank 8 = .ok (.invokevirtual 72, 3) := by decide +kernel
theorem dX6_rank_11 : decode cX6_rank 11 = .ok (.istore_n 3, 1) := by decide +kernel
theorem dX6_rank_12 : decode cX6_rank 12 = .ok (.iconst 0, 1) := by decide +kernel
theorem dX6_rank_13 : decode cX6_rank 13 = .ok (.istore 4, 2) := by decide +kernel
theorem dX6_rank_15 : decode cX6_rank 15 = .ok (.iload_n 3, 1) := by decide +kernel
theorem dX6_rank_16 : decode cX6_rank 16 = .ok (.iconst (-1), 1) := by decide +kernel
theorem dX6_rank_17 : decode cX6_rank 17 = .ok (.if_icmp .eq 32, 3) := by decide +kernel
theorem dX6_rank_20 : decode cX6_rank 20 = .ok (.iload 4, 2) := by decide +kernel
theorem dX6_rank_22 : decode cX6_rank 22 = .ok (.sipush 384, 3) := by decide +kernel
theorem dX6_rank_25 : decode cX6_rank 25 = .ok (.if_icmp .ge 24, 3) := by decide +kernel
theorem dX6_rank_28 : decode cX6_rank 28 = .ok (.aload_n 0, 1) := by decide +kernel
theorem dX6_rank_29 : decode cX6_rank 29 = .ok (.getfield 9, 3) := by decide +kernel
theorem dX6_rank_32 : decode cX6_rank 32 = .ok (.iload_n 3, 1) := by decide +kernel
theorem dX6_rank_33 : decode cX6_rank 33 = .ok (.iload 4, 2) := by decide +kernel
theorem dX6_rank_35 : decode cX6_rank 35 = .ok (.iastore, 1) := by decide +kernel
theorem dX6_rank_36 : decode cX6_rank 36 = .ok (.iinc 4 1, 3) := by decide +kernel
theorem dX6_rank_39 : decode cX6_rank 39 = .ok (.aload_n 0, 1) := by decide +kernel
theorem dX6_rank_40 : decode cX6_rank 40 = .ok (.aload_n 1, 1) := by decide +kernel
theorem dX6_rank_41 : decode cX6_rank 41 = .ok (.iload_n 3, 1) := by decide +kernel
theorem dX6_rank_42 : decode cX6_rank 42 = .ok (.invokevirtual 76, 3) := by decide +kernel
theorem dX6_rank_45 : decode cX6_rank 45 = .ok (.istore_n 3, 1) := by decide +kernel
theorem dX6_rank_46 : decode cX6_rank 46 = .ok (.goto (-31), 3) := by decide +kernel
theorem dX6_rank_49 : decode cX6_rank 49 = .ok (.return_, 1) := by decide +kernel
theorem dX6_gather_0 : decode cX6_gather 0 = .ok (.aload_n 0, 1) := by decide +kernel
theorem dX6_gather_1 : decode cX6_gather 1 = .ok (.iconst 0, 1) := by decide +kernel
theorem dX6_gather_2 : decode cX6_gather 2 = .ok (.putfield 35, 3) := by decide +kernel
theorem dX6_gather_5 : decode cX6_gather 5 = .ok (.aload_n 0, 1) := by decide +kernel
theorem dX6_gather_6 : decode cX6_gather 6 = .ok (.getfield 42, 3) := by decide +kernel
theorem dX6_gather_9 : decode cX6_gather 9 = .ok (.invokevirtual 80, 3) := by decide +kernel
theorem dX6_gather_12 : decode cX6_gather 12 = .ok (.iconst 0, 1) := by decide +kernel
theorem dX6_gather_13 : decode cX6_gather 13 = .ok (.istore_n 3, 1) := by decide +kernel
theorem dX6_gather_14 : decode cX6_gather 14 = .ok (.iload_n 3, 1) := by decide +kernel
theorem dX6_gather_15 : decode cX6_gather 15 = .ok (.aload_n 1, 1) := by decide +kernel
theorem dX6_gather_16 : decode cX6_gather 16 = .ok (.invokevirtual 83, 3) := by decide +kernel
theorem dX6_gather_19 : decode cX6_gather 19 = .ok (.if_icmp .ge 57, 3) := by decide +kernel
theorem dX6_gather_22 : decode cX6_gather 22 = .ok (.aload_n 1, 1) := by decide +kernel
theorem dX6_gather_23 : decode cX6_gather 23 = .ok (.iload_n 3, 1) := by decide +kernel
theorem dX6_gather_24 : decode cX6_gather 24 = .ok (.iload_n 2, 1) := by decide +kernel
theorem dX6_gather_25 : decode cX6_gather 25 = .ok (.invokevirtual 87, 3) := by decide +kernel
theorem dX6_gather_28 : decode cX6_gather 28 = .ok (.ifCond .eq 42, 3) := by decide +kernel
theorem dX6_gather_31 : decode cX6_gather 31 = .ok (.aload_n 0, 1) := by decide +kernel
theorem dX6_gather_32 : decode cX6_gather 32 = .ok (.getfield 29, 3) := by decide +kernel
theorem dX6_gather_35 : decode cX6_gather 35 = .ok (.aload_n 0, 1) := by decide +kernel
theorem dX6_gather_36 : decode cX6_gather 36 = .ok (.getfield 35, 3) := by decide +kernel
theorem dX6_gather_39 : decode cX6_gather 39 = .ok (.iload_n 3, 1) := by decide +kernel
theorem dX6_gather_40 : decode cX6_gather 40 = .ok (.iastore, 1) := by decide +kernel
theorem dX6_gather_41 : decode cX6_gather 41 = .ok (.aload_n 0, 1) := by decide +kernel
theorem dX6_gather_42 : decode cX6_gather 42 = .ok (.dup, 1) := by decide +kernel
theorem dX6_gather_43 : decode cX6_gather 43 = .ok (.getfield 35, 3) := by decide +kernel
theorem dX6_gather_46 : decode cX6_gather 46 = .ok (.iconst 1, 1) := by decide +kernel
theorem dX6_gather_47 : decode cX6_gather 47 = .ok (.iadd, 1) := by decide +kernel
theorem dX6_gather_48 : decode cX6_gather 48 = .ok (.putfield 35, 3) := by decide +kernel
theorem dX6_gather_51 : decode cX6_gather 51 = .ok (.aload_n 0, 1) := by decide +kernel
theorem dX6_gather_52 : decode cX6_gather 52 = .ok (.getfield 32, 3) := by decide +kernel
theorem dX6_gather_55 : decode cX6_gather 55 = .ok (.iload_n 3, 1) := by decide +kernel
theorem dX6_gather_56 : decode cX6_gather 56 = .ok (.sipush 1000, 3) := by decide +kernel
theorem dX6_gather_59 : decode cX6_gather 59 = .ok (.iastore, 1) := by decide +kernel
theorem dX6_gather_60 : decode cX6_gather 60 = .ok (.aload_n 0, 1) := by decide +kernel
theorem dX6_gather_61 : decode cX6_gather 61 = .ok (.getfield 42, 3) := by decide +kernel
theorem dX6_gather_64 : decode cX6_gather 64 = .ok (.aload_n 1, 1) := by decide +kernel
theorem dX6_gather_65 : decode cX6_gather 65 = .ok (.iload_n 3, 1) := by decide +kernel
theorem dX6_gather_66 : decode cX6_gather 66 = .ok (.iconst 1, 1) := by decide +kernel
theorem dX6_gather_67 : decode cX6_gather 67 = .ok (.invokevirtual 91, 3) := by decide +kernel
theorem dX6_gather_70 : decode cX6_gather 70 = .ok (.iinc 3 1, 3) := by decide +kernel
theorem dX6_gather_73 : decode cX6_gather 73 = .ok (.goto (-59), 3) := by decide +kernel
theorem dX6_gather_76 : decode cX6_gather 76 = .ok (.return_, 1) := by decide +kernel
theorem dX6_firstOf_0 : decode cX6_firstOf 0 = .ok (.iconst (-1), 1) := by decide +kernel
theorem dX6_firstOf_1 : decode cX6_firstOf 1 = .ok (.istore_n 2, 1) := by decide +kernel
theorem dX6_firstOf_2 : decode cX6_firstOf 2 = .ok (.lconst 0, 1) := by decide +kernel
theorem dX6_firstOf_3 : decode cX6_firstOf 3 = .ok (.lstore_n 3, 1) := by decide +kernel
theorem dX6_firstOf_4 : decode cX6_firstOf 4 = .ok (.iconst 0, 1) := by decide +kernel
theorem dX6_firstOf_5 : decode cX6_firstOf 5 = .ok (.istore 5, 2) := by decide +kernel
theorem dX6_firstOf_7 : decode cX6_firstOf 7 = .ok (.iload 5, 2) := by decide +kernel
theorem dX6_firstOf_9 : decode cX6_firstOf 9 = .ok (.aload_n 0, 1) := by decide +kernel
theorem dX6_firstOf_10 : decode cX6_firstOf 10 = .ok (.getfield 35, 3) := by decide +kernel
theorem dX6_firstOf_13 : decode cX6_firstOf 13 = .ok (.if_icmp .ge 49, 3) := by decide +kernel
theorem dX6_firstOf_16 : decode cX6_firstOf 16 = .ok (.aload_n 0, 1) := by decide +kernel
theorem dX6_firstOf_17 : decode cX6_firstOf 17 = .ok (.getfield 42, 3) := by decide +kernel
theorem dX6_firstOf_20 : decode cX6_firstOf 20 = .ok (.aload_n 1, 1) := by decide +kernel
theorem dX6_firstOf_21 : decode cX6_firstOf 21 = .ok (.aload_n 0, 1) := by decide +kernel
theorem dX6_firstOf_22 : decode cX6_firstOf 22 = .ok (.getfield 29, 3) := by decide +kernel
theorem dX6_firstOf_25 : decode cX6_firstOf 25 = .ok (.iload 5, 2) := by decide +kernel
theorem dX6_firstOf_27 : decode cX6_firstOf 27 = .ok (.iaload, 1) := by decide +kernel
theorem dX6_firstOf_28 : decode cX6_firstOf 28 = .ok (.invokevirtual 95, 3) := by decide +kernel
theorem dX6_firstOf_31 : decode cX6_firstOf 31 = .ok (.lstore 6, 2) := by decide +kernel
theorem dX6_firstOf_33 : decode cX6_firstOf 33 = .ok (.iload_n 2, 1) := by decide +kernel
theorem dX6_firstOf_34 : decode cX6_firstOf 34 = .ok (.iconst (-1), 1) := by decide +kernel
theorem dX6_firstOf_35 : decode cX6_firstOf 35 = .ok (.if_icmp .eq 10, 3) := by decide +kernel
theorem dX6_firstOf_38 : decode cX6_firstOf 38 = .ok (.lload 6, 2) := by decide +kernel
theorem dX6_firstOf_40 : decode cX6_firstOf 40 = .ok (.lload_n 3, 1) := by decide +kernel
theorem dX6_firstOf_41 : decode cX6_firstOf 41 = .ok (.lcmp, 1) := by decide +kernel
theorem dX6_firstOf_42 : decode cX6_firstOf 42 = .ok (.ifCond .ge 14, 3) := by decide +kernel
theorem dX6_firstOf_45 : decode cX6_firstOf 45 = .ok (.aload_n 0, 1) := by decide +kernel
theorem dX6_firstOf_46 : decode cX6_firstOf 46 = .ok (.getfield 29, 3) := by decide +kernel
theorem dX6_firstOf_49 : decode cX6_firstOf 49 = .ok (.iload 5, 2) := by decide +kernel
theorem dX6_firstOf_51 : decode cX6_firstOf 51 = .ok (.iaload, 1) := by decide +kernel
theorem dX6_firstOf_52 : decode cX6_firstOf 52 = .ok (.istore_n 2, 1) := by decide +kernel
theorem dX6_firstOf_53 : decode cX6_firstOf 53 = .ok (.lload 6, 2) := by decide +kernel
theorem dX6_firstOf_55 : decode cX6_firstOf 55 = .ok (.lstore_n 3, 1) := by decide +kernel
theorem dX6_firstOf_56 : decode cX6_firstOf 56 = .ok (.iinc 5 1, 3) := by decide +kernel
theorem dX6_firstOf_59 : decode cX6_firstOf 59 = .ok (.goto (-52), 3) := by decide +kernel
theorem dX6_firstOf_62 : decode cX6_firstOf 62 = .ok (.iload_n 2, 1) := by decide +kernel
theorem dX6_firstOf_63 : decode cX6_firstOf 63 = .ok (.ireturn, 1) := by decide +kernel
theorem dX6_nextAfter_0 : decode cX6_nextAfter 0 = .ok (.iconst (-1), 1) := by decide +kernel
theorem dX6_nextAfter_1 : decode cX6_nextAfter 1 = .ok (.istore_n 3, 1) := by decide +kernel
theorem dX6_nextAfter_2 : decode cX6_nextAfter 2 = .ok (.iconst (-1), 1) := by decide +kernel
theorem dX6_nextAfter_3 : decode cX6_nextAfter 3 = .ok (.istore 4, 2) := by decide +kernel
theorem dX6_nextAfter_5 : decode cX6_nextAfter 5 = .ok (.iconst 0, 1) := by decide +kernel
theorem dX6_nextAfter_6 : decode cX6_nextAfter 6 = .ok (.istore 5, 2) := by decide +kernel
theorem dX6_nextAfter_8 : decode cX6_nextAfter 8 = .ok (.iconst 0, 1) := by decide +kernel
theorem dX6_nextAfter_9 : decode cX6_nextAfter 9 = .ok (.istore 6, 2) := by decide +kernel
theorem dX6_nextAfter_11 : decode cX6_nextAfter 11 = .ok (.iload 6, 2) := by decide +kernel
theorem dX6_nextAfter_13 : decode cX6_nextAfter 13 = .ok (.aload_n 0, 1) := by decide +kernel
theorem dX6_nextAfter_14 : decode cX6_nextAfter 14 = .ok (.getfield 35, 3) := by decide +kernel
theorem dX6_nextAfter_17 : decode cX6_nextAfter 17 = .ok (.if_icmp .ge 78, 3) := by decide +kernel
theorem dX6_nextAfter_20 : decode cX6_nextAfter 20 = .ok (.aload_n 0, 1) := by decide +kernel
theorem dX6_nextAfter_21 : decode cX6_nextAfter 21 = .ok (.getfield 29, 3) := by decide +kernel
theorem dX6_nextAfter_24 : decode cX6_nextAfter 24 = .ok (.iload 6, 2) := by decide +kernel
theorem dX6_nextAfter_26 : decode cX6_nextAfter 26 = .ok (.iaload, 1) := by decide +kernel
theorem dX6_nextAfter_27 : decode cX6_nextAfter 27 = .ok (.istore 7, 2) := by decide +kernel
theorem dX6_nextAfter_29 : decode cX6_nextAfter 29 = .ok (.iload 7, 2) := by decide +kernel
theorem dX6_nextAfter_31 : decode cX6_nextAfter 31 = .ok (.iload_n 2, 1) := by decide +kernel
theorem dX6_nextAfter_32 : decode cX6_nextAfter 32 = .ok (.if_icmp .eq 57, 3) := by decide +kernel
theorem dX6_nextAfter_35 : decode cX6_nextAfter 35 = .ok (.aload_n 0, 1) := by decide +kernel
theorem dX6_nextAfter_36 : decode cX6_nextAfter 36 = .ok (.getfield 32, 3) := by decide +kernel
theorem dX6_nextAfter_39 : decode cX6_nextAfter 39 = .ok (.iload 7, 2) := by decide +kernel
theorem dX6_nextAfter_41 : decode cX6_nextAfter 41 = .ok (.iaload, 1) := by decide +kernel
theorem dX6_nextAfter_42 : decode cX6_nextAfter 42 = .ok (.aload_n 1, 1) := by decide +kernel
theorem dX6_nextAfter_43 : decode cX6_nextAfter 43 = .ok (.iload 7, 2) := by decide +kernel
theorem dX6_nextAfter_45 : decode cX6_nextAfter 45 = .ok (.iload_n 2, 1) := by decide +kernel
theorem dX6_nextAfter_46 : decode cX6_nextAfter 46 = .ok (.invokevirtual 99, 3) := by decide +kernel
theorem dX6_nextAfter_49 : decode cX6_nextAfter 49 = .ok (.invokestatic 103, 3) := by decide +kernel
theorem dX6_nextAfter_52 : decode cX6_nextAfter 52 = .ok (.istore 8, 2) := by decide +kernel
theorem dX6_nextAfter_54 : decode cX6_nextAfter 54 = .ok (.aload_n 0, 1) := by decide +kernel
theorem dX6_nextAfter_55 : decode cX6_nextAfter 55 = .ok (.getfield 32, 3) := by decide +kernel
theorem dX6_nextAfter_58 : decode cX6_nextAfter 58 = .ok (.iload 7, 2) := by decide +kernel
theorem dX6_nextAfter_60 : decode cX6_nextAfter 60 = .ok (.iload 8, 2) := by decide +kernel
theorem dX6_nextAfter_62 : decode cX6_nextAfter 62 = .ok (.iastore, 1) := by decide +kernel
theorem dX6_nextAfter_63 : decode cX6_nextAfter 63 = .ok (.aload_n 0, 1) := by decide +kernel
theorem dX6_nextAfter_64 : decode cX6_nextAfter 64 = .ok (.getfield 29, 3) := by decide +kernel
theorem dX6_nextAfter_67 : decode cX6_nextAfter 67 = .ok (.iload 5, 2) := by decide +kernel
theorem dX6_nextAfter_69 : decode cX6_nextAfter 69 = .ok (.iload 7, 2) := by decide +kernel
theorem dX6_nextAfter_71 : decode cX6_nextAfter 71 = .ok (.iastore, 1) := by decide +kernel
theorem dX6_nextAfter_72 : decode cX6_nextAfter 72 = .ok (.iinc 5 1, 3) := by decide +kernel
theorem dX6_nextAfter_75 : decode cX6_nextAfter 75 = .ok (.iload 8, 2) := by decide +kernel
theorem dX6_nextAfter_77 : decode cX6_nextAfter 77 = .ok (.iload 4, 2) := by decide +kernel
theorem dX6_nextAfter_79 : decode cX6_nextAfter 79 = .ok (.if_icmp .le 10, 3) := by decide +kernel
theorem dX6_nextAfter_82 : decode cX6_nextAfter 82 = .ok (.iload 8, 2) := by decide +kernel
theorem dX6_nextAfter_84 : decode cX6_nextAfter 84 = .ok (.istore 4, 2) := by decide +kernel
theorem dX6_nextAfter_86 : decode cX6_nextAfter 86 = .ok (.iload 7, 2) := by decide +kernel
theorem dX6_nextAfter_88 : decode cX6_nextAfter 88 = .ok (.istore_n 3, 1) := by decide +kernel
theorem dX6_nextAfter_89 : decode cX6_nextAfter 89 = .ok (.iinc 6 1, 3) := by decide +kernel
theorem dX6_nextAfter_92 : decode cX6_nextAfter 92 = .ok (.goto (-81), 3) := by decide +kernel
theorem dX6_nextAfter_95 : decode cX6_nextAfter 95 = .ok (.aload_n 0, 1) := by decide +kernel
theorem dX6_nextAfter_96 : decode cX6_nextAfter 96 = .ok (.iload 5, 2) := by decide +kernel
theorem dX6_nextAfter_98 : decode cX6_nextAfter 98 = .ok (.putfield 35, 3) := by decide +kernel
theorem dX6_nextAfter_101 : decode cX6_nextAfter 101 = .ok (.iload_n 3, 1) := by decide +kernel
theorem dX6_nextAfter_102 : decode cX6_nextAfter 102 = .ok (.ireturn, 1) := by decide +kernel
theorem dX6_sort_0 : decode cX6_sort 0 = .ok (.iconst 0, 1) := by decide +kernel
theorem dX6_sort_1 : decode cX6_sort 1 = .ok (.istore_n 3, 1) := by decide +kernel
theorem dX6_sort_2 : decode cX6_sort 2 = .ok (.iconst 0, 1) := by decide +kernel
theorem dX6_sort_3 : decode cX6_sort 3 = .ok (.istore 4, 2) := by decide +kernel
theorem dX6_sort_5 : decode cX6_sort 5 = .ok (.iload 4, 2) := by decide +kernel
theorem dX6_sort_7 : decode cX6_sort 7 = .ok (.aload_n 1, 1) := by decide +kernel
theorem dX6_sort_8 : decode cX6_sort 8 = .ok (.getfield 56, 3) := by decide +kernel
theorem dX6_sort_11 : decode cX6_sort 11 = .ok (.if_icmp .ge 24, 3) := by decide +kernel
theorem dX6_sort_14 : decode cX6_sort 14 = .ok (.aload_n 0, 1) := by decide +kernel
theorem dX6_sort_15 : decode cX6_sort 15 = .ok (.getfield 18, 3) := by decide +kernel
theorem dX6_sort_18 : decode cX6_sort 18 = .ok (.iload 4, 2) := by decide +kernel
theorem dX6_sort_20 : decode cX6_sort 20 = .ok (.iload_n 3, 1) := by decide +kernel
theorem dX6_sort_21 : decode cX6_sort 21 = .ok (.iastore, 1) := by decide +kernel
theorem dX6_sort_22 : decode cX6_sort 22 = .ok (.iload_n 3, 1) := by decide +kernel
theorem dX6_sort_23 : decode cX6_sort 23 = .ok (.aload_n 2, 1) := by decide +kernel
theorem dX6_sort_24 : decode cX6_sort 24 = .ok (.iload 4, 2) := by decide +kernel
theorem dX6_sort_26 : decode cX6_sort 26 = .ok (.iaload, 1) := by decide +kernel
theorem dX6_sort_27 : decode cX6_sort 27 = .ok (.iadd, 1) := by decide +kernel
theorem dX6_sort_28 : decode cX6_sort 28 = .ok (.istore_n 3, 1) := by decide +kernel
theorem dX6_sort_29 : decode cX6_sort 29 = .ok (.iinc 4 1, 3) := by decide +kernel
theorem dX6_sort_32 : decode cX6_sort 32 = .ok (.goto (-27), 3) := by decide +kernel
theorem dX6_sort_35 : decode cX6_sort 35 = .ok (.iconst 0, 1) := by decide +kernel
theorem dX6_sort_36 : decode cX6_sort 36 = .ok (.istore 4, 2) := by decide +kernel
theorem dX6_sort_38 : decode cX6_sort 38 = .ok (.iload 4, 2) := by decide +kernel
theorem dX6_sort_40 : decode cX6_sort 40 = .ok (.aload_n 1, 1) := by decide +kernel
theorem dX6_sort_41 : decode cX6_sort 41 = .ok (.invokevirtual 83, 3) := by decide +kernel
theorem dX6_sort_44 : decode cX6_sort 44 = .ok (.if_icmp .ge 56, 3) := by decide +kernel
theorem dX6_sort_47 : decode cX6_sort 47 = .ok (.aload_n 1, 1) := by decide +kernel
theorem dX6_sort_48 : decode cX6_sort 48 = .ok (.iload 4, 2) := by decide +kernel
theorem dX6_sort_50 : decode cX6_sort 50 = .ok (.invokevirtual 108, 3) := by decide +kernel
theorem dX6_sort_53 : decode cX6_sort 53 = .ok (.ifCond .eq 33, 3) := by decide +kernel
theorem dX6_sort_56 : decode cX6_sort 56 = .ok (.aload_n 0, 1) := by decide +kernel
theorem dX6_sort_57 : decode cX6_sort 57 = .ok (.getfield 15, 3) := by decide +kernel
theorem dX6_sort_60 : decode cX6_sort 60 = .ok (.aload_n 0, 1) := by decide +kernel
theorem dX6_sort_61 : decode cX6_sort 61 = .ok (.getfield 18, 3) := by decide +kernel
theorem dX6_sort_64 : decode cX6_sort 64 = .ok (.aload_n 1, 1) := by decide +kernel
theorem dX6_sort_65 : decode cX6_sort 65 = .ok (.getfield 112, 3) := by decide +kernel
theorem dX6_sort_68 : decode cX6_sort 68 = .ok (.iload 4, 2) := by decide +kernel
theorem dX6_sort_70 : decode cX6_sort 70 = .ok (.iaload, 1) := by decide +kernel
theorem dX6_sort_71 : decode cX6_sort 71 = .ok (.iaload, 1) := by decide +kernel
theorem dX6_sort_72 : decode cX6_sort 72 = .ok (.aload_n 0, 1) := by decide +kernel
theorem dX6_sort_73 : decode cX6_sort 73 = .ok (.getfield 9, 3) := by decide +kernel
theorem dX6_sort_76 : decode cX6_sort 76 = .ok (.iload 4, 2) := by decide +kernel
theorem dX6_sort_78 : decode cX6_sort 78 = .ok (.iaload, 1) := by decide +kernel
theorem dX6_sort_79 : decode cX6_sort 79 = .ok (.iadd, 1) := by decide +kernel
theorem dX6_sort_80 : decode cX6_sort 80 = .ok (.iload 4, 2) := by decide +kernel
theorem dX6_sort_82 : decode cX6_sort 82 = .ok (.iastore, 1) := by decide +kernel
theorem dX6_sort_83 : decode cX6_sort 83 = .ok (.goto 11, 3) := by decide +kernel
theorem dX6_sort_86 : decode cX6_sort 86 = .ok (.aload_n 0, 1) := by decide +kernel
theorem dX6_sort_87 : decode cX6_sort 87 = .ok (.getfield 9, 3) := by decide +kernel
theorem dX6_sort_90 : decode cX6_sort 90 = .ok (.iload 4, 2) := by decide +kernel
theorem dX6_sort_92 : decode cX6_sort 92 = .ok (.iconst (-1), 1) := by decide +kernel
theorem dX6_sort_93 : decode cX6_sort 93 = .ok (.iastore, 1) := by decide +kernel
theorem dX6_sort_94 : decode cX6_sort 94 = .ok (.iinc 4 1, 3) := by decide +kernel
theorem dX6_sort_97 : decode cX6_sort 97 = .ok (.goto (-59), 3) := by decide +kernel
theorem dX6_sort_100 : decode cX6_sort 100 = .ok (.return_, 1) := by decide +kernel
theorem dX7_init_0 : decode cX7_init 0 = .ok (.aload_n 0, 1) := by decide +kernel
theorem dX7_init_1 : decode cX7_init 1 = .ok (.invokespecial 3, 3) := by decide +kernel
theorem dX7_init_4 : decode cX7_init 4 = .ok (.aload_n 0, 1) := by decide +kernel
theorem dX7_init_5 : decode cX7_init 5 = .ok (.iconst 0, 1) := by decide +kernel
theorem dX7_init_6 : decode cX7_init 6 = .ok (.putfield 9, 3) := by decide +kernel
theorem dX7_init_9 : decode cX7_init 9 = .ok (.aload_n 0, 1) := by decide +kernel
theorem dX7_init_10 : decode cX7_init 10 = .ok (.sipush 1600, 3) := by decide +kernel
theorem dX7_init_13 : decode cX7_init 13 = .ok (.newarray .byte, 2) := by decide +kernel
theorem dX7_init_15 : decode cX7_init 15 = .ok (.putfield 15, 3) := by decide +kernel
theorem dX7_init_18 : decode cX7_init 18 = .ok (.return_, 1) := by decide +kernel
theorem dX7_writeZone_0 : decode cX7_writeZone 0 = .ok (.aload_n 0, 1) := by decide +kernel
theorem dX7_writeZone_1 : decode cX7_writeZone 1 = .ok (.iconst 0, 1) := by decide +kernel
theorem dX7_writeZone_2 : decode cX7_writeZone 2 = .ok (.putfield 9, 3) := by decide +kernel
theorem dX7_writeZone_5 : decode cX7_writeZone 5 = .ok (.iconst 0, 1) := by decide +kernel
theorem dX7_writeZone_6 : decode cX7_writeZone 6 = .ok (.istore_n 3, 1) := by decide +kernel
theorem dX7_writeZone_7 : decode cX7_writeZone 7 = .ok (.iload_n 3, 1) := by decide +kernel
theorem dX7_writeZone_8 : decode cX7_writeZone 8 = .ok (.aload_n 1, 1) := by decide +kernel
theorem dX7_writeZone_9 : decode cX7_writeZone 9 = .ok (.getfield 19, 3) := by decide +kernel
theorem dX7_writeZone_12 : decode cX7_writeZone 12 = .ok (.if_icmp .ge 38, 3) := by decide +kernel
theorem dX7_writeZone_15 : decode cX7_writeZone 15 = .ok (.aload_n 1, 1) := by decide +kernel
theorem dX7_writeZone_16 : decode cX7_writeZone 16 = .ok (.iload_n 2, 1) := by decide +kernel
theorem dX7_writeZone_17 : decode cX7_writeZone 17 = .ok (.iload_n 3, 1) := by decide +kernel
theorem dX7_writeZone_18 : decode cX7_writeZone 18 = .ok (.invokevirtual 24, 3) := by decide +kernel
theorem dX7_writeZone_21 : decode cX7_writeZone 21 = .ok (.istore 4, 2) := by decide +kernel
theorem dX7_writeZone_23 : decode cX7_writeZone 23 = .ok (.iload 4, 2) := by decide +kernel
theorem dX7_writeZone_25 : decode cX7_writeZone 25 = .ok (.ifCond .le 19, 3) := by decide +kernel
theorem dX7_writeZone_28 : decode cX7_writeZone 28 = .ok (.aload_n 0, 1) := by decide +kernel
theorem dX7_writeZone_29 : decode cX7_writeZone 29 = .ok (.aload_n 1, 1) := by decide +kernel
theorem dX7_writeZone_30 : decode cX7_writeZone 30 = .ok (.iload_n 2, 1) := by decide +kernel
theorem dX7_writeZone_31 : decode cX7_writeZone 31 = .ok (.iload_n 3, 1) := by decide +kernel
theorem dX7_writeZone_32 : decode cX7_writeZone 32 = .ok (.invokevirtual 28, 3) := by decide +kernel
theorem dX7_writeZone_35 : decode cX7_writeZone 35 = .ok (.aload_n 0, 1) := by decide +kernel
theorem dX7_writeZone_36 : decode cX7_writeZone 36 = .ok (.aload_n 1, 1) := by decide +kernel
theorem dX7_writeZone_37 : decode cX7_writeZone 37 = .ok (.iload_n 2, 1) := by decide +kernel
theorem dX7_writeZone_38 : decode cX7_writeZone 38 = .ok (.iload_n 3, 1) := by decide +kernel
theorem dX7_writeZone_39 : decode cX7_writeZone 39 = .ok (.iload 4, 2) := by decide +kernel
theorem dX7_writeZone_41 : decode cX7_writeZone 41 = .ok (.invokevirtual 32, 3) := by decide +kernel
theorem dX7_writeZone_44 : decode cX7_writeZone 44 = .ok (.iinc 3 1, 3) := by decide +kernel
theorem dX7_writeZone_47 : decode cX7_writeZone 47 = .ok (.goto (-40), 3) := by decide +kernel
theorem dX7_writeZone_50 : decode cX7_writeZone 50 = .ok (.return_, 1) := by decide +kernel
theorem dX7_putHead_0 : decode cX7_putHead 0 = .ok (.aload_n 0, 1) := by decide +kernel
theorem dX7_putHead_1 : decode cX7_putHead 1 = .ok (.ldc 36, 2) := by decide +kernel
theorem dX7_putHead_3 : decode cX7_putHead 3 = .ok (.invokevirtual 38, 3) := by decide +kernel
theorem dX7_putHead_6 : decode cX7_putHead 6 = .ok (.iconst 0, 1) := by decide +kernel
theorem dX7_putHead_7 : decode cX7_putHead 7 = .ok (.istore 4, 2) := by decide +kernel
theorem dX7_putHead_9 : decode cX7_putHead 9 = .ok (.iload 4, 2) := by decide +kernel
theorem dX7_putHead_11 : decode cX7_putHead 11 = .ok (.aload_n 1, 1) := by decide +kernel
theorem dX7_putHead_12 : decode cX7_putHead 12 = .ok (.getfield 42, 3) := by decide +kernel
theorem dX7_putHead_15 : decode cX7_putHead 15 = .ok (.iload_n 2, 1) := by decide +kernel
theorem dX7_putHead_16 : decode cX7_putHead 16 = .ok (.iaload, 1) := by decide +kernel
theorem dX7_putHead_17 : decode cX7_putHead 17 = .ok (.if_icmp .ge 25, 3) := by decide +kernel
theorem dX7_putHead_20 : decode cX7_putHead 20 = .ok (.aload_n 0, 1) := by decide +kernel
theorem dX7_putHead_21 : decode cX7_putHead 21 = .ok (.aload_n 1, 1) := by decide +kernel
theorem dX7_putHead_22 : decode cX7_putHead 22 = .ok (.getfield 46, 3) := by decide +kernel
theorem dX7_putHead_25 : decode cX7_putHead 25 = .ok (.iload_n 2, 1) := by decide +kernel
theorem dX7_putHead_26 : decode cX7_putHead 26 = .ok (.bipush 6, 2) := by decide +kernel
theorem dX7_putHead_28 : decode cX7_putHead 28 = .ok (.imul, 1) := by decide +kernel
theorem dX7_putHead_29 : decode cX7_putHead 29 = .ok (.iload 4, 2) := by decide +kernel
theorem dX7_putHead_31 : decode cX7_putHead 31 = .ok (.iadd, 1) := by decide +kernel
theorem dX7_putHead_32 : decode cX7_putHead 32 = .ok (.baload, 1) := by decide +kernel
theorem dX7_putHead_33 : decode cX7_putHead 33 = .ok (.invokevirtual 49, 3) := by decide +kernel
theorem dX7_putHead_36 : decode cX7_putHead 36 = .ok (.iinc 4 1, 3) := by decide +kernel
theorem dX7_putHead_39 : decode cX7_putHead 39 = .ok (.goto (-30), 3) := by decide +kernel
theorem dX7_putHead_42 : decode cX7_putHead 42 = .ok (.aload_n 0, 1) := by decide +kernel
theorem dX7_putHead_43 : decode cX7_putHead 43 = .ok (.ldc 53, 2) := by decide +kernel
theorem dX7_putHead_45 : decode cX7_putHead 45 = .ok (.invokevirtual 38, 3) := by decide +kernel
theorem dX7_putHead_48 : decode cX7_putHead 48 = .ok (.aload_n 0, 1) := by decide +kernel
theorem dX7_putHead_49 : decode cX7_putHead 49 = .ok (.iload_n 3, 1) := by decide +kernel
theorem dX7_putHead_50 : decode cX7_putHead 50 = .ok (.invokevirtual 55, 3) := by decide +kernel
theorem dX7_putHead_53 : decode cX7_putHead 53 = .ok (.aload_n 0, 1) := by decide +kernel
theorem dX7_putHead_54 : decode cX7_putHead 54 = .ok (.ldc 58, 2) := by decide +kernel
theorem dX7_putHead_56 : decode cX7_putHead 56 = .ok (.invokevirtual 38, 3) := by decide +kernel
theorem dX7_putHead_59 : decode cX7_putHead 59 = .ok (.return_, 1) := by decide +kernel
theorem dX7_putRuns_0 : decode cX7_putRuns 0 = .ok (.iconst 0, 1) := by decide +kernel
theorem dX7_putRuns_1 : decode cX7_putRuns 1 = .ok (.istore 5, 2) := by decide +kernel
theorem dX7_putRuns_3 : decode cX7_putRuns 3 = .ok (.iload 5, 2) := by decide +kernel
theorem dX7_putRuns_5 : decode cX7_putRuns 5 = .ok (.iload 4, 2) := by decide +kernel
theorem dX7_putRuns_7 : decode cX7_putRuns 7 = .ok (.if_icmp .ge 57, 3) := by decide +kernel
theorem dX7_putRuns_10 : decode cX7_putRuns 10 = .ok (.aload_n 0, 1) := by decide +kernel
theorem dX7_putRuns_11 : decode cX7_putRuns 11 = .ok (.iload 5, 2) := by decide +kernel
theorem dX7_putRuns_13 : decode cX7_putRuns 13 = .ok (.ifCond .le 8, 3) := by decide +kernel
theorem dX7_putRuns_16 : decode cX7_putRuns 16 = .ok (.ldc 60, 2) := by decide +kernel
theorem dX7_putRuns_18 : decode cX7_putRuns 18 = .ok (.goto 5, 3) := by decide +kernel
theorem dX7_putRuns_21 : decode cX7_putRuns 21 = .ok (.ldc 62, 2) := by decide +kernel
theorem dX7_putRuns_23 : decode cX7_putRuns 23 = .ok (.invokevirtual 38, 3) := by decide +kernel
theorem dX7_putRuns_26 : decode cX7_putRuns 26 = .ok (.aload_n 0, 1) := by decide +kernel
theorem dX7_putRuns_27 : decode cX7_putRuns 27 = .ok (.aload_n 1, 1) := by decide +kernel
theorem dX7_putRuns_28 : decode cX7_putRuns 28 = .ok (.iload_n 2, 1) := by decide +kernel
theorem dX7_putRuns_29 : decode cX7_putRuns 29 = .ok (.iload_n 3, 1) := by decide +kernel
theorem dX7_putRuns_30 : decode cX7_putRuns 30 = .ok (.iload 5, 2) := by decide +kernel
theorem dX7_putRuns_32 : decode cX7_putRuns 32 = .ok (.iconst 0, 1) := by decide +kernel
theorem dX7_putRuns_33 : decode cX7_putRuns 33 = .ok (.invokevirtual 64, 3) := by decide +kernel
theorem dX7_putRuns_36 : decode cX7_putRuns 36 = .ok (.invokevirtual 55, 3) := by decide +kernel
theorem dX7_putRuns_39 : decode cX7_putRuns 39 = .ok (.aload_n 0, 1) := by decide +kernel
theorem dX7_putRuns_40 : decode cX7_putRuns 40 = .ok (.ldc 68, 2) := by decide +kernel
theorem dX7_putRuns_42 : decode cX7_putRuns 42 = .ok (.invokevirtual 38, 3) := by decide +kernel
theorem dX7_putRuns_45 : decode cX7_putRuns 45 = .ok (.aload_n 0, 1) := by decide +kernel
theorem dX7_putRuns_46 : decode cX7_putRuns 46 = .ok (.aload_n 1, 1) := by decide +kernel
theorem dX7_putRuns_47 : decode cX7_putRuns 47 = .ok (.iload_n 2, 1) := by decide +kernel
theorem dX7_putRuns_48 : decode cX7_putRuns 48 = .ok (.iload_n 3, 1) := by decide +kernel
theorem dX7_putRuns_49 : decode cX7_putRuns 49 = .ok (.iload 5, 2) := by decide +kernel
theorem dX7_putRuns_51 : decode cX7_putRuns 51 = .ok (.iconst 1, 1) := by decide +kernel
theorem dX7_putRuns_52 : decode cX7_putRuns 52 = .ok (.invokevirtual 64, 3) := by decide +kernel
theorem dX7_putRuns_55 : decode cX7_putRuns 55 = .ok (.invokevirtual 55, 3) := by decide +kernel
theorem dX7_putRuns_58 : decode cX7_putRuns 58 = .ok (.iinc 5 1, 3) := by decide +kernel
theorem dX7_putRuns_61 : decode cX7_putRuns 61 = .ok (.goto (-58), 3) := by decide +kernel
theorem dX7_putRuns_64 : decode cX7_putRuns 64 = .ok (.aload_n 0, 1) := by decide +kernel
theorem dX7_putRuns_65 : decode cX7_putRuns 65 = .ok (.ldc 70, 2) := by decide +kernel
theorem dX7_putRuns_67 : decode cX7_putRuns 67 = .ok (.invokevirtual 38, 3) := by decide +kernel
theorem dX7_putRuns_70 : decode cX7_putRuns 70 = .ok (.return_, 1) := by decide +kernel
theorem dX7_putNumber_0 : decode cX7_putNumber 0 = .ok (.iload_n 1, 1) := by decide +kernel
theorem dX7_putNumber_1 : decode cX7_putNumber 1 = .ok (.bipush 10, 2) := by decide +kernel
theorem dX7_putNumber_3 : decode cX7_putNumber 3 = .ok (.if_icmp .lt 14, 3) := by decide +kernel
theorem dX7_putNumber_6 : decode cX7_putNumber 6 = .ok (.aload_n 0, 1) := by decide +kernel
theorem dX7_putNumber_7 : decode cX7_putNumber 7 = .ok (.bipush 48, 2) := by decide +kernel
theorem dX7_putNumber_9 : decode cX7_putNumber 9 = .ok (.iload_n 1, 1) := by decide +kernel
theorem dX7_putNumber_10 : decode cX7_putNumber 10 = .ok (.bipush 10, 2) := by decide +kernel
theorem dX7_putNumber_12 : decode cX7_putNumber 12 = .ok (.idiv, 1) := by decide +kernel
theorem dX7_putNumber_13 : decode cX7_putNumber 13 = .ok (.iadd, 1) := by decide +kernel
theorem dX7_putNumber_14 : decode cX7_putNumber 14 = .ok (.invokevirtual 49, 3) := by decide +kernel
theorem dX7_putNumber_17 : decode cX7_putNumber 17 = .ok (.aload_n 0, 1) := by decide +kernel
theorem dX7_putNumber_18 : decode cX7_putNumber 18 = .ok (.bipush 48, 2) := by decide +kernel
theorem dX7_putNumber_20 : decode cX7_putNumber 20 = .ok (.iload_n 1, 1) := by decide +kernel
theorem dX7_putNumber_21 : decode cX7_putNumber 21 = .ok (.bipush 10, 2) := by decide +kernel
theorem dX7_putNumber_23 : decode cX7_putNumber 23 = .ok (.irem, 1) := by decide +kernel
theorem dX7_putNumber_24 : decode cX7_putNumber 24 = .ok (.iadd, 1) := by decide +kernel
theorem dX7_putNumber_25 : decode cX7_putNumber 25 = .ok (.invokevirtual 49, 3) := by decide +kernel
theorem dX7_putNumber_28 : decode cX7_putNumber 28 = .ok (.return_, 1) := by decide +kernel
theorem dX7_putText_0 : decode cX7_putText 0 = .ok (.iconst 0, 1) := by decide +kernel
theorem dX7_putText_1 : decode cX7_putText 1 = .ok (.istore_n 2, 1) := by decide +kernel
theorem dX7_putText_2 : decode cX7_putText 2 = .ok (.iload_n 2, 1) := by decide +kernel
theorem dX7_putText_3 : decode cX7_putText 3 = .ok (.aload_n 1, 1) := by decide +kernel
theorem dX7_putText_4 : decode cX7_putText 4 = .ok (.invokevirtual 72, 3) := by decide +kernel
theorem dX7_putText_7 : decode cX7_putText 7 = .ok (.if_icmp .ge 18, 3) := by decide +kernel
theorem dX7_putText_10 : decode cX7_putText 10 = .ok (.aload_n 0, 1) := by decide +kernel
theorem dX7_putText_11 : decode cX7_putText 11 = .ok (.aload_n 1, 1) := by decide +kernel
theorem dX7_putText_12 : decode cX7_putText 12 = .ok (.iload_n 2, 1) := by decide +kernel
theorem dX7_putText_13 : decode cX7_putText 13 = .ok (.invokevirtual 77, 3) := by decide +kernel
theorem dX7_putText_16 : decode cX7_putText 16 = .ok (.invokevirtual 49, 3) := by decide +kernel
theorem dX7_putText_19 : decode cX7_putText 19 = .ok (.iinc 2 1, 3) := by decide +kernel
theorem dX7_putText_22 : decode cX7_putText 22 = .ok (.goto (-20), 3) := by decide +kernel
theorem dX7_putText_25 : decode cX7_putText 25 = .ok (.return_, 1) := by decide +kernel
theorem dX7_put_0 : decode cX7_put 0 = .ok (.aload_n 0, 1) := by decide +kernel
theorem dX7_put_1 : decode cX7_put 1 = .ok (.getfield 9, 3) := by decide +kernel
theorem dX7_put_4 : decode cX7_put 4 = .ok (.sipush 1600, 3) := by decide +kernel
theorem dX7_put_7 : decode cX7_put 7 = .ok (.if_icmp .ge 24, 3) := by decide +kernel
theorem dX7_put_10 : decode cX7_put 10 = .ok (.aload_n 0, 1) := by decide +kernel
theorem dX7_put_11 : decode cX7_put 11 = .ok (.getfield 15, 3) := by decide +kernel
theorem dX7_put_14 : decode cX7_put 14 = .ok (.aload_n 0, 1) := by decide +kernel
theorem dX7_put_15 : decode cX7_put 15 = .ok (.getfield 9, 3) := by decide +kernel
theorem dX7_put_18 : decode cX7_put 18 = .ok (.iload_n 1, 1) := by decide +kernel
theorem dX7_put_19 : decode cX7_put 19 = .ok (.i2b, 1) := by decide +kernel
theorem dX7_put_20 : decode cX7_put 20 = .ok (.bastore, 1) := by decide +kernel
theorem dX7_put_21 : decode cX7_put 21 = .ok (.aload_n 0, 1) := by decide +kernel
theorem dX7_put_22 : decode cX7_put 22 = .ok (.dup, 1) := by decide +kernel
theorem dX7_put_23 : decode cX7_put 23 = .ok (.getfield 9, 3) := by decide +kernel
theorem dX7_put_26 : decode cX7_put 26 = .ok (.iconst 1, 1) := by decide +kernel
theorem dX7_put_27 : decode cX7_put 27 = .ok (.iadd, 1) := by decide +kernel
theorem dX7_put_28 : decode cX7_put 28 = .ok (.putfield 9, 3) := by decide +kernel
theorem dX7_put_31 : decode cX7_put 31 = .ok (.return_, 1) := by decide +kernel
theorem dX8_init_0 : decode cX8_init 0 = .ok (.aload_n 0, 1) := by decide +kernel
theorem dX8_init_1 : decode cX8_init 1 = .ok (.invokespecial 3, 3) := by decide +kernel
theorem dX8_init_4 : decode cX8_init 4 = .ok (.aload_n 0, 1) := by decide +kernel
theorem dX8_init_5 : decode cX8_init 5 = .ok (.iconst 0, 1) := by decide +kernel
theorem dX8_init_6 : decode cX8_init 6 = .ok (.putfield 9, 3) := by decide +kernel
theorem dX8_init_9 : decode cX8_init 9 = .ok (.aload_n 0, 1) := by decide +kernel
theorem dX8_init_10 : decode cX8_init 10 = .ok (.bipush 8, 2) := by decide +kernel
theorem dX8_init_12 : decode cX8_init 12 = .ok (.newarray .int, 2) := by decide +kernel
theorem dX8_init_14 : decode cX8_init 14 = .ok (.putfield 15, 3) := by decide +kernel
theorem dX8_init_17 : decode cX8_init 17 = .ok (.aload_n 0, 1) := by decide +kernel
theorem dX8_init_18 : decode cX8_init 18 = .ok (.iconst 0, 1) := by decide +kernel
theorem dX8_init_19 : decode cX8_init 19 = .ok (.putfield 19, 3) := by decide +kernel
theorem dX8_init_22 : decode cX8_init 22 = .ok (.aload_n 0, 1) := by decide +kernel
theorem dX8_init_23 : decode cX8_init 23 = .ok (.iconst 1, 1) := by decide +kernel
theorem dX8_init_24 : decode cX8_init 24 = .ok (.putfield 23, 3) := by decide +kernel
theorem dX8_init_27 : decode cX8_init 27 = .ok (.aload_n 0, 1) := by decide +kernel
theorem dX8_init_28 : decode cX8_init 28 = .ok (.bipush 120, 2) := by decide +kernel
theorem dX8_init_30 : decode cX8_init 30 = .ok (.newarray .int, 2) := by decide +kernel
theorem dX8_init_32 : decode cX8_init 32 = .ok (.putfield 26, 3) := by decide +kernel
theorem dX8_init_35 : decode cX8_init 35 = .ok (.aload_n 0, 1) := by decide +kernel
theorem dX8_init_36 : decode cX8_init 36 = .ok (.bipush 120, 2) := by decide +kernel
theorem dX8_init_38 : decode cX8_init 38 = .ok (.newarray .int, 2) := by decide +kernel
theorem dX8_init_40 : decode cX8_init 40 = .ok (.putfield 29, 3) := by decide +kernel
theorem dX8_init_43 : decode cX8_init 43 = .ok (.aload_n 0, 1) := by decide +kernel
theorem dX8_init_44 : decode cX8_init 44 = .ok (.bipush 15, 2) := by decide +kernel
theorem dX8_init_46 : decode cX8_init 46 = .ok (.newarray .int, 2) := by decide +kernel
theorem dX8_init_48 : decode cX8_init 48 = .ok (.putfield 32, 3) := by decide +kernel
theorem dX8_init_51 : decode cX8_init 51 = .ok (.return_, 1) := by decide +kernel
theorem dX8_reckon_0 : decode cX8_reckon 0 = .ok (.aload_n 0, 1) := by decide +kernel
theorem dX8_reckon_1 : decode cX8_reckon 1 = .ok (.aload_n 1, 1) := by decide +kernel
theorem dX8_reckon_2 : decode cX8_reckon 2 = .ok (.getfield 35, 3) := by decide +kernel
theorem dX8_reckon_5 : decode cX8_reckon 5 = .ok (.putfield 19, 3) := by decide +kernel
theorem dX8_reckon_8 : decode cX8_reckon 8 = .ok (.aload_n 0, 1) := by decide +kernel
theorem dX8_reckon_9 : decode cX8_reckon 9 = .ok (.aload_n 1, 1) := by decide +kernel
theorem dX8_reckon_10 : decode cX8_reckon 10 = .ok (.getfield 38, 3) := by decide +kernel
theorem dX8_reckon_13 : decode cX8_reckon 13 = .ok (.putfield 23, 3) := by decide +kernel
theorem dX8_reckon_16 : decode cX8_reckon 16 = .ok (.aload_n 0, 1) := by decide +kernel
theorem dX8_reckon_17 : decode cX8_reckon 17 = .ok (.aload_n 1, 1) := by decide +kernel
theorem dX8_reckon_18 : decode cX8_reckon 18 = .ok (.invokevirtual 39, 3) := by decide +kernel
theorem dX8_reckon_21 : decode cX8_reckon 21 = .ok (.iconst 0, 1) := by decide +kernel
theorem dX8_reckon_22 : decode cX8_reckon 22 = .ok (.istore 4, 2) := by decide +kernel
theorem dX8_reckon_24 : decode cX8_reckon 24 = .ok (.iload 4, 2) := by decide +kernel
theorem dX8_reckon_26 : decode cX8_reckon 26 = .ok (.aload_n 0, 1) := by decide +kernel
theorem dX8_reckon_27 : decode cX8_reckon 27 = .ok (.getfield 23, 3) := by decide +kernel
theorem dX8_reckon_30 : decode cX8_reckon 30 = .ok (.if_icmp .ge 43, 3) := by decide +kernel
theorem dX8_reckon_33 : decode cX8_reckon 33 = .ok (.iconst 0, 1) := by decide +kernel
theorem dX8_reckon_34 : decode cX8_reckon 34 = .ok (.istore 5, 2) := by decide +kernel
theorem dX8_reckon_36 : decode cX8_reckon 36 = .ok (.iload 5, 2) := by decide +kernel
theorem dX8_reckon_38 : decode cX8_reckon 38 = .ok (.iconst 5, 1) := by decide +kernel
theorem dX8_reckon_39 : decode cX8_reckon 39 = .ok (.if_icmp .ge 28, 3) := by decide +kernel
theorem dX8_reckon_42 : decode cX8_reckon 42 = .ok (.aload_n 0, 1) := by decide +kernel
theorem dX8_reckon_43 : decode cX8_reckon 43 = .ok (.aload_n 1, 1) := by decide +kernel
theorem dX8_reckon_44 : decode cX8_reckon 44 = .ok (.iload 4, 2) := by decide +kernel
theorem dX8_reckon_46 : decode cX8_reckon 46 = .ok (.iload 5, 2) := by decide +kernel
theorem dX8_reckon_48 : decode cX8_reckon 48 = .ok (.iload 5, 2) := by decide +kernel
theorem dX8_reckon_50 : decode cX8_reckon 50 = .ok (.ifCond .ne 7, 3) := by decide +kernel
theorem dX8_reckon_53 : decode cX8_reckon 53 = .ok (.iload_n 2, 1) := by decide +kernel
theorem dX8_reckon_54 : decode cX8_reckon 54 = .ok (.goto 4, 3) := by decide +kernel
theorem dX8_reckon_57 : decode cX8_reckon 57 = .ok (.iload_n 3, 1) := by decide +kernel
theorem dX8_reckon_58 : decode cX8_reckon 58 = .ok (.invokevirtual 43, 3) := by decide +kernel
theorem dX8_reckon_61 : decode cX8_reckon 61 = .ok (.iinc 5 1, 3) := by decide +kernel
theorem dX8_reckon_64 : decode cX8_reckon 64 = .ok (.goto (-28), 3) := by decide +kernel
theorem dX8_reckon_67 : decode cX8_reckon 67 = .ok (.iinc 4 1, 3) := by decide +kernel
theorem dX8_reckon_70 : decode cX8_reckon 70 = .ok (.goto (-46), 3) := by decide +kernel
theorem dX8_reckon_73 : decode cX8_reckon 73 = .ok (.aload_n 0, 1) := by decide +kernel
theorem dX8_reckon_74 : decode cX8_reckon 74 = .ok (.iconst 1, 1) := by decide +kernel
theorem dX8_reckon_75 : decode cX8_reckon 75 = .ok (.putfield 9, 3) := by decide +kernel
theorem dX8_reckon_78 : decode cX8_reckon 78 = .ok (.return_, 1) := by decide +kernel
theorem dX8_countLand_0 : decode cX8_countLand 0 = .ok (.aload_n 0, 1) := by decide +kernel
theorem dX8_countLand_1 : decode cX8_countLand 1 = .ok (.getfield 15, 3) := by decide +kernel
theorem dX8_countLand_4 : decode cX8_countLand 4 = .ok (.iconst 0, 1) := by decide +kernel
theorem dX8_countLand_5 : decode cX8_countLand 5 = .ok (.invokestatic 47, 3) := by decide +kernel
theorem dX8_countLand_8 : decode cX8_countLand 8 = .ok (.iconst 0, 1) := by decide +kernel
theorem dX8_countLand_9 : decode cX8_countLand 9 = .ok (.istore_n 2, 1) := by decide +kernel
theorem dX8_countLand_10 : decode cX8_countLand 10 = .ok (.iload_n 2, 1) := by decide +kernel
theorem dX8_countLand_11 : decode cX8_countLand 11 = .ok (.aload_n 1, 1) := by decide +kernel
theorem dX8_countLand_12 : decode cX8_countLand 12 = .ok (.invokevirtual 53, 3) := by decide +kernel
theorem dX8_countLand_15 : decode cX8_countLand 15 = .ok (.if_icmp .ge 32, 3) := by decide +kernel
theorem dX8_countLand_18 : decode cX8_countLand 18 = .ok (.aload_n 1, 1) := by decide +kernel
theorem dX8_countLand_19 : decode cX8_countLand 19 = .ok (.iload_n 2, 1) := by decide +kernel
theorem dX8_countLand_20 : decode cX8_countLand 20 = .ok (.invokevirtual 57, 3) := by decide +kernel
theorem dX8_countLand_23 : decode cX8_countLand 23 = .ok (.ifCond .eq 18, 3) := by decide +kernel
theorem dX8_countLand_26 : decode cX8_countLand 26 = .ok (.aload_n 0, 1) := by decide +kernel
theorem dX8_countLand_27 : decode cX8_countLand 27 = .ok (.getfield 15, 3) := by decide +kernel
theorem dX8_countLand_30 : decode cX8_countLand 30 = .ok (.aload_n 1, 1) := by decide +kernel
theorem dX8_countLand_31 : decode cX8_countLand 31 = .ok (.getfield 61, 3) := by decide +kernel
theorem dX8_countLand_34 : decode cX8_countLand 34 = .ok (.iload_n 2, 1) := by decide +kernel
theorem dX8_countLand_35 : decode cX8_countLand 35 = .ok (.iaload, 1) := by decide +kernel
theorem dX8_countLand_36 : decode cX8_countLand 36 = .ok (.dup2, 1) := by decide +kernel
theorem dX8_countLand_37 : decode cX8_countLand 37 = .ok (.iaload, 1) := by decide +kernel
theorem dX8_countLand_38 : decode cX8_countLand 38 = .ok (.iconst 1, 1) := by decide +kernel
theorem dX8_countLand_39 : decode cX8_countLand 39 = .ok (.iadd, 1) := by decide +kernel
theorem dX8_countLand_40 : decode cX8_countLand 40 = .ok (.iastore, 1) := by decide +kernel
theorem dX8_countLand_41 : decode cX8_countLand 41 = .ok (.iinc 2 1, 3) := by decide +kernel
theorem dX8_countLand_44 : decode cX8_countLand 44 = .ok (.goto (-34), 3) := by decide +kernel
theorem dX8_countLand_47 : decode cX8_countLand 47 = .ok (.return_, 1) := by decide +kernel
theorem dX8_share_0 : decode cX8_share 0 = .ok (.iload 4, 2) := by decide +kernel
theorem dX8_share_2 : decode cX8_share 2 = .ok (.iconst 1, 1) := by decide +kernel
theorem dX8_share_3 : decode cX8_share 3 = .ok (.if_icmp .ge 4, 3) := by decide +kernel
theorem dX8_share_6 : decode cX8_share 6 = .ok (.return_, 1) := by decide +kernel
theorem dX8_share_7 : decode cX8_share 7 = .ok (.iconst 0, 1) := by decide +kernel
theorem dX8_share_8 : decode cX8_share 8 = .ok (.istore 5, 2) := by decide +kernel
theorem dX8_share_10 : decode cX8_share 10 = .ok (.iconst 0, 1) := by decide +kernel
theorem dX8_share_11 : decode cX8_share 11 = .ok (.istore 6, 2) := by decide +kernel
theorem dX8_share_13 : decode cX8_share 13 = .ok (.iload 6, 2) := by decide +kernel
theorem dX8_share_15 : decode cX8_share 15 = .ok (.aload_n 0, 1) := by decide +kernel
theorem dX8_share_16 : decode cX8_share 16 = .ok (.getfield 19, 3) := by decide +kernel
theorem dX8_share_19 : decode cX8_share 19 = .ok (.if_icmp .ge 97, 3) := by decide +kernel
theorem dX8_share_22 : decode cX8_share 22 = .ok (.iload 6, 2) := by decide +kernel
theorem dX8_share_24 : decode cX8_share 24 = .ok (.iload_n 2, 1) := by decide +kernel
theorem dX8_share_25 : decode cX8_share 25 = .ok (.iload_n 3, 1) := by decide +kernel
theorem dX8_share_26 : decode cX8_share 26 = .ok (.invokestatic 64, 3) := by decide +kernel
theorem dX8_share_29 : decode cX8_share 29 = .ok (.istore 7, 2) := by decide +kernel
theorem dX8_share_31 : decode cX8_share 31 = .ok (.aload_n 0, 1) := by decide +kernel
theorem dX8_share_32 : decode cX8_share 32 = .ok (.getfield 29, 3) := by decide +kernel
theorem dX8_share_35 : decode cX8_share 35 = .ok (.iload 7, 2) := by decide +kernel
theorem dX8_share_37 : decode cX8_share 37 = .ok (.iload 5, 2) := by decide +kernel
theorem dX8_share_39 : decode cX8_share 39 = .ok (.iastore, 1) := by decide +kernel
theorem dX8_share_40 : decode cX8_share 40 = .ok (.iload 5, 2) := by decide +kernel
theorem dX8_share_42 : decode cX8_share 42 = .ok (.iload_n 3, 1) := by decide +kernel
theorem dX8_share_43 : decode cX8_share 43 = .ok (.ifCond .ne 13, 3) := by decide +kernel
theorem dX8_share_46 : decode cX8_share 46 = .ok (.aload_n 1, 1) := by decide +kernel
theorem dX8_share_47 : decode cX8_share 47 = .ok (.iload 6, 2) := by decide +kernel
theorem dX8_share_49 : decode cX8_share 49 = .ok (.iload_n 2, 1) := by decide +kernel
theorem dX8_share_50 : decode cX8_share 50 = .ok (.invokevirtual 68, 3) := by decide +kernel
theorem dX8_share_53 : decode cX8_share 53 = .ok (.goto 13, 3) := by decide +kernel
theorem dX8_share_56 : decode cX8_share 56 = .ok (.aload_n 0, 1) := by decide +kernel
theorem dX8_share_57 : decode cX8_share 57 = .ok (.iload 6, 2) := by decide +kernel
theorem dX8_share_59 : decode cX8_share 59 = .ok (.iload_n 2, 1) := by decide +kernel
theorem dX8_share_60 : decode cX8_share 60 = .ok (.iload_n 3, 1) := by decide +kernel
theorem dX8_share_61 : decode cX8_share 61 = .ok (.iconst 1, 1) := by decide +kernel
theorem dX8_share_62 : decode cX8_share 62 = .ok (.isub, 1) := by decide +kernel
theorem dX8_share_63 : decode cX8_share 63 = .ok (.invokevirtual 72, 3) := by decide +kernel
theorem dX8_share_66 : decode cX8_share 66 = .ok (.iadd, 1) := by decide +kernel
theorem dX8_share_67 : decode cX8_share 67 = .ok (.istore 5, 2) := by decide +kernel
theorem dX8_share_69 : decode cX8_share 69 = .ok (.aload_n 0, 1) := by decide +kernel
theorem dX8_share_70 : decode cX8_share 70 = .ok (.getfield 26, 3) := by decide +kernel
theorem dX8_share_73 : decode cX8_share 73 = .ok (.iload 7, 2) := by decide +kernel
theorem dX8_share_75 : decode cX8_share 75 = .ok (.aload_n 0, 1) := by decide +kernel
theorem dX8_share_76 : decode cX8_share 76 = .ok (.getfield 15, 3) := by decide +kernel
theorem dX8_share_79 : decode cX8_share 79 = .ok (.iload 6, 2) := by decide +kernel
theorem dX8_share_81 : decode cX8_share 81 = .ok (.iaload, 1) := by decide +kernel
theorem dX8_share_82 : decode cX8_share 82 = .ok (.ifCond .le 11, 3) := by decide +kernel
theorem dX8_share_85 : decode cX8_share 85 = .ok (.iload 5, 2) := by decide +kernel
theorem dX8_share_87 : decode cX8_share 87 = .ok (.iload 4, 2) := by decide +kernel
theorem dX8_share_89 : decode cX8_share 89 = .ok (.idiv, 1) := by decide +kernel
theorem dX8_share_90 : decode cX8_share 90 = .ok (.goto 4, 3) := by decide +kernel
theorem dX8_share_93 : decode cX8_share 93 = .ok (.iconst 0, 1) := by decide +kernel
theorem dX8_share_94 : decode cX8_share 94 = .ok (.iastore, 1) := by decide +kernel
theorem dX8_share_95 : decode cX8_share 95 = .ok (.iload 5, 2) := by decide +kernel
theorem dX8_share_97 : decode cX8_share 97 = .ok (.aload_n 0, 1) := by decide +kernel
theorem dX8_share_98 : decode cX8_share 98 = .ok (.getfield 26, 3) := by decide +kernel
theorem dX8_share_101 : decode cX8_share 101 = .ok (.iload 7, 2) := by decide +kernel
theorem dX8_share_103 : decode cX8_share 103 = .ok (.iaload, 1) := by decide +kernel
theorem dX8_share_104 : decode cX8_share 104 = .ok (.iload 4, 2) := by decide +kernel
theorem dX8_share_106 : decode cX8_share 106 = .ok (.imul, 1) := by decide +kernel
theorem dX8_share_107 : decode cX8_share 107 = .ok (.isub, 1) := by decide +kernel
theorem dX8_share_108 : decode cX8_share 108 = .ok (.istore 5, 2) := by decide +kernel
theorem dX8_share_110 : decode cX8_share 110 = .ok (.iinc 6 1, 3) := by decide +kernel
theorem dX8_share_113 : decode cX8_share 113 = .ok (.goto (-100), 3) := by decide +kernel
theorem dX8_share_116 : decode cX8_share 116 = .ok (.aload_n 0, 1) := by decide +kernel
theorem dX8_share_117 : decode cX8_share 117 = .ok (.getfield 32, 3) := by decide +kernel
theorem dX8_share_120 : decode cX8_share 120 = .ok (.iload_n 3, 1) := by decide +kernel
theorem dX8_share_121 : decode cX8_share 121 = .ok (.iconst 3, 1) := by decide +kernel
theorem dX8_share_122 : decode cX8_share 122 = .ok (.imul, 1) := by decide +kernel
theorem dX8_share_123 : decode cX8_share 123 = .ok (.iload_n 2, 1) := by decide +kernel
theorem dX8_share_124 : decode cX8_share 124 = .ok (.iadd, 1) := by decide +kernel
theorem dX8_share_125 : decode cX8_share 125 = .ok (.iload 5, 2) := by decide +kernel
theorem dX8_share_127 : decode cX8_share 127 = .ok (.iastore, 1) := by decide +kernel
theorem dX8_share_128 : decode cX8_share 128 = .ok (.return_, 1) := by decide +kernel
theorem dX8_placeOf_0 : decode cX8_placeOf 0 = .ok (.iload_n 2, 1) := by decide +kernel
theorem dX8_placeOf_1 : decode cX8_placeOf 1 = .ok (.iconst 3, 1) := by decide +kernel
theorem dX8_placeOf_2 : decode cX8_placeOf 2 = .ok (.imul, 1) := by decide +kernel
theorem dX8_placeOf_3 : decode cX8_placeOf 3 = .ok (.iload_n 1, 1) := by decide +kernel
theorem dX8_placeOf_4 : decode cX8_placeOf 4 = .ok (.iadd, 1) := by decide +kernel
theorem dX8_placeOf_5 : decode cX8_placeOf 5 = .ok (.bipush 8, 2) := by decide +kernel
theorem dX8_placeOf_7 : decode cX8_placeOf 7 = .ok (.imul, 1) := by decide +kernel
theorem dX8_placeOf_8 : decode cX8_placeOf 8 = .ok (.iload_n 0, 1) := by decide +kernel
theorem dX8_placeOf_9 : decode cX8_placeOf 9 = .ok (.iadd, 1) := by decide +kernel
theorem dX8_placeOf_10 : decode cX8_placeOf 10 = .ok (.ireturn, 1) := by decide +kernel
theorem dX8_dotsOf_0 : decode cX8_dotsOf 0 = .ok (.aload_n 0, 1) := by decide +kernel
theorem dX8_dotsOf_1 : decode cX8_dotsOf 1 = .ok (.getfield 26, 3) := by decide +kernel
theorem dX8_dotsOf_4 : decode cX8_dotsOf 4 = .ok (.iload_n 1, 1) := by decide +kernel
theorem dX8_dotsOf_5 : decode cX8_dotsOf 5 = .ok (.iload_n 2, 1) := by decide +kernel
theorem dX8_dotsOf_6 : decode cX8_dotsOf 6 = .ok (.iload_n 3, 1) := by decide +kernel
theorem dX8_dotsOf_7 : decode cX8_dotsOf 7 = .ok (.invokestatic 64, 3) := by decide +kernel
theorem dX8_dotsOf_10 : decode cX8_dotsOf 10 = .ok (.iaload, 1) := by decide +kernel
theorem dX8_dotsOf_11 : decode cX8_dotsOf 11 = .ok (.ireturn, 1) := by decide +kernel
theorem dX8_broughtTo_0 : decode cX8_broughtTo 0 = .ok (.aload_n 0, 1) := by decide +kernel
theorem dX8_broughtTo_1 : decode cX8_broughtTo 1 = .ok (.getfield 29, 3) := by decide +kernel
theorem dX8_broughtTo_4 : decode cX8_broughtTo 4 = .ok (.iload_n 1, 1) := by decide +kernel
theorem dX8_broughtTo_5 : decode cX8_broughtTo 5 = .ok (.iload_n 2, 1) := by decide +kernel
theorem dX8_broughtTo_6 : decode cX8_broughtTo 6 = .ok (.iload_n 3, 1) := by decide +kernel
theorem dX8_broughtTo_7 : decode cX8_broughtTo 7 = .ok (.invokestatic 64, 3) := by decide +kernel
theorem dX8_broughtTo_10 : decode cX8_broughtTo 10 = .ok (.iaload, 1) := by decide +kernel
theorem dX8_broughtTo_11 : decode cX8_broughtTo 11 = .ok (.ireturn, 1) := by decide +kernel
theorem dX8_restOf_0 : decode cX8_restOf 0 = .ok (.aload_n 0, 1) := by decide +kernel
theorem dX8_restOf_1 : decode cX8_restOf 1 = .ok (.getfield 32, 3) := by decide +kernel
theorem dX8_restOf_4 : decode cX8_restOf 4 = .ok (.iload_n 2, 1) := by decide +kernel
theorem dX8_restOf_5 : decode cX8_restOf 5 = .ok (.iconst 3, 1) := by decide +kernel
theorem dX8_restOf_6 : decode cX8_restOf 6 = .ok (.imul, 1) := by decide +kernel
theorem dX8_restOf_7 : decode cX8_restOf 7 = .ok (.iload_n 1, 1) := by decide +kernel
theorem dX8_restOf_8 : decode cX8_restOf 8 = .ok (.iadd, 1) := by decide +kernel
theorem dX8_restOf_9 : decode cX8_restOf 9 = .ok (.iaload, 1) := by decide +kernel
theorem dX8_restOf_10 : decode cX8_restOf 10 = .ok (.ireturn, 1) := by decide +kernel
theorem dX8_sumOfGroup_0 : decode cX8_sumOfGroup 0 = .ok (.iconst 0, 1) := by decide +kernel
theorem dX8_sumOfGroup_1 : decode cX8_sumOfGroup 1 = .ok (.istore_n 3, 1) := by decide +kernel
theorem dX8_sumOfGroup_2 : decode cX8_sumOfGroup 2 = .ok (.iconst 0, 1) := by decide +kernel
theorem dX8_sumOfGroup_3 : decode cX8_sumOfGroup 3 = .ok (.istore 4, 2) := by decide +kernel
theorem dX8_sumOfGroup_5 : decode cX8_sumOfGroup 5 = .ok (.iload 4, 2) := by decide +kernel
theorem dX8_sumOfGroup_7 : decode cX8_sumOfGroup 7 = .ok (.aload_n 0, 1) := by decide +kernel
theorem dX8_sumOfGroup_8 : decode cX8_sumOfGroup 8 = .ok (.getfield 19, 3) := by decide +kernel
theorem dX8_sumOfGroup_11 : decode cX8_sumOfGroup 11 = .ok (.if_icmp .ge 20, 3) := by decide +kernel
theorem dX8_sumOfGroup_14 : decode cX8_sumOfGroup 14 = .ok (.iload_n 3, 1) := by decide +kernel
theorem dX8_sumOfGroup_15 : decode cX8_sumOfGroup 15 = .ok (.aload_n 0, 1) := by decide +kernel
theorem dX8_sumOfGroup_16 : decode cX8_sumOfGroup 16 = .ok (.iload 4, 2) := by decide +kernel
theorem dX8_sumOfGroup_18 : decode cX8_sumOfGroup 18 = .ok (.iload_n 1, 1) := by decide +kernel
theorem dX8_sumOfGroup_19 : decode cX8_sumOfGroup 19 = .ok (.iload_n 2, 1) := by decide +kernel
theorem dX8_sumOfGroup_20 : decode cX8_sumOfGroup 20 = .ok (.invokevirtual 72, 3) := by decide +kernel
theorem dX8_sumOfGroup_23 : decode cX8_sumOfGroup 23 = .ok (.iadd, 1) := by decide +kernel
theorem dX8_sumOfGroup_24 : decode cX8_sumOfGroup 24 = .ok (.istore_n 3, 1) := by decide +kernel
theorem dX8_sumOfGroup_25 : decode cX8_sumOfGroup 25 = .ok (.iinc 4 1, 3) := by decide +kernel
theorem dX8_sumOfGroup_28 : decode cX8_sumOfGroup 28 = .ok (.goto (-23), 3) := by decide +kernel
theorem dX8_sumOfGroup_31 : decode cX8_sumOfGroup 31 = .ok (.iload_n 3, 1) := by decide +kernel
theorem dX8_sumOfGroup_32 : decode cX8_sumOfGroup 32 = .ok (.ireturn, 1) := by decide +kernel
theorem dX8_sumOfLevel_0 : decode cX8_sumOfLevel 0 = .ok (.iconst 0, 1) := by decide +kernel
theorem dX8_sumOfLevel_1 : decode cX8_sumOfLevel 1 = .ok (.istore_n 2, 1) := by decide +kernel
theorem dX8_sumOfLevel_2 : decode cX8_sumOfLevel 2 = .ok (.iconst 0, 1) := by decide +kernel
theorem dX8_sumOfLevel_3 : decode cX8_sumOfLevel 3 = .ok (.istore_n 3, 1) := by decide +kernel
theorem dX8_sumOfLevel_4 : decode cX8_sumOfLevel 4 = .ok (.iload_n 3, 1) := by decide +kernel
theorem dX8_sumOfLevel_5 : decode cX8_sumOfLevel 5 = .ok (.aload_n 0, 1) := by decide +kernel
theorem dX8_sumOfLevel_6 : decode cX8_sumOfLevel 6 = .ok (.getfield 23, 3) := by decide +kernel
theorem dX8_sumOfLevel_9 : decode cX8_sumOfLevel 9 = .ok (.if_icmp .ge 18, 3) := by decide +kernel
theorem dX8_sumOfLevel_12 : decode cX8_sumOfLevel 12 = .ok (.iload_n 2, 1) := by decide +kernel
theorem dX8_sumOfLevel_13 : decode cX8_sumOfLevel 13 = .ok (.aload_n 0, 1) := by decide +kernel
theorem dX8_sumOfLevel_14 : decode cX8_sumOfLevel 14 = .ok (.iload_n 3, 1) := by decide +kernel
theorem dX8_sumOfLevel_15 : decode cX8_sumOfLevel 15 = .ok (.iload_n 1, 1) := by decide +kernel
theorem dX8_sumOfLevel_16 : decode cX8_sumOfLevel 16 = .ok (.invokevirtual 75, 3) := by decide +kernel
theorem dX8_sumOfLevel_19 : decode cX8_sumOfLevel 19 = .ok (.iadd, 1) := by decide +kernel
theorem dX8_sumOfLevel_20 : decode cX8_sumOfLevel 20 = .ok (.istore_n 2, 1) := by decide +kernel
theorem dX8_sumOfLevel_21 : decode cX8_sumOfLevel 21 = .ok (.iinc 3 1, 3) := by decide +kernel
theorem dX8_sumOfLevel_24 : decode cX8_sumOfLevel 24 = .ok (.goto (-20), 3) := by decide +kernel
theorem dX8_sumOfLevel_27 : decode cX8_sumOfLevel 27 = .ok (.iload_n 2, 1) := by decide +kernel
theorem dX8_sumOfLevel_28 : decode cX8_sumOfLevel 28 = .ok (.ireturn, 1) := by decide +kernel
theorem dX8_sumOfZone_0 : decode cX8_sumOfZone 0 = .ok (.iconst 0, 1) := by decide +kernel
theorem dX8_sumOfZone_1 : decode cX8_sumOfZone 1 = .ok (.istore_n 3, 1) := by decide +kernel
theorem dX8_sumOfZone_2 : decode cX8_sumOfZone 2 = .ok (.iconst 0, 1) := by decide +kernel
theorem dX8_sumOfZone_3 : decode cX8_sumOfZone 3 = .ok (.istore 4, 2) := by decide +kernel
theorem dX8_sumOfZone_5 : decode cX8_sumOfZone 5 = .ok (.iload 4, 2) := by decide +kernel
theorem dX8_sumOfZone_7 : decode cX8_sumOfZone 7 = .ok (.aload_n 0, 1) := by decide +kernel
theorem dX8_sumOfZone_8 : decode cX8_sumOfZone 8 = .ok (.getfield 23, 3) := by decide +kernel
theorem dX8_sumOfZone_11 : decode cX8_sumOfZone 11 = .ok (.if_icmp .ge 20, 3) := by decide +kernel
theorem dX8_sumOfZone_14 : decode cX8_sumOfZone 14 = .ok (.iload_n 3, 1) := by decide +kernel
theorem dX8_sumOfZone_15 : decode cX8_sumOfZone 15 = .ok (.aload_n 0, 1) := by decide +kernel
theorem dX8_sumOfZone_16 : decode cX8_sumOfZone 16 = .ok (.iload_n 1, 1) := by decide +kernel
theorem dX8_sumOfZone_17 : decode cX8_sumOfZone 17 = .ok (.iload 4, 2) := by decide +kernel
theorem dX8_sumOfZone_19 : decode cX8_sumOfZone 19 = .ok (.iload_n 2, 1) := by decide +kernel
theorem dX8_sumOfZone_20 : decode cX8_sumOfZone 20 = .ok (.invokevirtual 72, 3) := by decide +kernel
theorem dX8_sumOfZone_23 : decode cX8_sumOfZone 23 = .ok (.iadd, 1) := by decide +kernel
theorem dX8_sumOfZone_24 : decode cX8_sumOfZone 24 = .ok (.istore_n 3, 1) := by decide +kernel
theorem dX8_sumOfZone_25 : decode cX8_sumOfZone 25 = .ok (.iinc 4 1, 3) := by decide +kernel
theorem dX8_sumOfZone_28 : decode cX8_sumOfZone 28 = .ok (.goto (-23), 3) := by decide +kernel
theorem dX8_sumOfZone_31 : decode cX8_sumOfZone 31 = .ok (.iload_n 3, 1) := by decide +kernel
theorem dX8_sumOfZone_32 : decode cX8_sumOfZone 32 = .ok (.ireturn, 1) := by decide +kernel
theorem dX8_sumWithUnit_0 : decode cX8_sumWithUnit 0 = .ok (.iconst 0, 1) := by decide +kernel
theorem dX8_sumWithUnit_1 : decode cX8_sumWithUnit 1 = .ok (.istore_n 3, 1) := by decide +kernel
theorem dX8_sumWithUnit_2 : decode cX8_sumWithUnit 2 = .ok (.iconst 0, 1) := by decide +kernel
theorem dX8_sumWithUnit_3 : decode cX8_sumWithUnit 3 = .ok (.istore 4, 2) := by decide +kernel
theorem dX8_sumWithUnit_5 : decode cX8_sumWithUnit 5 = .ok (.iload 4, 2) := by decide +kernel
theorem dX8_sumWithUnit_7 : decode cX8_sumWithUnit 7 = .ok (.aload_n 0, 1) := by decide +kernel
theorem dX8_sumWithUnit_8 : decode cX8_sumWithUnit 8 = .ok (.getfield 23, 3) := by decide +kernel
theorem dX8_sumWithUnit_11 : decode cX8_sumWithUnit 11 = .ok (.if_icmp .ge 70, 3) := by decide +kernel
theorem dX8_sumWithUnit_14 : decode cX8_sumWithUnit 14 = .ok (.iload_n 2, 1) := by decide +kernel
theorem dX8_sumWithUnit_15 : decode cX8_sumWithUnit 15 = .ok (.ifCond .le 66, 3) := by decide +kernel
theorem dX8_sumWithUnit_18 : decode cX8_sumWithUnit 18 = .ok (.iconst 0, 1) := by decide +kernel
theorem dX8_sumWithUnit_19 : decode cX8_sumWithUnit 19 = .ok (.istore 5, 2) := by decide +kernel
theorem dX8_sumWithUnit_21 : decode cX8_sumWithUnit 21 = .ok (.iconst 0, 1) := by decide +kernel
theorem dX8_sumWithUnit_22 : decode cX8_sumWithUnit 22 = .ok (.istore 6, 2) := by decide +kernel
theorem dX8_sumWithUnit_24 : decode cX8_sumWithUnit 24 = .ok (.iload 6, 2) := by decide +kernel
theorem dX8_sumWithUnit_26 : decode cX8_sumWithUnit 26 = .ok (.aload_n 0, 1) := by decide +kernel
theorem dX8_sumWithUnit_27 : decode cX8_sumWithUnit 27 = .ok (.getfield 19, 3) := by decide +kernel
theorem dX8_sumWithUnit_30 : decode cX8_sumWithUnit 30 = .ok (.if_icmp .ge 45, 3) := by decide +kernel
theorem dX8_sumWithUnit_33 : decode cX8_sumWithUnit 33 = .ok (.iload 5, 2) := by decide +kernel
theorem dX8_sumWithUnit_35 : decode cX8_sumWithUnit 35 = .ok (.aload_n 1, 1) := by decide +kernel
theorem dX8_sumWithUnit_36 : decode cX8_sumWithUnit 36 = .ok (.iload 6, 2) := by decide +kernel
theorem dX8_sumWithUnit_38 : decode cX8_sumWithUnit 38 = .ok (.iload 4, 2) := by decide +kernel
theorem dX8_sumWithUnit_40 : decode cX8_sumWithUnit 40 = .ok (.invokevirtual 68, 3) := by decide +kernel
theorem dX8_sumWithUnit_43 : decode cX8_sumWithUnit 43 = .ok (.iadd, 1) := by decide +kernel
theorem dX8_sumWithUnit_44 : decode cX8_sumWithUnit 44 = .ok (.istore 5, 2) := by decide +kernel
theorem dX8_sumWithUnit_46 : decode cX8_sumWithUnit 46 = .ok (.aload_n 0, 1) := by decide +kernel
theorem dX8_sumWithUnit_47 : decode cX8_sumWithUnit 47 = .ok (.getfield 15, 3) := by decide +kernel
theorem dX8_sumWithUnit_50 : decode cX8_sumWithUnit 50 = .ok (.iload 6, 2) := by decide +kernel
theorem dX8_sumWithUnit_52 : decode cX8_sumWithUnit 52 = .ok (.iaload, 1) := by decide +kernel
theorem dX8_sumWithUnit_53 : decode cX8_sumWithUnit 53 = .ok (.ifCond .le 16, 3) := by decide +kernel
theorem dX8_sumWithUnit_56 : decode cX8_sumWithUnit 56 = .ok (.iload_n 3, 1) := by decide +kernel
theorem dX8_sumWithUnit_57 : decode cX8_sumWithUnit 57 = .ok (.iload 5, 2) := by decide +kernel
theorem dX8_sumWithUnit_59 : decode cX8_sumWithUnit 59 = .ok (.iload_n 2, 1) := by decide +kernel
theorem dX8_sumWithUnit_60 : decode cX8_sumWithUnit 60 = .ok (.idiv, 1) := by decide +kernel
theorem dX8_sumWithUnit_61 : decode cX8_sumWithUnit 61 = .ok (.iadd, 1) := by decide +kernel
theorem dX8_sumWithUnit_62 : decode cX8_sumWithUnit 62 = .ok (.istore_n 3, 1) := by decide +kernel
theorem dX8_sumWithUnit_63 : decode cX8_sumWithUnit 63 = .ok (.iload 5, 2) := by decide +kernel
theorem dX8_sumWithUnit_65 : decode cX8_sumWithUnit 65 = .ok (.iload_n 2, 1) := by decide +kernel
theorem dX8_sumWithUnit_66 : decode cX8_sumWithUnit 66 = .ok (.irem, 1) := by decide +kernel
theorem dX8_sumWithUnit_67 : decode cX8_sumWithUnit 67 = .ok (.istore 5, 2) := by decide +kernel
theorem dX8_sumWithUnit_69 : decode cX8_sumWithUnit 69 = .ok (.iinc 6 1, 3) := by decide +kernel
theorem dX8_sumWithUnit_72 : decode cX8_sumWithUnit 72 = .ok (.goto (-48), 3) := by decide +kernel
theorem dX8_sumWithUnit_75 : decode cX8_sumWithUnit 75 = .ok (.iinc 4 1, 3) := by decide +kernel
theorem dX8_sumWithUnit_78 : decode cX8_sumWithUnit 78 = .ok (.goto (-73), 3) := by decide +kernel
theorem dX8_sumWithUnit_81 : decode cX8_sumWithUnit 81 = .ok (.iload_n 3, 1) := by decide +kernel
theorem dX8_sumWithUnit_82 : decode cX8_sumWithUnit 82 = .ok (.ireturn, 1) := by decide +kernel
theorem dX9_init_0 : decode cX9_init 0 = .ok (.aload_n 0, 1) := by decide +kernel
theorem dX9_init_1 : decode cX9_init 1 = .ok (.invokespecial 3, 3) := by decide +kernel
theorem dX9_init_4 : decode cX9_init 4 = .ok (.aload_n 0, 1) := by decide +kernel
theorem dX9_init_5 : decode cX9_init 5 = .ok (.iconst 0, 1) := by decide +kernel
theorem dX9_init_6 : decode cX9_init 6 = .ok (.putfield 9, 3) := by decide +kernel
theorem dX9_init_9 : decode cX9_init 9 = .ok (.aload_n 0, 1) := by decide +kernel
theorem dX9_init_10 : decode cX9_init 10 = .ok (.new 15, 3) := by decide +kernel
theorem dX9_init_13 : decode cX9_init 13 = .ok (.dup, 1) := by decide +kernel
theorem dX9_init_14 : decode cX9_init 14 = .ok (.invokespecial 17, 3) := by decide +kernel
theorem dX9_init_17 : decode cX9_init 17 = .ok (.putfield 18, 3) := by decide +kernel
theorem dX9_init_20 : decode cX9_init 20 = .ok (.aload_n 0, 1) := by decide +kernel
theorem dX9_init_21 : decode cX9_init 21 = .ok (.sipush 400, 3) := by decide +kernel
theorem dX9_init_24 : decode cX9_init 24 = .ok (.newarray .byte, 2) := by decide +kernel
theorem dX9_init_26 : decode cX9_init 26 = .ok (.putfield 22, 3) := by decide +kernel
theorem dX9_init_29 : decode cX9_init 29 = .ok (.aload_n 0, 1) := by decide +kernel
theorem dX9_init_30 : decode cX9_init 30 = .ok (.iconst 0, 1) := by decide +kernel
theorem dX9_init_31 : decode cX9_init 31 = .ok (.putfield 26, 3) := by decide +kernel
theorem dX9_init_34 : decode cX9_init 34 = .ok (.aload_n 0, 1) := by decide +kernel
theorem dX9_init_35 : decode cX9_init 35 = .ok (.iconst 0, 1) := by decide +kernel
theorem dX9_init_36 : decode cX9_init 36 = .ok (.putfield 29, 3) := by decide +kernel
theorem dX9_init_39 : decode cX9_init 39 = .ok (.aload_n 0, 1) := by decide +kernel
theorem dX9_init_40 : decode cX9_init 40 = .ok (.iconst 0, 1) := by decide +kernel
theorem dX9_init_41 : decode cX9_init 41 = .ok (.putfield 32, 3) := by decide +kernel
theorem dX9_init_44 : decode cX9_init 44 = .ok (.aload_n 0, 1) := by decide +kernel
theorem dX9_init_45 : decode cX9_init 45 = .ok (.iconst 0, 1) := by decide +kernel
theorem dX9_init_46 : decode cX9_init 46 = .ok (.putfield 35, 3) := by decide +kernel
theorem dX9_init_49 : decode cX9_init 49 = .ok (.aload_n 0, 1) := by decide +kernel
theorem dX9_init_50 : decode cX9_init 50 = .ok (.iconst 0, 1) := by decide +kernel
theorem dX9_init_51 : decode cX9_init 51 = .ok (.putfield 38, 3) := by decide +kernel
theorem dX9_init_54 : decode cX9_init 54 = .ok (.aload_n 0, 1) := by decide +kernel
theorem dX9_init_55 : decode cX9_init 55 = .ok (.iconst (-1), 1) := by decide +kernel
theorem dX9_init_56 : decode cX9_init 56 = .ok (.putfield 41, 3) := by decide +kernel
theorem dX9_init_59 : decode cX9_init 59 = .ok (.aload_n 0, 1) := by decide +kernel
theorem dX9_init_60 : decode cX9_init 60 = .ok (.iconst 0, 1) := by decide +kernel
theorem dX9_init_61 : decode cX9_init 61 = .ok (.putfield 44, 3) := by decide +kernel
theorem dX9_init_64 : decode cX9_init 64 = .ok (.return_, 1) := by decide +kernel
theorem dX9_takeBytes_0 : decode cX9_takeBytes 0 = .ok (.bipush 24, 2) := by decide +kernel
theorem dX9_takeBytes_2 : decode cX9_takeBytes 2 = .ok (.istore_n 2, 1) := by decide +kernel
theorem dX9_takeBytes_3 : decode cX9_takeBytes 3 = .ok (.iload_n 2, 1) := by decide +kernel
theorem dX9_takeBytes_4 : decode cX9_takeBytes 4 = .ok (.ifCond .lt 42, 3) := by decide +kernel
theorem dX9_takeBytes_7 : decode cX9_takeBytes 7 = .ok (.aload_n 0, 1) := by decide +kernel
theorem dX9_takeBytes_8 : decode cX9_takeBytes 8 = .ok (.getfield 9, 3) := by decide +kernel
theorem dX9_takeBytes_11 : decode cX9_takeBytes 11 = .ok (.sipush 400, 3) := by decide +kernel
theorem dX9_takeBytes_14 : decode cX9_takeBytes 14 = .ok (.if_icmp .ge 26, 3) := by decide +kernel
theorem dX9_takeBytes_17 : decode cX9_takeBytes 17 = .ok (.aload_n 0, 1) := by decide +kernel
theorem dX9_takeBytes_18 : decode cX9_takeBytes 18 = .ok (.getfield 22, 3) := by decide +kernel
theorem dX9_takeBytes_21 : decode cX9_takeBytes 21 = .ok (.aload_n 0, 1) := by decide +kernel
theorem dX9_takeBytes_22 : decode cX9_takeBytes 22 = .ok (.getfield 9, 3) := by decide +kernel
theorem dX9_takeBytes_25 : decode cX9_takeBytes 25 = .ok (.iload_n 1, 1) := by decide +kernel
theorem dX9_takeBytes_26 : decode cX9_takeBytes 26 = .ok (.iload_n 2, 1) := by decide +kernel
theorem dX9_takeBytes_27 : decode cX9_takeBytes 27 = .ok (.ishr, 1) := by decide +kernel
theorem dX9_takeBytes_28 : decode cX9_takeBytes 28 = .ok (.i2b, 1) := by decide +kernel
theorem dX9_takeBytes_29 : decode cX9_takeBytes 29 = .ok (.bastore, 1) := by decide +kernel
theorem dX9_takeBytes_30 : decode cX9_takeBytes 30 = .ok (.aload_n 0, 1) := by decide +kernel
theorem dX9_takeBytes_31 : decode cX9_takeBytes 31 = .ok (.dup, 1) := by decide +kernel
theorem dX9_takeBytes_32 : decode cX9_takeBytes 32 = .ok (.getfield 9, 3) := by decide +kernel
theorem dX9_takeBytes_35 : decode cX9_takeBytes 35 = .ok (.iconst 1, 1) := by decide +kernel
theorem dX9_takeBytes_36 : decode cX9_takeBytes 36 = .ok (.iadd, 1) := by decide +kernel
theorem dX9_takeBytes_37 : decode cX9_takeBytes 37 = .ok (.putfield 9, 3) := by decide +kernel
theorem dX9_takeBytes_40 : decode cX9_takeBytes 40 = .ok (.iinc 2 (-8), 3) := by decide +kernel
theorem dX9_takeBytes_43 : decode cX9_takeBytes 43 = .ok (.goto (-40), 3) := by decide +kernel
theorem dX9_takeBytes_46 : decode cX9_takeBytes 46 = .ok (.return_, 1) := by decide +kernel
theorem dX9_useUp_0 : decode cX9_useUp 0 = .ok (.aload_n 0, 1) := by decide +kernel
theorem dX9_useUp_1 : decode cX9_useUp 1 = .ok (.iconst 0, 1) := by decide +kernel
theorem dX9_useUp_2 : decode cX9_useUp 2 = .ok (.putfield 26, 3) := by decide +kernel
theorem dX9_useUp_5 : decode cX9_useUp 5 = .ok (.aload_n 0, 1) := by decide +kernel
theorem dX9_useUp_6 : decode cX9_useUp 6 = .ok (.iconst (-1), 1) := by decide +kernel
theorem dX9_useUp_7 : decode cX9_useUp 7 = .ok (.putfield 41, 3) := by decide +kernel
theorem dX9_useUp_10 : decode cX9_useUp 10 = .ok (.aload_n 0, 1) := by decide +kernel
theorem dX9_useUp_11 : decode cX9_useUp 11 = .ok (.iconst 0, 1) := by decide +kernel
theorem dX9_useUp_12 : decode cX9_useUp 12 = .ok (.putfield 44, 3) := by decide +kernel
theorem dX9_useUp_15 : decode cX9_useUp 15 = .ok (.aload_n 0, 1) := by decide +kernel
theorem dX9_useUp_16 : decode cX9_useUp 16 = .ok (.getfield 18, 3) := by decide +kernel
theorem dX9_useUp_19 : decode cX9_useUp 19 = .ok (.invokevirtual 48, 3) := by decide +kernel
theorem dX9_useUp_22 : decode cX9_useUp 22 = .ok (.aload_n 0, 1) := by decide +kernel
theorem dX9_useUp_23 : decode cX9_useUp 23 = .ok (.invokevirtual 51, 3) := by decide +kernel
theorem dX9_useUp_26 : decode cX9_useUp 26 = .ok (.istore_n 1, 1) := by decide +kernel
theorem dX9_useUp_27 : decode cX9_useUp 27 = .ok (.aload_n 0, 1) := by decide +kernel
theorem dX9_useUp_28 : decode cX9_useUp 28 = .ok (.invokevirtual 55, 3) := by decide +kernel
theorem dX9_useUp_31 : decode cX9_useUp 31 = .ok (.iconst 0, 1) := by decide +kernel
theorem dX9_useUp_32 : decode cX9_useUp 32 = .ok (.istore_n 2, 1) := by decide +kernel
theorem dX9_useUp_33 : decode cX9_useUp 33 = .ok (.iload_n 1, 1) := by decide +kernel
theorem dX9_useUp_34 : decode cX9_useUp 34 = .ok (.ifCond .eq 36, 3) := by decide +kernel
theorem dX9_useUp_37 : decode cX9_useUp 37 = .ok (.aload_n 0, 1) := by decide +kernel
theorem dX9_useUp_38 : decode cX9_useUp 38 = .ok (.getfield 26, 3) := by decide +kernel
theorem dX9_useUp_41 : decode cX9_useUp 41 = .ok (.aload_n 0, 1) := by decide +kernel
theorem dX9_useUp_42 : decode cX9_useUp 42 = .ok (.getfield 9, 3) := by decide +kernel
theorem dX9_useUp_45 : decode cX9_useUp 45 = .ok (.if_icmp .ge 25, 3) := by decide +kernel
theorem dX9_useUp_48 : decode cX9_useUp 48 = .ok (.iload_n 2, 1) := by decide +kernel
theorem dX9_useUp_49 : decode cX9_useUp 49 = .ok (.sipush 400, 3) := by decide +kernel
theorem dX9_useUp_52 : decode cX9_useUp 52 = .ok (.if_icmp .ge 18, 3) := by decide +kernel
theorem dX9_useUp_55 : decode cX9_useUp 55 = .ok (.aload_n 0, 1) := by decide +kernel
theorem dX9_useUp_56 : decode cX9_useUp 56 = .ok (.invokevirtual 58, 3) := by decide +kernel
theorem dX9_useUp_59 : decode cX9_useUp 59 = .ok (.istore_n 1, 1) := by decide +kernel
theorem dX9_useUp_60 : decode cX9_useUp 60 = .ok (.aload_n 0, 1) := by decide +kernel
theorem dX9_useUp_61 : decode cX9_useUp 61 = .ok (.invokevirtual 55, 3) := by decide +kernel
theorem dX9_useUp_64 : decode cX9_useUp 64 = .ok (.iinc 2 1, 3) := by decide +kernel
theorem dX9_useUp_67 : decode cX9_useUp 67 = .ok (.goto (-34), 3) := by decide +kernel
theorem dX9_useUp_70 : decode cX9_useUp 70 = .ok (.aload_n 0, 1) := by decide +kernel
theorem dX9_useUp_71 : decode cX9_useUp 71 = .ok (.iconst 0, 1) := by decide +kernel
theorem dX9_useUp_72 : decode cX9_useUp 72 = .ok (.putfield 9, 3) := by decide +kernel
theorem dX9_useUp_75 : decode cX9_useUp 75 = .ok (.aload_n 0, 1) := by decide +kernel
theorem dX9_useUp_76 : decode cX9_useUp 76 = .ok (.getfield 41, 3) := by decide +kernel
theorem dX9_useUp_79 : decode cX9_useUp 79 = .ok (.ireturn, 1) := by decide +kernel
theorem dX9_readSize_0 : decode cX9_readSize 0 = .ok (.aload_n 0, 1) := by decide +kernel
theorem dX9_readSize_1 : decode cX9_readSize 1 = .ok (.ldc 61, 2) := by decide +kernel
theorem dX9_readSize_3 : decode cX9_readSize 3 = .ok (.invokevirtual 63, 3) := by decide +kernel
theorem dX9_readSize_6 : decode cX9_readSize 6 = .ok (.ifCond .eq 13, 3) := by decide +kernel
theorem dX9_readSize_9 : decode cX9_readSize 9 = .ok (.aload_n 0, 1) := by decide +kernel
theorem dX9_readSize_10 : decode cX9_readSize 10 = .ok (.iconst 2, 1) := by decide +kernel
theorem dX9_readSize_11 : decode cX9_readSize 11 = .ok (.bipush 24, 2) := by decide +kernel
theorem dX9_readSize_13 : decode cX9_readSize 13 = .ok (.invokevirtual 67, 3) := by decide +kernel
theorem dX9_readSize_16 : decode cX9_readSize 16 = .ok (.ifCond .ne 5, 3) := by decide +kernel
theorem dX9_readSize_19 : decode cX9_readSize 19 = .ok (.iconst 0, 1) := by decide +kernel
theorem dX9_readSize_20 : decode cX9_readSize 20 = .ok (.ireturn, 1) := by decide +kernel
theorem dX9_readSize_21 : decode cX9_readSize 21 = .ok (.aload_n 0, 1) := by decide +kernel
theorem dX9_readSize_22 : decode cX9_readSize 22 = .ok (.getfield 38, 3) := by decide +kernel
theorem dX9_readSize_25 : decode cX9_readSize 25 = .ok (.istore_n 1, 1) := by decide +kernel
theorem dX9_readSize_26 : decode cX9_readSize 26 = .ok (.aload_n 0, 1) := by decide +kernel
theorem dX9_readSize_27 : decode cX9_readSize 27 = .ok (.iconst 2, 1) := by decide +kernel
theorem dX9_readSize_28 : decode cX9_readSize 28 = .ok (.bipush 16, 2) := by decide +kernel
theorem dX9_readSize_30 : decode cX9_readSize 30 = .ok (.invokevirtual 67, 3) := by decide +kernel
theorem dX9_readSize_33 : decode cX9_readSize 33 = .ok (.ifCond .ne 5, 3) := by decide +kernel
theorem dX9_readSize_36 : decode cX9_readSize 36 = .ok (.iconst 0, 1) := by decide +kernel
theorem dX9_readSize_37 : decode cX9_readSize 37 = .ok (.ireturn, 1) := by decide +kernel
theorem dX9_readSize_38 : decode cX9_readSize 38 = .ok (.aload_n 0, 1) := by decide +kernel
theorem dX9_readSize_39 : decode cX9_readSize 39 = .ok (.getfield 18, 3) := by decide +kernel
theorem dX9_readSize_42 : decode cX9_readSize 42 = .ok (.iload_n 1, 1) := by decide +kernel
theorem dX9_readSize_43 : decode cX9_readSize 43 = .ok (.aload_n 0, 1) := by decide +kernel
theorem dX9_readSize_44 : decode cX9_readSize 44 = .ok (.getfield 38, 3) := by decide +kernel
theorem dX9_readSize_47 : decode cX9_readSize 47 = .ok (.invokevirtual 71, 3) := by decide +kernel
theorem dX9_readSize_50 : decode cX9_readSize 50 = .ok (.aload_n 0, 1) := by decide +kernel
theorem dX9_readSize_51 : decode cX9_readSize 51 = .ok (.bipush 59, 2) := by decide +kernel
theorem dX9_readSize_53 : decode cX9_readSize 53 = .ok (.invokevirtual 75, 3) := by decide +kernel
theorem dX9_readSize_56 : decode cX9_readSize 56 = .ok (.ireturn, 1) := by decide +kernel
theorem dX9_readLine_0 : decode cX9_readLine 0 = .ok (.aload_n 0, 1) := by decide +kernel
theorem dX9_readLine_1 : decode cX9_readLine 1 = .ok (.invokevirtual 79, 3) := by decide +kernel
theorem dX9_readLine_4 : decode cX9_readLine 4 = .ok (.ifCond .ne 5, 3) := by decide +kernel
theorem dX9_readLine_7 : decode cX9_readLine 7 = .ok (.iconst 0, 1) := by decide +kernel
theorem dX9_readLine_8 : decode cX9_readLine 8 = .ok (.ireturn, 1) := by decide +kernel
theorem dX9_readLine_9 : decode cX9_readLine 9 = .ok (.aload_n 0, 1) := by decide +kernel
theorem dX9_readLine_10 : decode cX9_readLine 10 = .ok (.ldc 82, 2) := by decide +kernel
theorem dX9_readLine_12 : decode cX9_readLine 12 = .ok (.invokevirtual 84, 3) := by decide +kernel
theorem dX9_readLine_15 : decode cX9_readLine 15 = .ok (.ifCond .eq 8, 3) := by decide +kernel
theorem dX9_readLine_18 : decode cX9_readLine 18 = .ok (.aload_n 0, 1) := by decide +kernel
theorem dX9_readLine_19 : decode cX9_readLine 19 = .ok (.invokevirtual 87, 3) := by decide +kernel
theorem dX9_readLine_22 : decode cX9_readLine 22 = .ok (.ireturn, 1) := by decide +kernel
theorem dX9_readLine_23 : decode cX9_readLine 23 = .ok (.aload_n 0, 1) := by decide +kernel
theorem dX9_readLine_24 : decode cX9_readLine 24 = .ok (.ldc 90, 2) := by decide +kernel
theorem dX9_readLine_26 : decode cX9_readLine 26 = .ok (.invokevirtual 84, 3) := by decide +kernel
theorem dX9_readLine_29 : decode cX9_readLine 29 = .ok (.ifCond .eq 8, 3) := by decide +kernel
theorem dX9_readLine_32 : decode cX9_readLine 32 = .ok (.aload_n 0, 1) := by decide +kernel
theorem dX9_readLine_33 : decode cX9_readLine 33 = .ok (.invokevirtual 92, 3) := by decide +kernel
theorem dX9_readLine_36 : decode cX9_readLine 36 = .ok (.ireturn, 1) := by decide +kernel
theorem dX9_readLine_37 : decode cX9_readLine 37 = .ok (.aload_n 0, 1) := by decide +kernel
theorem dX9_readLine_38 : decode cX9_readLine 38 = .ok (.ldc 95, 2) := by decide +kernel
theorem dX9_readLine_40 : decode cX9_readLine 40 = .ok (.invokevirtual 84, 3) := by decide +kernel
theorem dX9_readLine_43 : decode cX9_readLine 43 = .ok (.ifCond .eq 27, 3) := by decide +kernel
theorem dX9_readLine_46 : decode cX9_readLine 46 = .ok (.aload_n 0, 1) := by decide +kernel
theorem dX9_readLine_47 : decode cX9_readLine 47 = .ok (.invokevirtual 97, 3) := by decide +kernel
theorem dX9_readLine_50 : decode cX9_readLine 50 = .ok (.ifCond .eq 18, 3) := by decide +kernel
theorem dX9_readLine_53 : decode cX9_readLine 53 = .ok (.aload_n 0, 1) := by decide +kernel
theorem dX9_readLine_54 : decode cX9_readLine 54 = .ok (.aload_n 0, 1) := by decide +kernel
theorem dX9_readLine_55 : decode cX9_readLine 55 = .ok (.invokevirtual 100, 3) := by decide +kernel
theorem dX9_readLine_58 : decode cX9_readLine 58 = .ok (.invokevirtual 104, 3) := by decide +kernel
theorem dX9_readLine_61 : decode cX9_readLine 61 = .ok (.ifCond .eq 7, 3) := by decide +kernel
theorem dX9_readLine_64 : decode cX9_readLine 64 = .ok (.iconst 1, 1) := by decide +kernel
theorem dX9_readLine_65 : decode cX9_readLine 65 = .ok (.goto 4, 3) := by decide +kernel
