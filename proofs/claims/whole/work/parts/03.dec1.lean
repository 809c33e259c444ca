theorem dX0_init_0 : decode cX0_init 0 = .ok (.aload_n 0, 1) := by decide +kernel
theorem dX0_init_1 : decode cX0_init 1 = .ok (.invokespecial 1, 3) := by decide +kernel
theorem dX0_init_4 : decode cX0_init 4 = .ok (.aload_n 0, 1) := by decide +kernel
theorem dX0_init_5 : decode cX0_init 5 = .ok (.bipush 10, 2) := by decide +kernel
theorem dX0_init_7 : decode cX0_init 7 = .ok (.newarray .int, 2) := by decide +kernel
theorem dX0_init_9 : decode cX0_init 9 = .ok (.putfield 9, 3) := by decide +kernel
theorem dX0_init_12 : decode cX0_init 12 = .ok (.aload_n 0, 1) := by decide +kernel
theorem dX0_init_13 : decode cX0_init 13 = .ok (.bipush 10, 2) := by decide +kernel
theorem dX0_init_15 : decode cX0_init 15 = .ok (.newarray .int, 2) := by decide +kernel
theorem dX0_init_17 : decode cX0_init 17 = .ok (.putfield 13, 3) := by decide +kernel
theorem dX0_init_20 : decode cX0_init 20 = .ok (.aload_n 0, 1) := by decide +kernel
theorem dX0_init_21 : decode cX0_init 21 = .ok (.bipush 10, 2) := by decide +kernel
theorem dX0_init_23 : decode cX0_init 23 = .ok (.newarray .int, 2) := by decide +kernel
theorem dX0_init_25 : decode cX0_init 25 = .ok (.putfield 16, 3) := by decide +kernel
theorem dX0_init_28 : decode cX0_init 28 = .ok (.aload_n 0, 1) := by decide +kernel
theorem dX0_init_29 : decode cX0_init 29 = .ok (.bipush 10, 2) := by decide +kernel
theorem dX0_init_31 : decode cX0_init 31 = .ok (.newarray .int, 2) := by decide +kernel
theorem dX0_init_33 : decode cX0_init 33 = .ok (.putfield 19, 3) := by decide +kernel
theorem dX0_init_36 : decode cX0_init 36 = .ok (.return_, 1) := by decide +kernel
theorem dX0_takeFrom_0 : decode cX0_takeFrom 0 = .ok (.aload_n 0, 1) := by decide +kernel
theorem dX0_takeFrom_1 : decode cX0_takeFrom 1 = .ok (.aload_n 1, 1) := by decide +kernel
theorem dX0_takeFrom_2 : decode cX0_takeFrom 2 = .ok (.getfield 22, 3) := by decide +kernel
theorem dX0_takeFrom_5 : decode cX0_takeFrom 5 = .ok (.putfield 22, 3) := by decide +kernel
theorem dX0_takeFrom_8 : decode cX0_takeFrom 8 = .ok (.aload_n 0, 1) := by decide +kernel
theorem dX0_takeFrom_9 : decode cX0_takeFrom 9 = .ok (.aload_n 1, 1) := by decide +kernel
theorem dX0_takeFrom_10 : decode cX0_takeFrom 10 = .ok (.getfield 26, 3) := by decide +kernel
theorem dX0_takeFrom_13 : decode cX0_takeFrom 13 = .ok (.putfield 26, 3) := by decide +kernel
theorem dX0_takeFrom_16 : decode cX0_takeFrom 16 = .ok (.aload_n 1, 1) := by decide +kernel
theorem dX0_takeFrom_17 : decode cX0_takeFrom 17 = .ok (.getfield 9, 3) := by decide +kernel
theorem dX0_takeFrom_20 : decode cX0_takeFrom 20 = .ok (.iconst 0, 1) := by decide +kernel
theorem dX0_takeFrom_21 : decode cX0_takeFrom 21 = .ok (.aload_n 0, 1) := by decide +kernel
theorem dX0_takeFrom_22 : decode cX0_takeFrom 22 = .ok (.getfield 9, 3) := by decide +kernel
theorem dX0_takeFrom_25 : decode cX0_takeFrom 25 = .ok (.iconst 0, 1) := by decide +kernel
theorem dX0_takeFrom_26 : decode cX0_takeFrom 26 = .ok (.bipush 10, 2) := by decide +kernel
theorem dX0_takeFrom_28 : decode cX0_takeFrom 28 = .ok (.invokestatic 29, 3) := by decide +kernel
theorem dX0_takeFrom_31 : decode cX0_takeFrom 31 = .ok (.aload_n 1, 1) := by decide +kernel
theorem dX0_takeFrom_32 : decode cX0_takeFrom 32 = .ok (.getfield 13, 3) := by decide +kernel
theorem dX0_takeFrom_35 : decode cX0_takeFrom 35 = .ok (.iconst 0, 1) := by decide +kernel
theorem dX0_takeFrom_36 : decode cX0_takeFrom 36 = .ok (.aload_n 0, 1) := by decide +kernel
theorem dX0_takeFrom_37 : decode cX0_takeFrom 37 = .ok (.getfield 13, 3) := by decide +kernel
theorem dX0_takeFrom_40 : decode cX0_takeFrom 40 = .ok (.iconst 0, 1) := by decide +kernel
theorem dX0_takeFrom_41 : decode cX0_takeFrom 41 = .ok (.bipush 10, 2) := by decide +kernel
theorem dX0_takeFrom_43 : decode cX0_takeFrom 43 = .ok (.invokestatic 29, 3) := by decide +kernel
theorem dX0_takeFrom_46 : decode cX0_takeFrom 46 = .ok (.aload_n 1, 1) := by decide +kernel
theorem dX0_takeFrom_47 : decode cX0_takeFrom 47 = .ok (.getfield 16, 3) := by decide +kernel
theorem dX0_takeFrom_50 : decode cX0_takeFrom 50 = .ok (.iconst 0, 1) := by decide +kernel
theorem dX0_takeFrom_51 : decode cX0_takeFrom 51 = .ok (.aload_n 0, 1) := by decide +kernel
theorem dX0_takeFrom_52 : decode cX0_takeFrom 52 = .ok (.getfield 16, 3) := by decide +kernel
theorem dX0_takeFrom_55 : decode cX0_takeFrom 55 = .ok (.iconst 0, 1) := by decide +kernel
theorem dX0_takeFrom_56 : decode cX0_takeFrom 56 = .ok (.bipush 10, 2) := by decide +kernel
theorem dX0_takeFrom_58 : decode cX0_takeFrom 58 = .ok (.invokestatic 29, 3) := by decide +kernel
theorem dX0_takeFrom_61 : decode cX0_takeFrom 61 = .ok (.aload_n 1, 1) := by decide +kernel
theorem dX0_takeFrom_62 : decode cX0_takeFrom 62 = .ok (.getfield 19, 3) := by decide +kernel
theorem dX0_takeFrom_65 : decode cX0_takeFrom 65 = .ok (.iconst 0, 1) := by decide +kernel
theorem dX0_takeFrom_66 : decode cX0_takeFrom 66 = .ok (.aload_n 0, 1) := by decide +kernel
theorem dX0_takeFrom_67 : decode cX0_takeFrom 67 = .ok (.getfield 19, 3) := by decide +kernel
theorem dX0_takeFrom_70 : decode cX0_takeFrom 70 = .ok (.iconst 0, 1) := by decide +kernel
theorem dX0_takeFrom_71 : decode cX0_takeFrom 71 = .ok (.bipush 10, 2) := by decide +kernel
theorem dX0_takeFrom_73 : decode cX0_takeFrom 73 = .ok (.invokestatic 29, 3) := by decide +kernel
theorem dX0_takeFrom_76 : decode cX0_takeFrom 76 = .ok (.return_, 1) := by decide +kernel
theorem dX0_add_0 : decode cX0_add 0 = .ok (.aload_n 0, 1) := by decide +kernel
theorem dX0_add_1 : decode cX0_add 1 = .ok (.getfield 22, 3) := by decide +kernel
theorem dX0_add_4 : decode cX0_add 4 = .ok (.istore 5, 2) := by decide +kernel
theorem dX0_add_6 : decode cX0_add 6 = .ok (.aload_n 0, 1) := by decide +kernel
theorem dX0_add_7 : decode cX0_add 7 = .ok (.getfield 9, 3) := by decide +kernel
theorem dX0_add_10 : decode cX0_add 10 = .ok (.iload 5, 2) := by decide +kernel
theorem dX0_add_12 : decode cX0_add 12 = .ok (.iload_n 1, 1) := by decide +kernel
theorem dX0_add_13 : decode cX0_add 13 = .ok (.iastore, 1) := by decide +kernel
theorem dX0_add_14 : decode cX0_add 14 = .ok (.aload_n 0, 1) := by decide +kernel
theorem dX0_add_15 : decode cX0_add 15 = .ok (.getfield 13, 3) := by decide +kernel
theorem dX0_add_18 : decode cX0_add 18 = .ok (.iload 5, 2) := by decide +kernel
theorem dX0_add_20 : decode cX0_add 20 = .ok (.iload_n 2, 1) := by decide +kernel
theorem dX0_add_21 : decode cX0_add 21 = .ok (.iastore, 1) := by decide +kernel
theorem dX0_add_22 : decode cX0_add 22 = .ok (.aload_n 0, 1) := by decide +kernel
theorem dX0_add_23 : decode cX0_add 23 = .ok (.getfield 16, 3) := by decide +kernel
theorem dX0_add_26 : decode cX0_add 26 = .ok (.iload 5, 2) := by decide +kernel
theorem dX0_add_28 : decode cX0_add 28 = .ok (.iload_n 3, 1) := by decide +kernel
theorem dX0_add_29 : decode cX0_add 29 = .ok (.iastore, 1) := by decide +kernel
theorem dX0_add_30 : decode cX0_add 30 = .ok (.aload_n 0, 1) := by decide +kernel
theorem dX0_add_31 : decode cX0_add 31 = .ok (.getfield 19, 3) := by decide +kernel
theorem dX0_add_34 : decode cX0_add 34 = .ok (.iload 5, 2) := by decide +kernel
theorem dX0_add_36 : decode cX0_add 36 = .ok (.iload 4, 2) := by decide +kernel
theorem dX0_add_38 : decode cX0_add 38 = .ok (.iastore, 1) := by decide +kernel
theorem dX0_add_39 : decode cX0_add 39 = .ok (.aload_n 0, 1) := by decide +kernel
theorem dX0_add_40 : decode cX0_add 40 = .ok (.dup, 1) := by decide +kernel
theorem dX0_add_41 : decode cX0_add 41 = .ok (.getfield 22, 3) := by decide +kernel
theorem dX0_add_44 : decode cX0_add 44 = .ok (.iconst 1, 1) := by decide +kernel
theorem dX0_add_45 : decode cX0_add 45 = .ok (.iadd, 1) := by decide +kernel
theorem dX0_add_46 : decode cX0_add 46 = .ok (.putfield 22, 3) := by decide +kernel
theorem dX0_add_49 : decode cX0_add 49 = .ok (.iload 5, 2) := by decide +kernel
theorem dX0_add_51 : decode cX0_add 51 = .ok (.ireturn, 1) := by decide +kernel
theorem dX0_has_0 : decode cX0_has 0 = .ok (.iload_n 1, 1) := by decide +kernel
theorem dX0_has_1 : decode cX0_has 1 = .ok (.iconst 0, 1) := by decide +kernel
theorem dX0_has_2 : decode cX0_has 2 = .ok (.aload_n 0, 1) := by decide +kernel
theorem dX0_has_3 : decode cX0_has 3 = .ok (.getfield 22, 3) := by decide +kernel
theorem dX0_has_6 : decode cX0_has 6 = .ok (.iconst 1, 1) := by decide +kernel
theorem dX0_has_7 : decode cX0_has 7 = .ok (.isub, 1) := by decide +kernel
theorem dX0_has_8 : decode cX0_has 8 = .ok (.invokestatic 35, 3) := by decide +kernel
theorem dX0_has_11 : decode cX0_has 11 = .ok (.ireturn, 1) := by decide +kernel
theorem dX0_isOpen_0 : decode cX0_isOpen 0 = .ok (.aload_n 0, 1) := by decide +kernel
theorem dX0_isOpen_1 : decode cX0_isOpen 1 = .ok (.getfield 26, 3) := by decide +kernel
theorem dX0_isOpen_4 : decode cX0_isOpen 4 = .ok (.iload_n 1, 1) := by decide +kernel
theorem dX0_isOpen_5 : decode cX0_isOpen 5 = .ok (.ishr, 1) := by decide +kernel
theorem dX0_isOpen_6 : decode cX0_isOpen 6 = .ok (.iconst 1, 1) := by decide +kernel
theorem dX0_isOpen_7 : decode cX0_isOpen 7 = .ok (.iand, 1) := by decide +kernel
theorem dX0_isOpen_8 : decode cX0_isOpen 8 = .ok (.iconst 1, 1) := by decide +kernel
theorem dX0_isOpen_9 : decode cX0_isOpen 9 = .ok (.if_icmp .ne 7, 3) := by decide +kernel
theorem dX0_isOpen_12 : decode cX0_isOpen 12 = .ok (.iconst 1, 1) := by decide +kernel
theorem dX0_isOpen_13 : decode cX0_isOpen 13 = .ok (.goto 4, 3) := by decide +kernel
theorem dX0_isOpen_16 : decode cX0_isOpen 16 = .ok (.iconst 0, 1) := by decide +kernel
theorem dX0_isOpen_17 : decode cX0_isOpen 17 = .ok (.ireturn, 1) := by decide +kernel
theorem dX0_swing_0 : decode cX0_swing 0 = .ok (.aload_n 0, 1) := by decide +kernel
theorem dX0_swing_1 : decode cX0_swing 1 = .ok (.iload_n 2, 1) := by decide +kernel
theorem dX0_swing_2 : decode cX0_swing 2 = .ok (.ifCond .eq 14, 3) := by decide +kernel
theorem dX0_swing_5 : decode cX0_swing 5 = .ok (.aload_n 0, 1) := by decide +kernel
theorem dX0_swing_6 : decode cX0_swing 6 = .ok (.getfield 26, 3) := by decide +kernel
theorem dX0_swing_9 : decode cX0_swing 9 = .ok (.iconst 1, 1) := by decide +kernel
theorem dX0_swing_10 : decode cX0_swing 10 = .ok (.iload_n 1, 1) := by decide +kernel
theorem dX0_swing_11 : decode cX0_swing 11 = .ok (.ishl, 1) := by decide +kernel
theorem dX0_swing_12 : decode cX0_swing 12 = .ok (.ior, 1) := by decide +kernel
theorem dX0_swing_13 : decode cX0_swing 13 = .ok (.goto 13, 3) := by decide +kernel
theorem dX0_swing_16 : decode cX0_swing 16 = .ok (.aload_n 0, 1) := by decide +kernel
theorem dX0_swing_17 : decode cX0_swing 17 = .ok (.getfield 26, 3) := by decide +kernel
theorem dX0_swing_20 : decode cX0_swing 20 = .ok (.iconst 1, 1) := by decide +kernel
theorem dX0_swing_21 : decode cX0_swing 21 = .ok (.iload_n 1, 1) := by decide +kernel
theorem dX0_swing_22 : decode cX0_swing 22 = .ok (.ishl, 1) := by decide +kernel
theorem dX0_swing_23 : decode cX0_swing 23 = .ok (.iconst (-1), 1) := by decide +kernel
theorem dX0_swing_24 : decode cX0_swing 24 = .ok (.ixor, 1) := by decide +kernel
theorem dX0_swing_25 : decode cX0_swing 25 = .ok (.iand, 1) := by decide +kernel
theorem dX0_swing_26 : decode cX0_swing 26 = .ok (.putfield 26, 3) := by decide +kernel
theorem dX0_swing_29 : decode cX0_swing 29 = .ok (.return_, 1) := by decide +kernel
theorem dX0_openMany_0 : decode cX0_openMany 0 = .ok (.aload_n 0, 1) := by decide +kernel
theorem dX0_openMany_1 : decode cX0_openMany 1 = .ok (.getfield 26, 3) := by decide +kernel
theorem dX0_openMany_4 : decode cX0_openMany 4 = .ok (.invokestatic 41, 3) := by decide +kernel
theorem dX0_openMany_7 : decode cX0_openMany 7 = .ok (.ireturn, 1) := by decide +kernel
theorem dX1_init_0 : decode cX1_init 0 = .ok (.aload_n 0, 1) := by decide +kernel
theorem dX1_init_1 : decode cX1_init 1 = .ok (.invokespecial 3, 3) := by decide +kernel
theorem dX1_init_4 : decode cX1_init 4 = .ok (.aload_n 0, 1) := by decide +kernel
theorem dX1_init_5 : decode cX1_init 5 = .ok (.new 9, 3) := by decide +kernel
theorem dX1_init_8 : decode cX1_init 8 = .ok (.dup, 1) := by decide +kernel
theorem dX1_init_9 : decode cX1_init 9 = .ok (.invokespecial 11, 3) := by decide +kernel
theorem dX1_init_12 : decode cX1_init 12 = .ok (.putfield 12, 3) := by decide +kernel
theorem dX1_init_15 : decode cX1_init 15 = .ok (.aload_n 0, 1) := by decide +kernel
theorem dX1_init_16 : decode cX1_init 16 = .ok (.new 18, 3) := by decide +kernel
theorem dX1_init_19 : decode cX1_init 19 = .ok (.dup, 1) := by decide +kernel
theorem dX1_init_20 : decode cX1_init 20 = .ok (.invokespecial 20, 3) := by decide +kernel
theorem dX1_init_23 : decode cX1_init 23 = .ok (.putfield 21, 3) := by decide +kernel
theorem dX1_init_26 : decode cX1_init 26 = .ok (.aload_n 0, 1) := by decide +kernel
theorem dX1_init_27 : decode cX1_init 27 = .ok (.bipush 9, 2) := by decide +kernel
theorem dX1_init_29 : decode cX1_init 29 = .ok (.newarray .int, 2) := by decide +kernel
theorem dX1_init_31 : decode cX1_init 31 = .ok (.putfield 25, 3) := by decide +kernel
theorem dX1_init_34 : decode cX1_init 34 = .ok (.aload_n 0, 1) := by decide +kernel
theorem dX1_init_35 : decode cX1_init 35 = .ok (.bipush 8, 2) := by decide +kernel
theorem dX1_init_37 : decode cX1_init 37 = .ok (.newarray .int, 2) := by decide +kernel
theorem dX1_init_39 : decode cX1_init 39 = .ok (.putfield 29, 3) := by decide +kernel
theorem dX1_init_42 : decode cX1_init 42 = .ok (.aload_n 0, 1) := by decide +kernel
theorem dX1_init_43 : decode cX1_init 43 = .ok (.bipush 8, 2) := by decide +kernel
theorem dX1_init_45 : decode cX1_init 45 = .ok (.newarray .int, 2) := by decide +kernel
theorem dX1_init_47 : decode cX1_init 47 = .ok (.putfield 32, 3) := by decide +kernel
theorem dX1_init_50 : decode cX1_init 50 = .ok (.aload_n 0, 1) := by decide +kernel
theorem dX1_init_51 : decode cX1_init 51 = .ok (.iconst 1, 1) := by decide +kernel
theorem dX1_init_52 : decode cX1_init 52 = .ok (.putfield 35, 3) := by decide +kernel
theorem dX1_init_55 : decode cX1_init 55 = .ok (.aload_n 0, 1) := by decide +kernel
theorem dX1_init_56 : decode cX1_init 56 = .ok (.bipush 10, 2) := by decide +kernel
theorem dX1_init_58 : decode cX1_init 58 = .ok (.newarray .int, 2) := by decide +kernel
theorem dX1_init_60 : decode cX1_init 60 = .ok (.putfield 39, 3) := by decide +kernel
theorem dX1_init_63 : decode cX1_init 63 = .ok (.aload_n 0, 1) := by decide +kernel
theorem dX1_init_64 : decode cX1_init 64 = .ok (.bipush 9, 2) := by decide +kernel
theorem dX1_init_66 : decode cX1_init 66 = .ok (.newarray .int, 2) := by decide +kernel
theorem dX1_init_68 : decode cX1_init 68 = .ok (.putfield 42, 3) := by decide +kernel
theorem dX1_init_71 : decode cX1_init 71 = .ok (.aload_n 0, 1) := by decide +kernel
theorem dX1_init_72 : decode cX1_init 72 = .ok (.bipush 8, 2) := by decide +kernel
theorem dX1_init_74 : decode cX1_init 74 = .ok (.newarray .int, 2) := by decide +kernel
theorem dX1_init_76 : decode cX1_init 76 = .ok (.putfield 45, 3) := by decide +kernel
theorem dX1_init_79 : decode cX1_init 79 = .ok (.aload_n 0, 1) := by decide +kernel
theorem dX1_init_80 : decode cX1_init 80 = .ok (.getfield 25, 3) := by decide +kernel
theorem dX1_init_83 : decode cX1_init 83 = .ok (.sipush 1000, 3) := by decide +kernel
theorem dX1_init_86 : decode cX1_init 86 = .ok (.invokestatic 48, 3) := by decide +kernel
theorem dX1_init_89 : decode cX1_init 89 = .ok (.return_, 1) := by decide +kernel
theorem dX1_takeFrom_0 : decode cX1_takeFrom 0 = .ok (.aload_n 0, 1) := by decide +kernel
theorem dX1_takeFrom_1 : decode cX1_takeFrom 1 = .ok (.getfield 12, 3) := by decide +kernel
theorem dX1_takeFrom_4 : decode cX1_takeFrom 4 = .ok (.aload_n 1, 1) := by decide +kernel
theorem dX1_takeFrom_5 : decode cX1_takeFrom 5 = .ok (.getfield 12, 3) := by decide +kernel
theorem dX1_takeFrom_8 : decode cX1_takeFrom 8 = .ok (.invokevirtual 54, 3) := by decide +kernel
theorem dX1_takeFrom_11 : decode cX1_takeFrom 11 = .ok (.aload_n 0, 1) := by decide +kernel
theorem dX1_takeFrom_12 : decode cX1_takeFrom 12 = .ok (.getfield 21, 3) := by decide +kernel
theorem dX1_takeFrom_15 : decode cX1_takeFrom 15 = .ok (.aload_n 1, 1) := by decide +kernel
theorem dX1_takeFrom_16 : decode cX1_takeFrom 16 = .ok (.getfield 21, 3) := by decide +kernel
theorem dX1_takeFrom_19 : decode cX1_takeFrom 19 = .ok (.invokevirtual 58, 3) := by decide +kernel
theorem dX1_takeFrom_22 : decode cX1_takeFrom 22 = .ok (.aload_n 0, 1) := by decide +kernel
theorem dX1_takeFrom_23 : decode cX1_takeFrom 23 = .ok (.aload_n 1, 1) := by decide +kernel
theorem dX1_takeFrom_24 : decode cX1_takeFrom 24 = .ok (.invokevirtual 61, 3) := by decide +kernel
theorem dX1_takeFrom_27 : decode cX1_takeFrom 27 = .ok (.aload_n 1, 1) := by decide +kernel
theorem dX1_takeFrom_28 : decode cX1_takeFrom 28 = .ok (.getfield 29, 3) := by decide +kernel
theorem dX1_takeFrom_31 : decode cX1_takeFrom 31 = .ok (.iconst 0, 1) := by decide +kernel
theorem dX1_takeFrom_32 : decode cX1_takeFrom 32 = .ok (.aload_n 0, 1) := by decide +kernel
theorem dX1_takeFrom_33 : decode cX1_takeFrom 33 = .ok (.getfield 29, 3) := by decide +kernel
theorem dX1_takeFrom_36 : decode cX1_takeFrom 36 = .ok (.iconst 0, 1) := by decide +kernel
theorem dX1_takeFrom_37 : decode cX1_takeFrom 37 = .ok (.bipush 8, 2) := by decide +kernel
theorem dX1_takeFrom_39 : decode cX1_takeFrom 39 = .ok (.invokestatic 65, 3) := by decide +kernel
theorem dX1_takeFrom_42 : decode cX1_takeFrom 42 = .ok (.aload_n 1, 1) := by decide +kernel
theorem dX1_takeFrom_43 : decode cX1_takeFrom 43 = .ok (.getfield 32, 3) := by decide +kernel
theorem dX1_takeFrom_46 : decode cX1_takeFrom 46 = .ok (.iconst 0, 1) := by decide +kernel
theorem dX1_takeFrom_47 : decode cX1_takeFrom 47 = .ok (.aload_n 0, 1) := by decide +kernel
theorem dX1_takeFrom_48 : decode cX1_takeFrom 48 = .ok (.getfield 32, 3) := by decide +kernel
theorem dX1_takeFrom_51 : decode cX1_takeFrom 51 = .ok (.iconst 0, 1) := by decide +kernel
theorem dX1_takeFrom_52 : decode cX1_takeFrom 52 = .ok (.bipush 8, 2) := by decide +kernel
theorem dX1_takeFrom_54 : decode cX1_takeFrom 54 = .ok (.invokestatic 65, 3) := by decide +kernel
theorem dX1_takeFrom_57 : decode cX1_takeFrom 57 = .ok (.aload_n 0, 1) := by decide +kernel
theorem dX1_takeFrom_58 : decode cX1_takeFrom 58 = .ok (.aload_n 1, 1) := by decide +kernel
theorem dX1_takeFrom_59 : decode cX1_takeFrom 59 = .ok (.getfield 71, 3) := by decide +kernel
theorem dX1_takeFrom_62 : decode cX1_takeFrom 62 = .ok (.putfield 71, 3) := by decide +kernel
theorem dX1_takeFrom_65 : decode cX1_takeFrom 65 = .ok (.aload_n 0, 1) := by decide +kernel
theorem dX1_takeFrom_66 : decode cX1_takeFrom 66 = .ok (.aload_n 1, 1) := by decide +kernel
theorem dX1_takeFrom_67 : decode cX1_takeFrom 67 = .ok (.getfield 74, 3) := by decide +kernel
theorem dX1_takeFrom_70 : decode cX1_takeFrom 70 = .ok (.putfield 74, 3) := by decide +kernel
theorem dX1_takeFrom_73 : decode cX1_takeFrom 73 = .ok (.aload_n 0, 1) := by decide +kernel
theorem dX1_takeFrom_74 : decode cX1_takeFrom 74 = .ok (.aload_n 1, 1) := by decide +kernel
theorem dX1_takeFrom_75 : decode cX1_takeFrom 75 = .ok (.getfield 77, 3) := by decide +kernel
theorem dX1_takeFrom_78 : decode cX1_takeFrom 78 = .ok (.putfield 77, 3) := by decide +kernel
theorem dX1_takeFrom_81 : decode cX1_takeFrom 81 = .ok (.aload_n 0, 1) := by decide +kernel
theorem dX1_takeFrom_82 : decode cX1_takeFrom 82 = .ok (.aload_n 1, 1) := by decide +kernel
theorem dX1_takeFrom_83 : decode cX1_takeFrom 83 = .ok (.getfield 35, 3) := by decide +kernel
theorem dX1_takeFrom_86 : decode cX1_takeFrom 86 = .ok (.putfield 35, 3) := by decide +kernel
theorem dX1_takeFrom_89 : decode cX1_takeFrom 89 = .ok (.return_, 1) := by decide +kernel
theorem dX1_takeAirFrom_0 : decode cX1_takeAirFrom 0 = .ok (.aload_n 1, 1) := by decide +kernel
theorem dX1_takeAirFrom_1 : decode cX1_takeAirFrom 1 = .ok (.getfield 25, 3) := by decide +kernel
theorem dX1_takeAirFrom_4 : decode cX1_takeAirFrom 4 = .ok (.iconst 0, 1) := by decide +kernel
theorem dX1_takeAirFrom_5 : decode cX1_takeAirFrom 5 = .ok (.aload_n 0, 1) := by decide +kernel
theorem dX1_takeAirFrom_6 : decode cX1_takeAirFrom 6 = .ok (.getfield 25, 3) := by decide +kernel
theorem dX1_takeAirFrom_9 : decode cX1_takeAirFrom 9 = .ok (.iconst 0, 1) := by decide +kernel
theorem dX1_takeAirFrom_10 : decode cX1_takeAirFrom 10 = .ok (.bipush 9, 2) := by decide +kernel
theorem dX1_takeAirFrom_12 : decode cX1_takeAirFrom 12 = .ok (.invokestatic 65, 3) := by decide +kernel
theorem dX1_takeAirFrom_15 : decode cX1_takeAirFrom 15 = .ok (.return_, 1) := by decide +kernel
theorem dX1_isLit_0 : decode cX1_isLit 0 = .ok (.aload_n 0, 1) := by decide +kernel
theorem dX1_isLit_1 : decode cX1_isLit 1 = .ok (.getfield 71, 3) := by decide +kernel
theorem dX1_isLit_4 : decode cX1_isLit 4 = .ok (.iload_n 1, 1) := by decide +kernel
theorem dX1_isLit_5 : decode cX1_isLit 5 = .ok (.ishr, 1) := by decide +kernel
theorem dX1_isLit_6 : decode cX1_isLit 6 = .ok (.iconst 1, 1) := by decide +kernel
theorem dX1_isLit_7 : decode cX1_isLit 7 = .ok (.iand, 1) := by decide +kernel
theorem dX1_isLit_8 : decode cX1_isLit 8 = .ok (.iconst 1, 1) := by decide +kernel
theorem dX1_isLit_9 : decode cX1_isLit 9 = .ok (.if_icmp .ne 7, 3) := by decide +kernel
theorem dX1_isLit_12 : decode cX1_isLit 12 = .ok (.iconst 1, 1) := by decide +kernel
theorem dX1_isLit_13 : decode cX1_isLit 13 = .ok (.goto 4, 3) := by decide +kernel
theorem dX1_isLit_16 : decode cX1_isLit 16 = .ok (.iconst 0, 1) := by decide +kernel
theorem dX1_isLit_17 : decode cX1_isLit 17 = .ok (.ireturn, 1) := by decide +kernel
theorem dX1_light_0 : decode cX1_light 0 = .ok (.aload_n 0, 1) := by decide +kernel
theorem dX1_light_1 : decode cX1_light 1 = .ok (.iload_n 2, 1) := by decide +kernel
theorem dX1_light_2 : decode cX1_light 2 = .ok (.ifCond .eq 14, 3) := by decide +kernel
theorem dX1_light_5 : decode cX1_light 5 = .ok (.aload_n 0, 1) := by decide +kernel
theorem dX1_light_6 : decode cX1_light 6 = .ok (.getfield 71, 3) := by decide +kernel
theorem dX1_light_9 : decode cX1_light 9 = .ok (.iconst 1, 1) := by decide +kernel
theorem dX1_light_10 : decode cX1_light 10 = .ok (.iload_n 1, 1) := by decide +kernel
theorem dX1_light_11 : decode cX1_light 11 = .ok (.ishl, 1) := by decide +kernel
theorem dX1_light_12 : decode cX1_light 12 = .ok (.ior, 1) := by decide +kernel
theorem dX1_light_13 : decode cX1_light 13 = .ok (.goto 13, 3) := by decide +kernel
theorem dX1_light_16 : decode cX1_light 16 = .ok (.aload_n 0, 1) := by decide +kernel
theorem dX1_light_17 : decode cX1_light 17 = .ok (.getfield 71, 3) := by decide +kernel
theorem dX1_light_20 : decode cX1_light 20 = .ok (.iconst 1, 1) := by decide +kernel
theorem dX1_light_21 : decode cX1_light 21 = .ok (.iload_n 1, 1) := by decide +kernel
theorem dX1_light_22 : decode cX1_light 22 = .ok (.ishl, 1) := by decide +kernel
theorem dX1_light_23 : decode cX1_light 23 = .ok (.iconst (-1), 1) := by decide +kernel
theorem dX1_light_24 : decode cX1_light 24 = .ok (.ixor, 1) := by decide +kernel
theorem dX1_light_25 : decode cX1_light 25 = .ok (.iand, 1) := by decide +kernel
theorem dX1_light_26 : decode cX1_light 26 = .ok (.putfield 71, 3) := by decide +kernel
theorem dX1_light_29 : decode cX1_light 29 = .ok (.return_, 1) := by decide +kernel
theorem dX1_litMany_0 : decode cX1_litMany 0 = .ok (.aload_n 0, 1) := by decide +kernel
theorem dX1_litMany_1 : decode cX1_litMany 1 = .ok (.getfield 71, 3) := by decide +kernel
theorem dX1_litMany_4 : decode cX1_litMany 4 = .ok (.invokestatic 80, 3) := by decide +kernel
theorem dX1_litMany_7 : decode cX1_litMany 7 = .ok (.ireturn, 1) := by decide +kernel
theorem dX1_airOfAll_0 : decode cX1_airOfAll 0 = .ok (.iconst 0, 1) := by decide +kernel
theorem dX1_airOfAll_1 : decode cX1_airOfAll 1 = .ok (.istore_n 1, 1) := by decide +kernel
theorem dX1_airOfAll_2 : decode cX1_airOfAll 2 = .ok (.iconst 0, 1) := by decide +kernel
theorem dX1_airOfAll_3 : decode cX1_airOfAll 3 = .ok (.istore_n 2, 1) := by decide +kernel
theorem dX1_airOfAll_4 : decode cX1_airOfAll 4 = .ok (.iload_n 2, 1) := by decide +kernel
theorem dX1_airOfAll_5 : decode cX1_airOfAll 5 = .ok (.bipush 8, 2) := by decide +kernel
theorem dX1_airOfAll_7 : decode cX1_airOfAll 7 = .ok (.if_icmp .ge 18, 3) := by decide +kernel
theorem dX1_airOfAll_10 : decode cX1_airOfAll 10 = .ok (.iload_n 1, 1) := by decide +kernel
theorem dX1_airOfAll_11 : decode cX1_airOfAll 11 = .ok (.aload_n 0, 1) := by decide +kernel
theorem dX1_airOfAll_12 : decode cX1_airOfAll 12 = .ok (.getfield 25, 3) := by decide +kernel
theorem dX1_airOfAll_15 : decode cX1_airOfAll 15 = .ok (.iload_n 2, 1) := by decide +kernel
theorem dX1_airOfAll_16 : decode cX1_airOfAll 16 = .ok (.iaload, 1) := by decide +kernel
theorem dX1_airOfAll_17 : decode cX1_airOfAll 17 = .ok (.iadd, 1) := by decide +kernel
theorem dX1_airOfAll_18 : decode cX1_airOfAll 18 = .ok (.istore_n 1, 1) := by decide +kernel
theorem dX1_airOfAll_19 : decode cX1_airOfAll 19 = .ok (.iinc 2 1, 3) := by decide +kernel
theorem dX1_airOfAll_22 : decode cX1_airOfAll 22 = .ok (.goto (-18), 3) := by decide +kernel
theorem dX1_airOfAll_25 : decode cX1_airOfAll 25 = .ok (.iload_n 1, 1) := by decide +kernel
theorem dX1_airOfAll_26 : decode cX1_airOfAll 26 = .ok (.ireturn, 1) := by decide +kernel
theorem dX1_scentOfAll_0 : decode cX1_scentOfAll 0 = .ok (.iconst 0, 1) := by decide +kernel
theorem dX1_scentOfAll_1 : decode cX1_scentOfAll 1 = .ok (.istore_n 1, 1) := by decide +kernel
theorem dX1_scentOfAll_2 : decode cX1_scentOfAll 2 = .ok (.iconst 0, 1) := by decide +kernel
theorem dX1_scentOfAll_3 : decode cX1_scentOfAll 3 = .ok (.istore_n 2, 1) := by decide +kernel
theorem dX1_scentOfAll_4 : decode cX1_scentOfAll 4 = .ok (.iload_n 2, 1) := by decide +kernel
theorem dX1_scentOfAll_5 : decode cX1_scentOfAll 5 = .ok (.bipush 8, 2) := by decide +kernel
theorem dX1_scentOfAll_7 : decode cX1_scentOfAll 7 = .ok (.if_icmp .ge 18, 3) := by decide +kernel
theorem dX1_scentOfAll_10 : decode cX1_scentOfAll 10 = .ok (.iload_n 1, 1) := by decide +kernel
theorem dX1_scentOfAll_11 : decode cX1_scentOfAll 11 = .ok (.aload_n 0, 1) := by decide +kernel
theorem dX1_scentOfAll_12 : decode cX1_scentOfAll 12 = .ok (.getfield 32, 3) := by decide +kernel
theorem dX1_scentOfAll_15 : decode cX1_scentOfAll 15 = .ok (.iload_n 2, 1) := by decide +kernel
theorem dX1_scentOfAll_16 : decode cX1_scentOfAll 16 = .ok (.iaload, 1) := by decide +kernel
theorem dX1_scentOfAll_17 : decode cX1_scentOfAll 17 = .ok (.iadd, 1) := by decide +kernel
theorem dX1_scentOfAll_18 : decode cX1_scentOfAll 18 = .ok (.istore_n 1, 1) := by decide +kernel
theorem dX1_scentOfAll_19 : decode cX1_scentOfAll 19 = .ok (.iinc 2 1, 3) := by decide +kernel
theorem dX1_scentOfAll_22 : decode cX1_scentOfAll 22 = .ok (.goto (-18), 3) := by decide +kernel
theorem dX1_scentOfAll_25 : decode cX1_scentOfAll 25 = .ok (.iload_n 1, 1) := by decide +kernel
theorem dX1_scentOfAll_26 : decode cX1_scentOfAll 26 = .ok (.ireturn, 1) := by decide +kernel
theorem dX1_minutesLeft_0 : decode cX1_minutesLeft 0 = .ok (.iconst 0, 1) := by decide +kernel
theorem dX1_minutesLeft_1 : decode cX1_minutesLeft 1 = .ok (.sipush 9999, 3) := by decide +kernel
theorem dX1_minutesLeft_4 : decode cX1_minutesLeft 4 = .ok (.aload_n 0, 1) := by decide +kernel
theorem dX1_minutesLeft_5 : decode cX1_minutesLeft 5 = .ok (.getfield 77, 3) := by decide +kernel
theorem dX1_minutesLeft_8 : decode cX1_minutesLeft 8 = .ok (.isub, 1) := by decide +kernel
theorem dX1_minutesLeft_9 : decode cX1_minutesLeft 9 = .ok (.invokestatic 86, 3) := by decide +kernel
theorem dX1_minutesLeft_12 : decode cX1_minutesLeft 12 = .ok (.ireturn, 1) := by decide +kernel
theorem dX1_letsOf_0 : decode cX1_letsOf 0 = .ok (.aload_n 0, 1) := by decide +kernel
theorem dX1_letsOf_1 : decode cX1_letsOf 1 = .ok (.getfield 21, 3) := by decide +kernel
theorem dX1_letsOf_4 : decode cX1_letsOf 4 = .ok (.aload_n 0, 1) := by decide +kernel
theorem dX1_letsOf_5 : decode cX1_letsOf 5 = .ok (.getfield 12, 3) := by decide +kernel
theorem dX1_letsOf_8 : decode cX1_letsOf 8 = .ok (.getfield 92, 3) := by decide +kernel
theorem dX1_letsOf_11 : decode cX1_letsOf 11 = .ok (.iload_n 1, 1) := by decide +kernel
theorem dX1_letsOf_12 : decode cX1_letsOf 12 = .ok (.iaload, 1) := by decide +kernel
theorem dX1_letsOf_13 : decode cX1_letsOf 13 = .ok (.aload_n 0, 1) := by decide +kernel
theorem dX1_letsOf_14 : decode cX1_letsOf 14 = .ok (.getfield 12, 3) := by decide +kernel
theorem dX1_letsOf_17 : decode cX1_letsOf 17 = .ok (.getfield 95, 3) := by decide +kernel
theorem dX1_letsOf_20 : decode cX1_letsOf 20 = .ok (.iload_n 1, 1) := by decide +kernel
theorem dX1_letsOf_21 : decode cX1_letsOf 21 = .ok (.iaload, 1) := by decide +kernel
theorem dX1_letsOf_22 : decode cX1_letsOf 22 = .ok (.aload_n 0, 1) := by decide +kernel
theorem dX1_letsOf_23 : decode cX1_letsOf 23 = .ok (.getfield 12, 3) := by decide +kernel
theorem dX1_letsOf_26 : decode cX1_letsOf 26 = .ok (.getfield 98, 3) := by decide +kernel
theorem dX1_letsOf_29 : decode cX1_letsOf 29 = .ok (.iload_n 1, 1) := by decide +kernel
theorem dX1_letsOf_30 : decode cX1_letsOf 30 = .ok (.ishr, 1) := by decide +kernel
theorem dX1_letsOf_31 : decode cX1_letsOf 31 = .ok (.iconst 1, 1) := by decide +kernel
theorem dX1_letsOf_32 : decode cX1_letsOf 32 = .ok (.iand, 1) := by decide +kernel
theorem dX1_letsOf_33 : decode cX1_letsOf 33 = .ok (.invokevirtual 101, 3) := by decide +kernel
theorem dX1_letsOf_36 : decode cX1_letsOf 36 = .ok (.ireturn, 1) := by decide +kernel
theorem dX1_flowOf_0 : decode cX1_flowOf 0 = .ok (.aload_n 0, 1) := by decide +kernel
theorem dX1_flowOf_1 : decode cX1_flowOf 1 = .ok (.getfield 25, 3) := by decide +kernel
theorem dX1_flowOf_4 : decode cX1_flowOf 4 = .ok (.aload_n 0, 1) := by decide +kernel
theorem dX1_flowOf_5 : decode cX1_flowOf 5 = .ok (.getfield 12, 3) := by decide +kernel
theorem dX1_flowOf_8 : decode cX1_flowOf 8 = .ok (.getfield 105, 3) := by decide +kernel
theorem dX1_flowOf_11 : decode cX1_flowOf 11 = .ok (.iload_n 1, 1) := by decide +kernel
theorem dX1_flowOf_12 : decode cX1_flowOf 12 = .ok (.iaload, 1) := by decide +kernel
theorem dX1_flowOf_13 : decode cX1_flowOf 13 = .ok (.iaload, 1) := by decide +kernel
theorem dX1_flowOf_14 : decode cX1_flowOf 14 = .ok (.aload_n 0, 1) := by decide +kernel
theorem dX1_flowOf_15 : decode cX1_flowOf 15 = .ok (.getfield 25, 3) := by decide +kernel
theorem dX1_flowOf_18 : decode cX1_flowOf 18 = .ok (.aload_n 0, 1) := by decide +kernel
theorem dX1_flowOf_19 : decode cX1_flowOf 19 = .ok (.getfield 12, 3) := by decide +kernel
theorem dX1_flowOf_22 : decode cX1_flowOf 22 = .ok (.getfield 108, 3) := by decide +kernel
theorem dX1_flowOf_25 : decode cX1_flowOf 25 = .ok (.iload_n 1, 1) := by decide +kernel
theorem dX1_flowOf_26 : decode cX1_flowOf 26 = .ok (.iaload, 1) := by decide +kernel
theorem dX1_flowOf_27 : decode cX1_flowOf 27 = .ok (.iaload, 1) := by decide +kernel
theorem dX1_flowOf_28 : decode cX1_flowOf 28 = .ok (.isub, 1) := by decide +kernel
theorem dX1_flowOf_29 : decode cX1_flowOf 29 = .ok (.aload_n 0, 1) := by decide +kernel
theorem dX1_flowOf_30 : decode cX1_flowOf 30 = .ok (.iload_n 1, 1) := by decide +kernel
theorem dX1_flowOf_31 : decode cX1_flowOf 31 = .ok (.invokevirtual 111, 3) := by decide +kernel
theorem dX1_flowOf_34 : decode cX1_flowOf 34 = .ok (.imul, 1) := by decide +kernel
theorem dX1_flowOf_35 : decode cX1_flowOf 35 = .ok (.sipush 1000, 3) := by decide +kernel
theorem dX1_flowOf_38 : decode cX1_flowOf 38 = .ok (.idiv, 1) := by decide +kernel
theorem dX1_flowOf_39 : decode cX1_flowOf 39 = .ok (.ireturn, 1) := by decide +kernel
theorem dX1_draughtOf_0 : decode cX1_draughtOf 0 = .ok (.aload_n 0, 1) := by decide +kernel
theorem dX1_draughtOf_1 : decode cX1_draughtOf 1 = .ok (.invokevirtual 113, 3) := by decide +kernel
theorem dX1_draughtOf_4 : decode cX1_draughtOf 4 = .ok (.aload_n 0, 1) := by decide +kernel
theorem dX1_draughtOf_5 : decode cX1_draughtOf 5 = .ok (.getfield 42, 3) := by decide +kernel
theorem dX1_draughtOf_8 : decode cX1_draughtOf 8 = .ok (.iload_n 1, 1) := by decide +kernel
theorem dX1_draughtOf_9 : decode cX1_draughtOf 9 = .ok (.iaload, 1) := by decide +kernel
theorem dX1_draughtOf_10 : decode cX1_draughtOf 10 = .ok (.ireturn, 1) := by decide +kernel
theorem dX1_measureFlows_0 : decode cX1_measureFlows 0 = .ok (.aload_n 0, 1) := by decide +kernel
theorem dX1_measureFlows_1 : decode cX1_measureFlows 1 = .ok (.getfield 42, 3) := by decide +kernel
theorem dX1_measureFlows_4 : decode cX1_measureFlows 4 = .ok (.iconst 0, 1) := by decide +kernel
theorem dX1_measureFlows_5 : decode cX1_measureFlows 5 = .ok (.invokestatic 48, 3) := by decide +kernel
theorem dX1_measureFlows_8 : decode cX1_measureFlows 8 = .ok (.iconst 0, 1) := by decide +kernel
theorem dX1_measureFlows_9 : decode cX1_measureFlows 9 = .ok (.istore_n 1, 1) := by decide +kernel
theorem dX1_measureFlows_10 : decode cX1_measureFlows 10 = .ok (.iload_n 1, 1) := by decide +kernel
theorem dX1_measureFlows_11 : decode cX1_measureFlows 11 = .ok (.aload_n 0, 1) := by decide +kernel
theorem dX1_measureFlows_12 : decode cX1_measureFlows 12 = .ok (.getfield 12, 3) := by decide +kernel
theorem dX1_measureFlows_15 : decode cX1_measureFlows 15 = .ok (.getfield 116, 3) := by decide +kernel
theorem dX1_measureFlows_18 : decode cX1_measureFlows 18 = .ok (.if_icmp .ge 66, 3) := by decide +kernel
theorem dX1_measureFlows_21 : decode cX1_measureFlows 21 = .ok (.aload_n 0, 1) := by decide +kernel
theorem dX1_measureFlows_22 : decode cX1_measureFlows 22 = .ok (.getfield 39, 3) := by decide +kernel
theorem dX1_measureFlows_25 : decode cX1_measureFlows 25 = .ok (.iload_n 1, 1) := by decide +kernel
theorem dX1_measureFlows_26 : decode cX1_measureFlows 26 = .ok (.aload_n 0, 1) := by decide +kernel
theorem dX1_measureFlows_27 : decode cX1_measureFlows 27 = .ok (.iload_n 1, 1) := by decide +kernel
theorem dX1_measureFlows_28 : decode cX1_measureFlows 28 = .ok (.invokevirtual 119, 3) := by decide +kernel
theorem dX1_measureFlows_31 : decode cX1_measureFlows 31 = .ok (.iastore, 1) := by decide +kernel
theorem dX1_measureFlows_32 : decode cX1_measureFlows 32 = .ok (.aload_n 0, 1) := by decide +kernel
theorem dX1_measureFlows_33 : decode cX1_measureFlows 33 = .ok (.getfield 39, 3) := by decide +kernel
theorem dX1_measureFlows_36 : decode cX1_measureFlows 36 = .ok (.iload_n 1, 1) := by decide +kernel
theorem dX1_measureFlows_37 : decode cX1_measureFlows 37 = .ok (.iaload, 1) := by decide +kernel
theorem dX1_measureFlows_38 : decode cX1_measureFlows 38 = .ok (.invokestatic 122, 3) := by decide +kernel
theorem dX1_measureFlows_41 : decode cX1_measureFlows 41 = .ok (.istore_n 2, 1) := by decide +kernel
theorem dX1_measureFlows_42 : decode cX1_measureFlows 42 = .ok (.aload_n 0, 1) := by decide +kernel
theorem dX1_measureFlows_43 : decode cX1_measureFlows 43 = .ok (.getfield 42, 3) := by decide +kernel
theorem dX1_measureFlows_46 : decode cX1_measureFlows 46 = .ok (.aload_n 0, 1) := by decide +kernel
theorem dX1_measureFlows_47 : decode cX1_measureFlows 47 = .ok (.getfield 12, 3) := by decide +kernel
theorem dX1_measureFlows_50 : decode cX1_measureFlows 50 = .ok (.getfield 105, 3) := by decide +kernel
theorem dX1_measureFlows_53 : decode cX1_measureFlows 53 = .ok (.iload_n 1, 1) := by decide +kernel
theorem dX1_measureFlows_54 : decode cX1_measureFlows 54 = .ok (.iaload, 1) := by decide +kernel
theorem dX1_measureFlows_55 : decode cX1_measureFlows 55 = .ok (.dup2, 1) := by decide +kernel
theorem dX1_measureFlows_56 : decode cX1_measureFlows 56 = .ok (.iaload, 1) := by decide +kernel
theorem dX1_measureFlows_57 : decode cX1_measureFlows 57 = .ok (.iload_n 2, 1) := by decide +kernel
theorem dX1_measureFlows_58 : decode cX1_measureFlows 58 = .ok (.iadd, 1) := by decide +kernel
theorem dX1_measureFlows_59 : decode cX1_measureFlows 59 = .ok (.iastore, 1) := by decide +kernel
theorem dX1_measureFlows_60 : decode cX1_measureFlows 60 = .ok (.aload_n 0, 1) := by decide +kernel
theorem dX1_measureFlows_61 : decode cX1_measureFlows 61 = .ok (.getfield 42, 3) := by decide +kernel
theorem dX1_measureFlows_64 : decode cX1_measureFlows 64 = .ok (.aload_n 0, 1) := by decide +kernel
theorem dX1_measureFlows_65 : decode cX1_measureFlows 65 = .ok (.getfield 12, 3) := by decide +kernel
theorem dX1_measureFlows_68 : decode cX1_measureFlows 68 = .ok (.getfield 108, 3) := by decide +kernel
theorem dX1_measureFlows_71 : decode cX1_measureFlows 71 = .ok (.iload_n 1, 1) := by decide +kernel
theorem dX1_measureFlows_72 : decode cX1_measureFlows 72 = .ok (.iaload, 1) := by decide +kernel
theorem dX1_measureFlows_73 : decode cX1_measureFlows 73 = .ok (.dup2, 1) := by decide +kernel
theorem dX1_measureFlows_74 : decode cX1_measureFlows 74 = .ok (.iaload, 1) := by decide +kernel
theorem dX1_measureFlows_75 : decode cX1_measureFlows 75 = .ok (.iload_n 2, 1) := by decide +kernel
theorem dX1_measureFlows_76 : decode cX1_measureFlows 76 = .ok (.iadd, 1) := by decide +kernel
theorem dX1_measureFlows_77 : decode cX1_measureFlows 77 = .ok (.iastore, 1) := by decide +kernel
theorem dX1_measureFlows_78 : decode cX1_measureFlows 78 = .ok (.iinc 1 1, 3) := by decide +kernel
theorem dX1_measureFlows_81 : decode cX1_measureFlows 81 = .ok (.goto (-71), 3) := by decide +kernel
theorem dX1_measureFlows_84 : decode cX1_measureFlows 84 = .ok (.return_, 1) := by decide +kernel
theorem dX1_flowsAreNought_0 : decode cX1_flowsAreNought 0 = .ok (.iconst 0, 1) := by decide +kernel
theorem dX1_flowsAreNought_1 : decode cX1_flowsAreNought 1 = .ok (.istore_n 1, 1) := by decide +kernel
theorem dX1_flowsAreNought_2 : decode cX1_flowsAreNought 2 = .ok (.iload_n 1, 1) := by decide +kernel
theorem dX1_flowsAreNought_3 : decode cX1_flowsAreNought 3 = .ok (.aload_n 0, 1) := by decide +kernel
theorem dX1_flowsAreNought_4 : decode cX1_flowsAreNought 4 = .ok (.getfield 12, 3) := by decide +kernel
theorem dX1_flowsAreNought_7 : decode cX1_flowsAreNought 7 = .ok (.getfield 116, 3) := by decide +kernel
theorem dX1_flowsAreNought_10 : decode cX1_flowsAreNought 10 = .ok (.if_icmp .ge 20, 3) := by decide +kernel
theorem dX1_flowsAreNought_13 : decode cX1_flowsAreNought 13 = .ok (.aload_n 0, 1) := by decide +kernel
theorem dX1_flowsAreNought_14 : decode cX1_flowsAreNought 14 = .ok (.getfield 39, 3) := by decide +kernel
theorem dX1_flowsAreNought_17 : decode cX1_flowsAreNought 17 = .ok (.iload_n 1, 1) := by decide +kernel
theorem dX1_flowsAreNought_18 : decode cX1_flowsAreNought 18 = .ok (.iaload, 1) := by decide +kernel
theorem dX1_flowsAreNought_19 : decode cX1_flowsAreNought 19 = .ok (.ifCond .eq 5, 3) := by decide +kernel
theorem dX1_flowsAreNought_22 : decode cX1_flowsAreNought 22 = .ok (.iconst 0, 1) := by decide +kernel
theorem dX1_flowsAreNought_23 : decode cX1_flowsAreNought 23 = .ok (.ireturn, 1) := by decide +kernel
theorem dX1_flowsAreNought_24 : decode cX1_flowsAreNought 24 = .ok (.iinc 1 1, 3) := by decide +kernel
theorem dX1_flowsAreNought_27 : decode cX1_flowsAreNought 27 = .ok (.goto (-25), 3) := by decide +kernel
theorem dX1_flowsAreNought_30 : decode cX1_flowsAreNought 30 = .ok (.iconst 1, 1) := by decide +kernel
theorem dX1_flowsAreNought_31 : decode cX1_flowsAreNought 31 = .ok (.ireturn, 1) := by decide +kernel
theorem dX1_carryScent_0 : decode cX1_carryScent 0 = .ok (.aload_n 0, 1) := by decide +kernel
theorem dX1_carryScent_1 : decode cX1_carryScent 1 = .ok (.getfield 32, 3) := by decide +kernel
theorem dX1_carryScent_4 : decode cX1_carryScent 4 = .ok (.iconst 0, 1) := by decide +kernel
theorem dX1_carryScent_5 : decode cX1_carryScent 5 = .ok (.aload_n 0, 1) := by decide +kernel
theorem dX1_carryScent_6 : decode cX1_carryScent 6 = .ok (.getfield 45, 3) := by decide +kernel
theorem dX1_carryScent_9 : decode cX1_carryScent 9 = .ok (.iconst 0, 1) := by decide +kernel
theorem dX1_carryScent_10 : decode cX1_carryScent 10 = .ok (.bipush 8, 2) := by decide +kernel
theorem dX1_carryScent_12 : decode cX1_carryScent 12 = .ok (.invokestatic 65, 3) := by decide +kernel
theorem dX1_carryScent_15 : decode cX1_carryScent 15 = .ok (.iconst 0, 1) := by decide +kernel
theorem dX1_carryScent_16 : decode cX1_carryScent 16 = .ok (.istore_n 1, 1) := by decide +kernel
theorem dX1_carryScent_17 : decode cX1_carryScent 17 = .ok (.iload_n 1, 1) := by decide +kernel
theorem dX1_carryScent_18 : decode cX1_carryScent 18 = .ok (.aload_n 0, 1) := by decide +kernel
theorem dX1_carryScent_19 : decode cX1_carryScent 19 = .ok (.getfield 12, 3) := by decide +kernel
theorem dX1_carryScent_22 : decode cX1_carryScent 22 = .ok (.getfield 116, 3) := by decide +kernel
theorem dX1_carryScent_25 : decode cX1_carryScent 25 = .ok (.if_icmp .ge 169, 3) := by decide +kernel
theorem dX1_carryScent_28 : decode cX1_carryScent 28 = .ok (.aload_n 0, 1) := by decide +kernel
theorem dX1_carryScent_29 : decode cX1_carryScent 29 = .ok (.getfield 39, 3) := by decide +kernel
theorem dX1_carryScent_32 : decode cX1_carryScent 32 = .ok (.iload_n 1, 1) := by decide +kernel
theorem dX1_carryScent_33 : decode cX1_carryScent 33 = .ok (.iaload, 1) := by decide +kernel
theorem dX1_carryScent_34 : decode cX1_carryScent 34 = .ok (.ifCond .le 7, 3) := by decide +kernel
theorem dX1_carryScent_37 : decode cX1_carryScent 37 = .ok (.iconst 1, 1) := by decide +kernel
theorem dX1_carryScent_38 : decode cX1_carryScent 38 = .ok (.goto 4, 3) := by decide +kernel
theorem dX1_carryScent_41 : decode cX1_carryScent 41 = .ok (.iconst 0, 1) := by decide +kernel
theorem dX1_carryScent_42 : decode cX1_carryScent 42 = .ok (.istore_n 2, 1) := by decide +kernel
theorem dX1_carryScent_43 : decode cX1_carryScent 43 = .ok (.iload_n 2, 1) := by decide +kernel
theorem dX1_carryScent_44 : decode cX1_carryScent 44 = .ok (.ifCond .eq 15, 3) := by decide +kernel
theorem dX1_carryScent_47 : decode cX1_carryScent 47 = .ok (.aload_n 0, 1) := by decide +kernel
theorem dX1_carryScent_48 : decode cX1_carryScent 48 = .ok (.getfield 12, 3) := by decide +kernel
theorem dX1_carryScent_51 : decode cX1_carryScent 51 = .ok (.getfield 105, 3) := by decide +kernel
theorem dX1_carryScent_54 : decode cX1_carryScent 54 = .ok (.iload_n 1, 1) := by decide +kernel
theorem dX1_carryScent_55 : decode cX1_carryScent 55 = .ok (.iaload, 1) := by decide +kernel
theorem dX1_carryScent_56 : decode cX1_carryScent 56 = .ok (.goto 12, 3) := by decide +kernel
theorem dX1_carryScent_59 : decode cX1_carryScent 59 = .ok (.aload_n 0, 1) := by decide +kernel
theorem dX1_carryScent_60 : decode cX1_carryScent 60 = .ok (.getfield 12, 3) := by decide +kernel
theorem dX1_carryScent_63 : decode cX1_carryScent 63 = .ok (.getfield 108, 3) := by decide +kernel
theorem dX1_carryScent_66 : decode cX1_carryScent 66 = .ok (.iload_n 1, 1) := by decide +kernel
theorem dX1_carryScent_67 : decode cX1_carryScent 67 = .ok (.iaload, 1) := by decide +kernel
theorem dX1_carryScent_68 : decode cX1_carryScent 68 = .ok (.istore_n 3, 1) := by decide +kernel
theorem dX1_carryScent_69 : decode cX1_carryScent 69 = .ok (.iload_n 2, 1) := by decide +kernel
theorem dX1_carryScent_70 : decode cX1_carryScent 70 = .ok (.ifCond .eq 15, 3) := by decide +kernel
theorem dX1_carryScent_73 : decode cX1_carryScent 73 = .ok (.aload_n 0, 1) := by decide +kernel
theorem dX1_carryScent_74 : decode cX1_carryScent 74 = .ok (.getfield 12, 3) := by decide +kernel
theorem dX1_carryScent_77 : decode cX1_carryScent 77 = .ok (.getfield 108, 3) := by decide +kernel
theorem dX1_carryScent_80 : decode cX1_carryScent 80 = .ok (.iload_n 1, 1) := by decide +kernel
theorem dX1_carryScent_81 : decode cX1_carryScent 81 = .ok (.iaload, 1) := by decide +kernel
theorem dX1_carryScent_82 : decode cX1_carryScent 82 = .ok (.goto 12, 3) := by decide +kernel
theorem dX1_carryScent_85 : decode cX1_carryScent 85 = .ok (.aload_n 0, 1) := by decide +kernel
theorem dX1_carryScent_86 : decode cX1_carryScent 86 = .ok (.getfield 12, 3) := by decide +kernel
theorem dX1_carryScent_89 : decode cX1_carryScent 89 = .ok (.getfield 105, 3) := by decide +kernel
theorem dX1_carryScent_92 : decode cX1_carryScent 92 = .ok (.iload_n 1, 1) := by decide +kernel
theorem dX1_carryScent_93 : decode cX1_carryScent 93 = .ok (.iaload, 1) := by decide +kernel
theorem dX1_carryScent_94 : decode cX1_carryScent 94 = .ok (.istore 4, 2) := by decide +kernel
theorem dX1_carryScent_96 : decode cX1_carryScent 96 = .ok (.aload_n 0, 1) := by decide +kernel
theorem dX1_carryScent_97 : decode cX1_carryScent 97 = .ok (.getfield 39, 3) := by decide +kernel
theorem dX1_carryScent_100 : decode cX1_carryScent 100 = .ok (.iload_n 1, 1) := by decide +kernel
theorem dX1_carryScent_101 : decode cX1_carryScent 101 = .ok (.iaload, 1) := by decide +kernel
theorem dX1_carryScent_102 : decode cX1_carryScent 102 = .ok (.ifCond .eq 86, 3) := by decide +kernel
theorem dX1_carryScent_105 : decode cX1_carryScent 105 = .ok (.iload_n 3, 1) := by decide +kernel
theorem dX1_carryScent_106 : decode cX1_carryScent 106 = .ok (.bipush 8, 2) := by decide +kernel
theorem dX1_carryScent_108 : decode cX1_carryScent 108 = .ok (.if_icmp .eq 80, 3) := by decide +kernel
theorem dX1_carryScent_111 : decode cX1_carryScent 111 = .ok (.aload_n 0, 1) := by decide +kernel
theorem dX1_carryScent_112 : decode cX1_carryScent 112 = .ok (.getfield 45, 3) := by decide +kernel
theorem dX1_carryScent_115 : decode cX1_carryScent 115 = .ok (.iload_n 3, 1) := by decide +kernel
theorem dX1_carryScent_116 : decode cX1_carryScent 116 = .ok (.iaload, 1) := by decide +kernel
theorem dX1_carryScent_117 : decode cX1_carryScent 117 = .ok (.i2l, 1) := by decide +kernel
theorem dX1_carryScent_118 : decode cX1_carryScent 118 = .ok (.aload_n 0, 1) := by decide +kernel
theorem dX1_carryScent_119 : decode cX1_carryScent 119 = .ok (.getfield 39, 3) := by decide +kernel
theorem dX1_carryScent_122 : decode cX1_carryScent 122 = .ok (.iload_n 1, 1) := by decide +kernel
theorem dX1_carryScent_123 : decode cX1_carryScent 123 = .ok (.iaload, 1) := by decide +kernel
theorem dX1_carryScent_124 : decode cX1_carryScent 124 = .ok (.invokestatic 122, 3) := by decide +kernel
theorem dX1_carryScent_127 : decode cX1_carryScent 127 = .ok (.i2l, 1) := by decide +kernel
theorem dX1_carryScent_128 : decode cX1_carryScent 128 = .ok (.lmul, 1) := by decide +kernel
theorem dX1_carryScent_129 : decode cX1_carryScent 129 = .ok (.iconst 1, 1) := by decide +kernel
theorem dX1_carryScent_130 : decode cX1_carryScent 130 = .ok (.aload_n 0, 1) := by decide +kernel
theorem dX1_carryScent_131 : decode cX1_carryScent 131 = .ok (.getfield 25, 3) := by decide +kernel
theorem dX1_carryScent_134 : decode cX1_carryScent 134 = .ok (.iload_n 3, 1) := by decide +kernel
theorem dX1_carryScent_135 : decode cX1_carryScent 135 = .ok (.iaload, 1) := by decide +kernel
theorem dX1_carryScent_136 : decode cX1_carryScent 136 = .ok (.invokestatic 86, 3) := by decide +kernel
theorem dX1_carryScent_139 : decode cX1_carryScent 139 = .ok (.i2l, 1) := by decide +kernel
theorem dX1_carryScent_140 : decode cX1_carryScent 140 = .ok (.ldiv, 1) := by decide +kernel
theorem dX1_carryScent_141 : decode cX1_carryScent 141 = .ok (.lstore 5, 2) := by decide +kernel
theorem dX1_carryScent_143 : decode cX1_carryScent 143 = .ok (.lload 5, 2) := by decide +kernel
theorem dX1_carryScent_145 : decode cX1_carryScent 145 = .ok (.aload_n 0, 1) := by decide +kernel
theorem dX1_carryScent_146 : decode cX1_carryScent 146 = .ok (.getfield 32, 3) := by decide +kernel
theorem dX1_carryScent_149 : decode cX1_carryScent 149 = .ok (.iload_n 3, 1) := by decide +kernel
theorem dX1_carryScent_150 : decode cX1_carryScent 150 = .ok (.iaload, 1) := by decide +kernel
theorem dX1_carryScent_151 : decode cX1_carryScent 151 = .ok (.i2l, 1) := by decide +kernel
theorem dX1_carryScent_152 : decode cX1_carryScent 152 = .ok (.invokestatic 125, 3) := by decide +kernel
theorem dX1_carryScent_155 : decode cX1_carryScent 155 = .ok (.l2i, 1) := by decide +kernel
theorem dX1_carryScent_156 : decode cX1_carryScent 156 = .ok (.istore 7, 2) := by decide +kernel
theorem dX1_carryScent_158 : decode cX1_carryScent 158 = .ok (.aload_n 0, 1) := by decide +kernel
theorem dX1_carryScent_159 : decode cX1_carryScent 159 = .ok (.getfield 32, 3) := by decide +kernel
theorem dX1_carryScent_162 : decode cX1_carryScent 162 = .ok (.iload_n 3, 1) := by decide +kernel
theorem dX1_carryScent_163 : decode cX1_carryScent 163 = .ok (.dup2, 1) := by decide +kernel
theorem dX1_carryScent_164 : decode cX1_carryScent 164 = .ok (.iaload, 1) := by decide +kernel
theorem dX1_carryScent_165 : decode cX1_carryScent 165 = .ok (.iload 7, 2) := by decide +kernel
theorem dX1_carryScent_167 : decode cX1_carryScent 167 = .ok (.isub, 1) := by decide +kernel
theorem dX1_carryScent_168 : decode cX1_carryScent 168 = .ok (.iastore, 1) := by decide +kernel
theorem dX1_carryScent_169 : decode cX1_carryScent 169 = .ok (.iload 4, 2) := by decide +kernel
theorem dX1_carryScent_171 : decode cX1_carryScent 171 = .ok (.bipush 8, 2) := by decide +kernel
theorem dX1_carryScent_173 : decode cX1_carryScent 173 = .ok (.if_icmp .eq 15, 3) := by decide +kernel
theorem dX1_carryScent_176 : decode cX1_carryScent 176 = .ok (.aload_n 0, 1) := by decide +kernel
theorem dX1_carryScent_177 : decode cX1_carryScent 177 = .ok (.getfield 32, 3) := by decide +kernel
theorem dX1_carryScent_180 : decode cX1_carryScent 180 = .ok (.iload 4, 2) := by decide +kernel
theorem dX1_carryScent_182 : decode cX1_carryScent 182 = .ok (.dup2, 1) := by decide +kernel
theorem dX1_carryScent_183 : decode cX1_carryScent 183 = .ok (.iaload, 1) := by decide +kernel
theorem dX1_carryScent_184 : decode cX1_carryScent 184 = .ok (.iload 7, 2) := by decide +kernel
theorem dX1_carryScent_186 : decode cX1_carryScent 186 = .ok (.iadd, 1) := by decide +kernel
theorem dX1_carryScent_187 : decode cX1_carryScent 187 = .ok (.iastore, 1) := by decide +kernel
theorem dX1_carryScent_188 : decode cX1_carryScent 188 = .ok (.iinc 1 1, 3) := by decide +kernel
theorem dX1_carryScent_191 : decode cX1_carryScent 191 = .ok (.goto (-174), 3) := by decide +kernel
theorem dX1_carryScent_194 : decode cX1_carryScent 194 = .ok (.return_, 1) := by decide +kernel
theorem dX1_moveAir_0 : decode cX1_moveAir 0 = .ok (.iconst 0, 1) := by decide +kernel
theorem dX1_moveAir_1 : decode cX1_moveAir 1 = .ok (.istore_n 1, 1) := by decide +kernel
theorem dX1_moveAir_2 : decode cX1_moveAir 2 = .ok (.iload_n 1, 1) := by decide +kernel
theorem dX1_moveAir_3 : decode cX1_moveAir 3 = .ok (.aload_n 0, 1) := by decide +kernel
theorem dX1_moveAir_4 : decode cX1_moveAir 4 = .ok (.getfield 12, 3) := by decide +kernel
theorem dX1_moveAir_7 : decode cX1_moveAir 7 = .ok (.getfield 116, 3) := by decide +kernel
theorem dX1_moveAir_10 : decode cX1_moveAir 10 = .ok (.if_icmp .ge 87, 3) := by decide +kernel
theorem dX1_moveAir_13 : decode cX1_moveAir 13 = .ok (.aload_n 0, 1) := by decide +kernel
theorem dX1_moveAir_14 : decode cX1_moveAir 14 = .ok (.getfield 25, 3) := by decide +kernel
theorem dX1_moveAir_17 : decode cX1_moveAir 17 = .ok (.aload_n 0, 1) := by decide +kernel
theorem dX1_moveAir_18 : decode cX1_moveAir 18 = .ok (.getfield 12, 3) := by decide +kernel
theorem dX1_moveAir_21 : decode cX1_moveAir 21 = .ok (.getfield 105, 3) := by decide +kernel
theorem dX1_moveAir_24 : decode cX1_moveAir 24 = .ok (.iload_n 1, 1) := by decide +kernel
theorem dX1_moveAir_25 : decode cX1_moveAir 25 = .ok (.iaload, 1) := by decide +kernel
theorem dX1_moveAir_26 : decode cX1_moveAir 26 = .ok (.dup2, 1) := by decide +kernel
theorem dX1_moveAir_27 : decode cX1_moveAir 27 = .ok (.iaload, 1) := by decide +kernel
theorem dX1_moveAir_28 : decode cX1_moveAir 28 = .ok (.aload_n 0, 1) := by decide +kernel
theorem dX1_moveAir_29 : decode cX1_moveAir 29 = .ok (.getfield 39, 3) := by decide +kernel
theorem dX1_moveAir_32 : decode cX1_moveAir 32 = .ok (.iload_n 1, 1) := by decide +kernel
theorem dX1_moveAir_33 : decode cX1_moveAir 33 = .ok (.iaload, 1) := by decide +kernel
theorem dX1_moveAir_34 : decode cX1_moveAir 34 = .ok (.isub, 1) := by decide +kernel
theorem dX1_moveAir_35 : decode cX1_moveAir 35 = .ok (.iastore, 1) := by decide +kernel
theorem dX1_moveAir_36 : decode cX1_moveAir 36 = .ok (.aload_n 0, 1) := by decide +kernel
theorem dX1_moveAir_37 : decode cX1_moveAir 37 = .ok (.getfield 12, 3) := by decide +kernel
theorem dX1_moveAir_40 : decode cX1_moveAir 40 = .ok (.getfield 108, 3) := by decide +kernel
theorem dX1_moveAir_43 : decode cX1_moveAir 43 = .ok (.iload_n 1, 1) := by decide +kernel
theorem dX1_moveAir_44 : decode cX1_moveAir 44 = .ok (.iaload, 1) := by decide +kernel
theorem dX1_moveAir_45 : decode cX1_moveAir 45 = .ok (.bipush 8, 2) := by decide +kernel
theorem dX1_moveAir_47 : decode cX1_moveAir 47 = .ok (.if_icmp .ne 21, 3) := by decide +kernel
theorem dX1_moveAir_50 : decode cX1_moveAir 50 = .ok (.aload_n 0, 1) := by decide +kernel
theorem dX1_moveAir_51 : decode cX1_moveAir 51 = .ok (.dup, 1) := by decide +kernel
theorem dX1_moveAir_52 : decode cX1_moveAir 52 = .ok (.getfield 74, 3) := by decide +kernel
theorem dX1_moveAir_55 : decode cX1_moveAir 55 = .ok (.aload_n 0, 1) := by decide +kernel
theorem dX1_moveAir_56 : decode cX1_moveAir 56 = .ok (.getfield 39, 3) := by decide +kernel
theorem dX1_moveAir_59 : decode cX1_moveAir 59 = .ok (.iload_n 1, 1) := by decide +kernel
theorem dX1_moveAir_60 : decode cX1_moveAir 60 = .ok (.iaload, 1) := by decide +kernel
theorem dX1_moveAir_61 : decode cX1_moveAir 61 = .ok (.iadd, 1) := by decide +kernel
theorem dX1_moveAir_62 : decode cX1_moveAir 62 = .ok (.putfield 74, 3) := by decide +kernel
theorem dX1_moveAir_65 : decode cX1_moveAir 65 = .ok (.goto 26, 3) := by decide +kernel
theorem dX1_moveAir_68 : decode cX1_moveAir 68 = .ok (.aload_n 0, 1) := by decide +kernel
theorem dX1_moveAir_69 : decode cX1_moveAir 69 = .ok (.getfield 25, 3) := by decide +kernel
theorem dX1_moveAir_72 : decode cX1_moveAir 72 = .ok (.aload_n 0, 1) := by decide +kernel
theorem dX1_moveAir_73 : decode cX1_moveAir 73 = .ok (.getfield 12, 3) := by decide +kernel
theorem dX1_moveAir_76 : decode cX1_moveAir 76 = .ok (.getfield 108, 3) := by decide +kernel
theorem dX1_moveAir_79 : decode cX1_moveAir 79 = .ok (.iload_n 1, 1) := by decide +kernel
theorem dX1_moveAir_80 : decode cX1_moveAir 80 = .ok (.iaload, 1) := by decide +kernel
theorem dX1_moveAir_81 : decode cX1_moveAir 81 = .ok (.dup2, 1) := by decide +kernel
theorem dX1_moveAir_82 : decode cX1_moveAir 82 = .ok (.iaload, 1) := by decide +kernel
theorem dX1_moveAir_83 : decode cX1_moveAir 83 = .ok (.aload_n 0, 1) := by decide +kernel
theorem dX1_moveAir_84 : decode cX1_moveAir 84 = .ok (.getfield 39, 3) := by decide +kernel
theorem dX1_moveAir_87 : decode cX1_moveAir 87 = .ok (.iload_n 1, 1) := by decide +kernel
theorem dX1_moveAir_88 : decode cX1_moveAir 88 = .ok (.iaload, 1) := by decide +kernel
theorem dX1_moveAir_89 : decode cX1_moveAir 89 = .ok (.iadd, 1) := by decide +kernel
theorem dX1_moveAir_90 : decode cX1_moveAir 90 = .ok (.iastore, 1) := by decide +kernel
theorem dX1_moveAir_91 : decode cX1_moveAir 91 = .ok (.iinc 1 1, 3) := by decide +kernel
theorem dX1_moveAir_94 : decode cX1_moveAir 94 = .ok (.goto (-92), 3) := by decide +kernel
theorem dX1_moveAir_97 : decode cX1_moveAir 97 = .ok (.iconst 0, 1) := by decide +kernel
theorem dX1_moveAir_98 : decode cX1_moveAir 98 = .ok (.istore_n 1, 1) := by decide +kernel
theorem dX1_moveAir_99 : decode cX1_moveAir 99 = .ok (.iload_n 1, 1) := by decide +kernel
theorem dX1_moveAir_100 : decode cX1_moveAir 100 = .ok (.bipush 8, 2) := by decide +kernel
theorem dX1_moveAir_102 : decode cX1_moveAir 102 = .ok (.if_icmp .ge 32, 3) := by decide +kernel
theorem dX1_moveAir_105 : decode cX1_moveAir 105 = .ok (.aload_n 0, 1) := by decide +kernel
theorem dX1_moveAir_106 : decode cX1_moveAir 106 = .ok (.getfield 25, 3) := by decide +kernel
theorem dX1_moveAir_109 : decode cX1_moveAir 109 = .ok (.iload_n 1, 1) := by decide +kernel
theorem dX1_moveAir_110 : decode cX1_moveAir 110 = .ok (.iconst 0, 1) := by decide +kernel
theorem dX1_moveAir_111 : decode cX1_moveAir 111 = .ok (.aload_n 0, 1) := by decide +kernel
theorem dX1_moveAir_112 : decode cX1_moveAir 112 = .ok (.getfield 25, 3) := by decide +kernel
theorem dX1_moveAir_115 : decode cX1_moveAir 115 = .ok (.iload_n 1, 1) := by decide +kernel
theorem dX1_moveAir_116 : decode cX1_moveAir 116 = .ok (.iaload, 1) := by decide +kernel
theorem dX1_moveAir_117 : decode cX1_moveAir 117 = .ok (.aload_n 0, 1) := by decide +kernel
theorem dX1_moveAir_118 : decode cX1_moveAir 118 = .ok (.getfield 29, 3) := by decide +kernel
theorem dX1_moveAir_121 : decode cX1_moveAir 121 = .ok (.iload_n 1, 1) := by decide +kernel
theorem dX1_moveAir_122 : decode cX1_moveAir 122 = .ok (.iaload, 1) := by decide +kernel
theorem dX1_moveAir_123 : decode cX1_moveAir 123 = .ok (.isub, 1) := by decide +kernel
theorem dX1_moveAir_124 : decode cX1_moveAir 124 = .ok (.invokestatic 86, 3) := by decide +kernel
theorem dX1_moveAir_127 : decode cX1_moveAir 127 = .ok (.iastore, 1) := by decide +kernel
theorem dX1_moveAir_128 : decode cX1_moveAir 128 = .ok (.iinc 1 1, 3) := by decide +kernel
theorem dX1_moveAir_131 : decode cX1_moveAir 131 = .ok (.goto (-32), 3) := by decide +kernel
theorem dX1_moveAir_134 : decode cX1_moveAir 134 = .ok (.return_, 1) := by decide +kernel
theorem dX1_snuffCandles_0 : decode cX1_snuffCandles 0 = .ok (.iconst 0, 1) := by decide +kernel
theorem dX1_snuffCandles_1 : decode cX1_snuffCandles 1 = .ok (.istore_n 1, 1) := by decide +kernel
theorem dX1_snuffCandles_2 : decode cX1_snuffCandles 2 = .ok (.iload_n 1, 1) := by decide +kernel
theorem dX1_snuffCandles_3 : decode cX1_snuffCandles 3 = .ok (.bipush 8, 2) := by decide +kernel
theorem dX1_snuffCandles_5 : decode cX1_snuffCandles 5 = .ok (.if_icmp .ge 63, 3) := by decide +kernel
theorem dX1_snuffCandles_8 : decode cX1_snuffCandles 8 = .ok (.aload_n 0, 1) := by decide +kernel
theorem dX1_snuffCandles_9 : decode cX1_snuffCandles 9 = .ok (.iload_n 1, 1) := by decide +kernel
theorem dX1_snuffCandles_10 : decode cX1_snuffCandles 10 = .ok (.invokevirtual 129, 3) := by decide +kernel
theorem dX1_snuffCandles_13 : decode cX1_snuffCandles 13 = .ok (.ifCond .eq 49, 3) := by decide +kernel
theorem dX1_snuffCandles_16 : decode cX1_snuffCandles 16 = .ok (.aload_n 0, 1) := by decide +kernel
theorem dX1_snuffCandles_17 : decode cX1_snuffCandles 17 = .ok (.getfield 21, 3) := by decide +kernel
theorem dX1_snuffCandles_20 : decode cX1_snuffCandles 20 = .ok (.iconst 1, 1) := by decide +kernel
theorem dX1_snuffCandles_21 : decode cX1_snuffCandles 21 = .ok (.aload_n 0, 1) := by decide +kernel
theorem dX1_snuffCandles_22 : decode cX1_snuffCandles 22 = .ok (.getfield 29, 3) := by decide +kernel
theorem dX1_snuffCandles_25 : decode cX1_snuffCandles 25 = .ok (.iload_n 1, 1) := by decide +kernel
theorem dX1_snuffCandles_26 : decode cX1_snuffCandles 26 = .ok (.iaload, 1) := by decide +kernel
theorem dX1_snuffCandles_27 : decode cX1_snuffCandles 27 = .ok (.aload_n 0, 1) := by decide +kernel
theorem dX1_snuffCandles_28 : decode cX1_snuffCandles 28 = .ok (.getfield 32, 3) := by decide +kernel
theorem dX1_snuffCandles_31 : decode cX1_snuffCandles 31 = .ok (.iload_n 1, 1) := by decide +kernel
theorem dX1_snuffCandles_32 : decode cX1_snuffCandles 32 = .ok (.iaload, 1) := by decide +kernel
theorem dX1_snuffCandles_33 : decode cX1_snuffCandles 33 = .ok (.bipush 20, 2) := by decide +kernel
theorem dX1_snuffCandles_35 : decode cX1_snuffCandles 35 = .ok (.invokevirtual 133, 3) := by decide +kernel
theorem dX1_snuffCandles_38 : decode cX1_snuffCandles 38 = .ok (.istore_n 2, 1) := by decide +kernel
theorem dX1_snuffCandles_39 : decode cX1_snuffCandles 39 = .ok (.aload_n 0, 1) := by decide +kernel
theorem dX1_snuffCandles_40 : decode cX1_snuffCandles 40 = .ok (.getfield 42, 3) := by decide +kernel
theorem dX1_snuffCandles_43 : decode cX1_snuffCandles 43 = .ok (.iload_n 1, 1) := by decide +kernel
theorem dX1_snuffCandles_44 : decode cX1_snuffCandles 44 = .ok (.iaload, 1) := by decide +kernel
theorem dX1_snuffCandles_45 : decode cX1_snuffCandles 45 = .ok (.iload_n 2, 1) := by decide +kernel
theorem dX1_snuffCandles_46 : decode cX1_snuffCandles 46 = .ok (.iconst 0, 1) := by decide +kernel
theorem dX1_snuffCandles_47 : decode cX1_snuffCandles 47 = .ok (.sipush 999, 3) := by decide +kernel
theorem dX1_snuffCandles_50 : decode cX1_snuffCandles 50 = .ok (.invokestatic 137, 3) := by decide +kernel
theorem dX1_snuffCandles_53 : decode cX1_snuffCandles 53 = .ok (.if_icmp .le 9, 3) := by decide +kernel
theorem dX1_snuffCandles_56 : decode cX1_snuffCandles 56 = .ok (.aload_n 0, 1) := by decide +kernel
theorem dX1_snuffCandles_57 : decode cX1_snuffCandles 57 = .ok (.iload_n 1, 1) := by decide +kernel
theorem dX1_snuffCandles_58 : decode cX1_snuffCandles 58 = .ok (.iconst 0, 1) := by decide +kernel
theorem dX1_snuffCandles_59 : decode cX1_snuffCandles 59 = .ok (.invokevirtual 140, 3) := by decide +kernel
theorem dX1_snuffCandles_62 : decode cX1_snuffCandles 62 = .ok (.iinc 1 1, 3) := by decide +kernel
theorem dX1_snuffCandles_65 : decode cX1_snuffCandles 65 = .ok (.goto (-63), 3) := by decide +kernel
theorem dX1_snuffCandles_68 : decode cX1_snuffCandles 68 = .ok (.return_, 1) := by decide +kernel
theorem dX1_passMinute_0 : decode cX1_passMinute 0 = .ok (.aload_n 0, 1) := by decide +kernel
theorem dX1_passMinute_1 : decode cX1_passMinute 1 = .ok (.invokevirtual 113, 3) := by decide +kernel
theorem dX1_passMinute_4 : decode cX1_passMinute 4 = .ok (.aload_n 0, 1) := by decide +kernel
theorem dX1_passMinute_5 : decode cX1_passMinute 5 = .ok (.invokevirtual 144, 3) := by decide +kernel
theorem dX1_passMinute_8 : decode cX1_passMinute 8 = .ok (.aload_n 0, 1) := by decide +kernel
theorem dX1_passMinute_9 : decode cX1_passMinute 9 = .ok (.invokevirtual 147, 3) := by decide +kernel
theorem dX1_passMinute_12 : decode cX1_passMinute 12 = .ok (.aload_n 0, 1) := by decide +kernel
theorem dX1_passMinute_13 : decode cX1_passMinute 13 = .ok (.invokevirtual 150, 3) := by decide +kernel
theorem dX1_passMinute_16 : decode cX1_passMinute 16 = .ok (.aload_n 0, 1) := by decide +kernel
theorem dX1_passMinute_17 : decode cX1_passMinute 17 = .ok (.dup, 1) := by decide +kernel
theorem dX1_passMinute_18 : decode cX1_passMinute 18 = .ok (.getfield 77, 3) := by decide +kernel
theorem dX1_passMinute_21 : decode cX1_passMinute 21 = .ok (.iconst 1, 1) := by decide +kernel
theorem dX1_passMinute_22 : decode cX1_passMinute 22 = .ok (.iadd, 1) := by decide +kernel
theorem dX1_passMinute_23 : decode cX1_passMinute 23 = .ok (.putfield 77, 3) := by decide +kernel
theorem dX1_passMinute_26 : decode cX1_passMinute 26 = .ok (.return_, 1) := by decide +kernel
theorem dX1_draw_0 : decode cX1_draw 0 = .ok (.aload_n 0, 1) := by decide +kernel
theorem dX1_draw_1 : decode cX1_draw 1 = .ok (.aload_n 0, 1) := by decide +kernel
theorem dX1_draw_2 : decode cX1_draw 2 = .ok (.getfield 35, 3) := by decide +kernel
theorem dX1_draw_5 : decode cX1_draw 5 = .ok (.ldc 153, 2) := by decide +kernel
theorem dX1_draw_7 : decode cX1_draw 7 = .ok (.imul, 1) := by decide +kernel
theorem dX1_draw_8 : decode cX1_draw 8 = .ok (.sipush 12345, 3) := by decide +kernel
theorem dX1_draw_11 : decode cX1_draw 11 = .ok (.iadd, 1) := by decide +kernel
theorem dX1_draw_12 : decode cX1_draw 12 = .ok (.putfield 35, 3) := by decide +kernel
theorem dX1_draw_15 : decode cX1_draw 15 = .ok (.aload_n 0, 1) := by decide +kernel
theorem dX1_draw_16 : decode cX1_draw 16 = .ok (.getfield 35, 3) := by decide +kernel
theorem dX1_draw_19 : decode cX1_draw 19 = .ok (.bipush 8, 2) := by decide +kernel
theorem dX1_draw_21 : decode cX1_draw 21 = .ok (.iushr, 1) := by decide +kernel
theorem dX1_draw_22 : decode cX1_draw 22 = .ok (.ireturn, 1) := by decide +kernel
theorem dX1_drawDoor_0 : decode cX1_drawDoor 0 = .ok (.aload_n 0, 1) := by decide +kernel
theorem dX1_drawDoor_1 : decode cX1_drawDoor 1 = .ok (.invokevirtual 154, 3) := by decide +kernel
theorem dX1_drawDoor_4 : decode cX1_drawDoor 4 = .ok (.bipush 6, 2) := by decide +kernel
theorem dX1_drawDoor_6 : decode cX1_drawDoor 6 = .ok (.irem, 1) := by decide +kernel
theorem dX1_drawDoor_7 : decode cX1_drawDoor 7 = .ok (.istore_n 1, 1) := by decide +kernel
theorem dX1_drawDoor_8 : decode cX1_drawDoor 8 = .ok (.aload_n 0, 1) := by decide +kernel
theorem dX1_drawDoor_9 : decode cX1_drawDoor 9 = .ok (.invokevirtual 154, 3) := by decide +kernel
theorem dX1_drawDoor_12 : decode cX1_drawDoor 12 = .ok (.bipush 8, 2) := by decide +kernel
theorem dX1_drawDoor_14 : decode cX1_drawDoor 14 = .ok (.irem, 1) := by decide +kernel
theorem dX1_drawDoor_15 : decode cX1_drawDoor 15 = .ok (.istore_n 2, 1) := by decide +kernel
theorem dX1_drawDoor_16 : decode cX1_drawDoor 16 = .ok (.iload_n 2, 1) := by decide +kernel
theorem dX1_drawDoor_17 : decode cX1_drawDoor 17 = .ok (.iconst 1, 1) := by decide +kernel
theorem dX1_drawDoor_18 : decode cX1_drawDoor 18 = .ok (.iadd, 1) := by decide +kernel
theorem dX1_drawDoor_19 : decode cX1_drawDoor 19 = .ok (.aload_n 0, 1) := by decide +kernel
theorem dX1_drawDoor_20 : decode cX1_drawDoor 20 = .ok (.invokevirtual 154, 3) := by decide +kernel
theorem dX1_drawDoor_23 : decode cX1_drawDoor 23 = .ok (.bipush 8, 2) := by decide +kernel
theorem dX1_drawDoor_25 : decode cX1_drawDoor 25 = .ok (.irem, 1) := by decide +kernel
theorem dX1_drawDoor_26 : decode cX1_drawDoor 26 = .ok (.iadd, 1) := by decide +kernel
theorem dX1_drawDoor_27 : decode cX1_drawDoor 27 = .ok (.bipush 9, 2) := by decide +kernel
theorem dX1_drawDoor_29 : decode cX1_drawDoor 29 = .ok (.irem, 1) := by decide +kernel
theorem dX1_drawDoor_30 : decode cX1_drawDoor 30 = .ok (.istore_n 3, 1) := by decide +kernel
theorem dX1_drawDoor_31 : decode cX1_drawDoor 31 = .ok (.iconst 1, 1) := by decide +kernel
theorem dX1_drawDoor_32 : decode cX1_drawDoor 32 = .ok (.aload_n 0, 1) := by decide +kernel
theorem dX1_drawDoor_33 : decode cX1_drawDoor 33 = .ok (.invokevirtual 154, 3) := by decide +kernel
theorem dX1_drawDoor_36 : decode cX1_drawDoor 36 = .ok (.bipush 9, 2) := by decide +kernel
theorem dX1_drawDoor_38 : decode cX1_drawDoor 38 = .ok (.irem, 1) := by decide +kernel
theorem dX1_drawDoor_39 : decode cX1_drawDoor 39 = .ok (.iadd, 1) := by decide +kernel
theorem dX1_drawDoor_40 : decode cX1_drawDoor 40 = .ok (.istore 4, 2) := by decide +kernel
theorem dX1_drawDoor_42 : decode cX1_drawDoor 42 = .ok (.aload_n 0, 1) := by decide +kernel
theorem dX1_drawDoor_43 : decode cX1_drawDoor 43 = .ok (.getfield 12, 3) := by decide +kernel
theorem dX1_drawDoor_46 : decode cX1_drawDoor 46 = .ok (.aload_n 0, 1) := by decide +kernel
theorem dX1_drawDoor_47 : decode cX1_drawDoor 47 = .ok (.getfield 12, 3) := by decide +kernel
theorem dX1_drawDoor_50 : decode cX1_drawDoor 50 = .ok (.iload_n 1, 1) := by decide +kernel
theorem dX1_drawDoor_51 : decode cX1_drawDoor 51 = .ok (.iload_n 2, 1) := by decide +kernel
theorem dX1_drawDoor_52 : decode cX1_drawDoor 52 = .ok (.iload_n 3, 1) := by decide +kernel
theorem dX1_drawDoor_53 : decode cX1_drawDoor 53 = .ok (.iload 4, 2) := by decide +kernel
theorem dX1_drawDoor_55 : decode cX1_drawDoor 55 = .ok (.invokevirtual 160, 3) := by decide +kernel
theorem dX1_drawDoor_58 : decode cX1_drawDoor 58 = .ok (.iconst 1, 1) := by decide +kernel
theorem dX1_drawDoor_59 : decode cX1_drawDoor 59 = .ok (.invokevirtual 163, 3) := by decide +kernel
theorem dX1_drawDoor_62 : decode cX1_drawDoor 62 = .ok (.return_, 1) := by decide +kernel
theorem dX1_goRound_0 : decode cX1_goRound 0 = .ok (.iconst 0, 1) := by decide +kernel
theorem dX1_goRound_1 : decode cX1_goRound 1 = .ok (.istore_n 2, 1) := by decide +kernel
theorem dX1_goRound_2 : decode cX1_goRound 2 = .ok (.iload_n 2, 1) := by decide +kernel
theorem dX1_goRound_3 : decode cX1_goRound 3 = .ok (.aload_n 0, 1) := by decide +kernel
theorem dX1_goRound_4 : decode cX1_goRound 4 = .ok (.getfield 12, 3) := by decide +kernel
theorem dX1_goRound_7 : decode cX1_goRound 7 = .ok (.getfield 116, 3) := by decide +kernel
theorem dX1_goRound_10 : decode cX1_goRound 10 = .ok (.if_icmp .ge 29, 3) := by decide +kernel
theorem dX1_goRound_13 : decode cX1_goRound 13 = .ok (.aload_n 0, 1) := by decide +kernel
theorem dX1_goRound_14 : decode cX1_goRound 14 = .ok (.invokevirtual 154, 3) := by decide +kernel
theorem dX1_goRound_17 : decode cX1_goRound 17 = .ok (.bipush 100, 2) := by decide +kernel
theorem dX1_goRound_19 : decode cX1_goRound 19 = .ok (.irem, 1) := by decide +kernel
theorem dX1_goRound_20 : decode cX1_goRound 20 = .ok (.iload_n 1, 1) := by decide +kernel
theorem dX1_goRound_21 : decode cX1_goRound 21 = .ok (.if_icmp .ge 12, 3) := by decide +kernel
theorem dX1_goRound_24 : decode cX1_goRound 24 = .ok (.aload_n 0, 1) := by decide +kernel
theorem dX1_goRound_25 : decode cX1_goRound 25 = .ok (.getfield 12, 3) := by decide +kernel
theorem dX1_goRound_28 : decode cX1_goRound 28 = .ok (.iload_n 2, 1) := by decide +kernel
theorem dX1_goRound_29 : decode cX1_goRound 29 = .ok (.iconst 0, 1) := by decide +kernel
theorem dX1_goRound_30 : decode cX1_goRound 30 = .ok (.invokevirtual 163, 3) := by decide +kernel
theorem dX1_goRound_33 : decode cX1_goRound 33 = .ok (.iinc 2 1, 3) := by decide +kernel
theorem dX1_goRound_36 : decode cX1_goRound 36 = .ok (.goto (-34), 3) := by decide +kernel
theorem dX1_goRound_39 : decode cX1_goRound 39 = .ok (.return_, 1) := by decide +kernel
theorem dX2_isKind_0 : decode cX2_isKind 0 = .ok (.iload_n 0, 1) := by decide +kernel
theorem dX2_isKind_1 : decode cX2_isKind 1 = .ok (.iconst 0, 1) := by decide +kernel
theorem dX2_isKind_2 : decode cX2_isKind 2 = .ok (.iconst 5, 1) := by decide +kernel
theorem dX2_isKind_3 : decode cX2_isKind 3 = .ok (.invokestatic 9, 3) := by decide +kernel
theorem dX2_isKind_6 : decode cX2_isKind 6 = .ok (.ireturn, 1) := by decide +kernel
theorem dX2_isOf_0 : decode cX2_isOf 0 = .ok (.iload_n 0, 1) := by decide +kernel
theorem dX2_isOf_1 : decode cX2_isOf 1 = .ok (.istore_n 2, 1) := by decide +kernel
theorem dX2_isOf_2 : decode cX2_isOf 2 = .ok (.iconst 0, 1) := by decide +kernel
theorem dX2_isOf_3 : decode cX2_isOf 3 = .ok (.istore_n 3, 1) := by decide +kernel
theorem dX2_isOf_4 : decode cX2_isOf 4 = .ok (.iload_n 3, 1) := by decide +kernel
theorem dX2_isOf_5 : decode cX2_isOf 5 = .ok (.bipush 6, 2) := by decide +kernel
theorem dX2_isOf_7 : decode cX2_isOf 7 = .ok (.if_icmp .ge 27, 3) := by decide +kernel
theorem dX2_isOf_10 : decode cX2_isOf 10 = .ok (.iload_n 2, 1) := by decide +kernel
theorem dX2_isOf_11 : decode cX2_isOf 11 = .ok (.iconst (-1), 1) := by decide +kernel
theorem dX2_isOf_12 : decode cX2_isOf 12 = .ok (.if_icmp .eq 22, 3) := by decide +kernel
theorem dX2_isOf_15 : decode cX2_isOf 15 = .ok (.iload_n 2, 1) := by decide +kernel
theorem dX2_isOf_16 : decode cX2_isOf 16 = .ok (.iload_n 1, 1) := by decide +kernel
theorem dX2_isOf_17 : decode cX2_isOf 17 = .ok (.if_icmp .ne 5, 3) := by decide +kernel
theorem dX2_isOf_20 : decode cX2_isOf 20 = .ok (.iconst 1, 1) := by decide +kernel
theorem dX2_isOf_21 : decode cX2_isOf 21 = .ok (.ireturn, 1) := by decide +kernel
theorem dX2_isOf_22 : decode cX2_isOf 22 = .ok (.getstatic 15, 3) := by decide +kernel
theorem dX2_isOf_25 : decode cX2_isOf 25 = .ok (.iload_n 2, 1) := by decide +kernel
theorem dX2_isOf_26 : decode cX2_isOf 26 = .ok (.iaload, 1) := by decide +kernel
theorem dX2_isOf_27 : decode cX2_isOf 27 = .ok (.istore_n 2, 1) := by decide +kernel
theorem dX2_isOf_28 : decode cX2_isOf 28 = .ok (.iinc 3 1, 3) := by decide +kernel
theorem dX2_isOf_31 : decode cX2_isOf 31 = .ok (.goto (-27), 3) := by decide +kernel
theorem dX2_isOf_34 : decode cX2_isOf 34 = .ok (.iconst 0, 1) := by decide +kernel
theorem dX2_isOf_35 : decode cX2_isOf 35 = .ok (.ireturn, 1) := by decide +kernel
theorem dX2_letsOf_0 : decode cX2_letsOf 0 = .ok (.iload_n 1, 1) := by decide +kernel
theorem dX2_letsOf_1 : decode cX2_letsOf 1 = .ok (.iconst 2, 1) := by decide +kernel
theorem dX2_letsOf_2 : decode cX2_letsOf 2 = .ok (.idiv, 1) := by decide +kernel
theorem dX2_letsOf_3 : decode cX2_letsOf 3 = .ok (.istore 4, 2) := by decide +kernel
theorem dX2_letsOf_5 : decode cX2_letsOf 5 = .ok (.iload_n 1, 1) := by decide +kernel
theorem dX2_letsOf_6 : decode cX2_letsOf 6 = .ok (.iconst 3, 1) := by decide +kernel
theorem dX2_letsOf_7 : decode cX2_letsOf 7 = .ok (.iadd, 1) := by decide +kernel
theorem dX2_letsOf_8 : decode cX2_letsOf 8 = .ok (.istore 5, 2) := by decide +kernel
theorem dX2_letsOf_10 : decode cX2_letsOf 10 = .ok (.iload_n 0, 1) := by decide +kernel
theorem dX2_letsOf_11 : decode cX2_letsOf 11 = .ok (.tableswitch 60 1 5 #[33, 47, 36, 50, 58], 33) := by decide +kernel
theorem dX2_letsOf_44 : decode cX2_letsOf 44 = .ok (.iload 4, 2) := by decide +kernel
theorem dX2_letsOf_46 : decode cX2_letsOf 46 = .ok (.ireturn, 1) := by decide +kernel
theorem dX2_letsOf_47 : decode cX2_letsOf 47 = .ok (.iload_n 3, 1) := by decide +kernel
theorem dX2_letsOf_48 : decode cX2_letsOf 48 = .ok (.ifCond .eq 8, 3) := by decide +kernel
theorem dX2_letsOf_51 : decode cX2_letsOf 51 = .ok (.iload 4, 2) := by decide +kernel
theorem dX2_letsOf_53 : decode cX2_letsOf 53 = .ok (.goto 4, 3) := by decide +kernel
theorem dX2_letsOf_56 : decode cX2_letsOf 56 = .ok (.iconst 0, 1) := by decide +kernel
theorem dX2_letsOf_57 : decode cX2_letsOf 57 = .ok (.ireturn, 1) := by decide +kernel
theorem dX2_letsOf_58 : decode cX2_letsOf 58 = .ok (.iload 5, 2) := by decide +kernel
theorem dX2_letsOf_60 : decode cX2_letsOf 60 = .ok (.ireturn, 1) := by decide +kernel
theorem dX2_letsOf_61 : decode cX2_letsOf 61 = .ok (.bipush 10, 2) := by decide +kernel
theorem dX2_letsOf_63 : decode cX2_letsOf 63 = .ok (.iload 5, 2) := by decide +kernel
theorem dX2_letsOf_65 : decode cX2_letsOf 65 = .ok (.invokestatic 19, 3) := by decide +kernel
theorem dX2_letsOf_68 : decode cX2_letsOf 68 = .ok (.ireturn, 1) := by decide +kernel
theorem dX2_letsOf_69 : decode cX2_letsOf 69 = .ok (.iload_n 2, 1) := by decide +kernel
theorem dX2_letsOf_70 : decode cX2_letsOf 70 = .ok (.ireturn, 1) := by decide +kernel
theorem dX2_letsOf_71 : decode cX2_letsOf 71 = .ok (.iload_n 1, 1) := by decide +kernel
theorem dX2_letsOf_72 : decode cX2_letsOf 72 = .ok (.ireturn, 1) := by decide +kernel
theorem dX2_worthOf_0 : decode cX2_worthOf 0 = .ok (.iload_n 1, 1) := by decide +kernel
theorem dX2_worthOf_1 : decode cX2_worthOf 1 = .ok (.bipush 20, 2) := by decide +kernel
theorem dX2_worthOf_3 : decode cX2_worthOf 3 = .ok (.iadd, 1) := by decide +kernel
theorem dX2_worthOf_4 : decode cX2_worthOf 4 = .ok (.istore_n 2, 1) := by decide +kernel
theorem dX2_worthOf_5 : decode cX2_worthOf 5 = .ok (.bipush 30, 2) := by decide +kernel
theorem dX2_worthOf_7 : decode cX2_worthOf 7 = .ok (.iload_n 1, 1) := by decide +kernel
theorem dX2_worthOf_8 : decode cX2_worthOf 8 = .ok (.isub, 1) := by decide +kernel
theorem dX2_worthOf_9 : decode cX2_worthOf 9 = .ok (.istore_n 3, 1) := by decide +kernel
theorem dX2_worthOf_10 : decode cX2_worthOf 10 = .ok (.iload_n 0, 1) := by decide +kernel
theorem dX2_worthOf_11 : decode cX2_worthOf 11 = .ok (.tableswitch 47 1 5 #[33, 39, 35, 41, 45], 33) := by decide +kernel
theorem dX2_worthOf_44 : decode cX2_worthOf 44 = .ok (.iload_n 2, 1) := by decide +kernel
theorem dX2_worthOf_45 : decode cX2_worthOf 45 = .ok (.ireturn, 1) := by decide +kernel
theorem dX2_worthOf_46 : decode cX2_worthOf 46 = .ok (.iconst 2, 1) := by decide +kernel
theorem dX2_worthOf_47 : decode cX2_worthOf 47 = .ok (.iload_n 2, 1) := by decide +kernel
theorem dX2_worthOf_48 : decode cX2_worthOf 48 = .ok (.imul, 1) := by decide +kernel
theorem dX2_worthOf_49 : decode cX2_worthOf 49 = .ok (.ireturn, 1) := by decide +kernel
theorem dX2_worthOf_50 : decode cX2_worthOf 50 = .ok (.iload_n 3, 1) := by decide +kernel
theorem dX2_worthOf_51 : decode cX2_worthOf 51 = .ok (.ireturn, 1) := by decide +kernel
theorem dX2_worthOf_52 : decode cX2_worthOf 52 = .ok (.iload_n 3, 1) := by decide +kernel
theorem dX2_worthOf_53 : decode cX2_worthOf 53 = .ok (.iconst 5, 1) := by decide +kernel
theorem dX2_worthOf_54 : decode cX2_worthOf 54 = .ok (.isub, 1) := by decide +kernel
theorem dX2_worthOf_55 : decode cX2_worthOf 55 = .ok (.ireturn, 1) := by decide +kernel
theorem dX2_worthOf_56 : decode cX2_worthOf 56 = .ok (.iconst 2, 1) := by decide +kernel
theorem dX2_worthOf_57 : decode cX2_worthOf 57 = .ok (.ireturn, 1) := by decide +kernel
theorem dX2_worthOf_58 : decode cX2_worthOf 58 = .ok (.iload_n 1, 1) := by decide +kernel
theorem dX2_worthOf_59 : decode cX2_worthOf 59 = .ok (.ireturn, 1) := by decide +kernel
theorem dX3_init_0 : decode cX3_init 0 = .ok (.aload_n 0, 1) := by decide +kernel
theorem dX3_init_1 : decode cX3_init 1 = .ok (.invokespecial 1, 3) := by decide +kernel
theorem dX3_init_4 : decode cX3_init 4 = .ok (.aload_n 0, 1) := by decide +kernel
theorem dX3_init_5 : decode cX3_init 5 = .ok (.iload_n 1, 1) := by decide +kernel
theorem dX3_init_6 : decode cX3_init 6 = .ok (.putfield 7, 3) := by decide +kernel
theorem dX3_init_9 : decode cX3_init 9 = .ok (.aload_n 0, 1) := by decide +kernel
theorem dX3_init_10 : decode cX3_init 10 = .ok (.iload_n 2, 1) := by decide +kernel
theorem dX3_init_11 : decode cX3_init 11 = .ok (.putfield 13, 3) := by decide +kernel
theorem dX3_init_14 : decode cX3_init 14 = .ok (.aload_n 0, 1) := by decide +kernel
theorem dX3_init_15 : decode cX3_init 15 = .ok (.aload_n 3, 1) := by decide +kernel
theorem dX3_init_16 : decode cX3_init 16 = .ok (.putfield 16, 3) := by decide +kernel
theorem dX3_init_19 : decode cX3_init 19 = .ok (.return_, 1) := by decide +kernel
theorem dX3_valueWith_0 : decode cX3_valueWith 0 = .ok (.iconst 0, 1) := by decide +kernel
theorem dX3_valueWith_1 : decode cX3_valueWith 1 = .ok (.istore 4, 2) := by decide +kernel
theorem dX3_valueWith_3 : decode cX3_valueWith 3 = .ok (.iconst 0, 1) := by decide +kernel
theorem dX3_valueWith_4 : decode cX3_valueWith 4 = .ok (.istore 5, 2) := by decide +kernel
theorem dX3_valueWith_6 : decode cX3_valueWith 6 = .ok (.iload 5, 2) := by decide +kernel
theorem dX3_valueWith_8 : decode cX3_valueWith 8 = .ok (.aload_n 0, 1) := by decide +kernel
theorem dX3_valueWith_9 : decode cX3_valueWith 9 = .ok (.getfield 16, 3) := by decide +kernel
theorem dX3_valueWith_12 : decode cX3_valueWith 12 = .ok (.arraylength, 1) := by decide +kernel
theorem dX3_valueWith_13 : decode cX3_valueWith 13 = .ok (.if_icmp .ge 132, 3) := by decide +kernel
theorem dX3_valueWith_16 : decode cX3_valueWith 16 = .ok (.aload_n 0, 1) := by decide +kernel
theorem dX3_valueWith_17 : decode cX3_valueWith 17 = .ok (.getfield 16, 3) := by decide +kernel
theorem dX3_valueWith_20 : decode cX3_valueWith 20 = .ok (.iload 5, 2) := by decide +kernel
theorem dX3_valueWith_22 : decode cX3_valueWith 22 = .ok (.iaload, 1) := by decide +kernel
theorem dX3_valueWith_23 : decode cX3_valueWith 23 = .ok (.istore 6, 2) := by decide +kernel
theorem dX3_valueWith_25 : decode cX3_valueWith 25 = .ok (.iload 6, 2) := by decide +kernel
theorem dX3_valueWith_27 : decode cX3_valueWith 27 = .ok (.bipush (-2), 2) := by decide +kernel
theorem dX3_valueWith_29 : decode cX3_valueWith 29 = .ok (.if_icmp .lt 43, 3) := by decide +kernel
theorem dX3_valueWith_32 : decode cX3_valueWith 32 = .ok (.iload 4, 2) := by decide +kernel
theorem dX3_valueWith_34 : decode cX3_valueWith 34 = .ok (.aload_n 3, 1) := by decide +kernel
theorem dX3_valueWith_35 : decode cX3_valueWith 35 = .ok (.arraylength, 1) := by decide +kernel
theorem dX3_valueWith_36 : decode cX3_valueWith 36 = .ok (.if_icmp .ge 36, 3) := by decide +kernel
theorem dX3_valueWith_39 : decode cX3_valueWith 39 = .ok (.aload_n 3, 1) := by decide +kernel
theorem dX3_valueWith_40 : decode cX3_valueWith 40 = .ok (.iload 4, 2) := by decide +kernel
theorem dX3_valueWith_42 : decode cX3_valueWith 42 = .ok (.iload 6, 2) := by decide +kernel
theorem dX3_valueWith_44 : decode cX3_valueWith 44 = .ok (.iconst (-1), 1) := by decide +kernel
theorem dX3_valueWith_45 : decode cX3_valueWith 45 = .ok (.if_icmp .ne 7, 3) := by decide +kernel
theorem dX3_valueWith_48 : decode cX3_valueWith 48 = .ok (.iload_n 1, 1) := by decide +kernel
theorem dX3_valueWith_49 : decode cX3_valueWith 49 = .ok (.goto 16, 3) := by decide +kernel
theorem dX3_valueWith_52 : decode cX3_valueWith 52 = .ok (.iload 6, 2) := by decide +kernel
theorem dX3_valueWith_54 : decode cX3_valueWith 54 = .ok (.bipush (-2), 2) := by decide +kernel
theorem dX3_valueWith_56 : decode cX3_valueWith 56 = .ok (.if_icmp .ne 7, 3) := by decide +kernel
theorem dX3_valueWith_59 : decode cX3_valueWith 59 = .ok (.iload_n 2, 1) := by decide +kernel
theorem dX3_valueWith_60 : decode cX3_valueWith 60 = .ok (.goto 5, 3) := by decide +kernel
theorem dX3_valueWith_63 : decode cX3_valueWith 63 = .ok (.iload 6, 2) := by decide +kernel
theorem dX3_valueWith_65 : decode cX3_valueWith 65 = .ok (.iastore, 1) := by decide +kernel
theorem dX3_valueWith_66 : decode cX3_valueWith 66 = .ok (.iinc 4 1, 3) := by decide +kernel
theorem dX3_valueWith_69 : decode cX3_valueWith 69 = .ok (.goto 70, 3) := by decide +kernel
theorem dX3_valueWith_72 : decode cX3_valueWith 72 = .ok (.iload 6, 2) := by decide +kernel
theorem dX3_valueWith_74 : decode cX3_valueWith 74 = .ok (.bipush (-33), 2) := by decide +kernel
theorem dX3_valueWith_76 : decode cX3_valueWith 76 = .ok (.if_icmp .ne 32, 3) := by decide +kernel
theorem dX3_valueWith_79 : decode cX3_valueWith 79 = .ok (.iload 4, 2) := by decide +kernel
theorem dX3_valueWith_81 : decode cX3_valueWith 81 = .ok (.iconst 1, 1) := by decide +kernel
theorem dX3_valueWith_82 : decode cX3_valueWith 82 = .ok (.if_icmp .lt 26, 3) := by decide +kernel
theorem dX3_valueWith_85 : decode cX3_valueWith 85 = .ok (.aload_n 3, 1) := by decide +kernel
theorem dX3_valueWith_86 : decode cX3_valueWith 86 = .ok (.iload 4, 2) := by decide +kernel
theorem dX3_valueWith_88 : decode cX3_valueWith 88 = .ok (.iconst 1, 1) := by decide +kernel
theorem dX3_valueWith_89 : decode cX3_valueWith 89 = .ok (.isub, 1) := by decide +kernel
theorem dX3_valueWith_90 : decode cX3_valueWith 90 = .ok (.aload_n 3, 1) := by decide +kernel
theorem dX3_valueWith_91 : decode cX3_valueWith 91 = .ok (.iload 4, 2) := by decide +kernel
theorem dX3_valueWith_93 : decode cX3_valueWith 93 = .ok (.iconst 1, 1) := by decide +kernel
theorem dX3_valueWith_94 : decode cX3_valueWith 94 = .ok (.isub, 1) := by decide +kernel
theorem dX3_valueWith_95 : decode cX3_valueWith 95 = .ok (.iaload, 1) := by decide +kernel
theorem dX3_valueWith_96 : decode cX3_valueWith 96 = .ok (.ifCond .ne 7, 3) := by decide +kernel
theorem dX3_valueWith_99 : decode cX3_valueWith 99 = .ok (.iconst 1, 1) := by decide +kernel
theorem dX3_valueWith_100 : decode cX3_valueWith 100 = .ok (.goto 4, 3) := by decide +kernel
theorem dX3_valueWith_103 : decode cX3_valueWith 103 = .ok (.iconst 0, 1) := by decide +kernel
theorem dX3_valueWith_104 : decode cX3_valueWith 104 = .ok (.iastore, 1) := by decide +kernel
theorem dX3_valueWith_105 : decode cX3_valueWith 105 = .ok (.goto 34, 3) := by decide +kernel
theorem dX3_valueWith_108 : decode cX3_valueWith 108 = .ok (.iload 4, 2) := by decide +kernel
theorem dX3_valueWith_110 : decode cX3_valueWith 110 = .ok (.iconst 2, 1) := by decide +kernel
theorem dX3_valueWith_111 : decode cX3_valueWith 111 = .ok (.if_icmp .lt 28, 3) := by decide +kernel
theorem dX3_valueWith_114 : decode cX3_valueWith 114 = .ok (.iinc 4 (-1), 3) := by decide +kernel
theorem dX3_valueWith_117 : decode cX3_valueWith 117 = .ok (.aload_n 3, 1) := by decide +kernel
theorem dX3_valueWith_118 : decode cX3_valueWith 118 = .ok (.iload 4, 2) := by decide +kernel
theorem dX3_valueWith_120 : decode cX3_valueWith 120 = .ok (.iconst 1, 1) := by decide +kernel
theorem dX3_valueWith_121 : decode cX3_valueWith 121 = .ok (.isub, 1) := by decide +kernel
theorem dX3_valueWith_122 : decode cX3_valueWith 122 = .ok (.iload 6, 2) := by decide +kernel
theorem dX3_valueWith_124 : decode cX3_valueWith 124 = .ok (.ineg, 1) := by decide +kernel
theorem dX3_valueWith_125 : decode cX3_valueWith 125 = .ok (.aload_n 3, 1) := by decide +kernel
theorem dX3_valueWith_126 : decode cX3_valueWith 126 = .ok (.iload 4, 2) := by decide +kernel
theorem dX3_valueWith_128 : decode cX3_valueWith 128 = .ok (.iconst 1, 1) := by decide +kernel
theorem dX3_valueWith_129 : decode cX3_valueWith 129 = .ok (.isub, 1) := by decide +kernel
theorem dX3_valueWith_130 : decode cX3_valueWith 130 = .ok (.iaload, 1) := by decide +kernel
theorem dX3_valueWith_131 : decode cX3_valueWith 131 = .ok (.aload_n 3, 1) := by decide +kernel
theorem dX3_valueWith_132 : decode cX3_valueWith 132 = .ok (.iload 4, 2) := by decide +kernel
theorem dX3_valueWith_134 : decode cX3_valueWith 134 = .ok (.iaload, 1) := by decide +kernel
theorem dX3_valueWith_135 : decode cX3_valueWith 135 = .ok (.invokestatic 20, 3) := by decide +kernel
theorem dX3_valueWith_138 : decode cX3_valueWith 138 = .ok (.iastore, 1) := by decide +kernel
theorem dX3_valueWith_139 : decode cX3_valueWith 139 = .ok (.iinc 5 1, 3) := by decide +kernel
theorem dX3_valueWith_142 : decode cX3_valueWith 142 = .ok (.goto (-136), 3) := by decide +kernel
theorem dX3_valueWith_145 : decode cX3_valueWith 145 = .ok (.aload_n 3, 1) := by decide +kernel
theorem dX3_valueWith_146 : decode cX3_valueWith 146 = .ok (.iconst 0, 1) := by decide +kernel
theorem dX3_valueWith_147 : decode cX3_valueWith 147 = .ok (.iaload, 1) := by decide +kernel
theorem dX3_valueWith_148 : decode cX3_valueWith 148 = .ok (.ireturn, 1) := by decide +kernel
theorem dX3_joined_0 : decode cX3_joined 0 = .ok (.iload_n 0, 1) := by decide +kernel
theorem dX3_joined_1 : decode cX3_joined 1 = .ok (.tableswitch 186 38 62 #[172, 186, 186, 186, 123, 115, 186, 119, 186, 127, 186, 186, 186, 186, 186, 186, 186, 186, 186, 186, 186, 186, 139, 150, 161], 115) := by decide +kernel
theorem dX3_joined_116 : decode cX3_joined 116 = .ok (.iload_n 1, 1) := by decide +kernel
theorem dX3_joined_117 : decode cX3_joined 117 = .ok (.iload_n 2, 1) := by decide +kernel
theorem dX3_joined_118 : decode cX3_joined 118 = .ok (.iadd, 1) := by decide +kernel
theorem dX3_joined_119 : decode cX3_joined 119 = .ok (.ireturn, 1) := by decide +kernel
theorem dX3_joined_120 : decode cX3_joined 120 = .ok (.iload_n 1, 1) := by decide +kernel
theorem dX3_joined_121 : decode cX3_joined 121 = .ok (.iload_n 2, 1) := by decide +kernel
theorem dX3_joined_122 : decode cX3_joined 122 = .ok (.isub, 1) := by decide +kernel
theorem dX3_joined_123 : decode cX3_joined 123 = .ok (.ireturn, 1) := by decide +kernel
theorem dX3_joined_124 : decode cX3_joined 124 = .ok (.iload_n 1, 1) := by decide +kernel
theorem dX3_joined_125 : decode cX3_joined 125 = .ok (.iload_n 2, 1) := by decide +kernel
theorem dX3_joined_126 : decode cX3_joined 126 = .ok (.imul, 1) := by decide +kernel
theorem dX3_joined_127 : decode cX3_joined 127 = .ok (.ireturn, 1) := by decide +kernel
theorem dX3_joined_128 : decode cX3_joined 128 = .ok (.iload_n 2, 1) := by decide +kernel
theorem dX3_joined_129 : decode cX3_joined 129 = .ok (.ifCond .ne 7, 3) := by decide +kernel
theorem dX3_joined_132 : decode cX3_joined 132 = .ok (.iconst 0, 1) := by decide +kernel
theorem dX3_joined_133 : decode cX3_joined 133 = .ok (.goto 6, 3) := by decide +kernel
theorem dX3_joined_136 : decode cX3_joined 136 = .ok (.iload_n 1, 1) := by decide +kernel
theorem dX3_joined_137 : decode cX3_joined 137 = .ok (.iload_n 2, 1) := by decide +kernel
theorem dX3_joined_138 : decode cX3_joined 138 = .ok (.idiv, 1) := by decide +kernel
theorem dX3_joined_139 : decode cX3_joined 139 = .ok (.ireturn, 1) := by decide +kernel
theorem dX3_joined_140 : decode cX3_joined 140 = .ok (.iload_n 1, 1) := by decide +kernel
theorem dX3_joined_141 : decode cX3_joined 141 = .ok (.iload_n 2, 1) := by decide +kernel
theorem dX3_joined_142 : decode cX3_joined 142 = .ok (.if_icmp .ge 7, 3) := by decide +kernel
theorem dX3_joined_145 : decode cX3_joined 145 = .ok (.iconst 1, 1) := by decide +kernel
theorem dX3_joined_146 : decode cX3_joined 146 = .ok (.goto 4, 3) := by decide +kernel
theorem dX3_joined_149 : decode cX3_joined 149 = .ok (.iconst 0, 1) := by decide +kernel
theorem dX3_joined_150 : decode cX3_joined 150 = .ok (.ireturn, 1) := by decide +kernel
theorem dX3_joined_151 : decode cX3_joined 151 = .ok (.iload_n 1, 1) := by decide +kernel
theorem dX3_joined_152 : decode cX3_joined 152 = .ok (.iload_n 2, 1) := by decide +kernel
theorem dX3_joined_153 : decode cX3_joined 153 = .ok (.if_icmp .ne 7, 3) := by decide +kernel
theorem dX3_joined_156 : decode cX3_joined 156 = .ok (.iconst 1, 1) := by decide +kernel
theorem dX3_joined_157 : decode cX3_joined 157 = .ok (.goto 4, 3) := by decide +kernel
theorem dX3_joined_160 : decode cX3_joined 160 = .ok (.iconst 0, 1) := by decide +kernel
theorem dX3_joined_161 : decode cX3_joined 161 = .ok (.ireturn, 1) := by decide +kernel
theorem dX3_joined_162 : decode cX3_joined 162 = .ok (.iload_n 1, 1) := by decide +kernel
theorem dX3_joined_163 : decode cX3_joined 163 = .ok (.iload_n 2, 1) := by decide +kernel
theorem dX3_joined_164 : decode cX3_joined 164 = .ok (.if_icmp .le 7, 3) := by decide +kernel
theorem dX3_joined_167 : decode cX3_joined 167 = .ok (.iconst 1, 1) := by decide +kernel
theorem dX3_joined_168 : decode cX3_joined 168 = .ok (.goto 4, 3) := by decide +kernel
theorem dX3_joined_171 : decode cX3_joined 171 = .ok (.iconst 0, 1) := by decide +kernel
theorem dX3_joined_172 : decode cX3_joined 172 = .ok (.ireturn, 1) := by decide +kernel
theorem dX3_joined_173 : decode cX3_joined 173 = .ok (.iload_n 1, 1) := by decide +kernel
theorem dX3_joined_174 : decode cX3_joined 174 = .ok (.ifCond .eq 11, 3) := by decide +kernel
theorem dX3_joined_177 : decode cX3_joined 177 = .ok (.iload_n 2, 1) := by decide +kernel
theorem dX3_joined_178 : decode cX3_joined 178 = .ok (.ifCond .eq 7, 3) := by decide +kernel
theorem dX3_joined_181 : decode cX3_joined 181 = .ok (.iconst 1, 1) := by decide +kernel
theorem dX3_joined_182 : decode cX3_joined 182 = .ok (.goto 4, 3) := by decide +kernel
theorem dX3_joined_185 : decode cX3_joined 185 = .ok (.iconst 0, 1) := by decide +kernel
theorem dX3_joined_186 : decode cX3_joined 186 = .ok (.ireturn, 1) := by decide +kernel
theorem dX3_joined_187 : decode cX3_joined 187 = .ok (.iload_n 1, 1) := by decide +kernel
theorem dX3_joined_188 : decode cX3_joined 188 = .ok (.ifCond .ne 7, 3) := by decide +kernel
theorem dX3_joined_191 : decode cX3_joined 191 = .ok (.iload_n 2, 1) := by decide +kernel
theorem dX3_joined_192 : decode cX3_joined 192 = .ok (.ifCond .eq 7, 3) := by decide +kernel
theorem dX3_joined_195 : decode cX3_joined 195 = .ok (.iconst 1, 1) := by decide +kernel
theorem dX3_joined_196 : decode cX3_joined 196 = .ok (.goto 4, 3) := by decide +kernel
theorem dX3_joined_199 : decode cX3_joined 199 = .ok (.iconst 0, 1) := by decide +kernel
theorem dX3_joined_200 : decode cX3_joined 200 = .ok (.ireturn, 1) := by decide +kernel
theorem dX5_init_0 : decode cX5_init 0 = .ok (.aload_n 0, 1) := by decide +kernel
theorem dX5_init_1 : decode cX5_init 1 = .ok (.invokespecial 9, 3) := by decide +kernel
theorem dX5_init_4 : decode cX5_init 4 = .ok (.aload_n 0, 1) := by decide +kernel
theorem dX5_init_5 : decode cX5_init 5 = .ok (.iconst 3, 1) := by decide +kernel
theorem dX5_init_6 : decode cX5_init 6 = .ok (.newarray .int, 2) := by decide +kernel
theorem dX5_init_8 : decode cX5_init 8 = .ok (.dup, 1) := by decide +kernel
theorem dX5_init_9 : decode cX5_init 9 = .ok (.iconst 0, 1) := by decide +kernel
theorem dX5_init_10 : decode cX5_init 10 = .ok (.ldc 15, 2) := by decide +kernel
theorem dX5_init_12 : decode cX5_init 12 = .ok (.iastore, 1) := by decide +kernel
theorem dX5_init_13 : decode cX5_init 13 = .ok (.dup, 1) := by decide +kernel
theorem dX5_init_14 : decode cX5_init 14 = .ok (.iconst 1, 1) := by decide +kernel
theorem dX5_init_15 : decode cX5_init 15 = .ok (.ldc 15, 2) := by decide +kernel
theorem dX5_init_17 : decode cX5_init 17 = .ok (.iastore, 1) := by decide +kernel
theorem dX5_init_18 : decode cX5_init 18 = .ok (.dup, 1) := by decide +kernel
theorem dX5_init_19 : decode cX5_init 19 = .ok (.iconst 2, 1) := by decide +kernel
theorem dX5_init_20 : decode cX5_init 20 = .ok (.ldc 15, 2) := by decide +kernel
theorem dX5_init_22 : decode cX5_init 22 = .ok (.iastore, 1) := by decide +kernel
theorem dX5_init_23 : decode cX5_init 23 = .ok (.putfield 16, 3) := by decide +kernel
theorem dX5_init_26 : decode cX5_init 26 = .ok (.aload_n 0, 1) := by decide +kernel
theorem dX5_init_27 : decode cX5_init 27 = .ok (.bipush 14, 2) := by decide +kernel
theorem dX5_init_29 : decode cX5_init 29 = .ok (.anewarray 20, 3) := by decide +kernel
theorem dX5_init_32 : decode cX5_init 32 = .ok (.putfield 22, 3) := by decide +kernel
theorem dX5_init_35 : decode cX5_init 35 = .ok (.aload_n 0, 1) := by decide +kernel
theorem dX5_init_36 : decode cX5_init 36 = .ok (.bipush 120, 2) := by decide +kernel
theorem dX5_init_38 : decode cX5_init 38 = .ok (.newarray .int, 2) := by decide +kernel
theorem dX5_init_40 : decode cX5_init 40 = .ok (.putfield 26, 3) := by decide +kernel
theorem dX5_init_43 : decode cX5_init 43 = .ok (.aload_n 0, 1) := by decide +kernel
theorem dX5_init_44 : decode cX5_init 44 = .ok (.bipush 96, 2) := by decide +kernel
theorem dX5_init_46 : decode cX5_init 46 = .ok (.newarray .int, 2) := by decide +kernel
theorem dX5_init_48 : decode cX5_init 48 = .ok (.putfield 29, 3) := by decide +kernel
theorem dX5_init_51 : decode cX5_init 51 = .ok (.aload_n 0, 1) := by decide +kernel
theorem dX5_init_52 : decode cX5_init 52 = .ok (.invokevirtual 32, 3) := by decide +kernel
theorem dX5_init_55 : decode cX5_init 55 = .ok (.return_, 1) := by decide +kernel
theorem dX5_takeFrom_0 : decode cX5_takeFrom 0 = .ok (.aload_n 0, 1) := by decide +kernel
theorem dX5_takeFrom_1 : decode cX5_takeFrom 1 = .ok (.aload_n 1, 1) := by decide +kernel
theorem dX5_takeFrom_2 : decode cX5_takeFrom 2 = .ok (.getfield 35, 3) := by decide +kernel
theorem dX5_takeFrom_5 : decode cX5_takeFrom 5 = .ok (.putfield 35, 3) := by decide +kernel
theorem dX5_takeFrom_8 : decode cX5_takeFrom 8 = .ok (.iconst 0, 1) := by decide +kernel
theorem dX5_takeFrom_9 : decode cX5_takeFrom 9 = .ok (.istore_n 2, 1) := by decide +kernel
theorem dX5_takeFrom_10 : decode cX5_takeFrom 10 = .ok (.iload_n 2, 1) := by decide +kernel
theorem dX5_takeFrom_11 : decode cX5_takeFrom 11 = .ok (.bipush 14, 2) := by decide +kernel
theorem dX5_takeFrom_13 : decode cX5_takeFrom 13 = .ok (.if_icmp .ge 21, 3) := by decide +kernel
theorem dX5_takeFrom_16 : decode cX5_takeFrom 16 = .ok (.aload_n 0, 1) := by decide +kernel
theorem dX5_takeFrom_17 : decode cX5_takeFrom 17 = .ok (.getfield 22, 3) := by decide +kernel
theorem dX5_takeFrom_20 : decode cX5_takeFrom 20 = .ok (.iload_n 2, 1) := by decide +kernel
theorem dX5_takeFrom_21 : decode cX5_takeFrom 21 = .ok (.aload_n 1, 1) := by decide +kernel
theorem dX5_takeFrom_22 : decode cX5_takeFrom 22 = .ok (.getfield 22, 3) := by decide +kernel
theorem dX5_takeFrom_25 : decode cX5_takeFrom 25 = .ok (.iload_n 2, 1) := by decide +kernel
theorem dX5_takeFrom_26 : decode cX5_takeFrom 26 = .ok (.aaload, 1) := by decide +kernel
theorem dX5_takeFrom_27 : decode cX5_takeFrom 27 = .ok (.aastore, 1) := by decide +kernel
theorem dX5_takeFrom_28 : decode cX5_takeFrom 28 = .ok (.iinc 2 1, 3) := by decide +kernel
theorem dX5_takeFrom_31 : decode cX5_takeFrom 31 = .ok (.goto (-21), 3) := by decide +kernel
theorem dX5_takeFrom_34 : decode cX5_takeFrom 34 = .ok (.aload_n 1, 1) := by decide +kernel
theorem dX5_takeFrom_35 : decode cX5_takeFrom 35 = .ok (.getfield 16, 3) := by decide +kernel
theorem dX5_takeFrom_38 : decode cX5_takeFrom 38 = .ok (.iconst 0, 1) := by decide +kernel
theorem dX5_takeFrom_39 : decode cX5_takeFrom 39 = .ok (.aload_n 0, 1) := by decide +kernel
theorem dX5_takeFrom_40 : decode cX5_takeFrom 40 = .ok (.getfield 16, 3) := by decide +kernel
theorem dX5_takeFrom_43 : decode cX5_takeFrom 43 = .ok (.iconst 0, 1) := by decide +kernel
theorem dX5_takeFrom_44 : decode cX5_takeFrom 44 = .ok (.iconst 3, 1) := by decide +kernel
theorem dX5_takeFrom_45 : decode cX5_takeFrom 45 = .ok (.invokestatic 39, 3) := by decide +kernel
theorem dX5_takeFrom_48 : decode cX5_takeFrom 48 = .ok (.aload_n 1, 1) := by decide +kernel
theorem dX5_takeFrom_49 : decode cX5_takeFrom 49 = .ok (.getfield 26, 3) := by decide +kernel
theorem dX5_takeFrom_52 : decode cX5_takeFrom 52 = .ok (.iconst 0, 1) := by decide +kernel
theorem dX5_takeFrom_53 : decode cX5_takeFrom 53 = .ok (.aload_n 0, 1) := by decide +kernel
theorem dX5_takeFrom_54 : decode cX5_takeFrom 54 = .ok (.getfield 26, 3) := by decide +kernel
theorem dX5_takeFrom_57 : decode cX5_takeFrom 57 = .ok (.iconst 0, 1) := by decide +kernel
theorem dX5_takeFrom_58 : decode cX5_takeFrom 58 = .ok (.bipush 120, 2) := by decide +kernel
theorem dX5_takeFrom_60 : decode cX5_takeFrom 60 = .ok (.invokestatic 39, 3) := by decide +kernel
theorem dX5_takeFrom_63 : decode cX5_takeFrom 63 = .ok (.return_, 1) := by decide +kernel
theorem dX5_add_0 : decode cX5_add 0 = .ok (.aload_n 0, 1) := by decide +kernel
theorem dX5_add_1 : decode cX5_add 1 = .ok (.getfield 35, 3) := by decide +kernel
theorem dX5_add_4 : decode cX5_add 4 = .ok (.istore_n 2, 1) := by decide +kernel
theorem dX5_add_5 : decode cX5_add 5 = .ok (.aload_n 0, 1) := by decide +kernel
theorem dX5_add_6 : decode cX5_add 6 = .ok (.getfield 22, 3) := by decide +kernel
theorem dX5_add_9 : decode cX5_add 9 = .ok (.iload_n 2, 1) := by decide +kernel
theorem dX5_add_10 : decode cX5_add 10 = .ok (.aload_n 1, 1) := by decide +kernel
theorem dX5_add_11 : decode cX5_add 11 = .ok (.aastore, 1) := by decide +kernel
theorem dX5_add_12 : decode cX5_add 12 = .ok (.aload_n 0, 1) := by decide +kernel
theorem dX5_add_13 : decode cX5_add 13 = .ok (.getfield 16, 3) := by decide +kernel
theorem dX5_add_16 : decode cX5_add 16 = .ok (.aload_n 1, 1) := by decide +kernel
theorem dX5_add_17 : decode cX5_add 17 = .ok (.getfield 45, 3) := by decide +kernel
theorem dX5_add_20 : decode cX5_add 20 = .ok (.iload_n 2, 1) := by decide +kernel
theorem dX5_add_21 : decode cX5_add 21 = .ok (.iastore, 1) := by decide +kernel
theorem dX5_add_22 : decode cX5_add 22 = .ok (.aload_n 0, 1) := by decide +kernel
theorem dX5_add_23 : decode cX5_add 23 = .ok (.dup, 1) := by decide +kernel
theorem dX5_add_24 : decode cX5_add 24 = .ok (.getfield 35, 3) := by decide +kernel
theorem dX5_add_27 : decode cX5_add 27 = .ok (.iconst 1, 1) := by decide +kernel
theorem dX5_add_28 : decode cX5_add 28 = .ok (.iadd, 1) := by decide +kernel
theorem dX5_add_29 : decode cX5_add 29 = .ok (.putfield 35, 3) := by decide +kernel
theorem dX5_add_32 : decode cX5_add 32 = .ok (.aload_n 1, 1) := by decide +kernel
theorem dX5_add_33 : decode cX5_add 33 = .ok (.getfield 45, 3) := by decide +kernel
theorem dX5_add_36 : decode cX5_add 36 = .ok (.ifCond .ne 7, 3) := by decide +kernel
theorem dX5_add_39 : decode cX5_add 39 = .ok (.aload_n 0, 1) := by decide +kernel
theorem dX5_add_40 : decode cX5_add 40 = .ok (.invokevirtual 32, 3) := by decide +kernel
theorem dX5_add_43 : decode cX5_add 43 = .ok (.iload_n 2, 1) := by decide +kernel
theorem dX5_add_44 : decode cX5_add 44 = .ok (.ireturn, 1) := by decide +kernel
theorem dX5_lawAt_0 : decode cX5_lawAt 0 = .ok (.iload_n 1, 1) := by decide +kernel
theorem dX5_lawAt_1 : decode cX5_lawAt 1 = .ok (.iconst 0, 1) := by decide +kernel
theorem dX5_lawAt_2 : decode cX5_lawAt 2 = .ok (.aload_n 0, 1) := by decide +kernel
theorem dX5_lawAt_3 : decode cX5_lawAt 3 = .ok (.getfield 35, 3) := by decide +kernel
theorem dX5_lawAt_6 : decode cX5_lawAt 6 = .ok (.iconst 1, 1) := by decide +kernel
theorem dX5_lawAt_7 : decode cX5_lawAt 7 = .ok (.isub, 1) := by decide +kernel
theorem dX5_lawAt_8 : decode cX5_lawAt 8 = .ok (.invokestatic 48, 3) := by decide +kernel
theorem dX5_lawAt_11 : decode cX5_lawAt 11 = .ok (.ifCond .eq 12, 3) := by decide +kernel
theorem dX5_lawAt_14 : decode cX5_lawAt 14 = .ok (.aload_n 0, 1) := by decide +kernel
theorem dX5_lawAt_15 : decode cX5_lawAt 15 = .ok (.getfield 22, 3) := by decide +kernel
theorem dX5_lawAt_18 : decode cX5_lawAt 18 = .ok (.iload_n 1, 1) := by decide +kernel
theorem dX5_lawAt_19 : decode cX5_lawAt 19 = .ok (.aaload, 1) := by decide +kernel
theorem dX5_lawAt_20 : decode cX5_lawAt 20 = .ok (.goto 4, 3) := by decide +kernel
theorem dX5_lawAt_23 : decode cX5_lawAt 23 = .ok (.aconst_null, 1) := by decide +kernel
theorem dX5_lawAt_24 : decode cX5_lawAt 24 = .ok (.areturn, 1) := by decide +kernel
theorem dX5_valueOf_0 : decode cX5_valueOf 0 = .ok (.aload_n 0, 1) := by decide +kernel
theorem dX5_valueOf_1 : decode cX5_valueOf 1 = .ok (.aload_n 0, 1) := by decide +kernel
theorem dX5_valueOf_2 : decode cX5_valueOf 2 = .ok (.getfield 16, 3) := by decide +kernel
theorem dX5_valueOf_5 : decode cX5_valueOf 5 = .ok (.iload_n 1, 1) := by decide +kernel
theorem dX5_valueOf_6 : decode cX5_valueOf 6 = .ok (.iaload, 1) := by decide +kernel
theorem dX5_valueOf_7 : decode cX5_valueOf 7 = .ok (.invokevirtual 52, 3) := by decide +kernel
theorem dX5_valueOf_10 : decode cX5_valueOf 10 = .ok (.astore 5, 2) := by decide +kernel
theorem dX5_valueOf_12 : decode cX5_valueOf 12 = .ok (.aload 5, 2) := by decide +kernel
theorem dX5_valueOf_14 : decode cX5_valueOf 14 = .ok (.ifnonnull 8, 3) := by decide +kernel
theorem dX5_valueOf_17 : decode cX5_valueOf 17 = .ok (.iload 4, 2) := by decide +kernel
theorem dX5_valueOf_19 : decode cX5_valueOf 19 = .ok (.goto 14, 3) := by decide +kernel
theorem dX5_valueOf_22 : decode cX5_valueOf 22 = .ok (.aload 5, 2) := by decide +kernel
theorem dX5_valueOf_24 : decode cX5_valueOf 24 = .ok (.iload_n 2, 1) := by decide +kernel
theorem dX5_valueOf_25 : decode cX5_valueOf 25 = .ok (.iload_n 3, 1) := by decide +kernel
theorem dX5_valueOf_26 : decode cX5_valueOf 26 = .ok (.aload_n 0, 1) := by decide +kernel
theorem dX5_valueOf_27 : decode cX5_valueOf 27 = .ok (.getfield 29, 3) := by decide +kernel
theorem dX5_valueOf_30 : decode cX5_valueOf 30 = .ok (.invokevirtual 56, 3) := by decide +kernel
theorem dX5_valueOf_33 : decode cX5_valueOf 33 = .ok (.ireturn, 1) := by decide +kernel
theorem dX5_letsOf_0 : decode cX5_letsOf 0 = .ok (.aload_n 0, 1) := by decide +kernel
theorem dX5_letsOf_1 : decode cX5_letsOf 1 = .ok (.getfield 26, 3) := by decide +kernel
theorem dX5_letsOf_4 : decode cX5_letsOf 4 = .ok (.iload_n 1, 1) := by decide +kernel
theorem dX5_letsOf_5 : decode cX5_letsOf 5 = .ok (.bipush 10, 2) := by decide +kernel
theorem dX5_letsOf_7 : decode cX5_letsOf 7 = .ok (.imul, 1) := by decide +kernel
theorem dX5_letsOf_8 : decode cX5_letsOf 8 = .ok (.iload_n 2, 1) := by decide +kernel
theorem dX5_letsOf_9 : decode cX5_letsOf 9 = .ok (.iadd, 1) := by decide +kernel
theorem dX5_letsOf_10 : decode cX5_letsOf 10 = .ok (.iconst 2, 1) := by decide +kernel
theorem dX5_letsOf_11 : decode cX5_letsOf 11 = .ok (.imul, 1) := by decide +kernel
theorem dX5_letsOf_12 : decode cX5_letsOf 12 = .ok (.iload_n 3, 1) := by decide +kernel
theorem dX5_letsOf_13 : decode cX5_letsOf 13 = .ok (.iadd, 1) := by decide +kernel
theorem dX5_letsOf_14 : decode cX5_letsOf 14 = .ok (.iaload, 1) := by decide +kernel
theorem dX5_letsOf_15 : decode cX5_letsOf 15 = .ok (.ireturn, 1) := by decide +kernel
theorem dX5_workOutLets_0 : decode cX5_workOutLets 0 = .ok (.iconst 1, 1) := by decide +kernel
theorem dX5_workOutLets_1 : decode cX5_workOutLets 1 = .ok (.istore_n 1, 1) := by decide +kernel
theorem dX5_workOutLets_2 : decode cX5_workOutLets 2 = .ok (.iload_n 1, 1) := by decide +kernel
theorem dX5_workOutLets_3 : decode cX5_workOutLets 3 = .ok (.bipush 10, 2) := by decide +kernel
theorem dX5_workOutLets_5 : decode cX5_workOutLets 5 = .ok (.if_icmp .ge 91, 3) := by decide +kernel
theorem dX5_workOutLets_8 : decode cX5_workOutLets 8 = .ok (.iconst 0, 1) := by decide +kernel
theorem dX5_workOutLets_9 : decode cX5_workOutLets 9 = .ok (.istore_n 2, 1) := by decide +kernel
theorem dX5_workOutLets_10 : decode cX5_workOutLets 10 = .ok (.iload_n 2, 1) := by decide +kernel
theorem dX5_workOutLets_11 : decode cX5_workOutLets 11 = .ok (.iconst 1, 1) := by decide +kernel
theorem dX5_workOutLets_12 : decode cX5_workOutLets 12 = .ok (.if_icmp .gt 78, 3) := by decide +kernel
theorem dX5_workOutLets_15 : decode cX5_workOutLets 15 = .ok (.aload_n 0, 1) := by decide +kernel
theorem dX5_workOutLets_16 : decode cX5_workOutLets 16 = .ok (.iconst 0, 1) := by decide +kernel
theorem dX5_workOutLets_17 : decode cX5_workOutLets 17 = .ok (.iload_n 1, 1) := by decide +kernel
theorem dX5_workOutLets_18 : decode cX5_workOutLets 18 = .ok (.iload_n 2, 1) := by decide +kernel
theorem dX5_workOutLets_19 : decode cX5_workOutLets 19 = .ok (.bipush 6, 2) := by decide +kernel
theorem dX5_workOutLets_21 : decode cX5_workOutLets 21 = .ok (.iload_n 1, 1) := by decide +kernel
theorem dX5_workOutLets_22 : decode cX5_workOutLets 22 = .ok (.imul, 1) := by decide +kernel
theorem dX5_workOutLets_23 : decode cX5_workOutLets 23 = .ok (.iload_n 2, 1) := by decide +kernel
theorem dX5_workOutLets_24 : decode cX5_workOutLets 24 = .ok (.imul, 1) := by decide +kernel
theorem dX5_workOutLets_25 : decode cX5_workOutLets 25 = .ok (.invokevirtual 60, 3) := by decide +kernel
theorem dX5_workOutLets_28 : decode cX5_workOutLets 28 = .ok (.iconst 0, 1) := by decide +kernel
theorem dX5_workOutLets_29 : decode cX5_workOutLets 29 = .ok (.bipush 60, 2) := by decide +kernel
theorem dX5_workOutLets_31 : decode cX5_workOutLets 31 = .ok (.invokestatic 64, 3) := by decide +kernel
theorem dX5_workOutLets_34 : decode cX5_workOutLets 34 = .ok (.istore_n 3, 1) := by decide +kernel
theorem dX5_workOutLets_35 : decode cX5_workOutLets 35 = .ok (.iconst 0, 1) := by decide +kernel
theorem dX5_workOutLets_36 : decode cX5_workOutLets 36 = .ok (.istore 4, 2) := by decide +kernel
theorem dX5_workOutLets_38 : decode cX5_workOutLets 38 = .ok (.iload 4, 2) := by decide +kernel
theorem dX5_workOutLets_40 : decode cX5_workOutLets 40 = .ok (.bipush 6, 2) := by decide +kernel
theorem dX5_workOutLets_42 : decode cX5_workOutLets 42 = .ok (.if_icmp .ge 42, 3) := by decide +kernel
theorem dX5_workOutLets_45 : decode cX5_workOutLets 45 = .ok (.aload_n 0, 1) := by decide +kernel
theorem dX5_workOutLets_46 : decode cX5_workOutLets 46 = .ok (.getfield 26, 3) := by decide +kernel
theorem dX5_workOutLets_49 : decode cX5_workOutLets 49 = .ok (.iload 4, 2) := by decide +kernel
theorem dX5_workOutLets_51 : decode cX5_workOutLets 51 = .ok (.bipush 10, 2) := by decide +kernel
theorem dX5_workOutLets_53 : decode cX5_workOutLets 53 = .ok (.imul, 1) := by decide +kernel
theorem dX5_workOutLets_54 : decode cX5_workOutLets 54 = .ok (.iload_n 1, 1) := by decide +kernel
theorem dX5_workOutLets_55 : decode cX5_workOutLets 55 = .ok (.iadd, 1) := by decide +kernel
theorem dX5_workOutLets_56 : decode cX5_workOutLets 56 = .ok (.iconst 2, 1) := by decide +kernel
theorem dX5_workOutLets_57 : decode cX5_workOutLets 57 = .ok (.imul, 1) := by decide +kernel
theorem dX5_workOutLets_58 : decode cX5_workOutLets 58 = .ok (.iload_n 2, 1) := by decide +kernel
theorem dX5_workOutLets_59 : decode cX5_workOutLets 59 = .ok (.iadd, 1) := by decide +kernel
theorem dX5_workOutLets_60 : decode cX5_workOutLets 60 = .ok (.iload 4, 2) := by decide +kernel
theorem dX5_workOutLets_62 : decode cX5_workOutLets 62 = .ok (.iload_n 3, 1) := by decide +kernel
theorem dX5_workOutLets_63 : decode cX5_workOutLets 63 = .ok (.iload_n 1, 1) := by decide +kernel
theorem dX5_workOutLets_64 : decode cX5_workOutLets 64 = .ok (.iload_n 2, 1) := by decide +kernel
theorem dX5_workOutLets_65 : decode cX5_workOutLets 65 = .ok (.iconst 1, 1) := by decide +kernel
theorem dX5_workOutLets_66 : decode cX5_workOutLets 66 = .ok (.if_icmp .ne 7, 3) := by decide +kernel
theorem dX5_workOutLets_69 : decode cX5_workOutLets 69 = .ok (.iconst 1, 1) := by decide +kernel
theorem dX5_workOutLets_70 : decode cX5_workOutLets 70 = .ok (.goto 4, 3) := by decide +kernel
theorem dX5_workOutLets_73 : decode cX5_workOutLets 73 = .ok (.iconst 0, 1) := by decide +kernel
theorem dX5_workOutLets_74 : decode cX5_workOutLets 74 = .ok (.invokestatic 68, 3) := by decide +kernel
theorem dX5_workOutLets_77 : decode cX5_workOutLets 77 = .ok (.iastore, 1) := by decide +kernel
theorem dX5_workOutLets_78 : decode cX5_workOutLets 78 = .ok (.iinc 4 1, 3) := by decide +kernel
theorem dX5_workOutLets_81 : decode cX5_workOutLets 81 = .ok (.goto (-43), 3) := by decide +kernel
theorem dX5_workOutLets_84 : decode cX5_workOutLets 84 = .ok (.iinc 2 1, 3) := by decide +kernel
theorem dX5_workOutLets_87 : decode cX5_workOutLets 87 = .ok (.goto (-77), 3) := by decide +kernel
theorem dX5_workOutLets_90 : decode cX5_workOutLets 90 = .ok (.iinc 1 1, 3) := by decide +kernel
theorem dX5_workOutLets_93 : decode cX5_workOutLets 93 = .ok (.goto (-91), 3) := by decide +kernel
theorem dX5_workOutLets_96 : decode cX5_workOutLets 96 = .ok (.return_, 1) := by decide +kernel
theorem dX6_init_0 : decode cX6_init 0 = .ok (.aload_n 0, 1) := by decide +kernel
theorem dX6_init_1 : decode cX6_init 1 = .ok (.invokespecial 3, 3) := by decide +kernel
theorem dX6_init_4 : decode cX6_init 4 = .ok (.aload_n 0, 1) := by decide +kernel
theorem dX6_init_5 : decode cX6_init 5 = .ok (.iconst (-1), 1) := by decide +kernel
theorem dX6_init_6 : decode cX6_init 6 = .ok (.putfield 11, 3) := by decide +kernel
theorem dX6_init_9 : decode cX6_init 9 = .ok (.aload_n 0, 1) := by decide +kernel
theorem dX6_init_10 : decode cX6_init 10 = .ok (.bipush 24, 2) := by decide +kernel
theorem dX6_init_12 : decode cX6_init 12 = .ok (.newarray .int, 2) := by decide +kernel
theorem dX6_init_14 : decode cX6_init 14 = .ok (.putfield 15, 3) := by decide +kernel
theorem dX6_init_17 : decode cX6_init 17 = .ok (.return_, 1) := by decide +kernel
theorem dX6_isMissing_0 : decode cX6_isMissing 0 = .ok (.aload_n 0, 1) := by decide +kernel
theorem dX6_isMissing_1 : decode cX6_isMissing 1 = .ok (.getfield 11, 3) := by decide +kernel
theorem dX6_isMissing_4 : decode cX6_isMissing 4 = .ok (.iconst (-1), 1) := by decide +kernel
theorem dX6_isMissing_5 : decode cX6_isMissing 5 = .ok (.if_icmp .ne 7, 3) := by decide +kernel
theorem dX6_isMissing_8 : decode cX6_isMissing 8 = .ok (.iconst 1, 1) := by decide +kernel
theorem dX6_isMissing_9 : decode cX6_isMissing 9 = .ok (.goto 4, 3) := by decide +kernel
theorem dX6_isMissing_12 : decode cX6_isMissing 12 = .ok (.iconst 0, 1) := by decide +kernel
theorem dX6_isMissing_13 : decode cX6_isMissing 13 = .ok (.ireturn, 1) := by decide +kernel
theorem dX6_become_0 : decode cX6_become 0 = .ok (.aload_n 0, 1) := by decide +kernel
theorem dX6_become_1 : decode cX6_become 1 = .ok (.iload_n 1, 1) := by decide +kernel
theorem dX6_become_2 : decode cX6_become 2 = .ok (.putfield 11, 3) := by decide +kernel
theorem dX6_become_5 : decode cX6_become 5 = .ok (.aload_n 0, 1) := by decide +kernel
theorem dX6_become_6 : decode cX6_become 6 = .ok (.iload_n 2, 1) := by decide +kernel
theorem dX6_become_7 : decode cX6_become 7 = .ok (.putfield 19, 3) := by decide +kernel
theorem dX6_become_10 : decode cX6_become 10 = .ok (.aload_n 0, 1) := by decide +kernel
theorem dX6_become_11 : decode cX6_become 11 = .ok (.getfield 15, 3) := by decide +kernel
theorem dX6_become_14 : decode cX6_become 14 = .ok (.iconst 0, 1) := by decide +kernel
theorem dX6_become_15 : decode cX6_become 15 = .ok (.invokestatic 22, 3) := by decide +kernel
theorem dX6_become_18 : decode cX6_become 18 = .ok (.return_, 1) := by decide +kernel
theorem dX6_takeFrom_0 : decode cX6_takeFrom 0 = .ok (.aload_n 0, 1) := by decide +kernel
theorem dX6_takeFrom_1 : decode cX6_takeFrom 1 = .ok (.aload_n 1, 1) := by decide +kernel
theorem dX6_takeFrom_2 : decode cX6_takeFrom 2 = .ok (.getfield 11, 3) := by decide +kernel
theorem dX6_takeFrom_5 : decode cX6_takeFrom 5 = .ok (.putfield 11, 3) := by decide +kernel
theorem dX6_takeFrom_8 : decode cX6_takeFrom 8 = .ok (.aload_n 0, 1) := by decide +kernel
theorem dX6_takeFrom_9 : decode cX6_takeFrom 9 = .ok (.aload_n 1, 1) := by decide +kernel
theorem dX6_takeFrom_10 : decode cX6_takeFrom 10 = .ok (.getfield 19, 3) := by decide +kernel
theorem dX6_takeFrom_13 : decode cX6_takeFrom 13 = .ok (.putfield 19, 3) := by decide +kernel
theorem dX6_takeFrom_16 : decode cX6_takeFrom 16 = .ok (.aload_n 1, 1) := by decide +kernel
theorem dX6_takeFrom_17 : decode cX6_takeFrom 17 = .ok (.getfield 15, 3) := by decide +kernel
theorem dX6_takeFrom_20 : decode cX6_takeFrom 20 = .ok (.iconst 0, 1) := by decide +kernel
theorem dX6_takeFrom_21 : decode cX6_takeFrom 21 = .ok (.aload_n 0, 1) := by decide +kernel
theorem dX6_takeFrom_22 : decode cX6_takeFrom 22 = .ok (.getfield 15, 3) := by decide +kernel
theorem dX6_takeFrom_25 : decode cX6_takeFrom 25 = .ok (.iconst 0, 1) := by decide +kernel
theorem dX6_takeFrom_26 : decode cX6_takeFrom 26 = .ok (.bipush 24, 2) := by decide +kernel
theorem dX6_takeFrom_28 : decode cX6_takeFrom 28 = .ok (.invokestatic 28, 3) := by decide +kernel
theorem dX6_takeFrom_31 : decode cX6_takeFrom 31 = .ok (.return_, 1) := by decide +kernel
theorem dX6_has_0 : decode cX6_has 0 = .ok (.iload_n 1, 1) := by decide +kernel
theorem dX6_has_1 : decode cX6_has 1 = .ok (.iconst 0, 1) := by decide +kernel
theorem dX6_has_2 : decode cX6_has 2 = .ok (.aload_n 0, 1) := by decide +kernel
theorem dX6_has_3 : decode cX6_has 3 = .ok (.getfield 19, 3) := by decide +kernel
theorem dX6_has_6 : decode cX6_has 6 = .ok (.iconst 1, 1) := by decide +kernel
theorem dX6_has_7 : decode cX6_has 7 = .ok (.isub, 1) := by decide +kernel
theorem dX6_has_8 : decode cX6_has 8 = .ok (.invokestatic 34, 3) := by decide +kernel
theorem dX6_has_11 : decode cX6_has 11 = .ok (.ireturn, 1) := by decide +kernel
theorem dX6_hasNumber_0 : decode cX6_hasNumber 0 = .ok (.aload_n 0, 1) := by decide +kernel
theorem dX6_hasNumber_1 : decode cX6_hasNumber 1 = .ok (.iload_n 1, 1) := by decide +kernel
theorem dX6_hasNumber_2 : decode cX6_hasNumber 2 = .ok (.invokevirtual 38, 3) := by decide +kernel
theorem dX6_hasNumber_5 : decode cX6_hasNumber 5 = .ok (.ifCond .eq 18, 3) := by decide +kernel
theorem dX6_hasNumber_8 : decode cX6_hasNumber 8 = .ok (.aload_n 0, 1) := by decide +kernel
theorem dX6_hasNumber_9 : decode cX6_hasNumber 9 = .ok (.getfield 15, 3) := by decide +kernel
theorem dX6_hasNumber_12 : decode cX6_hasNumber 12 = .ok (.iload_n 1, 1) := by decide +kernel
theorem dX6_hasNumber_13 : decode cX6_hasNumber 13 = .ok (.iaload, 1) := by decide +kernel
theorem dX6_hasNumber_14 : decode cX6_hasNumber 14 = .ok (.ldc 42, 2) := by decide +kernel
theorem dX6_hasNumber_16 : decode cX6_hasNumber 16 = .ok (.if_icmp .eq 7, 3) := by decide +kernel
theorem dX6_hasNumber_19 : decode cX6_hasNumber 19 = .ok (.iconst 1, 1) := by decide +kernel
theorem dX6_hasNumber_20 : decode cX6_hasNumber 20 = .ok (.goto 4, 3) := by decide +kernel
theorem dX6_hasNumber_23 : decode cX6_hasNumber 23 = .ok (.iconst 0, 1) := by decide +kernel
theorem dX6_hasNumber_24 : decode cX6_hasNumber 24 = .ok (.ireturn, 1) := by decide +kernel
theorem dX6_hasRange_0 : decode cX6_hasRange 0 = .ok (.iload_n 1, 1) := by decide +kernel
theorem dX6_hasRange_1 : decode cX6_hasRange 1 = .ok (.ifCond .lt 29, 3) := by decide +kernel
theorem dX6_hasRange_4 : decode cX6_hasRange 4 = .ok (.iload_n 2, 1) := by decide +kernel
theorem dX6_hasRange_5 : decode cX6_hasRange 5 = .ok (.ifCond .lt 25, 3) := by decide +kernel
theorem dX6_hasRange_8 : decode cX6_hasRange 8 = .ok (.iload_n 1, 1) := by decide +kernel
theorem dX6_hasRange_9 : decode cX6_hasRange 9 = .ok (.aload_n 0, 1) := by decide +kernel
theorem dX6_hasRange_10 : decode cX6_hasRange 10 = .ok (.getfield 19, 3) := by decide +kernel
theorem dX6_hasRange_13 : decode cX6_hasRange 13 = .ok (.if_icmp .gt 17, 3) := by decide +kernel
theorem dX6_hasRange_16 : decode cX6_hasRange 16 = .ok (.iload_n 2, 1) := by decide +kernel
theorem dX6_hasRange_17 : decode cX6_hasRange 17 = .ok (.aload_n 0, 1) := by decide +kernel
theorem dX6_hasRange_18 : decode cX6_hasRange 18 = .ok (.getfield 19, 3) := by decide +kernel
theorem dX6_hasRange_21 : decode cX6_hasRange 21 = .ok (.iload_n 1, 1) := by decide +kernel
theorem dX6_hasRange_22 : decode cX6_hasRange 22 = .ok (.isub, 1) := by decide +kernel
theorem dX6_hasRange_23 : decode cX6_hasRange 23 = .ok (.if_icmp .gt 7, 3) := by decide +kernel
theorem dX6_hasRange_26 : decode cX6_hasRange 26 = .ok (.iconst 1, 1) := by decide +kernel
theorem dX6_hasRange_27 : decode cX6_hasRange 27 = .ok (.goto 4, 3) := by decide +kernel
theorem dX6_hasRange_30 : decode cX6_hasRange 30 = .ok (.iconst 0, 1) := by decide +kernel
theorem dX6_hasRange_31 : decode cX6_hasRange 31 = .ok (.ireturn, 1) := by decide +kernel
theorem dX7_init_0 : decode cX7_init 0 = .ok (.aload_n 0, 1) := by decide +kernel
theorem dX7_init_1 : decode cX7_init 1 = .ok (.invokespecial 1, 3) := by decide +kernel
theorem dX7_init_4 : decode cX7_init 4 = .ok (.aload_n 0, 1) := by decide +kernel
theorem dX7_init_5 : decode cX7_init 5 = .ok (.iconst 0, 1) := by decide +kernel
theorem dX7_init_6 : decode cX7_init 6 = .ok (.putfield 9, 3) := by decide +kernel
theorem dX7_init_9 : decode cX7_init 9 = .ok (.aload_n 0, 1) := by decide +kernel
theorem dX7_init_10 : decode cX7_init 10 = .ok (.new 13, 3) := by decide +kernel
theorem dX7_init_13 : decode cX7_init 13 = .ok (.dup, 1) := by decide +kernel
theorem dX7_init_14 : decode cX7_init 14 = .ok (.invokespecial 15, 3) := by decide +kernel
theorem dX7_init_17 : decode cX7_init 17 = .ok (.putfield 16, 3) := by decide +kernel
theorem dX7_init_20 : decode cX7_init 20 = .ok (.return_, 1) := by decide +kernel
theorem dX8_init_0 : decode cX8_init 0 = .ok (.aload_n 0, 1) := by decide +kernel
theorem dX8_init_1 : decode cX8_init 1 = .ok (.invokespecial 3, 3) := by decide +kernel
theorem dX8_init_4 : decode cX8_init 4 = .ok (.aload_n 0, 1) := by decide +kernel
theorem dX8_init_5 : decode cX8_init 5 = .ok (.new 9, 3) := by decide +kernel
theorem dX8_init_8 : decode cX8_init 8 = .ok (.dup, 1) := by decide +kernel
theorem dX8_init_9 : decode cX8_init 9 = .ok (.invokespecial 11, 3) := by decide +kernel
theorem dX8_init_12 : decode cX8_init 12 = .ok (.putfield 12, 3) := by decide +kernel
theorem dX8_init_15 : decode cX8_init 15 = .ok (.return_, 1) := by decide +kernel
theorem dX8_behindMinutes_0 : decode cX8_behindMinutes 0 = .ok (.aload_n 0, 1) := by decide +kernel
theorem dX8_behindMinutes_1 : decode cX8_behindMinutes 1 = .ok (.getfield 12, 3) := by decide +kernel
theorem dX8_behindMinutes_4 : decode cX8_behindMinutes 4 = .ok (.aload_n 1, 1) := by decide +kernel
theorem dX8_behindMinutes_5 : decode cX8_behindMinutes 5 = .ok (.invokevirtual 18, 3) := by decide +kernel
theorem dX8_behindMinutes_8 : decode cX8_behindMinutes 8 = .ok (.iconst 0, 1) := by decide +kernel
theorem dX8_behindMinutes_9 : decode cX8_behindMinutes 9 = .ok (.istore_n 3, 1) := by decide +kernel
theorem dX8_behindMinutes_10 : decode cX8_behindMinutes 10 = .ok (.iload_n 3, 1) := by decide +kernel
theorem dX8_behindMinutes_11 : decode cX8_behindMinutes 11 = .ok (.iload_n 2, 1) := by decide +kernel
theorem dX8_behindMinutes_12 : decode cX8_behindMinutes 12 = .ok (.if_icmp .ge 16, 3) := by decide +kernel
theorem dX8_behindMinutes_15 : decode cX8_behindMinutes 15 = .ok (.aload_n 0, 1) := by decide +kernel
theorem dX8_behindMinutes_16 : decode cX8_behindMinutes 16 = .ok (.getfield 12, 3) := by decide +kernel
theorem dX8_behindMinutes_19 : decode cX8_behindMinutes 19 = .ok (.invokevirtual 22, 3) := by decide +kernel
theorem dX8_behindMinutes_22 : decode cX8_behindMinutes 22 = .ok (.iinc 3 1, 3) := by decide +kernel
theorem dX8_behindMinutes_25 : decode cX8_behindMinutes 25 = .ok (.goto (-15), 3) := by decide +kernel
theorem dX8_behindMinutes_28 : decode cX8_behindMinutes 28 = .ok (.aload_n 0, 1) := by decide +kernel
theorem dX8_behindMinutes_29 : decode cX8_behindMinutes 29 = .ok (.getfield 12, 3) := by decide +kernel
theorem dX8_behindMinutes_32 : decode cX8_behindMinutes 32 = .ok (.areturn, 1) := by decide +kernel
theorem dX8_minutesUntilStill_0 : decode cX8_minutesUntilStill 0 = .ok (.aload_n 0, 1) := by decide +kernel
theorem dX8_minutesUntilStill_1 : decode cX8_minutesUntilStill 1 = .ok (.getfield 12, 3) := by decide +kernel
theorem dX8_minutesUntilStill_4 : decode cX8_minutesUntilStill 4 = .ok (.aload_n 1, 1) := by decide +kernel
theorem dX8_minutesUntilStill_5 : decode cX8_minutesUntilStill 5 = .ok (.invokevirtual 18, 3) := by decide +kernel
theorem dX8_minutesUntilStill_8 : decode cX8_minutesUntilStill 8 = .ok (.iconst 0, 1) := by decide +kernel
theorem dX8_minutesUntilStill_9 : decode cX8_minutesUntilStill 9 = .ok (.istore_n 2, 1) := by decide +kernel
theorem dX8_minutesUntilStill_10 : decode cX8_minutesUntilStill 10 = .ok (.iload_n 2, 1) := by decide +kernel
theorem dX8_minutesUntilStill_11 : decode cX8_minutesUntilStill 11 = .ok (.sipush 200, 3) := by decide +kernel
theorem dX8_minutesUntilStill_14 : decode cX8_minutesUntilStill 14 = .ok (.if_icmp .gt 35, 3) := by decide +kernel
theorem dX8_minutesUntilStill_17 : decode cX8_minutesUntilStill 17 = .ok (.aload_n 0, 1) := by decide +kernel
theorem dX8_minutesUntilStill_18 : decode cX8_minutesUntilStill 18 = .ok (.getfield 12, 3) := by decide +kernel
theorem dX8_minutesUntilStill_21 : decode cX8_minutesUntilStill 21 = .ok (.invokevirtual 25, 3) := by decide +kernel
theorem dX8_minutesUntilStill_24 : decode cX8_minutesUntilStill 24 = .ok (.aload_n 0, 1) := by decide +kernel
theorem dX8_minutesUntilStill_25 : decode cX8_minutesUntilStill 25 = .ok (.getfield 12, 3) := by decide +kernel
theorem dX8_minutesUntilStill_28 : decode cX8_minutesUntilStill 28 = .ok (.invokevirtual 28, 3) := by decide +kernel
theorem dX8_minutesUntilStill_31 : decode cX8_minutesUntilStill 31 = .ok (.ifCond .eq 5, 3) := by decide +kernel
theorem dX8_minutesUntilStill_34 : decode cX8_minutesUntilStill 34 = .ok (.iload_n 2, 1) := by decide +kernel
theorem dX8_minutesUntilStill_35 : decode cX8_minutesUntilStill 35 = .ok (.ireturn, 1) := by decide +kernel
theorem dX8_minutesUntilStill_36 : decode cX8_minutesUntilStill 36 = .ok (.aload_n 0, 1) := by decide +kernel
theorem dX8_minutesUntilStill_37 : decode cX8_minutesUntilStill 37 = .ok (.getfield 12, 3) := by decide +kernel
theorem dX8_minutesUntilStill_40 : decode cX8_minutesUntilStill 40 = .ok (.invokevirtual 32, 3) := by decide +kernel
theorem dX8_minutesUntilStill_43 : decode cX8_minutesUntilStill 43 = .ok (.iinc 2 1, 3) := by decide +kernel
theorem dX8_minutesUntilStill_46 : decode cX8_minutesUntilStill 46 = .ok (.goto (-36), 3) := by decide +kernel
theorem dX8_minutesUntilStill_49 : decode cX8_minutesUntilStill 49 = .ok (.ldc 35, 2) := by decide +kernel
theorem dX8_minutesUntilStill_51 : decode cX8_minutesUntilStill 51 = .ok (.ireturn, 1) := by decide +kernel
theorem dX8_fewestToShut_0 : decode cX8_fewestToShut 0 = .ok (.aload_n 0, 1) := by decide +kernel
theorem dX8_fewestToShut_1 : decode cX8_fewestToShut 1 = .ok (.getfield 12, 3) := by decide +kernel
theorem dX8_fewestToShut_4 : decode cX8_fewestToShut 4 = .ok (.aload_n 1, 1) := by decide +kernel
theorem dX8_fewestToShut_5 : decode cX8_fewestToShut 5 = .ok (.invokevirtual 18, 3) := by decide +kernel
theorem dX8_fewestToShut_8 : decode cX8_fewestToShut 8 = .ok (.aload_n 1, 1) := by decide +kernel
theorem dX8_fewestToShut_9 : decode cX8_fewestToShut 9 = .ok (.getfield 36, 3) := by decide +kernel
theorem dX8_fewestToShut_12 : decode cX8_fewestToShut 12 = .ok (.getfield 40, 3) := by decide +kernel
theorem dX8_fewestToShut_15 : decode cX8_fewestToShut 15 = .ok (.istore 5, 2) := by decide +kernel
theorem dX8_fewestToShut_17 : decode cX8_fewestToShut 17 = .ok (.ldc 35, 2) := by decide +kernel
theorem dX8_fewestToShut_19 : decode cX8_fewestToShut 19 = .ok (.istore 6, 2) := by decide +kernel
theorem dX8_fewestToShut_21 : decode cX8_fewestToShut 21 = .ok (.bipush 11, 2) := by decide +kernel
theorem dX8_fewestToShut_23 : decode cX8_fewestToShut 23 = .ok (.istore 7, 2) := by decide +kernel
theorem dX8_fewestToShut_25 : decode cX8_fewestToShut 25 = .ok (.iconst 0, 1) := by decide +kernel
theorem dX8_fewestToShut_26 : decode cX8_fewestToShut 26 = .ok (.istore 8, 2) := by decide +kernel
theorem dX8_fewestToShut_28 : decode cX8_fewestToShut 28 = .ok (.iload 8, 2) := by decide +kernel
theorem dX8_fewestToShut_30 : decode cX8_fewestToShut 30 = .ok (.iload 5, 2) := by decide +kernel
theorem dX8_fewestToShut_32 : decode cX8_fewestToShut 32 = .ok (.if_icmp .gt 76, 3) := by decide +kernel
theorem dX8_fewestToShut_35 : decode cX8_fewestToShut 35 = .ok (.iload 8, 2) := by decide +kernel
theorem dX8_fewestToShut_37 : decode cX8_fewestToShut 37 = .ok (.iload 5, 2) := by decide +kernel
theorem dX8_fewestToShut_39 : decode cX8_fewestToShut 39 = .ok (.iconst (-1), 1) := by decide +kernel
theorem dX8_fewestToShut_40 : decode cX8_fewestToShut 40 = .ok (.ixor, 1) := by decide +kernel
theorem dX8_fewestToShut_41 : decode cX8_fewestToShut 41 = .ok (.iand, 1) := by decide +kernel
theorem dX8_fewestToShut_42 : decode cX8_fewestToShut 42 = .ok (.ifCond .ne 60, 3) := by decide +kernel
theorem dX8_fewestToShut_45 : decode cX8_fewestToShut 45 = .ok (.iload 8, 2) := by decide +kernel
theorem dX8_fewestToShut_47 : decode cX8_fewestToShut 47 = .ok (.invokestatic 46, 3) := by decide +kernel
theorem dX8_fewestToShut_50 : decode cX8_fewestToShut 50 = .ok (.iload 7, 2) := by decide +kernel
theorem dX8_fewestToShut_52 : decode cX8_fewestToShut 52 = .ok (.if_icmp .ge 50, 3) := by decide +kernel
theorem dX8_fewestToShut_55 : decode cX8_fewestToShut 55 = .ok (.aload_n 0, 1) := by decide +kernel
theorem dX8_fewestToShut_56 : decode cX8_fewestToShut 56 = .ok (.getfield 12, 3) := by decide +kernel
theorem dX8_fewestToShut_59 : decode cX8_fewestToShut 59 = .ok (.aload_n 1, 1) := by decide +kernel
theorem dX8_fewestToShut_60 : decode cX8_fewestToShut 60 = .ok (.invokevirtual 52, 3) := by decide +kernel
theorem dX8_fewestToShut_63 : decode cX8_fewestToShut 63 = .ok (.aload_n 0, 1) := by decide +kernel
theorem dX8_fewestToShut_64 : decode cX8_fewestToShut 64 = .ok (.getfield 12, 3) := by decide +kernel
theorem dX8_fewestToShut_67 : decode cX8_fewestToShut 67 = .ok (.getfield 36, 3) := by decide +kernel
theorem dX8_fewestToShut_70 : decode cX8_fewestToShut 70 = .ok (.iload 5, 2) := by decide +kernel
theorem dX8_fewestToShut_72 : decode cX8_fewestToShut 72 = .ok (.iload 8, 2) := by decide +kernel
theorem dX8_fewestToShut_74 : decode cX8_fewestToShut 74 = .ok (.iconst (-1), 1) := by decide +kernel
theorem dX8_fewestToShut_75 : decode cX8_fewestToShut 75 = .ok (.ixor, 1) := by decide +kernel
theorem dX8_fewestToShut_76 : decode cX8_fewestToShut 76 = .ok (.iand, 1) := by decide +kernel
theorem dX8_fewestToShut_77 : decode cX8_fewestToShut 77 = .ok (.putfield 40, 3) := by decide +kernel
theorem dX8_fewestToShut_80 : decode cX8_fewestToShut 80 = .ok (.aload_n 0, 1) := by decide +kernel
theorem dX8_fewestToShut_81 : decode cX8_fewestToShut 81 = .ok (.iload_n 2, 1) := by decide +kernel
theorem dX8_fewestToShut_82 : decode cX8_fewestToShut 82 = .ok (.iload_n 3, 1) := by decide +kernel
theorem dX8_fewestToShut_83 : decode cX8_fewestToShut 83 = .ok (.iload 4, 2) := by decide +kernel
theorem dX8_fewestToShut_85 : decode cX8_fewestToShut 85 = .ok (.invokevirtual 55, 3) := by decide +kernel
theorem dX8_fewestToShut_88 : decode cX8_fewestToShut 88 = .ok (.ifCond .eq 14, 3) := by decide +kernel
theorem dX8_fewestToShut_91 : decode cX8_fewestToShut 91 = .ok (.iload 8, 2) := by decide +kernel
theorem dX8_fewestToShut_93 : decode cX8_fewestToShut 93 = .ok (.istore 6, 2) := by decide +kernel
theorem dX8_fewestToShut_95 : decode cX8_fewestToShut 95 = .ok (.iload 8, 2) := by decide +kernel
theorem dX8_fewestToShut_97 : decode cX8_fewestToShut 97 = .ok (.invokestatic 46, 3) := by decide +kernel
theorem dX8_fewestToShut_100 : decode cX8_fewestToShut 100 = .ok (.istore 7, 2) := by decide +kernel
theorem dX8_fewestToShut_102 : decode cX8_fewestToShut 102 = .ok (.iinc 8 1, 3) := by decide +kernel
theorem dX8_fewestToShut_105 : decode cX8_fewestToShut 105 = .ok (.goto (-77), 3) := by decide +kernel
theorem dX8_fewestToShut_108 : decode cX8_fewestToShut 108 = .ok (.iload 6, 2) := by decide +kernel
theorem dX8_fewestToShut_110 : decode cX8_fewestToShut 110 = .ok (.ireturn, 1) := by decide +kernel
theorem dX8_isCalm_0 : decode cX8_isCalm 0 = .ok (.iconst 0, 1) := by decide +kernel
theorem dX8_isCalm_1 : decode cX8_isCalm 1 = .ok (.istore 4, 2) := by decide +kernel
theorem dX8_isCalm_3 : decode cX8_isCalm 3 = .ok (.iload 4, 2) := by decide +kernel
theorem dX8_isCalm_5 : decode cX8_isCalm 5 = .ok (.iload_n 3, 1) := by decide +kernel
theorem dX8_isCalm_6 : decode cX8_isCalm 6 = .ok (.if_icmp .gt 38, 3) := by decide +kernel
theorem dX8_isCalm_9 : decode cX8_isCalm 9 = .ok (.aload_n 0, 1) := by decide +kernel
theorem dX8_isCalm_10 : decode cX8_isCalm 10 = .ok (.getfield 12, 3) := by decide +kernel
theorem dX8_isCalm_13 : decode cX8_isCalm 13 = .ok (.invokevirtual 25, 3) := by decide +kernel
theorem dX8_isCalm_16 : decode cX8_isCalm 16 = .ok (.aload_n 0, 1) := by decide +kernel
theorem dX8_isCalm_17 : decode cX8_isCalm 17 = .ok (.getfield 12, 3) := by decide +kernel
theorem dX8_isCalm_20 : decode cX8_isCalm 20 = .ok (.getfield 59, 3) := by decide +kernel
theorem dX8_isCalm_23 : decode cX8_isCalm 23 = .ok (.iload_n 1, 1) := by decide +kernel
theorem dX8_isCalm_24 : decode cX8_isCalm 24 = .ok (.iaload, 1) := by decide +kernel
theorem dX8_isCalm_25 : decode cX8_isCalm 25 = .ok (.iload_n 2, 1) := by decide +kernel
theorem dX8_isCalm_26 : decode cX8_isCalm 26 = .ok (.if_icmp .le 5, 3) := by decide +kernel
theorem dX8_isCalm_29 : decode cX8_isCalm 29 = .ok (.iconst 0, 1) := by decide +kernel
theorem dX8_isCalm_30 : decode cX8_isCalm 30 = .ok (.ireturn, 1) := by decide +kernel
theorem dX8_isCalm_31 : decode cX8_isCalm 31 = .ok (.aload_n 0, 1) := by decide +kernel
theorem dX8_isCalm_32 : decode cX8_isCalm 32 = .ok (.getfield 12, 3) := by decide +kernel
theorem dX8_isCalm_35 : decode cX8_isCalm 35 = .ok (.invokevirtual 32, 3) := by decide +kernel
theorem dX8_isCalm_38 : decode cX8_isCalm 38 = .ok (.iinc 4 1, 3) := by decide +kernel
theorem dX8_isCalm_41 : decode cX8_isCalm 41 = .ok (.goto (-38), 3) := by decide +kernel
theorem dX8_isCalm_44 : decode cX8_isCalm 44 = .ok (.iconst 1, 1) := by decide +kernel
theorem dX8_isCalm_45 : decode cX8_isCalm 45 = .ok (.ireturn, 1) := by decide +kernel
theorem dX8_roomsThatSmell_0 : decode cX8_roomsThatSmell 0 = .ok (.aload_n 0, 1) := by decide +kernel
theorem dX8_roomsThatSmell_1 : decode cX8_roomsThatSmell 1 = .ok (.getfield 12, 3) := by decide +kernel
theorem dX8_roomsThatSmell_4 : decode cX8_roomsThatSmell 4 = .ok (.aload_n 1, 1) := by decide +kernel
theorem dX8_roomsThatSmell_5 : decode cX8_roomsThatSmell 5 = .ok (.invokevirtual 18, 3) := by decide +kernel
theorem dX8_roomsThatSmell_8 : decode cX8_roomsThatSmell 8 = .ok (.aload_n 0, 1) := by decide +kernel
theorem dX8_roomsThatSmell_9 : decode cX8_roomsThatSmell 9 = .ok (.getfield 12, 3) := by decide +kernel
theorem dX8_roomsThatSmell_12 : decode cX8_roomsThatSmell 12 = .ok (.getfield 63, 3) := by decide +kernel
theorem dX8_roomsThatSmell_15 : decode cX8_roomsThatSmell 15 = .ok (.iconst 0, 1) := by decide +kernel
theorem dX8_roomsThatSmell_16 : decode cX8_roomsThatSmell 16 = .ok (.invokestatic 66, 3) := by decide +kernel
theorem dX8_roomsThatSmell_19 : decode cX8_roomsThatSmell 19 = .ok (.aload_n 0, 1) := by decide +kernel
theorem dX8_roomsThatSmell_20 : decode cX8_roomsThatSmell 20 = .ok (.getfield 12, 3) := by decide +kernel
theorem dX8_roomsThatSmell_23 : decode cX8_roomsThatSmell 23 = .ok (.getfield 63, 3) := by decide +kernel
theorem dX8_roomsThatSmell_26 : decode cX8_roomsThatSmell 26 = .ok (.iload_n 2, 1) := by decide +kernel
theorem dX8_roomsThatSmell_27 : decode cX8_roomsThatSmell 27 = .ok (.sipush 9999, 3) := by decide +kernel
theorem dX8_roomsThatSmell_30 : decode cX8_roomsThatSmell 30 = .ok (.iastore, 1) := by decide +kernel
theorem dX8_roomsThatSmell_31 : decode cX8_roomsThatSmell 31 = .ok (.iconst 0, 1) := by decide +kernel
theorem dX8_roomsThatSmell_32 : decode cX8_roomsThatSmell 32 = .ok (.istore 4, 2) := by decide +kernel
theorem dX8_roomsThatSmell_34 : decode cX8_roomsThatSmell 34 = .ok (.iload 4, 2) := by decide +kernel
theorem dX8_roomsThatSmell_36 : decode cX8_roomsThatSmell 36 = .ok (.iload_n 3, 1) := by decide +kernel
theorem dX8_roomsThatSmell_37 : decode cX8_roomsThatSmell 37 = .ok (.if_icmp .ge 30, 3) := by decide +kernel
theorem dX8_roomsThatSmell_40 : decode cX8_roomsThatSmell 40 = .ok (.aload_n 0, 1) := by decide +kernel
theorem dX8_roomsThatSmell_41 : decode cX8_roomsThatSmell 41 = .ok (.getfield 12, 3) := by decide +kernel
theorem dX8_roomsThatSmell_44 : decode cX8_roomsThatSmell 44 = .ok (.invokevirtual 25, 3) := by decide +kernel
theorem dX8_roomsThatSmell_47 : decode cX8_roomsThatSmell 47 = .ok (.aload_n 0, 1) := by decide +kernel
theorem dX8_roomsThatSmell_48 : decode cX8_roomsThatSmell 48 = .ok (.getfield 12, 3) := by decide +kernel
theorem dX8_roomsThatSmell_51 : decode cX8_roomsThatSmell 51 = .ok (.invokevirtual 72, 3) := by decide +kernel
theorem dX8_roomsThatSmell_54 : decode cX8_roomsThatSmell 54 = .ok (.aload_n 0, 1) := by decide +kernel
theorem dX8_roomsThatSmell_55 : decode cX8_roomsThatSmell 55 = .ok (.getfield 12, 3) := by decide +kernel
theorem dX8_roomsThatSmell_58 : decode cX8_roomsThatSmell 58 = .ok (.invokevirtual 32, 3) := by decide +kernel
theorem dX8_roomsThatSmell_61 : decode cX8_roomsThatSmell 61 = .ok (.iinc 4 1, 3) := by decide +kernel
theorem dX8_roomsThatSmell_64 : decode cX8_roomsThatSmell 64 = .ok (.goto (-30), 3) := by decide +kernel
theorem dX8_roomsThatSmell_67 : decode cX8_roomsThatSmell 67 = .ok (.iconst 0, 1) := by decide +kernel
theorem dX8_roomsThatSmell_68 : decode cX8_roomsThatSmell 68 = .ok (.istore 4, 2) := by decide +kernel
theorem dX8_roomsThatSmell_70 : decode cX8_roomsThatSmell 70 = .ok (.iconst 0, 1) := by decide +kernel
theorem dX8_roomsThatSmell_71 : decode cX8_roomsThatSmell 71 = .ok (.istore 5, 2) := by decide +kernel
theorem dX8_roomsThatSmell_73 : decode cX8_roomsThatSmell 73 = .ok (.iload 5, 2) := by decide +kernel
theorem dX8_roomsThatSmell_75 : decode cX8_roomsThatSmell 75 = .ok (.bipush 8, 2) := by decide +kernel
theorem dX8_roomsThatSmell_77 : decode cX8_roomsThatSmell 77 = .ok (.if_icmp .ge 31, 3) := by decide +kernel
theorem dX8_roomsThatSmell_80 : decode cX8_roomsThatSmell 80 = .ok (.aload_n 0, 1) := by decide +kernel
theorem dX8_roomsThatSmell_81 : decode cX8_roomsThatSmell 81 = .ok (.getfield 12, 3) := by decide +kernel
theorem dX8_roomsThatSmell_84 : decode cX8_roomsThatSmell 84 = .ok (.getfield 63, 3) := by decide +kernel
theorem dX8_roomsThatSmell_87 : decode cX8_roomsThatSmell 87 = .ok (.iload 5, 2) := by decide +kernel
theorem dX8_roomsThatSmell_89 : decode cX8_roomsThatSmell 89 = .ok (.iaload, 1) := by decide +kernel
theorem dX8_roomsThatSmell_90 : decode cX8_roomsThatSmell 90 = .ok (.ifCond .le 12, 3) := by decide +kernel
theorem dX8_roomsThatSmell_93 : decode cX8_roomsThatSmell 93 = .ok (.iload 4, 2) := by decide +kernel
theorem dX8_roomsThatSmell_95 : decode cX8_roomsThatSmell 95 = .ok (.iconst 1, 1) := by decide +kernel
theorem dX8_roomsThatSmell_96 : decode cX8_roomsThatSmell 96 = .ok (.iload 5, 2) := by decide +kernel
theorem dX8_roomsThatSmell_98 : decode cX8_roomsThatSmell 98 = .ok (.ishl, 1) := by decide +kernel
theorem dX8_roomsThatSmell_99 : decode cX8_roomsThatSmell 99 = .ok (.ior, 1) := by decide +kernel
theorem dX8_roomsThatSmell_100 : decode cX8_roomsThatSmell 100 = .ok (.istore 4, 2) := by decide +kernel
theorem dX8_roomsThatSmell_102 : decode cX8_roomsThatSmell 102 = .ok (.iinc 5 1, 3) := by decide +kernel
theorem dX8_roomsThatSmell_105 : decode cX8_roomsThatSmell 105 = .ok (.goto (-32), 3) := by decide +kernel
theorem dX8_roomsThatSmell_108 : decode cX8_roomsThatSmell 108 = .ok (.iload 4, 2) := by decide +kernel
theorem dX8_roomsThatSmell_110 : decode cX8_roomsThatSmell 110 = .ok (.ireturn, 1) := by decide +kernel
theorem dX8_litWith_0 : decode cX8_litWith 0 = .ok (.aload_n 0, 1) := by decide +kernel
theorem dX8_litWith_1 : decode cX8_litWith 1 = .ok (.getfield 12, 3) := by decide +kernel
theorem dX8_litWith_4 : decode cX8_litWith 4 = .ok (.aload_n 1, 1) := by decide +kernel
theorem dX8_litWith_5 : decode cX8_litWith 5 = .ok (.invokevirtual 18, 3) := by decide +kernel
theorem dX8_litWith_8 : decode cX8_litWith 8 = .ok (.aload_n 0, 1) := by decide +kernel
theorem dX8_litWith_9 : decode cX8_litWith 9 = .ok (.getfield 12, 3) := by decide +kernel
theorem dX8_litWith_12 : decode cX8_litWith 12 = .ok (.getfield 36, 3) := by decide +kernel
theorem dX8_litWith_15 : decode cX8_litWith 15 = .ok (.iload_n 2, 1) := by decide +kernel
theorem dX8_litWith_16 : decode cX8_litWith 16 = .ok (.iload_n 3, 1) := by decide +kernel
theorem dX8_litWith_17 : decode cX8_litWith 17 = .ok (.invokevirtual 75, 3) := by decide +kernel
theorem dX8_litWith_20 : decode cX8_litWith 20 = .ok (.iconst 0, 1) := by decide +kernel
theorem dX8_litWith_21 : decode cX8_litWith 21 = .ok (.istore 5, 2) := by decide +kernel
theorem dX8_litWith_23 : decode cX8_litWith 23 = .ok (.iload 5, 2) := by decide +kernel
theorem dX8_litWith_25 : decode cX8_litWith 25 = .ok (.iload 4, 2) := by decide +kernel
theorem dX8_litWith_27 : decode cX8_litWith 27 = .ok (.if_icmp .ge 16, 3) := by decide +kernel
theorem dX8_litWith_30 : decode cX8_litWith 30 = .ok (.aload_n 0, 1) := by decide +kernel
theorem dX8_litWith_31 : decode cX8_litWith 31 = .ok (.getfield 12, 3) := by decide +kernel
theorem dX8_litWith_34 : decode cX8_litWith 34 = .ok (.invokevirtual 22, 3) := by decide +kernel
theorem dX8_litWith_37 : decode cX8_litWith 37 = .ok (.iinc 5 1, 3) := by decide +kernel
theorem dX8_litWith_40 : decode cX8_litWith 40 = .ok (.goto (-17), 3) := by decide +kernel
theorem dX8_litWith_43 : decode cX8_litWith 43 = .ok (.aload_n 0, 1) := by decide +kernel
theorem dX8_litWith_44 : decode cX8_litWith 44 = .ok (.getfield 12, 3) := by decide +kernel
theorem dX8_litWith_47 : decode cX8_litWith 47 = .ok (.invokevirtual 79, 3) := by decide +kernel
theorem dX8_litWith_50 : decode cX8_litWith 50 = .ok (.ireturn, 1) := by decide +kernel
theorem dX8_allStayLit_0 : decode cX8_allStayLit 0 = .ok (.aload_n 0, 1) := by decide +kernel
theorem dX8_allStayLit_1 : decode cX8_allStayLit 1 = .ok (.getfield 12, 3) := by decide +kernel
theorem dX8_allStayLit_4 : decode cX8_allStayLit 4 = .ok (.aload_n 1, 1) := by decide +kernel
theorem dX8_allStayLit_5 : decode cX8_allStayLit 5 = .ok (.invokevirtual 18, 3) := by decide +kernel
theorem dX8_allStayLit_8 : decode cX8_allStayLit 8 = .ok (.aload_n 0, 1) := by decide +kernel
theorem dX8_allStayLit_9 : decode cX8_allStayLit 9 = .ok (.getfield 12, 3) := by decide +kernel
theorem dX8_allStayLit_12 : decode cX8_allStayLit 12 = .ok (.getfield 83, 3) := by decide +kernel
theorem dX8_allStayLit_15 : decode cX8_allStayLit 15 = .ok (.bipush 8, 2) := by decide +kernel
theorem dX8_allStayLit_17 : decode cX8_allStayLit 17 = .ok (.iload_n 2, 1) := by decide +kernel
theorem dX8_allStayLit_18 : decode cX8_allStayLit 18 = .ok (.iastore, 1) := by decide +kernel
theorem dX8_allStayLit_19 : decode cX8_allStayLit 19 = .ok (.iconst 0, 1) := by decide +kernel
theorem dX8_allStayLit_20 : decode cX8_allStayLit 20 = .ok (.istore 4, 2) := by decide +kernel
theorem dX8_allStayLit_22 : decode cX8_allStayLit 22 = .ok (.iload 4, 2) := by decide +kernel
theorem dX8_allStayLit_24 : decode cX8_allStayLit 24 = .ok (.iload_n 3, 1) := by decide +kernel
theorem dX8_allStayLit_25 : decode cX8_allStayLit 25 = .ok (.if_icmp .ge 30, 3) := by decide +kernel
theorem dX8_allStayLit_28 : decode cX8_allStayLit 28 = .ok (.aload_n 0, 1) := by decide +kernel
theorem dX8_allStayLit_29 : decode cX8_allStayLit 29 = .ok (.getfield 12, 3) := by decide +kernel
theorem dX8_allStayLit_32 : decode cX8_allStayLit 32 = .ok (.getfield 86, 3) := by decide +kernel
theorem dX8_allStayLit_35 : decode cX8_allStayLit 35 = .ok (.aload_n 1, 1) := by decide +kernel
theorem dX8_allStayLit_36 : decode cX8_allStayLit 36 = .ok (.getfield 86, 3) := by decide +kernel
theorem dX8_allStayLit_39 : decode cX8_allStayLit 39 = .ok (.if_icmp .ne 16, 3) := by decide +kernel
theorem dX8_allStayLit_42 : decode cX8_allStayLit 42 = .ok (.aload_n 0, 1) := by decide +kernel
theorem dX8_allStayLit_43 : decode cX8_allStayLit 43 = .ok (.getfield 12, 3) := by decide +kernel
theorem dX8_allStayLit_46 : decode cX8_allStayLit 46 = .ok (.invokevirtual 22, 3) := by decide +kernel
theorem dX8_allStayLit_49 : decode cX8_allStayLit 49 = .ok (.iinc 4 1, 3) := by decide +kernel
theorem dX8_allStayLit_52 : decode cX8_allStayLit 52 = .ok (.goto (-30), 3) := by decide +kernel
theorem dX8_allStayLit_55 : decode cX8_allStayLit 55 = .ok (.aload_n 0, 1) := by decide +kernel
theorem dX8_allStayLit_56 : decode cX8_allStayLit 56 = .ok (.getfield 12, 3) := by decide +kernel
theorem dX8_allStayLit_59 : decode cX8_allStayLit 59 = .ok (.getfield 86, 3) := by decide +kernel
theorem dX8_allStayLit_62 : decode cX8_allStayLit 62 = .ok (.aload_n 1, 1) := by decide +kernel
theorem dX8_allStayLit_63 : decode cX8_allStayLit 63 = .ok (.getfield 86, 3) := by decide +kernel
theorem dX8_allStayLit_66 : decode cX8_allStayLit 66 = .ok (.if_icmp .ne 7, 3) := by decide +kernel
theorem dX8_allStayLit_69 : decode cX8_allStayLit 69 = .ok (.iconst 1, 1) := by decide +kernel
theorem dX8_allStayLit_70 : decode cX8_allStayLit 70 = .ok (.goto 4, 3) := by decide +kernel
theorem dX8_allStayLit_73 : decode cX8_allStayLit 73 = .ok (.iconst 0, 1) := by decide +kernel
theorem dX8_allStayLit_74 : decode cX8_allStayLit 74 = .ok (.ireturn, 1) := by decide +kernel
theorem dX8_likeliestDoor_0 : decode cX8_likeliestDoor 0 = .ok (.ldc 35, 2) := by decide +kernel
theorem dX8_likeliestDoor_2 : decode cX8_likeliestDoor 2 = .ok (.istore 4, 2) := by decide +kernel
theorem dX8_likeliestDoor_4 : decode cX8_likeliestDoor 4 = .ok (.iconst 0, 1) := by decide +kernel
theorem dX8_likeliestDoor_5 : decode cX8_likeliestDoor 5 = .ok (.istore 5, 2) := by decide +kernel
theorem dX8_likeliestDoor_7 : decode cX8_likeliestDoor 7 = .ok (.iconst 0, 1) := by decide +kernel
theorem dX8_likeliestDoor_8 : decode cX8_likeliestDoor 8 = .ok (.istore 6, 2) := by decide +kernel
theorem dX8_likeliestDoor_10 : decode cX8_likeliestDoor 10 = .ok (.iload 6, 2) := by decide +kernel
theorem dX8_likeliestDoor_12 : decode cX8_likeliestDoor 12 = .ok (.aload_n 1, 1) := by decide +kernel
theorem dX8_likeliestDoor_13 : decode cX8_likeliestDoor 13 = .ok (.getfield 36, 3) := by decide +kernel
theorem dX8_likeliestDoor_16 : decode cX8_likeliestDoor 16 = .ok (.getfield 89, 3) := by decide +kernel
theorem dX8_likeliestDoor_19 : decode cX8_likeliestDoor 19 = .ok (.if_icmp .ge 42, 3) := by decide +kernel
theorem dX8_likeliestDoor_22 : decode cX8_likeliestDoor 22 = .ok (.aload_n 0, 1) := by decide +kernel
theorem dX8_likeliestDoor_23 : decode cX8_likeliestDoor 23 = .ok (.aload_n 1, 1) := by decide +kernel
theorem dX8_likeliestDoor_24 : decode cX8_likeliestDoor 24 = .ok (.aload_n 2, 1) := by decide +kernel
theorem dX8_likeliestDoor_25 : decode cX8_likeliestDoor 25 = .ok (.iload 6, 2) := by decide +kernel
theorem dX8_likeliestDoor_27 : decode cX8_likeliestDoor 27 = .ok (.iload_n 3, 1) := by decide +kernel
theorem dX8_likeliestDoor_28 : decode cX8_likeliestDoor 28 = .ok (.invokevirtual 92, 3) := by decide +kernel
theorem dX8_likeliestDoor_31 : decode cX8_likeliestDoor 31 = .ok (.istore 7, 2) := by decide +kernel
theorem dX8_likeliestDoor_33 : decode cX8_likeliestDoor 33 = .ok (.iload 4, 2) := by decide +kernel
theorem dX8_likeliestDoor_35 : decode cX8_likeliestDoor 35 = .ok (.ldc 35, 2) := by decide +kernel
theorem dX8_likeliestDoor_37 : decode cX8_likeliestDoor 37 = .ok (.if_icmp .eq 10, 3) := by decide +kernel
theorem dX8_likeliestDoor_40 : decode cX8_likeliestDoor 40 = .ok (.iload 7, 2) := by decide +kernel
theorem dX8_likeliestDoor_42 : decode cX8_likeliestDoor 42 = .ok (.iload 5, 2) := by decide +kernel
theorem dX8_likeliestDoor_44 : decode cX8_likeliestDoor 44 = .ok (.if_icmp .ge 11, 3) := by decide +kernel
theorem dX8_likeliestDoor_47 : decode cX8_likeliestDoor 47 = .ok (.iload 6, 2) := by decide +kernel
theorem dX8_likeliestDoor_49 : decode cX8_likeliestDoor 49 = .ok (.istore 4, 2) := by decide +kernel
theorem dX8_likeliestDoor_51 : decode cX8_likeliestDoor 51 = .ok (.iload 7, 2) := by decide +kernel
theorem dX8_likeliestDoor_53 : decode cX8_likeliestDoor 53 = .ok (.istore 5, 2) := by decide +kernel
theorem dX8_likeliestDoor_55 : decode cX8_likeliestDoor 55 = .ok (.iinc 6 1, 3) := by decide +kernel
theorem dX8_likeliestDoor_58 : decode cX8_likeliestDoor 58 = .ok (.goto (-48), 3) := by decide +kernel
theorem dX8_likeliestDoor_61 : decode cX8_likeliestDoor 61 = .ok (.iload 4, 2) := by decide +kernel
theorem dX8_likeliestDoor_63 : decode cX8_likeliestDoor 63 = .ok (.ireturn, 1) := by decide +kernel
theorem dX8_differenceWith_0 : decode cX8_differenceWith 0 = .ok (.aload_n 0, 1) := by decide +kernel
theorem dX8_differenceWith_1 : decode cX8_differenceWith 1 = .ok (.getfield 12, 3) := by decide +kernel
theorem dX8_differenceWith_4 : decode cX8_differenceWith 4 = .ok (.aload_n 1, 1) := by decide +kernel
theorem dX8_differenceWith_5 : decode cX8_differenceWith 5 = .ok (.invokevirtual 18, 3) := by decide +kernel
theorem dX8_differenceWith_8 : decode cX8_differenceWith 8 = .ok (.aload_n 0, 1) := by decide +kernel
theorem dX8_differenceWith_9 : decode cX8_differenceWith 9 = .ok (.getfield 12, 3) := by decide +kernel
theorem dX8_differenceWith_12 : decode cX8_differenceWith 12 = .ok (.getfield 36, 3) := by decide +kernel
theorem dX8_differenceWith_15 : decode cX8_differenceWith 15 = .ok (.iload_n 3, 1) := by decide +kernel
theorem dX8_differenceWith_16 : decode cX8_differenceWith 16 = .ok (.aload_n 1, 1) := by decide +kernel
theorem dX8_differenceWith_17 : decode cX8_differenceWith 17 = .ok (.getfield 36, 3) := by decide +kernel
theorem dX8_differenceWith_20 : decode cX8_differenceWith 20 = .ok (.iload_n 3, 1) := by decide +kernel
theorem dX8_differenceWith_21 : decode cX8_differenceWith 21 = .ok (.invokevirtual 96, 3) := by decide +kernel
theorem dX8_differenceWith_24 : decode cX8_differenceWith 24 = .ok (.ifCond .ne 7, 3) := by decide +kernel
theorem dX8_differenceWith_27 : decode cX8_differenceWith 27 = .ok (.iconst 1, 1) := by decide +kernel
theorem dX8_differenceWith_28 : decode cX8_differenceWith 28 = .ok (.goto 4, 3) := by decide +kernel
theorem dX8_differenceWith_31 : decode cX8_differenceWith 31 = .ok (.iconst 0, 1) := by decide +kernel
theorem dX8_differenceWith_32 : decode cX8_differenceWith 32 = .ok (.invokevirtual 75, 3) := by decide +kernel
theorem dX8_differenceWith_35 : decode cX8_differenceWith 35 = .ok (.iconst 0, 1) := by decide +kernel
theorem dX8_differenceWith_36 : decode cX8_differenceWith 36 = .ok (.istore 5, 2) := by decide +kernel
theorem dX8_differenceWith_38 : decode cX8_differenceWith 38 = .ok (.iload 5, 2) := by decide +kernel
theorem dX8_differenceWith_40 : decode cX8_differenceWith 40 = .ok (.iload 4, 2) := by decide +kernel
theorem dX8_differenceWith_42 : decode cX8_differenceWith 42 = .ok (.if_icmp .ge 23, 3) := by decide +kernel
theorem dX8_differenceWith_45 : decode cX8_differenceWith 45 = .ok (.aload_n 0, 1) := by decide +kernel
theorem dX8_differenceWith_46 : decode cX8_differenceWith 46 = .ok (.getfield 12, 3) := by decide +kernel
theorem dX8_differenceWith_49 : decode cX8_differenceWith 49 = .ok (.invokevirtual 25, 3) := by decide +kernel
theorem dX8_differenceWith_52 : decode cX8_differenceWith 52 = .ok (.aload_n 0, 1) := by decide +kernel
theorem dX8_differenceWith_53 : decode cX8_differenceWith 53 = .ok (.getfield 12, 3) := by decide +kernel
theorem dX8_differenceWith_56 : decode cX8_differenceWith 56 = .ok (.invokevirtual 32, 3) := by decide +kernel
theorem dX8_differenceWith_59 : decode cX8_differenceWith 59 = .ok (.iinc 5 1, 3) := by decide +kernel
theorem dX8_differenceWith_62 : decode cX8_differenceWith 62 = .ok (.goto (-24), 3) := by decide +kernel
theorem dX8_differenceWith_65 : decode cX8_differenceWith 65 = .ok (.iconst 0, 1) := by decide +kernel
theorem dX8_differenceWith_66 : decode cX8_differenceWith 66 = .ok (.istore 5, 2) := by decide +kernel
theorem dX8_differenceWith_68 : decode cX8_differenceWith 68 = .ok (.iconst 0, 1) := by decide +kernel
theorem dX8_differenceWith_69 : decode cX8_differenceWith 69 = .ok (.istore 6, 2) := by decide +kernel
theorem dX8_differenceWith_71 : decode cX8_differenceWith 71 = .ok (.iload 6, 2) := by decide +kernel
theorem dX8_differenceWith_73 : decode cX8_differenceWith 73 = .ok (.bipush 8, 2) := by decide +kernel
theorem dX8_differenceWith_75 : decode cX8_differenceWith 75 = .ok (.if_icmp .ge 44, 3) := by decide +kernel
theorem dX8_differenceWith_78 : decode cX8_differenceWith 78 = .ok (.aload_n 2, 1) := by decide +kernel
theorem dX8_differenceWith_79 : decode cX8_differenceWith 79 = .ok (.iload 6, 2) := by decide +kernel
theorem dX8_differenceWith_81 : decode cX8_differenceWith 81 = .ok (.invokevirtual 100, 3) := by decide +kernel
theorem dX8_differenceWith_84 : decode cX8_differenceWith 84 = .ok (.ifCond .eq 29, 3) := by decide +kernel
theorem dX8_differenceWith_87 : decode cX8_differenceWith 87 = .ok (.iload 5, 2) := by decide +kernel
theorem dX8_differenceWith_89 : decode cX8_differenceWith 89 = .ok (.aload_n 0, 1) := by decide +kernel
theorem dX8_differenceWith_90 : decode cX8_differenceWith 90 = .ok (.getfield 12, 3) := by decide +kernel
theorem dX8_differenceWith_93 : decode cX8_differenceWith 93 = .ok (.getfield 83, 3) := by decide +kernel
theorem dX8_differenceWith_96 : decode cX8_differenceWith 96 = .ok (.iload 6, 2) := by decide +kernel
theorem dX8_differenceWith_98 : decode cX8_differenceWith 98 = .ok (.iaload, 1) := by decide +kernel
theorem dX8_differenceWith_99 : decode cX8_differenceWith 99 = .ok (.aload_n 2, 1) := by decide +kernel
theorem dX8_differenceWith_100 : decode cX8_differenceWith 100 = .ok (.getfield 105, 3) := by decide +kernel
theorem dX8_differenceWith_103 : decode cX8_differenceWith 103 = .ok (.iload 6, 2) := by decide +kernel
theorem dX8_differenceWith_105 : decode cX8_differenceWith 105 = .ok (.iaload, 1) := by decide +kernel
theorem dX8_differenceWith_106 : decode cX8_differenceWith 106 = .ok (.isub, 1) := by decide +kernel
theorem dX8_differenceWith_107 : decode cX8_differenceWith 107 = .ok (.invokestatic 108, 3) := by decide +kernel
theorem dX8_differenceWith_110 : decode cX8_differenceWith 110 = .ok (.iadd, 1) := by decide +kernel
theorem dX8_differenceWith_111 : decode cX8_differenceWith 111 = .ok (.istore 5, 2) := by decide +kernel
theorem dX8_differenceWith_113 : decode cX8_differenceWith 113 = .ok (.iinc 6 1, 3) := by decide +kernel
theorem dX8_differenceWith_116 : decode cX8_differenceWith 116 = .ok (.goto (-45), 3) := by decide +kernel
theorem dX8_differenceWith_119 : decode cX8_differenceWith 119 = .ok (.iload 5, 2) := by decide +kernel
theorem dX8_differenceWith_121 : decode cX8_differenceWith 121 = .ok (.ireturn, 1) := by decide +kernel
theorem dX8_rightOnes_0 : decode cX8_rightOnes 0 = .ok (.aload_n 0, 1) := by decide +kernel
theorem dX8_rightOnes_1 : decode cX8_rightOnes 1 = .ok (.getfield 12, 3) := by decide +kernel
theorem dX8_rightOnes_4 : decode cX8_rightOnes 4 = .ok (.aload_n 1, 1) := by decide +kernel
theorem dX8_rightOnes_5 : decode cX8_rightOnes 5 = .ok (.invokevirtual 18, 3) := by decide +kernel
theorem dX8_rightOnes_8 : decode cX8_rightOnes 8 = .ok (.iload 4, 2) := by decide +kernel
theorem dX8_rightOnes_10 : decode cX8_rightOnes 10 = .ok (.aload_n 1, 1) := by decide +kernel
theorem dX8_rightOnes_11 : decode cX8_rightOnes 11 = .ok (.invokevirtual 113, 3) := by decide +kernel
theorem dX8_rightOnes_14 : decode cX8_rightOnes 14 = .ok (.invokestatic 116, 3) := by decide +kernel
theorem dX8_rightOnes_17 : decode cX8_rightOnes 17 = .ok (.istore 5, 2) := by decide +kernel
theorem dX8_rightOnes_19 : decode cX8_rightOnes 19 = .ok (.iconst 0, 1) := by decide +kernel
theorem dX8_rightOnes_20 : decode cX8_rightOnes 20 = .ok (.istore 6, 2) := by decide +kernel
theorem dX8_rightOnes_22 : decode cX8_rightOnes 22 = .ok (.iconst 0, 1) := by decide +kernel
theorem dX8_rightOnes_23 : decode cX8_rightOnes 23 = .ok (.istore 7, 2) := by decide +kernel
theorem dX8_rightOnes_25 : decode cX8_rightOnes 25 = .ok (.iload 7, 2) := by decide +kernel
theorem dX8_rightOnes_27 : decode cX8_rightOnes 27 = .ok (.iload 5, 2) := by decide +kernel
theorem dX8_rightOnes_29 : decode cX8_rightOnes 29 = .ok (.if_icmp .ge 68, 3) := by decide +kernel
theorem dX8_rightOnes_32 : decode cX8_rightOnes 32 = .ok (.aload_n 0, 1) := by decide +kernel
theorem dX8_rightOnes_33 : decode cX8_rightOnes 33 = .ok (.getfield 12, 3) := by decide +kernel
theorem dX8_rightOnes_36 : decode cX8_rightOnes 36 = .ok (.invokevirtual 22, 3) := by decide +kernel
theorem dX8_rightOnes_39 : decode cX8_rightOnes 39 = .ok (.iload 6, 2) := by decide +kernel
theorem dX8_rightOnes_41 : decode cX8_rightOnes 41 = .ok (.iload_n 3, 1) := by decide +kernel
theorem dX8_rightOnes_42 : decode cX8_rightOnes 42 = .ok (.if_icmp .ge 17, 3) := by decide +kernel
theorem dX8_rightOnes_45 : decode cX8_rightOnes 45 = .ok (.aload_n 2, 1) := by decide +kernel
theorem dX8_rightOnes_46 : decode cX8_rightOnes 46 = .ok (.iload 6, 2) := by decide +kernel
theorem dX8_rightOnes_48 : decode cX8_rightOnes 48 = .ok (.iaload, 1) := by decide +kernel
theorem dX8_rightOnes_49 : decode cX8_rightOnes 49 = .ok (.aload_n 0, 1) := by decide +kernel
theorem dX8_rightOnes_50 : decode cX8_rightOnes 50 = .ok (.getfield 12, 3) := by decide +kernel
theorem dX8_rightOnes_53 : decode cX8_rightOnes 53 = .ok (.invokevirtual 120, 3) := by decide +kernel
theorem dX8_rightOnes_56 : decode cX8_rightOnes 56 = .ok (.if_icmp .eq 6, 3) := by decide +kernel
theorem dX8_rightOnes_59 : decode cX8_rightOnes 59 = .ok (.iload 6, 2) := by decide +kernel
theorem dX8_rightOnes_61 : decode cX8_rightOnes 61 = .ok (.ireturn, 1) := by decide +kernel
theorem dX8_rightOnes_62 : decode cX8_rightOnes 62 = .ok (.iinc 6 1, 3) := by decide +kernel
theorem dX8_rightOnes_65 : decode cX8_rightOnes 65 = .ok (.iload 6, 2) := by decide +kernel
theorem dX8_rightOnes_67 : decode cX8_rightOnes 67 = .ok (.iload_n 3, 1) := by decide +kernel
theorem dX8_rightOnes_68 : decode cX8_rightOnes 68 = .ok (.if_icmp .ge 17, 3) := by decide +kernel
theorem dX8_rightOnes_71 : decode cX8_rightOnes 71 = .ok (.aload_n 2, 1) := by decide +kernel
theorem dX8_rightOnes_72 : decode cX8_rightOnes 72 = .ok (.iload 6, 2) := by decide +kernel
theorem dX8_rightOnes_74 : decode cX8_rightOnes 74 = .ok (.iaload, 1) := by decide +kernel
theorem dX8_rightOnes_75 : decode cX8_rightOnes 75 = .ok (.aload_n 0, 1) := by decide +kernel
theorem dX8_rightOnes_76 : decode cX8_rightOnes 76 = .ok (.getfield 12, 3) := by decide +kernel
theorem dX8_rightOnes_79 : decode cX8_rightOnes 79 = .ok (.getfield 86, 3) := by decide +kernel
theorem dX8_rightOnes_82 : decode cX8_rightOnes 82 = .ok (.if_icmp .eq 6, 3) := by decide +kernel
theorem dX8_rightOnes_85 : decode cX8_rightOnes 85 = .ok (.iload 6, 2) := by decide +kernel
theorem dX8_rightOnes_87 : decode cX8_rightOnes 87 = .ok (.ireturn, 1) := by decide +kernel
theorem dX8_rightOnes_88 : decode cX8_rightOnes 88 = .ok (.iinc 6 1, 3) := by decide +kernel
theorem dX8_rightOnes_91 : decode cX8_rightOnes 91 = .ok (.iinc 7 1, 3) := by decide +kernel
theorem dX8_rightOnes_94 : decode cX8_rightOnes 94 = .ok (.goto (-69), 3) := by decide +kernel
theorem dX8_rightOnes_97 : decode cX8_rightOnes 97 = .ok (.iload 6, 2) := by decide +kernel
theorem dX8_rightOnes_99 : decode cX8_rightOnes 99 = .ok (.ireturn, 1) := by decide +kernel
