theorem dX4_init_0 : decode cX4_init 0 = .ok (.aload_n 0, 1) := by decide +kernel
theorem dX4_init_1 : decode cX4_init 1 = .ok (.invokespecial 3, 3) := by decide +kernel
theorem dX4_init_4 : decode cX4_init 4 = .ok (.aload_n 0, 1) := by decide +kernel
theorem dX4_init_5 : decode cX4_init 5 = .ok (.bipush 96, 2) := by decide +kernel
theorem dX4_init_7 : decode cX4_init 7 = .ok (.newarray .byte, 2) := by decide +kernel
theorem dX4_init_9 : decode cX4_init 9 = .ok (.putfield 9, 3) := by decide +kernel
theorem dX4_init_12 : decode cX4_init 12 = .ok (.aload_n 0, 1) := by decide +kernel
theorem dX4_init_13 : decode cX4_init 13 = .ok (.bipush 96, 2) := by decide +kernel
theorem dX4_init_15 : decode cX4_init 15 = .ok (.newarray .int, 2) := by decide +kernel
theorem dX4_init_17 : decode cX4_init 17 = .ok (.putfield 15, 3) := by decide +kernel
theorem dX4_init_20 : decode cX4_init 20 = .ok (.return_, 1) := by decide +kernel
theorem dX4_putBytes_0 : decode cX4_putBytes 0 = .ok (.bipush 24, 2) := by decide +kernel
theorem dX4_putBytes_2 : decode cX4_putBytes 2 = .ok (.istore_n 2, 1) := by decide +kernel
theorem dX4_putBytes_3 : decode cX4_putBytes 3 = .ok (.iload_n 2, 1) := by decide +kernel
theorem dX4_putBytes_4 : decode cX4_putBytes 4 = .ok (.ifCond .lt 41, 3) := by decide +kernel
theorem dX4_putBytes_7 : decode cX4_putBytes 7 = .ok (.aload_n 0, 1) := by decide +kernel
theorem dX4_putBytes_8 : decode cX4_putBytes 8 = .ok (.getfield 19, 3) := by decide +kernel
theorem dX4_putBytes_11 : decode cX4_putBytes 11 = .ok (.bipush 96, 2) := by decide +kernel
theorem dX4_putBytes_13 : decode cX4_putBytes 13 = .ok (.if_icmp .ge 32, 3) := by decide +kernel
theorem dX4_putBytes_16 : decode cX4_putBytes 16 = .ok (.aload_n 0, 1) := by decide +kernel
theorem dX4_putBytes_17 : decode cX4_putBytes 17 = .ok (.getfield 9, 3) := by decide +kernel
theorem dX4_putBytes_20 : decode cX4_putBytes 20 = .ok (.aload_n 0, 1) := by decide +kernel
theorem dX4_putBytes_21 : decode cX4_putBytes 21 = .ok (.getfield 19, 3) := by decide +kernel
theorem dX4_putBytes_24 : decode cX4_putBytes 24 = .ok (.iload_n 1, 1) := by decide +kernel
theorem dX4_putBytes_25 : decode cX4_putBytes 25 = .ok (.iload_n 2, 1) := by decide +kernel
theorem dX4_putBytes_26 : decode cX4_putBytes 26 = .ok (.iushr, 1) := by decide +kernel
theorem dX4_putBytes_27 : decode cX4_putBytes 27 = .ok (.i2b, 1) := by decide +kernel
theorem dX4_putBytes_28 : decode cX4_putBytes 28 = .ok (.bastore, 1) := by decide +kernel
theorem dX4_putBytes_29 : decode cX4_putBytes 29 = .ok (.aload_n 0, 1) := by decide +kernel
theorem dX4_putBytes_30 : decode cX4_putBytes 30 = .ok (.dup, 1) := by decide +kernel
theorem dX4_putBytes_31 : decode cX4_putBytes 31 = .ok (.getfield 19, 3) := by decide +kernel
theorem dX4_putBytes_34 : decode cX4_putBytes 34 = .ok (.iconst 1, 1) := by decide +kernel
theorem dX4_putBytes_35 : decode cX4_putBytes 35 = .ok (.iadd, 1) := by decide +kernel
theorem dX4_putBytes_36 : decode cX4_putBytes 36 = .ok (.putfield 19, 3) := by decide +kernel
theorem dX4_putBytes_39 : decode cX4_putBytes 39 = .ok (.iinc 2 (-8), 3) := by decide +kernel
theorem dX4_putBytes_42 : decode cX4_putBytes 42 = .ok (.goto (-39), 3) := by decide +kernel
theorem dX4_putBytes_45 : decode cX4_putBytes 45 = .ok (.return_, 1) := by decide +kernel
theorem dX4_faultFound_0 : decode cX4_faultFound 0 = .ok (.aload_n 0, 1) := by decide +kernel
theorem dX4_faultFound_1 : decode cX4_faultFound 1 = .ok (.iconst 0, 1) := by decide +kernel
theorem dX4_faultFound_2 : decode cX4_faultFound 2 = .ok (.putfield 23, 3) := by decide +kernel
theorem dX4_faultFound_5 : decode cX4_faultFound 5 = .ok (.aload_n 0, 1) := by decide +kernel
theorem dX4_faultFound_6 : decode cX4_faultFound 6 = .ok (.iconst 0, 1) := by decide +kernel
theorem dX4_faultFound_7 : decode cX4_faultFound 7 = .ok (.putfield 26, 3) := by decide +kernel
theorem dX4_faultFound_10 : decode cX4_faultFound 10 = .ok (.aload_n 0, 1) := by decide +kernel
theorem dX4_faultFound_11 : decode cX4_faultFound 11 = .ok (.iconst 0, 1) := by decide +kernel
theorem dX4_faultFound_12 : decode cX4_faultFound 12 = .ok (.putfield 29, 3) := by decide +kernel
theorem dX4_faultFound_15 : decode cX4_faultFound 15 = .ok (.aload_n 0, 1) := by decide +kernel
theorem dX4_faultFound_16 : decode cX4_faultFound 16 = .ok (.iconst 0, 1) := by decide +kernel
theorem dX4_faultFound_17 : decode cX4_faultFound 17 = .ok (.putfield 32, 3) := by decide +kernel
theorem dX4_faultFound_20 : decode cX4_faultFound 20 = .ok (.aload_n 0, 1) := by decide +kernel
theorem dX4_faultFound_21 : decode cX4_faultFound 21 = .ok (.ldc 35, 2) := by decide +kernel
theorem dX4_faultFound_23 : decode cX4_faultFound 23 = .ok (.putfield 36, 3) := by decide +kernel
theorem dX4_faultFound_26 : decode cX4_faultFound 26 = .ok (.aload_n 0, 1) := by decide +kernel
theorem dX4_faultFound_27 : decode cX4_faultFound 27 = .ok (.invokevirtual 39, 3) := by decide +kernel
theorem dX4_faultFound_30 : decode cX4_faultFound 30 = .ok (.aload_n 0, 1) := by decide +kernel
theorem dX4_faultFound_31 : decode cX4_faultFound 31 = .ok (.invokevirtual 42, 3) := by decide +kernel
theorem dX4_faultFound_34 : decode cX4_faultFound 34 = .ok (.aload_n 0, 1) := by decide +kernel
theorem dX4_faultFound_35 : decode cX4_faultFound 35 = .ok (.getfield 36, 3) := by decide +kernel
theorem dX4_faultFound_38 : decode cX4_faultFound 38 = .ok (.ldc 35, 2) := by decide +kernel
theorem dX4_faultFound_40 : decode cX4_faultFound 40 = .ok (.if_icmp .ne 10, 3) := by decide +kernel
theorem dX4_faultFound_43 : decode cX4_faultFound 43 = .ok (.aload_n 0, 1) := by decide +kernel
theorem dX4_faultFound_44 : decode cX4_faultFound 44 = .ok (.iconst 0, 1) := by decide +kernel
theorem dX4_faultFound_45 : decode cX4_faultFound 45 = .ok (.iconst 0, 1) := by decide +kernel
theorem dX4_faultFound_46 : decode cX4_faultFound 46 = .ok (.iconst 0, 1) := by decide +kernel
theorem dX4_faultFound_47 : decode cX4_faultFound 47 = .ok (.invokevirtual 45, 3) := by decide +kernel
theorem dX4_faultFound_50 : decode cX4_faultFound 50 = .ok (.aload_n 0, 1) := by decide +kernel
theorem dX4_faultFound_51 : decode cX4_faultFound 51 = .ok (.getfield 36, 3) := by decide +kernel
theorem dX4_faultFound_54 : decode cX4_faultFound 54 = .ok (.ldc 35, 2) := by decide +kernel
theorem dX4_faultFound_56 : decode cX4_faultFound 56 = .ok (.if_icmp .ne 18, 3) := by decide +kernel
theorem dX4_faultFound_59 : decode cX4_faultFound 59 = .ok (.aload_n 0, 1) := by decide +kernel
theorem dX4_faultFound_60 : decode cX4_faultFound 60 = .ok (.getfield 26, 3) := by decide +kernel
theorem dX4_faultFound_63 : decode cX4_faultFound 63 = .ok (.ifCond .eq 11, 3) := by decide +kernel
theorem dX4_faultFound_66 : decode cX4_faultFound 66 = .ok (.aload_n 0, 1) := by decide +kernel
theorem dX4_faultFound_67 : decode cX4_faultFound 67 = .ok (.aload_n 0, 1) := by decide +kernel
theorem dX4_faultFound_68 : decode cX4_faultFound 68 = .ok (.getfield 49, 3) := by decide +kernel
theorem dX4_faultFound_71 : decode cX4_faultFound 71 = .ok (.putfield 36, 3) := by decide +kernel
theorem dX4_faultFound_74 : decode cX4_faultFound 74 = .ok (.aload_n 0, 1) := by decide +kernel
theorem dX4_faultFound_75 : decode cX4_faultFound 75 = .ok (.getfield 36, 3) := by decide +kernel
theorem dX4_faultFound_78 : decode cX4_faultFound 78 = .ok (.ireturn, 1) := by decide +kernel
theorem dX4_lawRead_0 : decode cX4_lawRead 0 = .ok (.new 52, 3) := by decide +kernel
theorem dX4_lawRead_3 : decode cX4_lawRead 3 = .ok (.dup, 1) := by decide +kernel
theorem dX4_lawRead_4 : decode cX4_lawRead 4 = .ok (.aload_n 0, 1) := by decide +kernel
theorem dX4_lawRead_5 : decode cX4_lawRead 5 = .ok (.getfield 54, 3) := by decide +kernel
theorem dX4_lawRead_8 : decode cX4_lawRead 8 = .ok (.aload_n 0, 1) := by decide +kernel
theorem dX4_lawRead_9 : decode cX4_lawRead 9 = .ok (.getfield 29, 3) := by decide +kernel
theorem dX4_lawRead_12 : decode cX4_lawRead 12 = .ok (.aload_n 0, 1) := by decide +kernel
theorem dX4_lawRead_13 : decode cX4_lawRead 13 = .ok (.getfield 15, 3) := by decide +kernel
theorem dX4_lawRead_16 : decode cX4_lawRead 16 = .ok (.aload_n 0, 1) := by decide +kernel
theorem dX4_lawRead_17 : decode cX4_lawRead 17 = .ok (.getfield 32, 3) := by decide +kernel
theorem dX4_lawRead_20 : decode cX4_lawRead 20 = .ok (.invokestatic 57, 3) := by decide +kernel
theorem dX4_lawRead_23 : decode cX4_lawRead 23 = .ok (.invokespecial 63, 3) := by decide +kernel
theorem dX4_lawRead_26 : decode cX4_lawRead 26 = .ok (.areturn, 1) := by decide +kernel
theorem dX4_readKey_0 : decode cX4_readKey 0 = .ok (.aload_n 0, 1) := by decide +kernel
theorem dX4_readKey_1 : decode cX4_readKey 1 = .ok (.ldc 66, 2) := by decide +kernel
theorem dX4_readKey_3 : decode cX4_readKey 3 = .ok (.invokevirtual 68, 3) := by decide +kernel
theorem dX4_readKey_6 : decode cX4_readKey 6 = .ok (.ifCond .eq 11, 3) := by decide +kernel
theorem dX4_readKey_9 : decode cX4_readKey 9 = .ok (.aload_n 0, 1) := by decide +kernel
theorem dX4_readKey_10 : decode cX4_readKey 10 = .ok (.iconst 0, 1) := by decide +kernel
theorem dX4_readKey_11 : decode cX4_readKey 11 = .ok (.putfield 54, 3) := by decide +kernel
theorem dX4_readKey_14 : decode cX4_readKey 14 = .ok (.goto 46, 3) := by decide +kernel
theorem dX4_readKey_17 : decode cX4_readKey 17 = .ok (.aload_n 0, 1) := by decide +kernel
theorem dX4_readKey_18 : decode cX4_readKey 18 = .ok (.ldc 74, 2) := by decide +kernel
theorem dX4_readKey_20 : decode cX4_readKey 20 = .ok (.invokevirtual 68, 3) := by decide +kernel
theorem dX4_readKey_23 : decode cX4_readKey 23 = .ok (.ifCond .eq 11, 3) := by decide +kernel
theorem dX4_readKey_26 : decode cX4_readKey 26 = .ok (.aload_n 0, 1) := by decide +kernel
theorem dX4_readKey_27 : decode cX4_readKey 27 = .ok (.iconst 1, 1) := by decide +kernel
theorem dX4_readKey_28 : decode cX4_readKey 28 = .ok (.putfield 54, 3) := by decide +kernel
theorem dX4_readKey_31 : decode cX4_readKey 31 = .ok (.goto 29, 3) := by decide +kernel
theorem dX4_readKey_34 : decode cX4_readKey 34 = .ok (.aload_n 0, 1) := by decide +kernel
theorem dX4_readKey_35 : decode cX4_readKey 35 = .ok (.ldc 76, 2) := by decide +kernel
theorem dX4_readKey_37 : decode cX4_readKey 37 = .ok (.invokevirtual 68, 3) := by decide +kernel
theorem dX4_readKey_40 : decode cX4_readKey 40 = .ok (.ifCond .eq 11, 3) := by decide +kernel
theorem dX4_readKey_43 : decode cX4_readKey 43 = .ok (.aload_n 0, 1) := by decide +kernel
theorem dX4_readKey_44 : decode cX4_readKey 44 = .ok (.iconst 2, 1) := by decide +kernel
theorem dX4_readKey_45 : decode cX4_readKey 45 = .ok (.putfield 54, 3) := by decide +kernel
theorem dX4_readKey_48 : decode cX4_readKey 48 = .ok (.goto 12, 3) := by decide +kernel
theorem dX4_readKey_51 : decode cX4_readKey 51 = .ok (.aload_n 0, 1) := by decide +kernel
theorem dX4_readKey_52 : decode cX4_readKey 52 = .ok (.aload_n 0, 1) := by decide +kernel
theorem dX4_readKey_53 : decode cX4_readKey 53 = .ok (.getfield 49, 3) := by decide +kernel
theorem dX4_readKey_56 : decode cX4_readKey 56 = .ok (.putfield 36, 3) := by decide +kernel
theorem dX4_readKey_59 : decode cX4_readKey 59 = .ok (.return_, 1) := by decide +kernel
theorem dX4_readKey_60 : decode cX4_readKey 60 = .ok (.aload_n 0, 1) := by decide +kernel
theorem dX4_readKey_61 : decode cX4_readKey 61 = .ok (.invokevirtual 39, 3) := by decide +kernel
theorem dX4_readKey_64 : decode cX4_readKey 64 = .ok (.return_, 1) := by decide +kernel
theorem dX4_signsOf_0 : decode cX4_signsOf 0 = .ok (.iload_n 0, 1) := by decide +kernel
theorem dX4_signsOf_1 : decode cX4_signsOf 1 = .ok (.tableswitch 43 0 3 #[31, 34, 37, 40], 31) := by decide +kernel
theorem dX4_signsOf_32 : decode cX4_signsOf 32 = .ok (.ldc 78, 2) := by decide +kernel
theorem dX4_signsOf_34 : decode cX4_signsOf 34 = .ok (.areturn, 1) := by decide +kernel
theorem dX4_signsOf_35 : decode cX4_signsOf 35 = .ok (.ldc 80, 2) := by decide +kernel
theorem dX4_signsOf_37 : decode cX4_signsOf 37 = .ok (.areturn, 1) := by decide +kernel
theorem dX4_signsOf_38 : decode cX4_signsOf 38 = .ok (.ldc 82, 2) := by decide +kernel
theorem dX4_signsOf_40 : decode cX4_signsOf 40 = .ok (.areturn, 1) := by decide +kernel
theorem dX4_signsOf_41 : decode cX4_signsOf 41 = .ok (.ldc 84, 2) := by decide +kernel
theorem dX4_signsOf_43 : decode cX4_signsOf 43 = .ok (.areturn, 1) := by decide +kernel
theorem dX4_signsOf_44 : decode cX4_signsOf 44 = .ok (.ldc 86, 2) := by decide +kernel
theorem dX4_signsOf_46 : decode cX4_signsOf 46 = .ok (.areturn, 1) := by decide +kernel
theorem dX4_readLevel_0 : decode cX4_readLevel 0 = .ok (.iload_n 1, 1) := by decide +kernel
theorem dX4_readLevel_1 : decode cX4_readLevel 1 = .ok (.iconst 4, 1) := by decide +kernel
theorem dX4_readLevel_2 : decode cX4_readLevel 2 = .ok (.if_icmp .le 10, 3) := by decide +kernel
theorem dX4_readLevel_5 : decode cX4_readLevel 5 = .ok (.aload_n 0, 1) := by decide +kernel
theorem dX4_readLevel_6 : decode cX4_readLevel 6 = .ok (.iload_n 2, 1) := by decide +kernel
theorem dX4_readLevel_7 : decode cX4_readLevel 7 = .ok (.iload_n 3, 1) := by decide +kernel
theorem dX4_readLevel_8 : decode cX4_readLevel 8 = .ok (.invokevirtual 88, 3) := by decide +kernel
theorem dX4_readLevel_11 : decode cX4_readLevel 11 = .ok (.return_, 1) := by decide +kernel
theorem dX4_readLevel_12 : decode cX4_readLevel 12 = .ok (.aload_n 0, 1) := by decide +kernel
theorem dX4_readLevel_13 : decode cX4_readLevel 13 = .ok (.iload_n 1, 1) := by decide +kernel
theorem dX4_readLevel_14 : decode cX4_readLevel 14 = .ok (.iconst 1, 1) := by decide +kernel
theorem dX4_readLevel_15 : decode cX4_readLevel 15 = .ok (.iadd, 1) := by decide +kernel
theorem dX4_readLevel_16 : decode cX4_readLevel 16 = .ok (.iload_n 2, 1) := by decide +kernel
theorem dX4_readLevel_17 : decode cX4_readLevel 17 = .ok (.iload_n 3, 1) := by decide +kernel
theorem dX4_readLevel_18 : decode cX4_readLevel 18 = .ok (.invokevirtual 45, 3) := by decide +kernel
theorem dX4_readLevel_21 : decode cX4_readLevel 21 = .ok (.iload_n 1, 1) := by decide +kernel
theorem dX4_readLevel_22 : decode cX4_readLevel 22 = .ok (.iconst 2, 1) := by decide +kernel
theorem dX4_readLevel_23 : decode cX4_readLevel 23 = .ok (.if_icmp .ne 7, 3) := by decide +kernel
theorem dX4_readLevel_26 : decode cX4_readLevel 26 = .ok (.iconst 1, 1) := by decide +kernel
theorem dX4_readLevel_27 : decode cX4_readLevel 27 = .ok (.goto 5, 3) := by decide +kernel
theorem dX4_readLevel_30 : decode cX4_readLevel 30 = .ok (.bipush 96, 2) := by decide +kernel
theorem dX4_readLevel_32 : decode cX4_readLevel 32 = .ok (.istore 4, 2) := by decide +kernel
theorem dX4_readLevel_34 : decode cX4_readLevel 34 = .ok (.iconst 0, 1) := by decide +kernel
theorem dX4_readLevel_35 : decode cX4_readLevel 35 = .ok (.istore 5, 2) := by decide +kernel
theorem dX4_readLevel_37 : decode cX4_readLevel 37 = .ok (.iload 5, 2) := by decide +kernel
theorem dX4_readLevel_39 : decode cX4_readLevel 39 = .ok (.iload 4, 2) := by decide +kernel
theorem dX4_readLevel_41 : decode cX4_readLevel 41 = .ok (.if_icmp .ge 60, 3) := by decide +kernel
theorem dX4_readLevel_44 : decode cX4_readLevel 44 = .ok (.aload_n 0, 1) := by decide +kernel
theorem dX4_readLevel_45 : decode cX4_readLevel 45 = .ok (.getfield 36, 3) := by decide +kernel
theorem dX4_readLevel_48 : decode cX4_readLevel 48 = .ok (.ldc 35, 2) := by decide +kernel
theorem dX4_readLevel_50 : decode cX4_readLevel 50 = .ok (.if_icmp .ne 51, 3) := by decide +kernel
theorem dX4_readLevel_53 : decode cX4_readLevel 53 = .ok (.aload_n 0, 1) := by decide +kernel
theorem dX4_readLevel_54 : decode cX4_readLevel 54 = .ok (.iload_n 1, 1) := by decide +kernel
theorem dX4_readLevel_55 : decode cX4_readLevel 55 = .ok (.invokestatic 92, 3) := by decide +kernel
theorem dX4_readLevel_58 : decode cX4_readLevel 58 = .ok (.invokevirtual 96, 3) := by decide +kernel
theorem dX4_readLevel_61 : decode cX4_readLevel 61 = .ok (.ifCond .eq 40, 3) := by decide +kernel
theorem dX4_readLevel_64 : decode cX4_readLevel 64 = .ok (.aload_n 0, 1) := by decide +kernel
theorem dX4_readLevel_65 : decode cX4_readLevel 65 = .ok (.getfield 9, 3) := by decide +kernel
theorem dX4_readLevel_68 : decode cX4_readLevel 68 = .ok (.aload_n 0, 1) := by decide +kernel
theorem dX4_readLevel_69 : decode cX4_readLevel 69 = .ok (.getfield 49, 3) := by decide +kernel
theorem dX4_readLevel_72 : decode cX4_readLevel 72 = .ok (.baload, 1) := by decide +kernel
theorem dX4_readLevel_73 : decode cX4_readLevel 73 = .ok (.istore 6, 2) := by decide +kernel
theorem dX4_readLevel_75 : decode cX4_readLevel 75 = .ok (.aload_n 0, 1) := by decide +kernel
theorem dX4_readLevel_76 : decode cX4_readLevel 76 = .ok (.invokevirtual 39, 3) := by decide +kernel
theorem dX4_readLevel_79 : decode cX4_readLevel 79 = .ok (.aload_n 0, 1) := by decide +kernel
theorem dX4_readLevel_80 : decode cX4_readLevel 80 = .ok (.iload_n 1, 1) := by decide +kernel
theorem dX4_readLevel_81 : decode cX4_readLevel 81 = .ok (.iconst 1, 1) := by decide +kernel
theorem dX4_readLevel_82 : decode cX4_readLevel 82 = .ok (.iadd, 1) := by decide +kernel
theorem dX4_readLevel_83 : decode cX4_readLevel 83 = .ok (.iload_n 2, 1) := by decide +kernel
theorem dX4_readLevel_84 : decode cX4_readLevel 84 = .ok (.iload_n 3, 1) := by decide +kernel
theorem dX4_readLevel_85 : decode cX4_readLevel 85 = .ok (.invokevirtual 45, 3) := by decide +kernel
theorem dX4_readLevel_88 : decode cX4_readLevel 88 = .ok (.aload_n 0, 1) := by decide +kernel
theorem dX4_readLevel_89 : decode cX4_readLevel 89 = .ok (.iload 6, 2) := by decide +kernel
theorem dX4_readLevel_91 : decode cX4_readLevel 91 = .ok (.ineg, 1) := by decide +kernel
theorem dX4_readLevel_92 : decode cX4_readLevel 92 = .ok (.invokevirtual 99, 3) := by decide +kernel
theorem dX4_readLevel_95 : decode cX4_readLevel 95 = .ok (.iinc 5 1, 3) := by decide +kernel
theorem dX4_readLevel_98 : decode cX4_readLevel 98 = .ok (.goto (-61), 3) := by decide +kernel
theorem dX4_readLevel_101 : decode cX4_readLevel 101 = .ok (.return_, 1) := by decide +kernel
theorem dX4_readPiece_0 : decode cX4_readPiece 0 = .ok (.aload_n 0, 1) := by decide +kernel
theorem dX4_readPiece_1 : decode cX4_readPiece 1 = .ok (.getfield 26, 3) := by decide +kernel
theorem dX4_readPiece_4 : decode cX4_readPiece 4 = .ok (.iconst 2, 1) := by decide +kernel
theorem dX4_readPiece_5 : decode cX4_readPiece 5 = .ok (.if_icmp .ne 27, 3) := by decide +kernel
theorem dX4_readPiece_8 : decode cX4_readPiece 8 = .ok (.aload_n 0, 1) := by decide +kernel
theorem dX4_readPiece_9 : decode cX4_readPiece 9 = .ok (.getfield 23, 3) := by decide +kernel
theorem dX4_readPiece_12 : decode cX4_readPiece 12 = .ok (.aload_n 0, 1) := by decide +kernel
theorem dX4_readPiece_13 : decode cX4_readPiece 13 = .ok (.getfield 49, 3) := by decide +kernel
theorem dX4_readPiece_16 : decode cX4_readPiece 16 = .ok (.isub, 1) := by decide +kernel
theorem dX4_readPiece_17 : decode cX4_readPiece 17 = .ok (.iconst 4, 1) := by decide +kernel
theorem dX4_readPiece_18 : decode cX4_readPiece 18 = .ok (.if_icmp .gt 14, 3) := by decide +kernel
theorem dX4_readPiece_21 : decode cX4_readPiece 21 = .ok (.aload_n 0, 1) := by decide +kernel
theorem dX4_readPiece_22 : decode cX4_readPiece 22 = .ok (.aload_n 0, 1) := by decide +kernel
theorem dX4_readPiece_23 : decode cX4_readPiece 23 = .ok (.invokevirtual 103, 3) := by decide +kernel
theorem dX4_readPiece_26 : decode cX4_readPiece 26 = .ok (.invokevirtual 107, 3) := by decide +kernel
theorem dX4_readPiece_29 : decode cX4_readPiece 29 = .ok (.goto 121, 3) := by decide +kernel
theorem dX4_readPiece_32 : decode cX4_readPiece 32 = .ok (.aload_n 0, 1) := by decide +kernel
theorem dX4_readPiece_33 : decode cX4_readPiece 33 = .ok (.aload_n 0, 1) := by decide +kernel
theorem dX4_readPiece_34 : decode cX4_readPiece 34 = .ok (.invokevirtual 110, 3) := by decide +kernel
theorem dX4_readPiece_37 : decode cX4_readPiece 37 = .ok (.invokevirtual 68, 3) := by decide +kernel
theorem dX4_readPiece_40 : decode cX4_readPiece 40 = .ok (.ifCond .eq 11, 3) := by decide +kernel
theorem dX4_readPiece_43 : decode cX4_readPiece 43 = .ok (.aload_n 0, 1) := by decide +kernel
theorem dX4_readPiece_44 : decode cX4_readPiece 44 = .ok (.iconst (-1), 1) := by decide +kernel
theorem dX4_readPiece_45 : decode cX4_readPiece 45 = .ok (.invokevirtual 107, 3) := by decide +kernel
theorem dX4_readPiece_48 : decode cX4_readPiece 48 = .ok (.goto 102, 3) := by decide +kernel
theorem dX4_readPiece_51 : decode cX4_readPiece 51 = .ok (.aload_n 0, 1) := by decide +kernel
theorem dX4_readPiece_52 : decode cX4_readPiece 52 = .ok (.aload_n 0, 1) := by decide +kernel
theorem dX4_readPiece_53 : decode cX4_readPiece 53 = .ok (.invokevirtual 114, 3) := by decide +kernel
theorem dX4_readPiece_56 : decode cX4_readPiece 56 = .ok (.invokevirtual 68, 3) := by decide +kernel
theorem dX4_readPiece_59 : decode cX4_readPiece 59 = .ok (.ifCond .eq 12, 3) := by decide +kernel
theorem dX4_readPiece_62 : decode cX4_readPiece 62 = .ok (.aload_n 0, 1) := by decide +kernel
theorem dX4_readPiece_63 : decode cX4_readPiece 63 = .ok (.bipush (-2), 2) := by decide +kernel
theorem dX4_readPiece_65 : decode cX4_readPiece 65 = .ok (.invokevirtual 107, 3) := by decide +kernel
theorem dX4_readPiece_68 : decode cX4_readPiece 68 = .ok (.goto 82, 3) := by decide +kernel
theorem dX4_readPiece_71 : decode cX4_readPiece 71 = .ok (.aload_n 0, 1) := by decide +kernel
theorem dX4_readPiece_72 : decode cX4_readPiece 72 = .ok (.ldc 117, 2) := by decide +kernel
theorem dX4_readPiece_74 : decode cX4_readPiece 74 = .ok (.invokevirtual 96, 3) := by decide +kernel
theorem dX4_readPiece_77 : decode cX4_readPiece 77 = .ok (.ifCond .eq 30, 3) := by decide +kernel
theorem dX4_readPiece_80 : decode cX4_readPiece 80 = .ok (.iload_n 2, 1) := by decide +kernel
theorem dX4_readPiece_81 : decode cX4_readPiece 81 = .ok (.bipush 8, 2) := by decide +kernel
theorem dX4_readPiece_83 : decode cX4_readPiece 83 = .ok (.if_icmp .ge 24, 3) := by decide +kernel
theorem dX4_readPiece_86 : decode cX4_readPiece 86 = .ok (.aload_n 0, 1) := by decide +kernel
theorem dX4_readPiece_87 : decode cX4_readPiece 87 = .ok (.invokevirtual 39, 3) := by decide +kernel
theorem dX4_readPiece_90 : decode cX4_readPiece 90 = .ok (.aload_n 0, 1) := by decide +kernel
theorem dX4_readPiece_91 : decode cX4_readPiece 91 = .ok (.iload_n 1, 1) := by decide +kernel
theorem dX4_readPiece_92 : decode cX4_readPiece 92 = .ok (.iload_n 2, 1) := by decide +kernel
theorem dX4_readPiece_93 : decode cX4_readPiece 93 = .ok (.iconst 1, 1) := by decide +kernel
theorem dX4_readPiece_94 : decode cX4_readPiece 94 = .ok (.iadd, 1) := by decide +kernel
theorem dX4_readPiece_95 : decode cX4_readPiece 95 = .ok (.invokevirtual 88, 3) := by decide +kernel
theorem dX4_readPiece_98 : decode cX4_readPiece 98 = .ok (.aload_n 0, 1) := by decide +kernel
theorem dX4_readPiece_99 : decode cX4_readPiece 99 = .ok (.bipush (-33), 2) := by decide +kernel
theorem dX4_readPiece_101 : decode cX4_readPiece 101 = .ok (.invokevirtual 99, 3) := by decide +kernel
theorem dX4_readPiece_104 : decode cX4_readPiece 104 = .ok (.goto 46, 3) := by decide +kernel
theorem dX4_readPiece_107 : decode cX4_readPiece 107 = .ok (.aload_n 0, 1) := by decide +kernel
theorem dX4_readPiece_108 : decode cX4_readPiece 108 = .ok (.ldc 119, 2) := by decide +kernel
theorem dX4_readPiece_110 : decode cX4_readPiece 110 = .ok (.invokevirtual 96, 3) := by decide +kernel
theorem dX4_readPiece_113 : decode cX4_readPiece 113 = .ok (.ifCond .eq 29, 3) := by decide +kernel
theorem dX4_readPiece_116 : decode cX4_readPiece 116 = .ok (.iload_n 1, 1) := by decide +kernel
theorem dX4_readPiece_117 : decode cX4_readPiece 117 = .ok (.bipush 8, 2) := by decide +kernel
theorem dX4_readPiece_119 : decode cX4_readPiece 119 = .ok (.if_icmp .ge 23, 3) := by decide +kernel
theorem dX4_readPiece_122 : decode cX4_readPiece 122 = .ok (.aload_n 0, 1) := by decide +kernel
theorem dX4_readPiece_123 : decode cX4_readPiece 123 = .ok (.invokevirtual 39, 3) := by decide +kernel
theorem dX4_readPiece_126 : decode cX4_readPiece 126 = .ok (.aload_n 0, 1) := by decide +kernel
theorem dX4_readPiece_127 : decode cX4_readPiece 127 = .ok (.iconst 0, 1) := by decide +kernel
theorem dX4_readPiece_128 : decode cX4_readPiece 128 = .ok (.iload_n 1, 1) := by decide +kernel
theorem dX4_readPiece_129 : decode cX4_readPiece 129 = .ok (.iconst 1, 1) := by decide +kernel
theorem dX4_readPiece_130 : decode cX4_readPiece 130 = .ok (.iadd, 1) := by decide +kernel
theorem dX4_readPiece_131 : decode cX4_readPiece 131 = .ok (.iload_n 2, 1) := by decide +kernel
theorem dX4_readPiece_132 : decode cX4_readPiece 132 = .ok (.invokevirtual 45, 3) := by decide +kernel
theorem dX4_readPiece_135 : decode cX4_readPiece 135 = .ok (.aload_n 0, 1) := by decide +kernel
theorem dX4_readPiece_136 : decode cX4_readPiece 136 = .ok (.invokevirtual 121, 3) := by decide +kernel
theorem dX4_readPiece_139 : decode cX4_readPiece 139 = .ok (.goto 11, 3) := by decide +kernel
theorem dX4_readPiece_142 : decode cX4_readPiece 142 = .ok (.aload_n 0, 1) := by decide +kernel
theorem dX4_readPiece_143 : decode cX4_readPiece 143 = .ok (.aload_n 0, 1) := by decide +kernel
theorem dX4_readPiece_144 : decode cX4_readPiece 144 = .ok (.getfield 49, 3) := by decide +kernel
theorem dX4_readPiece_147 : decode cX4_readPiece 147 = .ok (.putfield 36, 3) := by decide +kernel
theorem dX4_readPiece_150 : decode cX4_readPiece 150 = .ok (.return_, 1) := by decide +kernel
theorem dX4_closeBracket_0 : decode cX4_closeBracket 0 = .ok (.aload_n 0, 1) := by decide +kernel
theorem dX4_closeBracket_1 : decode cX4_closeBracket 1 = .ok (.getfield 36, 3) := by decide +kernel
theorem dX4_closeBracket_4 : decode cX4_closeBracket 4 = .ok (.ldc 35, 2) := by decide +kernel
theorem dX4_closeBracket_6 : decode cX4_closeBracket 6 = .ok (.if_icmp .eq 4, 3) := by decide +kernel
theorem dX4_closeBracket_9 : decode cX4_closeBracket 9 = .ok (.return_, 1) := by decide +kernel
theorem dX4_closeBracket_10 : decode cX4_closeBracket 10 = .ok (.aload_n 0, 1) := by decide +kernel
theorem dX4_closeBracket_11 : decode cX4_closeBracket 11 = .ok (.ldc 124, 2) := by decide +kernel
theorem dX4_closeBracket_13 : decode cX4_closeBracket 13 = .ok (.invokevirtual 96, 3) := by decide +kernel
theorem dX4_closeBracket_16 : decode cX4_closeBracket 16 = .ok (.ifCond .eq 10, 3) := by decide +kernel
theorem dX4_closeBracket_19 : decode cX4_closeBracket 19 = .ok (.aload_n 0, 1) := by decide +kernel
theorem dX4_closeBracket_20 : decode cX4_closeBracket 20 = .ok (.invokevirtual 39, 3) := by decide +kernel
theorem dX4_closeBracket_23 : decode cX4_closeBracket 23 = .ok (.goto 11, 3) := by decide +kernel
theorem dX4_closeBracket_26 : decode cX4_closeBracket 26 = .ok (.aload_n 0, 1) := by decide +kernel
theorem dX4_closeBracket_27 : decode cX4_closeBracket 27 = .ok (.aload_n 0, 1) := by decide +kernel
theorem dX4_closeBracket_28 : decode cX4_closeBracket 28 = .ok (.getfield 49, 3) := by decide +kernel
theorem dX4_closeBracket_31 : decode cX4_closeBracket 31 = .ok (.putfield 36, 3) := by decide +kernel
theorem dX4_closeBracket_34 : decode cX4_closeBracket 34 = .ok (.return_, 1) := by decide +kernel
theorem dX4_firstName_0 : decode cX4_firstName 0 = .ok (.aload_n 0, 1) := by decide +kernel
theorem dX4_firstName_1 : decode cX4_firstName 1 = .ok (.getfield 54, 3) := by decide +kernel
theorem dX4_firstName_4 : decode cX4_firstName 4 = .ok (.ifCond .ne 8, 3) := by decide +kernel
theorem dX4_firstName_7 : decode cX4_firstName 7 = .ok (.ldc 126, 2) := by decide +kernel
theorem dX4_firstName_9 : decode cX4_firstName 9 = .ok (.goto 18, 3) := by decide +kernel
theorem dX4_firstName_12 : decode cX4_firstName 12 = .ok (.aload_n 0, 1) := by decide +kernel
theorem dX4_firstName_13 : decode cX4_firstName 13 = .ok (.getfield 54, 3) := by decide +kernel
theorem dX4_firstName_16 : decode cX4_firstName 16 = .ok (.iconst 1, 1) := by decide +kernel
theorem dX4_firstName_17 : decode cX4_firstName 17 = .ok (.if_icmp .ne 8, 3) := by decide +kernel
theorem dX4_firstName_20 : decode cX4_firstName 20 = .ok (.ldc 128, 2) := by decide +kernel
theorem dX4_firstName_22 : decode cX4_firstName 22 = .ok (.goto 5, 3) := by decide +kernel
theorem dX4_firstName_25 : decode cX4_firstName 25 = .ok (.ldc 130, 2) := by decide +kernel
theorem dX4_firstName_27 : decode cX4_firstName 27 = .ok (.areturn, 1) := by decide +kernel
theorem dX4_secondName_0 : decode cX4_secondName 0 = .ok (.aload_n 0, 1) := by decide +kernel
theorem dX4_secondName_1 : decode cX4_secondName 1 = .ok (.getfield 54, 3) := by decide +kernel
theorem dX4_secondName_4 : decode cX4_secondName 4 = .ok (.ifCond .ne 8, 3) := by decide +kernel
theorem dX4_secondName_7 : decode cX4_secondName 7 = .ok (.ldc 132, 2) := by decide +kernel
theorem dX4_secondName_9 : decode cX4_secondName 9 = .ok (.goto 18, 3) := by decide +kernel
theorem dX4_secondName_12 : decode cX4_secondName 12 = .ok (.aload_n 0, 1) := by decide +kernel
theorem dX4_secondName_13 : decode cX4_secondName 13 = .ok (.getfield 54, 3) := by decide +kernel
theorem dX4_secondName_16 : decode cX4_secondName 16 = .ok (.iconst 1, 1) := by decide +kernel
theorem dX4_secondName_17 : decode cX4_secondName 17 = .ok (.if_icmp .ne 8, 3) := by decide +kernel
theorem dX4_secondName_20 : decode cX4_secondName 20 = .ok (.ldc 134, 2) := by decide +kernel
theorem dX4_secondName_22 : decode cX4_secondName 22 = .ok (.goto 5, 3) := by decide +kernel
theorem dX4_secondName_25 : decode cX4_secondName 25 = .ok (.ldc 136, 2) := by decide +kernel
theorem dX4_secondName_27 : decode cX4_secondName 27 = .ok (.areturn, 1) := by decide +kernel
theorem dX4_numberRead_0 : decode cX4_numberRead 0 = .ok (.iconst 0, 1) := by decide +kernel
theorem dX4_numberRead_1 : decode cX4_numberRead 1 = .ok (.istore_n 1, 1) := by decide +kernel
theorem dX4_numberRead_2 : decode cX4_numberRead 2 = .ok (.aload_n 0, 1) := by decide +kernel
theorem dX4_numberRead_3 : decode cX4_numberRead 3 = .ok (.getfield 49, 3) := by decide +kernel
theorem dX4_numberRead_6 : decode cX4_numberRead 6 = .ok (.istore_n 2, 1) := by decide +kernel
theorem dX4_numberRead_7 : decode cX4_numberRead 7 = .ok (.iload_n 2, 1) := by decide +kernel
theorem dX4_numberRead_8 : decode cX4_numberRead 8 = .ok (.aload_n 0, 1) := by decide +kernel
theorem dX4_numberRead_9 : decode cX4_numberRead 9 = .ok (.getfield 23, 3) := by decide +kernel
theorem dX4_numberRead_12 : decode cX4_numberRead 12 = .ok (.if_icmp .ge 24, 3) := by decide +kernel
theorem dX4_numberRead_15 : decode cX4_numberRead 15 = .ok (.iload_n 1, 1) := by decide +kernel
theorem dX4_numberRead_16 : decode cX4_numberRead 16 = .ok (.bipush 10, 2) := by decide +kernel
theorem dX4_numberRead_18 : decode cX4_numberRead 18 = .ok (.imul, 1) := by decide +kernel
theorem dX4_numberRead_19 : decode cX4_numberRead 19 = .ok (.aload_n 0, 1) := by decide +kernel
theorem dX4_numberRead_20 : decode cX4_numberRead 20 = .ok (.getfield 9, 3) := by decide +kernel
theorem dX4_numberRead_23 : decode cX4_numberRead 23 = .ok (.iload_n 2, 1) := by decide +kernel
theorem dX4_numberRead_24 : decode cX4_numberRead 24 = .ok (.baload, 1) := by decide +kernel
theorem dX4_numberRead_25 : decode cX4_numberRead 25 = .ok (.iadd, 1) := by decide +kernel
theorem dX4_numberRead_26 : decode cX4_numberRead 26 = .ok (.bipush 48, 2) := by decide +kernel
theorem dX4_numberRead_28 : decode cX4_numberRead 28 = .ok (.isub, 1) := by decide +kernel
theorem dX4_numberRead_29 : decode cX4_numberRead 29 = .ok (.istore_n 1, 1) := by decide +kernel
theorem dX4_numberRead_30 : decode cX4_numberRead 30 = .ok (.iinc 2 1, 3) := by decide +kernel
theorem dX4_numberRead_33 : decode cX4_numberRead 33 = .ok (.goto (-26), 3) := by decide +kernel
theorem dX4_numberRead_36 : decode cX4_numberRead 36 = .ok (.iload_n 1, 1) := by decide +kernel
theorem dX4_numberRead_37 : decode cX4_numberRead 37 = .ok (.ireturn, 1) := by decide +kernel
theorem dX4_putLeaf_0 : decode cX4_putLeaf 0 = .ok (.aload_n 0, 1) := by decide +kernel
theorem dX4_putLeaf_1 : decode cX4_putLeaf 1 = .ok (.iload_n 1, 1) := by decide +kernel
theorem dX4_putLeaf_2 : decode cX4_putLeaf 2 = .ok (.invokevirtual 99, 3) := by decide +kernel
theorem dX4_putLeaf_5 : decode cX4_putLeaf 5 = .ok (.aload_n 0, 1) := by decide +kernel
theorem dX4_putLeaf_6 : decode cX4_putLeaf 6 = .ok (.dup, 1) := by decide +kernel
theorem dX4_putLeaf_7 : decode cX4_putLeaf 7 = .ok (.getfield 29, 3) := by decide +kernel
theorem dX4_putLeaf_10 : decode cX4_putLeaf 10 = .ok (.iconst 1, 1) := by decide +kernel
theorem dX4_putLeaf_11 : decode cX4_putLeaf 11 = .ok (.iadd, 1) := by decide +kernel
theorem dX4_putLeaf_12 : decode cX4_putLeaf 12 = .ok (.putfield 29, 3) := by decide +kernel
theorem dX4_putLeaf_15 : decode cX4_putLeaf 15 = .ok (.aload_n 0, 1) := by decide +kernel
theorem dX4_putLeaf_16 : decode cX4_putLeaf 16 = .ok (.invokevirtual 39, 3) := by decide +kernel
theorem dX4_putLeaf_19 : decode cX4_putLeaf 19 = .ok (.return_, 1) := by decide +kernel
theorem dX4_put_0 : decode cX4_put 0 = .ok (.aload_n 0, 1) := by decide +kernel
theorem dX4_put_1 : decode cX4_put 1 = .ok (.getfield 32, 3) := by decide +kernel
theorem dX4_put_4 : decode cX4_put 4 = .ok (.aload_n 0, 1) := by decide +kernel
theorem dX4_put_5 : decode cX4_put 5 = .ok (.getfield 15, 3) := by decide +kernel
theorem dX4_put_8 : decode cX4_put 8 = .ok (.arraylength, 1) := by decide +kernel
theorem dX4_put_9 : decode cX4_put 9 = .ok (.if_icmp .ge 23, 3) := by decide +kernel
theorem dX4_put_12 : decode cX4_put 12 = .ok (.aload_n 0, 1) := by decide +kernel
theorem dX4_put_13 : decode cX4_put 13 = .ok (.getfield 15, 3) := by decide +kernel
theorem dX4_put_16 : decode cX4_put 16 = .ok (.aload_n 0, 1) := by decide +kernel
theorem dX4_put_17 : decode cX4_put 17 = .ok (.getfield 32, 3) := by decide +kernel
theorem dX4_put_20 : decode cX4_put 20 = .ok (.iload_n 1, 1) := by decide +kernel
theorem dX4_put_21 : decode cX4_put 21 = .ok (.iastore, 1) := by decide +kernel
theorem dX4_put_22 : decode cX4_put 22 = .ok (.aload_n 0, 1) := by decide +kernel
theorem dX4_put_23 : decode cX4_put 23 = .ok (.dup, 1) := by decide +kernel
theorem dX4_put_24 : decode cX4_put 24 = .ok (.getfield 32, 3) := by decide +kernel
theorem dX4_put_27 : decode cX4_put 27 = .ok (.iconst 1, 1) := by decide +kernel
theorem dX4_put_28 : decode cX4_put 28 = .ok (.iadd, 1) := by decide +kernel
theorem dX4_put_29 : decode cX4_put 29 = .ok (.putfield 32, 3) := by decide +kernel
theorem dX4_put_32 : decode cX4_put 32 = .ok (.return_, 1) := by decide +kernel
theorem dX4_isWord_0 : decode cX4_isWord 0 = .ok (.aload_n 0, 1) := by decide +kernel
theorem dX4_isWord_1 : decode cX4_isWord 1 = .ok (.getfield 26, 3) := by decide +kernel
theorem dX4_isWord_4 : decode cX4_isWord 4 = .ok (.iconst 1, 1) := by decide +kernel
theorem dX4_isWord_5 : decode cX4_isWord 5 = .ok (.if_icmp .ne 19, 3) := by decide +kernel
theorem dX4_isWord_8 : decode cX4_isWord 8 = .ok (.aload_n 0, 1) := by decide +kernel
theorem dX4_isWord_9 : decode cX4_isWord 9 = .ok (.getfield 23, 3) := by decide +kernel
theorem dX4_isWord_12 : decode cX4_isWord 12 = .ok (.aload_n 0, 1) := by decide +kernel
theorem dX4_isWord_13 : decode cX4_isWord 13 = .ok (.getfield 49, 3) := by decide +kernel
theorem dX4_isWord_16 : decode cX4_isWord 16 = .ok (.isub, 1) := by decide +kernel
theorem dX4_isWord_17 : decode cX4_isWord 17 = .ok (.aload_n 1, 1) := by decide +kernel
theorem dX4_isWord_18 : decode cX4_isWord 18 = .ok (.invokevirtual 138, 3) := by decide +kernel
theorem dX4_isWord_21 : decode cX4_isWord 21 = .ok (.if_icmp .eq 5, 3) := by decide +kernel
theorem dX4_isWord_24 : decode cX4_isWord 24 = .ok (.iconst 0, 1) := by decide +kernel
theorem dX4_isWord_25 : decode cX4_isWord 25 = .ok (.ireturn, 1) := by decide +kernel
theorem dX4_isWord_26 : decode cX4_isWord 26 = .ok (.iconst 0, 1) := by decide +kernel
theorem dX4_isWord_27 : decode cX4_isWord 27 = .ok (.istore_n 2, 1) := by decide +kernel
theorem dX4_isWord_28 : decode cX4_isWord 28 = .ok (.iload_n 2, 1) := by decide +kernel
theorem dX4_isWord_29 : decode cX4_isWord 29 = .ok (.aload_n 1, 1) := by decide +kernel
theorem dX4_isWord_30 : decode cX4_isWord 30 = .ok (.invokevirtual 138, 3) := by decide +kernel
theorem dX4_isWord_33 : decode cX4_isWord 33 = .ok (.if_icmp .ge 30, 3) := by decide +kernel
theorem dX4_isWord_36 : decode cX4_isWord 36 = .ok (.aload_n 0, 1) := by decide +kernel
theorem dX4_isWord_37 : decode cX4_isWord 37 = .ok (.getfield 9, 3) := by decide +kernel
theorem dX4_isWord_40 : decode cX4_isWord 40 = .ok (.aload_n 0, 1) := by decide +kernel
theorem dX4_isWord_41 : decode cX4_isWord 41 = .ok (.getfield 49, 3) := by decide +kernel
theorem dX4_isWord_44 : decode cX4_isWord 44 = .ok (.iload_n 2, 1) := by decide +kernel
theorem dX4_isWord_45 : decode cX4_isWord 45 = .ok (.iadd, 1) := by decide +kernel
theorem dX4_isWord_46 : decode cX4_isWord 46 = .ok (.baload, 1) := by decide +kernel
theorem dX4_isWord_47 : decode cX4_isWord 47 = .ok (.aload_n 1, 1) := by decide +kernel
theorem dX4_isWord_48 : decode cX4_isWord 48 = .ok (.iload_n 2, 1) := by decide +kernel
theorem dX4_isWord_49 : decode cX4_isWord 49 = .ok (.invokevirtual 142, 3) := by decide +kernel
theorem dX4_isWord_52 : decode cX4_isWord 52 = .ok (.if_icmp .eq 5, 3) := by decide +kernel
theorem dX4_isWord_55 : decode cX4_isWord 55 = .ok (.iconst 0, 1) := by decide +kernel
theorem dX4_isWord_56 : decode cX4_isWord 56 = .ok (.ireturn, 1) := by decide +kernel
theorem dX4_isWord_57 : decode cX4_isWord 57 = .ok (.iinc 2 1, 3) := by decide +kernel
theorem dX4_isWord_60 : decode cX4_isWord 60 = .ok (.goto (-32), 3) := by decide +kernel
theorem dX4_isWord_63 : decode cX4_isWord 63 = .ok (.iconst 1, 1) := by decide +kernel
theorem dX4_isWord_64 : decode cX4_isWord 64 = .ok (.ireturn, 1) := by decide +kernel
theorem dX4_isSignOf_0 : decode cX4_isSignOf 0 = .ok (.aload_n 0, 1) := by decide +kernel
theorem dX4_isSignOf_1 : decode cX4_isSignOf 1 = .ok (.getfield 26, 3) := by decide +kernel
theorem dX4_isSignOf_4 : decode cX4_isSignOf 4 = .ok (.iconst 3, 1) := by decide +kernel
theorem dX4_isSignOf_5 : decode cX4_isSignOf 5 = .ok (.if_icmp .ne 28, 3) := by decide +kernel
theorem dX4_isSignOf_8 : decode cX4_isSignOf 8 = .ok (.aload_n 1, 1) := by decide +kernel
theorem dX4_isSignOf_9 : decode cX4_isSignOf 9 = .ok (.aload_n 0, 1) := by decide +kernel
theorem dX4_isSignOf_10 : decode cX4_isSignOf 10 = .ok (.getfield 9, 3) := by decide +kernel
theorem dX4_isSignOf_13 : decode cX4_isSignOf 13 = .ok (.aload_n 0, 1) := by decide +kernel
theorem dX4_isSignOf_14 : decode cX4_isSignOf 14 = .ok (.getfield 49, 3) := by decide +kernel
theorem dX4_isSignOf_17 : decode cX4_isSignOf 17 = .ok (.baload, 1) := by decide +kernel
theorem dX4_isSignOf_18 : decode cX4_isSignOf 18 = .ok (.sipush 255, 3) := by decide +kernel
theorem dX4_isSignOf_21 : decode cX4_isSignOf 21 = .ok (.iand, 1) := by decide +kernel
theorem dX4_isSignOf_22 : decode cX4_isSignOf 22 = .ok (.i2c, 1) := by decide +kernel
theorem dX4_isSignOf_23 : decode cX4_isSignOf 23 = .ok (.invokevirtual 146, 3) := by decide +kernel
theorem dX4_isSignOf_26 : decode cX4_isSignOf 26 = .ok (.ifCond .lt 7, 3) := by decide +kernel
theorem dX4_isSignOf_29 : decode cX4_isSignOf 29 = .ok (.iconst 1, 1) := by decide +kernel
theorem dX4_isSignOf_30 : decode cX4_isSignOf 30 = .ok (.goto 4, 3) := by decide +kernel
theorem dX4_isSignOf_33 : decode cX4_isSignOf 33 = .ok (.iconst 0, 1) := by decide +kernel
theorem dX4_isSignOf_34 : decode cX4_isSignOf 34 = .ok (.ireturn, 1) := by decide +kernel
theorem dX4_step_0 : decode cX4_step 0 = .ok (.aload_n 0, 1) := by decide +kernel
theorem dX4_step_1 : decode cX4_step 1 = .ok (.getfield 26, 3) := by decide +kernel
theorem dX4_step_4 : decode cX4_step 4 = .ok (.iconst 1, 1) := by decide +kernel
theorem dX4_step_5 : decode cX4_step 5 = .ok (.if_icmp .eq 11, 3) := by decide +kernel
theorem dX4_step_8 : decode cX4_step 8 = .ok (.aload_n 0, 1) := by decide +kernel
theorem dX4_step_9 : decode cX4_step 9 = .ok (.getfield 26, 3) := by decide +kernel
theorem dX4_step_12 : decode cX4_step 12 = .ok (.iconst 2, 1) := by decide +kernel
theorem dX4_step_13 : decode cX4_step 13 = .ok (.if_icmp .ne 7, 3) := by decide +kernel
theorem dX4_step_16 : decode cX4_step 16 = .ok (.iconst 1, 1) := by decide +kernel
theorem dX4_step_17 : decode cX4_step 17 = .ok (.goto 4, 3) := by decide +kernel
theorem dX4_step_20 : decode cX4_step 20 = .ok (.iconst 0, 1) := by decide +kernel
theorem dX4_step_21 : decode cX4_step 21 = .ok (.istore_n 1, 1) := by decide +kernel
theorem dX4_step_22 : decode cX4_step 22 = .ok (.aload_n 0, 1) := by decide +kernel
theorem dX4_step_23 : decode cX4_step 23 = .ok (.getfield 23, 3) := by decide +kernel
theorem dX4_step_26 : decode cX4_step 26 = .ok (.istore_n 2, 1) := by decide +kernel
theorem dX4_step_27 : decode cX4_step 27 = .ok (.aload_n 0, 1) := by decide +kernel
theorem dX4_step_28 : decode cX4_step 28 = .ok (.aload_n 0, 1) := by decide +kernel
theorem dX4_step_29 : decode cX4_step 29 = .ok (.getfield 23, 3) := by decide +kernel
theorem dX4_step_32 : decode cX4_step 32 = .ok (.putfield 49, 3) := by decide +kernel
theorem dX4_step_35 : decode cX4_step 35 = .ok (.aload_n 0, 1) := by decide +kernel
theorem dX4_step_36 : decode cX4_step 36 = .ok (.getfield 49, 3) := by decide +kernel
theorem dX4_step_39 : decode cX4_step 39 = .ok (.aload_n 0, 1) := by decide +kernel
theorem dX4_step_40 : decode cX4_step 40 = .ok (.getfield 19, 3) := by decide +kernel
theorem dX4_step_43 : decode cX4_step 43 = .ok (.if_icmp .ge 30, 3) := by decide +kernel
theorem dX4_step_46 : decode cX4_step 46 = .ok (.aload_n 0, 1) := by decide +kernel
theorem dX4_step_47 : decode cX4_step 47 = .ok (.getfield 9, 3) := by decide +kernel
theorem dX4_step_50 : decode cX4_step 50 = .ok (.aload_n 0, 1) := by decide +kernel
theorem dX4_step_51 : decode cX4_step 51 = .ok (.getfield 49, 3) := by decide +kernel
theorem dX4_step_54 : decode cX4_step 54 = .ok (.baload, 1) := by decide +kernel
theorem dX4_step_55 : decode cX4_step 55 = .ok (.bipush 32, 2) := by decide +kernel
theorem dX4_step_57 : decode cX4_step 57 = .ok (.if_icmp .ne 16, 3) := by decide +kernel
theorem dX4_step_60 : decode cX4_step 60 = .ok (.aload_n 0, 1) := by decide +kernel
theorem dX4_step_61 : decode cX4_step 61 = .ok (.dup, 1) := by decide +kernel
theorem dX4_step_62 : decode cX4_step 62 = .ok (.getfield 49, 3) := by decide +kernel
theorem dX4_step_65 : decode cX4_step 65 = .ok (.iconst 1, 1) := by decide +kernel
theorem dX4_step_66 : decode cX4_step 66 = .ok (.iadd, 1) := by decide +kernel
theorem dX4_step_67 : decode cX4_step 67 = .ok (.putfield 49, 3) := by decide +kernel
theorem dX4_step_70 : decode cX4_step 70 = .ok (.goto (-35), 3) := by decide +kernel
theorem dX4_step_73 : decode cX4_step 73 = .ok (.aload_n 0, 1) := by decide +kernel
theorem dX4_step_74 : decode cX4_step 74 = .ok (.aload_n 0, 1) := by decide +kernel
theorem dX4_step_75 : decode cX4_step 75 = .ok (.aload_n 0, 1) := by decide +kernel
theorem dX4_step_76 : decode cX4_step 76 = .ok (.getfield 49, 3) := by decide +kernel
theorem dX4_step_79 : decode cX4_step 79 = .ok (.invokevirtual 150, 3) := by decide +kernel
theorem dX4_step_82 : decode cX4_step 82 = .ok (.putfield 26, 3) := by decide +kernel
theorem dX4_step_85 : decode cX4_step 85 = .ok (.aload_n 0, 1) := by decide +kernel
theorem dX4_step_86 : decode cX4_step 86 = .ok (.aload_n 0, 1) := by decide +kernel
theorem dX4_step_87 : decode cX4_step 87 = .ok (.getfield 49, 3) := by decide +kernel
theorem dX4_step_90 : decode cX4_step 90 = .ok (.putfield 23, 3) := by decide +kernel
theorem dX4_step_93 : decode cX4_step 93 = .ok (.aload_n 0, 1) := by decide +kernel
theorem dX4_step_94 : decode cX4_step 94 = .ok (.getfield 26, 3) := by decide +kernel
theorem dX4_step_97 : decode cX4_step 97 = .ok (.iconst 3, 1) := by decide +kernel
theorem dX4_step_98 : decode cX4_step 98 = .ok (.if_icmp .ne 16, 3) := by decide +kernel
theorem dX4_step_101 : decode cX4_step 101 = .ok (.aload_n 0, 1) := by decide +kernel
theorem dX4_step_102 : decode cX4_step 102 = .ok (.dup, 1) := by decide +kernel
theorem dX4_step_103 : decode cX4_step 103 = .ok (.getfield 23, 3) := by decide +kernel
theorem dX4_step_106 : decode cX4_step 106 = .ok (.iconst 1, 1) := by decide +kernel
theorem dX4_step_107 : decode cX4_step 107 = .ok (.iadd, 1) := by decide +kernel
theorem dX4_step_108 : decode cX4_step 108 = .ok (.putfield 23, 3) := by decide +kernel
theorem dX4_step_111 : decode cX4_step 111 = .ok (.goto 66, 3) := by decide +kernel
theorem dX4_step_114 : decode cX4_step 114 = .ok (.aload_n 0, 1) := by decide +kernel
theorem dX4_step_115 : decode cX4_step 115 = .ok (.getfield 26, 3) := by decide +kernel
theorem dX4_step_118 : decode cX4_step 118 = .ok (.ifCond .eq 59, 3) := by decide +kernel
theorem dX4_step_121 : decode cX4_step 121 = .ok (.aload_n 0, 1) := by decide +kernel
theorem dX4_step_122 : decode cX4_step 122 = .ok (.getfield 23, 3) := by decide +kernel
theorem dX4_step_125 : decode cX4_step 125 = .ok (.aload_n 0, 1) := by decide +kernel
theorem dX4_step_126 : decode cX4_step 126 = .ok (.getfield 19, 3) := by decide +kernel
theorem dX4_step_129 : decode cX4_step 129 = .ok (.if_icmp .ge 31, 3) := by decide +kernel
theorem dX4_step_132 : decode cX4_step 132 = .ok (.aload_n 0, 1) := by decide +kernel
theorem dX4_step_133 : decode cX4_step 133 = .ok (.aload_n 0, 1) := by decide +kernel
theorem dX4_step_134 : decode cX4_step 134 = .ok (.getfield 23, 3) := by decide +kernel
theorem dX4_step_137 : decode cX4_step 137 = .ok (.invokevirtual 150, 3) := by decide +kernel
theorem dX4_step_140 : decode cX4_step 140 = .ok (.aload_n 0, 1) := by decide +kernel
theorem dX4_step_141 : decode cX4_step 141 = .ok (.getfield 26, 3) := by decide +kernel
theorem dX4_step_144 : decode cX4_step 144 = .ok (.if_icmp .ne 16, 3) := by decide +kernel
theorem dX4_step_147 : decode cX4_step 147 = .ok (.aload_n 0, 1) := by decide +kernel
theorem dX4_step_148 : decode cX4_step 148 = .ok (.dup, 1) := by decide +kernel
theorem dX4_step_149 : decode cX4_step 149 = .ok (.getfield 23, 3) := by decide +kernel
theorem dX4_step_152 : decode cX4_step 152 = .ok (.iconst 1, 1) := by decide +kernel
theorem dX4_step_153 : decode cX4_step 153 = .ok (.iadd, 1) := by decide +kernel
theorem dX4_step_154 : decode cX4_step 154 = .ok (.putfield 23, 3) := by decide +kernel
theorem dX4_step_157 : decode cX4_step 157 = .ok (.goto (-36), 3) := by decide +kernel
theorem dX4_step_160 : decode cX4_step 160 = .ok (.iload_n 1, 1) := by decide +kernel
theorem dX4_step_161 : decode cX4_step 161 = .ok (.ifCond .eq 16, 3) := by decide +kernel
theorem dX4_step_164 : decode cX4_step 164 = .ok (.aload_n 0, 1) := by decide +kernel
theorem dX4_step_165 : decode cX4_step 165 = .ok (.getfield 49, 3) := by decide +kernel
theorem dX4_step_168 : decode cX4_step 168 = .ok (.iload_n 2, 1) := by decide +kernel
theorem dX4_step_169 : decode cX4_step 169 = .ok (.if_icmp .ne 8, 3) := by decide +kernel
theorem dX4_step_172 : decode cX4_step 172 = .ok (.aload_n 0, 1) := by decide +kernel
theorem dX4_step_173 : decode cX4_step 173 = .ok (.iconst 4, 1) := by decide +kernel
theorem dX4_step_174 : decode cX4_step 174 = .ok (.putfield 26, 3) := by decide +kernel
theorem dX4_step_177 : decode cX4_step 177 = .ok (.return_, 1) := by decide +kernel
theorem dX4_sortAt_0 : decode cX4_sortAt 0 = .ok (.iload_n 1, 1) := by decide +kernel
theorem dX4_sortAt_1 : decode cX4_sortAt 1 = .ok (.aload_n 0, 1) := by decide +kernel
theorem dX4_sortAt_2 : decode cX4_sortAt 2 = .ok (.getfield 19, 3) := by decide +kernel
theorem dX4_sortAt_5 : decode cX4_sortAt 5 = .ok (.if_icmp .lt 5, 3) := by decide +kernel
theorem dX4_sortAt_8 : decode cX4_sortAt 8 = .ok (.iconst 0, 1) := by decide +kernel
theorem dX4_sortAt_9 : decode cX4_sortAt 9 = .ok (.ireturn, 1) := by decide +kernel
theorem dX4_sortAt_10 : decode cX4_sortAt 10 = .ok (.aload_n 0, 1) := by decide +kernel
theorem dX4_sortAt_11 : decode cX4_sortAt 11 = .ok (.getfield 9, 3) := by decide +kernel
theorem dX4_sortAt_14 : decode cX4_sortAt 14 = .ok (.iload_n 1, 1) := by decide +kernel
theorem dX4_sortAt_15 : decode cX4_sortAt 15 = .ok (.baload, 1) := by decide +kernel
theorem dX4_sortAt_16 : decode cX4_sortAt 16 = .ok (.istore_n 2, 1) := by decide +kernel
theorem dX4_sortAt_17 : decode cX4_sortAt 17 = .ok (.iload_n 2, 1) := by decide +kernel
theorem dX4_sortAt_18 : decode cX4_sortAt 18 = .ok (.bipush 97, 2) := by decide +kernel
theorem dX4_sortAt_20 : decode cX4_sortAt 20 = .ok (.if_icmp .lt 11, 3) := by decide +kernel
theorem dX4_sortAt_23 : decode cX4_sortAt 23 = .ok (.iload_n 2, 1) := by decide +kernel
theorem dX4_sortAt_24 : decode cX4_sortAt 24 = .ok (.bipush 122, 2) := by decide +kernel
theorem dX4_sortAt_26 : decode cX4_sortAt 26 = .ok (.if_icmp .gt 5, 3) := by decide +kernel
theorem dX4_sortAt_29 : decode cX4_sortAt 29 = .ok (.iconst 1, 1) := by decide +kernel
theorem dX4_sortAt_30 : decode cX4_sortAt 30 = .ok (.ireturn, 1) := by decide +kernel
theorem dX4_sortAt_31 : decode cX4_sortAt 31 = .ok (.iload_n 2, 1) := by decide +kernel
theorem dX4_sortAt_32 : decode cX4_sortAt 32 = .ok (.bipush 48, 2) := by decide +kernel
theorem dX4_sortAt_34 : decode cX4_sortAt 34 = .ok (.if_icmp .lt 13, 3) := by decide +kernel
theorem dX4_sortAt_37 : decode cX4_sortAt 37 = .ok (.iload_n 2, 1) := by decide +kernel
theorem dX4_sortAt_38 : decode cX4_sortAt 38 = .ok (.bipush 57, 2) := by decide +kernel
theorem dX4_sortAt_40 : decode cX4_sortAt 40 = .ok (.if_icmp .gt 7, 3) := by decide +kernel
theorem dX4_sortAt_43 : decode cX4_sortAt 43 = .ok (.iconst 2, 1) := by decide +kernel
theorem dX4_sortAt_44 : decode cX4_sortAt 44 = .ok (.goto 4, 3) := by decide +kernel
theorem dX4_sortAt_47 : decode cX4_sortAt 47 = .ok (.iconst 3, 1) := by decide +kernel
theorem dX4_sortAt_48 : decode cX4_sortAt 48 = .ok (.ireturn, 1) := by decide +kernel
theorem dX9_init_0 : decode cX9_init 0 = .ok (.aload_n 0, 1) := by decide +kernel
theorem dX9_init_1 : decode cX9_init 1 = .ok (.invokespecial 1, 3) := by decide +kernel
theorem dX9_init_4 : decode cX9_init 4 = .ok (.aload_n 0, 1) := by decide +kernel
theorem dX9_init_5 : decode cX9_init 5 = .ok (.new 7, 3) := by decide +kernel
theorem dX9_init_8 : decode cX9_init 8 = .ok (.dup, 1) := by decide +kernel
theorem dX9_init_9 : decode cX9_init 9 = .ok (.invokespecial 9, 3) := by decide +kernel
theorem dX9_init_12 : decode cX9_init 12 = .ok (.putfield 10, 3) := by decide +kernel
theorem dX9_init_15 : decode cX9_init 15 = .ok (.aload_n 0, 1) := by decide +kernel
theorem dX9_init_16 : decode cX9_init 16 = .ok (.new 7, 3) := by decide +kernel
theorem dX9_init_19 : decode cX9_init 19 = .ok (.dup, 1) := by decide +kernel
theorem dX9_init_20 : decode cX9_init 20 = .ok (.invokespecial 9, 3) := by decide +kernel
theorem dX9_init_23 : decode cX9_init 23 = .ok (.putfield 16, 3) := by decide +kernel
theorem dX9_init_26 : decode cX9_init 26 = .ok (.aload_n 0, 1) := by decide +kernel
theorem dX9_init_27 : decode cX9_init 27 = .ok (.new 19, 3) := by decide +kernel
theorem dX9_init_30 : decode cX9_init 30 = .ok (.dup, 1) := by decide +kernel
theorem dX9_init_31 : decode cX9_init 31 = .ok (.invokespecial 21, 3) := by decide +kernel
theorem dX9_init_34 : decode cX9_init 34 = .ok (.putfield 22, 3) := by decide +kernel
theorem dX9_init_37 : decode cX9_init 37 = .ok (.aload_n 0, 1) := by decide +kernel
theorem dX9_init_38 : decode cX9_init 38 = .ok (.new 26, 3) := by decide +kernel
theorem dX9_init_41 : decode cX9_init 41 = .ok (.dup, 1) := by decide +kernel
theorem dX9_init_42 : decode cX9_init 42 = .ok (.invokespecial 28, 3) := by decide +kernel
theorem dX9_init_45 : decode cX9_init 45 = .ok (.putfield 29, 3) := by decide +kernel
theorem dX9_init_48 : decode cX9_init 48 = .ok (.aload_n 0, 1) := by decide +kernel
theorem dX9_init_49 : decode cX9_init 49 = .ok (.iconst 4, 1) := by decide +kernel
theorem dX9_init_50 : decode cX9_init 50 = .ok (.anewarray 33, 3) := by decide +kernel
theorem dX9_init_53 : decode cX9_init 53 = .ok (.putfield 35, 3) := by decide +kernel
theorem dX9_init_56 : decode cX9_init 56 = .ok (.aload_n 0, 1) := by decide +kernel
theorem dX9_init_57 : decode cX9_init 57 = .ok (.iconst 5, 1) := by decide +kernel
theorem dX9_init_58 : decode cX9_init 58 = .ok (.anewarray 39, 3) := by decide +kernel
theorem dX9_init_61 : decode cX9_init 61 = .ok (.putfield 41, 3) := by decide +kernel
theorem dX9_init_64 : decode cX9_init 64 = .ok (.aload_n 0, 1) := by decide +kernel
theorem dX9_init_65 : decode cX9_init 65 = .ok (.bipush 60, 2) := by decide +kernel
theorem dX9_init_67 : decode cX9_init 67 = .ok (.newarray .int, 2) := by decide +kernel
theorem dX9_init_69 : decode cX9_init 69 = .ok (.putfield 45, 3) := by decide +kernel
theorem dX9_init_72 : decode cX9_init 72 = .ok (.iconst 0, 1) := by decide +kernel
theorem dX9_init_73 : decode cX9_init 73 = .ok (.istore_n 1, 1) := by decide +kernel
theorem dX9_init_74 : decode cX9_init 74 = .ok (.iload_n 1, 1) := by decide +kernel
theorem dX9_init_75 : decode cX9_init 75 = .ok (.iconst 4, 1) := by decide +kernel
theorem dX9_init_76 : decode cX9_init 76 = .ok (.if_icmp .ge 22, 3) := by decide +kernel
theorem dX9_init_79 : decode cX9_init 79 = .ok (.aload_n 0, 1) := by decide +kernel
theorem dX9_init_80 : decode cX9_init 80 = .ok (.getfield 35, 3) := by decide +kernel
theorem dX9_init_83 : decode cX9_init 83 = .ok (.iload_n 1, 1) := by decide +kernel
theorem dX9_init_84 : decode cX9_init 84 = .ok (.new 33, 3) := by decide +kernel
theorem dX9_init_87 : decode cX9_init 87 = .ok (.dup, 1) := by decide +kernel
theorem dX9_init_88 : decode cX9_init 88 = .ok (.invokespecial 49, 3) := by decide +kernel
theorem dX9_init_91 : decode cX9_init 91 = .ok (.aastore, 1) := by decide +kernel
theorem dX9_init_92 : decode cX9_init 92 = .ok (.iinc 1 1, 3) := by decide +kernel
theorem dX9_init_95 : decode cX9_init 95 = .ok (.goto (-21), 3) := by decide +kernel
theorem dX9_init_98 : decode cX9_init 98 = .ok (.iconst 0, 1) := by decide +kernel
theorem dX9_init_99 : decode cX9_init 99 = .ok (.istore_n 1, 1) := by decide +kernel
theorem dX9_init_100 : decode cX9_init 100 = .ok (.iload_n 1, 1) := by decide +kernel
theorem dX9_init_101 : decode cX9_init 101 = .ok (.iconst 5, 1) := by decide +kernel
theorem dX9_init_102 : decode cX9_init 102 = .ok (.if_icmp .ge 22, 3) := by decide +kernel
theorem dX9_init_105 : decode cX9_init 105 = .ok (.aload_n 0, 1) := by decide +kernel
theorem dX9_init_106 : decode cX9_init 106 = .ok (.getfield 41, 3) := by decide +kernel
theorem dX9_init_109 : decode cX9_init 109 = .ok (.iload_n 1, 1) := by decide +kernel
theorem dX9_init_110 : decode cX9_init 110 = .ok (.new 39, 3) := by decide +kernel
theorem dX9_init_113 : decode cX9_init 113 = .ok (.dup, 1) := by decide +kernel
theorem dX9_init_114 : decode cX9_init 114 = .ok (.invokespecial 50, 3) := by decide +kernel
theorem dX9_init_117 : decode cX9_init 117 = .ok (.aastore, 1) := by decide +kernel
theorem dX9_init_118 : decode cX9_init 118 = .ok (.iinc 1 1, 3) := by decide +kernel
theorem dX9_init_121 : decode cX9_init 121 = .ok (.goto (-21), 3) := by decide +kernel
theorem dX9_init_124 : decode cX9_init 124 = .ok (.return_, 1) := by decide +kernel
theorem dX9_door_0 : decode cX9_door 0 = .ok (.iload_n 1, 1) := by decide +kernel
theorem dX9_door_1 : decode cX9_door 1 = .ok (.invokestatic 51, 3) := by decide +kernel
theorem dX9_door_4 : decode cX9_door 4 = .ok (.ifCond .eq 36, 3) := by decide +kernel
theorem dX9_door_7 : decode cX9_door 7 = .ok (.iload_n 2, 1) := by decide +kernel
theorem dX9_door_8 : decode cX9_door 8 = .ok (.invokestatic 57, 3) := by decide +kernel
theorem dX9_door_11 : decode cX9_door 11 = .ok (.ifCond .eq 29, 3) := by decide +kernel
theorem dX9_door_14 : decode cX9_door 14 = .ok (.iload_n 3, 1) := by decide +kernel
theorem dX9_door_15 : decode cX9_door 15 = .ok (.iconst 0, 1) := by decide +kernel
theorem dX9_door_16 : decode cX9_door 16 = .ok (.bipush 8, 2) := by decide +kernel
theorem dX9_door_18 : decode cX9_door 18 = .ok (.invokestatic 60, 3) := by decide +kernel
theorem dX9_door_21 : decode cX9_door 21 = .ok (.ifCond .eq 19, 3) := by decide +kernel
theorem dX9_door_24 : decode cX9_door 24 = .ok (.iload_n 3, 1) := by decide +kernel
theorem dX9_door_25 : decode cX9_door 25 = .ok (.iload_n 2, 1) := by decide +kernel
theorem dX9_door_26 : decode cX9_door 26 = .ok (.if_icmp .eq 14, 3) := by decide +kernel
theorem dX9_door_29 : decode cX9_door 29 = .ok (.iload 4, 2) := by decide +kernel
theorem dX9_door_31 : decode cX9_door 31 = .ok (.iconst 1, 1) := by decide +kernel
theorem dX9_door_32 : decode cX9_door 32 = .ok (.bipush 9, 2) := by decide +kernel
theorem dX9_door_34 : decode cX9_door 34 = .ok (.invokestatic 60, 3) := by decide +kernel
theorem dX9_door_37 : decode cX9_door 37 = .ok (.ifCond .ne 6, 3) := by decide +kernel
theorem dX9_door_40 : decode cX9_door 40 = .ok (.ldc 66, 2) := by decide +kernel
theorem dX9_door_42 : decode cX9_door 42 = .ok (.ireturn, 1) := by decide +kernel
theorem dX9_door_43 : decode cX9_door 43 = .ok (.aload_n 0, 1) := by decide +kernel
theorem dX9_door_44 : decode cX9_door 44 = .ok (.getfield 10, 3) := by decide +kernel
theorem dX9_door_47 : decode cX9_door 47 = .ok (.getfield 67, 3) := by decide +kernel
theorem dX9_door_50 : decode cX9_door 50 = .ok (.getfield 71, 3) := by decide +kernel
theorem dX9_door_53 : decode cX9_door 53 = .ok (.bipush 10, 2) := by decide +kernel
theorem dX9_door_55 : decode cX9_door 55 = .ok (.if_icmp .lt 6, 3) := by decide +kernel
theorem dX9_door_58 : decode cX9_door 58 = .ok (.ldc 75, 2) := by decide +kernel
theorem dX9_door_60 : decode cX9_door 60 = .ok (.ireturn, 1) := by decide +kernel
theorem dX9_door_61 : decode cX9_door 61 = .ok (.aload_n 0, 1) := by decide +kernel
theorem dX9_door_62 : decode cX9_door 62 = .ok (.getfield 10, 3) := by decide +kernel
theorem dX9_door_65 : decode cX9_door 65 = .ok (.getfield 67, 3) := by decide +kernel
theorem dX9_door_68 : decode cX9_door 68 = .ok (.iload_n 1, 1) := by decide +kernel
theorem dX9_door_69 : decode cX9_door 69 = .ok (.iload_n 2, 1) := by decide +kernel
theorem dX9_door_70 : decode cX9_door 70 = .ok (.iload_n 3, 1) := by decide +kernel
theorem dX9_door_71 : decode cX9_door 71 = .ok (.iload 4, 2) := by decide +kernel
theorem dX9_door_73 : decode cX9_door 73 = .ok (.invokevirtual 76, 3) := by decide +kernel
theorem dX9_door_76 : decode cX9_door 76 = .ok (.ireturn, 1) := by decide +kernel
theorem dX9_told_0 : decode cX9_told 0 = .ok (.aload_n 0, 1) := by decide +kernel
theorem dX9_told_1 : decode cX9_told 1 = .ok (.getfield 10, 3) := by decide +kernel
theorem dX9_told_4 : decode cX9_told 4 = .ok (.getfield 67, 3) := by decide +kernel
theorem dX9_told_7 : decode cX9_told 7 = .ok (.iload_n 1, 1) := by decide +kernel
theorem dX9_told_8 : decode cX9_told 8 = .ok (.invokevirtual 80, 3) := by decide +kernel
theorem dX9_told_11 : decode cX9_told 11 = .ok (.ifCond .ne 6, 3) := by decide +kernel
theorem dX9_told_14 : decode cX9_told 14 = .ok (.ldc 66, 2) := by decide +kernel
theorem dX9_told_16 : decode cX9_told 16 = .ok (.ireturn, 1) := by decide +kernel
theorem dX9_told_17 : decode cX9_told 17 = .ok (.aload_n 0, 1) := by decide +kernel
theorem dX9_told_18 : decode cX9_told 18 = .ok (.getfield 10, 3) := by decide +kernel
theorem dX9_told_21 : decode cX9_told 21 = .ok (.getfield 67, 3) := by decide +kernel
theorem dX9_told_24 : decode cX9_told 24 = .ok (.astore_n 3, 1) := by decide +kernel
theorem dX9_told_25 : decode cX9_told 25 = .ok (.iload_n 2, 1) := by decide +kernel
theorem dX9_told_26 : decode cX9_told 26 = .ok (.tableswitch 122 0 7 #[46, 53, 60, 67, 74, 88, 97, 106], 46) := by decide +kernel
theorem dX9_told_72 : decode cX9_told 72 = .ok (.aload_n 3, 1) := by decide +kernel
theorem dX9_told_73 : decode cX9_told 73 = .ok (.getfield 83, 3) := by decide +kernel
theorem dX9_told_76 : decode cX9_told 76 = .ok (.iload_n 1, 1) := by decide +kernel
theorem dX9_told_77 : decode cX9_told 77 = .ok (.iaload, 1) := by decide +kernel
theorem dX9_told_78 : decode cX9_told 78 = .ok (.ireturn, 1) := by decide +kernel
theorem dX9_told_79 : decode cX9_told 79 = .ok (.aload_n 3, 1) := by decide +kernel
theorem dX9_told_80 : decode cX9_told 80 = .ok (.getfield 86, 3) := by decide +kernel
theorem dX9_told_83 : decode cX9_told 83 = .ok (.iload_n 1, 1) := by decide +kernel
theorem dX9_told_84 : decode cX9_told 84 = .ok (.iaload, 1) := by decide +kernel
theorem dX9_told_85 : decode cX9_told 85 = .ok (.ireturn, 1) := by decide +kernel
theorem dX9_told_86 : decode cX9_told 86 = .ok (.aload_n 3, 1) := by decide +kernel
theorem dX9_told_87 : decode cX9_told 87 = .ok (.getfield 89, 3) := by decide +kernel
theorem dX9_told_90 : decode cX9_told 90 = .ok (.iload_n 1, 1) := by decide +kernel
theorem dX9_told_91 : decode cX9_told 91 = .ok (.iaload, 1) := by decide +kernel
theorem dX9_told_92 : decode cX9_told 92 = .ok (.ireturn, 1) := by decide +kernel
theorem dX9_told_93 : decode cX9_told 93 = .ok (.aload_n 3, 1) := by decide +kernel
theorem dX9_told_94 : decode cX9_told 94 = .ok (.getfield 92, 3) := by decide +kernel
theorem dX9_told_97 : decode cX9_told 97 = .ok (.iload_n 1, 1) := by decide +kernel
theorem dX9_told_98 : decode cX9_told 98 = .ok (.iaload, 1) := by decide +kernel
theorem dX9_told_99 : decode cX9_told 99 = .ok (.ireturn, 1) := by decide +kernel
theorem dX9_told_100 : decode cX9_told 100 = .ok (.aload_n 3, 1) := by decide +kernel
theorem dX9_told_101 : decode cX9_told 101 = .ok (.iload_n 1, 1) := by decide +kernel
theorem dX9_told_102 : decode cX9_told 102 = .ok (.invokevirtual 95, 3) := by decide +kernel
theorem dX9_told_105 : decode cX9_told 105 = .ok (.ifCond .eq 7, 3) := by decide +kernel
theorem dX9_told_108 : decode cX9_told 108 = .ok (.iconst 1, 1) := by decide +kernel
theorem dX9_told_109 : decode cX9_told 109 = .ok (.goto 4, 3) := by decide +kernel
theorem dX9_told_112 : decode cX9_told 112 = .ok (.iconst 0, 1) := by decide +kernel
theorem dX9_told_113 : decode cX9_told 113 = .ok (.ireturn, 1) := by decide +kernel
theorem dX9_told_114 : decode cX9_told 114 = .ok (.aload_n 0, 1) := by decide +kernel
theorem dX9_told_115 : decode cX9_told 115 = .ok (.getfield 10, 3) := by decide +kernel
theorem dX9_told_118 : decode cX9_told 118 = .ok (.iload_n 1, 1) := by decide +kernel
theorem dX9_told_119 : decode cX9_told 119 = .ok (.invokevirtual 98, 3) := by decide +kernel
theorem dX9_told_122 : decode cX9_told 122 = .ok (.ireturn, 1) := by decide +kernel
theorem dX9_told_123 : decode cX9_told 123 = .ok (.aload_n 0, 1) := by decide +kernel
theorem dX9_told_124 : decode cX9_told 124 = .ok (.getfield 10, 3) := by decide +kernel
theorem dX9_told_127 : decode cX9_told 127 = .ok (.iload_n 1, 1) := by decide +kernel
theorem dX9_told_128 : decode cX9_told 128 = .ok (.invokevirtual 102, 3) := by decide +kernel
theorem dX9_told_131 : decode cX9_told 131 = .ok (.ireturn, 1) := by decide +kernel
theorem dX9_told_132 : decode cX9_told 132 = .ok (.aload_n 3, 1) := by decide +kernel
theorem dX9_told_133 : decode cX9_told 133 = .ok (.getfield 83, 3) := by decide +kernel
theorem dX9_told_136 : decode cX9_told 136 = .ok (.iload_n 1, 1) := by decide +kernel
theorem dX9_told_137 : decode cX9_told 137 = .ok (.iaload, 1) := by decide +kernel
theorem dX9_told_138 : decode cX9_told 138 = .ok (.aload_n 3, 1) := by decide +kernel
theorem dX9_told_139 : decode cX9_told 139 = .ok (.getfield 92, 3) := by decide +kernel
theorem dX9_told_142 : decode cX9_told 142 = .ok (.iload_n 1, 1) := by decide +kernel
theorem dX9_told_143 : decode cX9_told 143 = .ok (.iaload, 1) := by decide +kernel
theorem dX9_told_144 : decode cX9_told 144 = .ok (.invokestatic 105, 3) := by decide +kernel
theorem dX9_told_147 : decode cX9_told 147 = .ok (.ireturn, 1) := by decide +kernel
theorem dX9_told_148 : decode cX9_told 148 = .ok (.ldc 66, 2) := by decide +kernel
theorem dX9_told_150 : decode cX9_told 150 = .ok (.ireturn, 1) := by decide +kernel
theorem dX9_as_0 : decode cX9_as 0 = .ok (.aload_n 0, 1) := by decide +kernel
theorem dX9_as_1 : decode cX9_as 1 = .ok (.getfield 10, 3) := by decide +kernel
theorem dX9_as_4 : decode cX9_as 4 = .ok (.getfield 67, 3) := by decide +kernel
theorem dX9_as_7 : decode cX9_as 7 = .ok (.iload_n 1, 1) := by decide +kernel
theorem dX9_as_8 : decode cX9_as 8 = .ok (.invokevirtual 80, 3) := by decide +kernel
theorem dX9_as_11 : decode cX9_as 11 = .ok (.ifCond .eq 10, 3) := by decide +kernel
theorem dX9_as_14 : decode cX9_as 14 = .ok (.iload_n 2, 1) := by decide +kernel
theorem dX9_as_15 : decode cX9_as 15 = .ok (.invokestatic 51, 3) := by decide +kernel
theorem dX9_as_18 : decode cX9_as 18 = .ok (.ifCond .ne 6, 3) := by decide +kernel
theorem dX9_as_21 : decode cX9_as 21 = .ok (.ldc 66, 2) := by decide +kernel
theorem dX9_as_23 : decode cX9_as 23 = .ok (.ireturn, 1) := by decide +kernel
theorem dX9_as_24 : decode cX9_as 24 = .ok (.aload_n 0, 1) := by decide +kernel
theorem dX9_as_25 : decode cX9_as 25 = .ok (.getfield 10, 3) := by decide +kernel
theorem dX9_as_28 : decode cX9_as 28 = .ok (.getfield 67, 3) := by decide +kernel
theorem dX9_as_31 : decode cX9_as 31 = .ok (.getfield 83, 3) := by decide +kernel
theorem dX9_as_34 : decode cX9_as 34 = .ok (.iload_n 1, 1) := by decide +kernel
theorem dX9_as_35 : decode cX9_as 35 = .ok (.iaload, 1) := by decide +kernel
theorem dX9_as_36 : decode cX9_as 36 = .ok (.iload_n 2, 1) := by decide +kernel
theorem dX9_as_37 : decode cX9_as 37 = .ok (.invokestatic 109, 3) := by decide +kernel
theorem dX9_as_40 : decode cX9_as 40 = .ok (.ifCond .eq 18, 3) := by decide +kernel
theorem dX9_as_43 : decode cX9_as 43 = .ok (.aload_n 0, 1) := by decide +kernel
theorem dX9_as_44 : decode cX9_as 44 = .ok (.getfield 10, 3) := by decide +kernel
theorem dX9_as_47 : decode cX9_as 47 = .ok (.getfield 67, 3) := by decide +kernel
theorem dX9_as_50 : decode cX9_as 50 = .ok (.getfield 92, 3) := by decide +kernel
theorem dX9_as_53 : decode cX9_as 53 = .ok (.iload_n 1, 1) := by decide +kernel
theorem dX9_as_54 : decode cX9_as 54 = .ok (.iaload, 1) := by decide +kernel
theorem dX9_as_55 : decode cX9_as 55 = .ok (.goto 5, 3) := by decide +kernel
theorem dX9_as_58 : decode cX9_as 58 = .ok (.ldc 113, 2) := by decide +kernel
theorem dX9_as_60 : decode cX9_as 60 = .ok (.ireturn, 1) := by decide +kernel
theorem dX9_turns_0 : decode cX9_turns 0 = .ok (.aload_n 0, 1) := by decide +kernel
theorem dX9_turns_1 : decode cX9_turns 1 = .ok (.getfield 10, 3) := by decide +kernel
theorem dX9_turns_4 : decode cX9_turns 4 = .ok (.getfield 67, 3) := by decide +kernel
theorem dX9_turns_7 : decode cX9_turns 7 = .ok (.iload_n 1, 1) := by decide +kernel
theorem dX9_turns_8 : decode cX9_turns 8 = .ok (.invokevirtual 80, 3) := by decide +kernel
theorem dX9_turns_11 : decode cX9_turns 11 = .ok (.ifCond .eq 10, 3) := by decide +kernel
theorem dX9_turns_14 : decode cX9_turns 14 = .ok (.iload_n 2, 1) := by decide +kernel
theorem dX9_turns_15 : decode cX9_turns 15 = .ok (.invokestatic 51, 3) := by decide +kernel
theorem dX9_turns_18 : decode cX9_turns 18 = .ok (.ifCond .ne 6, 3) := by decide +kernel
theorem dX9_turns_21 : decode cX9_turns 21 = .ok (.ldc 66, 2) := by decide +kernel
theorem dX9_turns_23 : decode cX9_turns 23 = .ok (.ireturn, 1) := by decide +kernel
theorem dX9_turns_24 : decode cX9_turns 24 = .ok (.aload_n 0, 1) := by decide +kernel
theorem dX9_turns_25 : decode cX9_turns 25 = .ok (.getfield 10, 3) := by decide +kernel
theorem dX9_turns_28 : decode cX9_turns 28 = .ok (.getfield 67, 3) := by decide +kernel
theorem dX9_turns_31 : decode cX9_turns 31 = .ok (.getfield 83, 3) := by decide +kernel
theorem dX9_turns_34 : decode cX9_turns 34 = .ok (.iload_n 1, 1) := by decide +kernel
theorem dX9_turns_35 : decode cX9_turns 35 = .ok (.iaload, 1) := by decide +kernel
theorem dX9_turns_36 : decode cX9_turns 36 = .ok (.istore_n 3, 1) := by decide +kernel
theorem dX9_turns_37 : decode cX9_turns 37 = .ok (.aload_n 0, 1) := by decide +kernel
theorem dX9_turns_38 : decode cX9_turns 38 = .ok (.getfield 10, 3) := by decide +kernel
theorem dX9_turns_41 : decode cX9_turns 41 = .ok (.getfield 67, 3) := by decide +kernel
theorem dX9_turns_44 : decode cX9_turns 44 = .ok (.getfield 83, 3) := by decide +kernel
theorem dX9_turns_47 : decode cX9_turns 47 = .ok (.iload_n 1, 1) := by decide +kernel
theorem dX9_turns_48 : decode cX9_turns 48 = .ok (.iload_n 2, 1) := by decide +kernel
theorem dX9_turns_49 : decode cX9_turns 49 = .ok (.iastore, 1) := by decide +kernel
theorem dX9_turns_50 : decode cX9_turns 50 = .ok (.iload_n 3, 1) := by decide +kernel
theorem dX9_turns_51 : decode cX9_turns 51 = .ok (.ireturn, 1) := by decide +kernel
theorem dX9_open_0 : decode cX9_open 0 = .ok (.aload_n 0, 1) := by decide +kernel
theorem dX9_open_1 : decode cX9_open 1 = .ok (.getfield 10, 3) := by decide +kernel
theorem dX9_open_4 : decode cX9_open 4 = .ok (.getfield 67, 3) := by decide +kernel
theorem dX9_open_7 : decode cX9_open 7 = .ok (.iload_n 1, 1) := by decide +kernel
theorem dX9_open_8 : decode cX9_open 8 = .ok (.invokevirtual 80, 3) := by decide +kernel
theorem dX9_open_11 : decode cX9_open 11 = .ok (.ifCond .eq 12, 3) := by decide +kernel
theorem dX9_open_14 : decode cX9_open 14 = .ok (.iload_n 2, 1) := by decide +kernel
theorem dX9_open_15 : decode cX9_open 15 = .ok (.iconst 0, 1) := by decide +kernel
theorem dX9_open_16 : decode cX9_open 16 = .ok (.iconst 1, 1) := by decide +kernel
theorem dX9_open_17 : decode cX9_open 17 = .ok (.invokestatic 60, 3) := by decide +kernel
theorem dX9_open_20 : decode cX9_open 20 = .ok (.ifCond .ne 6, 3) := by decide +kernel
theorem dX9_open_23 : decode cX9_open 23 = .ok (.ldc 66, 2) := by decide +kernel
theorem dX9_open_25 : decode cX9_open 25 = .ok (.ireturn, 1) := by decide +kernel
theorem dX9_open_26 : decode cX9_open 26 = .ok (.aload_n 0, 1) := by decide +kernel
theorem dX9_open_27 : decode cX9_open 27 = .ok (.getfield 10, 3) := by decide +kernel
theorem dX9_open_30 : decode cX9_open 30 = .ok (.getfield 67, 3) := by decide +kernel
theorem dX9_open_33 : decode cX9_open 33 = .ok (.iload_n 1, 1) := by decide +kernel
theorem dX9_open_34 : decode cX9_open 34 = .ok (.invokevirtual 95, 3) := by decide +kernel
theorem dX9_open_37 : decode cX9_open 37 = .ok (.ifCond .eq 7, 3) := by decide +kernel
theorem dX9_open_40 : decode cX9_open 40 = .ok (.iconst 1, 1) := by decide +kernel
theorem dX9_open_41 : decode cX9_open 41 = .ok (.goto 4, 3) := by decide +kernel
theorem dX9_open_44 : decode cX9_open 44 = .ok (.iconst 0, 1) := by decide +kernel
theorem dX9_open_45 : decode cX9_open 45 = .ok (.istore_n 3, 1) := by decide +kernel
theorem dX9_open_46 : decode cX9_open 46 = .ok (.aload_n 0, 1) := by decide +kernel
theorem dX9_open_47 : decode cX9_open 47 = .ok (.getfield 10, 3) := by decide +kernel
theorem dX9_open_50 : decode cX9_open 50 = .ok (.getfield 67, 3) := by decide +kernel
theorem dX9_open_53 : decode cX9_open 53 = .ok (.iload_n 1, 1) := by decide +kernel
theorem dX9_open_54 : decode cX9_open 54 = .ok (.iload_n 2, 1) := by decide +kernel
theorem dX9_open_55 : decode cX9_open 55 = .ok (.iconst 1, 1) := by decide +kernel
theorem dX9_open_56 : decode cX9_open 56 = .ok (.if_icmp .ne 7, 3) := by decide +kernel
theorem dX9_open_59 : decode cX9_open 59 = .ok (.iconst 1, 1) := by decide +kernel
theorem dX9_open_60 : decode cX9_open 60 = .ok (.goto 4, 3) := by decide +kernel
theorem dX9_open_63 : decode cX9_open 63 = .ok (.iconst 0, 1) := by decide +kernel
theorem dX9_open_64 : decode cX9_open 64 = .ok (.invokevirtual 114, 3) := by decide +kernel
theorem dX9_open_67 : decode cX9_open 67 = .ok (.iload_n 3, 1) := by decide +kernel
theorem dX9_open_68 : decode cX9_open 68 = .ok (.ireturn, 1) := by decide +kernel
theorem dX9_room_0 : decode cX9_room 0 = .ok (.iload_n 1, 1) := by decide +kernel
theorem dX9_room_1 : decode cX9_room 1 = .ok (.invokestatic 57, 3) := by decide +kernel
theorem dX9_room_4 : decode cX9_room 4 = .ok (.ifCond .ne 6, 3) := by decide +kernel
theorem dX9_room_7 : decode cX9_room 7 = .ok (.ldc 66, 2) := by decide +kernel
theorem dX9_room_9 : decode cX9_room 9 = .ok (.ireturn, 1) := by decide +kernel
theorem dX9_room_10 : decode cX9_room 10 = .ok (.iload_n 2, 1) := by decide +kernel
theorem dX9_room_11 : decode cX9_room 11 = .ok (.tableswitch 89 0 4 #[33, 43, 53, 63, 80], 33) := by decide +kernel
theorem dX9_room_44 : decode cX9_room 44 = .ok (.aload_n 0, 1) := by decide +kernel
theorem dX9_room_45 : decode cX9_room 45 = .ok (.getfield 10, 3) := by decide +kernel
theorem dX9_room_48 : decode cX9_room 48 = .ok (.getfield 118, 3) := by decide +kernel
theorem dX9_room_51 : decode cX9_room 51 = .ok (.iload_n 1, 1) := by decide +kernel
theorem dX9_room_52 : decode cX9_room 52 = .ok (.iaload, 1) := by decide +kernel
theorem dX9_room_53 : decode cX9_room 53 = .ok (.ireturn, 1) := by decide +kernel
theorem dX9_room_54 : decode cX9_room 54 = .ok (.aload_n 0, 1) := by decide +kernel
theorem dX9_room_55 : decode cX9_room 55 = .ok (.getfield 10, 3) := by decide +kernel
theorem dX9_room_58 : decode cX9_room 58 = .ok (.getfield 121, 3) := by decide +kernel
theorem dX9_room_61 : decode cX9_room 61 = .ok (.iload_n 1, 1) := by decide +kernel
theorem dX9_room_62 : decode cX9_room 62 = .ok (.iaload, 1) := by decide +kernel
theorem dX9_room_63 : decode cX9_room 63 = .ok (.ireturn, 1) := by decide +kernel
theorem dX9_room_64 : decode cX9_room 64 = .ok (.aload_n 0, 1) := by decide +kernel
theorem dX9_room_65 : decode cX9_room 65 = .ok (.getfield 10, 3) := by decide +kernel
theorem dX9_room_68 : decode cX9_room 68 = .ok (.getfield 124, 3) := by decide +kernel
theorem dX9_room_71 : decode cX9_room 71 = .ok (.iload_n 1, 1) := by decide +kernel
theorem dX9_room_72 : decode cX9_room 72 = .ok (.iaload, 1) := by decide +kernel
theorem dX9_room_73 : decode cX9_room 73 = .ok (.ireturn, 1) := by decide +kernel
theorem dX9_room_74 : decode cX9_room 74 = .ok (.aload_n 0, 1) := by decide +kernel
theorem dX9_room_75 : decode cX9_room 75 = .ok (.getfield 10, 3) := by decide +kernel
theorem dX9_room_78 : decode cX9_room 78 = .ok (.iload_n 1, 1) := by decide +kernel
theorem dX9_room_79 : decode cX9_room 79 = .ok (.invokevirtual 127, 3) := by decide +kernel
theorem dX9_room_82 : decode cX9_room 82 = .ok (.ifCond .eq 7, 3) := by decide +kernel
theorem dX9_room_85 : decode cX9_room 85 = .ok (.iconst 1, 1) := by decide +kernel
theorem dX9_room_86 : decode cX9_room 86 = .ok (.goto 4, 3) := by decide +kernel
theorem dX9_room_89 : decode cX9_room 89 = .ok (.iconst 0, 1) := by decide +kernel
theorem dX9_room_90 : decode cX9_room 90 = .ok (.ireturn, 1) := by decide +kernel
theorem dX9_room_91 : decode cX9_room 91 = .ok (.aload_n 0, 1) := by decide +kernel
theorem dX9_room_92 : decode cX9_room 92 = .ok (.getfield 10, 3) := by decide +kernel
theorem dX9_room_95 : decode cX9_room 95 = .ok (.iload_n 1, 1) := by decide +kernel
theorem dX9_room_96 : decode cX9_room 96 = .ok (.invokevirtual 130, 3) := by decide +kernel
theorem dX9_room_99 : decode cX9_room 99 = .ok (.ireturn, 1) := by decide +kernel
theorem dX9_room_100 : decode cX9_room 100 = .ok (.ldc 66, 2) := by decide +kernel
theorem dX9_room_102 : decode cX9_room 102 = .ok (.ireturn, 1) := by decide +kernel
theorem dX9_set_0 : decode cX9_set 0 = .ok (.iload_n 1, 1) := by decide +kernel
theorem dX9_set_1 : decode cX9_set 1 = .ok (.invokestatic 57, 3) := by decide +kernel
theorem dX9_set_4 : decode cX9_set 4 = .ok (.ifCond .eq 24, 3) := by decide +kernel
theorem dX9_set_7 : decode cX9_set 7 = .ok (.iload_n 2, 1) := by decide +kernel
theorem dX9_set_8 : decode cX9_set 8 = .ok (.iconst 0, 1) := by decide +kernel
theorem dX9_set_9 : decode cX9_set 9 = .ok (.iconst 3, 1) := by decide +kernel
theorem dX9_set_10 : decode cX9_set 10 = .ok (.invokestatic 60, 3) := by decide +kernel
theorem dX9_set_13 : decode cX9_set 13 = .ok (.ifCond .eq 15, 3) := by decide +kernel
theorem dX9_set_16 : decode cX9_set 16 = .ok (.iload_n 3, 1) := by decide +kernel
theorem dX9_set_17 : decode cX9_set 17 = .ok (.iconst 0, 1) := by decide +kernel
theorem dX9_set_18 : decode cX9_set 18 = .ok (.iload_n 2, 1) := by decide +kernel
theorem dX9_set_19 : decode cX9_set 19 = .ok (.invokestatic 133, 3) := by decide +kernel
theorem dX9_set_22 : decode cX9_set 22 = .ok (.invokestatic 60, 3) := by decide +kernel
theorem dX9_set_25 : decode cX9_set 25 = .ok (.ifCond .ne 6, 3) := by decide +kernel
theorem dX9_set_28 : decode cX9_set 28 = .ok (.ldc 66, 2) := by decide +kernel
theorem dX9_set_30 : decode cX9_set 30 = .ok (.ireturn, 1) := by decide +kernel
theorem dX9_set_31 : decode cX9_set 31 = .ok (.iload_n 2, 1) := by decide +kernel
theorem dX9_set_32 : decode cX9_set 32 = .ok (.tableswitch 100 0 2 #[28, 52, 76], 28) := by decide +kernel
theorem dX9_set_60 : decode cX9_set 60 = .ok (.aload_n 0, 1) := by decide +kernel
theorem dX9_set_61 : decode cX9_set 61 = .ok (.getfield 10, 3) := by decide +kernel
theorem dX9_set_64 : decode cX9_set 64 = .ok (.getfield 118, 3) := by decide +kernel
theorem dX9_set_67 : decode cX9_set 67 = .ok (.iload_n 1, 1) := by decide +kernel
theorem dX9_set_68 : decode cX9_set 68 = .ok (.iaload, 1) := by decide +kernel
theorem dX9_set_69 : decode cX9_set 69 = .ok (.istore 4, 2) := by decide +kernel
theorem dX9_set_71 : decode cX9_set 71 = .ok (.aload_n 0, 1) := by decide +kernel
theorem dX9_set_72 : decode cX9_set 72 = .ok (.getfield 10, 3) := by decide +kernel
theorem dX9_set_75 : decode cX9_set 75 = .ok (.getfield 118, 3) := by decide +kernel
theorem dX9_set_78 : decode cX9_set 78 = .ok (.iload_n 1, 1) := by decide +kernel
theorem dX9_set_79 : decode cX9_set 79 = .ok (.iload_n 3, 1) := by decide +kernel
theorem dX9_set_80 : decode cX9_set 80 = .ok (.iastore, 1) := by decide +kernel
theorem dX9_set_81 : decode cX9_set 81 = .ok (.iload 4, 2) := by decide +kernel
theorem dX9_set_83 : decode cX9_set 83 = .ok (.ireturn, 1) := by decide +kernel
theorem dX9_set_84 : decode cX9_set 84 = .ok (.aload_n 0, 1) := by decide +kernel
theorem dX9_set_85 : decode cX9_set 85 = .ok (.getfield 10, 3) := by decide +kernel
theorem dX9_set_88 : decode cX9_set 88 = .ok (.getfield 121, 3) := by decide +kernel
theorem dX9_set_91 : decode cX9_set 91 = .ok (.iload_n 1, 1) := by decide +kernel
theorem dX9_set_92 : decode cX9_set 92 = .ok (.iaload, 1) := by decide +kernel
theorem dX9_set_93 : decode cX9_set 93 = .ok (.istore 4, 2) := by decide +kernel
theorem dX9_set_95 : decode cX9_set 95 = .ok (.aload_n 0, 1) := by decide +kernel
theorem dX9_set_96 : decode cX9_set 96 = .ok (.getfield 10, 3) := by decide +kernel
theorem dX9_set_99 : decode cX9_set 99 = .ok (.getfield 121, 3) := by decide +kernel
theorem dX9_set_102 : decode cX9_set 102 = .ok (.iload_n 1, 1) := by decide +kernel
theorem dX9_set_103 : decode cX9_set 103 = .ok (.iload_n 3, 1) := by decide +kernel
theorem dX9_set_104 : decode cX9_set 104 = .ok (.iastore, 1) := by decide +kernel
theorem dX9_set_105 : decode cX9_set 105 = .ok (.iload 4, 2) := by decide +kernel
theorem dX9_set_107 : decode cX9_set 107 = .ok (.ireturn, 1) := by decide +kernel
theorem dX9_set_108 : decode cX9_set 108 = .ok (.aload_n 0, 1) := by decide +kernel
theorem dX9_set_109 : decode cX9_set 109 = .ok (.getfield 10, 3) := by decide +kernel
theorem dX9_set_112 : decode cX9_set 112 = .ok (.getfield 124, 3) := by decide +kernel
theorem dX9_set_115 : decode cX9_set 115 = .ok (.iload_n 1, 1) := by decide +kernel
theorem dX9_set_116 : decode cX9_set 116 = .ok (.iaload, 1) := by decide +kernel
theorem dX9_set_117 : decode cX9_set 117 = .ok (.istore 4, 2) := by decide +kernel
theorem dX9_set_119 : decode cX9_set 119 = .ok (.aload_n 0, 1) := by decide +kernel
theorem dX9_set_120 : decode cX9_set 120 = .ok (.getfield 10, 3) := by decide +kernel
theorem dX9_set_123 : decode cX9_set 123 = .ok (.getfield 124, 3) := by decide +kernel
theorem dX9_set_126 : decode cX9_set 126 = .ok (.iload_n 1, 1) := by decide +kernel
theorem dX9_set_127 : decode cX9_set 127 = .ok (.iload_n 3, 1) := by decide +kernel
theorem dX9_set_128 : decode cX9_set 128 = .ok (.iastore, 1) := by decide +kernel
theorem dX9_set_129 : decode cX9_set 129 = .ok (.iload 4, 2) := by decide +kernel
theorem dX9_set_131 : decode cX9_set 131 = .ok (.ireturn, 1) := by decide +kernel
theorem dX9_set_132 : decode cX9_set 132 = .ok (.aload_n 0, 1) := by decide +kernel
theorem dX9_set_133 : decode cX9_set 133 = .ok (.getfield 10, 3) := by decide +kernel
theorem dX9_set_136 : decode cX9_set 136 = .ok (.iload_n 1, 1) := by decide +kernel
theorem dX9_set_137 : decode cX9_set 137 = .ok (.invokevirtual 127, 3) := by decide +kernel
theorem dX9_set_140 : decode cX9_set 140 = .ok (.ifCond .eq 7, 3) := by decide +kernel
theorem dX9_set_143 : decode cX9_set 143 = .ok (.iconst 1, 1) := by decide +kernel
theorem dX9_set_144 : decode cX9_set 144 = .ok (.goto 4, 3) := by decide +kernel
theorem dX9_set_147 : decode cX9_set 147 = .ok (.iconst 0, 1) := by decide +kernel
theorem dX9_set_148 : decode cX9_set 148 = .ok (.istore 4, 2) := by decide +kernel
theorem dX9_set_150 : decode cX9_set 150 = .ok (.aload_n 0, 1) := by decide +kernel
theorem dX9_set_151 : decode cX9_set 151 = .ok (.getfield 10, 3) := by decide +kernel
theorem dX9_set_154 : decode cX9_set 154 = .ok (.iload_n 1, 1) := by decide +kernel
theorem dX9_set_155 : decode cX9_set 155 = .ok (.iload_n 3, 1) := by decide +kernel
theorem dX9_set_156 : decode cX9_set 156 = .ok (.iconst 1, 1) := by decide +kernel
theorem dX9_set_157 : decode cX9_set 157 = .ok (.if_icmp .ne 7, 3) := by decide +kernel
theorem dX9_set_160 : decode cX9_set 160 = .ok (.iconst 1, 1) := by decide +kernel
theorem dX9_set_161 : decode cX9_set 161 = .ok (.goto 4, 3) := by decide +kernel
theorem dX9_set_164 : decode cX9_set 164 = .ok (.iconst 0, 1) := by decide +kernel
theorem dX9_set_165 : decode cX9_set 165 = .ok (.invokevirtual 136, 3) := by decide +kernel
theorem dX9_set_168 : decode cX9_set 168 = .ok (.iload 4, 2) := by decide +kernel
theorem dX9_set_170 : decode cX9_set 170 = .ok (.ireturn, 1) := by decide +kernel
theorem dX9_mostOf_0 : decode cX9_mostOf 0 = .ok (.iload_n 0, 1) := by decide +kernel
theorem dX9_mostOf_1 : decode cX9_mostOf 1 = .ok (.tableswitch 38 0 2 #[27, 31, 34], 27) := by decide +kernel
theorem dX9_mostOf_28 : decode cX9_mostOf 28 = .ok (.sipush 9999, 3) := by decide +kernel
theorem dX9_mostOf_31 : decode cX9_mostOf 31 = .ok (.ireturn, 1) := by decide +kernel
theorem dX9_mostOf_32 : decode cX9_mostOf 32 = .ok (.bipush 9, 2) := by decide +kernel
theorem dX9_mostOf_34 : decode cX9_mostOf 34 = .ok (.ireturn, 1) := by decide +kernel
theorem dX9_mostOf_35 : decode cX9_mostOf 35 = .ok (.sipush 9999, 3) := by decide +kernel
theorem dX9_mostOf_38 : decode cX9_mostOf 38 = .ok (.ireturn, 1) := by decide +kernel
theorem dX9_mostOf_39 : decode cX9_mostOf 39 = .ok (.iconst 1, 1) := by decide +kernel
theorem dX9_mostOf_40 : decode cX9_mostOf 40 = .ok (.ireturn, 1) := by decide +kernel
theorem dX9_wind_0 : decode cX9_wind 0 = .ok (.iload_n 1, 1) := by decide +kernel
theorem dX9_wind_1 : decode cX9_wind 1 = .ok (.iconst 0, 1) := by decide +kernel
theorem dX9_wind_2 : decode cX9_wind 2 = .ok (.sipush 9999, 3) := by decide +kernel
theorem dX9_wind_5 : decode cX9_wind 5 = .ok (.invokestatic 60, 3) := by decide +kernel
theorem dX9_wind_8 : decode cX9_wind 8 = .ok (.ifCond .ne 6, 3) := by decide +kernel
theorem dX9_wind_11 : decode cX9_wind 11 = .ok (.ldc 66, 2) := by decide +kernel
theorem dX9_wind_13 : decode cX9_wind 13 = .ok (.ireturn, 1) := by decide +kernel
theorem dX9_wind_14 : decode cX9_wind 14 = .ok (.aload_n 0, 1) := by decide +kernel
theorem dX9_wind_15 : decode cX9_wind 15 = .ok (.getfield 10, 3) := by decide +kernel
theorem dX9_wind_18 : decode cX9_wind 18 = .ok (.getfield 118, 3) := by decide +kernel
theorem dX9_wind_21 : decode cX9_wind 21 = .ok (.bipush 8, 2) := by decide +kernel
theorem dX9_wind_23 : decode cX9_wind 23 = .ok (.iaload, 1) := by decide +kernel
theorem dX9_wind_24 : decode cX9_wind 24 = .ok (.istore_n 2, 1) := by decide +kernel
theorem dX9_wind_25 : decode cX9_wind 25 = .ok (.aload_n 0, 1) := by decide +kernel
theorem dX9_wind_26 : decode cX9_wind 26 = .ok (.getfield 10, 3) := by decide +kernel
theorem dX9_wind_29 : decode cX9_wind 29 = .ok (.getfield 118, 3) := by decide +kernel
theorem dX9_wind_32 : decode cX9_wind 32 = .ok (.bipush 8, 2) := by decide +kernel
theorem dX9_wind_34 : decode cX9_wind 34 = .ok (.iload_n 1, 1) := by decide +kernel
theorem dX9_wind_35 : decode cX9_wind 35 = .ok (.iastore, 1) := by decide +kernel
theorem dX9_wind_36 : decode cX9_wind 36 = .ok (.iload_n 2, 1) := by decide +kernel
theorem dX9_wind_37 : decode cX9_wind 37 = .ok (.ireturn, 1) := by decide +kernel
theorem dX9_deal_0 : decode cX9_deal 0 = .ok (.iload_n 1, 1) := by decide +kernel
theorem dX9_deal_1 : decode cX9_deal 1 = .ok (.iconst 1, 1) := by decide +kernel
theorem dX9_deal_2 : decode cX9_deal 2 = .ok (.bipush 10, 2) := by decide +kernel
theorem dX9_deal_4 : decode cX9_deal 4 = .ok (.invokestatic 60, 3) := by decide +kernel
theorem dX9_deal_7 : decode cX9_deal 7 = .ok (.ifCond .ne 6, 3) := by decide +kernel
theorem dX9_deal_10 : decode cX9_deal 10 = .ok (.ldc 66, 2) := by decide +kernel
theorem dX9_deal_12 : decode cX9_deal 12 = .ok (.ireturn, 1) := by decide +kernel
theorem dX9_deal_13 : decode cX9_deal 13 = .ok (.iload_n 1, 1) := by decide +kernel
theorem dX9_deal_14 : decode cX9_deal 14 = .ok (.bipush 10, 2) := by decide +kernel
theorem dX9_deal_16 : decode cX9_deal 16 = .ok (.aload_n 0, 1) := by decide +kernel
theorem dX9_deal_17 : decode cX9_deal 17 = .ok (.getfield 10, 3) := by decide +kernel
theorem dX9_deal_20 : decode cX9_deal 20 = .ok (.getfield 67, 3) := by decide +kernel
theorem dX9_deal_23 : decode cX9_deal 23 = .ok (.getfield 71, 3) := by decide +kernel
theorem dX9_deal_26 : decode cX9_deal 26 = .ok (.isub, 1) := by decide +kernel
theorem dX9_deal_27 : decode cX9_deal 27 = .ok (.invokestatic 139, 3) := by decide +kernel
theorem dX9_deal_30 : decode cX9_deal 30 = .ok (.istore_n 2, 1) := by decide +kernel
theorem dX9_deal_31 : decode cX9_deal 31 = .ok (.iconst 0, 1) := by decide +kernel
theorem dX9_deal_32 : decode cX9_deal 32 = .ok (.istore_n 3, 1) := by decide +kernel
theorem dX9_deal_33 : decode cX9_deal 33 = .ok (.iload_n 3, 1) := by decide +kernel
theorem dX9_deal_34 : decode cX9_deal 34 = .ok (.iload_n 2, 1) := by decide +kernel
theorem dX9_deal_35 : decode cX9_deal 35 = .ok (.if_icmp .ge 16, 3) := by decide +kernel
theorem dX9_deal_38 : decode cX9_deal 38 = .ok (.aload_n 0, 1) := by decide +kernel
theorem dX9_deal_39 : decode cX9_deal 39 = .ok (.getfield 10, 3) := by decide +kernel
theorem dX9_deal_42 : decode cX9_deal 42 = .ok (.invokevirtual 144, 3) := by decide +kernel
theorem dX9_deal_45 : decode cX9_deal 45 = .ok (.iinc 3 1, 3) := by decide +kernel
theorem dX9_deal_48 : decode cX9_deal 48 = .ok (.goto (-15), 3) := by decide +kernel
theorem dX9_deal_51 : decode cX9_deal 51 = .ok (.iload_n 2, 1) := by decide +kernel
theorem dX9_deal_52 : decode cX9_deal 52 = .ok (.ireturn, 1) := by decide +kernel
theorem dX9_seed_0 : decode cX9_seed 0 = .ok (.aload_n 0, 1) := by decide +kernel
theorem dX9_seed_1 : decode cX9_seed 1 = .ok (.getfield 10, 3) := by decide +kernel
theorem dX9_seed_4 : decode cX9_seed 4 = .ok (.getfield 147, 3) := by decide +kernel
theorem dX9_seed_7 : decode cX9_seed 7 = .ok (.istore_n 2, 1) := by decide +kernel
theorem dX9_seed_8 : decode cX9_seed 8 = .ok (.aload_n 0, 1) := by decide +kernel
theorem dX9_seed_9 : decode cX9_seed 9 = .ok (.getfield 10, 3) := by decide +kernel
theorem dX9_seed_12 : decode cX9_seed 12 = .ok (.iload_n 1, 1) := by decide +kernel
theorem dX9_seed_13 : decode cX9_seed 13 = .ok (.putfield 147, 3) := by decide +kernel
theorem dX9_seed_16 : decode cX9_seed 16 = .ok (.iload_n 2, 1) := by decide +kernel
theorem dX9_seed_17 : decode cX9_seed 17 = .ok (.ireturn, 1) := by decide +kernel
theorem dX9_run_0 : decode cX9_run 0 = .ok (.iload_n 1, 1) := by decide +kernel
theorem dX9_run_1 : decode cX9_run 1 = .ok (.iconst 1, 1) := by decide +kernel
theorem dX9_run_2 : decode cX9_run 2 = .ok (.bipush 100, 2) := by decide +kernel
theorem dX9_run_4 : decode cX9_run 4 = .ok (.invokestatic 60, 3) := by decide +kernel
theorem dX9_run_7 : decode cX9_run 7 = .ok (.ifCond .ne 6, 3) := by decide +kernel
theorem dX9_run_10 : decode cX9_run 10 = .ok (.ldc 66, 2) := by decide +kernel
theorem dX9_run_12 : decode cX9_run 12 = .ok (.ireturn, 1) := by decide +kernel
theorem dX9_run_13 : decode cX9_run 13 = .ok (.aload_n 0, 1) := by decide +kernel
theorem dX9_run_14 : decode cX9_run 14 = .ok (.getfield 10, 3) := by decide +kernel
theorem dX9_run_17 : decode cX9_run 17 = .ok (.invokevirtual 150, 3) := by decide +kernel
theorem dX9_run_20 : decode cX9_run 20 = .ok (.istore_n 2, 1) := by decide +kernel
theorem dX9_run_21 : decode cX9_run 21 = .ok (.iload_n 1, 1) := by decide +kernel
theorem dX9_run_22 : decode cX9_run 22 = .ok (.aload_n 0, 1) := by decide +kernel
theorem dX9_run_23 : decode cX9_run 23 = .ok (.getfield 10, 3) := by decide +kernel
theorem dX9_run_26 : decode cX9_run 26 = .ok (.invokevirtual 154, 3) := by decide +kernel
theorem dX9_run_29 : decode cX9_run 29 = .ok (.invokestatic 139, 3) := by decide +kernel
theorem dX9_run_32 : decode cX9_run 32 = .ok (.istore_n 3, 1) := by decide +kernel
theorem dX9_run_33 : decode cX9_run 33 = .ok (.iconst 0, 1) := by decide +kernel
theorem dX9_run_34 : decode cX9_run 34 = .ok (.istore 4, 2) := by decide +kernel
theorem dX9_run_36 : decode cX9_run 36 = .ok (.iload 4, 2) := by decide +kernel
theorem dX9_run_38 : decode cX9_run 38 = .ok (.iload_n 3, 1) := by decide +kernel
theorem dX9_run_39 : decode cX9_run 39 = .ok (.if_icmp .ge 16, 3) := by decide +kernel
theorem dX9_run_42 : decode cX9_run 42 = .ok (.aload_n 0, 1) := by decide +kernel
theorem dX9_run_43 : decode cX9_run 43 = .ok (.getfield 10, 3) := by decide +kernel
theorem dX9_run_46 : decode cX9_run 46 = .ok (.invokevirtual 157, 3) := by decide +kernel
theorem dX9_run_49 : decode cX9_run 49 = .ok (.iinc 4 1, 3) := by decide +kernel
theorem dX9_run_52 : decode cX9_run 52 = .ok (.goto (-16), 3) := by decide +kernel
theorem dX9_run_55 : decode cX9_run 55 = .ok (.iload_n 2, 1) := by decide +kernel
theorem dX9_run_56 : decode cX9_run 56 = .ok (.aload_n 0, 1) := by decide +kernel
theorem dX9_run_57 : decode cX9_run 57 = .ok (.getfield 10, 3) := by decide +kernel
theorem dX9_run_60 : decode cX9_run 60 = .ok (.invokevirtual 150, 3) := by decide +kernel
theorem dX9_run_63 : decode cX9_run 63 = .ok (.isub, 1) := by decide +kernel
theorem dX9_run_64 : decode cX9_run 64 = .ok (.ireturn, 1) := by decide +kernel
theorem dX9_footman_0 : decode cX9_footman 0 = .ok (.iload_n 1, 1) := by decide +kernel
theorem dX9_footman_1 : decode cX9_footman 1 = .ok (.iconst 0, 1) := by decide +kernel
theorem dX9_footman_2 : decode cX9_footman 2 = .ok (.bipush 100, 2) := by decide +kernel
theorem dX9_footman_4 : decode cX9_footman 4 = .ok (.invokestatic 60, 3) := by decide +kernel
theorem dX9_footman_7 : decode cX9_footman 7 = .ok (.ifCond .ne 6, 3) := by decide +kernel
theorem dX9_footman_10 : decode cX9_footman 10 = .ok (.ldc 66, 2) := by decide +kernel
theorem dX9_footman_12 : decode cX9_footman 12 = .ok (.ireturn, 1) := by decide +kernel
theorem dX9_footman_13 : decode cX9_footman 13 = .ok (.aload_n 0, 1) := by decide +kernel
theorem dX9_footman_14 : decode cX9_footman 14 = .ok (.getfield 10, 3) := by decide +kernel
theorem dX9_footman_17 : decode cX9_footman 17 = .ok (.getfield 67, 3) := by decide +kernel
theorem dX9_footman_20 : decode cX9_footman 20 = .ok (.invokevirtual 160, 3) := by decide +kernel
theorem dX9_footman_23 : decode cX9_footman 23 = .ok (.istore_n 2, 1) := by decide +kernel
theorem dX9_footman_24 : decode cX9_footman 24 = .ok (.aload_n 0, 1) := by decide +kernel
theorem dX9_footman_25 : decode cX9_footman 25 = .ok (.getfield 10, 3) := by decide +kernel
theorem dX9_footman_28 : decode cX9_footman 28 = .ok (.iload_n 1, 1) := by decide +kernel
theorem dX9_footman_29 : decode cX9_footman 29 = .ok (.invokevirtual 163, 3) := by decide +kernel
theorem dX9_footman_32 : decode cX9_footman 32 = .ok (.iload_n 2, 1) := by decide +kernel
theorem dX9_footman_33 : decode cX9_footman 33 = .ok (.aload_n 0, 1) := by decide +kernel
theorem dX9_footman_34 : decode cX9_footman 34 = .ok (.getfield 10, 3) := by decide +kernel
theorem dX9_footman_37 : decode cX9_footman 37 = .ok (.getfield 67, 3) := by decide +kernel
theorem dX9_footman_40 : decode cX9_footman 40 = .ok (.invokevirtual 160, 3) := by decide +kernel
theorem dX9_footman_43 : decode cX9_footman 43 = .ok (.isub, 1) := by decide +kernel
theorem dX9_footman_44 : decode cX9_footman 44 = .ok (.ireturn, 1) := by decide +kernel
theorem dX9_hall_0 : decode cX9_hall 0 = .ok (.iload_n 1, 1) := by decide +kernel
theorem dX9_hall_1 : decode cX9_hall 1 = .ok (.tableswitch 78 0 4 #[35, 43, 51, 59, 67], 35) := by decide +kernel
theorem dX9_hall_36 : decode cX9_hall 36 = .ok (.aload_n 0, 1) := by decide +kernel
theorem dX9_hall_37 : decode cX9_hall 37 = .ok (.getfield 10, 3) := by decide +kernel
theorem dX9_hall_40 : decode cX9_hall 40 = .ok (.getfield 167, 3) := by decide +kernel
theorem dX9_hall_43 : decode cX9_hall 43 = .ok (.ireturn, 1) := by decide +kernel
theorem dX9_hall_44 : decode cX9_hall 44 = .ok (.aload_n 0, 1) := by decide +kernel
theorem dX9_hall_45 : decode cX9_hall 45 = .ok (.getfield 10, 3) := by decide +kernel
theorem dX9_hall_48 : decode cX9_hall 48 = .ok (.invokevirtual 170, 3) := by decide +kernel
theorem dX9_hall_51 : decode cX9_hall 51 = .ok (.ireturn, 1) := by decide +kernel
theorem dX9_hall_52 : decode cX9_hall 52 = .ok (.aload_n 0, 1) := by decide +kernel
theorem dX9_hall_53 : decode cX9_hall 53 = .ok (.getfield 10, 3) := by decide +kernel
theorem dX9_hall_56 : decode cX9_hall 56 = .ok (.invokevirtual 173, 3) := by decide +kernel
theorem dX9_hall_59 : decode cX9_hall 59 = .ok (.ireturn, 1) := by decide +kernel
theorem dX9_hall_60 : decode cX9_hall 60 = .ok (.aload_n 0, 1) := by decide +kernel
theorem dX9_hall_61 : decode cX9_hall 61 = .ok (.getfield 10, 3) := by decide +kernel
theorem dX9_hall_64 : decode cX9_hall 64 = .ok (.getfield 176, 3) := by decide +kernel
theorem dX9_hall_67 : decode cX9_hall 67 = .ok (.ireturn, 1) := by decide +kernel
theorem dX9_hall_68 : decode cX9_hall 68 = .ok (.aload_n 0, 1) := by decide +kernel
theorem dX9_hall_69 : decode cX9_hall 69 = .ok (.getfield 10, 3) := by decide +kernel
theorem dX9_hall_72 : decode cX9_hall 72 = .ok (.getfield 67, 3) := by decide +kernel
theorem dX9_hall_75 : decode cX9_hall 75 = .ok (.getfield 179, 3) := by decide +kernel
theorem dX9_hall_78 : decode cX9_hall 78 = .ok (.ireturn, 1) := by decide +kernel
theorem dX9_hall_79 : decode cX9_hall 79 = .ok (.ldc 66, 2) := by decide +kernel
theorem dX9_hall_81 : decode cX9_hall 81 = .ok (.ireturn, 1) := by decide +kernel
theorem dX9_behind_0 : decode cX9_behind 0 = .ok (.iload_n 1, 1) := by decide +kernel
theorem dX9_behind_1 : decode cX9_behind 1 = .ok (.invokestatic 57, 3) := by decide +kernel
theorem dX9_behind_4 : decode cX9_behind 4 = .ok (.ifCond .eq 22, 3) := by decide +kernel
theorem dX9_behind_7 : decode cX9_behind 7 = .ok (.iload_n 2, 1) := by decide +kernel
theorem dX9_behind_8 : decode cX9_behind 8 = .ok (.iconst 0, 1) := by decide +kernel
theorem dX9_behind_9 : decode cX9_behind 9 = .ok (.bipush 100, 2) := by decide +kernel
theorem dX9_behind_11 : decode cX9_behind 11 = .ok (.invokestatic 60, 3) := by decide +kernel
theorem dX9_behind_14 : decode cX9_behind 14 = .ok (.ifCond .eq 12, 3) := by decide +kernel
theorem dX9_behind_17 : decode cX9_behind 17 = .ok (.iload_n 3, 1) := by decide +kernel
theorem dX9_behind_18 : decode cX9_behind 18 = .ok (.iconst 0, 1) := by decide +kernel
theorem dX9_behind_19 : decode cX9_behind 19 = .ok (.iconst 3, 1) := by decide +kernel
theorem dX9_behind_20 : decode cX9_behind 20 = .ok (.invokestatic 60, 3) := by decide +kernel
theorem dX9_behind_23 : decode cX9_behind 23 = .ok (.ifCond .ne 6, 3) := by decide +kernel
theorem dX9_behind_26 : decode cX9_behind 26 = .ok (.ldc 66, 2) := by decide +kernel
theorem dX9_behind_28 : decode cX9_behind 28 = .ok (.ireturn, 1) := by decide +kernel
theorem dX9_behind_29 : decode cX9_behind 29 = .ok (.aload_n 0, 1) := by decide +kernel
theorem dX9_behind_30 : decode cX9_behind 30 = .ok (.getfield 22, 3) := by decide +kernel
theorem dX9_behind_33 : decode cX9_behind 33 = .ok (.aload_n 0, 1) := by decide +kernel
theorem dX9_behind_34 : decode cX9_behind 34 = .ok (.getfield 10, 3) := by decide +kernel
theorem dX9_behind_37 : decode cX9_behind 37 = .ok (.iload_n 2, 1) := by decide +kernel
theorem dX9_behind_38 : decode cX9_behind 38 = .ok (.invokevirtual 182, 3) := by decide +kernel
theorem dX9_behind_41 : decode cX9_behind 41 = .ok (.astore 4, 2) := by decide +kernel
theorem dX9_behind_43 : decode cX9_behind 43 = .ok (.iload_n 3, 1) := by decide +kernel
theorem dX9_behind_44 : decode cX9_behind 44 = .ok (.tableswitch 51 0 2 #[28, 36, 44], 28) := by decide +kernel
theorem dX9_behind_72 : decode cX9_behind 72 = .ok (.aload 4, 2) := by decide +kernel
theorem dX9_behind_74 : decode cX9_behind 74 = .ok (.getfield 118, 3) := by decide +kernel
theorem dX9_behind_77 : decode cX9_behind 77 = .ok (.iload_n 1, 1) := by decide +kernel
theorem dX9_behind_78 : decode cX9_behind 78 = .ok (.iaload, 1) := by decide +kernel
theorem dX9_behind_79 : decode cX9_behind 79 = .ok (.ireturn, 1) := by decide +kernel
theorem dX9_behind_80 : decode cX9_behind 80 = .ok (.aload 4, 2) := by decide +kernel
theorem dX9_behind_82 : decode cX9_behind 82 = .ok (.getfield 124, 3) := by decide +kernel
theorem dX9_behind_85 : decode cX9_behind 85 = .ok (.iload_n 1, 1) := by decide +kernel
theorem dX9_behind_86 : decode cX9_behind 86 = .ok (.iaload, 1) := by decide +kernel
theorem dX9_behind_87 : decode cX9_behind 87 = .ok (.ireturn, 1) := by decide +kernel
theorem dX9_behind_88 : decode cX9_behind 88 = .ok (.aload 4, 2) := by decide +kernel
theorem dX9_behind_90 : decode cX9_behind 90 = .ok (.iload_n 1, 1) := by decide +kernel
theorem dX9_behind_91 : decode cX9_behind 91 = .ok (.invokevirtual 130, 3) := by decide +kernel
theorem dX9_behind_94 : decode cX9_behind 94 = .ok (.ireturn, 1) := by decide +kernel
theorem dX9_behind_95 : decode cX9_behind 95 = .ok (.aload 4, 2) := by decide +kernel
theorem dX9_behind_97 : decode cX9_behind 97 = .ok (.iload_n 1, 1) := by decide +kernel
theorem dX9_behind_98 : decode cX9_behind 98 = .ok (.invokevirtual 127, 3) := by decide +kernel
theorem dX9_behind_101 : decode cX9_behind 101 = .ok (.ifCond .eq 7, 3) := by decide +kernel
theorem dX9_behind_104 : decode cX9_behind 104 = .ok (.iconst 1, 1) := by decide +kernel
theorem dX9_behind_105 : decode cX9_behind 105 = .ok (.goto 4, 3) := by decide +kernel
theorem dX9_behind_108 : decode cX9_behind 108 = .ok (.iconst 0, 1) := by decide +kernel
theorem dX9_behind_109 : decode cX9_behind 109 = .ok (.ireturn, 1) := by decide +kernel
theorem dX9_still_0 : decode cX9_still 0 = .ok (.aload_n 0, 1) := by decide +kernel
theorem dX9_still_1 : decode cX9_still 1 = .ok (.getfield 22, 3) := by decide +kernel
theorem dX9_still_4 : decode cX9_still 4 = .ok (.aload_n 0, 1) := by decide +kernel
theorem dX9_still_5 : decode cX9_still 5 = .ok (.getfield 10, 3) := by decide +kernel
theorem dX9_still_8 : decode cX9_still 8 = .ok (.invokevirtual 186, 3) := by decide +kernel
theorem dX9_still_11 : decode cX9_still 11 = .ok (.ireturn, 1) := by decide +kernel
theorem dX9_birth_0 : decode cX9_birth 0 = .ok (.iload_n 1, 1) := by decide +kernel
theorem dX9_birth_1 : decode cX9_birth 1 = .ok (.invokestatic 57, 3) := by decide +kernel
theorem dX9_birth_4 : decode cX9_birth 4 = .ok (.ifCond .eq 23, 3) := by decide +kernel
theorem dX9_birth_7 : decode cX9_birth 7 = .ok (.iload_n 2, 1) := by decide +kernel
theorem dX9_birth_8 : decode cX9_birth 8 = .ok (.iconst 0, 1) := by decide +kernel
theorem dX9_birth_9 : decode cX9_birth 9 = .ok (.sipush 999, 3) := by decide +kernel
theorem dX9_birth_12 : decode cX9_birth 12 = .ok (.invokestatic 60, 3) := by decide +kernel
theorem dX9_birth_15 : decode cX9_birth 15 = .ok (.ifCond .eq 12, 3) := by decide +kernel
theorem dX9_birth_18 : decode cX9_birth 18 = .ok (.iload_n 3, 1) := by decide +kernel
theorem dX9_birth_19 : decode cX9_birth 19 = .ok (.iconst 0, 1) := by decide +kernel
theorem dX9_birth_20 : decode cX9_birth 20 = .ok (.iconst 5, 1) := by decide +kernel
theorem dX9_birth_21 : decode cX9_birth 21 = .ok (.invokestatic 60, 3) := by decide +kernel
theorem dX9_birth_24 : decode cX9_birth 24 = .ok (.ifCond .ne 6, 3) := by decide +kernel
theorem dX9_birth_27 : decode cX9_birth 27 = .ok (.ldc 66, 2) := by decide +kernel
theorem dX9_birth_29 : decode cX9_birth 29 = .ok (.ireturn, 1) := by decide +kernel
theorem dX9_birth_30 : decode cX9_birth 30 = .ok (.aload_n 0, 1) := by decide +kernel
theorem dX9_birth_31 : decode cX9_birth 31 = .ok (.getfield 22, 3) := by decide +kernel
theorem dX9_birth_34 : decode cX9_birth 34 = .ok (.aload_n 0, 1) := by decide +kernel
theorem dX9_birth_35 : decode cX9_birth 35 = .ok (.getfield 10, 3) := by decide +kernel
theorem dX9_birth_38 : decode cX9_birth 38 = .ok (.iload_n 1, 1) := by decide +kernel
theorem dX9_birth_39 : decode cX9_birth 39 = .ok (.iload_n 2, 1) := by decide +kernel
theorem dX9_birth_40 : decode cX9_birth 40 = .ok (.iload_n 3, 1) := by decide +kernel
theorem dX9_birth_41 : decode cX9_birth 41 = .ok (.invokevirtual 190, 3) := by decide +kernel
theorem dX9_birth_44 : decode cX9_birth 44 = .ok (.ireturn, 1) := by decide +kernel
theorem dX9_smells_0 : decode cX9_smells 0 = .ok (.iload_n 1, 1) := by decide +kernel
theorem dX9_smells_1 : decode cX9_smells 1 = .ok (.invokestatic 57, 3) := by decide +kernel
theorem dX9_smells_4 : decode cX9_smells 4 = .ok (.ifCond .eq 13, 3) := by decide +kernel
theorem dX9_smells_7 : decode cX9_smells 7 = .ok (.iload_n 2, 1) := by decide +kernel
theorem dX9_smells_8 : decode cX9_smells 8 = .ok (.iconst 0, 1) := by decide +kernel
theorem dX9_smells_9 : decode cX9_smells 9 = .ok (.bipush 60, 2) := by decide +kernel
theorem dX9_smells_11 : decode cX9_smells 11 = .ok (.invokestatic 60, 3) := by decide +kernel
theorem dX9_smells_14 : decode cX9_smells 14 = .ok (.ifCond .ne 6, 3) := by decide +kernel
theorem dX9_smells_17 : decode cX9_smells 17 = .ok (.ldc 66, 2) := by decide +kernel
theorem dX9_smells_19 : decode cX9_smells 19 = .ok (.ireturn, 1) := by decide +kernel
theorem dX9_smells_20 : decode cX9_smells 20 = .ok (.aload_n 0, 1) := by decide +kernel
theorem dX9_smells_21 : decode cX9_smells 21 = .ok (.getfield 22, 3) := by decide +kernel
theorem dX9_smells_24 : decode cX9_smells 24 = .ok (.aload_n 0, 1) := by decide +kernel
theorem dX9_smells_25 : decode cX9_smells 25 = .ok (.getfield 10, 3) := by decide +kernel
theorem dX9_smells_28 : decode cX9_smells 28 = .ok (.iload_n 1, 1) := by decide +kernel
theorem dX9_smells_29 : decode cX9_smells 29 = .ok (.iload_n 2, 1) := by decide +kernel
theorem dX9_smells_30 : decode cX9_smells 30 = .ok (.invokevirtual 194, 3) := by decide +kernel
theorem dX9_smells_33 : decode cX9_smells 33 = .ok (.ireturn, 1) := by decide +kernel
theorem dX9_snuffs_0 : decode cX9_snuffs 0 = .ok (.aload_n 0, 1) := by decide +kernel
theorem dX9_snuffs_1 : decode cX9_snuffs 1 = .ok (.getfield 10, 3) := by decide +kernel
theorem dX9_snuffs_4 : decode cX9_snuffs 4 = .ok (.getfield 67, 3) := by decide +kernel
theorem dX9_snuffs_7 : decode cX9_snuffs 7 = .ok (.iload_n 1, 1) := by decide +kernel
theorem dX9_snuffs_8 : decode cX9_snuffs 8 = .ok (.invokevirtual 80, 3) := by decide +kernel
theorem dX9_snuffs_11 : decode cX9_snuffs 11 = .ok (.ifCond .eq 13, 3) := by decide +kernel
theorem dX9_snuffs_14 : decode cX9_snuffs 14 = .ok (.iload_n 2, 1) := by decide +kernel
theorem dX9_snuffs_15 : decode cX9_snuffs 15 = .ok (.iconst 1, 1) := by decide +kernel
theorem dX9_snuffs_16 : decode cX9_snuffs 16 = .ok (.bipush 60, 2) := by decide +kernel
theorem dX9_snuffs_18 : decode cX9_snuffs 18 = .ok (.invokestatic 60, 3) := by decide +kernel
theorem dX9_snuffs_21 : decode cX9_snuffs 21 = .ok (.ifCond .ne 6, 3) := by decide +kernel
theorem dX9_snuffs_24 : decode cX9_snuffs 24 = .ok (.ldc 66, 2) := by decide +kernel
theorem dX9_snuffs_26 : decode cX9_snuffs 26 = .ok (.ireturn, 1) := by decide +kernel
theorem dX9_snuffs_27 : decode cX9_snuffs 27 = .ok (.aload_n 0, 1) := by decide +kernel
theorem dX9_snuffs_28 : decode cX9_snuffs 28 = .ok (.getfield 22, 3) := by decide +kernel
theorem dX9_snuffs_31 : decode cX9_snuffs 31 = .ok (.aload_n 0, 1) := by decide +kernel
theorem dX9_snuffs_32 : decode cX9_snuffs 32 = .ok (.getfield 10, 3) := by decide +kernel
theorem dX9_snuffs_35 : decode cX9_snuffs 35 = .ok (.iload_n 1, 1) := by decide +kernel
theorem dX9_snuffs_36 : decode cX9_snuffs 36 = .ok (.iconst 0, 1) := by decide +kernel
theorem dX9_snuffs_37 : decode cX9_snuffs 37 = .ok (.iload_n 2, 1) := by decide +kernel
theorem dX9_snuffs_38 : decode cX9_snuffs 38 = .ok (.invokevirtual 198, 3) := by decide +kernel
theorem dX9_snuffs_41 : decode cX9_snuffs 41 = .ok (.aload_n 0, 1) := by decide +kernel
theorem dX9_snuffs_42 : decode cX9_snuffs 42 = .ok (.getfield 22, 3) := by decide +kernel
theorem dX9_snuffs_45 : decode cX9_snuffs 45 = .ok (.aload_n 0, 1) := by decide +kernel
theorem dX9_snuffs_46 : decode cX9_snuffs 46 = .ok (.getfield 10, 3) := by decide +kernel
theorem dX9_snuffs_49 : decode cX9_snuffs 49 = .ok (.iload_n 1, 1) := by decide +kernel
theorem dX9_snuffs_50 : decode cX9_snuffs 50 = .ok (.iconst 1, 1) := by decide +kernel
theorem dX9_snuffs_51 : decode cX9_snuffs 51 = .ok (.iload_n 2, 1) := by decide +kernel
theorem dX9_snuffs_52 : decode cX9_snuffs 52 = .ok (.invokevirtual 198, 3) := by decide +kernel
theorem dX9_snuffs_55 : decode cX9_snuffs 55 = .ok (.isub, 1) := by decide +kernel
theorem dX9_snuffs_56 : decode cX9_snuffs 56 = .ok (.ireturn, 1) := by decide +kernel
theorem dX9_storm_0 : decode cX9_storm 0 = .ok (.iload_n 1, 1) := by decide +kernel
theorem dX9_storm_1 : decode cX9_storm 1 = .ok (.iconst 1, 1) := by decide +kernel
theorem dX9_storm_2 : decode cX9_storm 2 = .ok (.bipush 20, 2) := by decide +kernel
theorem dX9_storm_4 : decode cX9_storm 4 = .ok (.invokestatic 60, 3) := by decide +kernel
theorem dX9_storm_7 : decode cX9_storm 7 = .ok (.ifCond .ne 6, 3) := by decide +kernel
theorem dX9_storm_10 : decode cX9_storm 10 = .ok (.ldc 66, 2) := by decide +kernel
theorem dX9_storm_12 : decode cX9_storm 12 = .ok (.ireturn, 1) := by decide +kernel
theorem dX9_storm_13 : decode cX9_storm 13 = .ok (.sipush 9999, 3) := by decide +kernel
theorem dX9_storm_16 : decode cX9_storm 16 = .ok (.istore_n 2, 1) := by decide +kernel
theorem dX9_storm_17 : decode cX9_storm 17 = .ok (.iload_n 2, 1) := by decide +kernel
theorem dX9_storm_18 : decode cX9_storm 18 = .ok (.ifCond .lt 27, 3) := by decide +kernel
theorem dX9_storm_21 : decode cX9_storm 21 = .ok (.aload_n 0, 1) := by decide +kernel
theorem dX9_storm_22 : decode cX9_storm 22 = .ok (.getfield 22, 3) := by decide +kernel
theorem dX9_storm_25 : decode cX9_storm 25 = .ok (.aload_n 0, 1) := by decide +kernel
theorem dX9_storm_26 : decode cX9_storm 26 = .ok (.getfield 10, 3) := by decide +kernel
theorem dX9_storm_29 : decode cX9_storm 29 = .ok (.iload_n 2, 1) := by decide +kernel
theorem dX9_storm_30 : decode cX9_storm 30 = .ok (.iload_n 1, 1) := by decide +kernel
theorem dX9_storm_31 : decode cX9_storm 31 = .ok (.invokevirtual 202, 3) := by decide +kernel
theorem dX9_storm_34 : decode cX9_storm 34 = .ok (.ifCond .eq 5, 3) := by decide +kernel
theorem dX9_storm_37 : decode cX9_storm 37 = .ok (.iload_n 2, 1) := by decide +kernel
theorem dX9_storm_38 : decode cX9_storm 38 = .ok (.ireturn, 1) := by decide +kernel
theorem dX9_storm_39 : decode cX9_storm 39 = .ok (.iinc 2 (-100), 3) := by decide +kernel
theorem dX9_storm_42 : decode cX9_storm 42 = .ok (.goto (-25), 3) := by decide +kernel
theorem dX9_storm_45 : decode cX9_storm 45 = .ok (.ldc 206, 2) := by decide +kernel
theorem dX9_storm_47 : decode cX9_storm 47 = .ok (.ireturn, 1) := by decide +kernel
theorem dX9_opened_0 : decode cX9_opened 0 = .ok (.iload_n 1, 1) := by decide +kernel
theorem dX9_opened_1 : decode cX9_opened 1 = .ok (.invokestatic 207, 3) := by decide +kernel
theorem dX9_opened_4 : decode cX9_opened 4 = .ok (.ifCond .eq 22, 3) := by decide +kernel
theorem dX9_opened_7 : decode cX9_opened 7 = .ok (.iload_n 2, 1) := by decide +kernel
theorem dX9_opened_8 : decode cX9_opened 8 = .ok (.iconst 0, 1) := by decide +kernel
theorem dX9_opened_9 : decode cX9_opened 9 = .ok (.bipush 40, 2) := by decide +kernel
theorem dX9_opened_11 : decode cX9_opened 11 = .ok (.invokestatic 60, 3) := by decide +kernel
theorem dX9_opened_14 : decode cX9_opened 14 = .ok (.ifCond .eq 12, 3) := by decide +kernel
theorem dX9_opened_17 : decode cX9_opened 17 = .ok (.iload_n 3, 1) := by decide +kernel
theorem dX9_opened_18 : decode cX9_opened 18 = .ok (.iconst 0, 1) := by decide +kernel
theorem dX9_opened_19 : decode cX9_opened 19 = .ok (.iconst 1, 1) := by decide +kernel
theorem dX9_opened_20 : decode cX9_opened 20 = .ok (.invokestatic 60, 3) := by decide +kernel
theorem dX9_opened_23 : decode cX9_opened 23 = .ok (.ifCond .ne 6, 3) := by decide +kernel
theorem dX9_opened_26 : decode cX9_opened 26 = .ok (.ldc 66, 2) := by decide +kernel
theorem dX9_opened_28 : decode cX9_opened 28 = .ok (.ireturn, 1) := by decide +kernel
theorem dX9_opened_29 : decode cX9_opened 29 = .ok (.aload_n 0, 1) := by decide +kernel
theorem dX9_opened_30 : decode cX9_opened 30 = .ok (.getfield 35, 3) := by decide +kernel
theorem dX9_opened_33 : decode cX9_opened 33 = .ok (.iload_n 1, 1) := by decide +kernel
theorem dX9_opened_34 : decode cX9_opened 34 = .ok (.aaload, 1) := by decide +kernel
theorem dX9_opened_35 : decode cX9_opened 35 = .ok (.invokevirtual 210, 3) := by decide +kernel
theorem dX9_opened_38 : decode cX9_opened 38 = .ok (.ifCond .eq 6, 3) := by decide +kernel
theorem dX9_opened_41 : decode cX9_opened 41 = .ok (.ldc 214, 2) := by decide +kernel
theorem dX9_opened_43 : decode cX9_opened 43 = .ok (.ireturn, 1) := by decide +kernel
theorem dX9_opened_44 : decode cX9_opened 44 = .ok (.aload_n 0, 1) := by decide +kernel
theorem dX9_opened_45 : decode cX9_opened 45 = .ok (.getfield 22, 3) := by decide +kernel
theorem dX9_opened_48 : decode cX9_opened 48 = .ok (.aload_n 0, 1) := by decide +kernel
theorem dX9_opened_49 : decode cX9_opened 49 = .ok (.getfield 10, 3) := by decide +kernel
theorem dX9_opened_52 : decode cX9_opened 52 = .ok (.aload_n 0, 1) := by decide +kernel
theorem dX9_opened_53 : decode cX9_opened 53 = .ok (.getfield 35, 3) := by decide +kernel
theorem dX9_opened_56 : decode cX9_opened 56 = .ok (.iload_n 1, 1) := by decide +kernel
theorem dX9_opened_57 : decode cX9_opened 57 = .ok (.aaload, 1) := by decide +kernel
theorem dX9_opened_58 : decode cX9_opened 58 = .ok (.iload_n 2, 1) := by decide +kernel
theorem dX9_opened_59 : decode cX9_opened 59 = .ok (.invokevirtual 215, 3) := by decide +kernel
theorem dX9_opened_62 : decode cX9_opened 62 = .ok (.istore 4, 2) := by decide +kernel
theorem dX9_opened_64 : decode cX9_opened 64 = .ok (.iload 4, 2) := by decide +kernel
theorem dX9_opened_66 : decode cX9_opened 66 = .ok (.ldc 206, 2) := by decide +kernel
theorem dX9_opened_68 : decode cX9_opened 68 = .ok (.if_icmp .eq 7, 3) := by decide +kernel
theorem dX9_opened_71 : decode cX9_opened 71 = .ok (.iload_n 3, 1) := by decide +kernel
theorem dX9_opened_72 : decode cX9_opened 72 = .ok (.ifCond .ne 6, 3) := by decide +kernel
theorem dX9_opened_75 : decode cX9_opened 75 = .ok (.iload 4, 2) := by decide +kernel
theorem dX9_opened_77 : decode cX9_opened 77 = .ok (.ireturn, 1) := by decide +kernel
theorem dX9_opened_78 : decode cX9_opened 78 = .ok (.aload_n 0, 1) := by decide +kernel
theorem dX9_opened_79 : decode cX9_opened 79 = .ok (.getfield 22, 3) := by decide +kernel
theorem dX9_opened_82 : decode cX9_opened 82 = .ok (.aload_n 0, 1) := by decide +kernel
theorem dX9_opened_83 : decode cX9_opened 83 = .ok (.getfield 10, 3) := by decide +kernel
theorem dX9_opened_86 : decode cX9_opened 86 = .ok (.aload_n 0, 1) := by decide +kernel
theorem dX9_opened_87 : decode cX9_opened 87 = .ok (.getfield 35, 3) := by decide +kernel
theorem dX9_opened_90 : decode cX9_opened 90 = .ok (.iload_n 1, 1) := by decide +kernel
theorem dX9_opened_91 : decode cX9_opened 91 = .ok (.aaload, 1) := by decide +kernel
theorem dX9_opened_92 : decode cX9_opened 92 = .ok (.iload 4, 2) := by decide +kernel
theorem dX9_opened_94 : decode cX9_opened 94 = .ok (.iload_n 2, 1) := by decide +kernel
theorem dX9_opened_95 : decode cX9_opened 95 = .ok (.invokevirtual 219, 3) := by decide +kernel
theorem dX9_opened_98 : decode cX9_opened 98 = .ok (.ireturn, 1) := by decide +kernel
theorem dX9_fine_0 : decode cX9_fine 0 = .ok (.aload_n 0, 1) := by decide +kernel
theorem dX9_fine_1 : decode cX9_fine 1 = .ok (.getfield 10, 3) := by decide +kernel
theorem dX9_fine_4 : decode cX9_fine 4 = .ok (.getfield 223, 3) := by decide +kernel
theorem dX9_fine_7 : decode cX9_fine 7 = .ok (.iconst 2, 1) := by decide +kernel
theorem dX9_fine_8 : decode cX9_fine 8 = .ok (.aload_n 0, 1) := by decide +kernel
theorem dX9_fine_9 : decode cX9_fine 9 = .ok (.getfield 10, 3) := by decide +kernel
theorem dX9_fine_12 : decode cX9_fine 12 = .ok (.getfield 167, 3) := by decide +kernel
theorem dX9_fine_15 : decode cX9_fine 15 = .ok (.aload_n 0, 1) := by decide +kernel
theorem dX9_fine_16 : decode cX9_fine 16 = .ok (.getfield 10, 3) := by decide +kernel
theorem dX9_fine_19 : decode cX9_fine 19 = .ok (.getfield 229, 3) := by decide +kernel
theorem dX9_fine_22 : decode cX9_fine 22 = .ok (.aload_n 0, 1) := by decide +kernel
theorem dX9_fine_23 : decode cX9_fine 23 = .ok (.getfield 10, 3) := by decide +kernel
theorem dX9_fine_26 : decode cX9_fine 26 = .ok (.getfield 167, 3) := by decide +kernel
theorem dX9_fine_29 : decode cX9_fine 29 = .ok (.invokevirtual 232, 3) := by decide +kernel
theorem dX9_fine_32 : decode cX9_fine 32 = .ok (.ireturn, 1) := by decide +kernel
theorem dX9_feed_0 : decode cX9_feed 0 = .ok (.aload_n 0, 1) := by decide +kernel
theorem dX9_feed_1 : decode cX9_feed 1 = .ok (.getfield 29, 3) := by decide +kernel
theorem dX9_feed_4 : decode cX9_feed 4 = .ok (.getfield 235, 3) := by decide +kernel
theorem dX9_feed_7 : decode cX9_feed 7 = .ok (.bipush 12, 2) := by decide +kernel
theorem dX9_feed_9 : decode cX9_feed 9 = .ok (.iadd, 1) := by decide +kernel
theorem dX9_feed_10 : decode cX9_feed 10 = .ok (.bipush 96, 2) := by decide +kernel
theorem dX9_feed_12 : decode cX9_feed 12 = .ok (.if_icmp .le 6, 3) := by decide +kernel
theorem dX9_feed_15 : decode cX9_feed 15 = .ok (.ldc 75, 2) := by decide +kernel
theorem dX9_feed_17 : decode cX9_feed 17 = .ok (.ireturn, 1) := by decide +kernel
theorem dX9_feed_18 : decode cX9_feed 18 = .ok (.aload_n 0, 1) := by decide +kernel
theorem dX9_feed_19 : decode cX9_feed 19 = .ok (.getfield 29, 3) := by decide +kernel
theorem dX9_feed_22 : decode cX9_feed 22 = .ok (.iload_n 1, 1) := by decide +kernel
theorem dX9_feed_23 : decode cX9_feed 23 = .ok (.invokevirtual 238, 3) := by decide +kernel
theorem dX9_feed_26 : decode cX9_feed 26 = .ok (.aload_n 0, 1) := by decide +kernel
theorem dX9_feed_27 : decode cX9_feed 27 = .ok (.getfield 29, 3) := by decide +kernel
theorem dX9_feed_30 : decode cX9_feed 30 = .ok (.iload_n 2, 1) := by decide +kernel
theorem dX9_feed_31 : decode cX9_feed 31 = .ok (.invokevirtual 238, 3) := by decide +kernel
theorem dX9_feed_34 : decode cX9_feed 34 = .ok (.aload_n 0, 1) := by decide +kernel
theorem dX9_feed_35 : decode cX9_feed 35 = .ok (.getfield 29, 3) := by decide +kernel
theorem dX9_feed_38 : decode cX9_feed 38 = .ok (.iload_n 3, 1) := by decide +kernel
theorem dX9_feed_39 : decode cX9_feed 39 = .ok (.invokevirtual 238, 3) := by decide +kernel
theorem dX9_feed_42 : decode cX9_feed 42 = .ok (.aload_n 0, 1) := by decide +kernel
theorem dX9_feed_43 : decode cX9_feed 43 = .ok (.getfield 29, 3) := by decide +kernel
theorem dX9_feed_46 : decode cX9_feed 46 = .ok (.getfield 235, 3) := by decide +kernel
theorem dX9_feed_49 : decode cX9_feed 49 = .ok (.ireturn, 1) := by decide +kernel
theorem dX9_trim_0 : decode cX9_trim 0 = .ok (.iload_n 1, 1) := by decide +kernel
theorem dX9_trim_1 : decode cX9_trim 1 = .ok (.iconst 0, 1) := by decide +kernel
theorem dX9_trim_2 : decode cX9_trim 2 = .ok (.aload_n 0, 1) := by decide +kernel
theorem dX9_trim_3 : decode cX9_trim 3 = .ok (.getfield 29, 3) := by decide +kernel
theorem dX9_trim_6 : decode cX9_trim 6 = .ok (.getfield 235, 3) := by decide +kernel
theorem dX9_trim_9 : decode cX9_trim 9 = .ok (.invokestatic 60, 3) := by decide +kernel
theorem dX9_trim_12 : decode cX9_trim 12 = .ok (.ifCond .ne 6, 3) := by decide +kernel
theorem dX9_trim_15 : decode cX9_trim 15 = .ok (.ldc 66, 2) := by decide +kernel
theorem dX9_trim_17 : decode cX9_trim 17 = .ok (.ireturn, 1) := by decide +kernel
theorem dX9_trim_18 : decode cX9_trim 18 = .ok (.aload_n 0, 1) := by decide +kernel
theorem dX9_trim_19 : decode cX9_trim 19 = .ok (.getfield 29, 3) := by decide +kernel
theorem dX9_trim_22 : decode cX9_trim 22 = .ok (.iload_n 1, 1) := by decide +kernel
theorem dX9_trim_23 : decode cX9_trim 23 = .ok (.putfield 235, 3) := by decide +kernel
theorem dX9_trim_26 : decode cX9_trim 26 = .ok (.iload_n 1, 1) := by decide +kernel
theorem dX9_trim_27 : decode cX9_trim 27 = .ok (.ireturn, 1) := by decide +kernel
theorem dX9_text_0 : decode cX9_text 0 = .ok (.aload_n 0, 1) := by decide +kernel
theorem dX9_text_1 : decode cX9_text 1 = .ok (.getfield 29, 3) := by decide +kernel
theorem dX9_text_4 : decode cX9_text 4 = .ok (.invokevirtual 241, 3) := by decide +kernel
theorem dX9_text_7 : decode cX9_text 7 = .ok (.istore_n 1, 1) := by decide +kernel
theorem dX9_text_8 : decode cX9_text 8 = .ok (.aload_n 0, 1) := by decide +kernel
theorem dX9_text_9 : decode cX9_text 9 = .ok (.getfield 29, 3) := by decide +kernel
theorem dX9_text_12 : decode cX9_text 12 = .ok (.iconst 0, 1) := by decide +kernel
theorem dX9_text_13 : decode cX9_text 13 = .ok (.putfield 235, 3) := by decide +kernel
theorem dX9_text_16 : decode cX9_text 16 = .ok (.iload_n 1, 1) := by decide +kernel
theorem dX9_text_17 : decode cX9_text 17 = .ok (.ldc 206, 2) := by decide +kernel
theorem dX9_text_19 : decode cX9_text 19 = .ok (.if_icmp .eq 8, 3) := by decide +kernel
theorem dX9_text_22 : decode cX9_text 22 = .ok (.bipush (-100), 2) := by decide +kernel
theorem dX9_text_24 : decode cX9_text 24 = .ok (.iload_n 1, 1) := by decide +kernel
theorem dX9_text_25 : decode cX9_text 25 = .ok (.isub, 1) := by decide +kernel
theorem dX9_text_26 : decode cX9_text 26 = .ok (.ireturn, 1) := by decide +kernel
theorem dX9_text_27 : decode cX9_text 27 = .ok (.aload_n 0, 1) := by decide +kernel
theorem dX9_text_28 : decode cX9_text 28 = .ok (.getfield 10, 3) := by decide +kernel
theorem dX9_text_31 : decode cX9_text 31 = .ok (.getfield 223, 3) := by decide +kernel
theorem dX9_text_34 : decode cX9_text 34 = .ok (.getfield 244, 3) := by decide +kernel
theorem dX9_text_37 : decode cX9_text 37 = .ok (.bipush 14, 2) := by decide +kernel
theorem dX9_text_39 : decode cX9_text 39 = .ok (.if_icmp .lt 6, 3) := by decide +kernel
theorem dX9_text_42 : decode cX9_text 42 = .ok (.ldc 75, 2) := by decide +kernel
theorem dX9_text_44 : decode cX9_text 44 = .ok (.ireturn, 1) := by decide +kernel
theorem dX9_text_45 : decode cX9_text 45 = .ok (.aload_n 0, 1) := by decide +kernel
theorem dX9_text_46 : decode cX9_text 46 = .ok (.getfield 10, 3) := by decide +kernel
theorem dX9_text_49 : decode cX9_text 49 = .ok (.getfield 223, 3) := by decide +kernel
theorem dX9_text_52 : decode cX9_text 52 = .ok (.aload_n 0, 1) := by decide +kernel
theorem dX9_text_53 : decode cX9_text 53 = .ok (.getfield 29, 3) := by decide +kernel
theorem dX9_text_56 : decode cX9_text 56 = .ok (.invokevirtual 245, 3) := by decide +kernel
theorem dX9_text_59 : decode cX9_text 59 = .ok (.invokevirtual 249, 3) := by decide +kernel
theorem dX9_text_62 : decode cX9_text 62 = .ok (.ireturn, 1) := by decide +kernel
theorem dX9_textTold_0 : decode cX9_textTold 0 = .ok (.aload_n 0, 1) := by decide +kernel
theorem dX9_textTold_1 : decode cX9_textTold 1 = .ok (.getfield 10, 3) := by decide +kernel
theorem dX9_textTold_4 : decode cX9_textTold 4 = .ok (.getfield 223, 3) := by decide +kernel
theorem dX9_textTold_7 : decode cX9_textTold 7 = .ok (.iload_n 1, 1) := by decide +kernel
theorem dX9_textTold_8 : decode cX9_textTold 8 = .ok (.invokevirtual 252, 3) := by decide +kernel
theorem dX9_textTold_11 : decode cX9_textTold 11 = .ok (.astore_n 3, 1) := by decide +kernel
theorem dX9_textTold_12 : decode cX9_textTold 12 = .ok (.aload_n 3, 1) := by decide +kernel
theorem dX9_textTold_13 : decode cX9_textTold 13 = .ok (.ifnull 12, 3) := by decide +kernel
theorem dX9_textTold_16 : decode cX9_textTold 16 = .ok (.iload_n 2, 1) := by decide +kernel
theorem dX9_textTold_17 : decode cX9_textTold 17 = .ok (.iconst 0, 1) := by decide +kernel
theorem dX9_textTold_18 : decode cX9_textTold 18 = .ok (.iconst 1, 1) := by decide +kernel
theorem dX9_textTold_19 : decode cX9_textTold 19 = .ok (.invokestatic 60, 3) := by decide +kernel
theorem dX9_textTold_22 : decode cX9_textTold 22 = .ok (.ifCond .ne 6, 3) := by decide +kernel
theorem dX9_textTold_25 : decode cX9_textTold 25 = .ok (.ldc 66, 2) := by decide +kernel
theorem dX9_textTold_27 : decode cX9_textTold 27 = .ok (.ireturn, 1) := by decide +kernel
theorem dX9_textTold_28 : decode cX9_textTold 28 = .ok (.iload_n 2, 1) := by decide +kernel
theorem dX9_textTold_29 : decode cX9_textTold 29 = .ok (.ifCond .ne 10, 3) := by decide +kernel
theorem dX9_textTold_32 : decode cX9_textTold 32 = .ok (.aload_n 3, 1) := by decide +kernel
theorem dX9_textTold_33 : decode cX9_textTold 33 = .ok (.getfield 256, 3) := by decide +kernel
theorem dX9_textTold_36 : decode cX9_textTold 36 = .ok (.goto 7, 3) := by decide +kernel
theorem dX9_textTold_39 : decode cX9_textTold 39 = .ok (.aload_n 3, 1) := by decide +kernel
theorem dX9_textTold_40 : decode cX9_textTold 40 = .ok (.getfield 261, 3) := by decide +kernel
theorem dX9_textTold_43 : decode cX9_textTold 43 = .ok (.ireturn, 1) := by decide +kernel
theorem dX9_why_0 : decode cX9_why 0 = .ok (.iload_n 1, 1) := by decide +kernel
theorem dX9_why_1 : decode cX9_why 1 = .ok (.iconst 0, 1) := by decide +kernel
theorem dX9_why_2 : decode cX9_why 2 = .ok (.iconst 2, 1) := by decide +kernel
theorem dX9_why_3 : decode cX9_why 3 = .ok (.invokestatic 60, 3) := by decide +kernel
theorem dX9_why_6 : decode cX9_why 6 = .ok (.ifCond .ne 6, 3) := by decide +kernel
theorem dX9_why_9 : decode cX9_why 9 = .ok (.ldc 66, 2) := by decide +kernel
theorem dX9_why_11 : decode cX9_why 11 = .ok (.ireturn, 1) := by decide +kernel
theorem dX9_why_12 : decode cX9_why 12 = .ok (.aload_n 0, 1) := by decide +kernel
theorem dX9_why_13 : decode cX9_why 13 = .ok (.getfield 10, 3) := by decide +kernel
theorem dX9_why_16 : decode cX9_why 16 = .ok (.getfield 223, 3) := by decide +kernel
theorem dX9_why_19 : decode cX9_why 19 = .ok (.getfield 264, 3) := by decide +kernel
theorem dX9_why_22 : decode cX9_why 22 = .ok (.iload_n 1, 1) := by decide +kernel
theorem dX9_why_23 : decode cX9_why 23 = .ok (.iaload, 1) := by decide +kernel
theorem dX9_why_24 : decode cX9_why 24 = .ok (.ireturn, 1) := by decide +kernel
theorem dX9_sheet_0 : decode cX9_sheet 0 = .ok (.iload_n 1, 1) := by decide +kernel
theorem dX9_sheet_1 : decode cX9_sheet 1 = .ok (.invokestatic 207, 3) := by decide +kernel
theorem dX9_sheet_4 : decode cX9_sheet 4 = .ok (.ifCond .eq 12, 3) := by decide +kernel
theorem dX9_sheet_7 : decode cX9_sheet 7 = .ok (.iload_n 2, 1) := by decide +kernel
theorem dX9_sheet_8 : decode cX9_sheet 8 = .ok (.iconst (-1), 1) := by decide +kernel
theorem dX9_sheet_9 : decode cX9_sheet 9 = .ok (.iconst 1, 1) := by decide +kernel
theorem dX9_sheet_10 : decode cX9_sheet 10 = .ok (.invokestatic 60, 3) := by decide +kernel
theorem dX9_sheet_13 : decode cX9_sheet 13 = .ok (.ifCond .ne 6, 3) := by decide +kernel
theorem dX9_sheet_16 : decode cX9_sheet 16 = .ok (.ldc 66, 2) := by decide +kernel
theorem dX9_sheet_18 : decode cX9_sheet 18 = .ok (.ireturn, 1) := by decide +kernel
theorem dX9_sheet_19 : decode cX9_sheet 19 = .ok (.iload_n 2, 1) := by decide +kernel
theorem dX9_sheet_20 : decode cX9_sheet 20 = .ok (.iconst (-1), 1) := by decide +kernel
theorem dX9_sheet_21 : decode cX9_sheet 21 = .ok (.if_icmp .ne 16, 3) := by decide +kernel
theorem dX9_sheet_24 : decode cX9_sheet 24 = .ok (.aload_n 0, 1) := by decide +kernel
theorem dX9_sheet_25 : decode cX9_sheet 25 = .ok (.getfield 35, 3) := by decide +kernel
theorem dX9_sheet_28 : decode cX9_sheet 28 = .ok (.iload_n 1, 1) := by decide +kernel
theorem dX9_sheet_29 : decode cX9_sheet 29 = .ok (.aaload, 1) := by decide +kernel
theorem dX9_sheet_30 : decode cX9_sheet 30 = .ok (.iconst (-1), 1) := by decide +kernel
theorem dX9_sheet_31 : decode cX9_sheet 31 = .ok (.iconst 0, 1) := by decide +kernel
theorem dX9_sheet_32 : decode cX9_sheet 32 = .ok (.invokevirtual 267, 3) := by decide +kernel
theorem dX9_sheet_35 : decode cX9_sheet 35 = .ok (.iconst 0, 1) := by decide +kernel
theorem dX9_sheet_36 : decode cX9_sheet 36 = .ok (.ireturn, 1) := by decide +kernel
theorem dX9_sheet_37 : decode cX9_sheet 37 = .ok (.iload_n 3, 1) := by decide +kernel
theorem dX9_sheet_38 : decode cX9_sheet 38 = .ok (.bipush 24, 2) := by decide +kernel
theorem dX9_sheet_40 : decode cX9_sheet 40 = .ok (.if_icmp .le 6, 3) := by decide +kernel
theorem dX9_sheet_43 : decode cX9_sheet 43 = .ok (.ldc 66, 2) := by decide +kernel
theorem dX9_sheet_45 : decode cX9_sheet 45 = .ok (.ireturn, 1) := by decide +kernel
theorem dX9_sheet_46 : decode cX9_sheet 46 = .ok (.iload_n 3, 1) := by decide +kernel
theorem dX9_sheet_47 : decode cX9_sheet 47 = .ok (.ifCond .ge 7, 3) := by decide +kernel
theorem dX9_sheet_50 : decode cX9_sheet 50 = .ok (.ldc_w 271, 3) := by decide +kernel
theorem dX9_sheet_53 : decode cX9_sheet 53 = .ok (.ireturn, 1) := by decide +kernel
theorem dX9_sheet_54 : decode cX9_sheet 54 = .ok (.aload_n 0, 1) := by decide +kernel
theorem dX9_sheet_55 : decode cX9_sheet 55 = .ok (.getfield 35, 3) := by decide +kernel
theorem dX9_sheet_58 : decode cX9_sheet 58 = .ok (.iload_n 1, 1) := by decide +kernel
theorem dX9_sheet_59 : decode cX9_sheet 59 = .ok (.aaload, 1) := by decide +kernel
theorem dX9_sheet_60 : decode cX9_sheet 60 = .ok (.iload_n 2, 1) := by decide +kernel
theorem dX9_sheet_61 : decode cX9_sheet 61 = .ok (.iload_n 3, 1) := by decide +kernel
theorem dX9_sheet_62 : decode cX9_sheet 62 = .ok (.invokevirtual 267, 3) := by decide +kernel
theorem dX9_sheet_65 : decode cX9_sheet 65 = .ok (.iload_n 3, 1) := by decide +kernel
theorem dX9_sheet_66 : decode cX9_sheet 66 = .ok (.ireturn, 1) := by decide +kernel
theorem dX9_mark_0 : decode cX9_mark 0 = .ok (.iload_n 1, 1) := by decide +kernel
theorem dX9_mark_1 : decode cX9_mark 1 = .ok (.invokestatic 207, 3) := by decide +kernel
theorem dX9_mark_4 : decode cX9_mark 4 = .ok (.ifCond .ne 6, 3) := by decide +kernel
theorem dX9_mark_7 : decode cX9_mark 7 = .ok (.ldc 66, 2) := by decide +kernel
theorem dX9_mark_9 : decode cX9_mark 9 = .ok (.ireturn, 1) := by decide +kernel
theorem dX9_mark_10 : decode cX9_mark 10 = .ok (.aload_n 0, 1) := by decide +kernel
theorem dX9_mark_11 : decode cX9_mark 11 = .ok (.getfield 35, 3) := by decide +kernel
theorem dX9_mark_14 : decode cX9_mark 14 = .ok (.iload_n 1, 1) := by decide +kernel
theorem dX9_mark_15 : decode cX9_mark 15 = .ok (.aaload, 1) := by decide +kernel
theorem dX9_mark_16 : decode cX9_mark 16 = .ok (.astore 4, 2) := by decide +kernel
theorem dX9_mark_18 : decode cX9_mark 18 = .ok (.aload 4, 2) := by decide +kernel
theorem dX9_mark_20 : decode cX9_mark 20 = .ok (.invokevirtual 210, 3) := by decide +kernel
theorem dX9_mark_23 : decode cX9_mark 23 = .ok (.ifCond .eq 6, 3) := by decide +kernel
theorem dX9_mark_26 : decode cX9_mark 26 = .ok (.ldc 214, 2) := by decide +kernel
theorem dX9_mark_28 : decode cX9_mark 28 = .ok (.ireturn, 1) := by decide +kernel
theorem dX9_mark_29 : decode cX9_mark 29 = .ok (.aload 4, 2) := by decide +kernel
theorem dX9_mark_31 : decode cX9_mark 31 = .ok (.iload_n 2, 1) := by decide +kernel
theorem dX9_mark_32 : decode cX9_mark 32 = .ok (.invokevirtual 272, 3) := by decide +kernel
theorem dX9_mark_35 : decode cX9_mark 35 = .ok (.ifCond .ne 7, 3) := by decide +kernel
theorem dX9_mark_38 : decode cX9_mark 38 = .ok (.ldc_w 273, 3) := by decide +kernel
theorem dX9_mark_41 : decode cX9_mark 41 = .ok (.ireturn, 1) := by decide +kernel
theorem dX9_mark_42 : decode cX9_mark 42 = .ok (.aload 4, 2) := by decide +kernel
theorem dX9_mark_44 : decode cX9_mark 44 = .ok (.getfield 274, 3) := by decide +kernel
theorem dX9_mark_47 : decode cX9_mark 47 = .ok (.ifCond .ne 23, 3) := by decide +kernel
theorem dX9_mark_50 : decode cX9_mark 50 = .ok (.iload_n 3, 1) := by decide +kernel
theorem dX9_mark_51 : decode cX9_mark 51 = .ok (.ldc 206, 2) := by decide +kernel
theorem dX9_mark_53 : decode cX9_mark 53 = .ok (.if_icmp .ne 6, 3) := by decide +kernel
theorem dX9_mark_56 : decode cX9_mark 56 = .ok (.ldc 113, 2) := by decide +kernel
theorem dX9_mark_58 : decode cX9_mark 58 = .ok (.ireturn, 1) := by decide +kernel
theorem dX9_mark_59 : decode cX9_mark 59 = .ok (.aload 4, 2) := by decide +kernel
theorem dX9_mark_61 : decode cX9_mark 61 = .ok (.getfield 277, 3) := by decide +kernel
theorem dX9_mark_64 : decode cX9_mark 64 = .ok (.iload_n 2, 1) := by decide +kernel
theorem dX9_mark_65 : decode cX9_mark 65 = .ok (.iload_n 3, 1) := by decide +kernel
theorem dX9_mark_66 : decode cX9_mark 66 = .ok (.i2s, 1) := by decide +kernel
theorem dX9_mark_67 : decode cX9_mark 67 = .ok (.iastore, 1) := by decide +kernel
theorem dX9_mark_68 : decode cX9_mark 68 = .ok (.iconst 1, 1) := by decide +kernel
theorem dX9_mark_69 : decode cX9_mark 69 = .ok (.ireturn, 1) := by decide +kernel
theorem dX9_mark_70 : decode cX9_mark 70 = .ok (.iload_n 3, 1) := by decide +kernel
theorem dX9_mark_71 : decode cX9_mark 71 = .ok (.ldc 206, 2) := by decide +kernel
theorem dX9_mark_73 : decode cX9_mark 73 = .ok (.if_icmp .eq 19, 3) := by decide +kernel
theorem dX9_mark_76 : decode cX9_mark 76 = .ok (.iload_n 3, 1) := by decide +kernel
theorem dX9_mark_77 : decode cX9_mark 77 = .ok (.ldc_w 280, 3) := by decide +kernel
theorem dX9_mark_80 : decode cX9_mark 80 = .ok (.ldc_w 281, 3) := by decide +kernel
theorem dX9_mark_83 : decode cX9_mark 83 = .ok (.invokestatic 60, 3) := by decide +kernel
theorem dX9_mark_86 : decode cX9_mark 86 = .ok (.ifCond .ne 6, 3) := by decide +kernel
theorem dX9_mark_89 : decode cX9_mark 89 = .ok (.ldc 66, 2) := by decide +kernel
theorem dX9_mark_91 : decode cX9_mark 91 = .ok (.ireturn, 1) := by decide +kernel
theorem dX9_mark_92 : decode cX9_mark 92 = .ok (.aload 4, 2) := by decide +kernel
theorem dX9_mark_94 : decode cX9_mark 94 = .ok (.getfield 277, 3) := by decide +kernel
theorem dX9_mark_97 : decode cX9_mark 97 = .ok (.iload_n 2, 1) := by decide +kernel
theorem dX9_mark_98 : decode cX9_mark 98 = .ok (.iload_n 3, 1) := by decide +kernel
theorem dX9_mark_99 : decode cX9_mark 99 = .ok (.ldc 206, 2) := by decide +kernel
theorem dX9_mark_101 : decode cX9_mark 101 = .ok (.if_icmp .ne 8, 3) := by decide +kernel
theorem dX9_mark_104 : decode cX9_mark 104 = .ok (.ldc 206, 2) := by decide +kernel
theorem dX9_mark_106 : decode cX9_mark 106 = .ok (.goto 4, 3) := by decide +kernel
theorem dX9_mark_109 : decode cX9_mark 109 = .ok (.iload_n 3, 1) := by decide +kernel
theorem dX9_mark_110 : decode cX9_mark 110 = .ok (.iastore, 1) := by decide +kernel
theorem dX9_mark_111 : decode cX9_mark 111 = .ok (.iconst 1, 1) := by decide +kernel
theorem dX9_mark_112 : decode cX9_mark 112 = .ok (.ireturn, 1) := by decide +kernel
theorem dX9_pour_0 : decode cX9_pour 0 = .ok (.iload_n 1, 1) := by decide +kernel
theorem dX9_pour_1 : decode cX9_pour 1 = .ok (.invokestatic 207, 3) := by decide +kernel
theorem dX9_pour_4 : decode cX9_pour 4 = .ok (.ifCond .ne 6, 3) := by decide +kernel
theorem dX9_pour_7 : decode cX9_pour 7 = .ok (.ldc 66, 2) := by decide +kernel
theorem dX9_pour_9 : decode cX9_pour 9 = .ok (.ireturn, 1) := by decide +kernel
theorem dX9_pour_10 : decode cX9_pour 10 = .ok (.aload_n 0, 1) := by decide +kernel
theorem dX9_pour_11 : decode cX9_pour 11 = .ok (.getfield 35, 3) := by decide +kernel
theorem dX9_pour_14 : decode cX9_pour 14 = .ok (.iload_n 1, 1) := by decide +kernel
theorem dX9_pour_15 : decode cX9_pour 15 = .ok (.aaload, 1) := by decide +kernel
theorem dX9_pour_16 : decode cX9_pour 16 = .ok (.astore_n 2, 1) := by decide +kernel
theorem dX9_pour_17 : decode cX9_pour 17 = .ok (.aload_n 2, 1) := by decide +kernel
theorem dX9_pour_18 : decode cX9_pour 18 = .ok (.invokevirtual 210, 3) := by decide +kernel
theorem dX9_pour_21 : decode cX9_pour 21 = .ok (.ifCond .eq 6, 3) := by decide +kernel
theorem dX9_pour_24 : decode cX9_pour 24 = .ok (.ldc 214, 2) := by decide +kernel
theorem dX9_pour_26 : decode cX9_pour 26 = .ok (.ireturn, 1) := by decide +kernel
theorem dX9_pour_27 : decode cX9_pour 27 = .ok (.iconst 0, 1) := by decide +kernel
theorem dX9_pour_28 : decode cX9_pour 28 = .ok (.istore_n 3, 1) := by decide +kernel
theorem dX9_pour_29 : decode cX9_pour 29 = .ok (.iconst 0, 1) := by decide +kernel
theorem dX9_pour_30 : decode cX9_pour 30 = .ok (.istore 4, 2) := by decide +kernel
theorem dX9_pour_32 : decode cX9_pour 32 = .ok (.iload 4, 2) := by decide +kernel
theorem dX9_pour_34 : decode cX9_pour 34 = .ok (.bipush 8, 2) := by decide +kernel
theorem dX9_pour_36 : decode cX9_pour 36 = .ok (.if_icmp .ge 69, 3) := by decide +kernel
theorem dX9_pour_39 : decode cX9_pour 39 = .ok (.aload_n 2, 1) := by decide +kernel
theorem dX9_pour_40 : decode cX9_pour 40 = .ok (.iload 4, 2) := by decide +kernel
theorem dX9_pour_42 : decode cX9_pour 42 = .ok (.invokevirtual 282, 3) := by decide +kernel
theorem dX9_pour_45 : decode cX9_pour 45 = .ok (.ifCond .eq 54, 3) := by decide +kernel
theorem dX9_pour_48 : decode cX9_pour 48 = .ok (.aload_n 2, 1) := by decide +kernel
theorem dX9_pour_49 : decode cX9_pour 49 = .ok (.getfield 277, 3) := by decide +kernel
theorem dX9_pour_52 : decode cX9_pour 52 = .ok (.iload 4, 2) := by decide +kernel
theorem dX9_pour_54 : decode cX9_pour 54 = .ok (.iaload, 1) := by decide +kernel
theorem dX9_pour_55 : decode cX9_pour 55 = .ok (.iconst 0, 1) := by decide +kernel
theorem dX9_pour_56 : decode cX9_pour 56 = .ok (.sipush 9999, 3) := by decide +kernel
theorem dX9_pour_59 : decode cX9_pour 59 = .ok (.invokestatic 285, 3) := by decide +kernel
theorem dX9_pour_62 : decode cX9_pour 62 = .ok (.istore 5, 2) := by decide +kernel
theorem dX9_pour_64 : decode cX9_pour 64 = .ok (.iload_n 3, 1) := by decide +kernel
theorem dX9_pour_65 : decode cX9_pour 65 = .ok (.iload 5, 2) := by decide +kernel
theorem dX9_pour_67 : decode cX9_pour 67 = .ok (.aload_n 0, 1) := by decide +kernel
theorem dX9_pour_68 : decode cX9_pour 68 = .ok (.getfield 10, 3) := by decide +kernel
theorem dX9_pour_71 : decode cX9_pour 71 = .ok (.getfield 124, 3) := by decide +kernel
theorem dX9_pour_74 : decode cX9_pour 74 = .ok (.iload 4, 2) := by decide +kernel
theorem dX9_pour_76 : decode cX9_pour 76 = .ok (.iaload, 1) := by decide +kernel
theorem dX9_pour_77 : decode cX9_pour 77 = .ok (.if_icmp .ne 7, 3) := by decide +kernel
theorem dX9_pour_80 : decode cX9_pour 80 = .ok (.iconst 0, 1) := by decide +kernel
theorem dX9_pour_81 : decode cX9_pour 81 = .ok (.goto 4, 3) := by decide +kernel
theorem dX9_pour_84 : decode cX9_pour 84 = .ok (.iconst 1, 1) := by decide +kernel
theorem dX9_pour_85 : decode cX9_pour 85 = .ok (.iadd, 1) := by decide +kernel
theorem dX9_pour_86 : decode cX9_pour 86 = .ok (.istore_n 3, 1) := by decide +kernel
theorem dX9_pour_87 : decode cX9_pour 87 = .ok (.aload_n 0, 1) := by decide +kernel
theorem dX9_pour_88 : decode cX9_pour 88 = .ok (.getfield 10, 3) := by decide +kernel
theorem dX9_pour_91 : decode cX9_pour 91 = .ok (.getfield 124, 3) := by decide +kernel
theorem dX9_pour_94 : decode cX9_pour 94 = .ok (.iload 4, 2) := by decide +kernel
theorem dX9_pour_96 : decode cX9_pour 96 = .ok (.iload 5, 2) := by decide +kernel
theorem dX9_pour_98 : decode cX9_pour 98 = .ok (.iastore, 1) := by decide +kernel
theorem dX9_pour_99 : decode cX9_pour 99 = .ok (.iinc 4 1, 3) := by decide +kernel
theorem dX9_pour_102 : decode cX9_pour 102 = .ok (.goto (-70), 3) := by decide +kernel
theorem dX9_pour_105 : decode cX9_pour 105 = .ok (.iload_n 3, 1) := by decide +kernel
theorem dX9_pour_106 : decode cX9_pour 106 = .ok (.ireturn, 1) := by decide +kernel
theorem dX9_reads_0 : decode cX9_reads 0 = .ok (.iload_n 1, 1) := by decide +kernel
theorem dX9_reads_1 : decode cX9_reads 1 = .ok (.invokestatic 207, 3) := by decide +kernel
theorem dX9_reads_4 : decode cX9_reads 4 = .ok (.ifCond .ne 6, 3) := by decide +kernel
theorem dX9_reads_7 : decode cX9_reads 7 = .ok (.ldc 66, 2) := by decide +kernel
theorem dX9_reads_9 : decode cX9_reads 9 = .ok (.ireturn, 1) := by decide +kernel
theorem dX9_reads_10 : decode cX9_reads 10 = .ok (.aload_n 0, 1) := by decide +kernel
theorem dX9_reads_11 : decode cX9_reads 11 = .ok (.getfield 35, 3) := by decide +kernel
theorem dX9_reads_14 : decode cX9_reads 14 = .ok (.iload_n 1, 1) := by decide +kernel
theorem dX9_reads_15 : decode cX9_reads 15 = .ok (.aaload, 1) := by decide +kernel
theorem dX9_reads_16 : decode cX9_reads 16 = .ok (.astore_n 2, 1) := by decide +kernel
theorem dX9_reads_17 : decode cX9_reads 17 = .ok (.aload_n 2, 1) := by decide +kernel
theorem dX9_reads_18 : decode cX9_reads 18 = .ok (.invokevirtual 210, 3) := by decide +kernel
theorem dX9_reads_21 : decode cX9_reads 21 = .ok (.ifCond .eq 6, 3) := by decide +kernel
theorem dX9_reads_24 : decode cX9_reads 24 = .ok (.ldc 214, 2) := by decide +kernel
theorem dX9_reads_26 : decode cX9_reads 26 = .ok (.ireturn, 1) := by decide +kernel
theorem dX9_reads_27 : decode cX9_reads 27 = .ok (.iconst 0, 1) := by decide +kernel
theorem dX9_reads_28 : decode cX9_reads 28 = .ok (.istore_n 3, 1) := by decide +kernel
theorem dX9_reads_29 : decode cX9_reads 29 = .ok (.iload_n 3, 1) := by decide +kernel
theorem dX9_reads_30 : decode cX9_reads 30 = .ok (.aload_n 2, 1) := by decide +kernel
theorem dX9_reads_31 : decode cX9_reads 31 = .ok (.getfield 289, 3) := by decide +kernel
theorem dX9_reads_34 : decode cX9_reads 34 = .ok (.if_icmp .ge 44, 3) := by decide +kernel
theorem dX9_reads_37 : decode cX9_reads 37 = .ok (.aload_n 2, 1) := by decide +kernel
theorem dX9_reads_38 : decode cX9_reads 38 = .ok (.iload_n 3, 1) := by decide +kernel
theorem dX9_reads_39 : decode cX9_reads 39 = .ok (.invokevirtual 282, 3) := by decide +kernel
theorem dX9_reads_42 : decode cX9_reads 42 = .ok (.ifCond .eq 30, 3) := by decide +kernel
theorem dX9_reads_45 : decode cX9_reads 45 = .ok (.iload_n 3, 1) := by decide +kernel
theorem dX9_reads_46 : decode cX9_reads 46 = .ok (.invokestatic 57, 3) := by decide +kernel
theorem dX9_reads_49 : decode cX9_reads 49 = .ok (.ifCond .eq 21, 3) := by decide +kernel
theorem dX9_reads_52 : decode cX9_reads 52 = .ok (.aload_n 2, 1) := by decide +kernel
theorem dX9_reads_53 : decode cX9_reads 53 = .ok (.getfield 277, 3) := by decide +kernel
theorem dX9_reads_56 : decode cX9_reads 56 = .ok (.iload_n 3, 1) := by decide +kernel
theorem dX9_reads_57 : decode cX9_reads 57 = .ok (.iaload, 1) := by decide +kernel
theorem dX9_reads_58 : decode cX9_reads 58 = .ok (.aload_n 0, 1) := by decide +kernel
theorem dX9_reads_59 : decode cX9_reads 59 = .ok (.getfield 10, 3) := by decide +kernel
theorem dX9_reads_62 : decode cX9_reads 62 = .ok (.getfield 118, 3) := by decide +kernel
theorem dX9_reads_65 : decode cX9_reads 65 = .ok (.iload_n 3, 1) := by decide +kernel
theorem dX9_reads_66 : decode cX9_reads 66 = .ok (.iaload, 1) := by decide +kernel
theorem dX9_reads_67 : decode cX9_reads 67 = .ok (.if_icmp .eq 5, 3) := by decide +kernel
theorem dX9_reads_70 : decode cX9_reads 70 = .ok (.iload_n 3, 1) := by decide +kernel
theorem dX9_reads_71 : decode cX9_reads 71 = .ok (.ireturn, 1) := by decide +kernel
theorem dX9_reads_72 : decode cX9_reads 72 = .ok (.iinc 3 1, 3) := by decide +kernel
theorem dX9_reads_75 : decode cX9_reads 75 = .ok (.goto (-46), 3) := by decide +kernel
theorem dX9_reads_78 : decode cX9_reads 78 = .ok (.ldc 206, 2) := by decide +kernel
theorem dX9_reads_80 : decode cX9_reads 80 = .ok (.ireturn, 1) := by decide +kernel
theorem dX9_copy_0 : decode cX9_copy 0 = .ok (.iload_n 1, 1) := by decide +kernel
theorem dX9_copy_1 : decode cX9_copy 1 = .ok (.invokestatic 207, 3) := by decide +kernel
theorem dX9_copy_4 : decode cX9_copy 4 = .ok (.ifCond .eq 10, 3) := by decide +kernel
theorem dX9_copy_7 : decode cX9_copy 7 = .ok (.iload_n 3, 1) := by decide +kernel
theorem dX9_copy_8 : decode cX9_copy 8 = .ok (.invokestatic 207, 3) := by decide +kernel
theorem dX9_copy_11 : decode cX9_copy 11 = .ok (.ifCond .ne 6, 3) := by decide +kernel
theorem dX9_copy_14 : decode cX9_copy 14 = .ok (.ldc 66, 2) := by decide +kernel
theorem dX9_copy_16 : decode cX9_copy 16 = .ok (.ireturn, 1) := by decide +kernel
theorem dX9_copy_17 : decode cX9_copy 17 = .ok (.aload_n 0, 1) := by decide +kernel
theorem dX9_copy_18 : decode cX9_copy 18 = .ok (.getfield 35, 3) := by decide +kernel
theorem dX9_copy_21 : decode cX9_copy 21 = .ok (.iload_n 1, 1) := by decide +kernel
theorem dX9_copy_22 : decode cX9_copy 22 = .ok (.aaload, 1) := by decide +kernel
theorem dX9_copy_23 : decode cX9_copy 23 = .ok (.astore 6, 2) := by decide +kernel
theorem dX9_copy_25 : decode cX9_copy 25 = .ok (.aload_n 0, 1) := by decide +kernel
theorem dX9_copy_26 : decode cX9_copy 26 = .ok (.getfield 35, 3) := by decide +kernel
theorem dX9_copy_29 : decode cX9_copy 29 = .ok (.iload_n 3, 1) := by decide +kernel
theorem dX9_copy_30 : decode cX9_copy 30 = .ok (.aaload, 1) := by decide +kernel
theorem dX9_copy_31 : decode cX9_copy 31 = .ok (.astore 7, 2) := by decide +kernel
theorem dX9_copy_33 : decode cX9_copy 33 = .ok (.aload 6, 2) := by decide +kernel
theorem dX9_copy_35 : decode cX9_copy 35 = .ok (.invokevirtual 210, 3) := by decide +kernel
theorem dX9_copy_38 : decode cX9_copy 38 = .ok (.ifCond .ne 11, 3) := by decide +kernel
theorem dX9_copy_41 : decode cX9_copy 41 = .ok (.aload 7, 2) := by decide +kernel
theorem dX9_copy_43 : decode cX9_copy 43 = .ok (.invokevirtual 210, 3) := by decide +kernel
theorem dX9_copy_46 : decode cX9_copy 46 = .ok (.ifCond .eq 6, 3) := by decide +kernel
theorem dX9_copy_49 : decode cX9_copy 49 = .ok (.ldc 214, 2) := by decide +kernel
theorem dX9_copy_51 : decode cX9_copy 51 = .ok (.ireturn, 1) := by decide +kernel
theorem dX9_copy_52 : decode cX9_copy 52 = .ok (.aload 6, 2) := by decide +kernel
theorem dX9_copy_54 : decode cX9_copy 54 = .ok (.getfield 274, 3) := by decide +kernel
theorem dX9_copy_57 : decode cX9_copy 57 = .ok (.aload 7, 2) := by decide +kernel
theorem dX9_copy_59 : decode cX9_copy 59 = .ok (.getfield 274, 3) := by decide +kernel
theorem dX9_copy_62 : decode cX9_copy 62 = .ok (.if_icmp .eq 6, 3) := by decide +kernel
theorem dX9_copy_65 : decode cX9_copy 65 = .ok (.ldc 113, 2) := by decide +kernel
theorem dX9_copy_67 : decode cX9_copy 67 = .ok (.ireturn, 1) := by decide +kernel
theorem dX9_copy_68 : decode cX9_copy 68 = .ok (.aload 6, 2) := by decide +kernel
theorem dX9_copy_70 : decode cX9_copy 70 = .ok (.iload_n 2, 1) := by decide +kernel
theorem dX9_copy_71 : decode cX9_copy 71 = .ok (.iload 5, 2) := by decide +kernel
theorem dX9_copy_73 : decode cX9_copy 73 = .ok (.invokevirtual 290, 3) := by decide +kernel
theorem dX9_copy_76 : decode cX9_copy 76 = .ok (.ifCond .eq 15, 3) := by decide +kernel
theorem dX9_copy_79 : decode cX9_copy 79 = .ok (.aload 7, 2) := by decide +kernel
theorem dX9_copy_81 : decode cX9_copy 81 = .ok (.iload 4, 2) := by decide +kernel
theorem dX9_copy_83 : decode cX9_copy 83 = .ok (.iload 5, 2) := by decide +kernel
theorem dX9_copy_85 : decode cX9_copy 85 = .ok (.invokevirtual 290, 3) := by decide +kernel
theorem dX9_copy_88 : decode cX9_copy 88 = .ok (.ifCond .ne 7, 3) := by decide +kernel
theorem dX9_copy_91 : decode cX9_copy 91 = .ok (.ldc_w 273, 3) := by decide +kernel
theorem dX9_copy_94 : decode cX9_copy 94 = .ok (.ireturn, 1) := by decide +kernel
theorem dX9_copy_95 : decode cX9_copy 95 = .ok (.aload 6, 2) := by decide +kernel
theorem dX9_copy_97 : decode cX9_copy 97 = .ok (.getfield 277, 3) := by decide +kernel
theorem dX9_copy_100 : decode cX9_copy 100 = .ok (.iload_n 2, 1) := by decide +kernel
theorem dX9_copy_101 : decode cX9_copy 101 = .ok (.aload 7, 2) := by decide +kernel
theorem dX9_copy_103 : decode cX9_copy 103 = .ok (.getfield 277, 3) := by decide +kernel
theorem dX9_copy_106 : decode cX9_copy 106 = .ok (.iload 4, 2) := by decide +kernel
theorem dX9_copy_108 : decode cX9_copy 108 = .ok (.iload 5, 2) := by decide +kernel
theorem dX9_copy_110 : decode cX9_copy 110 = .ok (.invokestatic 293, 3) := by decide +kernel
theorem dX9_copy_113 : decode cX9_copy 113 = .ok (.iload 5, 2) := by decide +kernel
theorem dX9_copy_115 : decode cX9_copy 115 = .ok (.ireturn, 1) := by decide +kernel
theorem dX9_lay_0 : decode cX9_lay 0 = .ok (.iload_n 1, 1) := by decide +kernel
theorem dX9_lay_1 : decode cX9_lay 1 = .ok (.invokestatic 299, 3) := by decide +kernel
theorem dX9_lay_4 : decode cX9_lay 4 = .ok (.ifCond .eq 12, 3) := by decide +kernel
theorem dX9_lay_7 : decode cX9_lay 7 = .ok (.aload_n 0, 1) := by decide +kernel
theorem dX9_lay_8 : decode cX9_lay 8 = .ok (.iload_n 2, 1) := by decide +kernel
theorem dX9_lay_9 : decode cX9_lay 9 = .ok (.iload_n 3, 1) := by decide +kernel
theorem dX9_lay_10 : decode cX9_lay 10 = .ok (.invokevirtual 302, 3) := by decide +kernel
theorem dX9_lay_13 : decode cX9_lay 13 = .ok (.ifCond .ne 6, 3) := by decide +kernel
theorem dX9_lay_16 : decode cX9_lay 16 = .ok (.ldc 66, 2) := by decide +kernel
theorem dX9_lay_18 : decode cX9_lay 18 = .ok (.ireturn, 1) := by decide +kernel
theorem dX9_lay_19 : decode cX9_lay 19 = .ok (.iload_n 2, 1) := by decide +kernel
theorem dX9_lay_20 : decode cX9_lay 20 = .ok (.iconst 2, 1) := by decide +kernel
theorem dX9_lay_21 : decode cX9_lay 21 = .ok (.if_icmp .ne 18, 3) := by decide +kernel
theorem dX9_lay_24 : decode cX9_lay 24 = .ok (.aload_n 0, 1) := by decide +kernel
theorem dX9_lay_25 : decode cX9_lay 25 = .ok (.getfield 35, 3) := by decide +kernel
theorem dX9_lay_28 : decode cX9_lay 28 = .ok (.iload_n 3, 1) := by decide +kernel
theorem dX9_lay_29 : decode cX9_lay 29 = .ok (.aaload, 1) := by decide +kernel
theorem dX9_lay_30 : decode cX9_lay 30 = .ok (.invokevirtual 210, 3) := by decide +kernel
theorem dX9_lay_33 : decode cX9_lay 33 = .ok (.ifCond .eq 6, 3) := by decide +kernel
theorem dX9_lay_36 : decode cX9_lay 36 = .ok (.ldc 214, 2) := by decide +kernel
theorem dX9_lay_38 : decode cX9_lay 38 = .ok (.ireturn, 1) := by decide +kernel
theorem dX9_lay_39 : decode cX9_lay 39 = .ok (.aload_n 0, 1) := by decide +kernel
theorem dX9_lay_40 : decode cX9_lay 40 = .ok (.getfield 41, 3) := by decide +kernel
theorem dX9_lay_43 : decode cX9_lay 43 = .ok (.iload_n 1, 1) := by decide +kernel
theorem dX9_lay_44 : decode cX9_lay 44 = .ok (.aaload, 1) := by decide +kernel
theorem dX9_lay_45 : decode cX9_lay 45 = .ok (.astore 4, 2) := by decide +kernel
theorem dX9_lay_47 : decode cX9_lay 47 = .ok (.aload 4, 2) := by decide +kernel
theorem dX9_lay_49 : decode cX9_lay 49 = .ok (.getfield 305, 3) := by decide +kernel
theorem dX9_lay_52 : decode cX9_lay 52 = .ok (.istore 5, 2) := by decide +kernel
theorem dX9_lay_54 : decode cX9_lay 54 = .ok (.aload 4, 2) := by decide +kernel
theorem dX9_lay_56 : decode cX9_lay 56 = .ok (.iload_n 2, 1) := by decide +kernel
theorem dX9_lay_57 : decode cX9_lay 57 = .ok (.putfield 305, 3) := by decide +kernel
theorem dX9_lay_60 : decode cX9_lay 60 = .ok (.iload_n 2, 1) := by decide +kernel
theorem dX9_lay_61 : decode cX9_lay 61 = .ok (.iconst 1, 1) := by decide +kernel
theorem dX9_lay_62 : decode cX9_lay 62 = .ok (.if_icmp .ne 40, 3) := by decide +kernel
theorem dX9_lay_65 : decode cX9_lay 65 = .ok (.aload 4, 2) := by decide +kernel
theorem dX9_lay_67 : decode cX9_lay 67 = .ok (.aload_n 0, 1) := by decide +kernel
theorem dX9_lay_68 : decode cX9_lay 68 = .ok (.getfield 10, 3) := by decide +kernel
theorem dX9_lay_71 : decode cX9_lay 71 = .ok (.getfield 67, 3) := by decide +kernel
theorem dX9_lay_74 : decode cX9_lay 74 = .ok (.getfield 83, 3) := by decide +kernel
theorem dX9_lay_77 : decode cX9_lay 77 = .ok (.iload_n 3, 1) := by decide +kernel
theorem dX9_lay_78 : decode cX9_lay 78 = .ok (.iaload, 1) := by decide +kernel
theorem dX9_lay_79 : decode cX9_lay 79 = .ok (.putfield 308, 3) := by decide +kernel
theorem dX9_lay_82 : decode cX9_lay 82 = .ok (.aload 4, 2) := by decide +kernel
theorem dX9_lay_84 : decode cX9_lay 84 = .ok (.aload_n 0, 1) := by decide +kernel
theorem dX9_lay_85 : decode cX9_lay 85 = .ok (.getfield 10, 3) := by decide +kernel
theorem dX9_lay_88 : decode cX9_lay 88 = .ok (.getfield 67, 3) := by decide +kernel
theorem dX9_lay_91 : decode cX9_lay 91 = .ok (.getfield 92, 3) := by decide +kernel
theorem dX9_lay_94 : decode cX9_lay 94 = .ok (.iload_n 3, 1) := by decide +kernel
theorem dX9_lay_95 : decode cX9_lay 95 = .ok (.iaload, 1) := by decide +kernel
theorem dX9_lay_96 : decode cX9_lay 96 = .ok (.putfield 310, 3) := by decide +kernel
theorem dX9_lay_99 : decode cX9_lay 99 = .ok (.goto 31, 3) := by decide +kernel
theorem dX9_lay_102 : decode cX9_lay 102 = .ok (.iload_n 2, 1) := by decide +kernel
theorem dX9_lay_103 : decode cX9_lay 103 = .ok (.iconst 2, 1) := by decide +kernel
theorem dX9_lay_104 : decode cX9_lay 104 = .ok (.if_icmp .ne 20, 3) := by decide +kernel
theorem dX9_lay_107 : decode cX9_lay 107 = .ok (.aload 4, 2) := by decide +kernel
theorem dX9_lay_109 : decode cX9_lay 109 = .ok (.getfield 312, 3) := by decide +kernel
theorem dX9_lay_112 : decode cX9_lay 112 = .ok (.aload_n 0, 1) := by decide +kernel
theorem dX9_lay_113 : decode cX9_lay 113 = .ok (.getfield 35, 3) := by decide +kernel
theorem dX9_lay_116 : decode cX9_lay 116 = .ok (.iload_n 3, 1) := by decide +kernel
theorem dX9_lay_117 : decode cX9_lay 117 = .ok (.aaload, 1) := by decide +kernel
theorem dX9_lay_118 : decode cX9_lay 118 = .ok (.invokevirtual 316, 3) := by decide +kernel
theorem dX9_lay_121 : decode cX9_lay 121 = .ok (.goto 9, 3) := by decide +kernel
theorem dX9_lay_124 : decode cX9_lay 124 = .ok (.aload 4, 2) := by decide +kernel
theorem dX9_lay_126 : decode cX9_lay 126 = .ok (.iload_n 3, 1) := by decide +kernel
theorem dX9_lay_127 : decode cX9_lay 127 = .ok (.putfield 320, 3) := by decide +kernel
theorem dX9_lay_130 : decode cX9_lay 130 = .ok (.iload 5, 2) := by decide +kernel
theorem dX9_lay_132 : decode cX9_lay 132 = .ok (.ireturn, 1) := by decide +kernel
theorem dX9_canLay_0 : decode cX9_canLay 0 = .ok (.iload_n 1, 1) := by decide +kernel
theorem dX9_canLay_1 : decode cX9_canLay 1 = .ok (.tableswitch 50 0 3 #[31, 33, 45, 31], 31) := by decide +kernel
theorem dX9_canLay_32 : decode cX9_canLay 32 = .ok (.iconst 1, 1) := by decide +kernel
theorem dX9_canLay_33 : decode cX9_canLay 33 = .ok (.ireturn, 1) := by decide +kernel
theorem dX9_canLay_34 : decode cX9_canLay 34 = .ok (.aload_n 0, 1) := by decide +kernel
theorem dX9_canLay_35 : decode cX9_canLay 35 = .ok (.getfield 10, 3) := by decide +kernel
theorem dX9_canLay_38 : decode cX9_canLay 38 = .ok (.getfield 67, 3) := by decide +kernel
theorem dX9_canLay_41 : decode cX9_canLay 41 = .ok (.iload_n 2, 1) := by decide +kernel
theorem dX9_canLay_42 : decode cX9_canLay 42 = .ok (.invokevirtual 80, 3) := by decide +kernel
theorem dX9_canLay_45 : decode cX9_canLay 45 = .ok (.ireturn, 1) := by decide +kernel
theorem dX9_canLay_46 : decode cX9_canLay 46 = .ok (.iload_n 2, 1) := by decide +kernel
theorem dX9_canLay_47 : decode cX9_canLay 47 = .ok (.invokestatic 207, 3) := by decide +kernel
theorem dX9_canLay_50 : decode cX9_canLay 50 = .ok (.ireturn, 1) := by decide +kernel
theorem dX9_canLay_51 : decode cX9_canLay 51 = .ok (.iconst 0, 1) := by decide +kernel
theorem dX9_canLay_52 : decode cX9_canLay 52 = .ok (.ireturn, 1) := by decide +kernel
theorem dX9_ask_0 : decode cX9_ask 0 = .ok (.iload_n 1, 1) := by decide +kernel
theorem dX9_ask_1 : decode cX9_ask 1 = .ok (.invokestatic 299, 3) := by decide +kernel
theorem dX9_ask_4 : decode cX9_ask 4 = .ok (.ifCond .eq 10, 3) := by decide +kernel
theorem dX9_ask_7 : decode cX9_ask 7 = .ok (.iload_n 2, 1) := by decide +kernel
theorem dX9_ask_8 : decode cX9_ask 8 = .ok (.invokestatic 51, 3) := by decide +kernel
theorem dX9_ask_11 : decode cX9_ask 11 = .ok (.ifCond .ne 6, 3) := by decide +kernel
theorem dX9_ask_14 : decode cX9_ask 14 = .ok (.ldc 66, 2) := by decide +kernel
theorem dX9_ask_16 : decode cX9_ask 16 = .ok (.ireturn, 1) := by decide +kernel
theorem dX9_ask_17 : decode cX9_ask 17 = .ok (.aload_n 0, 1) := by decide +kernel
theorem dX9_ask_18 : decode cX9_ask 18 = .ok (.getfield 41, 3) := by decide +kernel
theorem dX9_ask_21 : decode cX9_ask 21 = .ok (.iload_n 1, 1) := by decide +kernel
theorem dX9_ask_22 : decode cX9_ask 22 = .ok (.aaload, 1) := by decide +kernel
theorem dX9_ask_23 : decode cX9_ask 23 = .ok (.astore_n 3, 1) := by decide +kernel
theorem dX9_ask_24 : decode cX9_ask 24 = .ok (.aload_n 3, 1) := by decide +kernel
theorem dX9_ask_25 : decode cX9_ask 25 = .ok (.getfield 305, 3) := by decide +kernel
theorem dX9_ask_28 : decode cX9_ask 28 = .ok (.ifCond .ne 6, 3) := by decide +kernel
theorem dX9_ask_31 : decode cX9_ask 31 = .ok (.ldc 214, 2) := by decide +kernel
theorem dX9_ask_33 : decode cX9_ask 33 = .ok (.ireturn, 1) := by decide +kernel
theorem dX9_ask_34 : decode cX9_ask 34 = .ok (.aload_n 3, 1) := by decide +kernel
theorem dX9_ask_35 : decode cX9_ask 35 = .ok (.getfield 305, 3) := by decide +kernel
theorem dX9_ask_38 : decode cX9_ask 38 = .ok (.iconst 1, 1) := by decide +kernel
theorem dX9_ask_39 : decode cX9_ask 39 = .ok (.if_icmp .ne 14, 3) := by decide +kernel
theorem dX9_ask_42 : decode cX9_ask 42 = .ok (.aload_n 3, 1) := by decide +kernel
theorem dX9_ask_43 : decode cX9_ask 43 = .ok (.getfield 308, 3) := by decide +kernel
theorem dX9_ask_46 : decode cX9_ask 46 = .ok (.iload_n 2, 1) := by decide +kernel
theorem dX9_ask_47 : decode cX9_ask 47 = .ok (.invokestatic 109, 3) := by decide +kernel
theorem dX9_ask_50 : decode cX9_ask 50 = .ok (.ifCond .ne 6, 3) := by decide +kernel
theorem dX9_ask_53 : decode cX9_ask 53 = .ok (.ldc 113, 2) := by decide +kernel
theorem dX9_ask_55 : decode cX9_ask 55 = .ok (.ireturn, 1) := by decide +kernel
theorem dX9_ask_56 : decode cX9_ask 56 = .ok (.aload_n 3, 1) := by decide +kernel
theorem dX9_ask_57 : decode cX9_ask 57 = .ok (.getfield 308, 3) := by decide +kernel
theorem dX9_ask_60 : decode cX9_ask 60 = .ok (.aload_n 3, 1) := by decide +kernel
theorem dX9_ask_61 : decode cX9_ask 61 = .ok (.getfield 310, 3) := by decide +kernel
theorem dX9_ask_64 : decode cX9_ask 64 = .ok (.invokestatic 105, 3) := by decide +kernel
theorem dX9_ask_67 : decode cX9_ask 67 = .ok (.ireturn, 1) := by decide +kernel
theorem dX9_item_0 : decode cX9_item 0 = .ok (.iload_n 1, 1) := by decide +kernel
theorem dX9_item_1 : decode cX9_item 1 = .ok (.invokestatic 299, 3) := by decide +kernel
theorem dX9_item_4 : decode cX9_item 4 = .ok (.ifCond .ne 6, 3) := by decide +kernel
theorem dX9_item_7 : decode cX9_item 7 = .ok (.ldc 66, 2) := by decide +kernel
theorem dX9_item_9 : decode cX9_item 9 = .ok (.ireturn, 1) := by decide +kernel
theorem dX9_item_10 : decode cX9_item 10 = .ok (.aload_n 0, 1) := by decide +kernel
theorem dX9_item_11 : decode cX9_item 11 = .ok (.getfield 41, 3) := by decide +kernel
theorem dX9_item_14 : decode cX9_item 14 = .ok (.iload_n 1, 1) := by decide +kernel
theorem dX9_item_15 : decode cX9_item 15 = .ok (.aaload, 1) := by decide +kernel
theorem dX9_item_16 : decode cX9_item 16 = .ok (.astore_n 3, 1) := by decide +kernel
theorem dX9_item_17 : decode cX9_item 17 = .ok (.aload_n 3, 1) := by decide +kernel
theorem dX9_item_18 : decode cX9_item 18 = .ok (.getfield 305, 3) := by decide +kernel
theorem dX9_item_21 : decode cX9_item 21 = .ok (.ifCond .ne 6, 3) := by decide +kernel
theorem dX9_item_24 : decode cX9_item 24 = .ok (.ldc 214, 2) := by decide +kernel
theorem dX9_item_26 : decode cX9_item 26 = .ok (.ireturn, 1) := by decide +kernel
theorem dX9_item_27 : decode cX9_item 27 = .ok (.aload_n 3, 1) := by decide +kernel
theorem dX9_item_28 : decode cX9_item 28 = .ok (.getfield 305, 3) := by decide +kernel
theorem dX9_item_31 : decode cX9_item 31 = .ok (.iconst 2, 1) := by decide +kernel
theorem dX9_item_32 : decode cX9_item 32 = .ok (.if_icmp .eq 6, 3) := by decide +kernel
theorem dX9_item_35 : decode cX9_item 35 = .ok (.ldc 113, 2) := by decide +kernel
theorem dX9_item_37 : decode cX9_item 37 = .ok (.ireturn, 1) := by decide +kernel
theorem dX9_item_38 : decode cX9_item 38 = .ok (.aload_n 3, 1) := by decide +kernel
theorem dX9_item_39 : decode cX9_item 39 = .ok (.getfield 312, 3) := by decide +kernel
theorem dX9_item_42 : decode cX9_item 42 = .ok (.iload_n 2, 1) := by decide +kernel
theorem dX9_item_43 : decode cX9_item 43 = .ok (.invokevirtual 272, 3) := by decide +kernel
theorem dX9_item_46 : decode cX9_item 46 = .ok (.ifCond .ne 7, 3) := by decide +kernel
theorem dX9_item_49 : decode cX9_item 49 = .ok (.ldc_w 273, 3) := by decide +kernel
theorem dX9_item_52 : decode cX9_item 52 = .ok (.ireturn, 1) := by decide +kernel
theorem dX9_item_53 : decode cX9_item 53 = .ok (.aload_n 3, 1) := by decide +kernel
theorem dX9_item_54 : decode cX9_item 54 = .ok (.getfield 312, 3) := by decide +kernel
theorem dX9_item_57 : decode cX9_item 57 = .ok (.iload_n 2, 1) := by decide +kernel
theorem dX9_item_58 : decode cX9_item 58 = .ok (.invokevirtual 282, 3) := by decide +kernel
theorem dX9_item_61 : decode cX9_item 61 = .ok (.ifCond .eq 15, 3) := by decide +kernel
theorem dX9_item_64 : decode cX9_item 64 = .ok (.aload_n 3, 1) := by decide +kernel
theorem dX9_item_65 : decode cX9_item 65 = .ok (.getfield 312, 3) := by decide +kernel
theorem dX9_item_68 : decode cX9_item 68 = .ok (.getfield 277, 3) := by decide +kernel
theorem dX9_item_71 : decode cX9_item 71 = .ok (.iload_n 2, 1) := by decide +kernel
theorem dX9_item_72 : decode cX9_item 72 = .ok (.iaload, 1) := by decide +kernel
theorem dX9_item_73 : decode cX9_item 73 = .ok (.goto 5, 3) := by decide +kernel
theorem dX9_item_76 : decode cX9_item 76 = .ok (.ldc 113, 2) := by decide +kernel
theorem dX9_item_78 : decode cX9_item 78 = .ok (.ireturn, 1) := by decide +kernel
theorem dX9_rest_0 : decode cX9_rest 0 = .ok (.iload_n 1, 1) := by decide +kernel
theorem dX9_rest_1 : decode cX9_rest 1 = .ok (.invokestatic 299, 3) := by decide +kernel
theorem dX9_rest_4 : decode cX9_rest 4 = .ok (.ifCond .ne 6, 3) := by decide +kernel
theorem dX9_rest_7 : decode cX9_rest 7 = .ok (.ldc 66, 2) := by decide +kernel
theorem dX9_rest_9 : decode cX9_rest 9 = .ok (.ireturn, 1) := by decide +kernel
theorem dX9_rest_10 : decode cX9_rest 10 = .ok (.aload_n 0, 1) := by decide +kernel
theorem dX9_rest_11 : decode cX9_rest 11 = .ok (.getfield 41, 3) := by decide +kernel
theorem dX9_rest_14 : decode cX9_rest 14 = .ok (.iload_n 1, 1) := by decide +kernel
theorem dX9_rest_15 : decode cX9_rest 15 = .ok (.aaload, 1) := by decide +kernel
theorem dX9_rest_16 : decode cX9_rest 16 = .ok (.astore_n 3, 1) := by decide +kernel
theorem dX9_rest_17 : decode cX9_rest 17 = .ok (.aload_n 3, 1) := by decide +kernel
theorem dX9_rest_18 : decode cX9_rest 18 = .ok (.getfield 305, 3) := by decide +kernel
theorem dX9_rest_21 : decode cX9_rest 21 = .ok (.ifCond .ne 6, 3) := by decide +kernel
theorem dX9_rest_24 : decode cX9_rest 24 = .ok (.ldc 214, 2) := by decide +kernel
theorem dX9_rest_26 : decode cX9_rest 26 = .ok (.ireturn, 1) := by decide +kernel
theorem dX9_rest_27 : decode cX9_rest 27 = .ok (.aload_n 3, 1) := by decide +kernel
theorem dX9_rest_28 : decode cX9_rest 28 = .ok (.getfield 305, 3) := by decide +kernel
theorem dX9_rest_31 : decode cX9_rest 31 = .ok (.iconst 3, 1) := by decide +kernel
theorem dX9_rest_32 : decode cX9_rest 32 = .ok (.if_icmp .eq 6, 3) := by decide +kernel
theorem dX9_rest_35 : decode cX9_rest 35 = .ok (.ldc 113, 2) := by decide +kernel
theorem dX9_rest_37 : decode cX9_rest 37 = .ok (.ireturn, 1) := by decide +kernel
theorem dX9_rest_38 : decode cX9_rest 38 = .ok (.iload_n 2, 1) := by decide +kernel
theorem dX9_rest_39 : decode cX9_rest 39 = .ok (.ifCond .ne 9, 3) := by decide +kernel
theorem dX9_rest_42 : decode cX9_rest 42 = .ok (.ldc_w 323, 3) := by decide +kernel
theorem dX9_rest_45 : decode cX9_rest 45 = .ok (.goto 9, 3) := by decide +kernel
theorem dX9_rest_48 : decode cX9_rest 48 = .ok (.aload_n 3, 1) := by decide +kernel
theorem dX9_rest_49 : decode cX9_rest 49 = .ok (.getfield 320, 3) := by decide +kernel
theorem dX9_rest_52 : decode cX9_rest 52 = .ok (.iload_n 2, 1) := by decide +kernel
theorem dX9_rest_53 : decode cX9_rest 53 = .ok (.irem, 1) := by decide +kernel
theorem dX9_rest_54 : decode cX9_rest 54 = .ok (.ireturn, 1) := by decide +kernel
theorem dX9_tell_0 : decode cX9_tell 0 = .ok (.aload_n 0, 1) := by decide +kernel
theorem dX9_tell_1 : decode cX9_tell 1 = .ok (.getfield 324, 3) := by decide +kernel
theorem dX9_tell_4 : decode cX9_tell 4 = .ok (.bipush 60, 2) := by decide +kernel
theorem dX9_tell_6 : decode cX9_tell 6 = .ok (.if_icmp .lt 6, 3) := by decide +kernel
theorem dX9_tell_9 : decode cX9_tell 9 = .ok (.ldc 75, 2) := by decide +kernel
theorem dX9_tell_11 : decode cX9_tell 11 = .ok (.ireturn, 1) := by decide +kernel
theorem dX9_tell_12 : decode cX9_tell 12 = .ok (.aload_n 0, 1) := by decide +kernel
theorem dX9_tell_13 : decode cX9_tell 13 = .ok (.getfield 45, 3) := by decide +kernel
theorem dX9_tell_16 : decode cX9_tell 16 = .ok (.aload_n 0, 1) := by decide +kernel
theorem dX9_tell_17 : decode cX9_tell 17 = .ok (.getfield 324, 3) := by decide +kernel
theorem dX9_tell_20 : decode cX9_tell 20 = .ok (.iload_n 1, 1) := by decide +kernel
theorem dX9_tell_21 : decode cX9_tell 21 = .ok (.iastore, 1) := by decide +kernel
theorem dX9_tell_22 : decode cX9_tell 22 = .ok (.aload_n 0, 1) := by decide +kernel
theorem dX9_tell_23 : decode cX9_tell 23 = .ok (.dup, 1) := by decide +kernel
theorem dX9_tell_24 : decode cX9_tell 24 = .ok (.getfield 324, 3) := by decide +kernel
theorem dX9_tell_27 : decode cX9_tell 27 = .ok (.iconst 1, 1) := by decide +kernel
theorem dX9_tell_28 : decode cX9_tell 28 = .ok (.iadd, 1) := by decide +kernel
theorem dX9_tell_29 : decode cX9_tell 29 = .ok (.putfield 324, 3) := by decide +kernel
theorem dX9_tell_32 : decode cX9_tell 32 = .ok (.aload_n 0, 1) := by decide +kernel
theorem dX9_tell_33 : decode cX9_tell 33 = .ok (.getfield 324, 3) := by decide +kernel
theorem dX9_tell_36 : decode cX9_tell 36 = .ok (.ireturn, 1) := by decide +kernel
theorem dX9_check_0 : decode cX9_check 0 = .ok (.aload_n 0, 1) := by decide +kernel
theorem dX9_check_1 : decode cX9_check 1 = .ok (.getfield 324, 3) := by decide +kernel
theorem dX9_check_4 : decode cX9_check 4 = .ok (.istore_n 2, 1) := by decide +kernel
theorem dX9_check_5 : decode cX9_check 5 = .ok (.aload_n 0, 1) := by decide +kernel
theorem dX9_check_6 : decode cX9_check 6 = .ok (.iconst 0, 1) := by decide +kernel
theorem dX9_check_7 : decode cX9_check 7 = .ok (.putfield 324, 3) := by decide +kernel
theorem dX9_check_10 : decode cX9_check 10 = .ok (.iload_n 1, 1) := by decide +kernel
theorem dX9_check_11 : decode cX9_check 11 = .ok (.iconst 1, 1) := by decide +kernel
theorem dX9_check_12 : decode cX9_check 12 = .ok (.bipush 30, 2) := by decide +kernel
theorem dX9_check_14 : decode cX9_check 14 = .ok (.invokestatic 60, 3) := by decide +kernel
theorem dX9_check_17 : decode cX9_check 17 = .ok (.ifCond .ne 6, 3) := by decide +kernel
theorem dX9_check_20 : decode cX9_check 20 = .ok (.ldc 66, 2) := by decide +kernel
theorem dX9_check_22 : decode cX9_check 22 = .ok (.ireturn, 1) := by decide +kernel
theorem dX9_check_23 : decode cX9_check 23 = .ok (.aload_n 0, 1) := by decide +kernel
theorem dX9_check_24 : decode cX9_check 24 = .ok (.getfield 327, 3) := by decide +kernel
theorem dX9_check_27 : decode cX9_check 27 = .ok (.ifCond .ne 7, 3) := by decide +kernel
theorem dX9_check_30 : decode cX9_check 30 = .ok (.ldc_w 323, 3) := by decide +kernel
theorem dX9_check_33 : decode cX9_check 33 = .ok (.ireturn, 1) := by decide +kernel
theorem dX9_check_34 : decode cX9_check 34 = .ok (.aload_n 0, 1) := by decide +kernel
theorem dX9_check_35 : decode cX9_check 35 = .ok (.getfield 22, 3) := by decide +kernel
theorem dX9_check_38 : decode cX9_check 38 = .ok (.aload_n 0, 1) := by decide +kernel
theorem dX9_check_39 : decode cX9_check 39 = .ok (.getfield 16, 3) := by decide +kernel
theorem dX9_check_42 : decode cX9_check 42 = .ok (.aload_n 0, 1) := by decide +kernel
theorem dX9_check_43 : decode cX9_check 43 = .ok (.getfield 45, 3) := by decide +kernel
theorem dX9_check_46 : decode cX9_check 46 = .ok (.iload_n 2, 1) := by decide +kernel
theorem dX9_check_47 : decode cX9_check 47 = .ok (.iload_n 1, 1) := by decide +kernel
theorem dX9_check_48 : decode cX9_check 48 = .ok (.invokevirtual 331, 3) := by decide +kernel
theorem dX9_check_51 : decode cX9_check 51 = .ok (.istore_n 3, 1) := by decide +kernel
theorem dX9_check_52 : decode cX9_check 52 = .ok (.iconst 2, 1) := by decide +kernel
theorem dX9_check_53 : decode cX9_check 53 = .ok (.iload_n 1, 1) := by decide +kernel
theorem dX9_check_54 : decode cX9_check 54 = .ok (.aload_n 0, 1) := by decide +kernel
theorem dX9_check_55 : decode cX9_check 55 = .ok (.getfield 16, 3) := by decide +kernel
theorem dX9_check_58 : decode cX9_check 58 = .ok (.invokevirtual 154, 3) := by decide +kernel
theorem dX9_check_61 : decode cX9_check 61 = .ok (.invokestatic 139, 3) := by decide +kernel
theorem dX9_check_64 : decode cX9_check 64 = .ok (.imul, 1) := by decide +kernel
theorem dX9_check_65 : decode cX9_check 65 = .ok (.istore 4, 2) := by decide +kernel
theorem dX9_check_67 : decode cX9_check 67 = .ok (.iload_n 3, 1) := by decide +kernel
theorem dX9_check_68 : decode cX9_check 68 = .ok (.iload 4, 2) := by decide +kernel
theorem dX9_check_70 : decode cX9_check 70 = .ok (.if_icmp .ne 13, 3) := by decide +kernel
theorem dX9_check_73 : decode cX9_check 73 = .ok (.iload_n 2, 1) := by decide +kernel
theorem dX9_check_74 : decode cX9_check 74 = .ok (.iload 4, 2) := by decide +kernel
theorem dX9_check_76 : decode cX9_check 76 = .ok (.if_icmp .ne 7, 3) := by decide +kernel
theorem dX9_check_79 : decode cX9_check 79 = .ok (.iconst 0, 1) := by decide +kernel
theorem dX9_check_80 : decode cX9_check 80 = .ok (.goto 6, 3) := by decide +kernel
theorem dX9_check_83 : decode cX9_check 83 = .ok (.iconst 1, 1) := by decide +kernel
theorem dX9_check_84 : decode cX9_check 84 = .ok (.iload_n 3, 1) := by decide +kernel
theorem dX9_check_85 : decode cX9_check 85 = .ok (.iadd, 1) := by decide +kernel
theorem dX9_check_86 : decode cX9_check 86 = .ok (.ireturn, 1) := by decide +kernel
theorem dX9_keep_0 : decode cX9_keep 0 = .ok (.aload_n 0, 1) := by decide +kernel
theorem dX9_keep_1 : decode cX9_keep 1 = .ok (.getfield 16, 3) := by decide +kernel
theorem dX9_keep_4 : decode cX9_keep 4 = .ok (.aload_n 0, 1) := by decide +kernel
theorem dX9_keep_5 : decode cX9_keep 5 = .ok (.getfield 10, 3) := by decide +kernel
theorem dX9_keep_8 : decode cX9_keep 8 = .ok (.invokevirtual 335, 3) := by decide +kernel
theorem dX9_keep_11 : decode cX9_keep 11 = .ok (.aload_n 0, 1) := by decide +kernel
theorem dX9_keep_12 : decode cX9_keep 12 = .ok (.iconst 1, 1) := by decide +kernel
theorem dX9_keep_13 : decode cX9_keep 13 = .ok (.putfield 327, 3) := by decide +kernel
theorem dX9_keep_16 : decode cX9_keep 16 = .ok (.aload_n 0, 1) := by decide +kernel
theorem dX9_keep_17 : decode cX9_keep 17 = .ok (.getfield 16, 3) := by decide +kernel
theorem dX9_keep_20 : decode cX9_keep 20 = .ok (.getfield 67, 3) := by decide +kernel
theorem dX9_keep_23 : decode cX9_keep 23 = .ok (.getfield 71, 3) := by decide +kernel
theorem dX9_keep_26 : decode cX9_keep 26 = .ok (.ireturn, 1) := by decide +kernel
theorem dX9_back_0 : decode cX9_back 0 = .ok (.aload_n 0, 1) := by decide +kernel
theorem dX9_back_1 : decode cX9_back 1 = .ok (.getfield 327, 3) := by decide +kernel
theorem dX9_back_4 : decode cX9_back 4 = .ok (.ifCond .ne 7, 3) := by decide +kernel
theorem dX9_back_7 : decode cX9_back 7 = .ok (.ldc_w 323, 3) := by decide +kernel
theorem dX9_back_10 : decode cX9_back 10 = .ok (.ireturn, 1) := by decide +kernel
theorem dX9_back_11 : decode cX9_back 11 = .ok (.aload_n 0, 1) := by decide +kernel
theorem dX9_back_12 : decode cX9_back 12 = .ok (.getfield 10, 3) := by decide +kernel
theorem dX9_back_15 : decode cX9_back 15 = .ok (.aload_n 0, 1) := by decide +kernel
theorem dX9_back_16 : decode cX9_back 16 = .ok (.getfield 16, 3) := by decide +kernel
theorem dX9_back_19 : decode cX9_back 19 = .ok (.invokevirtual 335, 3) := by decide +kernel
theorem dX9_back_22 : decode cX9_back 22 = .ok (.aload_n 0, 1) := by decide +kernel
theorem dX9_back_23 : decode cX9_back 23 = .ok (.getfield 10, 3) := by decide +kernel
theorem dX9_back_26 : decode cX9_back 26 = .ok (.getfield 67, 3) := by decide +kernel
theorem dX9_back_29 : decode cX9_back 29 = .ok (.getfield 71, 3) := by decide +kernel
theorem dX9_back_32 : decode cX9_back 32 = .ok (.ireturn, 1) := by decide +kernel
theorem dX9_count_0 : decode cX9_count 0 = .ok (.iload_n 1, 1) := by decide +kernel
theorem dX9_count_1 : decode cX9_count 1 = .ok (.tableswitch 132 0 8 #[51, 62, 73, 81, 92, 100, 111, 116, 124], 51) := by decide +kernel
theorem dX9_count_52 : decode cX9_count 52 = .ok (.aload_n 0, 1) := by decide +kernel
theorem dX9_count_53 : decode cX9_count 53 = .ok (.getfield 10, 3) := by decide +kernel
theorem dX9_count_56 : decode cX9_count 56 = .ok (.getfield 67, 3) := by decide +kernel
theorem dX9_count_59 : decode cX9_count 59 = .ok (.getfield 71, 3) := by decide +kernel
theorem dX9_count_62 : decode cX9_count 62 = .ok (.ireturn, 1) := by decide +kernel
theorem dX9_count_63 : decode cX9_count 63 = .ok (.aload_n 0, 1) := by decide +kernel
theorem dX9_count_64 : decode cX9_count 64 = .ok (.getfield 10, 3) := by decide +kernel
theorem dX9_count_67 : decode cX9_count 67 = .ok (.getfield 67, 3) := by decide +kernel
theorem dX9_count_70 : decode cX9_count 70 = .ok (.invokevirtual 160, 3) := by decide +kernel
theorem dX9_count_73 : decode cX9_count 73 = .ok (.ireturn, 1) := by decide +kernel
theorem dX9_count_74 : decode cX9_count 74 = .ok (.aload_n 0, 1) := by decide +kernel
theorem dX9_count_75 : decode cX9_count 75 = .ok (.getfield 10, 3) := by decide +kernel
theorem dX9_count_78 : decode cX9_count 78 = .ok (.getfield 229, 3) := by decide +kernel
theorem dX9_count_81 : decode cX9_count 81 = .ok (.ireturn, 1) := by decide +kernel
theorem dX9_count_82 : decode cX9_count 82 = .ok (.aload_n 0, 1) := by decide +kernel
theorem dX9_count_83 : decode cX9_count 83 = .ok (.getfield 10, 3) := by decide +kernel
theorem dX9_count_86 : decode cX9_count 86 = .ok (.getfield 118, 3) := by decide +kernel
theorem dX9_count_89 : decode cX9_count 89 = .ok (.bipush 8, 2) := by decide +kernel
theorem dX9_count_91 : decode cX9_count 91 = .ok (.iaload, 1) := by decide +kernel
theorem dX9_count_92 : decode cX9_count 92 = .ok (.ireturn, 1) := by decide +kernel
theorem dX9_count_93 : decode cX9_count 93 = .ok (.aload_n 0, 1) := by decide +kernel
theorem dX9_count_94 : decode cX9_count 94 = .ok (.getfield 10, 3) := by decide +kernel
theorem dX9_count_97 : decode cX9_count 97 = .ok (.invokevirtual 150, 3) := by decide +kernel
theorem dX9_count_100 : decode cX9_count 100 = .ok (.ireturn, 1) := by decide +kernel
theorem dX9_count_101 : decode cX9_count 101 = .ok (.aload_n 0, 1) := by decide +kernel
theorem dX9_count_102 : decode cX9_count 102 = .ok (.getfield 10, 3) := by decide +kernel
theorem dX9_count_105 : decode cX9_count 105 = .ok (.getfield 223, 3) := by decide +kernel
theorem dX9_count_108 : decode cX9_count 108 = .ok (.getfield 244, 3) := by decide +kernel
theorem dX9_count_111 : decode cX9_count 111 = .ok (.ireturn, 1) := by decide +kernel
theorem dX9_count_112 : decode cX9_count 112 = .ok (.aload_n 0, 1) := by decide +kernel
theorem dX9_count_113 : decode cX9_count 113 = .ok (.getfield 324, 3) := by decide +kernel
theorem dX9_count_116 : decode cX9_count 116 = .ok (.ireturn, 1) := by decide +kernel
theorem dX9_count_117 : decode cX9_count 117 = .ok (.aload_n 0, 1) := by decide +kernel
theorem dX9_count_118 : decode cX9_count 118 = .ok (.getfield 29, 3) := by decide +kernel
theorem dX9_count_121 : decode cX9_count 121 = .ok (.getfield 235, 3) := by decide +kernel
theorem dX9_count_124 : decode cX9_count 124 = .ok (.ireturn, 1) := by decide +kernel
theorem dX9_count_125 : decode cX9_count 125 = .ok (.aload_n 0, 1) := by decide +kernel
theorem dX9_count_126 : decode cX9_count 126 = .ok (.getfield 10, 3) := by decide +kernel
theorem dX9_count_129 : decode cX9_count 129 = .ok (.getfield 147, 3) := by decide +kernel
theorem dX9_count_132 : decode cX9_count 132 = .ok (.ireturn, 1) := by decide +kernel
theorem dX9_count_133 : decode cX9_count 133 = .ok (.ldc 66, 2) := by decide +kernel
theorem dX9_count_135 : decode cX9_count 135 = .ok (.ireturn, 1) := by decide +kernel
theorem dX9_isRoom_0 : decode cX9_isRoom 0 = .ok (.iload_n 0, 1) := by decide +kernel
theorem dX9_isRoom_1 : decode cX9_isRoom 1 = .ok (.iconst 0, 1) := by decide +kernel
theorem dX9_isRoom_2 : decode cX9_isRoom 2 = .ok (.bipush 7, 2) := by decide +kernel
theorem dX9_isRoom_4 : decode cX9_isRoom 4 = .ok (.invokestatic 60, 3) := by decide +kernel
theorem dX9_isRoom_7 : decode cX9_isRoom 7 = .ok (.ireturn, 1) := by decide +kernel
theorem dX9_isSheet_0 : decode cX9_isSheet 0 = .ok (.iload_n 0, 1) := by decide +kernel
theorem dX9_isSheet_1 : decode cX9_isSheet 1 = .ok (.iconst 0, 1) := by decide +kernel
theorem dX9_isSheet_2 : decode cX9_isSheet 2 = .ok (.iconst 3, 1) := by decide +kernel
theorem dX9_isSheet_3 : decode cX9_isSheet 3 = .ok (.invokestatic 60, 3) := by decide +kernel
theorem dX9_isSheet_6 : decode cX9_isSheet 6 = .ok (.ireturn, 1) := by decide +kernel
theorem dX9_isSlot_0 : decode cX9_isSlot 0 = .ok (.iload_n 0, 1) := by decide +kernel
theorem dX9_isSlot_1 : decode cX9_isSlot 1 = .ok (.iconst 0, 1) := by decide +kernel
theorem dX9_isSlot_2 : decode cX9_isSlot 2 = .ok (.iconst 4, 1) := by decide +kernel
theorem dX9_isSlot_3 : decode cX9_isSlot 3 = .ok (.invokestatic 60, 3) := by decide +kernel
theorem dX9_isSlot_6 : decode cX9_isSlot 6 = .ok (.ireturn, 1) := by decide +kernel
theorem dX9_isWithin_0 : decode cX9_isWithin 0 = .ok (.iload_n 0, 1) := by decide +kernel
theorem dX9_isWithin_1 : decode cX9_isWithin 1 = .ok (.iload_n 1, 1) := by decide +kernel
theorem dX9_isWithin_2 : decode cX9_isWithin 2 = .ok (.if_icmp .lt 12, 3) := by decide +kernel
theorem dX9_isWithin_5 : decode cX9_isWithin 5 = .ok (.iload_n 0, 1) := by decide +kernel
theorem dX9_isWithin_6 : decode cX9_isWithin 6 = .ok (.iload_n 2, 1) := by decide +kernel
theorem dX9_isWithin_7 : decode cX9_isWithin 7 = .ok (.if_icmp .gt 7, 3) := by decide +kernel
theorem dX9_isWithin_10 : decode cX9_isWithin 10 = .ok (.iconst 1, 1) := by decide +kernel
theorem dX9_isWithin_11 : decode cX9_isWithin 11 = .ok (.goto 4, 3) := by decide +kernel
theorem dX9_isWithin_14 : decode cX9_isWithin 14 = .ok (.iconst 0, 1) := by decide +kernel
theorem dX9_isWithin_15 : decode cX9_isWithin 15 = .ok (.ireturn, 1) := by decide +kernel
theorem dX9_heldWithin_0 : decode cX9_heldWithin 0 = .ok (.iload_n 1, 1) := by decide +kernel
theorem dX9_heldWithin_1 : decode cX9_heldWithin 1 = .ok (.iload_n 2, 1) := by decide +kernel
theorem dX9_heldWithin_2 : decode cX9_heldWithin 2 = .ok (.iload_n 0, 1) := by decide +kernel
theorem dX9_heldWithin_3 : decode cX9_heldWithin 3 = .ok (.invokestatic 139, 3) := by decide +kernel
theorem dX9_heldWithin_6 : decode cX9_heldWithin 6 = .ok (.invokestatic 338, 3) := by decide +kernel
theorem dX9_heldWithin_9 : decode cX9_heldWithin 9 = .ok (.ireturn, 1) := by decide +kernel
