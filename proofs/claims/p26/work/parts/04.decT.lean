theorem d_T_init_0 : decode b_T_init 0 = .ok (.aload_n 0, 1) := by decide +kernel
theorem d_T_init_1 : decode b_T_init 1 = .ok (.invokespecial 1, 3) := by decide +kernel
theorem d_T_init_4 : decode b_T_init 4 = .ok (.aload_n 0, 1) := by decide +kernel
theorem d_T_init_5 : decode b_T_init 5 = .ok (.new 7, 3) := by decide +kernel
theorem d_T_init_8 : decode b_T_init 8 = .ok (.dup, 1) := by decide +kernel
theorem d_T_init_9 : decode b_T_init 9 = .ok (.invokespecial 9, 3) := by decide +kernel
theorem d_T_init_12 : decode b_T_init 12 = .ok (.putfield 10, 3) := by decide +kernel
theorem d_T_init_15 : decode b_T_init 15 = .ok (.aload_n 0, 1) := by decide +kernel
theorem d_T_init_16 : decode b_T_init 16 = .ok (.bipush 8, 2) := by decide +kernel
theorem d_T_init_18 : decode b_T_init 18 = .ok (.anewarray 16, 3) := by decide +kernel
theorem d_T_init_21 : decode b_T_init 21 = .ok (.putfield 18, 3) := by decide +kernel
theorem d_T_init_24 : decode b_T_init 24 = .ok (.iconst 0, 1) := by decide +kernel
theorem d_T_init_25 : decode b_T_init 25 = .ok (.istore_n 1, 1) := by decide +kernel
theorem d_T_init_26 : decode b_T_init 26 = .ok (.iload_n 1, 1) := by decide +kernel
theorem d_T_init_27 : decode b_T_init 27 = .ok (.bipush 8, 2) := by decide +kernel
theorem d_T_init_29 : decode b_T_init 29 = .ok (.if_icmp .ge 22, 3) := by decide +kernel
theorem d_T_init_32 : decode b_T_init 32 = .ok (.aload_n 0, 1) := by decide +kernel
theorem d_T_init_33 : decode b_T_init 33 = .ok (.getfield 18, 3) := by decide +kernel
theorem d_T_init_36 : decode b_T_init 36 = .ok (.iload_n 1, 1) := by decide +kernel
theorem d_T_init_37 : decode b_T_init 37 = .ok (.new 16, 3) := by decide +kernel
theorem d_T_init_40 : decode b_T_init 40 = .ok (.dup, 1) := by decide +kernel
theorem d_T_init_41 : decode b_T_init 41 = .ok (.invokespecial 22, 3) := by decide +kernel
theorem d_T_init_44 : decode b_T_init 44 = .ok (.aastore, 1) := by decide +kernel
theorem d_T_init_45 : decode b_T_init 45 = .ok (.iinc 1 1, 3) := by decide +kernel
theorem d_T_init_48 : decode b_T_init 48 = .ok (.goto (-22), 3) := by decide +kernel
theorem d_T_init_51 : decode b_T_init 51 = .ok (.aload_n 0, 1) := by decide +kernel
theorem d_T_init_52 : decode b_T_init 52 = .ok (.iconst 4, 1) := by decide +kernel
theorem d_T_init_53 : decode b_T_init 53 = .ok (.anewarray 23, 3) := by decide +kernel
theorem d_T_init_56 : decode b_T_init 56 = .ok (.putfield 25, 3) := by decide +kernel
theorem d_T_init_59 : decode b_T_init 59 = .ok (.iconst 0, 1) := by decide +kernel
theorem d_T_init_60 : decode b_T_init 60 = .ok (.istore_n 1, 1) := by decide +kernel
theorem d_T_init_61 : decode b_T_init 61 = .ok (.iload_n 1, 1) := by decide +kernel
theorem d_T_init_62 : decode b_T_init 62 = .ok (.iconst 4, 1) := by decide +kernel
theorem d_T_init_63 : decode b_T_init 63 = .ok (.if_icmp .ge 22, 3) := by decide +kernel
theorem d_T_init_66 : decode b_T_init 66 = .ok (.aload_n 0, 1) := by decide +kernel
theorem d_T_init_67 : decode b_T_init 67 = .ok (.getfield 25, 3) := by decide +kernel
theorem d_T_init_70 : decode b_T_init 70 = .ok (.iload_n 1, 1) := by decide +kernel
theorem d_T_init_71 : decode b_T_init 71 = .ok (.new 23, 3) := by decide +kernel
theorem d_T_init_74 : decode b_T_init 74 = .ok (.dup, 1) := by decide +kernel
theorem d_T_init_75 : decode b_T_init 75 = .ok (.invokespecial 29, 3) := by decide +kernel
theorem d_T_init_78 : decode b_T_init 78 = .ok (.aastore, 1) := by decide +kernel
theorem d_T_init_79 : decode b_T_init 79 = .ok (.iinc 1 1, 3) := by decide +kernel
theorem d_T_init_82 : decode b_T_init 82 = .ok (.goto (-21), 3) := by decide +kernel
theorem d_T_init_85 : decode b_T_init 85 = .ok (.aload_n 0, 1) := by decide +kernel
theorem d_T_init_86 : decode b_T_init 86 = .ok (.bipush 8, 2) := by decide +kernel
theorem d_T_init_88 : decode b_T_init 88 = .ok (.anewarray 30, 3) := by decide +kernel
theorem d_T_init_91 : decode b_T_init 91 = .ok (.putfield 32, 3) := by decide +kernel
theorem d_T_init_94 : decode b_T_init 94 = .ok (.iconst 0, 1) := by decide +kernel
theorem d_T_init_95 : decode b_T_init 95 = .ok (.istore_n 1, 1) := by decide +kernel
theorem d_T_init_96 : decode b_T_init 96 = .ok (.iload_n 1, 1) := by decide +kernel
theorem d_T_init_97 : decode b_T_init 97 = .ok (.bipush 8, 2) := by decide +kernel
theorem d_T_init_99 : decode b_T_init 99 = .ok (.if_icmp .ge 22, 3) := by decide +kernel
theorem d_T_init_102 : decode b_T_init 102 = .ok (.aload_n 0, 1) := by decide +kernel
theorem d_T_init_103 : decode b_T_init 103 = .ok (.getfield 32, 3) := by decide +kernel
theorem d_T_init_106 : decode b_T_init 106 = .ok (.iload_n 1, 1) := by decide +kernel
theorem d_T_init_107 : decode b_T_init 107 = .ok (.new 30, 3) := by decide +kernel
theorem d_T_init_110 : decode b_T_init 110 = .ok (.dup, 1) := by decide +kernel
theorem d_T_init_111 : decode b_T_init 111 = .ok (.invokespecial 36, 3) := by decide +kernel
theorem d_T_init_114 : decode b_T_init 114 = .ok (.aastore, 1) := by decide +kernel
theorem d_T_init_115 : decode b_T_init 115 = .ok (.iinc 1 1, 3) := by decide +kernel
theorem d_T_init_118 : decode b_T_init 118 = .ok (.goto (-22), 3) := by decide +kernel
theorem d_T_init_121 : decode b_T_init 121 = .ok (.aload_n 0, 1) := by decide +kernel
theorem d_T_init_122 : decode b_T_init 122 = .ok (.iconst 0, 1) := by decide +kernel
theorem d_T_init_123 : decode b_T_init 123 = .ok (.putfield 37, 3) := by decide +kernel
theorem d_T_init_126 : decode b_T_init 126 = .ok (.return_, 1) := by decide +kernel
theorem d_F_init_0 : decode b_F_init 0 = .ok (.aload_n 0, 1) := by decide +kernel
theorem d_F_init_1 : decode b_F_init 1 = .ok (.invokespecial 3, 3) := by decide +kernel
theorem d_F_init_4 : decode b_F_init 4 = .ok (.aload_n 0, 1) := by decide +kernel
theorem d_F_init_5 : decode b_F_init 5 = .ok (.bipush 12, 2) := by decide +kernel
theorem d_F_init_7 : decode b_F_init 7 = .ok (.newarray .int, 2) := by decide +kernel
theorem d_F_init_9 : decode b_F_init 9 = .ok (.putfield 9, 3) := by decide +kernel
theorem d_F_init_12 : decode b_F_init 12 = .ok (.aload_n 0, 1) := by decide +kernel
theorem d_F_init_13 : decode b_F_init 13 = .ok (.iconst 0, 1) := by decide +kernel
theorem d_F_init_14 : decode b_F_init 14 = .ok (.putfield 15, 3) := by decide +kernel
theorem d_F_init_17 : decode b_F_init 17 = .ok (.return_, 1) := by decide +kernel
theorem d_D_init_0 : decode b_D_init 0 = .ok (.aload_n 0, 1) := by decide +kernel
theorem d_D_init_1 : decode b_D_init 1 = .ok (.invokespecial 3, 3) := by decide +kernel
theorem d_D_init_4 : decode b_D_init 4 = .ok (.aload_n 0, 1) := by decide +kernel
theorem d_D_init_5 : decode b_D_init 5 = .ok (.bipush 12, 2) := by decide +kernel
theorem d_D_init_7 : decode b_D_init 7 = .ok (.newarray .int, 2) := by decide +kernel
theorem d_D_init_9 : decode b_D_init 9 = .ok (.putfield 9, 3) := by decide +kernel
theorem d_D_init_12 : decode b_D_init 12 = .ok (.aload_n 0, 1) := by decide +kernel
theorem d_D_init_13 : decode b_D_init 13 = .ok (.bipush 12, 2) := by decide +kernel
theorem d_D_init_15 : decode b_D_init 15 = .ok (.newarray .int, 2) := by decide +kernel
theorem d_D_init_17 : decode b_D_init 17 = .ok (.putfield 15, 3) := by decide +kernel
theorem d_D_init_20 : decode b_D_init 20 = .ok (.aload_n 0, 1) := by decide +kernel
theorem d_D_init_21 : decode b_D_init 21 = .ok (.bipush 12, 2) := by decide +kernel
theorem d_D_init_23 : decode b_D_init 23 = .ok (.newarray .int, 2) := by decide +kernel
theorem d_D_init_25 : decode b_D_init 25 = .ok (.putfield 18, 3) := by decide +kernel
theorem d_D_init_28 : decode b_D_init 28 = .ok (.iconst 0, 1) := by decide +kernel
theorem d_D_init_29 : decode b_D_init 29 = .ok (.istore_n 1, 1) := by decide +kernel
theorem d_D_init_30 : decode b_D_init 30 = .ok (.iload_n 1, 1) := by decide +kernel
theorem d_D_init_31 : decode b_D_init 31 = .ok (.bipush 12, 2) := by decide +kernel
theorem d_D_init_33 : decode b_D_init 33 = .ok (.if_icmp .ge 30, 3) := by decide +kernel
theorem d_D_init_36 : decode b_D_init 36 = .ok (.aload_n 0, 1) := by decide +kernel
theorem d_D_init_37 : decode b_D_init 37 = .ok (.getfield 9, 3) := by decide +kernel
theorem d_D_init_40 : decode b_D_init 40 = .ok (.iload_n 1, 1) := by decide +kernel
theorem d_D_init_41 : decode b_D_init 41 = .ok (.iconst (-1), 1) := by decide +kernel
theorem d_D_init_42 : decode b_D_init 42 = .ok (.iastore, 1) := by decide +kernel
theorem d_D_init_43 : decode b_D_init 43 = .ok (.aload_n 0, 1) := by decide +kernel
theorem d_D_init_44 : decode b_D_init 44 = .ok (.getfield 15, 3) := by decide +kernel
theorem d_D_init_47 : decode b_D_init 47 = .ok (.iload_n 1, 1) := by decide +kernel
theorem d_D_init_48 : decode b_D_init 48 = .ok (.iconst (-1), 1) := by decide +kernel
theorem d_D_init_49 : decode b_D_init 49 = .ok (.iastore, 1) := by decide +kernel
theorem d_D_init_50 : decode b_D_init 50 = .ok (.aload_n 0, 1) := by decide +kernel
theorem d_D_init_51 : decode b_D_init 51 = .ok (.getfield 18, 3) := by decide +kernel
theorem d_D_init_54 : decode b_D_init 54 = .ok (.iload_n 1, 1) := by decide +kernel
theorem d_D_init_55 : decode b_D_init 55 = .ok (.iconst 0, 1) := by decide +kernel
theorem d_D_init_56 : decode b_D_init 56 = .ok (.iastore, 1) := by decide +kernel
theorem d_D_init_57 : decode b_D_init 57 = .ok (.iinc 1 1, 3) := by decide +kernel
theorem d_D_init_60 : decode b_D_init 60 = .ok (.goto (-30), 3) := by decide +kernel
theorem d_D_init_63 : decode b_D_init 63 = .ok (.return_, 1) := by decide +kernel
theorem d_G_init_0 : decode b_G_init 0 = .ok (.aload_n 0, 1) := by decide +kernel
theorem d_G_init_1 : decode b_G_init 1 = .ok (.invokespecial 3, 3) := by decide +kernel
theorem d_G_init_4 : decode b_G_init 4 = .ok (.aload_n 0, 1) := by decide +kernel
theorem d_G_init_5 : decode b_G_init 5 = .ok (.iconst 0, 1) := by decide +kernel
theorem d_G_init_6 : decode b_G_init 6 = .ok (.putfield 9, 3) := by decide +kernel
theorem d_G_init_9 : decode b_G_init 9 = .ok (.aload_n 0, 1) := by decide +kernel
theorem d_G_init_10 : decode b_G_init 10 = .ok (.iconst 0, 1) := by decide +kernel
theorem d_G_init_11 : decode b_G_init 11 = .ok (.putfield 15, 3) := by decide +kernel
theorem d_G_init_14 : decode b_G_init 14 = .ok (.aload_n 0, 1) := by decide +kernel
theorem d_G_init_15 : decode b_G_init 15 = .ok (.bipush 99, 2) := by decide +kernel
theorem d_G_init_17 : decode b_G_init 17 = .ok (.putfield 18, 3) := by decide +kernel
theorem d_G_init_20 : decode b_G_init 20 = .ok (.return_, 1) := by decide +kernel
theorem d_J_init_0 : decode b_J_init 0 = .ok (.aload_n 0, 1) := by decide +kernel
theorem d_J_init_1 : decode b_J_init 1 = .ok (.invokespecial 3, 3) := by decide +kernel
theorem d_J_init_4 : decode b_J_init 4 = .ok (.aload_n 0, 1) := by decide +kernel
theorem d_J_init_5 : decode b_J_init 5 = .ok (.iconst 0, 1) := by decide +kernel
theorem d_J_init_6 : decode b_J_init 6 = .ok (.putfield 9, 3) := by decide +kernel
theorem d_J_init_9 : decode b_J_init 9 = .ok (.return_, 1) := by decide +kernel
theorem d_T_put_0 : decode b_T_put 0 = .ok (.iload_n 1, 1) := by decide +kernel
theorem d_T_put_1 : decode b_T_put 1 = .ok (.invokestatic 41, 3) := by decide +kernel
theorem d_T_put_4 : decode b_T_put 4 = .ok (.iload_n 2, 1) := by decide +kernel
theorem d_T_put_5 : decode b_T_put 5 = .ok (.iconst (-1), 1) := by decide +kernel
theorem d_T_put_6 : decode b_T_put 6 = .ok (.if_icmp .eq 10, 3) := by decide +kernel
theorem d_T_put_9 : decode b_T_put 9 = .ok (.iload_n 2, 1) := by decide +kernel
theorem d_T_put_10 : decode b_T_put 10 = .ok (.iconst 0, 1) := by decide +kernel
theorem d_T_put_11 : decode b_T_put 11 = .ok (.bipush 99, 2) := by decide +kernel
theorem d_T_put_13 : decode b_T_put 13 = .ok (.invokestatic 45, 3) := by decide +kernel
theorem d_T_put_16 : decode b_T_put 16 = .ok (.aload_n 0, 1) := by decide +kernel
theorem d_T_put_17 : decode b_T_put 17 = .ok (.getfield 10, 3) := by decide +kernel
theorem d_T_put_20 : decode b_T_put 20 = .ok (.iload_n 1, 1) := by decide +kernel
theorem d_T_put_21 : decode b_T_put 21 = .ok (.iload_n 2, 1) := by decide +kernel
theorem d_T_put_22 : decode b_T_put 22 = .ok (.invokevirtual 49, 3) := by decide +kernel
theorem d_T_put_25 : decode b_T_put 25 = .ok (.aload_n 0, 1) := by decide +kernel
theorem d_T_put_26 : decode b_T_put 26 = .ok (.getfield 10, 3) := by decide +kernel
theorem d_T_put_29 : decode b_T_put 29 = .ok (.invokevirtual 53, 3) := by decide +kernel
theorem d_T_put_32 : decode b_T_put 32 = .ok (.ireturn, 1) := by decide +kernel
theorem d_T_requireLeaf_0 : decode b_T_requireLeaf 0 = .ok (.iload_n 0, 1) := by decide +kernel
theorem d_T_requireLeaf_1 : decode b_T_requireLeaf 1 = .ok (.ifCond .lt 9, 3) := by decide +kernel
theorem d_T_requireLeaf_4 : decode b_T_requireLeaf 4 = .ok (.iload_n 0, 1) := by decide +kernel
theorem d_T_requireLeaf_5 : decode b_T_requireLeaf 5 = .ok (.bipush 12, 2) := by decide +kernel
theorem d_T_requireLeaf_7 : decode b_T_requireLeaf 7 = .ok (.if_icmp .lt 13, 3) := by decide +kernel
theorem d_T_requireLeaf_10 : decode b_T_requireLeaf 10 = .ok (.new 57, 3) := by decide +kernel
theorem d_T_requireLeaf_13 : decode b_T_requireLeaf 13 = .ok (.dup, 1) := by decide +kernel
theorem d_T_requireLeaf_14 : decode b_T_requireLeaf 14 = .ok (.ldc 204, 2) := by decide +kernel
theorem d_T_requireLeaf_16 : decode b_T_requireLeaf 16 = .ok (.invokespecial 61, 3) := by decide +kernel
theorem d_T_requireLeaf_19 : decode b_T_requireLeaf 19 = .ok (.athrow, 1) := by decide +kernel
theorem d_T_requireLeaf_20 : decode b_T_requireLeaf 20 = .ok (.return_, 1) := by decide +kernel
theorem d_T_requireInRange_0 : decode b_T_requireInRange 0 = .ok (.iload_n 0, 1) := by decide +kernel
theorem d_T_requireInRange_1 : decode b_T_requireInRange 1 = .ok (.iload_n 1, 1) := by decide +kernel
theorem d_T_requireInRange_2 : decode b_T_requireInRange 2 = .ok (.if_icmp .lt 8, 3) := by decide +kernel
theorem d_T_requireInRange_5 : decode b_T_requireInRange 5 = .ok (.iload_n 0, 1) := by decide +kernel
theorem d_T_requireInRange_6 : decode b_T_requireInRange 6 = .ok (.iload_n 2, 1) := by decide +kernel
theorem d_T_requireInRange_7 : decode b_T_requireInRange 7 = .ok (.if_icmp .le 13, 3) := by decide +kernel
theorem d_T_requireInRange_10 : decode b_T_requireInRange 10 = .ok (.new 206, 3) := by decide +kernel
theorem d_T_requireInRange_13 : decode b_T_requireInRange 13 = .ok (.dup, 1) := by decide +kernel
theorem d_T_requireInRange_14 : decode b_T_requireInRange 14 = .ok (.ldc 208, 2) := by decide +kernel
theorem d_T_requireInRange_16 : decode b_T_requireInRange 16 = .ok (.invokespecial 210, 3) := by decide +kernel
theorem d_T_requireInRange_19 : decode b_T_requireInRange 19 = .ok (.athrow, 1) := by decide +kernel
theorem d_T_requireInRange_20 : decode b_T_requireInRange 20 = .ok (.return_, 1) := by decide +kernel
theorem d_F_assign_0 : decode b_F_assign 0 = .ok (.aload_n 0, 1) := by decide +kernel
theorem d_F_assign_1 : decode b_F_assign 1 = .ok (.getfield 9, 3) := by decide +kernel
theorem d_F_assign_4 : decode b_F_assign 4 = .ok (.iload_n 1, 1) := by decide +kernel
theorem d_F_assign_5 : decode b_F_assign 5 = .ok (.iload_n 2, 1) := by decide +kernel
theorem d_F_assign_6 : decode b_F_assign 6 = .ok (.iastore, 1) := by decide +kernel
theorem d_F_assign_7 : decode b_F_assign 7 = .ok (.aload_n 0, 1) := by decide +kernel
theorem d_F_assign_8 : decode b_F_assign 8 = .ok (.dup, 1) := by decide +kernel
theorem d_F_assign_9 : decode b_F_assign 9 = .ok (.getfield 15, 3) := by decide +kernel
theorem d_F_assign_12 : decode b_F_assign 12 = .ok (.iconst 1, 1) := by decide +kernel
theorem d_F_assign_13 : decode b_F_assign 13 = .ok (.iload_n 1, 1) := by decide +kernel
theorem d_F_assign_14 : decode b_F_assign 14 = .ok (.ishl, 1) := by decide +kernel
theorem d_F_assign_15 : decode b_F_assign 15 = .ok (.ior, 1) := by decide +kernel
theorem d_F_assign_16 : decode b_F_assign 16 = .ok (.putfield 15, 3) := by decide +kernel
theorem d_F_assign_19 : decode b_F_assign 19 = .ok (.return_, 1) := by decide +kernel
theorem d_F_count_0 : decode b_F_count 0 = .ok (.aload_n 0, 1) := by decide +kernel
theorem d_F_count_1 : decode b_F_count 1 = .ok (.getfield 15, 3) := by decide +kernel
theorem d_F_count_4 : decode b_F_count 4 = .ok (.invokestatic 19, 3) := by decide +kernel
theorem d_F_count_7 : decode b_F_count 7 = .ok (.ireturn, 1) := by decide +kernel
theorem d_I_bitCount_0 : decode b_I_bitCount 0 = .ok (.iload_n 0, 1) := by decide +kernel
theorem d_I_bitCount_1 : decode b_I_bitCount 1 = .ok (.iload_n 0, 1) := by decide +kernel
theorem d_I_bitCount_2 : decode b_I_bitCount 2 = .ok (.iconst 1, 1) := by decide +kernel
theorem d_I_bitCount_3 : decode b_I_bitCount 3 = .ok (.iushr, 1) := by decide +kernel
theorem d_I_bitCount_4 : decode b_I_bitCount 4 = .ok (.ldc_w 265, 3) := by decide +kernel
theorem d_I_bitCount_7 : decode b_I_bitCount 7 = .ok (.iand, 1) := by decide +kernel
theorem d_I_bitCount_8 : decode b_I_bitCount 8 = .ok (.isub, 1) := by decide +kernel
theorem d_I_bitCount_9 : decode b_I_bitCount 9 = .ok (.istore_n 0, 1) := by decide +kernel
theorem d_I_bitCount_10 : decode b_I_bitCount 10 = .ok (.iload_n 0, 1) := by decide +kernel
theorem d_I_bitCount_11 : decode b_I_bitCount 11 = .ok (.ldc_w 266, 3) := by decide +kernel
theorem d_I_bitCount_14 : decode b_I_bitCount 14 = .ok (.iand, 1) := by decide +kernel
theorem d_I_bitCount_15 : decode b_I_bitCount 15 = .ok (.iload_n 0, 1) := by decide +kernel
theorem d_I_bitCount_16 : decode b_I_bitCount 16 = .ok (.iconst 2, 1) := by decide +kernel
theorem d_I_bitCount_17 : decode b_I_bitCount 17 = .ok (.iushr, 1) := by decide +kernel
theorem d_I_bitCount_18 : decode b_I_bitCount 18 = .ok (.ldc_w 266, 3) := by decide +kernel
theorem d_I_bitCount_21 : decode b_I_bitCount 21 = .ok (.iand, 1) := by decide +kernel
theorem d_I_bitCount_22 : decode b_I_bitCount 22 = .ok (.iadd, 1) := by decide +kernel
theorem d_I_bitCount_23 : decode b_I_bitCount 23 = .ok (.istore_n 0, 1) := by decide +kernel
theorem d_I_bitCount_24 : decode b_I_bitCount 24 = .ok (.iload_n 0, 1) := by decide +kernel
theorem d_I_bitCount_25 : decode b_I_bitCount 25 = .ok (.iload_n 0, 1) := by decide +kernel
theorem d_I_bitCount_26 : decode b_I_bitCount 26 = .ok (.iconst 4, 1) := by decide +kernel
theorem d_I_bitCount_27 : decode b_I_bitCount 27 = .ok (.iushr, 1) := by decide +kernel
theorem d_I_bitCount_28 : decode b_I_bitCount 28 = .ok (.iadd, 1) := by decide +kernel
theorem d_I_bitCount_29 : decode b_I_bitCount 29 = .ok (.ldc_w 267, 3) := by decide +kernel
theorem d_I_bitCount_32 : decode b_I_bitCount 32 = .ok (.iand, 1) := by decide +kernel
theorem d_I_bitCount_33 : decode b_I_bitCount 33 = .ok (.istore_n 0, 1) := by decide +kernel
theorem d_I_bitCount_34 : decode b_I_bitCount 34 = .ok (.iload_n 0, 1) := by decide +kernel
theorem d_I_bitCount_35 : decode b_I_bitCount 35 = .ok (.iload_n 0, 1) := by decide +kernel
theorem d_I_bitCount_36 : decode b_I_bitCount 36 = .ok (.bipush 8, 2) := by decide +kernel
theorem d_I_bitCount_38 : decode b_I_bitCount 38 = .ok (.iushr, 1) := by decide +kernel
theorem d_I_bitCount_39 : decode b_I_bitCount 39 = .ok (.iadd, 1) := by decide +kernel
theorem d_I_bitCount_40 : decode b_I_bitCount 40 = .ok (.istore_n 0, 1) := by decide +kernel
theorem d_I_bitCount_41 : decode b_I_bitCount 41 = .ok (.iload_n 0, 1) := by decide +kernel
theorem d_I_bitCount_42 : decode b_I_bitCount 42 = .ok (.iload_n 0, 1) := by decide +kernel
theorem d_I_bitCount_43 : decode b_I_bitCount 43 = .ok (.bipush 16, 2) := by decide +kernel
theorem d_I_bitCount_45 : decode b_I_bitCount 45 = .ok (.iushr, 1) := by decide +kernel
theorem d_I_bitCount_46 : decode b_I_bitCount 46 = .ok (.iadd, 1) := by decide +kernel
theorem d_I_bitCount_47 : decode b_I_bitCount 47 = .ok (.istore_n 0, 1) := by decide +kernel
theorem d_I_bitCount_48 : decode b_I_bitCount 48 = .ok (.iload_n 0, 1) := by decide +kernel
theorem d_I_bitCount_49 : decode b_I_bitCount 49 = .ok (.bipush 63, 2) := by decide +kernel
theorem d_I_bitCount_51 : decode b_I_bitCount 51 = .ok (.iand, 1) := by decide +kernel
theorem d_I_bitCount_52 : decode b_I_bitCount 52 = .ok (.ireturn, 1) := by decide +kernel
theorem d_T_drop_0 : decode b_T_drop 0 = .ok (.iload_n 1, 1) := by decide +kernel
theorem d_T_drop_1 : decode b_T_drop 1 = .ok (.ifCond .lt 8, 3) := by decide +kernel
theorem d_T_drop_4 : decode b_T_drop 4 = .ok (.iload_n 1, 1) := by decide +kernel
theorem d_T_drop_5 : decode b_T_drop 5 = .ok (.iconst 3, 1) := by decide +kernel
theorem d_T_drop_6 : decode b_T_drop 6 = .ok (.if_icmp .lt 13, 3) := by decide +kernel
theorem d_T_drop_9 : decode b_T_drop 9 = .ok (.new 57, 3) := by decide +kernel
theorem d_T_drop_12 : decode b_T_drop 12 = .ok (.dup, 1) := by decide +kernel
theorem d_T_drop_13 : decode b_T_drop 13 = .ok (.ldc 59, 2) := by decide +kernel
theorem d_T_drop_15 : decode b_T_drop 15 = .ok (.invokespecial 61, 3) := by decide +kernel
theorem d_T_drop_18 : decode b_T_drop 18 = .ok (.athrow, 1) := by decide +kernel
theorem d_T_drop_19 : decode b_T_drop 19 = .ok (.iload_n 1, 1) := by decide +kernel
theorem d_T_drop_20 : decode b_T_drop 20 = .ok (.iconst 4, 1) := by decide +kernel
theorem d_T_drop_21 : decode b_T_drop 21 = .ok (.imul, 1) := by decide +kernel
theorem d_T_drop_22 : decode b_T_drop 22 = .ok (.istore_n 2, 1) := by decide +kernel
theorem d_T_drop_23 : decode b_T_drop 23 = .ok (.iload_n 2, 1) := by decide +kernel
theorem d_T_drop_24 : decode b_T_drop 24 = .ok (.istore_n 3, 1) := by decide +kernel
theorem d_T_drop_25 : decode b_T_drop 25 = .ok (.iload_n 3, 1) := by decide +kernel
theorem d_T_drop_26 : decode b_T_drop 26 = .ok (.iload_n 2, 1) := by decide +kernel
theorem d_T_drop_27 : decode b_T_drop 27 = .ok (.iconst 4, 1) := by decide +kernel
theorem d_T_drop_28 : decode b_T_drop 28 = .ok (.iadd, 1) := by decide +kernel
theorem d_T_drop_29 : decode b_T_drop 29 = .ok (.if_icmp .ge 18, 3) := by decide +kernel
theorem d_T_drop_32 : decode b_T_drop 32 = .ok (.aload_n 0, 1) := by decide +kernel
theorem d_T_drop_33 : decode b_T_drop 33 = .ok (.getfield 10, 3) := by decide +kernel
theorem d_T_drop_36 : decode b_T_drop 36 = .ok (.iload_n 3, 1) := by decide +kernel
theorem d_T_drop_37 : decode b_T_drop 37 = .ok (.iconst (-1), 1) := by decide +kernel
theorem d_T_drop_38 : decode b_T_drop 38 = .ok (.invokevirtual 49, 3) := by decide +kernel
theorem d_T_drop_41 : decode b_T_drop 41 = .ok (.iinc 3 1, 3) := by decide +kernel
theorem d_T_drop_44 : decode b_T_drop 44 = .ok (.goto (-19), 3) := by decide +kernel
theorem d_T_drop_47 : decode b_T_drop 47 = .ok (.aload_n 0, 1) := by decide +kernel
theorem d_T_drop_48 : decode b_T_drop 48 = .ok (.getfield 10, 3) := by decide +kernel
theorem d_T_drop_51 : decode b_T_drop 51 = .ok (.invokevirtual 53, 3) := by decide +kernel
theorem d_T_drop_54 : decode b_T_drop 54 = .ok (.ireturn, 1) := by decide +kernel
theorem d_T_wish_0 : decode b_T_wish 0 = .ok (.aload_n 0, 1) := by decide +kernel
theorem d_T_wish_1 : decode b_T_wish 1 = .ok (.iload_n 1, 1) := by decide +kernel
theorem d_T_wish_2 : decode b_T_wish 2 = .ok (.invokevirtual 64, 3) := by decide +kernel
theorem d_T_wish_5 : decode b_T_wish 5 = .ok (.astore_n 3, 1) := by decide +kernel
theorem d_T_wish_6 : decode b_T_wish 6 = .ok (.aload_n 0, 1) := by decide +kernel
theorem d_T_wish_7 : decode b_T_wish 7 = .ok (.getfield 10, 3) := by decide +kernel
theorem d_T_wish_10 : decode b_T_wish 10 = .ok (.invokevirtual 53, 3) := by decide +kernel
theorem d_T_wish_13 : decode b_T_wish 13 = .ok (.ifCond .ne 13, 3) := by decide +kernel
theorem d_T_wish_16 : decode b_T_wish 16 = .ok (.new 68, 3) := by decide +kernel
theorem d_T_wish_19 : decode b_T_wish 19 = .ok (.dup, 1) := by decide +kernel
theorem d_T_wish_20 : decode b_T_wish 20 = .ok (.ldc 70, 2) := by decide +kernel
theorem d_T_wish_22 : decode b_T_wish 22 = .ok (.invokespecial 72, 3) := by decide +kernel
theorem d_T_wish_25 : decode b_T_wish 25 = .ok (.athrow, 1) := by decide +kernel
theorem d_T_wish_26 : decode b_T_wish 26 = .ok (.iload_n 2, 1) := by decide +kernel
theorem d_T_wish_27 : decode b_T_wish 27 = .ok (.iconst (-1), 1) := by decide +kernel
theorem d_T_wish_28 : decode b_T_wish 28 = .ok (.if_icmp .eq 21, 3) := by decide +kernel
theorem d_T_wish_31 : decode b_T_wish 31 = .ok (.iload_n 2, 1) := by decide +kernel
theorem d_T_wish_32 : decode b_T_wish 32 = .ok (.aload_n 3, 1) := by decide +kernel
theorem d_T_wish_33 : decode b_T_wish 33 = .ok (.getfield 73, 3) := by decide +kernel
theorem d_T_wish_36 : decode b_T_wish 36 = .ok (.if_icmp .eq 13, 3) := by decide +kernel
theorem d_T_wish_39 : decode b_T_wish 39 = .ok (.new 68, 3) := by decide +kernel
theorem d_T_wish_42 : decode b_T_wish 42 = .ok (.dup, 1) := by decide +kernel
theorem d_T_wish_43 : decode b_T_wish 43 = .ok (.ldc 76, 2) := by decide +kernel
theorem d_T_wish_45 : decode b_T_wish 45 = .ok (.invokespecial 72, 3) := by decide +kernel
theorem d_T_wish_48 : decode b_T_wish 48 = .ok (.athrow, 1) := by decide +kernel
theorem d_T_wish_49 : decode b_T_wish 49 = .ok (.aload_n 0, 1) := by decide +kernel
theorem d_T_wish_50 : decode b_T_wish 50 = .ok (.aload_n 3, 1) := by decide +kernel
theorem d_T_wish_51 : decode b_T_wish 51 = .ok (.invokevirtual 78, 3) := by decide +kernel
theorem d_T_wish_54 : decode b_T_wish 54 = .ok (.aload_n 3, 1) := by decide +kernel
theorem d_T_wish_55 : decode b_T_wish 55 = .ok (.dup, 1) := by decide +kernel
theorem d_T_wish_56 : decode b_T_wish 56 = .ok (.getfield 73, 3) := by decide +kernel
theorem d_T_wish_59 : decode b_T_wish 59 = .ok (.iconst 1, 1) := by decide +kernel
theorem d_T_wish_60 : decode b_T_wish 60 = .ok (.iadd, 1) := by decide +kernel
theorem d_T_wish_61 : decode b_T_wish 61 = .ok (.putfield 73, 3) := by decide +kernel
theorem d_T_wish_64 : decode b_T_wish 64 = .ok (.aload_n 0, 1) := by decide +kernel
theorem d_T_wish_65 : decode b_T_wish 65 = .ok (.getfield 10, 3) := by decide +kernel
theorem d_T_wish_68 : decode b_T_wish 68 = .ok (.invokevirtual 82, 3) := by decide +kernel
theorem d_T_wish_71 : decode b_T_wish 71 = .ok (.aload_n 3, 1) := by decide +kernel
theorem d_T_wish_72 : decode b_T_wish 72 = .ok (.getfield 73, 3) := by decide +kernel
theorem d_T_wish_75 : decode b_T_wish 75 = .ok (.ireturn, 1) := by decide +kernel
theorem d_T_deviceAt_0 : decode b_T_deviceAt 0 = .ok (.iload_n 1, 1) := by decide +kernel
theorem d_T_deviceAt_1 : decode b_T_deviceAt 1 = .ok (.ifCond .lt 9, 3) := by decide +kernel
theorem d_T_deviceAt_4 : decode b_T_deviceAt 4 = .ok (.iload_n 1, 1) := by decide +kernel
theorem d_T_deviceAt_5 : decode b_T_deviceAt 5 = .ok (.bipush 8, 2) := by decide +kernel
theorem d_T_deviceAt_7 : decode b_T_deviceAt 7 = .ok (.if_icmp .lt 13, 3) := by decide +kernel
theorem d_T_deviceAt_10 : decode b_T_deviceAt 10 = .ok (.new 57, 3) := by decide +kernel
theorem d_T_deviceAt_13 : decode b_T_deviceAt 13 = .ok (.dup, 1) := by decide +kernel
theorem d_T_deviceAt_14 : decode b_T_deviceAt 14 = .ok (.ldc 198, 2) := by decide +kernel
theorem d_T_deviceAt_16 : decode b_T_deviceAt 16 = .ok (.invokespecial 61, 3) := by decide +kernel
theorem d_T_deviceAt_19 : decode b_T_deviceAt 19 = .ok (.athrow, 1) := by decide +kernel
theorem d_T_deviceAt_20 : decode b_T_deviceAt 20 = .ok (.aload_n 0, 1) := by decide +kernel
theorem d_T_deviceAt_21 : decode b_T_deviceAt 21 = .ok (.getfield 18, 3) := by decide +kernel
theorem d_T_deviceAt_24 : decode b_T_deviceAt 24 = .ok (.iload_n 1, 1) := by decide +kernel
theorem d_T_deviceAt_25 : decode b_T_deviceAt 25 = .ok (.aaload, 1) := by decide +kernel
theorem d_T_deviceAt_26 : decode b_T_deviceAt 26 = .ok (.areturn, 1) := by decide +kernel
theorem d_T_mergeWish_0 : decode b_T_mergeWish 0 = .ok (.iconst 0, 1) := by decide +kernel
theorem d_T_mergeWish_1 : decode b_T_mergeWish 1 = .ok (.istore_n 2, 1) := by decide +kernel
theorem d_T_mergeWish_2 : decode b_T_mergeWish 2 = .ok (.iload_n 2, 1) := by decide +kernel
theorem d_T_mergeWish_3 : decode b_T_mergeWish 3 = .ok (.bipush 12, 2) := by decide +kernel
theorem d_T_mergeWish_5 : decode b_T_mergeWish 5 = .ok (.if_icmp .ge 34, 3) := by decide +kernel
theorem d_T_mergeWish_8 : decode b_T_mergeWish 8 = .ok (.aload_n 0, 1) := by decide +kernel
theorem d_T_mergeWish_9 : decode b_T_mergeWish 9 = .ok (.getfield 10, 3) := by decide +kernel
theorem d_T_mergeWish_12 : decode b_T_mergeWish 12 = .ok (.iload_n 2, 1) := by decide +kernel
theorem d_T_mergeWish_13 : decode b_T_mergeWish 13 = .ok (.invokevirtual 213, 3) := by decide +kernel
theorem d_T_mergeWish_16 : decode b_T_mergeWish 16 = .ok (.ifCond .eq 17, 3) := by decide +kernel
theorem d_T_mergeWish_19 : decode b_T_mergeWish 19 = .ok (.aload_n 1, 1) := by decide +kernel
theorem d_T_mergeWish_20 : decode b_T_mergeWish 20 = .ok (.iload_n 2, 1) := by decide +kernel
theorem d_T_mergeWish_21 : decode b_T_mergeWish 21 = .ok (.aload_n 0, 1) := by decide +kernel
theorem d_T_mergeWish_22 : decode b_T_mergeWish 22 = .ok (.getfield 10, 3) := by decide +kernel
theorem d_T_mergeWish_25 : decode b_T_mergeWish 25 = .ok (.getfield 216, 3) := by decide +kernel
theorem d_T_mergeWish_28 : decode b_T_mergeWish 28 = .ok (.iload_n 2, 1) := by decide +kernel
theorem d_T_mergeWish_29 : decode b_T_mergeWish 29 = .ok (.iaload, 1) := by decide +kernel
theorem d_T_mergeWish_30 : decode b_T_mergeWish 30 = .ok (.invokevirtual 219, 3) := by decide +kernel
theorem d_T_mergeWish_33 : decode b_T_mergeWish 33 = .ok (.iinc 2 1, 3) := by decide +kernel
theorem d_T_mergeWish_36 : decode b_T_mergeWish 36 = .ok (.goto (-34), 3) := by decide +kernel
theorem d_T_mergeWish_39 : decode b_T_mergeWish 39 = .ok (.return_, 1) := by decide +kernel
theorem d_F_has_0 : decode b_F_has 0 = .ok (.aload_n 0, 1) := by decide +kernel
theorem d_F_has_1 : decode b_F_has 1 = .ok (.getfield 15, 3) := by decide +kernel
theorem d_F_has_4 : decode b_F_has 4 = .ok (.iconst 1, 1) := by decide +kernel
theorem d_F_has_5 : decode b_F_has 5 = .ok (.iload_n 1, 1) := by decide +kernel
theorem d_F_has_6 : decode b_F_has 6 = .ok (.ishl, 1) := by decide +kernel
theorem d_F_has_7 : decode b_F_has 7 = .ok (.iand, 1) := by decide +kernel
theorem d_F_has_8 : decode b_F_has 8 = .ok (.ifCond .eq 7, 3) := by decide +kernel
theorem d_F_has_11 : decode b_F_has 11 = .ok (.iconst 1, 1) := by decide +kernel
theorem d_F_has_12 : decode b_F_has 12 = .ok (.goto 4, 3) := by decide +kernel
theorem d_F_has_15 : decode b_F_has 15 = .ok (.iconst 0, 1) := by decide +kernel
theorem d_F_has_16 : decode b_F_has 16 = .ok (.ireturn, 1) := by decide +kernel
theorem d_D_takeWish_0 : decode b_D_takeWish 0 = .ok (.aload_n 0, 1) := by decide +kernel
theorem d_D_takeWish_1 : decode b_D_takeWish 1 = .ok (.getfield 9, 3) := by decide +kernel
theorem d_D_takeWish_4 : decode b_D_takeWish 4 = .ok (.iload_n 1, 1) := by decide +kernel
theorem d_D_takeWish_5 : decode b_D_takeWish 5 = .ok (.iload_n 2, 1) := by decide +kernel
theorem d_D_takeWish_6 : decode b_D_takeWish 6 = .ok (.iastore, 1) := by decide +kernel
theorem d_D_takeWish_7 : decode b_D_takeWish 7 = .ok (.aload_n 0, 1) := by decide +kernel
theorem d_D_takeWish_8 : decode b_D_takeWish 8 = .ok (.getfield 18, 3) := by decide +kernel
theorem d_D_takeWish_11 : decode b_D_takeWish 11 = .ok (.iload_n 1, 1) := by decide +kernel
theorem d_D_takeWish_12 : decode b_D_takeWish 12 = .ok (.iconst 0, 1) := by decide +kernel
theorem d_D_takeWish_13 : decode b_D_takeWish 13 = .ok (.iastore, 1) := by decide +kernel
theorem d_D_takeWish_14 : decode b_D_takeWish 14 = .ok (.aload_n 0, 1) := by decide +kernel
theorem d_D_takeWish_15 : decode b_D_takeWish 15 = .ok (.iload_n 1, 1) := by decide +kernel
theorem d_D_takeWish_16 : decode b_D_takeWish 16 = .ok (.invokevirtual 21, 3) := by decide +kernel
theorem d_D_takeWish_19 : decode b_D_takeWish 19 = .ok (.return_, 1) := by decide +kernel
theorem d_D_keepDifference_0 : decode b_D_keepDifference 0 = .ok (.aload_n 0, 1) := by decide +kernel
theorem d_D_keepDifference_1 : decode b_D_keepDifference 1 = .ok (.iload_n 1, 1) := by decide +kernel
theorem d_D_keepDifference_2 : decode b_D_keepDifference 2 = .ok (.invokevirtual 25, 3) := by decide +kernel
theorem d_D_keepDifference_5 : decode b_D_keepDifference 5 = .ok (.ifCond .eq 18, 3) := by decide +kernel
theorem d_D_keepDifference_8 : decode b_D_keepDifference 8 = .ok (.aload_n 0, 1) := by decide +kernel
theorem d_D_keepDifference_9 : decode b_D_keepDifference 9 = .ok (.dup, 1) := by decide +kernel
theorem d_D_keepDifference_10 : decode b_D_keepDifference 10 = .ok (.getfield 29, 3) := by decide +kernel
theorem d_D_keepDifference_13 : decode b_D_keepDifference 13 = .ok (.iconst 1, 1) := by decide +kernel
theorem d_D_keepDifference_14 : decode b_D_keepDifference 14 = .ok (.iload_n 1, 1) := by decide +kernel
theorem d_D_keepDifference_15 : decode b_D_keepDifference 15 = .ok (.ishl, 1) := by decide +kernel
theorem d_D_keepDifference_16 : decode b_D_keepDifference 16 = .ok (.ior, 1) := by decide +kernel
theorem d_D_keepDifference_17 : decode b_D_keepDifference 17 = .ok (.putfield 29, 3) := by decide +kernel
theorem d_D_keepDifference_20 : decode b_D_keepDifference 20 = .ok (.goto 17, 3) := by decide +kernel
theorem d_D_keepDifference_23 : decode b_D_keepDifference 23 = .ok (.aload_n 0, 1) := by decide +kernel
theorem d_D_keepDifference_24 : decode b_D_keepDifference 24 = .ok (.dup, 1) := by decide +kernel
theorem d_D_keepDifference_25 : decode b_D_keepDifference 25 = .ok (.getfield 29, 3) := by decide +kernel
theorem d_D_keepDifference_28 : decode b_D_keepDifference 28 = .ok (.iconst 1, 1) := by decide +kernel
theorem d_D_keepDifference_29 : decode b_D_keepDifference 29 = .ok (.iload_n 1, 1) := by decide +kernel
theorem d_D_keepDifference_30 : decode b_D_keepDifference 30 = .ok (.ishl, 1) := by decide +kernel
theorem d_D_keepDifference_31 : decode b_D_keepDifference 31 = .ok (.iconst (-1), 1) := by decide +kernel
theorem d_D_keepDifference_32 : decode b_D_keepDifference 32 = .ok (.ixor, 1) := by decide +kernel
theorem d_D_keepDifference_33 : decode b_D_keepDifference 33 = .ok (.iand, 1) := by decide +kernel
theorem d_D_keepDifference_34 : decode b_D_keepDifference 34 = .ok (.putfield 29, 3) := by decide +kernel
theorem d_D_keepDifference_37 : decode b_D_keepDifference 37 = .ok (.return_, 1) := by decide +kernel
theorem d_D_comparesUnlike_0 : decode b_D_comparesUnlike 0 = .ok (.aload_n 0, 1) := by decide +kernel
theorem d_D_comparesUnlike_1 : decode b_D_comparesUnlike 1 = .ok (.getfield 9, 3) := by decide +kernel
theorem d_D_comparesUnlike_4 : decode b_D_comparesUnlike 4 = .ok (.iload_n 1, 1) := by decide +kernel
theorem d_D_comparesUnlike_5 : decode b_D_comparesUnlike 5 = .ok (.iaload, 1) := by decide +kernel
theorem d_D_comparesUnlike_6 : decode b_D_comparesUnlike 6 = .ok (.iconst (-1), 1) := by decide +kernel
theorem d_D_comparesUnlike_7 : decode b_D_comparesUnlike 7 = .ok (.if_icmp .eq 31, 3) := by decide +kernel
theorem d_D_comparesUnlike_10 : decode b_D_comparesUnlike 10 = .ok (.aload_n 0, 1) := by decide +kernel
theorem d_D_comparesUnlike_11 : decode b_D_comparesUnlike 11 = .ok (.getfield 15, 3) := by decide +kernel
theorem d_D_comparesUnlike_14 : decode b_D_comparesUnlike 14 = .ok (.iload_n 1, 1) := by decide +kernel
theorem d_D_comparesUnlike_15 : decode b_D_comparesUnlike 15 = .ok (.iaload, 1) := by decide +kernel
theorem d_D_comparesUnlike_16 : decode b_D_comparesUnlike 16 = .ok (.aload_n 0, 1) := by decide +kernel
theorem d_D_comparesUnlike_17 : decode b_D_comparesUnlike 17 = .ok (.getfield 9, 3) := by decide +kernel
theorem d_D_comparesUnlike_20 : decode b_D_comparesUnlike 20 = .ok (.iload_n 1, 1) := by decide +kernel
theorem d_D_comparesUnlike_21 : decode b_D_comparesUnlike 21 = .ok (.iaload, 1) := by decide +kernel
theorem d_D_comparesUnlike_22 : decode b_D_comparesUnlike 22 = .ok (.if_icmp .eq 16, 3) := by decide +kernel
theorem d_D_comparesUnlike_25 : decode b_D_comparesUnlike 25 = .ok (.aload_n 0, 1) := by decide +kernel
theorem d_D_comparesUnlike_26 : decode b_D_comparesUnlike 26 = .ok (.getfield 18, 3) := by decide +kernel
theorem d_D_comparesUnlike_29 : decode b_D_comparesUnlike 29 = .ok (.iload_n 1, 1) := by decide +kernel
theorem d_D_comparesUnlike_30 : decode b_D_comparesUnlike 30 = .ok (.iaload, 1) := by decide +kernel
theorem d_D_comparesUnlike_31 : decode b_D_comparesUnlike 31 = .ok (.ifCond .ne 7, 3) := by decide +kernel
theorem d_D_comparesUnlike_34 : decode b_D_comparesUnlike 34 = .ok (.iconst 1, 1) := by decide +kernel
theorem d_D_comparesUnlike_35 : decode b_D_comparesUnlike 35 = .ok (.goto 4, 3) := by decide +kernel
theorem d_D_comparesUnlike_38 : decode b_D_comparesUnlike 38 = .ok (.iconst 0, 1) := by decide +kernel
theorem d_D_comparesUnlike_39 : decode b_D_comparesUnlike 39 = .ok (.ireturn, 1) := by decide +kernel
theorem d_F_empty_0 : decode b_F_empty 0 = .ok (.aload_n 0, 1) := by decide +kernel
theorem d_F_empty_1 : decode b_F_empty 1 = .ok (.iconst 0, 1) := by decide +kernel
theorem d_F_empty_2 : decode b_F_empty 2 = .ok (.putfield 15, 3) := by decide +kernel
theorem d_F_empty_5 : decode b_F_empty 5 = .ok (.return_, 1) := by decide +kernel
theorem d_T_report_0 : decode b_T_report 0 = .ok (.aload_n 0, 1) := by decide +kernel
theorem d_T_report_1 : decode b_T_report 1 = .ok (.iload_n 1, 1) := by decide +kernel
theorem d_T_report_2 : decode b_T_report 2 = .ok (.invokevirtual 64, 3) := by decide +kernel
theorem d_T_report_5 : decode b_T_report 5 = .ok (.astore_n 3, 1) := by decide +kernel
theorem d_T_report_6 : decode b_T_report 6 = .ok (.iload_n 2, 1) := by decide +kernel
theorem d_T_report_7 : decode b_T_report 7 = .ok (.iconst 1, 1) := by decide +kernel
theorem d_T_report_8 : decode b_T_report 8 = .ok (.aload_n 3, 1) := by decide +kernel
theorem d_T_report_9 : decode b_T_report 9 = .ok (.getfield 85, 3) := by decide +kernel
theorem d_T_report_12 : decode b_T_report 12 = .ok (.iconst 1, 1) := by decide +kernel
theorem d_T_report_13 : decode b_T_report 13 = .ok (.iadd, 1) := by decide +kernel
theorem d_T_report_14 : decode b_T_report 14 = .ok (.invokestatic 45, 3) := by decide +kernel
theorem d_T_report_17 : decode b_T_report 17 = .ok (.aload_n 3, 1) := by decide +kernel
theorem d_T_report_18 : decode b_T_report 18 = .ok (.invokestatic 88, 3) := by decide +kernel
theorem d_T_report_21 : decode b_T_report 21 = .ok (.iload_n 2, 1) := by decide +kernel
theorem d_T_report_22 : decode b_T_report 22 = .ok (.aload_n 3, 1) := by decide +kernel
theorem d_T_report_23 : decode b_T_report 23 = .ok (.getfield 85, 3) := by decide +kernel
theorem d_T_report_26 : decode b_T_report 26 = .ok (.if_icmp .gt 7, 3) := by decide +kernel
theorem d_T_report_29 : decode b_T_report 29 = .ok (.iconst 1, 1) := by decide +kernel
theorem d_T_report_30 : decode b_T_report 30 = .ok (.goto 4, 3) := by decide +kernel
theorem d_T_report_33 : decode b_T_report 33 = .ok (.iconst 0, 1) := by decide +kernel
theorem d_T_report_34 : decode b_T_report 34 = .ok (.istore 4, 2) := by decide +kernel
theorem d_T_report_36 : decode b_T_report 36 = .ok (.iload 4, 2) := by decide +kernel
theorem d_T_report_38 : decode b_T_report 38 = .ok (.ifCond .ne 13, 3) := by decide +kernel
theorem d_T_report_41 : decode b_T_report 41 = .ok (.aload_n 0, 1) := by decide +kernel
theorem d_T_report_42 : decode b_T_report 42 = .ok (.aload_n 3, 1) := by decide +kernel
theorem d_T_report_43 : decode b_T_report 43 = .ok (.invokevirtual 91, 3) := by decide +kernel
theorem d_T_report_46 : decode b_T_report 46 = .ok (.aload_n 3, 1) := by decide +kernel
theorem d_T_report_47 : decode b_T_report 47 = .ok (.iload_n 2, 1) := by decide +kernel
theorem d_T_report_48 : decode b_T_report 48 = .ok (.putfield 85, 3) := by decide +kernel
theorem d_T_report_51 : decode b_T_report 51 = .ok (.aload_n 0, 1) := by decide +kernel
theorem d_T_report_52 : decode b_T_report 52 = .ok (.getfield 10, 3) := by decide +kernel
theorem d_T_report_55 : decode b_T_report 55 = .ok (.invokevirtual 82, 3) := by decide +kernel
theorem d_T_report_58 : decode b_T_report 58 = .ok (.iload 4, 2) := by decide +kernel
theorem d_T_report_60 : decode b_T_report 60 = .ok (.ifCond .eq 7, 3) := by decide +kernel
theorem d_T_report_63 : decode b_T_report 63 = .ok (.iconst (-1), 1) := by decide +kernel
theorem d_T_report_64 : decode b_T_report 64 = .ok (.goto 10, 3) := by decide +kernel
theorem d_T_report_67 : decode b_T_report 67 = .ok (.aload_n 3, 1) := by decide +kernel
theorem d_T_report_68 : decode b_T_report 68 = .ok (.getfield 94, 3) := by decide +kernel
theorem d_T_report_71 : decode b_T_report 71 = .ok (.invokestatic 97, 3) := by decide +kernel
theorem d_T_report_74 : decode b_T_report 74 = .ok (.ireturn, 1) := by decide +kernel
theorem d_T_requireAwake_0 : decode b_T_requireAwake 0 = .ok (.aload_n 0, 1) := by decide +kernel
theorem d_T_requireAwake_1 : decode b_T_requireAwake 1 = .ok (.getfield 119, 3) := by decide +kernel
theorem d_T_requireAwake_4 : decode b_T_requireAwake 4 = .ok (.ifCond .eq 13, 3) := by decide +kernel
theorem d_T_requireAwake_7 : decode b_T_requireAwake 7 = .ok (.new 68, 3) := by decide +kernel
theorem d_T_requireAwake_10 : decode b_T_requireAwake 10 = .ok (.dup, 1) := by decide +kernel
theorem d_T_requireAwake_11 : decode b_T_requireAwake 11 = .ok (.ldc 211, 2) := by decide +kernel
theorem d_T_requireAwake_13 : decode b_T_requireAwake 13 = .ok (.invokespecial 72, 3) := by decide +kernel
theorem d_T_requireAwake_16 : decode b_T_requireAwake 16 = .ok (.athrow, 1) := by decide +kernel
theorem d_T_requireAwake_17 : decode b_T_requireAwake 17 = .ok (.return_, 1) := by decide +kernel
theorem d_T_mergeReport_0 : decode b_T_mergeReport 0 = .ok (.iconst 0, 1) := by decide +kernel
theorem d_T_mergeReport_1 : decode b_T_mergeReport 1 = .ok (.istore_n 2, 1) := by decide +kernel
theorem d_T_mergeReport_2 : decode b_T_mergeReport 2 = .ok (.iload_n 2, 1) := by decide +kernel
theorem d_T_mergeReport_3 : decode b_T_mergeReport 3 = .ok (.bipush 12, 2) := by decide +kernel
theorem d_T_mergeReport_5 : decode b_T_mergeReport 5 = .ok (.if_icmp .ge 34, 3) := by decide +kernel
theorem d_T_mergeReport_8 : decode b_T_mergeReport 8 = .ok (.aload_n 0, 1) := by decide +kernel
theorem d_T_mergeReport_9 : decode b_T_mergeReport 9 = .ok (.getfield 10, 3) := by decide +kernel
theorem d_T_mergeReport_12 : decode b_T_mergeReport 12 = .ok (.iload_n 2, 1) := by decide +kernel
theorem d_T_mergeReport_13 : decode b_T_mergeReport 13 = .ok (.invokevirtual 213, 3) := by decide +kernel
theorem d_T_mergeReport_16 : decode b_T_mergeReport 16 = .ok (.ifCond .eq 17, 3) := by decide +kernel
theorem d_T_mergeReport_19 : decode b_T_mergeReport 19 = .ok (.aload_n 1, 1) := by decide +kernel
theorem d_T_mergeReport_20 : decode b_T_mergeReport 20 = .ok (.iload_n 2, 1) := by decide +kernel
theorem d_T_mergeReport_21 : decode b_T_mergeReport 21 = .ok (.aload_n 0, 1) := by decide +kernel
theorem d_T_mergeReport_22 : decode b_T_mergeReport 22 = .ok (.getfield 10, 3) := by decide +kernel
theorem d_T_mergeReport_25 : decode b_T_mergeReport 25 = .ok (.getfield 216, 3) := by decide +kernel
theorem d_T_mergeReport_28 : decode b_T_mergeReport 28 = .ok (.iload_n 2, 1) := by decide +kernel
theorem d_T_mergeReport_29 : decode b_T_mergeReport 29 = .ok (.iaload, 1) := by decide +kernel
theorem d_T_mergeReport_30 : decode b_T_mergeReport 30 = .ok (.invokevirtual 111, 3) := by decide +kernel
theorem d_T_mergeReport_33 : decode b_T_mergeReport 33 = .ok (.iinc 2 1, 3) := by decide +kernel
theorem d_T_mergeReport_36 : decode b_T_mergeReport 36 = .ok (.goto (-34), 3) := by decide +kernel
theorem d_T_mergeReport_39 : decode b_T_mergeReport 39 = .ok (.return_, 1) := by decide +kernel
theorem d_D_takeReport_0 : decode b_D_takeReport 0 = .ok (.aload_n 0, 1) := by decide +kernel
theorem d_D_takeReport_1 : decode b_D_takeReport 1 = .ok (.getfield 15, 3) := by decide +kernel
theorem d_D_takeReport_4 : decode b_D_takeReport 4 = .ok (.iload_n 1, 1) := by decide +kernel
theorem d_D_takeReport_5 : decode b_D_takeReport 5 = .ok (.iload_n 2, 1) := by decide +kernel
theorem d_D_takeReport_6 : decode b_D_takeReport 6 = .ok (.iastore, 1) := by decide +kernel
theorem d_D_takeReport_7 : decode b_D_takeReport 7 = .ok (.aload_n 0, 1) := by decide +kernel
theorem d_D_takeReport_8 : decode b_D_takeReport 8 = .ok (.iload_n 1, 1) := by decide +kernel
theorem d_D_takeReport_9 : decode b_D_takeReport 9 = .ok (.invokevirtual 21, 3) := by decide +kernel
theorem d_D_takeReport_12 : decode b_D_takeReport 12 = .ok (.return_, 1) := by decide +kernel
theorem d_T_obey_0 : decode b_T_obey 0 = .ok (.aload_n 0, 1) := by decide +kernel
theorem d_T_obey_1 : decode b_T_obey 1 = .ok (.iload_n 1, 1) := by decide +kernel
theorem d_T_obey_2 : decode b_T_obey 2 = .ok (.invokevirtual 64, 3) := by decide +kernel
theorem d_T_obey_5 : decode b_T_obey 5 = .ok (.astore_n 2, 1) := by decide +kernel
theorem d_T_obey_6 : decode b_T_obey 6 = .ok (.aload_n 2, 1) := by decide +kernel
theorem d_T_obey_7 : decode b_T_obey 7 = .ok (.invokestatic 88, 3) := by decide +kernel
theorem d_T_obey_10 : decode b_T_obey 10 = .ok (.iconst 0, 1) := by decide +kernel
theorem d_T_obey_11 : decode b_T_obey 11 = .ok (.istore_n 3, 1) := by decide +kernel
theorem d_T_obey_12 : decode b_T_obey 12 = .ok (.iconst 0, 1) := by decide +kernel
theorem d_T_obey_13 : decode b_T_obey 13 = .ok (.istore 4, 2) := by decide +kernel
theorem d_T_obey_15 : decode b_T_obey 15 = .ok (.iload 4, 2) := by decide +kernel
theorem d_T_obey_17 : decode b_T_obey 17 = .ok (.bipush 12, 2) := by decide +kernel
theorem d_T_obey_19 : decode b_T_obey 19 = .ok (.if_icmp .ge 34, 3) := by decide +kernel
theorem d_T_obey_22 : decode b_T_obey 22 = .ok (.aload_n 2, 1) := by decide +kernel
theorem d_T_obey_23 : decode b_T_obey 23 = .ok (.iload 4, 2) := by decide +kernel
theorem d_T_obey_25 : decode b_T_obey 25 = .ok (.invokevirtual 103, 3) := by decide +kernel
theorem d_T_obey_28 : decode b_T_obey 28 = .ok (.ifCond .eq 19, 3) := by decide +kernel
theorem d_T_obey_31 : decode b_T_obey 31 = .ok (.aload_n 2, 1) := by decide +kernel
theorem d_T_obey_32 : decode b_T_obey 32 = .ok (.iload 4, 2) := by decide +kernel
theorem d_T_obey_34 : decode b_T_obey 34 = .ok (.aload_n 2, 1) := by decide +kernel
theorem d_T_obey_35 : decode b_T_obey 35 = .ok (.getfield 107, 3) := by decide +kernel
theorem d_T_obey_38 : decode b_T_obey 38 = .ok (.iload 4, 2) := by decide +kernel
theorem d_T_obey_40 : decode b_T_obey 40 = .ok (.iaload, 1) := by decide +kernel
theorem d_T_obey_41 : decode b_T_obey 41 = .ok (.invokevirtual 111, 3) := by decide +kernel
theorem d_T_obey_44 : decode b_T_obey 44 = .ok (.iinc 3 1, 3) := by decide +kernel
theorem d_T_obey_47 : decode b_T_obey 47 = .ok (.iinc 4 1, 3) := by decide +kernel
theorem d_T_obey_50 : decode b_T_obey 50 = .ok (.goto (-35), 3) := by decide +kernel
theorem d_T_obey_53 : decode b_T_obey 53 = .ok (.aload_n 2, 1) := by decide +kernel
theorem d_T_obey_54 : decode b_T_obey 54 = .ok (.dup, 1) := by decide +kernel
theorem d_T_obey_55 : decode b_T_obey 55 = .ok (.getfield 85, 3) := by decide +kernel
theorem d_T_obey_58 : decode b_T_obey 58 = .ok (.iconst 1, 1) := by decide +kernel
theorem d_T_obey_59 : decode b_T_obey 59 = .ok (.iadd, 1) := by decide +kernel
theorem d_T_obey_60 : decode b_T_obey 60 = .ok (.putfield 85, 3) := by decide +kernel
theorem d_T_obey_63 : decode b_T_obey 63 = .ok (.iload_n 3, 1) := by decide +kernel
theorem d_T_obey_64 : decode b_T_obey 64 = .ok (.ireturn, 1) := by decide +kernel
theorem d_D_differsAt_0 : decode b_D_differsAt 0 = .ok (.aload_n 0, 1) := by decide +kernel
theorem d_D_differsAt_1 : decode b_D_differsAt 1 = .ok (.getfield 29, 3) := by decide +kernel
theorem d_D_differsAt_4 : decode b_D_differsAt 4 = .ok (.iconst 1, 1) := by decide +kernel
theorem d_D_differsAt_5 : decode b_D_differsAt 5 = .ok (.iload_n 1, 1) := by decide +kernel
theorem d_D_differsAt_6 : decode b_D_differsAt 6 = .ok (.ishl, 1) := by decide +kernel
theorem d_D_differsAt_7 : decode b_D_differsAt 7 = .ok (.iand, 1) := by decide +kernel
theorem d_D_differsAt_8 : decode b_D_differsAt 8 = .ok (.ifCond .eq 7, 3) := by decide +kernel
theorem d_D_differsAt_11 : decode b_D_differsAt 11 = .ok (.iconst 1, 1) := by decide +kernel
theorem d_D_differsAt_12 : decode b_D_differsAt 12 = .ok (.goto 4, 3) := by decide +kernel
theorem d_D_differsAt_15 : decode b_D_differsAt 15 = .ok (.iconst 0, 1) := by decide +kernel
theorem d_D_differsAt_16 : decode b_D_differsAt 16 = .ok (.ireturn, 1) := by decide +kernel
theorem d_T_refuse_0 : decode b_T_refuse 0 = .ok (.aload_n 0, 1) := by decide +kernel
theorem d_T_refuse_1 : decode b_T_refuse 1 = .ok (.iload_n 1, 1) := by decide +kernel
theorem d_T_refuse_2 : decode b_T_refuse 2 = .ok (.invokevirtual 64, 3) := by decide +kernel
theorem d_T_refuse_5 : decode b_T_refuse 5 = .ok (.astore 4, 2) := by decide +kernel
theorem d_T_refuse_7 : decode b_T_refuse 7 = .ok (.iload_n 2, 1) := by decide +kernel
theorem d_T_refuse_8 : decode b_T_refuse 8 = .ok (.invokestatic 41, 3) := by decide +kernel
theorem d_T_refuse_11 : decode b_T_refuse 11 = .ok (.iload_n 3, 1) := by decide +kernel
theorem d_T_refuse_12 : decode b_T_refuse 12 = .ok (.iconst 1, 1) := by decide +kernel
theorem d_T_refuse_13 : decode b_T_refuse 13 = .ok (.bipush 9, 2) := by decide +kernel
theorem d_T_refuse_15 : decode b_T_refuse 15 = .ok (.invokestatic 45, 3) := by decide +kernel
theorem d_T_refuse_18 : decode b_T_refuse 18 = .ok (.aload 4, 2) := by decide +kernel
theorem d_T_refuse_20 : decode b_T_refuse 20 = .ok (.invokestatic 88, 3) := by decide +kernel
theorem d_T_refuse_23 : decode b_T_refuse 23 = .ok (.aload 4, 2) := by decide +kernel
theorem d_T_refuse_25 : decode b_T_refuse 25 = .ok (.iload_n 2, 1) := by decide +kernel
theorem d_T_refuse_26 : decode b_T_refuse 26 = .ok (.invokevirtual 103, 3) := by decide +kernel
theorem d_T_refuse_29 : decode b_T_refuse 29 = .ok (.ifCond .ne 13, 3) := by decide +kernel
theorem d_T_refuse_32 : decode b_T_refuse 32 = .ok (.new 68, 3) := by decide +kernel
theorem d_T_refuse_35 : decode b_T_refuse 35 = .ok (.dup, 1) := by decide +kernel
theorem d_T_refuse_36 : decode b_T_refuse 36 = .ok (.ldc 114, 2) := by decide +kernel
theorem d_T_refuse_38 : decode b_T_refuse 38 = .ok (.invokespecial 72, 3) := by decide +kernel
theorem d_T_refuse_41 : decode b_T_refuse 41 = .ok (.athrow, 1) := by decide +kernel
theorem d_T_refuse_42 : decode b_T_refuse 42 = .ok (.aload 4, 2) := by decide +kernel
theorem d_T_refuse_44 : decode b_T_refuse 44 = .ok (.iload_n 2, 1) := by decide +kernel
theorem d_T_refuse_45 : decode b_T_refuse 45 = .ok (.iload_n 3, 1) := by decide +kernel
theorem d_T_refuse_46 : decode b_T_refuse 46 = .ok (.invokevirtual 116, 3) := by decide +kernel
theorem d_T_refuse_49 : decode b_T_refuse 49 = .ok (.aload 4, 2) := by decide +kernel
theorem d_T_refuse_51 : decode b_T_refuse 51 = .ok (.getfield 94, 3) := by decide +kernel
theorem d_T_refuse_54 : decode b_T_refuse 54 = .ok (.invokestatic 97, 3) := by decide +kernel
theorem d_T_refuse_57 : decode b_T_refuse 57 = .ok (.ireturn, 1) := by decide +kernel
theorem d_D_takeRefusal_0 : decode b_D_takeRefusal 0 = .ok (.aload_n 0, 1) := by decide +kernel
theorem d_D_takeRefusal_1 : decode b_D_takeRefusal 1 = .ok (.getfield 18, 3) := by decide +kernel
theorem d_D_takeRefusal_4 : decode b_D_takeRefusal 4 = .ok (.iload_n 1, 1) := by decide +kernel
theorem d_D_takeRefusal_5 : decode b_D_takeRefusal 5 = .ok (.iload_n 2, 1) := by decide +kernel
theorem d_D_takeRefusal_6 : decode b_D_takeRefusal 6 = .ok (.iastore, 1) := by decide +kernel
theorem d_D_takeRefusal_7 : decode b_D_takeRefusal 7 = .ok (.aload_n 0, 1) := by decide +kernel
theorem d_D_takeRefusal_8 : decode b_D_takeRefusal 8 = .ok (.iload_n 1, 1) := by decide +kernel
theorem d_D_takeRefusal_9 : decode b_D_takeRefusal 9 = .ok (.invokevirtual 21, 3) := by decide +kernel
theorem d_D_takeRefusal_12 : decode b_D_takeRefusal 12 = .ok (.return_, 1) := by decide +kernel
theorem d_T_sleep_0 : decode b_T_sleep 0 = .ok (.aload_n 0, 1) := by decide +kernel
theorem d_T_sleep_1 : decode b_T_sleep 1 = .ok (.iload_n 1, 1) := by decide +kernel
theorem d_T_sleep_2 : decode b_T_sleep 2 = .ok (.invokevirtual 64, 3) := by decide +kernel
theorem d_T_sleep_5 : decode b_T_sleep 5 = .ok (.astore_n 2, 1) := by decide +kernel
theorem d_T_sleep_6 : decode b_T_sleep 6 = .ok (.aload_n 2, 1) := by decide +kernel
theorem d_T_sleep_7 : decode b_T_sleep 7 = .ok (.getfield 119, 3) := by decide +kernel
theorem d_T_sleep_10 : decode b_T_sleep 10 = .ok (.ifCond .ne 7, 3) := by decide +kernel
theorem d_T_sleep_13 : decode b_T_sleep 13 = .ok (.iconst 1, 1) := by decide +kernel
theorem d_T_sleep_14 : decode b_T_sleep 14 = .ok (.goto 4, 3) := by decide +kernel
theorem d_T_sleep_17 : decode b_T_sleep 17 = .ok (.iconst 0, 1) := by decide +kernel
theorem d_T_sleep_18 : decode b_T_sleep 18 = .ok (.istore_n 3, 1) := by decide +kernel
theorem d_T_sleep_19 : decode b_T_sleep 19 = .ok (.iload_n 3, 1) := by decide +kernel
theorem d_T_sleep_20 : decode b_T_sleep 20 = .ok (.ifCond .eq 16, 3) := by decide +kernel
theorem d_T_sleep_23 : decode b_T_sleep 23 = .ok (.aload_n 2, 1) := by decide +kernel
theorem d_T_sleep_24 : decode b_T_sleep 24 = .ok (.iconst 1, 1) := by decide +kernel
theorem d_T_sleep_25 : decode b_T_sleep 25 = .ok (.putfield 119, 3) := by decide +kernel
theorem d_T_sleep_28 : decode b_T_sleep 28 = .ok (.aload_n 2, 1) := by decide +kernel
theorem d_T_sleep_29 : decode b_T_sleep 29 = .ok (.aload_n 2, 1) := by decide +kernel
theorem d_T_sleep_30 : decode b_T_sleep 30 = .ok (.getfield 73, 3) := by decide +kernel
theorem d_T_sleep_33 : decode b_T_sleep 33 = .ok (.putfield 123, 3) := by decide +kernel
theorem d_T_sleep_36 : decode b_T_sleep 36 = .ok (.iload_n 3, 1) := by decide +kernel
theorem d_T_sleep_37 : decode b_T_sleep 37 = .ok (.ireturn, 1) := by decide +kernel
theorem d_T_wake_0 : decode b_T_wake 0 = .ok (.aload_n 0, 1) := by decide +kernel
theorem d_T_wake_1 : decode b_T_wake 1 = .ok (.iload_n 1, 1) := by decide +kernel
theorem d_T_wake_2 : decode b_T_wake 2 = .ok (.invokevirtual 64, 3) := by decide +kernel
theorem d_T_wake_5 : decode b_T_wake 5 = .ok (.astore_n 2, 1) := by decide +kernel
theorem d_T_wake_6 : decode b_T_wake 6 = .ok (.aload_n 2, 1) := by decide +kernel
theorem d_T_wake_7 : decode b_T_wake 7 = .ok (.getfield 73, 3) := by decide +kernel
theorem d_T_wake_10 : decode b_T_wake 10 = .ok (.aload_n 2, 1) := by decide +kernel
theorem d_T_wake_11 : decode b_T_wake 11 = .ok (.invokevirtual 126, 3) := by decide +kernel
theorem d_T_wake_14 : decode b_T_wake 14 = .ok (.isub, 1) := by decide +kernel
theorem d_T_wake_15 : decode b_T_wake 15 = .ok (.istore_n 3, 1) := by decide +kernel
theorem d_T_wake_16 : decode b_T_wake 16 = .ok (.aload_n 2, 1) := by decide +kernel
theorem d_T_wake_17 : decode b_T_wake 17 = .ok (.iconst 0, 1) := by decide +kernel
theorem d_T_wake_18 : decode b_T_wake 18 = .ok (.putfield 119, 3) := by decide +kernel
theorem d_T_wake_21 : decode b_T_wake 21 = .ok (.iload_n 3, 1) := by decide +kernel
theorem d_T_wake_22 : decode b_T_wake 22 = .ok (.ireturn, 1) := by decide +kernel
theorem d_D_heardVersion_0 : decode b_D_heardVersion 0 = .ok (.aload_n 0, 1) := by decide +kernel
theorem d_D_heardVersion_1 : decode b_D_heardVersion 1 = .ok (.getfield 33, 3) := by decide +kernel
theorem d_D_heardVersion_4 : decode b_D_heardVersion 4 = .ok (.ifCond .eq 10, 3) := by decide +kernel
theorem d_D_heardVersion_7 : decode b_D_heardVersion 7 = .ok (.aload_n 0, 1) := by decide +kernel
theorem d_D_heardVersion_8 : decode b_D_heardVersion 8 = .ok (.getfield 37, 3) := by decide +kernel
theorem d_D_heardVersion_11 : decode b_D_heardVersion 11 = .ok (.goto 7, 3) := by decide +kernel
theorem d_D_heardVersion_14 : decode b_D_heardVersion 14 = .ok (.aload_n 0, 1) := by decide +kernel
theorem d_D_heardVersion_15 : decode b_D_heardVersion 15 = .ok (.getfield 40, 3) := by decide +kernel
theorem d_D_heardVersion_18 : decode b_D_heardVersion 18 = .ok (.ireturn, 1) := by decide +kernel
theorem d_T_setGroup_0 : decode b_T_setGroup 0 = .ok (.aload_n 0, 1) := by decide +kernel
theorem d_T_setGroup_1 : decode b_T_setGroup 1 = .ok (.iload_n 1, 1) := by decide +kernel
theorem d_T_setGroup_2 : decode b_T_setGroup 2 = .ok (.invokevirtual 129, 3) := by decide +kernel
theorem d_T_setGroup_5 : decode b_T_setGroup 5 = .ok (.astore 5, 2) := by decide +kernel
theorem d_T_setGroup_7 : decode b_T_setGroup 7 = .ok (.iload_n 2, 1) := by decide +kernel
theorem d_T_setGroup_8 : decode b_T_setGroup 8 = .ok (.invokestatic 41, 3) := by decide +kernel
theorem d_T_setGroup_11 : decode b_T_setGroup 11 = .ok (.iload_n 3, 1) := by decide +kernel
theorem d_T_setGroup_12 : decode b_T_setGroup 12 = .ok (.iconst 0, 1) := by decide +kernel
theorem d_T_setGroup_13 : decode b_T_setGroup 13 = .ok (.bipush 99, 2) := by decide +kernel
theorem d_T_setGroup_15 : decode b_T_setGroup 15 = .ok (.invokestatic 45, 3) := by decide +kernel
theorem d_T_setGroup_18 : decode b_T_setGroup 18 = .ok (.iload 4, 2) := by decide +kernel
theorem d_T_setGroup_20 : decode b_T_setGroup 20 = .ok (.iload_n 3, 1) := by decide +kernel
theorem d_T_setGroup_21 : decode b_T_setGroup 21 = .ok (.bipush 99, 2) := by decide +kernel
theorem d_T_setGroup_23 : decode b_T_setGroup 23 = .ok (.invokestatic 45, 3) := by decide +kernel
theorem d_T_setGroup_26 : decode b_T_setGroup 26 = .ok (.aload 5, 2) := by decide +kernel
theorem d_T_setGroup_28 : decode b_T_setGroup 28 = .ok (.iload_n 2, 1) := by decide +kernel
theorem d_T_setGroup_29 : decode b_T_setGroup 29 = .ok (.putfield 133, 3) := by decide +kernel
theorem d_T_setGroup_32 : decode b_T_setGroup 32 = .ok (.aload 5, 2) := by decide +kernel
theorem d_T_setGroup_34 : decode b_T_setGroup 34 = .ok (.iload_n 3, 1) := by decide +kernel
theorem d_T_setGroup_35 : decode b_T_setGroup 35 = .ok (.putfield 136, 3) := by decide +kernel
theorem d_T_setGroup_38 : decode b_T_setGroup 38 = .ok (.aload 5, 2) := by decide +kernel
theorem d_T_setGroup_40 : decode b_T_setGroup 40 = .ok (.iload 4, 2) := by decide +kernel
theorem d_T_setGroup_42 : decode b_T_setGroup 42 = .ok (.putfield 139, 3) := by decide +kernel
theorem d_T_setGroup_45 : decode b_T_setGroup 45 = .ok (.aload_n 0, 1) := by decide +kernel
theorem d_T_setGroup_46 : decode b_T_setGroup 46 = .ok (.aload 5, 2) := by decide +kernel
theorem d_T_setGroup_48 : decode b_T_setGroup 48 = .ok (.invokevirtual 142, 3) := by decide +kernel
theorem d_T_setGroup_51 : decode b_T_setGroup 51 = .ok (.invokestatic 97, 3) := by decide +kernel
theorem d_T_setGroup_54 : decode b_T_setGroup 54 = .ok (.ireturn, 1) := by decide +kernel
theorem d_T_groupAt_0 : decode b_T_groupAt 0 = .ok (.iload_n 1, 1) := by decide +kernel
theorem d_T_groupAt_1 : decode b_T_groupAt 1 = .ok (.invokestatic 146, 3) := by decide +kernel
theorem d_T_groupAt_4 : decode b_T_groupAt 4 = .ok (.aload_n 0, 1) := by decide +kernel
theorem d_T_groupAt_5 : decode b_T_groupAt 5 = .ok (.getfield 25, 3) := by decide +kernel
theorem d_T_groupAt_8 : decode b_T_groupAt 8 = .ok (.iload_n 1, 1) := by decide +kernel
theorem d_T_groupAt_9 : decode b_T_groupAt 9 = .ok (.aaload, 1) := by decide +kernel
theorem d_T_groupAt_10 : decode b_T_groupAt 10 = .ok (.areturn, 1) := by decide +kernel
theorem d_T_requireGroup_0 : decode b_T_requireGroup 0 = .ok (.iload_n 0, 1) := by decide +kernel
theorem d_T_requireGroup_1 : decode b_T_requireGroup 1 = .ok (.ifCond .lt 8, 3) := by decide +kernel
theorem d_T_requireGroup_4 : decode b_T_requireGroup 4 = .ok (.iload_n 0, 1) := by decide +kernel
theorem d_T_requireGroup_5 : decode b_T_requireGroup 5 = .ok (.iconst 4, 1) := by decide +kernel
theorem d_T_requireGroup_6 : decode b_T_requireGroup 6 = .ok (.if_icmp .lt 13, 3) := by decide +kernel
theorem d_T_requireGroup_9 : decode b_T_requireGroup 9 = .ok (.new 57, 3) := by decide +kernel
theorem d_T_requireGroup_12 : decode b_T_requireGroup 12 = .ok (.dup, 1) := by decide +kernel
theorem d_T_requireGroup_13 : decode b_T_requireGroup 13 = .ok (.ldc 200, 2) := by decide +kernel
theorem d_T_requireGroup_15 : decode b_T_requireGroup 15 = .ok (.invokespecial 61, 3) := by decide +kernel
theorem d_T_requireGroup_18 : decode b_T_requireGroup 18 = .ok (.athrow, 1) := by decide +kernel
theorem d_T_requireGroup_19 : decode b_T_requireGroup 19 = .ok (.return_, 1) := by decide +kernel
theorem d_T_membersOf_0 : decode b_T_membersOf 0 = .ok (.iconst 0, 1) := by decide +kernel
theorem d_T_membersOf_1 : decode b_T_membersOf 1 = .ok (.istore_n 2, 1) := by decide +kernel
theorem d_T_membersOf_2 : decode b_T_membersOf 2 = .ok (.iconst 0, 1) := by decide +kernel
theorem d_T_membersOf_3 : decode b_T_membersOf 3 = .ok (.istore_n 3, 1) := by decide +kernel
theorem d_T_membersOf_4 : decode b_T_membersOf 4 = .ok (.iload_n 3, 1) := by decide +kernel
theorem d_T_membersOf_5 : decode b_T_membersOf 5 = .ok (.bipush 8, 2) := by decide +kernel
theorem d_T_membersOf_7 : decode b_T_membersOf 7 = .ok (.if_icmp .ge 28, 3) := by decide +kernel
theorem d_T_membersOf_10 : decode b_T_membersOf 10 = .ok (.aload_n 1, 1) := by decide +kernel
theorem d_T_membersOf_11 : decode b_T_membersOf 11 = .ok (.aload_n 0, 1) := by decide +kernel
theorem d_T_membersOf_12 : decode b_T_membersOf 12 = .ok (.getfield 18, 3) := by decide +kernel
theorem d_T_membersOf_15 : decode b_T_membersOf 15 = .ok (.iload_n 3, 1) := by decide +kernel
theorem d_T_membersOf_16 : decode b_T_membersOf 16 = .ok (.aaload, 1) := by decide +kernel
theorem d_T_membersOf_17 : decode b_T_membersOf 17 = .ok (.invokevirtual 222, 3) := by decide +kernel
theorem d_T_membersOf_20 : decode b_T_membersOf 20 = .ok (.ifCond .eq 9, 3) := by decide +kernel
theorem d_T_membersOf_23 : decode b_T_membersOf 23 = .ok (.iload_n 2, 1) := by decide +kernel
theorem d_T_membersOf_24 : decode b_T_membersOf 24 = .ok (.iconst 1, 1) := by decide +kernel
theorem d_T_membersOf_25 : decode b_T_membersOf 25 = .ok (.iload_n 3, 1) := by decide +kernel
theorem d_T_membersOf_26 : decode b_T_membersOf 26 = .ok (.ishl, 1) := by decide +kernel
theorem d_T_membersOf_27 : decode b_T_membersOf 27 = .ok (.ior, 1) := by decide +kernel
theorem d_T_membersOf_28 : decode b_T_membersOf 28 = .ok (.istore_n 2, 1) := by decide +kernel
theorem d_T_membersOf_29 : decode b_T_membersOf 29 = .ok (.iinc 3 1, 3) := by decide +kernel
theorem d_T_membersOf_32 : decode b_T_membersOf 32 = .ok (.goto (-28), 3) := by decide +kernel
theorem d_T_membersOf_35 : decode b_T_membersOf 35 = .ok (.iload_n 2, 1) := by decide +kernel
theorem d_T_membersOf_36 : decode b_T_membersOf 36 = .ok (.ireturn, 1) := by decide +kernel
theorem d_G_admits_0 : decode b_G_admits 0 = .ok (.aload_n 1, 1) := by decide +kernel
theorem d_G_admits_1 : decode b_G_admits 1 = .ok (.getfield 21, 3) := by decide +kernel
theorem d_G_admits_4 : decode b_G_admits 4 = .ok (.aload_n 0, 1) := by decide +kernel
theorem d_G_admits_5 : decode b_G_admits 5 = .ok (.getfield 9, 3) := by decide +kernel
theorem d_G_admits_8 : decode b_G_admits 8 = .ok (.iaload, 1) := by decide +kernel
theorem d_G_admits_9 : decode b_G_admits 9 = .ok (.istore_n 2, 1) := by decide +kernel
theorem d_G_admits_10 : decode b_G_admits 10 = .ok (.iload_n 2, 1) := by decide +kernel
theorem d_G_admits_11 : decode b_G_admits 11 = .ok (.aload_n 0, 1) := by decide +kernel
theorem d_G_admits_12 : decode b_G_admits 12 = .ok (.getfield 15, 3) := by decide +kernel
theorem d_G_admits_15 : decode b_G_admits 15 = .ok (.if_icmp .lt 15, 3) := by decide +kernel
theorem d_G_admits_18 : decode b_G_admits 18 = .ok (.iload_n 2, 1) := by decide +kernel
theorem d_G_admits_19 : decode b_G_admits 19 = .ok (.aload_n 0, 1) := by decide +kernel
theorem d_G_admits_20 : decode b_G_admits 20 = .ok (.getfield 18, 3) := by decide +kernel
theorem d_G_admits_23 : decode b_G_admits 23 = .ok (.if_icmp .gt 7, 3) := by decide +kernel
theorem d_G_admits_26 : decode b_G_admits 26 = .ok (.iconst 1, 1) := by decide +kernel
theorem d_G_admits_27 : decode b_G_admits 27 = .ok (.goto 4, 3) := by decide +kernel
theorem d_G_admits_30 : decode b_G_admits 30 = .ok (.iconst 0, 1) := by decide +kernel
theorem d_G_admits_31 : decode b_G_admits 31 = .ok (.ireturn, 1) := by decide +kernel
theorem d_T_addJob_0 : decode b_T_addJob 0 = .ok (.iload_n 1, 1) := by decide +kernel
theorem d_T_addJob_1 : decode b_T_addJob 1 = .ok (.invokestatic 146, 3) := by decide +kernel
theorem d_T_addJob_4 : decode b_T_addJob 4 = .ok (.iload_n 2, 1) := by decide +kernel
theorem d_T_addJob_5 : decode b_T_addJob 5 = .ok (.invokestatic 41, 3) := by decide +kernel
theorem d_T_addJob_8 : decode b_T_addJob 8 = .ok (.iload_n 3, 1) := by decide +kernel
theorem d_T_addJob_9 : decode b_T_addJob 9 = .ok (.iconst 0, 1) := by decide +kernel
theorem d_T_addJob_10 : decode b_T_addJob 10 = .ok (.bipush 99, 2) := by decide +kernel
theorem d_T_addJob_12 : decode b_T_addJob 12 = .ok (.invokestatic 45, 3) := by decide +kernel
theorem d_T_addJob_15 : decode b_T_addJob 15 = .ok (.iload 4, 2) := by decide +kernel
theorem d_T_addJob_17 : decode b_T_addJob 17 = .ok (.iconst 1, 1) := by decide +kernel
theorem d_T_addJob_18 : decode b_T_addJob 18 = .ok (.bipush 8, 2) := by decide +kernel
theorem d_T_addJob_20 : decode b_T_addJob 20 = .ok (.invokestatic 45, 3) := by decide +kernel
theorem d_T_addJob_23 : decode b_T_addJob 23 = .ok (.iload 5, 2) := by decide +kernel
theorem d_T_addJob_25 : decode b_T_addJob 25 = .ok (.iconst 1, 1) := by decide +kernel
theorem d_T_addJob_26 : decode b_T_addJob 26 = .ok (.bipush 8, 2) := by decide +kernel
theorem d_T_addJob_28 : decode b_T_addJob 28 = .ok (.invokestatic 45, 3) := by decide +kernel
theorem d_T_addJob_31 : decode b_T_addJob 31 = .ok (.aload_n 0, 1) := by decide +kernel
theorem d_T_addJob_32 : decode b_T_addJob 32 = .ok (.getfield 37, 3) := by decide +kernel
theorem d_T_addJob_35 : decode b_T_addJob 35 = .ok (.bipush 8, 2) := by decide +kernel
theorem d_T_addJob_37 : decode b_T_addJob 37 = .ok (.if_icmp .lt 13, 3) := by decide +kernel
theorem d_T_addJob_40 : decode b_T_addJob 40 = .ok (.new 68, 3) := by decide +kernel
theorem d_T_addJob_43 : decode b_T_addJob 43 = .ok (.dup, 1) := by decide +kernel
theorem d_T_addJob_44 : decode b_T_addJob 44 = .ok (.ldc 149, 2) := by decide +kernel
theorem d_T_addJob_46 : decode b_T_addJob 46 = .ok (.invokespecial 72, 3) := by decide +kernel
theorem d_T_addJob_49 : decode b_T_addJob 49 = .ok (.athrow, 1) := by decide +kernel
theorem d_T_addJob_50 : decode b_T_addJob 50 = .ok (.aload_n 0, 1) := by decide +kernel
theorem d_T_addJob_51 : decode b_T_addJob 51 = .ok (.getfield 32, 3) := by decide +kernel
theorem d_T_addJob_54 : decode b_T_addJob 54 = .ok (.aload_n 0, 1) := by decide +kernel
theorem d_T_addJob_55 : decode b_T_addJob 55 = .ok (.getfield 37, 3) := by decide +kernel
theorem d_T_addJob_58 : decode b_T_addJob 58 = .ok (.aaload, 1) := by decide +kernel
theorem d_T_addJob_59 : decode b_T_addJob 59 = .ok (.astore 6, 2) := by decide +kernel
theorem d_T_addJob_61 : decode b_T_addJob 61 = .ok (.aload 6, 2) := by decide +kernel
theorem d_T_addJob_63 : decode b_T_addJob 63 = .ok (.iload_n 1, 1) := by decide +kernel
theorem d_T_addJob_64 : decode b_T_addJob 64 = .ok (.putfield 151, 3) := by decide +kernel
theorem d_T_addJob_67 : decode b_T_addJob 67 = .ok (.aload 6, 2) := by decide +kernel
theorem d_T_addJob_69 : decode b_T_addJob 69 = .ok (.iload_n 2, 1) := by decide +kernel
theorem d_T_addJob_70 : decode b_T_addJob 70 = .ok (.putfield 154, 3) := by decide +kernel
theorem d_T_addJob_73 : decode b_T_addJob 73 = .ok (.aload 6, 2) := by decide +kernel
theorem d_T_addJob_75 : decode b_T_addJob 75 = .ok (.iload_n 3, 1) := by decide +kernel
theorem d_T_addJob_76 : decode b_T_addJob 76 = .ok (.putfield 155, 3) := by decide +kernel
theorem d_T_addJob_79 : decode b_T_addJob 79 = .ok (.aload 6, 2) := by decide +kernel
theorem d_T_addJob_81 : decode b_T_addJob 81 = .ok (.iload 4, 2) := by decide +kernel
theorem d_T_addJob_83 : decode b_T_addJob 83 = .ok (.putfield 158, 3) := by decide +kernel
theorem d_T_addJob_86 : decode b_T_addJob 86 = .ok (.aload 6, 2) := by decide +kernel
theorem d_T_addJob_88 : decode b_T_addJob 88 = .ok (.iload 5, 2) := by decide +kernel
theorem d_T_addJob_90 : decode b_T_addJob 90 = .ok (.putfield 161, 3) := by decide +kernel
theorem d_T_addJob_93 : decode b_T_addJob 93 = .ok (.aload_n 0, 1) := by decide +kernel
theorem d_T_addJob_94 : decode b_T_addJob 94 = .ok (.dup, 1) := by decide +kernel
theorem d_T_addJob_95 : decode b_T_addJob 95 = .ok (.getfield 37, 3) := by decide +kernel
theorem d_T_addJob_98 : decode b_T_addJob 98 = .ok (.iconst 1, 1) := by decide +kernel
theorem d_T_addJob_99 : decode b_T_addJob 99 = .ok (.iadd, 1) := by decide +kernel
theorem d_T_addJob_100 : decode b_T_addJob 100 = .ok (.putfield 37, 3) := by decide +kernel
theorem d_T_addJob_103 : decode b_T_addJob 103 = .ok (.aload_n 0, 1) := by decide +kernel
theorem d_T_addJob_104 : decode b_T_addJob 104 = .ok (.getfield 37, 3) := by decide +kernel
theorem d_T_addJob_107 : decode b_T_addJob 107 = .ok (.iconst 1, 1) := by decide +kernel
theorem d_T_addJob_108 : decode b_T_addJob 108 = .ok (.isub, 1) := by decide +kernel
theorem d_T_addJob_109 : decode b_T_addJob 109 = .ok (.ireturn, 1) := by decide +kernel
theorem d_T_wave_0 : decode b_T_wave 0 = .ok (.iconst 0, 1) := by decide +kernel
theorem d_T_wave_1 : decode b_T_wave 1 = .ok (.istore_n 1, 1) := by decide +kernel
theorem d_T_wave_2 : decode b_T_wave 2 = .ok (.iconst 0, 1) := by decide +kernel
theorem d_T_wave_3 : decode b_T_wave 3 = .ok (.istore_n 2, 1) := by decide +kernel
theorem d_T_wave_4 : decode b_T_wave 4 = .ok (.iload_n 2, 1) := by decide +kernel
theorem d_T_wave_5 : decode b_T_wave 5 = .ok (.aload_n 0, 1) := by decide +kernel
theorem d_T_wave_6 : decode b_T_wave 6 = .ok (.getfield 37, 3) := by decide +kernel
theorem d_T_wave_9 : decode b_T_wave 9 = .ok (.if_icmp .ge 34, 3) := by decide +kernel
theorem d_T_wave_12 : decode b_T_wave 12 = .ok (.aload_n 0, 1) := by decide +kernel
theorem d_T_wave_13 : decode b_T_wave 13 = .ok (.getfield 32, 3) := by decide +kernel
theorem d_T_wave_16 : decode b_T_wave 16 = .ok (.iload_n 2, 1) := by decide +kernel
theorem d_T_wave_17 : decode b_T_wave 17 = .ok (.aaload, 1) := by decide +kernel
theorem d_T_wave_18 : decode b_T_wave 18 = .ok (.getfield 164, 3) := by decide +kernel
theorem d_T_wave_21 : decode b_T_wave 21 = .ok (.ifCond .ne 16, 3) := by decide +kernel
theorem d_T_wave_24 : decode b_T_wave 24 = .ok (.iload_n 1, 1) := by decide +kernel
theorem d_T_wave_25 : decode b_T_wave 25 = .ok (.aload_n 0, 1) := by decide +kernel
theorem d_T_wave_26 : decode b_T_wave 26 = .ok (.aload_n 0, 1) := by decide +kernel
theorem d_T_wave_27 : decode b_T_wave 27 = .ok (.getfield 32, 3) := by decide +kernel
theorem d_T_wave_30 : decode b_T_wave 30 = .ok (.iload_n 2, 1) := by decide +kernel
theorem d_T_wave_31 : decode b_T_wave 31 = .ok (.aaload, 1) := by decide +kernel
theorem d_T_wave_32 : decode b_T_wave 32 = .ok (.invokevirtual 167, 3) := by decide +kernel
theorem d_T_wave_35 : decode b_T_wave 35 = .ok (.iadd, 1) := by decide +kernel
theorem d_T_wave_36 : decode b_T_wave 36 = .ok (.istore_n 1, 1) := by decide +kernel
theorem d_T_wave_37 : decode b_T_wave 37 = .ok (.iinc 2 1, 3) := by decide +kernel
theorem d_T_wave_40 : decode b_T_wave 40 = .ok (.goto (-36), 3) := by decide +kernel
theorem d_T_wave_43 : decode b_T_wave 43 = .ok (.iload_n 1, 1) := by decide +kernel
theorem d_T_wave_44 : decode b_T_wave 44 = .ok (.ireturn, 1) := by decide +kernel
theorem d_T_advance_0 : decode b_T_advance 0 = .ok (.aload_n 0, 1) := by decide +kernel
theorem d_T_advance_1 : decode b_T_advance 1 = .ok (.aload_n 1, 1) := by decide +kernel
theorem d_T_advance_2 : decode b_T_advance 2 = .ok (.invokevirtual 226, 3) := by decide +kernel
theorem d_T_advance_5 : decode b_T_advance 5 = .ok (.aload_n 1, 1) := by decide +kernel
theorem d_T_advance_6 : decode b_T_advance 6 = .ok (.getfield 195, 3) := by decide +kernel
theorem d_T_advance_9 : decode b_T_advance 9 = .ok (.invokestatic 97, 3) := by decide +kernel
theorem d_T_advance_12 : decode b_T_advance 12 = .ok (.aload_n 1, 1) := by decide +kernel
theorem d_T_advance_13 : decode b_T_advance 13 = .ok (.getfield 161, 3) := by decide +kernel
theorem d_T_advance_16 : decode b_T_advance 16 = .ok (.if_icmp .lt 10, 3) := by decide +kernel
theorem d_T_advance_19 : decode b_T_advance 19 = .ok (.aload_n 1, 1) := by decide +kernel
theorem d_T_advance_20 : decode b_T_advance 20 = .ok (.iconst 1, 1) := by decide +kernel
theorem d_T_advance_21 : decode b_T_advance 21 = .ok (.putfield 164, 3) := by decide +kernel
theorem d_T_advance_24 : decode b_T_advance 24 = .ok (.iconst 0, 1) := by decide +kernel
theorem d_T_advance_25 : decode b_T_advance 25 = .ok (.ireturn, 1) := by decide +kernel
theorem d_T_advance_26 : decode b_T_advance 26 = .ok (.aload_n 0, 1) := by decide +kernel
theorem d_T_advance_27 : decode b_T_advance 27 = .ok (.aload_n 1, 1) := by decide +kernel
theorem d_T_advance_28 : decode b_T_advance 28 = .ok (.invokevirtual 230, 3) := by decide +kernel
theorem d_T_advance_31 : decode b_T_advance 31 = .ok (.ireturn, 1) := by decide +kernel
theorem d_T_judgeStarted_0 : decode b_T_judgeStarted 0 = .ok (.aload_n 1, 1) := by decide +kernel
theorem d_T_judgeStarted_1 : decode b_T_judgeStarted 1 = .ok (.invokevirtual 177, 3) := by decide +kernel
theorem d_T_judgeStarted_4 : decode b_T_judgeStarted 4 = .ok (.istore_n 2, 1) := by decide +kernel
theorem d_T_judgeStarted_5 : decode b_T_judgeStarted 5 = .ok (.iconst 0, 1) := by decide +kernel
theorem d_T_judgeStarted_6 : decode b_T_judgeStarted 6 = .ok (.istore_n 3, 1) := by decide +kernel
theorem d_T_judgeStarted_7 : decode b_T_judgeStarted 7 = .ok (.iload_n 3, 1) := by decide +kernel
theorem d_T_judgeStarted_8 : decode b_T_judgeStarted 8 = .ok (.bipush 8, 2) := by decide +kernel
theorem d_T_judgeStarted_10 : decode b_T_judgeStarted 10 = .ok (.if_icmp .ge 104, 3) := by decide +kernel
theorem d_T_judgeStarted_13 : decode b_T_judgeStarted 13 = .ok (.iconst 1, 1) := by decide +kernel
theorem d_T_judgeStarted_14 : decode b_T_judgeStarted 14 = .ok (.iload_n 3, 1) := by decide +kernel
theorem d_T_judgeStarted_15 : decode b_T_judgeStarted 15 = .ok (.ishl, 1) := by decide +kernel
theorem d_T_judgeStarted_16 : decode b_T_judgeStarted 16 = .ok (.istore 4, 2) := by decide +kernel
theorem d_T_judgeStarted_18 : decode b_T_judgeStarted 18 = .ok (.iload_n 2, 1) := by decide +kernel
theorem d_T_judgeStarted_19 : decode b_T_judgeStarted 19 = .ok (.iload 4, 2) := by decide +kernel
theorem d_T_judgeStarted_21 : decode b_T_judgeStarted 21 = .ok (.iand, 1) := by decide +kernel
theorem d_T_judgeStarted_22 : decode b_T_judgeStarted 22 = .ok (.ifCond .ne 6, 3) := by decide +kernel
theorem d_T_judgeStarted_25 : decode b_T_judgeStarted 25 = .ok (.goto 83, 3) := by decide +kernel
theorem d_T_judgeStarted_28 : decode b_T_judgeStarted 28 = .ok (.aload_n 0, 1) := by decide +kernel
theorem d_T_judgeStarted_29 : decode b_T_judgeStarted 29 = .ok (.getfield 18, 3) := by decide +kernel
theorem d_T_judgeStarted_32 : decode b_T_judgeStarted 32 = .ok (.iload_n 3, 1) := by decide +kernel
theorem d_T_judgeStarted_33 : decode b_T_judgeStarted 33 = .ok (.aaload, 1) := by decide +kernel
theorem d_T_judgeStarted_34 : decode b_T_judgeStarted 34 = .ok (.astore 5, 2) := by decide +kernel
theorem d_T_judgeStarted_36 : decode b_T_judgeStarted 36 = .ok (.aload 5, 2) := by decide +kernel
theorem d_T_judgeStarted_38 : decode b_T_judgeStarted 38 = .ok (.getfield 180, 3) := by decide +kernel
theorem d_T_judgeStarted_41 : decode b_T_judgeStarted 41 = .ok (.aload_n 1, 1) := by decide +kernel
theorem d_T_judgeStarted_42 : decode b_T_judgeStarted 42 = .ok (.getfield 154, 3) := by decide +kernel
theorem d_T_judgeStarted_45 : decode b_T_judgeStarted 45 = .ok (.iaload, 1) := by decide +kernel
theorem d_T_judgeStarted_46 : decode b_T_judgeStarted 46 = .ok (.aload_n 1, 1) := by decide +kernel
theorem d_T_judgeStarted_47 : decode b_T_judgeStarted 47 = .ok (.getfield 155, 3) := by decide +kernel
theorem d_T_judgeStarted_50 : decode b_T_judgeStarted 50 = .ok (.if_icmp .ne 17, 3) := by decide +kernel
theorem d_T_judgeStarted_53 : decode b_T_judgeStarted 53 = .ok (.aload_n 1, 1) := by decide +kernel
theorem d_T_judgeStarted_54 : decode b_T_judgeStarted 54 = .ok (.dup, 1) := by decide +kernel
theorem d_T_judgeStarted_55 : decode b_T_judgeStarted 55 = .ok (.getfield 192, 3) := by decide +kernel
theorem d_T_judgeStarted_58 : decode b_T_judgeStarted 58 = .ok (.iload 4, 2) := by decide +kernel
theorem d_T_judgeStarted_60 : decode b_T_judgeStarted 60 = .ok (.ior, 1) := by decide +kernel
theorem d_T_judgeStarted_61 : decode b_T_judgeStarted 61 = .ok (.putfield 192, 3) := by decide +kernel
theorem d_T_judgeStarted_64 : decode b_T_judgeStarted 64 = .ok (.goto 44, 3) := by decide +kernel
theorem d_T_judgeStarted_67 : decode b_T_judgeStarted 67 = .ok (.aload 5, 2) := by decide +kernel
theorem d_T_judgeStarted_69 : decode b_T_judgeStarted 69 = .ok (.getfield 107, 3) := by decide +kernel
theorem d_T_judgeStarted_72 : decode b_T_judgeStarted 72 = .ok (.aload_n 1, 1) := by decide +kernel
theorem d_T_judgeStarted_73 : decode b_T_judgeStarted 73 = .ok (.getfield 154, 3) := by decide +kernel
theorem d_T_judgeStarted_76 : decode b_T_judgeStarted 76 = .ok (.iaload, 1) := by decide +kernel
theorem d_T_judgeStarted_77 : decode b_T_judgeStarted 77 = .ok (.aload_n 1, 1) := by decide +kernel
theorem d_T_judgeStarted_78 : decode b_T_judgeStarted 78 = .ok (.getfield 155, 3) := by decide +kernel
theorem d_T_judgeStarted_81 : decode b_T_judgeStarted 81 = .ok (.if_icmp .ne 27, 3) := by decide +kernel
theorem d_T_judgeStarted_84 : decode b_T_judgeStarted 84 = .ok (.aload 5, 2) := by decide +kernel
theorem d_T_judgeStarted_86 : decode b_T_judgeStarted 86 = .ok (.getfield 183, 3) := by decide +kernel
theorem d_T_judgeStarted_89 : decode b_T_judgeStarted 89 = .ok (.aload_n 1, 1) := by decide +kernel
theorem d_T_judgeStarted_90 : decode b_T_judgeStarted 90 = .ok (.getfield 154, 3) := by decide +kernel
theorem d_T_judgeStarted_93 : decode b_T_judgeStarted 93 = .ok (.iaload, 1) := by decide +kernel
theorem d_T_judgeStarted_94 : decode b_T_judgeStarted 94 = .ok (.ifCond .eq 14, 3) := by decide +kernel
theorem d_T_judgeStarted_97 : decode b_T_judgeStarted 97 = .ok (.aload_n 1, 1) := by decide +kernel
theorem d_T_judgeStarted_98 : decode b_T_judgeStarted 98 = .ok (.dup, 1) := by decide +kernel
theorem d_T_judgeStarted_99 : decode b_T_judgeStarted 99 = .ok (.getfield 195, 3) := by decide +kernel
theorem d_T_judgeStarted_102 : decode b_T_judgeStarted 102 = .ok (.iload 4, 2) := by decide +kernel
theorem d_T_judgeStarted_104 : decode b_T_judgeStarted 104 = .ok (.ior, 1) := by decide +kernel
theorem d_T_judgeStarted_105 : decode b_T_judgeStarted 105 = .ok (.putfield 195, 3) := by decide +kernel
theorem d_T_judgeStarted_108 : decode b_T_judgeStarted 108 = .ok (.iinc 3 1, 3) := by decide +kernel
theorem d_T_judgeStarted_111 : decode b_T_judgeStarted 111 = .ok (.goto (-104), 3) := by decide +kernel
theorem d_T_judgeStarted_114 : decode b_T_judgeStarted 114 = .ok (.return_, 1) := by decide +kernel
theorem d_J_open_0 : decode b_J_open 0 = .ok (.aload_n 0, 1) := by decide +kernel
theorem d_J_open_1 : decode b_J_open 1 = .ok (.getfield 15, 3) := by decide +kernel
theorem d_J_open_4 : decode b_J_open 4 = .ok (.aload_n 0, 1) := by decide +kernel
theorem d_J_open_5 : decode b_J_open 5 = .ok (.getfield 18, 3) := by decide +kernel
theorem d_J_open_8 : decode b_J_open 8 = .ok (.iconst (-1), 1) := by decide +kernel
theorem d_J_open_9 : decode b_J_open 9 = .ok (.ixor, 1) := by decide +kernel
theorem d_J_open_10 : decode b_J_open 10 = .ok (.iand, 1) := by decide +kernel
theorem d_J_open_11 : decode b_J_open 11 = .ok (.aload_n 0, 1) := by decide +kernel
theorem d_J_open_12 : decode b_J_open 12 = .ok (.getfield 21, 3) := by decide +kernel
theorem d_J_open_15 : decode b_J_open 15 = .ok (.iconst (-1), 1) := by decide +kernel
theorem d_J_open_16 : decode b_J_open 16 = .ok (.ixor, 1) := by decide +kernel
theorem d_J_open_17 : decode b_J_open 17 = .ok (.iand, 1) := by decide +kernel
theorem d_J_open_18 : decode b_J_open 18 = .ok (.ireturn, 1) := by decide +kernel
theorem d_T_startMore_0 : decode b_T_startMore 0 = .ok (.aload_n 0, 1) := by decide +kernel
theorem d_T_startMore_1 : decode b_T_startMore 1 = .ok (.aload_n 0, 1) := by decide +kernel
theorem d_T_startMore_2 : decode b_T_startMore 2 = .ok (.getfield 25, 3) := by decide +kernel
theorem d_T_startMore_5 : decode b_T_startMore 5 = .ok (.aload_n 1, 1) := by decide +kernel
theorem d_T_startMore_6 : decode b_T_startMore 6 = .ok (.getfield 151, 3) := by decide +kernel
theorem d_T_startMore_9 : decode b_T_startMore 9 = .ok (.aaload, 1) := by decide +kernel
theorem d_T_startMore_10 : decode b_T_startMore 10 = .ok (.invokevirtual 142, 3) := by decide +kernel
theorem d_T_startMore_13 : decode b_T_startMore 13 = .ok (.aload_n 1, 1) := by decide +kernel
theorem d_T_startMore_14 : decode b_T_startMore 14 = .ok (.getfield 189, 3) := by decide +kernel
theorem d_T_startMore_17 : decode b_T_startMore 17 = .ok (.iconst (-1), 1) := by decide +kernel
theorem d_T_startMore_18 : decode b_T_startMore 18 = .ok (.ixor, 1) := by decide +kernel
theorem d_T_startMore_19 : decode b_T_startMore 19 = .ok (.iand, 1) := by decide +kernel
theorem d_T_startMore_20 : decode b_T_startMore 20 = .ok (.istore_n 2, 1) := by decide +kernel
theorem d_T_startMore_21 : decode b_T_startMore 21 = .ok (.iconst 0, 1) := by decide +kernel
theorem d_T_startMore_22 : decode b_T_startMore 22 = .ok (.istore_n 3, 1) := by decide +kernel
theorem d_T_startMore_23 : decode b_T_startMore 23 = .ok (.iconst 0, 1) := by decide +kernel
theorem d_T_startMore_24 : decode b_T_startMore 24 = .ok (.istore 4, 2) := by decide +kernel
theorem d_T_startMore_26 : decode b_T_startMore 26 = .ok (.iload 4, 2) := by decide +kernel
theorem d_T_startMore_28 : decode b_T_startMore 28 = .ok (.bipush 8, 2) := by decide +kernel
theorem d_T_startMore_30 : decode b_T_startMore 30 = .ok (.if_icmp .ge 78, 3) := by decide +kernel
theorem d_T_startMore_33 : decode b_T_startMore 33 = .ok (.iload_n 3, 1) := by decide +kernel
theorem d_T_startMore_34 : decode b_T_startMore 34 = .ok (.aload_n 1, 1) := by decide +kernel
theorem d_T_startMore_35 : decode b_T_startMore 35 = .ok (.getfield 158, 3) := by decide +kernel
theorem d_T_startMore_38 : decode b_T_startMore 38 = .ok (.if_icmp .ge 70, 3) := by decide +kernel
theorem d_T_startMore_41 : decode b_T_startMore 41 = .ok (.iconst 1, 1) := by decide +kernel
theorem d_T_startMore_42 : decode b_T_startMore 42 = .ok (.iload 4, 2) := by decide +kernel
theorem d_T_startMore_44 : decode b_T_startMore 44 = .ok (.ishl, 1) := by decide +kernel
theorem d_T_startMore_45 : decode b_T_startMore 45 = .ok (.istore 5, 2) := by decide +kernel
theorem d_T_startMore_47 : decode b_T_startMore 47 = .ok (.iload_n 2, 1) := by decide +kernel
theorem d_T_startMore_48 : decode b_T_startMore 48 = .ok (.iload 5, 2) := by decide +kernel
theorem d_T_startMore_50 : decode b_T_startMore 50 = .ok (.iand, 1) := by decide +kernel
theorem d_T_startMore_51 : decode b_T_startMore 51 = .ok (.ifCond .eq 51, 3) := by decide +kernel
theorem d_T_startMore_54 : decode b_T_startMore 54 = .ok (.aload_n 0, 1) := by decide +kernel
theorem d_T_startMore_55 : decode b_T_startMore 55 = .ok (.getfield 18, 3) := by decide +kernel
theorem d_T_startMore_58 : decode b_T_startMore 58 = .ok (.iload 4, 2) := by decide +kernel
theorem d_T_startMore_60 : decode b_T_startMore 60 = .ok (.aaload, 1) := by decide +kernel
theorem d_T_startMore_61 : decode b_T_startMore 61 = .ok (.aload_n 1, 1) := by decide +kernel
theorem d_T_startMore_62 : decode b_T_startMore 62 = .ok (.getfield 154, 3) := by decide +kernel
theorem d_T_startMore_65 : decode b_T_startMore 65 = .ok (.aload_n 1, 1) := by decide +kernel
theorem d_T_startMore_66 : decode b_T_startMore 66 = .ok (.getfield 155, 3) := by decide +kernel
theorem d_T_startMore_69 : decode b_T_startMore 69 = .ok (.invokevirtual 219, 3) := by decide +kernel
theorem d_T_startMore_72 : decode b_T_startMore 72 = .ok (.aload_n 0, 1) := by decide +kernel
theorem d_T_startMore_73 : decode b_T_startMore 73 = .ok (.getfield 18, 3) := by decide +kernel
theorem d_T_startMore_76 : decode b_T_startMore 76 = .ok (.iload 4, 2) := by decide +kernel
theorem d_T_startMore_78 : decode b_T_startMore 78 = .ok (.aaload, 1) := by decide +kernel
theorem d_T_startMore_79 : decode b_T_startMore 79 = .ok (.dup, 1) := by decide +kernel
theorem d_T_startMore_80 : decode b_T_startMore 80 = .ok (.getfield 73, 3) := by decide +kernel
theorem d_T_startMore_83 : decode b_T_startMore 83 = .ok (.iconst 1, 1) := by decide +kernel
theorem d_T_startMore_84 : decode b_T_startMore 84 = .ok (.iadd, 1) := by decide +kernel
theorem d_T_startMore_85 : decode b_T_startMore 85 = .ok (.putfield 73, 3) := by decide +kernel
theorem d_T_startMore_88 : decode b_T_startMore 88 = .ok (.aload_n 1, 1) := by decide +kernel
theorem d_T_startMore_89 : decode b_T_startMore 89 = .ok (.dup, 1) := by decide +kernel
theorem d_T_startMore_90 : decode b_T_startMore 90 = .ok (.getfield 189, 3) := by decide +kernel
theorem d_T_startMore_93 : decode b_T_startMore 93 = .ok (.iload 5, 2) := by decide +kernel
theorem d_T_startMore_95 : decode b_T_startMore 95 = .ok (.ior, 1) := by decide +kernel
theorem d_T_startMore_96 : decode b_T_startMore 96 = .ok (.putfield 189, 3) := by decide +kernel
theorem d_T_startMore_99 : decode b_T_startMore 99 = .ok (.iinc 3 1, 3) := by decide +kernel
theorem d_T_startMore_102 : decode b_T_startMore 102 = .ok (.iinc 4 1, 3) := by decide +kernel
theorem d_T_startMore_105 : decode b_T_startMore 105 = .ok (.goto (-79), 3) := by decide +kernel
theorem d_T_startMore_108 : decode b_T_startMore 108 = .ok (.iload_n 3, 1) := by decide +kernel
theorem d_T_startMore_109 : decode b_T_startMore 109 = .ok (.ireturn, 1) := by decide +kernel
theorem d_T_cancel_0 : decode b_T_cancel 0 = .ok (.aload_n 0, 1) := by decide +kernel
theorem d_T_cancel_1 : decode b_T_cancel 1 = .ok (.iload_n 1, 1) := by decide +kernel
theorem d_T_cancel_2 : decode b_T_cancel 2 = .ok (.invokevirtual 171, 3) := by decide +kernel
theorem d_T_cancel_5 : decode b_T_cancel 5 = .ok (.astore_n 2, 1) := by decide +kernel
theorem d_T_cancel_6 : decode b_T_cancel 6 = .ok (.aload_n 2, 1) := by decide +kernel
theorem d_T_cancel_7 : decode b_T_cancel 7 = .ok (.getfield 164, 3) := by decide +kernel
theorem d_T_cancel_10 : decode b_T_cancel 10 = .ok (.ifCond .eq 13, 3) := by decide +kernel
theorem d_T_cancel_13 : decode b_T_cancel 13 = .ok (.new 68, 3) := by decide +kernel
theorem d_T_cancel_16 : decode b_T_cancel 16 = .ok (.dup, 1) := by decide +kernel
theorem d_T_cancel_17 : decode b_T_cancel 17 = .ok (.ldc 175, 2) := by decide +kernel
theorem d_T_cancel_19 : decode b_T_cancel 19 = .ok (.invokespecial 72, 3) := by decide +kernel
theorem d_T_cancel_22 : decode b_T_cancel 22 = .ok (.athrow, 1) := by decide +kernel
theorem d_T_cancel_23 : decode b_T_cancel 23 = .ok (.aload_n 2, 1) := by decide +kernel
theorem d_T_cancel_24 : decode b_T_cancel 24 = .ok (.iconst 2, 1) := by decide +kernel
theorem d_T_cancel_25 : decode b_T_cancel 25 = .ok (.putfield 164, 3) := by decide +kernel
theorem d_T_cancel_28 : decode b_T_cancel 28 = .ok (.aload_n 2, 1) := by decide +kernel
theorem d_T_cancel_29 : decode b_T_cancel 29 = .ok (.invokevirtual 177, 3) := by decide +kernel
theorem d_T_cancel_32 : decode b_T_cancel 32 = .ok (.invokestatic 97, 3) := by decide +kernel
theorem d_T_cancel_35 : decode b_T_cancel 35 = .ok (.ireturn, 1) := by decide +kernel
theorem d_T_jobAt_0 : decode b_T_jobAt 0 = .ok (.iload_n 1, 1) := by decide +kernel
theorem d_T_jobAt_1 : decode b_T_jobAt 1 = .ok (.ifCond .lt 11, 3) := by decide +kernel
theorem d_T_jobAt_4 : decode b_T_jobAt 4 = .ok (.iload_n 1, 1) := by decide +kernel
theorem d_T_jobAt_5 : decode b_T_jobAt 5 = .ok (.aload_n 0, 1) := by decide +kernel
theorem d_T_jobAt_6 : decode b_T_jobAt 6 = .ok (.getfield 37, 3) := by decide +kernel
theorem d_T_jobAt_9 : decode b_T_jobAt 9 = .ok (.if_icmp .lt 13, 3) := by decide +kernel
theorem d_T_jobAt_12 : decode b_T_jobAt 12 = .ok (.new 57, 3) := by decide +kernel
theorem d_T_jobAt_15 : decode b_T_jobAt 15 = .ok (.dup, 1) := by decide +kernel
theorem d_T_jobAt_16 : decode b_T_jobAt 16 = .ok (.ldc 202, 2) := by decide +kernel
theorem d_T_jobAt_18 : decode b_T_jobAt 18 = .ok (.invokespecial 61, 3) := by decide +kernel
theorem d_T_jobAt_21 : decode b_T_jobAt 21 = .ok (.athrow, 1) := by decide +kernel
theorem d_T_jobAt_22 : decode b_T_jobAt 22 = .ok (.aload_n 0, 1) := by decide +kernel
theorem d_T_jobAt_23 : decode b_T_jobAt 23 = .ok (.getfield 32, 3) := by decide +kernel
theorem d_T_jobAt_26 : decode b_T_jobAt 26 = .ok (.iload_n 1, 1) := by decide +kernel
theorem d_T_jobAt_27 : decode b_T_jobAt 27 = .ok (.aaload, 1) := by decide +kernel
theorem d_T_jobAt_28 : decode b_T_jobAt 28 = .ok (.areturn, 1) := by decide +kernel
theorem d_T_state_0 : decode b_T_state 0 = .ok (.aload_n 0, 1) := by decide +kernel
theorem d_T_state_1 : decode b_T_state 1 = .ok (.iload_n 1, 1) := by decide +kernel
theorem d_T_state_2 : decode b_T_state 2 = .ok (.invokevirtual 171, 3) := by decide +kernel
theorem d_T_state_5 : decode b_T_state 5 = .ok (.getfield 164, 3) := by decide +kernel
theorem d_T_state_8 : decode b_T_state 8 = .ok (.ireturn, 1) := by decide +kernel
theorem d_T_version_0 : decode b_T_version 0 = .ok (.aload_n 0, 1) := by decide +kernel
theorem d_T_version_1 : decode b_T_version 1 = .ok (.iload_n 1, 1) := by decide +kernel
theorem d_T_version_2 : decode b_T_version 2 = .ok (.invokevirtual 64, 3) := by decide +kernel
theorem d_T_version_5 : decode b_T_version 5 = .ok (.getfield 73, 3) := by decide +kernel
theorem d_T_version_8 : decode b_T_version 8 = .ok (.ireturn, 1) := by decide +kernel
theorem d_T_heard_0 : decode b_T_heard 0 = .ok (.aload_n 0, 1) := by decide +kernel
theorem d_T_heard_1 : decode b_T_heard 1 = .ok (.iload_n 1, 1) := by decide +kernel
theorem d_T_heard_2 : decode b_T_heard 2 = .ok (.invokevirtual 64, 3) := by decide +kernel
theorem d_T_heard_5 : decode b_T_heard 5 = .ok (.invokevirtual 126, 3) := by decide +kernel
theorem d_T_heard_8 : decode b_T_heard 8 = .ok (.ireturn, 1) := by decide +kernel
theorem d_T_differences_0 : decode b_T_differences 0 = .ok (.aload_n 0, 1) := by decide +kernel
theorem d_T_differences_1 : decode b_T_differences 1 = .ok (.iload_n 1, 1) := by decide +kernel
theorem d_T_differences_2 : decode b_T_differences 2 = .ok (.invokevirtual 64, 3) := by decide +kernel
theorem d_T_differences_5 : decode b_T_differences 5 = .ok (.getfield 94, 3) := by decide +kernel
theorem d_T_differences_8 : decode b_T_differences 8 = .ok (.ireturn, 1) := by decide +kernel
theorem d_T_differencesAnew_0 : decode b_T_differencesAnew 0 = .ok (.aload_n 0, 1) := by decide +kernel
theorem d_T_differencesAnew_1 : decode b_T_differencesAnew 1 = .ok (.iload_n 1, 1) := by decide +kernel
theorem d_T_differencesAnew_2 : decode b_T_differencesAnew 2 = .ok (.invokevirtual 64, 3) := by decide +kernel
theorem d_T_differencesAnew_5 : decode b_T_differencesAnew 5 = .ok (.astore_n 2, 1) := by decide +kernel
theorem d_T_differencesAnew_6 : decode b_T_differencesAnew 6 = .ok (.iconst 0, 1) := by decide +kernel
theorem d_T_differencesAnew_7 : decode b_T_differencesAnew 7 = .ok (.istore_n 3, 1) := by decide +kernel
theorem d_T_differencesAnew_8 : decode b_T_differencesAnew 8 = .ok (.iconst 0, 1) := by decide +kernel
theorem d_T_differencesAnew_9 : decode b_T_differencesAnew 9 = .ok (.istore 4, 2) := by decide +kernel
theorem d_T_differencesAnew_11 : decode b_T_differencesAnew 11 = .ok (.iload 4, 2) := by decide +kernel
theorem d_T_differencesAnew_13 : decode b_T_differencesAnew 13 = .ok (.bipush 12, 2) := by decide +kernel
theorem d_T_differencesAnew_15 : decode b_T_differencesAnew 15 = .ok (.if_icmp .ge 25, 3) := by decide +kernel
theorem d_T_differencesAnew_18 : decode b_T_differencesAnew 18 = .ok (.aload_n 2, 1) := by decide +kernel
theorem d_T_differencesAnew_19 : decode b_T_differencesAnew 19 = .ok (.iload 4, 2) := by decide +kernel
theorem d_T_differencesAnew_21 : decode b_T_differencesAnew 21 = .ok (.invokevirtual 186, 3) := by decide +kernel
theorem d_T_differencesAnew_24 : decode b_T_differencesAnew 24 = .ok (.ifCond .eq 10, 3) := by decide +kernel
theorem d_T_differencesAnew_27 : decode b_T_differencesAnew 27 = .ok (.iload_n 3, 1) := by decide +kernel
theorem d_T_differencesAnew_28 : decode b_T_differencesAnew 28 = .ok (.iconst 1, 1) := by decide +kernel
theorem d_T_differencesAnew_29 : decode b_T_differencesAnew 29 = .ok (.iload 4, 2) := by decide +kernel
theorem d_T_differencesAnew_31 : decode b_T_differencesAnew 31 = .ok (.ishl, 1) := by decide +kernel
theorem d_T_differencesAnew_32 : decode b_T_differencesAnew 32 = .ok (.ior, 1) := by decide +kernel
theorem d_T_differencesAnew_33 : decode b_T_differencesAnew 33 = .ok (.istore_n 3, 1) := by decide +kernel
theorem d_T_differencesAnew_34 : decode b_T_differencesAnew 34 = .ok (.iinc 4 1, 3) := by decide +kernel
theorem d_T_differencesAnew_37 : decode b_T_differencesAnew 37 = .ok (.goto (-26), 3) := by decide +kernel
theorem d_T_differencesAnew_40 : decode b_T_differencesAnew 40 = .ok (.iload_n 3, 1) := by decide +kernel
theorem d_T_differencesAnew_41 : decode b_T_differencesAnew 41 = .ok (.ireturn, 1) := by decide +kernel
theorem d_T_wished_0 : decode b_T_wished 0 = .ok (.aload_n 0, 1) := by decide +kernel
theorem d_T_wished_1 : decode b_T_wished 1 = .ok (.iload_n 1, 1) := by decide +kernel
theorem d_T_wished_2 : decode b_T_wished 2 = .ok (.invokevirtual 64, 3) := by decide +kernel
theorem d_T_wished_5 : decode b_T_wished 5 = .ok (.astore_n 3, 1) := by decide +kernel
theorem d_T_wished_6 : decode b_T_wished 6 = .ok (.iload_n 2, 1) := by decide +kernel
theorem d_T_wished_7 : decode b_T_wished 7 = .ok (.invokestatic 41, 3) := by decide +kernel
theorem d_T_wished_10 : decode b_T_wished 10 = .ok (.aload_n 3, 1) := by decide +kernel
theorem d_T_wished_11 : decode b_T_wished 11 = .ok (.getfield 107, 3) := by decide +kernel
theorem d_T_wished_14 : decode b_T_wished 14 = .ok (.iload_n 2, 1) := by decide +kernel
theorem d_T_wished_15 : decode b_T_wished 15 = .ok (.iaload, 1) := by decide +kernel
theorem d_T_wished_16 : decode b_T_wished 16 = .ok (.ireturn, 1) := by decide +kernel
theorem d_T_reported_0 : decode b_T_reported 0 = .ok (.aload_n 0, 1) := by decide +kernel
theorem d_T_reported_1 : decode b_T_reported 1 = .ok (.iload_n 1, 1) := by decide +kernel
theorem d_T_reported_2 : decode b_T_reported 2 = .ok (.invokevirtual 64, 3) := by decide +kernel
theorem d_T_reported_5 : decode b_T_reported 5 = .ok (.astore_n 3, 1) := by decide +kernel
theorem d_T_reported_6 : decode b_T_reported 6 = .ok (.iload_n 2, 1) := by decide +kernel
theorem d_T_reported_7 : decode b_T_reported 7 = .ok (.invokestatic 41, 3) := by decide +kernel
theorem d_T_reported_10 : decode b_T_reported 10 = .ok (.aload_n 3, 1) := by decide +kernel
theorem d_T_reported_11 : decode b_T_reported 11 = .ok (.getfield 180, 3) := by decide +kernel
theorem d_T_reported_14 : decode b_T_reported 14 = .ok (.iload_n 2, 1) := by decide +kernel
theorem d_T_reported_15 : decode b_T_reported 15 = .ok (.iaload, 1) := by decide +kernel
theorem d_T_reported_16 : decode b_T_reported 16 = .ok (.ireturn, 1) := by decide +kernel
theorem d_T_why_0 : decode b_T_why 0 = .ok (.aload_n 0, 1) := by decide +kernel
theorem d_T_why_1 : decode b_T_why 1 = .ok (.iload_n 1, 1) := by decide +kernel
theorem d_T_why_2 : decode b_T_why 2 = .ok (.invokevirtual 64, 3) := by decide +kernel
theorem d_T_why_5 : decode b_T_why 5 = .ok (.astore_n 3, 1) := by decide +kernel
theorem d_T_why_6 : decode b_T_why 6 = .ok (.iload_n 2, 1) := by decide +kernel
theorem d_T_why_7 : decode b_T_why 7 = .ok (.invokestatic 41, 3) := by decide +kernel
theorem d_T_why_10 : decode b_T_why 10 = .ok (.aload_n 3, 1) := by decide +kernel
theorem d_T_why_11 : decode b_T_why 11 = .ok (.getfield 183, 3) := by decide +kernel
theorem d_T_why_14 : decode b_T_why 14 = .ok (.iload_n 2, 1) := by decide +kernel
theorem d_T_why_15 : decode b_T_why 15 = .ok (.iaload, 1) := by decide +kernel
theorem d_T_why_16 : decode b_T_why 16 = .ok (.ireturn, 1) := by decide +kernel
theorem d_T_members_0 : decode b_T_members 0 = .ok (.aload_n 0, 1) := by decide +kernel
theorem d_T_members_1 : decode b_T_members 1 = .ok (.aload_n 0, 1) := by decide +kernel
theorem d_T_members_2 : decode b_T_members 2 = .ok (.iload_n 1, 1) := by decide +kernel
theorem d_T_members_3 : decode b_T_members 3 = .ok (.invokevirtual 129, 3) := by decide +kernel
theorem d_T_members_6 : decode b_T_members 6 = .ok (.invokevirtual 142, 3) := by decide +kernel
theorem d_T_members_9 : decode b_T_members 9 = .ok (.ireturn, 1) := by decide +kernel
theorem d_T_devices_0 : decode b_T_devices 0 = .ok (.aload_n 0, 1) := by decide +kernel
theorem d_T_devices_1 : decode b_T_devices 1 = .ok (.iload_n 1, 1) := by decide +kernel
theorem d_T_devices_2 : decode b_T_devices 2 = .ok (.invokevirtual 171, 3) := by decide +kernel
theorem d_T_devices_5 : decode b_T_devices 5 = .ok (.astore_n 3, 1) := by decide +kernel
theorem d_T_devices_6 : decode b_T_devices 6 = .ok (.iload_n 2, 1) := by decide +kernel
theorem d_T_devices_7 : decode b_T_devices 7 = .ok (.iconst 0, 1) := by decide +kernel
theorem d_T_devices_8 : decode b_T_devices 8 = .ok (.iconst 2, 1) := by decide +kernel
theorem d_T_devices_9 : decode b_T_devices 9 = .ok (.invokestatic 45, 3) := by decide +kernel
theorem d_T_devices_12 : decode b_T_devices 12 = .ok (.iload_n 2, 1) := by decide +kernel
theorem d_T_devices_13 : decode b_T_devices 13 = .ok (.ifCond .ne 8, 3) := by decide +kernel
theorem d_T_devices_16 : decode b_T_devices 16 = .ok (.aload_n 3, 1) := by decide +kernel
theorem d_T_devices_17 : decode b_T_devices 17 = .ok (.getfield 189, 3) := by decide +kernel
theorem d_T_devices_20 : decode b_T_devices 20 = .ok (.ireturn, 1) := by decide +kernel
theorem d_T_devices_21 : decode b_T_devices 21 = .ok (.iload_n 2, 1) := by decide +kernel
theorem d_T_devices_22 : decode b_T_devices 22 = .ok (.iconst 1, 1) := by decide +kernel
theorem d_T_devices_23 : decode b_T_devices 23 = .ok (.if_icmp .ne 10, 3) := by decide +kernel
theorem d_T_devices_26 : decode b_T_devices 26 = .ok (.aload_n 3, 1) := by decide +kernel
theorem d_T_devices_27 : decode b_T_devices 27 = .ok (.getfield 192, 3) := by decide +kernel
theorem d_T_devices_30 : decode b_T_devices 30 = .ok (.goto 7, 3) := by decide +kernel
theorem d_T_devices_33 : decode b_T_devices 33 = .ok (.aload_n 3, 1) := by decide +kernel
theorem d_T_devices_34 : decode b_T_devices 34 = .ok (.getfield 195, 3) := by decide +kernel
theorem d_T_devices_37 : decode b_T_devices 37 = .ok (.ireturn, 1) := by decide +kernel
theorem d_T_jobs_0 : decode b_T_jobs 0 = .ok (.aload_n 0, 1) := by decide +kernel
theorem d_T_jobs_1 : decode b_T_jobs 1 = .ok (.getfield 37, 3) := by decide +kernel
theorem d_T_jobs_4 : decode b_T_jobs 4 = .ok (.ireturn, 1) := by decide +kernel
