theorem d_M_init_0 : decode b_M_init 0 = .ok (.aload_n 0, 1) := by decide +kernel
theorem d_M_init_1 : decode b_M_init 1 = .ok (.invokespecial 1, 3) := by decide +kernel
theorem d_M_init_4 : decode b_M_init 4 = .ok (.aload_n 0, 1) := by decide +kernel
theorem d_M_init_5 : decode b_M_init 5 = .ok (.bipush 96, 2) := by decide +kernel
theorem d_M_init_7 : decode b_M_init 7 = .ok (.newarray .int, 2) := by decide +kernel
theorem d_M_init_9 : decode b_M_init 9 = .ok (.putfield 7, 3) := by decide +kernel
theorem d_M_init_12 : decode b_M_init 12 = .ok (.aload_n 0, 1) := by decide +kernel
theorem d_M_init_13 : decode b_M_init 13 = .ok (.bipush 96, 2) := by decide +kernel
theorem d_M_init_15 : decode b_M_init 15 = .ok (.newarray .int, 2) := by decide +kernel
theorem d_M_init_17 : decode b_M_init 17 = .ok (.putfield 13, 3) := by decide +kernel
theorem d_M_init_20 : decode b_M_init 20 = .ok (.aload_n 0, 1) := by decide +kernel
theorem d_M_init_21 : decode b_M_init 21 = .ok (.bipush 96, 2) := by decide +kernel
theorem d_M_init_23 : decode b_M_init 23 = .ok (.newarray .int, 2) := by decide +kernel
theorem d_M_init_25 : decode b_M_init 25 = .ok (.putfield 16, 3) := by decide +kernel
theorem d_M_init_28 : decode b_M_init 28 = .ok (.aload_n 0, 1) := by decide +kernel
theorem d_M_init_29 : decode b_M_init 29 = .ok (.bipush 8, 2) := by decide +kernel
theorem d_M_init_31 : decode b_M_init 31 = .ok (.newarray .int, 2) := by decide +kernel
theorem d_M_init_33 : decode b_M_init 33 = .ok (.putfield 19, 3) := by decide +kernel
theorem d_M_init_36 : decode b_M_init 36 = .ok (.aload_n 0, 1) := by decide +kernel
theorem d_M_init_37 : decode b_M_init 37 = .ok (.bipush 8, 2) := by decide +kernel
theorem d_M_init_39 : decode b_M_init 39 = .ok (.newarray .int, 2) := by decide +kernel
theorem d_M_init_41 : decode b_M_init 41 = .ok (.putfield 22, 3) := by decide +kernel
theorem d_M_init_44 : decode b_M_init 44 = .ok (.aload_n 0, 1) := by decide +kernel
theorem d_M_init_45 : decode b_M_init 45 = .ok (.bipush 8, 2) := by decide +kernel
theorem d_M_init_47 : decode b_M_init 47 = .ok (.newarray .boolean, 2) := by decide +kernel
theorem d_M_init_49 : decode b_M_init 49 = .ok (.putfield 25, 3) := by decide +kernel
theorem d_M_init_52 : decode b_M_init 52 = .ok (.aload_n 0, 1) := by decide +kernel
theorem d_M_init_53 : decode b_M_init 53 = .ok (.bipush 8, 2) := by decide +kernel
theorem d_M_init_55 : decode b_M_init 55 = .ok (.newarray .int, 2) := by decide +kernel
theorem d_M_init_57 : decode b_M_init 57 = .ok (.putfield 29, 3) := by decide +kernel
theorem d_M_init_60 : decode b_M_init 60 = .ok (.aload_n 0, 1) := by decide +kernel
theorem d_M_init_61 : decode b_M_init 61 = .ok (.bipush 12, 2) := by decide +kernel
theorem d_M_init_63 : decode b_M_init 63 = .ok (.newarray .int, 2) := by decide +kernel
theorem d_M_init_65 : decode b_M_init 65 = .ok (.putfield 32, 3) := by decide +kernel
theorem d_M_init_68 : decode b_M_init 68 = .ok (.aload_n 0, 1) := by decide +kernel
theorem d_M_init_69 : decode b_M_init 69 = .ok (.iconst 4, 1) := by decide +kernel
theorem d_M_init_70 : decode b_M_init 70 = .ok (.newarray .int, 2) := by decide +kernel
theorem d_M_init_72 : decode b_M_init 72 = .ok (.putfield 35, 3) := by decide +kernel
theorem d_M_init_75 : decode b_M_init 75 = .ok (.aload_n 0, 1) := by decide +kernel
theorem d_M_init_76 : decode b_M_init 76 = .ok (.iconst 4, 1) := by decide +kernel
theorem d_M_init_77 : decode b_M_init 77 = .ok (.newarray .int, 2) := by decide +kernel
theorem d_M_init_79 : decode b_M_init 79 = .ok (.putfield 38, 3) := by decide +kernel
theorem d_M_init_82 : decode b_M_init 82 = .ok (.aload_n 0, 1) := by decide +kernel
theorem d_M_init_83 : decode b_M_init 83 = .ok (.iconst 4, 1) := by decide +kernel
theorem d_M_init_84 : decode b_M_init 84 = .ok (.newarray .int, 2) := by decide +kernel
theorem d_M_init_86 : decode b_M_init 86 = .ok (.dup, 1) := by decide +kernel
theorem d_M_init_87 : decode b_M_init 87 = .ok (.iconst 0, 1) := by decide +kernel
theorem d_M_init_88 : decode b_M_init 88 = .ok (.bipush 99, 2) := by decide +kernel
theorem d_M_init_90 : decode b_M_init 90 = .ok (.iastore, 1) := by decide +kernel
theorem d_M_init_91 : decode b_M_init 91 = .ok (.dup, 1) := by decide +kernel
theorem d_M_init_92 : decode b_M_init 92 = .ok (.iconst 1, 1) := by decide +kernel
theorem d_M_init_93 : decode b_M_init 93 = .ok (.bipush 99, 2) := by decide +kernel
theorem d_M_init_95 : decode b_M_init 95 = .ok (.iastore, 1) := by decide +kernel
theorem d_M_init_96 : decode b_M_init 96 = .ok (.dup, 1) := by decide +kernel
theorem d_M_init_97 : decode b_M_init 97 = .ok (.iconst 2, 1) := by decide +kernel
theorem d_M_init_98 : decode b_M_init 98 = .ok (.bipush 99, 2) := by decide +kernel
theorem d_M_init_100 : decode b_M_init 100 = .ok (.iastore, 1) := by decide +kernel
theorem d_M_init_101 : decode b_M_init 101 = .ok (.dup, 1) := by decide +kernel
theorem d_M_init_102 : decode b_M_init 102 = .ok (.iconst 3, 1) := by decide +kernel
theorem d_M_init_103 : decode b_M_init 103 = .ok (.bipush 99, 2) := by decide +kernel
theorem d_M_init_105 : decode b_M_init 105 = .ok (.iastore, 1) := by decide +kernel
theorem d_M_init_106 : decode b_M_init 106 = .ok (.putfield 41, 3) := by decide +kernel
theorem d_M_init_109 : decode b_M_init 109 = .ok (.aload_n 0, 1) := by decide +kernel
theorem d_M_init_110 : decode b_M_init 110 = .ok (.bipush 8, 2) := by decide +kernel
theorem d_M_init_112 : decode b_M_init 112 = .ok (.newarray .int, 2) := by decide +kernel
theorem d_M_init_114 : decode b_M_init 114 = .ok (.putfield 44, 3) := by decide +kernel
theorem d_M_init_117 : decode b_M_init 117 = .ok (.aload_n 0, 1) := by decide +kernel
theorem d_M_init_118 : decode b_M_init 118 = .ok (.bipush 8, 2) := by decide +kernel
theorem d_M_init_120 : decode b_M_init 120 = .ok (.newarray .int, 2) := by decide +kernel
theorem d_M_init_122 : decode b_M_init 122 = .ok (.putfield 47, 3) := by decide +kernel
theorem d_M_init_125 : decode b_M_init 125 = .ok (.aload_n 0, 1) := by decide +kernel
theorem d_M_init_126 : decode b_M_init 126 = .ok (.bipush 8, 2) := by decide +kernel
theorem d_M_init_128 : decode b_M_init 128 = .ok (.newarray .int, 2) := by decide +kernel
theorem d_M_init_130 : decode b_M_init 130 = .ok (.putfield 50, 3) := by decide +kernel
theorem d_M_init_133 : decode b_M_init 133 = .ok (.aload_n 0, 1) := by decide +kernel
theorem d_M_init_134 : decode b_M_init 134 = .ok (.bipush 8, 2) := by decide +kernel
theorem d_M_init_136 : decode b_M_init 136 = .ok (.newarray .int, 2) := by decide +kernel
theorem d_M_init_138 : decode b_M_init 138 = .ok (.putfield 53, 3) := by decide +kernel
theorem d_M_init_141 : decode b_M_init 141 = .ok (.aload_n 0, 1) := by decide +kernel
theorem d_M_init_142 : decode b_M_init 142 = .ok (.bipush 8, 2) := by decide +kernel
theorem d_M_init_144 : decode b_M_init 144 = .ok (.newarray .int, 2) := by decide +kernel
theorem d_M_init_146 : decode b_M_init 146 = .ok (.putfield 56, 3) := by decide +kernel
theorem d_M_init_149 : decode b_M_init 149 = .ok (.aload_n 0, 1) := by decide +kernel
theorem d_M_init_150 : decode b_M_init 150 = .ok (.bipush 8, 2) := by decide +kernel
theorem d_M_init_152 : decode b_M_init 152 = .ok (.newarray .int, 2) := by decide +kernel
theorem d_M_init_154 : decode b_M_init 154 = .ok (.putfield 59, 3) := by decide +kernel
theorem d_M_init_157 : decode b_M_init 157 = .ok (.aload_n 0, 1) := by decide +kernel
theorem d_M_init_158 : decode b_M_init 158 = .ok (.bipush 8, 2) := by decide +kernel
theorem d_M_init_160 : decode b_M_init 160 = .ok (.newarray .int, 2) := by decide +kernel
theorem d_M_init_162 : decode b_M_init 162 = .ok (.putfield 62, 3) := by decide +kernel
theorem d_M_init_165 : decode b_M_init 165 = .ok (.aload_n 0, 1) := by decide +kernel
theorem d_M_init_166 : decode b_M_init 166 = .ok (.bipush 8, 2) := by decide +kernel
theorem d_M_init_168 : decode b_M_init 168 = .ok (.newarray .int, 2) := by decide +kernel
theorem d_M_init_170 : decode b_M_init 170 = .ok (.putfield 65, 3) := by decide +kernel
theorem d_M_init_173 : decode b_M_init 173 = .ok (.aload_n 0, 1) := by decide +kernel
theorem d_M_init_174 : decode b_M_init 174 = .ok (.bipush 8, 2) := by decide +kernel
theorem d_M_init_176 : decode b_M_init 176 = .ok (.newarray .int, 2) := by decide +kernel
theorem d_M_init_178 : decode b_M_init 178 = .ok (.putfield 68, 3) := by decide +kernel
theorem d_M_init_181 : decode b_M_init 181 = .ok (.return_, 1) := by decide +kernel
theorem d_M_thrown_0 : decode b_M_thrown 0 = .ok (.aload_n 0, 1) := by decide +kernel
theorem d_M_thrown_1 : decode b_M_thrown 1 = .ok (.getfield 71, 3) := by decide +kernel
theorem d_M_thrown_4 : decode b_M_thrown 4 = .ok (.ireturn, 1) := by decide +kernel
theorem d_M_put_0 : decode b_M_put 0 = .ok (.aload_n 0, 1) := by decide +kernel
theorem d_M_put_1 : decode b_M_put 1 = .ok (.iload_n 1, 1) := by decide +kernel
theorem d_M_put_2 : decode b_M_put 2 = .ok (.invokestatic 79, 3) := by decide +kernel
theorem d_M_put_5 : decode b_M_put 5 = .ok (.ifCond .ne 7, 3) := by decide +kernel
theorem d_M_put_8 : decode b_M_put 8 = .ok (.iconst 1, 1) := by decide +kernel
theorem d_M_put_9 : decode b_M_put 9 = .ok (.goto 18, 3) := by decide +kernel
theorem d_M_put_12 : decode b_M_put 12 = .ok (.iload_n 2, 1) := by decide +kernel
theorem d_M_put_13 : decode b_M_put 13 = .ok (.iconst (-1), 1) := by decide +kernel
theorem d_M_put_14 : decode b_M_put 14 = .ok (.bipush 99, 2) := by decide +kernel
theorem d_M_put_16 : decode b_M_put 16 = .ok (.invokestatic 75, 3) := by decide +kernel
theorem d_M_put_19 : decode b_M_put 19 = .ok (.ifCond .eq 7, 3) := by decide +kernel
theorem d_M_put_22 : decode b_M_put 22 = .ok (.iconst 0, 1) := by decide +kernel
theorem d_M_put_23 : decode b_M_put 23 = .ok (.goto 4, 3) := by decide +kernel
theorem d_M_put_26 : decode b_M_put 26 = .ok (.iconst 2, 1) := by decide +kernel
theorem d_M_put_27 : decode b_M_put 27 = .ok (.putfield 71, 3) := by decide +kernel
theorem d_M_put_30 : decode b_M_put 30 = .ok (.aload_n 0, 1) := by decide +kernel
theorem d_M_put_31 : decode b_M_put 31 = .ok (.getfield 71, 3) := by decide +kernel
theorem d_M_put_34 : decode b_M_put 34 = .ok (.ifCond .le 5, 3) := by decide +kernel
theorem d_M_put_37 : decode b_M_put 37 = .ok (.iconst 0, 1) := by decide +kernel
theorem d_M_put_38 : decode b_M_put 38 = .ok (.ireturn, 1) := by decide +kernel
theorem d_M_put_39 : decode b_M_put 39 = .ok (.aload_n 0, 1) := by decide +kernel
theorem d_M_put_40 : decode b_M_put 40 = .ok (.getfield 32, 3) := by decide +kernel
theorem d_M_put_43 : decode b_M_put 43 = .ok (.iload_n 1, 1) := by decide +kernel
theorem d_M_put_44 : decode b_M_put 44 = .ok (.iload_n 2, 1) := by decide +kernel
theorem d_M_put_45 : decode b_M_put 45 = .ok (.iconst 2, 1) := by decide +kernel
theorem d_M_put_46 : decode b_M_put 46 = .ok (.iadd, 1) := by decide +kernel
theorem d_M_put_47 : decode b_M_put 47 = .ok (.iastore, 1) := by decide +kernel
theorem d_M_put_48 : decode b_M_put 48 = .ok (.aload_n 0, 1) := by decide +kernel
theorem d_M_put_49 : decode b_M_put 49 = .ok (.invokevirtual 83, 3) := by decide +kernel
theorem d_M_put_52 : decode b_M_put 52 = .ok (.ireturn, 1) := by decide +kernel
theorem d_M_isLeaf_0 : decode b_M_isLeaf 0 = .ok (.iload_n 0, 1) := by decide +kernel
theorem d_M_isLeaf_1 : decode b_M_isLeaf 1 = .ok (.iconst 0, 1) := by decide +kernel
theorem d_M_isLeaf_2 : decode b_M_isLeaf 2 = .ok (.bipush 11, 2) := by decide +kernel
theorem d_M_isLeaf_4 : decode b_M_isLeaf 4 = .ok (.invokestatic 75, 3) := by decide +kernel
theorem d_M_isLeaf_7 : decode b_M_isLeaf 7 = .ok (.ireturn, 1) := by decide +kernel
theorem d_M_in_0 : decode b_M_in 0 = .ok (.iload_n 0, 1) := by decide +kernel
theorem d_M_in_1 : decode b_M_in 1 = .ok (.iload_n 1, 1) := by decide +kernel
theorem d_M_in_2 : decode b_M_in 2 = .ok (.if_icmp .lt 12, 3) := by decide +kernel
theorem d_M_in_5 : decode b_M_in 5 = .ok (.iload_n 0, 1) := by decide +kernel
theorem d_M_in_6 : decode b_M_in 6 = .ok (.iload_n 2, 1) := by decide +kernel
theorem d_M_in_7 : decode b_M_in 7 = .ok (.if_icmp .gt 7, 3) := by decide +kernel
theorem d_M_in_10 : decode b_M_in 10 = .ok (.iconst 1, 1) := by decide +kernel
theorem d_M_in_11 : decode b_M_in 11 = .ok (.goto 4, 3) := by decide +kernel
theorem d_M_in_14 : decode b_M_in 14 = .ok (.iconst 0, 1) := by decide +kernel
theorem d_M_in_15 : decode b_M_in 15 = .ok (.ireturn, 1) := by decide +kernel
theorem d_M_drafted_0 : decode b_M_drafted 0 = .ok (.iconst 0, 1) := by decide +kernel
theorem d_M_drafted_1 : decode b_M_drafted 1 = .ok (.istore_n 1, 1) := by decide +kernel
theorem d_M_drafted_2 : decode b_M_drafted 2 = .ok (.iconst 0, 1) := by decide +kernel
theorem d_M_drafted_3 : decode b_M_drafted 3 = .ok (.istore_n 2, 1) := by decide +kernel
theorem d_M_drafted_4 : decode b_M_drafted 4 = .ok (.iload_n 2, 1) := by decide +kernel
theorem d_M_drafted_5 : decode b_M_drafted 5 = .ok (.bipush 12, 2) := by decide +kernel
theorem d_M_drafted_7 : decode b_M_drafted 7 = .ok (.if_icmp .ge 26, 3) := by decide +kernel
theorem d_M_drafted_10 : decode b_M_drafted 10 = .ok (.iload_n 1, 1) := by decide +kernel
theorem d_M_drafted_11 : decode b_M_drafted 11 = .ok (.aload_n 0, 1) := by decide +kernel
theorem d_M_drafted_12 : decode b_M_drafted 12 = .ok (.getfield 32, 3) := by decide +kernel
theorem d_M_drafted_15 : decode b_M_drafted 15 = .ok (.iload_n 2, 1) := by decide +kernel
theorem d_M_drafted_16 : decode b_M_drafted 16 = .ok (.iaload, 1) := by decide +kernel
theorem d_M_drafted_17 : decode b_M_drafted 17 = .ok (.ifCond .le 7, 3) := by decide +kernel
theorem d_M_drafted_20 : decode b_M_drafted 20 = .ok (.iconst 1, 1) := by decide +kernel
theorem d_M_drafted_21 : decode b_M_drafted 21 = .ok (.goto 4, 3) := by decide +kernel
theorem d_M_drafted_24 : decode b_M_drafted 24 = .ok (.iconst 0, 1) := by decide +kernel
theorem d_M_drafted_25 : decode b_M_drafted 25 = .ok (.iadd, 1) := by decide +kernel
theorem d_M_drafted_26 : decode b_M_drafted 26 = .ok (.istore_n 1, 1) := by decide +kernel
theorem d_M_drafted_27 : decode b_M_drafted 27 = .ok (.iinc 2 1, 3) := by decide +kernel
theorem d_M_drafted_30 : decode b_M_drafted 30 = .ok (.goto (-26), 3) := by decide +kernel
theorem d_M_drafted_33 : decode b_M_drafted 33 = .ok (.iload_n 1, 1) := by decide +kernel
theorem d_M_drafted_34 : decode b_M_drafted 34 = .ok (.ireturn, 1) := by decide +kernel
theorem d_M_drop_0 : decode b_M_drop 0 = .ok (.aload_n 0, 1) := by decide +kernel
theorem d_M_drop_1 : decode b_M_drop 1 = .ok (.iload_n 1, 1) := by decide +kernel
theorem d_M_drop_2 : decode b_M_drop 2 = .ok (.iconst 0, 1) := by decide +kernel
theorem d_M_drop_3 : decode b_M_drop 3 = .ok (.iconst 2, 1) := by decide +kernel
theorem d_M_drop_4 : decode b_M_drop 4 = .ok (.invokestatic 75, 3) := by decide +kernel
theorem d_M_drop_7 : decode b_M_drop 7 = .ok (.ifCond .eq 7, 3) := by decide +kernel
theorem d_M_drop_10 : decode b_M_drop 10 = .ok (.iconst 0, 1) := by decide +kernel
theorem d_M_drop_11 : decode b_M_drop 11 = .ok (.goto 4, 3) := by decide +kernel
theorem d_M_drop_14 : decode b_M_drop 14 = .ok (.iconst 1, 1) := by decide +kernel
theorem d_M_drop_15 : decode b_M_drop 15 = .ok (.putfield 71, 3) := by decide +kernel
theorem d_M_drop_18 : decode b_M_drop 18 = .ok (.aload_n 0, 1) := by decide +kernel
theorem d_M_drop_19 : decode b_M_drop 19 = .ok (.getfield 71, 3) := by decide +kernel
theorem d_M_drop_22 : decode b_M_drop 22 = .ok (.ifCond .le 5, 3) := by decide +kernel
theorem d_M_drop_25 : decode b_M_drop 25 = .ok (.iconst 0, 1) := by decide +kernel
theorem d_M_drop_26 : decode b_M_drop 26 = .ok (.ireturn, 1) := by decide +kernel
theorem d_M_drop_27 : decode b_M_drop 27 = .ok (.iconst 4, 1) := by decide +kernel
theorem d_M_drop_28 : decode b_M_drop 28 = .ok (.iload_n 1, 1) := by decide +kernel
theorem d_M_drop_29 : decode b_M_drop 29 = .ok (.imul, 1) := by decide +kernel
theorem d_M_drop_30 : decode b_M_drop 30 = .ok (.istore_n 2, 1) := by decide +kernel
theorem d_M_drop_31 : decode b_M_drop 31 = .ok (.iload_n 2, 1) := by decide +kernel
theorem d_M_drop_32 : decode b_M_drop 32 = .ok (.iconst 4, 1) := by decide +kernel
theorem d_M_drop_33 : decode b_M_drop 33 = .ok (.iload_n 1, 1) := by decide +kernel
theorem d_M_drop_34 : decode b_M_drop 34 = .ok (.imul, 1) := by decide +kernel
theorem d_M_drop_35 : decode b_M_drop 35 = .ok (.iconst 4, 1) := by decide +kernel
theorem d_M_drop_36 : decode b_M_drop 36 = .ok (.iadd, 1) := by decide +kernel
theorem d_M_drop_37 : decode b_M_drop 37 = .ok (.if_icmp .ge 16, 3) := by decide +kernel
theorem d_M_drop_40 : decode b_M_drop 40 = .ok (.aload_n 0, 1) := by decide +kernel
theorem d_M_drop_41 : decode b_M_drop 41 = .ok (.getfield 32, 3) := by decide +kernel
theorem d_M_drop_44 : decode b_M_drop 44 = .ok (.iload_n 2, 1) := by decide +kernel
theorem d_M_drop_45 : decode b_M_drop 45 = .ok (.iconst 1, 1) := by decide +kernel
theorem d_M_drop_46 : decode b_M_drop 46 = .ok (.iastore, 1) := by decide +kernel
theorem d_M_drop_47 : decode b_M_drop 47 = .ok (.iinc 2 1, 3) := by decide +kernel
theorem d_M_drop_50 : decode b_M_drop 50 = .ok (.goto (-19), 3) := by decide +kernel
theorem d_M_drop_53 : decode b_M_drop 53 = .ok (.aload_n 0, 1) := by decide +kernel
theorem d_M_drop_54 : decode b_M_drop 54 = .ok (.invokevirtual 83, 3) := by decide +kernel
theorem d_M_drop_57 : decode b_M_drop 57 = .ok (.ireturn, 1) := by decide +kernel
theorem d_M_wish_0 : decode b_M_wish 0 = .ok (.aload_n 0, 1) := by decide +kernel
theorem d_M_wish_1 : decode b_M_wish 1 = .ok (.iload_n 1, 1) := by decide +kernel
theorem d_M_wish_2 : decode b_M_wish 2 = .ok (.invokestatic 91, 3) := by decide +kernel
theorem d_M_wish_5 : decode b_M_wish 5 = .ok (.ifCond .eq 7, 3) := by decide +kernel
theorem d_M_wish_8 : decode b_M_wish 8 = .ok (.iconst 0, 1) := by decide +kernel
theorem d_M_wish_9 : decode b_M_wish 9 = .ok (.goto 4, 3) := by decide +kernel
theorem d_M_wish_12 : decode b_M_wish 12 = .ok (.iconst 1, 1) := by decide +kernel
theorem d_M_wish_13 : decode b_M_wish 13 = .ok (.putfield 71, 3) := by decide +kernel
theorem d_M_wish_16 : decode b_M_wish 16 = .ok (.aload_n 0, 1) := by decide +kernel
theorem d_M_wish_17 : decode b_M_wish 17 = .ok (.getfield 71, 3) := by decide +kernel
theorem d_M_wish_20 : decode b_M_wish 20 = .ok (.ifCond .ne 34, 3) := by decide +kernel
theorem d_M_wish_23 : decode b_M_wish 23 = .ok (.aload_n 0, 1) := by decide +kernel
theorem d_M_wish_24 : decode b_M_wish 24 = .ok (.aload_n 0, 1) := by decide +kernel
theorem d_M_wish_25 : decode b_M_wish 25 = .ok (.invokevirtual 83, 3) := by decide +kernel
theorem d_M_wish_28 : decode b_M_wish 28 = .ok (.ifCond .eq 18, 3) := by decide +kernel
theorem d_M_wish_31 : decode b_M_wish 31 = .ok (.iload_n 2, 1) := by decide +kernel
theorem d_M_wish_32 : decode b_M_wish 32 = .ok (.iconst (-1), 1) := by decide +kernel
theorem d_M_wish_33 : decode b_M_wish 33 = .ok (.if_icmp .eq 17, 3) := by decide +kernel
theorem d_M_wish_36 : decode b_M_wish 36 = .ok (.iload_n 2, 1) := by decide +kernel
theorem d_M_wish_37 : decode b_M_wish 37 = .ok (.aload_n 0, 1) := by decide +kernel
theorem d_M_wish_38 : decode b_M_wish 38 = .ok (.getfield 19, 3) := by decide +kernel
theorem d_M_wish_41 : decode b_M_wish 41 = .ok (.iload_n 1, 1) := by decide +kernel
theorem d_M_wish_42 : decode b_M_wish 42 = .ok (.iaload, 1) := by decide +kernel
theorem d_M_wish_43 : decode b_M_wish 43 = .ok (.if_icmp .eq 7, 3) := by decide +kernel
theorem d_M_wish_46 : decode b_M_wish 46 = .ok (.iconst 2, 1) := by decide +kernel
theorem d_M_wish_47 : decode b_M_wish 47 = .ok (.goto 4, 3) := by decide +kernel
theorem d_M_wish_50 : decode b_M_wish 50 = .ok (.iconst 0, 1) := by decide +kernel
theorem d_M_wish_51 : decode b_M_wish 51 = .ok (.putfield 71, 3) := by decide +kernel
theorem d_M_wish_54 : decode b_M_wish 54 = .ok (.aload_n 0, 1) := by decide +kernel
theorem d_M_wish_55 : decode b_M_wish 55 = .ok (.getfield 71, 3) := by decide +kernel
theorem d_M_wish_58 : decode b_M_wish 58 = .ok (.ifCond .le 5, 3) := by decide +kernel
theorem d_M_wish_61 : decode b_M_wish 61 = .ok (.iconst 0, 1) := by decide +kernel
theorem d_M_wish_62 : decode b_M_wish 62 = .ok (.ireturn, 1) := by decide +kernel
theorem d_M_wish_63 : decode b_M_wish 63 = .ok (.iconst 0, 1) := by decide +kernel
theorem d_M_wish_64 : decode b_M_wish 64 = .ok (.istore_n 3, 1) := by decide +kernel
theorem d_M_wish_65 : decode b_M_wish 65 = .ok (.iload_n 3, 1) := by decide +kernel
theorem d_M_wish_66 : decode b_M_wish 66 = .ok (.bipush 12, 2) := by decide +kernel
theorem d_M_wish_68 : decode b_M_wish 68 = .ok (.if_icmp .ge 32, 3) := by decide +kernel
theorem d_M_wish_71 : decode b_M_wish 71 = .ok (.aload_n 0, 1) := by decide +kernel
theorem d_M_wish_72 : decode b_M_wish 72 = .ok (.getfield 32, 3) := by decide +kernel
theorem d_M_wish_75 : decode b_M_wish 75 = .ok (.iload_n 3, 1) := by decide +kernel
theorem d_M_wish_76 : decode b_M_wish 76 = .ok (.iaload, 1) := by decide +kernel
theorem d_M_wish_77 : decode b_M_wish 77 = .ok (.ifCond .le 17, 3) := by decide +kernel
theorem d_M_wish_80 : decode b_M_wish 80 = .ok (.aload_n 0, 1) := by decide +kernel
theorem d_M_wish_81 : decode b_M_wish 81 = .ok (.iload_n 1, 1) := by decide +kernel
theorem d_M_wish_82 : decode b_M_wish 82 = .ok (.iload_n 3, 1) := by decide +kernel
theorem d_M_wish_83 : decode b_M_wish 83 = .ok (.aload_n 0, 1) := by decide +kernel
theorem d_M_wish_84 : decode b_M_wish 84 = .ok (.getfield 32, 3) := by decide +kernel
theorem d_M_wish_87 : decode b_M_wish 87 = .ok (.iload_n 3, 1) := by decide +kernel
theorem d_M_wish_88 : decode b_M_wish 88 = .ok (.iaload, 1) := by decide +kernel
theorem d_M_wish_89 : decode b_M_wish 89 = .ok (.iconst 1, 1) := by decide +kernel
theorem d_M_wish_90 : decode b_M_wish 90 = .ok (.isub, 1) := by decide +kernel
theorem d_M_wish_91 : decode b_M_wish 91 = .ok (.invokevirtual 94, 3) := by decide +kernel
theorem d_M_wish_94 : decode b_M_wish 94 = .ok (.iinc 3 1, 3) := by decide +kernel
theorem d_M_wish_97 : decode b_M_wish 97 = .ok (.goto (-32), 3) := by decide +kernel
theorem d_M_wish_100 : decode b_M_wish 100 = .ok (.aload_n 0, 1) := by decide +kernel
theorem d_M_wish_101 : decode b_M_wish 101 = .ok (.invokevirtual 98, 3) := by decide +kernel
theorem d_M_wish_104 : decode b_M_wish 104 = .ok (.aload_n 0, 1) := by decide +kernel
theorem d_M_wish_105 : decode b_M_wish 105 = .ok (.getfield 19, 3) := by decide +kernel
theorem d_M_wish_108 : decode b_M_wish 108 = .ok (.iload_n 1, 1) := by decide +kernel
theorem d_M_wish_109 : decode b_M_wish 109 = .ok (.dup2, 1) := by decide +kernel
theorem d_M_wish_110 : decode b_M_wish 110 = .ok (.iaload, 1) := by decide +kernel
theorem d_M_wish_111 : decode b_M_wish 111 = .ok (.iconst 1, 1) := by decide +kernel
theorem d_M_wish_112 : decode b_M_wish 112 = .ok (.iadd, 1) := by decide +kernel
theorem d_M_wish_113 : decode b_M_wish 113 = .ok (.iastore, 1) := by decide +kernel
theorem d_M_wish_114 : decode b_M_wish 114 = .ok (.aload_n 0, 1) := by decide +kernel
theorem d_M_wish_115 : decode b_M_wish 115 = .ok (.getfield 19, 3) := by decide +kernel
theorem d_M_wish_118 : decode b_M_wish 118 = .ok (.iload_n 1, 1) := by decide +kernel
theorem d_M_wish_119 : decode b_M_wish 119 = .ok (.iaload, 1) := by decide +kernel
theorem d_M_wish_120 : decode b_M_wish 120 = .ok (.ireturn, 1) := by decide +kernel
theorem d_M_isDevice_0 : decode b_M_isDevice 0 = .ok (.iload_n 0, 1) := by decide +kernel
theorem d_M_isDevice_1 : decode b_M_isDevice 1 = .ok (.iconst 0, 1) := by decide +kernel
theorem d_M_isDevice_2 : decode b_M_isDevice 2 = .ok (.bipush 7, 2) := by decide +kernel
theorem d_M_isDevice_4 : decode b_M_isDevice 4 = .ok (.invokestatic 75, 3) := by decide +kernel
theorem d_M_isDevice_7 : decode b_M_isDevice 7 = .ok (.ireturn, 1) := by decide +kernel
theorem d_M_wishes_0 : decode b_M_wishes 0 = .ok (.aload_n 0, 1) := by decide +kernel
theorem d_M_wishes_1 : decode b_M_wishes 1 = .ok (.getfield 7, 3) := by decide +kernel
theorem d_M_wishes_4 : decode b_M_wishes 4 = .ok (.bipush 12, 2) := by decide +kernel
theorem d_M_wishes_6 : decode b_M_wishes 6 = .ok (.iload_n 1, 1) := by decide +kernel
theorem d_M_wishes_7 : decode b_M_wishes 7 = .ok (.imul, 1) := by decide +kernel
theorem d_M_wishes_8 : decode b_M_wishes 8 = .ok (.iload_n 2, 1) := by decide +kernel
theorem d_M_wishes_9 : decode b_M_wishes 9 = .ok (.iadd, 1) := by decide +kernel
theorem d_M_wishes_10 : decode b_M_wishes 10 = .ok (.iload_n 3, 1) := by decide +kernel
theorem d_M_wishes_11 : decode b_M_wishes 11 = .ok (.iastore, 1) := by decide +kernel
theorem d_M_wishes_12 : decode b_M_wishes 12 = .ok (.aload_n 0, 1) := by decide +kernel
theorem d_M_wishes_13 : decode b_M_wishes 13 = .ok (.getfield 16, 3) := by decide +kernel
theorem d_M_wishes_16 : decode b_M_wishes 16 = .ok (.bipush 12, 2) := by decide +kernel
theorem d_M_wishes_18 : decode b_M_wishes 18 = .ok (.iload_n 1, 1) := by decide +kernel
theorem d_M_wishes_19 : decode b_M_wishes 19 = .ok (.imul, 1) := by decide +kernel
theorem d_M_wishes_20 : decode b_M_wishes 20 = .ok (.iload_n 2, 1) := by decide +kernel
theorem d_M_wishes_21 : decode b_M_wishes 21 = .ok (.iadd, 1) := by decide +kernel
theorem d_M_wishes_22 : decode b_M_wishes 22 = .ok (.iconst 0, 1) := by decide +kernel
theorem d_M_wishes_23 : decode b_M_wishes 23 = .ok (.iastore, 1) := by decide +kernel
theorem d_M_wishes_24 : decode b_M_wishes 24 = .ok (.return_, 1) := by decide +kernel
theorem d_M_empties_0 : decode b_M_empties 0 = .ok (.iconst 0, 1) := by decide +kernel
theorem d_M_empties_1 : decode b_M_empties 1 = .ok (.istore_n 1, 1) := by decide +kernel
theorem d_M_empties_2 : decode b_M_empties 2 = .ok (.iload_n 1, 1) := by decide +kernel
theorem d_M_empties_3 : decode b_M_empties 3 = .ok (.bipush 12, 2) := by decide +kernel
theorem d_M_empties_5 : decode b_M_empties 5 = .ok (.if_icmp .ge 16, 3) := by decide +kernel
theorem d_M_empties_8 : decode b_M_empties 8 = .ok (.aload_n 0, 1) := by decide +kernel
theorem d_M_empties_9 : decode b_M_empties 9 = .ok (.getfield 32, 3) := by decide +kernel
theorem d_M_empties_12 : decode b_M_empties 12 = .ok (.iload_n 1, 1) := by decide +kernel
theorem d_M_empties_13 : decode b_M_empties 13 = .ok (.iconst 0, 1) := by decide +kernel
theorem d_M_empties_14 : decode b_M_empties 14 = .ok (.iastore, 1) := by decide +kernel
theorem d_M_empties_15 : decode b_M_empties 15 = .ok (.iinc 1 1, 3) := by decide +kernel
theorem d_M_empties_18 : decode b_M_empties 18 = .ok (.goto (-16), 3) := by decide +kernel
theorem d_M_empties_21 : decode b_M_empties 21 = .ok (.return_, 1) := by decide +kernel
theorem d_M_report_0 : decode b_M_report 0 = .ok (.aload_n 0, 1) := by decide +kernel
theorem d_M_report_1 : decode b_M_report 1 = .ok (.iload_n 1, 1) := by decide +kernel
theorem d_M_report_2 : decode b_M_report 2 = .ok (.invokestatic 91, 3) := by decide +kernel
theorem d_M_report_5 : decode b_M_report 5 = .ok (.ifCond .eq 7, 3) := by decide +kernel
theorem d_M_report_8 : decode b_M_report 8 = .ok (.iconst 0, 1) := by decide +kernel
theorem d_M_report_9 : decode b_M_report 9 = .ok (.goto 4, 3) := by decide +kernel
theorem d_M_report_12 : decode b_M_report 12 = .ok (.iconst 1, 1) := by decide +kernel
theorem d_M_report_13 : decode b_M_report 13 = .ok (.putfield 71, 3) := by decide +kernel
theorem d_M_report_16 : decode b_M_report 16 = .ok (.aload_n 0, 1) := by decide +kernel
theorem d_M_report_17 : decode b_M_report 17 = .ok (.getfield 71, 3) := by decide +kernel
theorem d_M_report_20 : decode b_M_report 20 = .ok (.ifCond .ne 42, 3) := by decide +kernel
theorem d_M_report_23 : decode b_M_report 23 = .ok (.aload_n 0, 1) := by decide +kernel
theorem d_M_report_24 : decode b_M_report 24 = .ok (.iload_n 2, 1) := by decide +kernel
theorem d_M_report_25 : decode b_M_report 25 = .ok (.iconst 1, 1) := by decide +kernel
theorem d_M_report_26 : decode b_M_report 26 = .ok (.if_icmp .lt 15, 3) := by decide +kernel
theorem d_M_report_29 : decode b_M_report 29 = .ok (.iload_n 2, 1) := by decide +kernel
theorem d_M_report_30 : decode b_M_report 30 = .ok (.aload_n 0, 1) := by decide +kernel
theorem d_M_report_31 : decode b_M_report 31 = .ok (.getfield 29, 3) := by decide +kernel
theorem d_M_report_34 : decode b_M_report 34 = .ok (.iload_n 1, 1) := by decide +kernel
theorem d_M_report_35 : decode b_M_report 35 = .ok (.iaload, 1) := by decide +kernel
theorem d_M_report_36 : decode b_M_report 36 = .ok (.iconst 1, 1) := by decide +kernel
theorem d_M_report_37 : decode b_M_report 37 = .ok (.iadd, 1) := by decide +kernel
theorem d_M_report_38 : decode b_M_report 38 = .ok (.if_icmp .le 7, 3) := by decide +kernel
theorem d_M_report_41 : decode b_M_report 41 = .ok (.iconst 2, 1) := by decide +kernel
theorem d_M_report_42 : decode b_M_report 42 = .ok (.goto 17, 3) := by decide +kernel
theorem d_M_report_45 : decode b_M_report 45 = .ok (.aload_n 0, 1) := by decide +kernel
theorem d_M_report_46 : decode b_M_report 46 = .ok (.getfield 25, 3) := by decide +kernel
theorem d_M_report_49 : decode b_M_report 49 = .ok (.iload_n 1, 1) := by decide +kernel
theorem d_M_report_50 : decode b_M_report 50 = .ok (.baload, 1) := by decide +kernel
theorem d_M_report_51 : decode b_M_report 51 = .ok (.ifCond .eq 7, 3) := by decide +kernel
theorem d_M_report_54 : decode b_M_report 54 = .ok (.iconst 3, 1) := by decide +kernel
theorem d_M_report_55 : decode b_M_report 55 = .ok (.goto 4, 3) := by decide +kernel
theorem d_M_report_58 : decode b_M_report 58 = .ok (.iconst 0, 1) := by decide +kernel
theorem d_M_report_59 : decode b_M_report 59 = .ok (.putfield 71, 3) := by decide +kernel
theorem d_M_report_62 : decode b_M_report 62 = .ok (.aload_n 0, 1) := by decide +kernel
theorem d_M_report_63 : decode b_M_report 63 = .ok (.getfield 71, 3) := by decide +kernel
theorem d_M_report_66 : decode b_M_report 66 = .ok (.ifCond .le 5, 3) := by decide +kernel
theorem d_M_report_69 : decode b_M_report 69 = .ok (.iconst 0, 1) := by decide +kernel
theorem d_M_report_70 : decode b_M_report 70 = .ok (.ireturn, 1) := by decide +kernel
theorem d_M_report_71 : decode b_M_report 71 = .ok (.iload_n 2, 1) := by decide +kernel
theorem d_M_report_72 : decode b_M_report 72 = .ok (.aload_n 0, 1) := by decide +kernel
theorem d_M_report_73 : decode b_M_report 73 = .ok (.getfield 29, 3) := by decide +kernel
theorem d_M_report_76 : decode b_M_report 76 = .ok (.iload_n 1, 1) := by decide +kernel
theorem d_M_report_77 : decode b_M_report 77 = .ok (.iaload, 1) := by decide +kernel
theorem d_M_report_78 : decode b_M_report 78 = .ok (.if_icmp .le 7, 3) := by decide +kernel
theorem d_M_report_81 : decode b_M_report 81 = .ok (.iconst 1, 1) := by decide +kernel
theorem d_M_report_82 : decode b_M_report 82 = .ok (.goto 4, 3) := by decide +kernel
theorem d_M_report_85 : decode b_M_report 85 = .ok (.iconst 0, 1) := by decide +kernel
theorem d_M_report_86 : decode b_M_report 86 = .ok (.istore_n 3, 1) := by decide +kernel
theorem d_M_report_87 : decode b_M_report 87 = .ok (.iconst 0, 1) := by decide +kernel
theorem d_M_report_88 : decode b_M_report 88 = .ok (.istore 4, 2) := by decide +kernel
theorem d_M_report_90 : decode b_M_report 90 = .ok (.iload 4, 2) := by decide +kernel
theorem d_M_report_92 : decode b_M_report 92 = .ok (.bipush 12, 2) := by decide +kernel
theorem d_M_report_94 : decode b_M_report 94 = .ok (.if_icmp .ge 59, 3) := by decide +kernel
theorem d_M_report_97 : decode b_M_report 97 = .ok (.iload_n 3, 1) := by decide +kernel
theorem d_M_report_98 : decode b_M_report 98 = .ok (.ifCond .eq 55, 3) := by decide +kernel
theorem d_M_report_101 : decode b_M_report 101 = .ok (.aload_n 0, 1) := by decide +kernel
theorem d_M_report_102 : decode b_M_report 102 = .ok (.getfield 13, 3) := by decide +kernel
theorem d_M_report_105 : decode b_M_report 105 = .ok (.bipush 12, 2) := by decide +kernel
theorem d_M_report_107 : decode b_M_report 107 = .ok (.iload_n 1, 1) := by decide +kernel
theorem d_M_report_108 : decode b_M_report 108 = .ok (.imul, 1) := by decide +kernel
theorem d_M_report_109 : decode b_M_report 109 = .ok (.iload 4, 2) := by decide +kernel
theorem d_M_report_111 : decode b_M_report 111 = .ok (.iadd, 1) := by decide +kernel
theorem d_M_report_112 : decode b_M_report 112 = .ok (.aload_n 0, 1) := by decide +kernel
theorem d_M_report_113 : decode b_M_report 113 = .ok (.getfield 32, 3) := by decide +kernel
theorem d_M_report_116 : decode b_M_report 116 = .ok (.iload 4, 2) := by decide +kernel
theorem d_M_report_118 : decode b_M_report 118 = .ok (.iaload, 1) := by decide +kernel
theorem d_M_report_119 : decode b_M_report 119 = .ok (.ifCond .le 15, 3) := by decide +kernel
theorem d_M_report_122 : decode b_M_report 122 = .ok (.aload_n 0, 1) := by decide +kernel
theorem d_M_report_123 : decode b_M_report 123 = .ok (.getfield 32, 3) := by decide +kernel
theorem d_M_report_126 : decode b_M_report 126 = .ok (.iload 4, 2) := by decide +kernel
theorem d_M_report_128 : decode b_M_report 128 = .ok (.iaload, 1) := by decide +kernel
theorem d_M_report_129 : decode b_M_report 129 = .ok (.iconst 1, 1) := by decide +kernel
theorem d_M_report_130 : decode b_M_report 130 = .ok (.isub, 1) := by decide +kernel
theorem d_M_report_131 : decode b_M_report 131 = .ok (.goto 15, 3) := by decide +kernel
theorem d_M_report_134 : decode b_M_report 134 = .ok (.aload_n 0, 1) := by decide +kernel
theorem d_M_report_135 : decode b_M_report 135 = .ok (.getfield 13, 3) := by decide +kernel
theorem d_M_report_138 : decode b_M_report 138 = .ok (.bipush 12, 2) := by decide +kernel
theorem d_M_report_140 : decode b_M_report 140 = .ok (.iload_n 1, 1) := by decide +kernel
theorem d_M_report_141 : decode b_M_report 141 = .ok (.imul, 1) := by decide +kernel
theorem d_M_report_142 : decode b_M_report 142 = .ok (.iload 4, 2) := by decide +kernel
theorem d_M_report_144 : decode b_M_report 144 = .ok (.iadd, 1) := by decide +kernel
theorem d_M_report_145 : decode b_M_report 145 = .ok (.iaload, 1) := by decide +kernel
theorem d_M_report_146 : decode b_M_report 146 = .ok (.iastore, 1) := by decide +kernel
theorem d_M_report_147 : decode b_M_report 147 = .ok (.iinc 4 1, 3) := by decide +kernel
theorem d_M_report_150 : decode b_M_report 150 = .ok (.goto (-60), 3) := by decide +kernel
theorem d_M_report_153 : decode b_M_report 153 = .ok (.aload_n 0, 1) := by decide +kernel
theorem d_M_report_154 : decode b_M_report 154 = .ok (.getfield 29, 3) := by decide +kernel
theorem d_M_report_157 : decode b_M_report 157 = .ok (.iload_n 1, 1) := by decide +kernel
theorem d_M_report_158 : decode b_M_report 158 = .ok (.dup2, 1) := by decide +kernel
theorem d_M_report_159 : decode b_M_report 159 = .ok (.iaload, 1) := by decide +kernel
theorem d_M_report_160 : decode b_M_report 160 = .ok (.iload_n 3, 1) := by decide +kernel
theorem d_M_report_161 : decode b_M_report 161 = .ok (.ifCond .eq 7, 3) := by decide +kernel
theorem d_M_report_164 : decode b_M_report 164 = .ok (.iconst 1, 1) := by decide +kernel
theorem d_M_report_165 : decode b_M_report 165 = .ok (.goto 4, 3) := by decide +kernel
theorem d_M_report_168 : decode b_M_report 168 = .ok (.iconst 0, 1) := by decide +kernel
theorem d_M_report_169 : decode b_M_report 169 = .ok (.iadd, 1) := by decide +kernel
theorem d_M_report_170 : decode b_M_report 170 = .ok (.iastore, 1) := by decide +kernel
theorem d_M_report_171 : decode b_M_report 171 = .ok (.aload_n 0, 1) := by decide +kernel
theorem d_M_report_172 : decode b_M_report 172 = .ok (.invokevirtual 98, 3) := by decide +kernel
theorem d_M_report_175 : decode b_M_report 175 = .ok (.iload_n 3, 1) := by decide +kernel
theorem d_M_report_176 : decode b_M_report 176 = .ok (.ifCond .eq 14, 3) := by decide +kernel
theorem d_M_report_179 : decode b_M_report 179 = .ok (.aload_n 0, 1) := by decide +kernel
theorem d_M_report_180 : decode b_M_report 180 = .ok (.iload_n 1, 1) := by decide +kernel
theorem d_M_report_181 : decode b_M_report 181 = .ok (.invokevirtual 101, 3) := by decide +kernel
theorem d_M_report_184 : decode b_M_report 184 = .ok (.invokestatic 105, 3) := by decide +kernel
theorem d_M_report_187 : decode b_M_report 187 = .ok (.goto 4, 3) := by decide +kernel
theorem d_M_report_190 : decode b_M_report 190 = .ok (.iconst (-1), 1) := by decide +kernel
theorem d_M_report_191 : decode b_M_report 191 = .ok (.ireturn, 1) := by decide +kernel
theorem d_M_differing_0 : decode b_M_differing 0 = .ok (.iconst 0, 1) := by decide +kernel
theorem d_M_differing_1 : decode b_M_differing 1 = .ok (.istore_n 2, 1) := by decide +kernel
theorem d_M_differing_2 : decode b_M_differing 2 = .ok (.iconst 0, 1) := by decide +kernel
theorem d_M_differing_3 : decode b_M_differing 3 = .ok (.istore_n 3, 1) := by decide +kernel
theorem d_M_differing_4 : decode b_M_differing 4 = .ok (.iload_n 3, 1) := by decide +kernel
theorem d_M_differing_5 : decode b_M_differing 5 = .ok (.bipush 12, 2) := by decide +kernel
theorem d_M_differing_7 : decode b_M_differing 7 = .ok (.if_icmp .ge 28, 3) := by decide +kernel
theorem d_M_differing_10 : decode b_M_differing 10 = .ok (.iload_n 2, 1) := by decide +kernel
theorem d_M_differing_11 : decode b_M_differing 11 = .ok (.aload_n 0, 1) := by decide +kernel
theorem d_M_differing_12 : decode b_M_differing 12 = .ok (.iload_n 1, 1) := by decide +kernel
theorem d_M_differing_13 : decode b_M_differing 13 = .ok (.iload_n 3, 1) := by decide +kernel
theorem d_M_differing_14 : decode b_M_differing 14 = .ok (.invokevirtual 87, 3) := by decide +kernel
theorem d_M_differing_17 : decode b_M_differing 17 = .ok (.ifCond .eq 9, 3) := by decide +kernel
theorem d_M_differing_20 : decode b_M_differing 20 = .ok (.iconst 1, 1) := by decide +kernel
theorem d_M_differing_21 : decode b_M_differing 21 = .ok (.iload_n 3, 1) := by decide +kernel
theorem d_M_differing_22 : decode b_M_differing 22 = .ok (.ishl, 1) := by decide +kernel
theorem d_M_differing_23 : decode b_M_differing 23 = .ok (.goto 4, 3) := by decide +kernel
theorem d_M_differing_26 : decode b_M_differing 26 = .ok (.iconst 0, 1) := by decide +kernel
theorem d_M_differing_27 : decode b_M_differing 27 = .ok (.ior, 1) := by decide +kernel
theorem d_M_differing_28 : decode b_M_differing 28 = .ok (.istore_n 2, 1) := by decide +kernel
theorem d_M_differing_29 : decode b_M_differing 29 = .ok (.iinc 3 1, 3) := by decide +kernel
theorem d_M_differing_32 : decode b_M_differing 32 = .ok (.goto (-28), 3) := by decide +kernel
theorem d_M_differing_35 : decode b_M_differing 35 = .ok (.iload_n 2, 1) := by decide +kernel
theorem d_M_differing_36 : decode b_M_differing 36 = .ok (.ireturn, 1) := by decide +kernel
theorem d_M_differs_0 : decode b_M_differs 0 = .ok (.bipush 12, 2) := by decide +kernel
theorem d_M_differs_2 : decode b_M_differs 2 = .ok (.iload_n 1, 1) := by decide +kernel
theorem d_M_differs_3 : decode b_M_differs 3 = .ok (.imul, 1) := by decide +kernel
theorem d_M_differs_4 : decode b_M_differs 4 = .ok (.iload_n 2, 1) := by decide +kernel
theorem d_M_differs_5 : decode b_M_differs 5 = .ok (.iadd, 1) := by decide +kernel
theorem d_M_differs_6 : decode b_M_differs 6 = .ok (.istore_n 3, 1) := by decide +kernel
theorem d_M_differs_7 : decode b_M_differs 7 = .ok (.aload_n 0, 1) := by decide +kernel
theorem d_M_differs_8 : decode b_M_differs 8 = .ok (.getfield 7, 3) := by decide +kernel
theorem d_M_differs_11 : decode b_M_differs 11 = .ok (.iload_n 3, 1) := by decide +kernel
theorem d_M_differs_12 : decode b_M_differs 12 = .ok (.iaload, 1) := by decide +kernel
theorem d_M_differs_13 : decode b_M_differs 13 = .ok (.ifCond .le 31, 3) := by decide +kernel
theorem d_M_differs_16 : decode b_M_differs 16 = .ok (.aload_n 0, 1) := by decide +kernel
theorem d_M_differs_17 : decode b_M_differs 17 = .ok (.getfield 13, 3) := by decide +kernel
theorem d_M_differs_20 : decode b_M_differs 20 = .ok (.iload_n 3, 1) := by decide +kernel
theorem d_M_differs_21 : decode b_M_differs 21 = .ok (.iaload, 1) := by decide +kernel
theorem d_M_differs_22 : decode b_M_differs 22 = .ok (.aload_n 0, 1) := by decide +kernel
theorem d_M_differs_23 : decode b_M_differs 23 = .ok (.getfield 7, 3) := by decide +kernel
theorem d_M_differs_26 : decode b_M_differs 26 = .ok (.iload_n 3, 1) := by decide +kernel
theorem d_M_differs_27 : decode b_M_differs 27 = .ok (.iaload, 1) := by decide +kernel
theorem d_M_differs_28 : decode b_M_differs 28 = .ok (.if_icmp .eq 16, 3) := by decide +kernel
theorem d_M_differs_31 : decode b_M_differs 31 = .ok (.aload_n 0, 1) := by decide +kernel
theorem d_M_differs_32 : decode b_M_differs 32 = .ok (.getfield 16, 3) := by decide +kernel
theorem d_M_differs_35 : decode b_M_differs 35 = .ok (.iload_n 3, 1) := by decide +kernel
theorem d_M_differs_36 : decode b_M_differs 36 = .ok (.iaload, 1) := by decide +kernel
theorem d_M_differs_37 : decode b_M_differs 37 = .ok (.ifCond .ne 7, 3) := by decide +kernel
theorem d_M_differs_40 : decode b_M_differs 40 = .ok (.iconst 1, 1) := by decide +kernel
theorem d_M_differs_41 : decode b_M_differs 41 = .ok (.goto 4, 3) := by decide +kernel
theorem d_M_differs_44 : decode b_M_differs 44 = .ok (.iconst 0, 1) := by decide +kernel
theorem d_M_differs_45 : decode b_M_differs 45 = .ok (.ireturn, 1) := by decide +kernel
theorem d_M_manyOf_0 : decode b_M_manyOf 0 = .ok (.iconst 0, 1) := by decide +kernel
theorem d_M_manyOf_1 : decode b_M_manyOf 1 = .ok (.istore_n 1, 1) := by decide +kernel
theorem d_M_manyOf_2 : decode b_M_manyOf 2 = .ok (.iconst 0, 1) := by decide +kernel
theorem d_M_manyOf_3 : decode b_M_manyOf 3 = .ok (.istore_n 2, 1) := by decide +kernel
theorem d_M_manyOf_4 : decode b_M_manyOf 4 = .ok (.iload_n 2, 1) := by decide +kernel
theorem d_M_manyOf_5 : decode b_M_manyOf 5 = .ok (.bipush 12, 2) := by decide +kernel
theorem d_M_manyOf_7 : decode b_M_manyOf 7 = .ok (.if_icmp .ge 17, 3) := by decide +kernel
theorem d_M_manyOf_10 : decode b_M_manyOf 10 = .ok (.iload_n 1, 1) := by decide +kernel
theorem d_M_manyOf_11 : decode b_M_manyOf 11 = .ok (.iload_n 0, 1) := by decide +kernel
theorem d_M_manyOf_12 : decode b_M_manyOf 12 = .ok (.iload_n 2, 1) := by decide +kernel
theorem d_M_manyOf_13 : decode b_M_manyOf 13 = .ok (.ishr, 1) := by decide +kernel
theorem d_M_manyOf_14 : decode b_M_manyOf 14 = .ok (.iconst 1, 1) := by decide +kernel
theorem d_M_manyOf_15 : decode b_M_manyOf 15 = .ok (.iand, 1) := by decide +kernel
theorem d_M_manyOf_16 : decode b_M_manyOf 16 = .ok (.iadd, 1) := by decide +kernel
theorem d_M_manyOf_17 : decode b_M_manyOf 17 = .ok (.istore_n 1, 1) := by decide +kernel
theorem d_M_manyOf_18 : decode b_M_manyOf 18 = .ok (.iinc 2 1, 3) := by decide +kernel
theorem d_M_manyOf_21 : decode b_M_manyOf 21 = .ok (.goto (-17), 3) := by decide +kernel
theorem d_M_manyOf_24 : decode b_M_manyOf 24 = .ok (.iload_n 1, 1) := by decide +kernel
theorem d_M_manyOf_25 : decode b_M_manyOf 25 = .ok (.ireturn, 1) := by decide +kernel
theorem d_M_obey_0 : decode b_M_obey 0 = .ok (.aload_n 0, 1) := by decide +kernel
theorem d_M_obey_1 : decode b_M_obey 1 = .ok (.iload_n 1, 1) := by decide +kernel
theorem d_M_obey_2 : decode b_M_obey 2 = .ok (.invokestatic 91, 3) := by decide +kernel
theorem d_M_obey_5 : decode b_M_obey 5 = .ok (.ifCond .ne 7, 3) := by decide +kernel
theorem d_M_obey_8 : decode b_M_obey 8 = .ok (.iconst 1, 1) := by decide +kernel
theorem d_M_obey_9 : decode b_M_obey 9 = .ok (.goto 17, 3) := by decide +kernel
theorem d_M_obey_12 : decode b_M_obey 12 = .ok (.aload_n 0, 1) := by decide +kernel
theorem d_M_obey_13 : decode b_M_obey 13 = .ok (.getfield 25, 3) := by decide +kernel
theorem d_M_obey_16 : decode b_M_obey 16 = .ok (.iload_n 1, 1) := by decide +kernel
theorem d_M_obey_17 : decode b_M_obey 17 = .ok (.baload, 1) := by decide +kernel
theorem d_M_obey_18 : decode b_M_obey 18 = .ok (.ifCond .eq 7, 3) := by decide +kernel
theorem d_M_obey_21 : decode b_M_obey 21 = .ok (.iconst 2, 1) := by decide +kernel
theorem d_M_obey_22 : decode b_M_obey 22 = .ok (.goto 4, 3) := by decide +kernel
theorem d_M_obey_25 : decode b_M_obey 25 = .ok (.iconst 0, 1) := by decide +kernel
theorem d_M_obey_26 : decode b_M_obey 26 = .ok (.putfield 71, 3) := by decide +kernel
theorem d_M_obey_29 : decode b_M_obey 29 = .ok (.aload_n 0, 1) := by decide +kernel
theorem d_M_obey_30 : decode b_M_obey 30 = .ok (.getfield 71, 3) := by decide +kernel
theorem d_M_obey_33 : decode b_M_obey 33 = .ok (.ifCond .le 5, 3) := by decide +kernel
theorem d_M_obey_36 : decode b_M_obey 36 = .ok (.iconst 0, 1) := by decide +kernel
theorem d_M_obey_37 : decode b_M_obey 37 = .ok (.ireturn, 1) := by decide +kernel
theorem d_M_obey_38 : decode b_M_obey 38 = .ok (.aload_n 0, 1) := by decide +kernel
theorem d_M_obey_39 : decode b_M_obey 39 = .ok (.iload_n 1, 1) := by decide +kernel
theorem d_M_obey_40 : decode b_M_obey 40 = .ok (.invokevirtual 101, 3) := by decide +kernel
theorem d_M_obey_43 : decode b_M_obey 43 = .ok (.istore_n 2, 1) := by decide +kernel
theorem d_M_obey_44 : decode b_M_obey 44 = .ok (.iconst 0, 1) := by decide +kernel
theorem d_M_obey_45 : decode b_M_obey 45 = .ok (.istore_n 3, 1) := by decide +kernel
theorem d_M_obey_46 : decode b_M_obey 46 = .ok (.iload_n 3, 1) := by decide +kernel
theorem d_M_obey_47 : decode b_M_obey 47 = .ok (.bipush 12, 2) := by decide +kernel
theorem d_M_obey_49 : decode b_M_obey 49 = .ok (.if_icmp .ge 50, 3) := by decide +kernel
theorem d_M_obey_52 : decode b_M_obey 52 = .ok (.bipush 12, 2) := by decide +kernel
theorem d_M_obey_54 : decode b_M_obey 54 = .ok (.iload_n 1, 1) := by decide +kernel
theorem d_M_obey_55 : decode b_M_obey 55 = .ok (.imul, 1) := by decide +kernel
theorem d_M_obey_56 : decode b_M_obey 56 = .ok (.iload_n 3, 1) := by decide +kernel
theorem d_M_obey_57 : decode b_M_obey 57 = .ok (.iadd, 1) := by decide +kernel
theorem d_M_obey_58 : decode b_M_obey 58 = .ok (.istore 4, 2) := by decide +kernel
theorem d_M_obey_60 : decode b_M_obey 60 = .ok (.aload_n 0, 1) := by decide +kernel
theorem d_M_obey_61 : decode b_M_obey 61 = .ok (.getfield 13, 3) := by decide +kernel
theorem d_M_obey_64 : decode b_M_obey 64 = .ok (.iload 4, 2) := by decide +kernel
theorem d_M_obey_66 : decode b_M_obey 66 = .ok (.iload_n 2, 1) := by decide +kernel
theorem d_M_obey_67 : decode b_M_obey 67 = .ok (.iload_n 3, 1) := by decide +kernel
theorem d_M_obey_68 : decode b_M_obey 68 = .ok (.ishr, 1) := by decide +kernel
theorem d_M_obey_69 : decode b_M_obey 69 = .ok (.iconst 1, 1) := by decide +kernel
theorem d_M_obey_70 : decode b_M_obey 70 = .ok (.iand, 1) := by decide +kernel
theorem d_M_obey_71 : decode b_M_obey 71 = .ok (.iconst 1, 1) := by decide +kernel
theorem d_M_obey_72 : decode b_M_obey 72 = .ok (.if_icmp .ne 13, 3) := by decide +kernel
theorem d_M_obey_75 : decode b_M_obey 75 = .ok (.aload_n 0, 1) := by decide +kernel
theorem d_M_obey_76 : decode b_M_obey 76 = .ok (.getfield 7, 3) := by decide +kernel
theorem d_M_obey_79 : decode b_M_obey 79 = .ok (.iload 4, 2) := by decide +kernel
theorem d_M_obey_81 : decode b_M_obey 81 = .ok (.iaload, 1) := by decide +kernel
theorem d_M_obey_82 : decode b_M_obey 82 = .ok (.goto 10, 3) := by decide +kernel
theorem d_M_obey_85 : decode b_M_obey 85 = .ok (.aload_n 0, 1) := by decide +kernel
theorem d_M_obey_86 : decode b_M_obey 86 = .ok (.getfield 13, 3) := by decide +kernel
theorem d_M_obey_89 : decode b_M_obey 89 = .ok (.iload 4, 2) := by decide +kernel
theorem d_M_obey_91 : decode b_M_obey 91 = .ok (.iaload, 1) := by decide +kernel
theorem d_M_obey_92 : decode b_M_obey 92 = .ok (.iastore, 1) := by decide +kernel
theorem d_M_obey_93 : decode b_M_obey 93 = .ok (.iinc 3 1, 3) := by decide +kernel
theorem d_M_obey_96 : decode b_M_obey 96 = .ok (.goto (-50), 3) := by decide +kernel
theorem d_M_obey_99 : decode b_M_obey 99 = .ok (.aload_n 0, 1) := by decide +kernel
theorem d_M_obey_100 : decode b_M_obey 100 = .ok (.getfield 29, 3) := by decide +kernel
theorem d_M_obey_103 : decode b_M_obey 103 = .ok (.iload_n 1, 1) := by decide +kernel
theorem d_M_obey_104 : decode b_M_obey 104 = .ok (.dup2, 1) := by decide +kernel
theorem d_M_obey_105 : decode b_M_obey 105 = .ok (.iaload, 1) := by decide +kernel
theorem d_M_obey_106 : decode b_M_obey 106 = .ok (.iconst 1, 1) := by decide +kernel
theorem d_M_obey_107 : decode b_M_obey 107 = .ok (.iadd, 1) := by decide +kernel
theorem d_M_obey_108 : decode b_M_obey 108 = .ok (.iastore, 1) := by decide +kernel
theorem d_M_obey_109 : decode b_M_obey 109 = .ok (.iload_n 2, 1) := by decide +kernel
theorem d_M_obey_110 : decode b_M_obey 110 = .ok (.invokestatic 105, 3) := by decide +kernel
theorem d_M_obey_113 : decode b_M_obey 113 = .ok (.ireturn, 1) := by decide +kernel
theorem d_M_refuse_0 : decode b_M_refuse 0 = .ok (.aload_n 0, 1) := by decide +kernel
theorem d_M_refuse_1 : decode b_M_refuse 1 = .ok (.iload_n 1, 1) := by decide +kernel
theorem d_M_refuse_2 : decode b_M_refuse 2 = .ok (.invokestatic 91, 3) := by decide +kernel
theorem d_M_refuse_5 : decode b_M_refuse 5 = .ok (.ifCond .eq 10, 3) := by decide +kernel
theorem d_M_refuse_8 : decode b_M_refuse 8 = .ok (.iload_n 2, 1) := by decide +kernel
theorem d_M_refuse_9 : decode b_M_refuse 9 = .ok (.invokestatic 79, 3) := by decide +kernel
theorem d_M_refuse_12 : decode b_M_refuse 12 = .ok (.ifCond .ne 7, 3) := by decide +kernel
theorem d_M_refuse_15 : decode b_M_refuse 15 = .ok (.iconst 1, 1) := by decide +kernel
theorem d_M_refuse_16 : decode b_M_refuse 16 = .ok (.goto 18, 3) := by decide +kernel
theorem d_M_refuse_19 : decode b_M_refuse 19 = .ok (.iload_n 3, 1) := by decide +kernel
theorem d_M_refuse_20 : decode b_M_refuse 20 = .ok (.iconst 1, 1) := by decide +kernel
theorem d_M_refuse_21 : decode b_M_refuse 21 = .ok (.bipush 9, 2) := by decide +kernel
theorem d_M_refuse_23 : decode b_M_refuse 23 = .ok (.invokestatic 75, 3) := by decide +kernel
theorem d_M_refuse_26 : decode b_M_refuse 26 = .ok (.ifCond .ne 7, 3) := by decide +kernel
theorem d_M_refuse_29 : decode b_M_refuse 29 = .ok (.iconst 2, 1) := by decide +kernel
theorem d_M_refuse_30 : decode b_M_refuse 30 = .ok (.goto 4, 3) := by decide +kernel
theorem d_M_refuse_33 : decode b_M_refuse 33 = .ok (.iconst 0, 1) := by decide +kernel
theorem d_M_refuse_34 : decode b_M_refuse 34 = .ok (.putfield 71, 3) := by decide +kernel
theorem d_M_refuse_37 : decode b_M_refuse 37 = .ok (.aload_n 0, 1) := by decide +kernel
theorem d_M_refuse_38 : decode b_M_refuse 38 = .ok (.getfield 71, 3) := by decide +kernel
theorem d_M_refuse_41 : decode b_M_refuse 41 = .ok (.ifCond .ne 30, 3) := by decide +kernel
theorem d_M_refuse_44 : decode b_M_refuse 44 = .ok (.aload_n 0, 1) := by decide +kernel
theorem d_M_refuse_45 : decode b_M_refuse 45 = .ok (.aload_n 0, 1) := by decide +kernel
theorem d_M_refuse_46 : decode b_M_refuse 46 = .ok (.getfield 25, 3) := by decide +kernel
theorem d_M_refuse_49 : decode b_M_refuse 49 = .ok (.iload_n 1, 1) := by decide +kernel
theorem d_M_refuse_50 : decode b_M_refuse 50 = .ok (.baload, 1) := by decide +kernel
theorem d_M_refuse_51 : decode b_M_refuse 51 = .ok (.ifCond .ne 12, 3) := by decide +kernel
theorem d_M_refuse_54 : decode b_M_refuse 54 = .ok (.aload_n 0, 1) := by decide +kernel
theorem d_M_refuse_55 : decode b_M_refuse 55 = .ok (.iload_n 1, 1) := by decide +kernel
theorem d_M_refuse_56 : decode b_M_refuse 56 = .ok (.iload_n 2, 1) := by decide +kernel
theorem d_M_refuse_57 : decode b_M_refuse 57 = .ok (.invokevirtual 87, 3) := by decide +kernel
theorem d_M_refuse_60 : decode b_M_refuse 60 = .ok (.ifCond .ne 7, 3) := by decide +kernel
theorem d_M_refuse_63 : decode b_M_refuse 63 = .ok (.iconst 3, 1) := by decide +kernel
theorem d_M_refuse_64 : decode b_M_refuse 64 = .ok (.goto 4, 3) := by decide +kernel
theorem d_M_refuse_67 : decode b_M_refuse 67 = .ok (.iconst 0, 1) := by decide +kernel
theorem d_M_refuse_68 : decode b_M_refuse 68 = .ok (.putfield 71, 3) := by decide +kernel
theorem d_M_refuse_71 : decode b_M_refuse 71 = .ok (.aload_n 0, 1) := by decide +kernel
theorem d_M_refuse_72 : decode b_M_refuse 72 = .ok (.getfield 71, 3) := by decide +kernel
theorem d_M_refuse_75 : decode b_M_refuse 75 = .ok (.ifCond .le 5, 3) := by decide +kernel
theorem d_M_refuse_78 : decode b_M_refuse 78 = .ok (.iconst 0, 1) := by decide +kernel
theorem d_M_refuse_79 : decode b_M_refuse 79 = .ok (.ireturn, 1) := by decide +kernel
theorem d_M_refuse_80 : decode b_M_refuse 80 = .ok (.aload_n 0, 1) := by decide +kernel
theorem d_M_refuse_81 : decode b_M_refuse 81 = .ok (.getfield 16, 3) := by decide +kernel
theorem d_M_refuse_84 : decode b_M_refuse 84 = .ok (.bipush 12, 2) := by decide +kernel
theorem d_M_refuse_86 : decode b_M_refuse 86 = .ok (.iload_n 1, 1) := by decide +kernel
theorem d_M_refuse_87 : decode b_M_refuse 87 = .ok (.imul, 1) := by decide +kernel
theorem d_M_refuse_88 : decode b_M_refuse 88 = .ok (.iload_n 2, 1) := by decide +kernel
theorem d_M_refuse_89 : decode b_M_refuse 89 = .ok (.iadd, 1) := by decide +kernel
theorem d_M_refuse_90 : decode b_M_refuse 90 = .ok (.iload_n 3, 1) := by decide +kernel
theorem d_M_refuse_91 : decode b_M_refuse 91 = .ok (.iastore, 1) := by decide +kernel
theorem d_M_refuse_92 : decode b_M_refuse 92 = .ok (.aload_n 0, 1) := by decide +kernel
theorem d_M_refuse_93 : decode b_M_refuse 93 = .ok (.iload_n 1, 1) := by decide +kernel
theorem d_M_refuse_94 : decode b_M_refuse 94 = .ok (.invokevirtual 101, 3) := by decide +kernel
theorem d_M_refuse_97 : decode b_M_refuse 97 = .ok (.invokestatic 105, 3) := by decide +kernel
theorem d_M_refuse_100 : decode b_M_refuse 100 = .ok (.ireturn, 1) := by decide +kernel
theorem d_M_sleep_0 : decode b_M_sleep 0 = .ok (.aload_n 0, 1) := by decide +kernel
theorem d_M_sleep_1 : decode b_M_sleep 1 = .ok (.iload_n 1, 1) := by decide +kernel
theorem d_M_sleep_2 : decode b_M_sleep 2 = .ok (.invokestatic 91, 3) := by decide +kernel
theorem d_M_sleep_5 : decode b_M_sleep 5 = .ok (.ifCond .eq 7, 3) := by decide +kernel
theorem d_M_sleep_8 : decode b_M_sleep 8 = .ok (.iconst 0, 1) := by decide +kernel
theorem d_M_sleep_9 : decode b_M_sleep 9 = .ok (.goto 4, 3) := by decide +kernel
theorem d_M_sleep_12 : decode b_M_sleep 12 = .ok (.iconst 1, 1) := by decide +kernel
theorem d_M_sleep_13 : decode b_M_sleep 13 = .ok (.putfield 71, 3) := by decide +kernel
theorem d_M_sleep_16 : decode b_M_sleep 16 = .ok (.aload_n 0, 1) := by decide +kernel
theorem d_M_sleep_17 : decode b_M_sleep 17 = .ok (.getfield 71, 3) := by decide +kernel
theorem d_M_sleep_20 : decode b_M_sleep 20 = .ok (.ifCond .le 5, 3) := by decide +kernel
theorem d_M_sleep_23 : decode b_M_sleep 23 = .ok (.iconst 0, 1) := by decide +kernel
theorem d_M_sleep_24 : decode b_M_sleep 24 = .ok (.ireturn, 1) := by decide +kernel
theorem d_M_sleep_25 : decode b_M_sleep 25 = .ok (.aload_n 0, 1) := by decide +kernel
theorem d_M_sleep_26 : decode b_M_sleep 26 = .ok (.getfield 25, 3) := by decide +kernel
theorem d_M_sleep_29 : decode b_M_sleep 29 = .ok (.iload_n 1, 1) := by decide +kernel
theorem d_M_sleep_30 : decode b_M_sleep 30 = .ok (.baload, 1) := by decide +kernel
theorem d_M_sleep_31 : decode b_M_sleep 31 = .ok (.ifCond .ne 7, 3) := by decide +kernel
theorem d_M_sleep_34 : decode b_M_sleep 34 = .ok (.iconst 1, 1) := by decide +kernel
theorem d_M_sleep_35 : decode b_M_sleep 35 = .ok (.goto 4, 3) := by decide +kernel
theorem d_M_sleep_38 : decode b_M_sleep 38 = .ok (.iconst 0, 1) := by decide +kernel
theorem d_M_sleep_39 : decode b_M_sleep 39 = .ok (.istore_n 2, 1) := by decide +kernel
theorem d_M_sleep_40 : decode b_M_sleep 40 = .ok (.aload_n 0, 1) := by decide +kernel
theorem d_M_sleep_41 : decode b_M_sleep 41 = .ok (.getfield 22, 3) := by decide +kernel
theorem d_M_sleep_44 : decode b_M_sleep 44 = .ok (.iload_n 1, 1) := by decide +kernel
theorem d_M_sleep_45 : decode b_M_sleep 45 = .ok (.iload_n 2, 1) := by decide +kernel
theorem d_M_sleep_46 : decode b_M_sleep 46 = .ok (.ifCond .eq 12, 3) := by decide +kernel
theorem d_M_sleep_49 : decode b_M_sleep 49 = .ok (.aload_n 0, 1) := by decide +kernel
theorem d_M_sleep_50 : decode b_M_sleep 50 = .ok (.getfield 19, 3) := by decide +kernel
theorem d_M_sleep_53 : decode b_M_sleep 53 = .ok (.iload_n 1, 1) := by decide +kernel
theorem d_M_sleep_54 : decode b_M_sleep 54 = .ok (.iaload, 1) := by decide +kernel
theorem d_M_sleep_55 : decode b_M_sleep 55 = .ok (.goto 9, 3) := by decide +kernel
theorem d_M_sleep_58 : decode b_M_sleep 58 = .ok (.aload_n 0, 1) := by decide +kernel
theorem d_M_sleep_59 : decode b_M_sleep 59 = .ok (.getfield 22, 3) := by decide +kernel
theorem d_M_sleep_62 : decode b_M_sleep 62 = .ok (.iload_n 1, 1) := by decide +kernel
theorem d_M_sleep_63 : decode b_M_sleep 63 = .ok (.iaload, 1) := by decide +kernel
theorem d_M_sleep_64 : decode b_M_sleep 64 = .ok (.iastore, 1) := by decide +kernel
theorem d_M_sleep_65 : decode b_M_sleep 65 = .ok (.aload_n 0, 1) := by decide +kernel
theorem d_M_sleep_66 : decode b_M_sleep 66 = .ok (.getfield 25, 3) := by decide +kernel
theorem d_M_sleep_69 : decode b_M_sleep 69 = .ok (.iload_n 1, 1) := by decide +kernel
theorem d_M_sleep_70 : decode b_M_sleep 70 = .ok (.iconst 1, 1) := by decide +kernel
theorem d_M_sleep_71 : decode b_M_sleep 71 = .ok (.bastore, 1) := by decide +kernel
theorem d_M_sleep_72 : decode b_M_sleep 72 = .ok (.iload_n 2, 1) := by decide +kernel
theorem d_M_sleep_73 : decode b_M_sleep 73 = .ok (.ireturn, 1) := by decide +kernel
theorem d_M_wake_0 : decode b_M_wake 0 = .ok (.aload_n 0, 1) := by decide +kernel
theorem d_M_wake_1 : decode b_M_wake 1 = .ok (.iload_n 1, 1) := by decide +kernel
theorem d_M_wake_2 : decode b_M_wake 2 = .ok (.invokestatic 91, 3) := by decide +kernel
theorem d_M_wake_5 : decode b_M_wake 5 = .ok (.ifCond .eq 7, 3) := by decide +kernel
theorem d_M_wake_8 : decode b_M_wake 8 = .ok (.iconst 0, 1) := by decide +kernel
theorem d_M_wake_9 : decode b_M_wake 9 = .ok (.goto 4, 3) := by decide +kernel
theorem d_M_wake_12 : decode b_M_wake 12 = .ok (.iconst 1, 1) := by decide +kernel
theorem d_M_wake_13 : decode b_M_wake 13 = .ok (.putfield 71, 3) := by decide +kernel
theorem d_M_wake_16 : decode b_M_wake 16 = .ok (.aload_n 0, 1) := by decide +kernel
theorem d_M_wake_17 : decode b_M_wake 17 = .ok (.getfield 71, 3) := by decide +kernel
theorem d_M_wake_20 : decode b_M_wake 20 = .ok (.ifCond .le 5, 3) := by decide +kernel
theorem d_M_wake_23 : decode b_M_wake 23 = .ok (.iconst 0, 1) := by decide +kernel
theorem d_M_wake_24 : decode b_M_wake 24 = .ok (.ireturn, 1) := by decide +kernel
theorem d_M_wake_25 : decode b_M_wake 25 = .ok (.aload_n 0, 1) := by decide +kernel
theorem d_M_wake_26 : decode b_M_wake 26 = .ok (.getfield 19, 3) := by decide +kernel
theorem d_M_wake_29 : decode b_M_wake 29 = .ok (.iload_n 1, 1) := by decide +kernel
theorem d_M_wake_30 : decode b_M_wake 30 = .ok (.iaload, 1) := by decide +kernel
theorem d_M_wake_31 : decode b_M_wake 31 = .ok (.aload_n 0, 1) := by decide +kernel
theorem d_M_wake_32 : decode b_M_wake 32 = .ok (.iload_n 1, 1) := by decide +kernel
theorem d_M_wake_33 : decode b_M_wake 33 = .ok (.invokevirtual 108, 3) := by decide +kernel
theorem d_M_wake_36 : decode b_M_wake 36 = .ok (.isub, 1) := by decide +kernel
theorem d_M_wake_37 : decode b_M_wake 37 = .ok (.istore_n 2, 1) := by decide +kernel
theorem d_M_wake_38 : decode b_M_wake 38 = .ok (.aload_n 0, 1) := by decide +kernel
theorem d_M_wake_39 : decode b_M_wake 39 = .ok (.getfield 25, 3) := by decide +kernel
theorem d_M_wake_42 : decode b_M_wake 42 = .ok (.iload_n 1, 1) := by decide +kernel
theorem d_M_wake_43 : decode b_M_wake 43 = .ok (.iconst 0, 1) := by decide +kernel
theorem d_M_wake_44 : decode b_M_wake 44 = .ok (.bastore, 1) := by decide +kernel
theorem d_M_wake_45 : decode b_M_wake 45 = .ok (.iload_n 2, 1) := by decide +kernel
theorem d_M_wake_46 : decode b_M_wake 46 = .ok (.ireturn, 1) := by decide +kernel
theorem d_M_heardOf_0 : decode b_M_heardOf 0 = .ok (.aload_n 0, 1) := by decide +kernel
theorem d_M_heardOf_1 : decode b_M_heardOf 1 = .ok (.getfield 25, 3) := by decide +kernel
theorem d_M_heardOf_4 : decode b_M_heardOf 4 = .ok (.iload_n 1, 1) := by decide +kernel
theorem d_M_heardOf_5 : decode b_M_heardOf 5 = .ok (.baload, 1) := by decide +kernel
theorem d_M_heardOf_6 : decode b_M_heardOf 6 = .ok (.ifCond .eq 12, 3) := by decide +kernel
theorem d_M_heardOf_9 : decode b_M_heardOf 9 = .ok (.aload_n 0, 1) := by decide +kernel
theorem d_M_heardOf_10 : decode b_M_heardOf 10 = .ok (.getfield 22, 3) := by decide +kernel
theorem d_M_heardOf_13 : decode b_M_heardOf 13 = .ok (.iload_n 1, 1) := by decide +kernel
theorem d_M_heardOf_14 : decode b_M_heardOf 14 = .ok (.iaload, 1) := by decide +kernel
theorem d_M_heardOf_15 : decode b_M_heardOf 15 = .ok (.goto 9, 3) := by decide +kernel
theorem d_M_heardOf_18 : decode b_M_heardOf 18 = .ok (.aload_n 0, 1) := by decide +kernel
theorem d_M_heardOf_19 : decode b_M_heardOf 19 = .ok (.getfield 19, 3) := by decide +kernel
theorem d_M_heardOf_22 : decode b_M_heardOf 22 = .ok (.iload_n 1, 1) := by decide +kernel
theorem d_M_heardOf_23 : decode b_M_heardOf 23 = .ok (.iaload, 1) := by decide +kernel
theorem d_M_heardOf_24 : decode b_M_heardOf 24 = .ok (.ireturn, 1) := by decide +kernel
theorem d_M_setGroup_0 : decode b_M_setGroup 0 = .ok (.aload_n 0, 1) := by decide +kernel
theorem d_M_setGroup_1 : decode b_M_setGroup 1 = .ok (.iload_n 1, 1) := by decide +kernel
theorem d_M_setGroup_2 : decode b_M_setGroup 2 = .ok (.invokestatic 111, 3) := by decide +kernel
theorem d_M_setGroup_5 : decode b_M_setGroup 5 = .ok (.ifCond .eq 10, 3) := by decide +kernel
theorem d_M_setGroup_8 : decode b_M_setGroup 8 = .ok (.iload_n 2, 1) := by decide +kernel
theorem d_M_setGroup_9 : decode b_M_setGroup 9 = .ok (.invokestatic 79, 3) := by decide +kernel
theorem d_M_setGroup_12 : decode b_M_setGroup 12 = .ok (.ifCond .ne 7, 3) := by decide +kernel
theorem d_M_setGroup_15 : decode b_M_setGroup 15 = .ok (.iconst 1, 1) := by decide +kernel
theorem d_M_setGroup_16 : decode b_M_setGroup 16 = .ok (.goto 29, 3) := by decide +kernel
theorem d_M_setGroup_19 : decode b_M_setGroup 19 = .ok (.iload_n 3, 1) := by decide +kernel
theorem d_M_setGroup_20 : decode b_M_setGroup 20 = .ok (.iconst 0, 1) := by decide +kernel
theorem d_M_setGroup_21 : decode b_M_setGroup 21 = .ok (.bipush 99, 2) := by decide +kernel
theorem d_M_setGroup_23 : decode b_M_setGroup 23 = .ok (.invokestatic 75, 3) := by decide +kernel
theorem d_M_setGroup_26 : decode b_M_setGroup 26 = .ok (.ifCond .eq 18, 3) := by decide +kernel
theorem d_M_setGroup_29 : decode b_M_setGroup 29 = .ok (.iload 4, 2) := by decide +kernel
theorem d_M_setGroup_31 : decode b_M_setGroup 31 = .ok (.iload_n 3, 1) := by decide +kernel
theorem d_M_setGroup_32 : decode b_M_setGroup 32 = .ok (.bipush 99, 2) := by decide +kernel
theorem d_M_setGroup_34 : decode b_M_setGroup 34 = .ok (.invokestatic 75, 3) := by decide +kernel
theorem d_M_setGroup_37 : decode b_M_setGroup 37 = .ok (.ifCond .eq 7, 3) := by decide +kernel
theorem d_M_setGroup_40 : decode b_M_setGroup 40 = .ok (.iconst 0, 1) := by decide +kernel
theorem d_M_setGroup_41 : decode b_M_setGroup 41 = .ok (.goto 4, 3) := by decide +kernel
theorem d_M_setGroup_44 : decode b_M_setGroup 44 = .ok (.iconst 2, 1) := by decide +kernel
theorem d_M_setGroup_45 : decode b_M_setGroup 45 = .ok (.putfield 71, 3) := by decide +kernel
theorem d_M_setGroup_48 : decode b_M_setGroup 48 = .ok (.aload_n 0, 1) := by decide +kernel
theorem d_M_setGroup_49 : decode b_M_setGroup 49 = .ok (.getfield 71, 3) := by decide +kernel
theorem d_M_setGroup_52 : decode b_M_setGroup 52 = .ok (.ifCond .le 5, 3) := by decide +kernel
theorem d_M_setGroup_55 : decode b_M_setGroup 55 = .ok (.iconst 0, 1) := by decide +kernel
theorem d_M_setGroup_56 : decode b_M_setGroup 56 = .ok (.ireturn, 1) := by decide +kernel
theorem d_M_setGroup_57 : decode b_M_setGroup 57 = .ok (.aload_n 0, 1) := by decide +kernel
theorem d_M_setGroup_58 : decode b_M_setGroup 58 = .ok (.getfield 35, 3) := by decide +kernel
theorem d_M_setGroup_61 : decode b_M_setGroup 61 = .ok (.iload_n 1, 1) := by decide +kernel
theorem d_M_setGroup_62 : decode b_M_setGroup 62 = .ok (.iload_n 2, 1) := by decide +kernel
theorem d_M_setGroup_63 : decode b_M_setGroup 63 = .ok (.iastore, 1) := by decide +kernel
theorem d_M_setGroup_64 : decode b_M_setGroup 64 = .ok (.aload_n 0, 1) := by decide +kernel
theorem d_M_setGroup_65 : decode b_M_setGroup 65 = .ok (.getfield 38, 3) := by decide +kernel
theorem d_M_setGroup_68 : decode b_M_setGroup 68 = .ok (.iload_n 1, 1) := by decide +kernel
theorem d_M_setGroup_69 : decode b_M_setGroup 69 = .ok (.iload_n 3, 1) := by decide +kernel
theorem d_M_setGroup_70 : decode b_M_setGroup 70 = .ok (.iastore, 1) := by decide +kernel
theorem d_M_setGroup_71 : decode b_M_setGroup 71 = .ok (.aload_n 0, 1) := by decide +kernel
theorem d_M_setGroup_72 : decode b_M_setGroup 72 = .ok (.getfield 41, 3) := by decide +kernel
theorem d_M_setGroup_75 : decode b_M_setGroup 75 = .ok (.iload_n 1, 1) := by decide +kernel
theorem d_M_setGroup_76 : decode b_M_setGroup 76 = .ok (.iload 4, 2) := by decide +kernel
theorem d_M_setGroup_78 : decode b_M_setGroup 78 = .ok (.iastore, 1) := by decide +kernel
theorem d_M_setGroup_79 : decode b_M_setGroup 79 = .ok (.aload_n 0, 1) := by decide +kernel
theorem d_M_setGroup_80 : decode b_M_setGroup 80 = .ok (.iload_n 1, 1) := by decide +kernel
theorem d_M_setGroup_81 : decode b_M_setGroup 81 = .ok (.invokevirtual 114, 3) := by decide +kernel
theorem d_M_setGroup_84 : decode b_M_setGroup 84 = .ok (.invokestatic 105, 3) := by decide +kernel
theorem d_M_setGroup_87 : decode b_M_setGroup 87 = .ok (.ireturn, 1) := by decide +kernel
theorem d_M_isGroup_0 : decode b_M_isGroup 0 = .ok (.iload_n 0, 1) := by decide +kernel
theorem d_M_isGroup_1 : decode b_M_isGroup 1 = .ok (.iconst 0, 1) := by decide +kernel
theorem d_M_isGroup_2 : decode b_M_isGroup 2 = .ok (.iconst 3, 1) := by decide +kernel
theorem d_M_isGroup_3 : decode b_M_isGroup 3 = .ok (.invokestatic 75, 3) := by decide +kernel
theorem d_M_isGroup_6 : decode b_M_isGroup 6 = .ok (.ireturn, 1) := by decide +kernel
theorem d_M_membersOf_0 : decode b_M_membersOf 0 = .ok (.iconst 0, 1) := by decide +kernel
theorem d_M_membersOf_1 : decode b_M_membersOf 1 = .ok (.istore_n 2, 1) := by decide +kernel
theorem d_M_membersOf_2 : decode b_M_membersOf 2 = .ok (.iconst 0, 1) := by decide +kernel
theorem d_M_membersOf_3 : decode b_M_membersOf 3 = .ok (.istore_n 3, 1) := by decide +kernel
theorem d_M_membersOf_4 : decode b_M_membersOf 4 = .ok (.iload_n 3, 1) := by decide +kernel
theorem d_M_membersOf_5 : decode b_M_membersOf 5 = .ok (.bipush 8, 2) := by decide +kernel
theorem d_M_membersOf_7 : decode b_M_membersOf 7 = .ok (.if_icmp .ge 59, 3) := by decide +kernel
theorem d_M_membersOf_10 : decode b_M_membersOf 10 = .ok (.aload_n 0, 1) := by decide +kernel
theorem d_M_membersOf_11 : decode b_M_membersOf 11 = .ok (.getfield 13, 3) := by decide +kernel
theorem d_M_membersOf_14 : decode b_M_membersOf 14 = .ok (.bipush 12, 2) := by decide +kernel
theorem d_M_membersOf_16 : decode b_M_membersOf 16 = .ok (.iload_n 3, 1) := by decide +kernel
theorem d_M_membersOf_17 : decode b_M_membersOf 17 = .ok (.imul, 1) := by decide +kernel
theorem d_M_membersOf_18 : decode b_M_membersOf 18 = .ok (.aload_n 0, 1) := by decide +kernel
theorem d_M_membersOf_19 : decode b_M_membersOf 19 = .ok (.getfield 35, 3) := by decide +kernel
theorem d_M_membersOf_22 : decode b_M_membersOf 22 = .ok (.iload_n 1, 1) := by decide +kernel
theorem d_M_membersOf_23 : decode b_M_membersOf 23 = .ok (.iaload, 1) := by decide +kernel
theorem d_M_membersOf_24 : decode b_M_membersOf 24 = .ok (.iadd, 1) := by decide +kernel
theorem d_M_membersOf_25 : decode b_M_membersOf 25 = .ok (.iaload, 1) := by decide +kernel
theorem d_M_membersOf_26 : decode b_M_membersOf 26 = .ok (.iconst 1, 1) := by decide +kernel
theorem d_M_membersOf_27 : decode b_M_membersOf 27 = .ok (.isub, 1) := by decide +kernel
theorem d_M_membersOf_28 : decode b_M_membersOf 28 = .ok (.istore 4, 2) := by decide +kernel
theorem d_M_membersOf_30 : decode b_M_membersOf 30 = .ok (.iload_n 2, 1) := by decide +kernel
theorem d_M_membersOf_31 : decode b_M_membersOf 31 = .ok (.iload 4, 2) := by decide +kernel
theorem d_M_membersOf_33 : decode b_M_membersOf 33 = .ok (.aload_n 0, 1) := by decide +kernel
theorem d_M_membersOf_34 : decode b_M_membersOf 34 = .ok (.getfield 38, 3) := by decide +kernel
theorem d_M_membersOf_37 : decode b_M_membersOf 37 = .ok (.iload_n 1, 1) := by decide +kernel
theorem d_M_membersOf_38 : decode b_M_membersOf 38 = .ok (.iaload, 1) := by decide +kernel
theorem d_M_membersOf_39 : decode b_M_membersOf 39 = .ok (.aload_n 0, 1) := by decide +kernel
theorem d_M_membersOf_40 : decode b_M_membersOf 40 = .ok (.getfield 41, 3) := by decide +kernel
theorem d_M_membersOf_43 : decode b_M_membersOf 43 = .ok (.iload_n 1, 1) := by decide +kernel
theorem d_M_membersOf_44 : decode b_M_membersOf 44 = .ok (.iaload, 1) := by decide +kernel
theorem d_M_membersOf_45 : decode b_M_membersOf 45 = .ok (.invokestatic 75, 3) := by decide +kernel
theorem d_M_membersOf_48 : decode b_M_membersOf 48 = .ok (.ifCond .eq 9, 3) := by decide +kernel
theorem d_M_membersOf_51 : decode b_M_membersOf 51 = .ok (.iconst 1, 1) := by decide +kernel
theorem d_M_membersOf_52 : decode b_M_membersOf 52 = .ok (.iload_n 3, 1) := by decide +kernel
theorem d_M_membersOf_53 : decode b_M_membersOf 53 = .ok (.ishl, 1) := by decide +kernel
theorem d_M_membersOf_54 : decode b_M_membersOf 54 = .ok (.goto 4, 3) := by decide +kernel
theorem d_M_membersOf_57 : decode b_M_membersOf 57 = .ok (.iconst 0, 1) := by decide +kernel
theorem d_M_membersOf_58 : decode b_M_membersOf 58 = .ok (.ior, 1) := by decide +kernel
theorem d_M_membersOf_59 : decode b_M_membersOf 59 = .ok (.istore_n 2, 1) := by decide +kernel
theorem d_M_membersOf_60 : decode b_M_membersOf 60 = .ok (.iinc 3 1, 3) := by decide +kernel
theorem d_M_membersOf_63 : decode b_M_membersOf 63 = .ok (.goto (-59), 3) := by decide +kernel
theorem d_M_membersOf_66 : decode b_M_membersOf 66 = .ok (.iload_n 2, 1) := by decide +kernel
theorem d_M_membersOf_67 : decode b_M_membersOf 67 = .ok (.ireturn, 1) := by decide +kernel
theorem d_M_addJob_0 : decode b_M_addJob 0 = .ok (.iload_n 3, 1) := by decide +kernel
theorem d_M_addJob_1 : decode b_M_addJob 1 = .ok (.iconst 0, 1) := by decide +kernel
theorem d_M_addJob_2 : decode b_M_addJob 2 = .ok (.bipush 99, 2) := by decide +kernel
theorem d_M_addJob_4 : decode b_M_addJob 4 = .ok (.invokestatic 75, 3) := by decide +kernel
theorem d_M_addJob_7 : decode b_M_addJob 7 = .ok (.ifCond .eq 29, 3) := by decide +kernel
theorem d_M_addJob_10 : decode b_M_addJob 10 = .ok (.iload 4, 2) := by decide +kernel
theorem d_M_addJob_12 : decode b_M_addJob 12 = .ok (.iconst 1, 1) := by decide +kernel
theorem d_M_addJob_13 : decode b_M_addJob 13 = .ok (.bipush 8, 2) := by decide +kernel
theorem d_M_addJob_15 : decode b_M_addJob 15 = .ok (.invokestatic 75, 3) := by decide +kernel
theorem d_M_addJob_18 : decode b_M_addJob 18 = .ok (.ifCond .eq 18, 3) := by decide +kernel
theorem d_M_addJob_21 : decode b_M_addJob 21 = .ok (.iload 5, 2) := by decide +kernel
theorem d_M_addJob_23 : decode b_M_addJob 23 = .ok (.iconst 1, 1) := by decide +kernel
theorem d_M_addJob_24 : decode b_M_addJob 24 = .ok (.bipush 8, 2) := by decide +kernel
theorem d_M_addJob_26 : decode b_M_addJob 26 = .ok (.invokestatic 75, 3) := by decide +kernel
theorem d_M_addJob_29 : decode b_M_addJob 29 = .ok (.ifCond .eq 7, 3) := by decide +kernel
theorem d_M_addJob_32 : decode b_M_addJob 32 = .ok (.iconst 1, 1) := by decide +kernel
theorem d_M_addJob_33 : decode b_M_addJob 33 = .ok (.goto 4, 3) := by decide +kernel
theorem d_M_addJob_36 : decode b_M_addJob 36 = .ok (.iconst 0, 1) := by decide +kernel
theorem d_M_addJob_37 : decode b_M_addJob 37 = .ok (.istore 6, 2) := by decide +kernel
theorem d_M_addJob_39 : decode b_M_addJob 39 = .ok (.aload_n 0, 1) := by decide +kernel
theorem d_M_addJob_40 : decode b_M_addJob 40 = .ok (.iload_n 1, 1) := by decide +kernel
theorem d_M_addJob_41 : decode b_M_addJob 41 = .ok (.invokestatic 111, 3) := by decide +kernel
theorem d_M_addJob_44 : decode b_M_addJob 44 = .ok (.ifCond .eq 10, 3) := by decide +kernel
theorem d_M_addJob_47 : decode b_M_addJob 47 = .ok (.iload_n 2, 1) := by decide +kernel
theorem d_M_addJob_48 : decode b_M_addJob 48 = .ok (.invokestatic 79, 3) := by decide +kernel
theorem d_M_addJob_51 : decode b_M_addJob 51 = .ok (.ifCond .ne 7, 3) := by decide +kernel
theorem d_M_addJob_54 : decode b_M_addJob 54 = .ok (.iconst 1, 1) := by decide +kernel
theorem d_M_addJob_55 : decode b_M_addJob 55 = .ok (.goto 26, 3) := by decide +kernel
theorem d_M_addJob_58 : decode b_M_addJob 58 = .ok (.iload 6, 2) := by decide +kernel
theorem d_M_addJob_60 : decode b_M_addJob 60 = .ok (.ifCond .ne 7, 3) := by decide +kernel
theorem d_M_addJob_63 : decode b_M_addJob 63 = .ok (.iconst 2, 1) := by decide +kernel
theorem d_M_addJob_64 : decode b_M_addJob 64 = .ok (.goto 17, 3) := by decide +kernel
theorem d_M_addJob_67 : decode b_M_addJob 67 = .ok (.aload_n 0, 1) := by decide +kernel
theorem d_M_addJob_68 : decode b_M_addJob 68 = .ok (.getfield 117, 3) := by decide +kernel
theorem d_M_addJob_71 : decode b_M_addJob 71 = .ok (.bipush 8, 2) := by decide +kernel
theorem d_M_addJob_73 : decode b_M_addJob 73 = .ok (.if_icmp .ne 7, 3) := by decide +kernel
theorem d_M_addJob_76 : decode b_M_addJob 76 = .ok (.iconst 3, 1) := by decide +kernel
theorem d_M_addJob_77 : decode b_M_addJob 77 = .ok (.goto 4, 3) := by decide +kernel
theorem d_M_addJob_80 : decode b_M_addJob 80 = .ok (.iconst 0, 1) := by decide +kernel
theorem d_M_addJob_81 : decode b_M_addJob 81 = .ok (.putfield 71, 3) := by decide +kernel
theorem d_M_addJob_84 : decode b_M_addJob 84 = .ok (.aload_n 0, 1) := by decide +kernel
theorem d_M_addJob_85 : decode b_M_addJob 85 = .ok (.getfield 71, 3) := by decide +kernel
theorem d_M_addJob_88 : decode b_M_addJob 88 = .ok (.ifCond .le 5, 3) := by decide +kernel
theorem d_M_addJob_91 : decode b_M_addJob 91 = .ok (.iconst 0, 1) := by decide +kernel
theorem d_M_addJob_92 : decode b_M_addJob 92 = .ok (.ireturn, 1) := by decide +kernel
theorem d_M_addJob_93 : decode b_M_addJob 93 = .ok (.aload_n 0, 1) := by decide +kernel
theorem d_M_addJob_94 : decode b_M_addJob 94 = .ok (.getfield 44, 3) := by decide +kernel
theorem d_M_addJob_97 : decode b_M_addJob 97 = .ok (.aload_n 0, 1) := by decide +kernel
theorem d_M_addJob_98 : decode b_M_addJob 98 = .ok (.getfield 117, 3) := by decide +kernel
theorem d_M_addJob_101 : decode b_M_addJob 101 = .ok (.iload_n 1, 1) := by decide +kernel
theorem d_M_addJob_102 : decode b_M_addJob 102 = .ok (.iastore, 1) := by decide +kernel
theorem d_M_addJob_103 : decode b_M_addJob 103 = .ok (.aload_n 0, 1) := by decide +kernel
theorem d_M_addJob_104 : decode b_M_addJob 104 = .ok (.getfield 47, 3) := by decide +kernel
theorem d_M_addJob_107 : decode b_M_addJob 107 = .ok (.aload_n 0, 1) := by decide +kernel
theorem d_M_addJob_108 : decode b_M_addJob 108 = .ok (.getfield 117, 3) := by decide +kernel
theorem d_M_addJob_111 : decode b_M_addJob 111 = .ok (.iload_n 2, 1) := by decide +kernel
theorem d_M_addJob_112 : decode b_M_addJob 112 = .ok (.iastore, 1) := by decide +kernel
theorem d_M_addJob_113 : decode b_M_addJob 113 = .ok (.aload_n 0, 1) := by decide +kernel
theorem d_M_addJob_114 : decode b_M_addJob 114 = .ok (.getfield 50, 3) := by decide +kernel
theorem d_M_addJob_117 : decode b_M_addJob 117 = .ok (.aload_n 0, 1) := by decide +kernel
theorem d_M_addJob_118 : decode b_M_addJob 118 = .ok (.getfield 117, 3) := by decide +kernel
theorem d_M_addJob_121 : decode b_M_addJob 121 = .ok (.iload_n 3, 1) := by decide +kernel
theorem d_M_addJob_122 : decode b_M_addJob 122 = .ok (.iastore, 1) := by decide +kernel
theorem d_M_addJob_123 : decode b_M_addJob 123 = .ok (.aload_n 0, 1) := by decide +kernel
theorem d_M_addJob_124 : decode b_M_addJob 124 = .ok (.getfield 53, 3) := by decide +kernel
theorem d_M_addJob_127 : decode b_M_addJob 127 = .ok (.aload_n 0, 1) := by decide +kernel
theorem d_M_addJob_128 : decode b_M_addJob 128 = .ok (.getfield 117, 3) := by decide +kernel
theorem d_M_addJob_131 : decode b_M_addJob 131 = .ok (.iload 4, 2) := by decide +kernel
theorem d_M_addJob_133 : decode b_M_addJob 133 = .ok (.iastore, 1) := by decide +kernel
theorem d_M_addJob_134 : decode b_M_addJob 134 = .ok (.aload_n 0, 1) := by decide +kernel
theorem d_M_addJob_135 : decode b_M_addJob 135 = .ok (.getfield 56, 3) := by decide +kernel
theorem d_M_addJob_138 : decode b_M_addJob 138 = .ok (.aload_n 0, 1) := by decide +kernel
theorem d_M_addJob_139 : decode b_M_addJob 139 = .ok (.getfield 117, 3) := by decide +kernel
theorem d_M_addJob_142 : decode b_M_addJob 142 = .ok (.iload 5, 2) := by decide +kernel
theorem d_M_addJob_144 : decode b_M_addJob 144 = .ok (.iastore, 1) := by decide +kernel
theorem d_M_addJob_145 : decode b_M_addJob 145 = .ok (.aload_n 0, 1) := by decide +kernel
theorem d_M_addJob_146 : decode b_M_addJob 146 = .ok (.getfield 59, 3) := by decide +kernel
theorem d_M_addJob_149 : decode b_M_addJob 149 = .ok (.aload_n 0, 1) := by decide +kernel
theorem d_M_addJob_150 : decode b_M_addJob 150 = .ok (.getfield 117, 3) := by decide +kernel
theorem d_M_addJob_153 : decode b_M_addJob 153 = .ok (.iconst 0, 1) := by decide +kernel
theorem d_M_addJob_154 : decode b_M_addJob 154 = .ok (.iastore, 1) := by decide +kernel
theorem d_M_addJob_155 : decode b_M_addJob 155 = .ok (.aload_n 0, 1) := by decide +kernel
theorem d_M_addJob_156 : decode b_M_addJob 156 = .ok (.dup, 1) := by decide +kernel
theorem d_M_addJob_157 : decode b_M_addJob 157 = .ok (.getfield 117, 3) := by decide +kernel
theorem d_M_addJob_160 : decode b_M_addJob 160 = .ok (.iconst 1, 1) := by decide +kernel
theorem d_M_addJob_161 : decode b_M_addJob 161 = .ok (.iadd, 1) := by decide +kernel
theorem d_M_addJob_162 : decode b_M_addJob 162 = .ok (.putfield 117, 3) := by decide +kernel
theorem d_M_addJob_165 : decode b_M_addJob 165 = .ok (.aload_n 0, 1) := by decide +kernel
theorem d_M_addJob_166 : decode b_M_addJob 166 = .ok (.getfield 117, 3) := by decide +kernel
theorem d_M_addJob_169 : decode b_M_addJob 169 = .ok (.iconst 1, 1) := by decide +kernel
theorem d_M_addJob_170 : decode b_M_addJob 170 = .ok (.isub, 1) := by decide +kernel
theorem d_M_addJob_171 : decode b_M_addJob 171 = .ok (.ireturn, 1) := by decide +kernel
theorem d_M_wave_0 : decode b_M_wave 0 = .ok (.aload_n 0, 1) := by decide +kernel
theorem d_M_wave_1 : decode b_M_wave 1 = .ok (.iconst 0, 1) := by decide +kernel
theorem d_M_wave_2 : decode b_M_wave 2 = .ok (.putfield 71, 3) := by decide +kernel
theorem d_M_wave_5 : decode b_M_wave 5 = .ok (.iconst 0, 1) := by decide +kernel
theorem d_M_wave_6 : decode b_M_wave 6 = .ok (.istore_n 1, 1) := by decide +kernel
theorem d_M_wave_7 : decode b_M_wave 7 = .ok (.iconst 0, 1) := by decide +kernel
theorem d_M_wave_8 : decode b_M_wave 8 = .ok (.istore_n 2, 1) := by decide +kernel
theorem d_M_wave_9 : decode b_M_wave 9 = .ok (.iload_n 2, 1) := by decide +kernel
theorem d_M_wave_10 : decode b_M_wave 10 = .ok (.aload_n 0, 1) := by decide +kernel
theorem d_M_wave_11 : decode b_M_wave 11 = .ok (.getfield 117, 3) := by decide +kernel
theorem d_M_wave_14 : decode b_M_wave 14 = .ok (.if_icmp .ge 59, 3) := by decide +kernel
theorem d_M_wave_17 : decode b_M_wave 17 = .ok (.aload_n 0, 1) := by decide +kernel
theorem d_M_wave_18 : decode b_M_wave 18 = .ok (.getfield 59, 3) := by decide +kernel
theorem d_M_wave_21 : decode b_M_wave 21 = .ok (.iload_n 2, 1) := by decide +kernel
theorem d_M_wave_22 : decode b_M_wave 22 = .ok (.iaload, 1) := by decide +kernel
theorem d_M_wave_23 : decode b_M_wave 23 = .ok (.ifCond .ne 44, 3) := by decide +kernel
theorem d_M_wave_26 : decode b_M_wave 26 = .ok (.aload_n 0, 1) := by decide +kernel
theorem d_M_wave_27 : decode b_M_wave 27 = .ok (.iload_n 2, 1) := by decide +kernel
theorem d_M_wave_28 : decode b_M_wave 28 = .ok (.invokevirtual 120, 3) := by decide +kernel
theorem d_M_wave_31 : decode b_M_wave 31 = .ok (.aload_n 0, 1) := by decide +kernel
theorem d_M_wave_32 : decode b_M_wave 32 = .ok (.getfield 68, 3) := by decide +kernel
theorem d_M_wave_35 : decode b_M_wave 35 = .ok (.iload_n 2, 1) := by decide +kernel
theorem d_M_wave_36 : decode b_M_wave 36 = .ok (.iaload, 1) := by decide +kernel
theorem d_M_wave_37 : decode b_M_wave 37 = .ok (.invokestatic 105, 3) := by decide +kernel
theorem d_M_wave_40 : decode b_M_wave 40 = .ok (.aload_n 0, 1) := by decide +kernel
theorem d_M_wave_41 : decode b_M_wave 41 = .ok (.getfield 56, 3) := by decide +kernel
theorem d_M_wave_44 : decode b_M_wave 44 = .ok (.iload_n 2, 1) := by decide +kernel
theorem d_M_wave_45 : decode b_M_wave 45 = .ok (.iaload, 1) := by decide +kernel
theorem d_M_wave_46 : decode b_M_wave 46 = .ok (.if_icmp .lt 13, 3) := by decide +kernel
theorem d_M_wave_49 : decode b_M_wave 49 = .ok (.aload_n 0, 1) := by decide +kernel
theorem d_M_wave_50 : decode b_M_wave 50 = .ok (.getfield 59, 3) := by decide +kernel
theorem d_M_wave_53 : decode b_M_wave 53 = .ok (.iload_n 2, 1) := by decide +kernel
theorem d_M_wave_54 : decode b_M_wave 54 = .ok (.iconst 1, 1) := by decide +kernel
theorem d_M_wave_55 : decode b_M_wave 55 = .ok (.iastore, 1) := by decide +kernel
theorem d_M_wave_56 : decode b_M_wave 56 = .ok (.goto 11, 3) := by decide +kernel
theorem d_M_wave_59 : decode b_M_wave 59 = .ok (.iload_n 1, 1) := by decide +kernel
theorem d_M_wave_60 : decode b_M_wave 60 = .ok (.aload_n 0, 1) := by decide +kernel
theorem d_M_wave_61 : decode b_M_wave 61 = .ok (.iload_n 2, 1) := by decide +kernel
theorem d_M_wave_62 : decode b_M_wave 62 = .ok (.invokevirtual 124, 3) := by decide +kernel
theorem d_M_wave_65 : decode b_M_wave 65 = .ok (.iadd, 1) := by decide +kernel
theorem d_M_wave_66 : decode b_M_wave 66 = .ok (.istore_n 1, 1) := by decide +kernel
theorem d_M_wave_67 : decode b_M_wave 67 = .ok (.iinc 2 1, 3) := by decide +kernel
theorem d_M_wave_70 : decode b_M_wave 70 = .ok (.goto (-61), 3) := by decide +kernel
theorem d_M_wave_73 : decode b_M_wave 73 = .ok (.iload_n 1, 1) := by decide +kernel
theorem d_M_wave_74 : decode b_M_wave 74 = .ok (.ireturn, 1) := by decide +kernel
theorem d_M_looks_0 : decode b_M_looks 0 = .ok (.iconst 0, 1) := by decide +kernel
theorem d_M_looks_1 : decode b_M_looks 1 = .ok (.istore_n 2, 1) := by decide +kernel
theorem d_M_looks_2 : decode b_M_looks 2 = .ok (.iload_n 2, 1) := by decide +kernel
theorem d_M_looks_3 : decode b_M_looks 3 = .ok (.bipush 8, 2) := by decide +kernel
theorem d_M_looks_5 : decode b_M_looks 5 = .ok (.if_icmp .ge 140, 3) := by decide +kernel
theorem d_M_looks_8 : decode b_M_looks 8 = .ok (.bipush 12, 2) := by decide +kernel
theorem d_M_looks_10 : decode b_M_looks 10 = .ok (.iload_n 2, 1) := by decide +kernel
theorem d_M_looks_11 : decode b_M_looks 11 = .ok (.imul, 1) := by decide +kernel
theorem d_M_looks_12 : decode b_M_looks 12 = .ok (.aload_n 0, 1) := by decide +kernel
theorem d_M_looks_13 : decode b_M_looks 13 = .ok (.getfield 47, 3) := by decide +kernel
theorem d_M_looks_16 : decode b_M_looks 16 = .ok (.iload_n 1, 1) := by decide +kernel
theorem d_M_looks_17 : decode b_M_looks 17 = .ok (.iaload, 1) := by decide +kernel
theorem d_M_looks_18 : decode b_M_looks 18 = .ok (.iadd, 1) := by decide +kernel
theorem d_M_looks_19 : decode b_M_looks 19 = .ok (.istore_n 3, 1) := by decide +kernel
theorem d_M_looks_20 : decode b_M_looks 20 = .ok (.aload_n 0, 1) := by decide +kernel
theorem d_M_looks_21 : decode b_M_looks 21 = .ok (.getfield 62, 3) := by decide +kernel
theorem d_M_looks_24 : decode b_M_looks 24 = .ok (.iload_n 1, 1) := by decide +kernel
theorem d_M_looks_25 : decode b_M_looks 25 = .ok (.iaload, 1) := by decide +kernel
theorem d_M_looks_26 : decode b_M_looks 26 = .ok (.aload_n 0, 1) := by decide +kernel
theorem d_M_looks_27 : decode b_M_looks 27 = .ok (.getfield 65, 3) := by decide +kernel
theorem d_M_looks_30 : decode b_M_looks 30 = .ok (.iload_n 1, 1) := by decide +kernel
theorem d_M_looks_31 : decode b_M_looks 31 = .ok (.iaload, 1) := by decide +kernel
theorem d_M_looks_32 : decode b_M_looks 32 = .ok (.iconst (-1), 1) := by decide +kernel
theorem d_M_looks_33 : decode b_M_looks 33 = .ok (.ixor, 1) := by decide +kernel
theorem d_M_looks_34 : decode b_M_looks 34 = .ok (.iand, 1) := by decide +kernel
theorem d_M_looks_35 : decode b_M_looks 35 = .ok (.aload_n 0, 1) := by decide +kernel
theorem d_M_looks_36 : decode b_M_looks 36 = .ok (.getfield 68, 3) := by decide +kernel
theorem d_M_looks_39 : decode b_M_looks 39 = .ok (.iload_n 1, 1) := by decide +kernel
theorem d_M_looks_40 : decode b_M_looks 40 = .ok (.iaload, 1) := by decide +kernel
theorem d_M_looks_41 : decode b_M_looks 41 = .ok (.iconst (-1), 1) := by decide +kernel
theorem d_M_looks_42 : decode b_M_looks 42 = .ok (.ixor, 1) := by decide +kernel
theorem d_M_looks_43 : decode b_M_looks 43 = .ok (.iand, 1) := by decide +kernel
theorem d_M_looks_44 : decode b_M_looks 44 = .ok (.iload_n 2, 1) := by decide +kernel
theorem d_M_looks_45 : decode b_M_looks 45 = .ok (.ishr, 1) := by decide +kernel
theorem d_M_looks_46 : decode b_M_looks 46 = .ok (.iconst 1, 1) := by decide +kernel
theorem d_M_looks_47 : decode b_M_looks 47 = .ok (.iand, 1) := by decide +kernel
theorem d_M_looks_48 : decode b_M_looks 48 = .ok (.iconst 1, 1) := by decide +kernel
theorem d_M_looks_49 : decode b_M_looks 49 = .ok (.if_icmp .ne 7, 3) := by decide +kernel
theorem d_M_looks_52 : decode b_M_looks 52 = .ok (.iconst 1, 1) := by decide +kernel
theorem d_M_looks_53 : decode b_M_looks 53 = .ok (.goto 4, 3) := by decide +kernel
theorem d_M_looks_56 : decode b_M_looks 56 = .ok (.iconst 0, 1) := by decide +kernel
theorem d_M_looks_57 : decode b_M_looks 57 = .ok (.istore 4, 2) := by decide +kernel
theorem d_M_looks_59 : decode b_M_looks 59 = .ok (.iload 4, 2) := by decide +kernel
theorem d_M_looks_61 : decode b_M_looks 61 = .ok (.ifCond .eq 35, 3) := by decide +kernel
theorem d_M_looks_64 : decode b_M_looks 64 = .ok (.aload_n 0, 1) := by decide +kernel
theorem d_M_looks_65 : decode b_M_looks 65 = .ok (.getfield 13, 3) := by decide +kernel
theorem d_M_looks_68 : decode b_M_looks 68 = .ok (.iload_n 3, 1) := by decide +kernel
theorem d_M_looks_69 : decode b_M_looks 69 = .ok (.iaload, 1) := by decide +kernel
theorem d_M_looks_70 : decode b_M_looks 70 = .ok (.aload_n 0, 1) := by decide +kernel
theorem d_M_looks_71 : decode b_M_looks 71 = .ok (.getfield 50, 3) := by decide +kernel
theorem d_M_looks_74 : decode b_M_looks 74 = .ok (.iload_n 1, 1) := by decide +kernel
theorem d_M_looks_75 : decode b_M_looks 75 = .ok (.iaload, 1) := by decide +kernel
theorem d_M_looks_76 : decode b_M_looks 76 = .ok (.iconst 1, 1) := by decide +kernel
theorem d_M_looks_77 : decode b_M_looks 77 = .ok (.iadd, 1) := by decide +kernel
theorem d_M_looks_78 : decode b_M_looks 78 = .ok (.if_icmp .ne 18, 3) := by decide +kernel
theorem d_M_looks_81 : decode b_M_looks 81 = .ok (.aload_n 0, 1) := by decide +kernel
theorem d_M_looks_82 : decode b_M_looks 82 = .ok (.getfield 65, 3) := by decide +kernel
theorem d_M_looks_85 : decode b_M_looks 85 = .ok (.iload_n 1, 1) := by decide +kernel
theorem d_M_looks_86 : decode b_M_looks 86 = .ok (.dup2, 1) := by decide +kernel
theorem d_M_looks_87 : decode b_M_looks 87 = .ok (.iaload, 1) := by decide +kernel
theorem d_M_looks_88 : decode b_M_looks 88 = .ok (.iconst 1, 1) := by decide +kernel
theorem d_M_looks_89 : decode b_M_looks 89 = .ok (.iload_n 2, 1) := by decide +kernel
theorem d_M_looks_90 : decode b_M_looks 90 = .ok (.ishl, 1) := by decide +kernel
theorem d_M_looks_91 : decode b_M_looks 91 = .ok (.ior, 1) := by decide +kernel
theorem d_M_looks_92 : decode b_M_looks 92 = .ok (.iastore, 1) := by decide +kernel
theorem d_M_looks_93 : decode b_M_looks 93 = .ok (.goto 46, 3) := by decide +kernel
theorem d_M_looks_96 : decode b_M_looks 96 = .ok (.iload 4, 2) := by decide +kernel
theorem d_M_looks_98 : decode b_M_looks 98 = .ok (.ifCond .eq 41, 3) := by decide +kernel
theorem d_M_looks_101 : decode b_M_looks 101 = .ok (.aload_n 0, 1) := by decide +kernel
theorem d_M_looks_102 : decode b_M_looks 102 = .ok (.getfield 7, 3) := by decide +kernel
theorem d_M_looks_105 : decode b_M_looks 105 = .ok (.iload_n 3, 1) := by decide +kernel
theorem d_M_looks_106 : decode b_M_looks 106 = .ok (.iaload, 1) := by decide +kernel
theorem d_M_looks_107 : decode b_M_looks 107 = .ok (.aload_n 0, 1) := by decide +kernel
theorem d_M_looks_108 : decode b_M_looks 108 = .ok (.getfield 50, 3) := by decide +kernel
theorem d_M_looks_111 : decode b_M_looks 111 = .ok (.iload_n 1, 1) := by decide +kernel
theorem d_M_looks_112 : decode b_M_looks 112 = .ok (.iaload, 1) := by decide +kernel
theorem d_M_looks_113 : decode b_M_looks 113 = .ok (.iconst 1, 1) := by decide +kernel
theorem d_M_looks_114 : decode b_M_looks 114 = .ok (.iadd, 1) := by decide +kernel
theorem d_M_looks_115 : decode b_M_looks 115 = .ok (.if_icmp .ne 24, 3) := by decide +kernel
theorem d_M_looks_118 : decode b_M_looks 118 = .ok (.aload_n 0, 1) := by decide +kernel
theorem d_M_looks_119 : decode b_M_looks 119 = .ok (.getfield 16, 3) := by decide +kernel
theorem d_M_looks_122 : decode b_M_looks 122 = .ok (.iload_n 3, 1) := by decide +kernel
theorem d_M_looks_123 : decode b_M_looks 123 = .ok (.iaload, 1) := by decide +kernel
theorem d_M_looks_124 : decode b_M_looks 124 = .ok (.ifCond .le 15, 3) := by decide +kernel
theorem d_M_looks_127 : decode b_M_looks 127 = .ok (.aload_n 0, 1) := by decide +kernel
theorem d_M_looks_128 : decode b_M_looks 128 = .ok (.getfield 68, 3) := by decide +kernel
theorem d_M_looks_131 : decode b_M_looks 131 = .ok (.iload_n 1, 1) := by decide +kernel
theorem d_M_looks_132 : decode b_M_looks 132 = .ok (.dup2, 1) := by decide +kernel
theorem d_M_looks_133 : decode b_M_looks 133 = .ok (.iaload, 1) := by decide +kernel
theorem d_M_looks_134 : decode b_M_looks 134 = .ok (.iconst 1, 1) := by decide +kernel
theorem d_M_looks_135 : decode b_M_looks 135 = .ok (.iload_n 2, 1) := by decide +kernel
theorem d_M_looks_136 : decode b_M_looks 136 = .ok (.ishl, 1) := by decide +kernel
theorem d_M_looks_137 : decode b_M_looks 137 = .ok (.ior, 1) := by decide +kernel
theorem d_M_looks_138 : decode b_M_looks 138 = .ok (.iastore, 1) := by decide +kernel
theorem d_M_looks_139 : decode b_M_looks 139 = .ok (.iinc 2 1, 3) := by decide +kernel
theorem d_M_looks_142 : decode b_M_looks 142 = .ok (.goto (-140), 3) := by decide +kernel
theorem d_M_looks_145 : decode b_M_looks 145 = .ok (.return_, 1) := by decide +kernel
theorem d_M_starts_0 : decode b_M_starts 0 = .ok (.iconst 0, 1) := by decide +kernel
theorem d_M_starts_1 : decode b_M_starts 1 = .ok (.istore_n 2, 1) := by decide +kernel
theorem d_M_starts_2 : decode b_M_starts 2 = .ok (.aload_n 0, 1) := by decide +kernel
theorem d_M_starts_3 : decode b_M_starts 3 = .ok (.aload_n 0, 1) := by decide +kernel
theorem d_M_starts_4 : decode b_M_starts 4 = .ok (.getfield 44, 3) := by decide +kernel
theorem d_M_starts_7 : decode b_M_starts 7 = .ok (.iload_n 1, 1) := by decide +kernel
theorem d_M_starts_8 : decode b_M_starts 8 = .ok (.iaload, 1) := by decide +kernel
theorem d_M_starts_9 : decode b_M_starts 9 = .ok (.invokevirtual 114, 3) := by decide +kernel
theorem d_M_starts_12 : decode b_M_starts 12 = .ok (.aload_n 0, 1) := by decide +kernel
theorem d_M_starts_13 : decode b_M_starts 13 = .ok (.getfield 62, 3) := by decide +kernel
theorem d_M_starts_16 : decode b_M_starts 16 = .ok (.iload_n 1, 1) := by decide +kernel
theorem d_M_starts_17 : decode b_M_starts 17 = .ok (.iaload, 1) := by decide +kernel
theorem d_M_starts_18 : decode b_M_starts 18 = .ok (.iconst (-1), 1) := by decide +kernel
theorem d_M_starts_19 : decode b_M_starts 19 = .ok (.ixor, 1) := by decide +kernel
theorem d_M_starts_20 : decode b_M_starts 20 = .ok (.iand, 1) := by decide +kernel
theorem d_M_starts_21 : decode b_M_starts 21 = .ok (.istore_n 3, 1) := by decide +kernel
theorem d_M_starts_22 : decode b_M_starts 22 = .ok (.iconst 0, 1) := by decide +kernel
theorem d_M_starts_23 : decode b_M_starts 23 = .ok (.istore 4, 2) := by decide +kernel
theorem d_M_starts_25 : decode b_M_starts 25 = .ok (.iload 4, 2) := by decide +kernel
theorem d_M_starts_27 : decode b_M_starts 27 = .ok (.bipush 8, 2) := by decide +kernel
theorem d_M_starts_29 : decode b_M_starts 29 = .ok (.if_icmp .ge 76, 3) := by decide +kernel
theorem d_M_starts_32 : decode b_M_starts 32 = .ok (.iload_n 2, 1) := by decide +kernel
theorem d_M_starts_33 : decode b_M_starts 33 = .ok (.aload_n 0, 1) := by decide +kernel
theorem d_M_starts_34 : decode b_M_starts 34 = .ok (.getfield 53, 3) := by decide +kernel
theorem d_M_starts_37 : decode b_M_starts 37 = .ok (.iload_n 1, 1) := by decide +kernel
theorem d_M_starts_38 : decode b_M_starts 38 = .ok (.iaload, 1) := by decide +kernel
theorem d_M_starts_39 : decode b_M_starts 39 = .ok (.if_icmp .ge 66, 3) := by decide +kernel
theorem d_M_starts_42 : decode b_M_starts 42 = .ok (.iload_n 3, 1) := by decide +kernel
theorem d_M_starts_43 : decode b_M_starts 43 = .ok (.iload 4, 2) := by decide +kernel
theorem d_M_starts_45 : decode b_M_starts 45 = .ok (.ishr, 1) := by decide +kernel
theorem d_M_starts_46 : decode b_M_starts 46 = .ok (.iconst 1, 1) := by decide +kernel
theorem d_M_starts_47 : decode b_M_starts 47 = .ok (.iand, 1) := by decide +kernel
theorem d_M_starts_48 : decode b_M_starts 48 = .ok (.iconst 1, 1) := by decide +kernel
theorem d_M_starts_49 : decode b_M_starts 49 = .ok (.if_icmp .ne 50, 3) := by decide +kernel
theorem d_M_starts_52 : decode b_M_starts 52 = .ok (.aload_n 0, 1) := by decide +kernel
theorem d_M_starts_53 : decode b_M_starts 53 = .ok (.getfield 62, 3) := by decide +kernel
theorem d_M_starts_56 : decode b_M_starts 56 = .ok (.iload_n 1, 1) := by decide +kernel
theorem d_M_starts_57 : decode b_M_starts 57 = .ok (.dup2, 1) := by decide +kernel
theorem d_M_starts_58 : decode b_M_starts 58 = .ok (.iaload, 1) := by decide +kernel
theorem d_M_starts_59 : decode b_M_starts 59 = .ok (.iconst 1, 1) := by decide +kernel
theorem d_M_starts_60 : decode b_M_starts 60 = .ok (.iload 4, 2) := by decide +kernel
theorem d_M_starts_62 : decode b_M_starts 62 = .ok (.ishl, 1) := by decide +kernel
theorem d_M_starts_63 : decode b_M_starts 63 = .ok (.ior, 1) := by decide +kernel
theorem d_M_starts_64 : decode b_M_starts 64 = .ok (.iastore, 1) := by decide +kernel
theorem d_M_starts_65 : decode b_M_starts 65 = .ok (.aload_n 0, 1) := by decide +kernel
theorem d_M_starts_66 : decode b_M_starts 66 = .ok (.iload 4, 2) := by decide +kernel
theorem d_M_starts_68 : decode b_M_starts 68 = .ok (.aload_n 0, 1) := by decide +kernel
theorem d_M_starts_69 : decode b_M_starts 69 = .ok (.getfield 47, 3) := by decide +kernel
theorem d_M_starts_72 : decode b_M_starts 72 = .ok (.iload_n 1, 1) := by decide +kernel
theorem d_M_starts_73 : decode b_M_starts 73 = .ok (.iaload, 1) := by decide +kernel
theorem d_M_starts_74 : decode b_M_starts 74 = .ok (.aload_n 0, 1) := by decide +kernel
theorem d_M_starts_75 : decode b_M_starts 75 = .ok (.getfield 50, 3) := by decide +kernel
theorem d_M_starts_78 : decode b_M_starts 78 = .ok (.iload_n 1, 1) := by decide +kernel
theorem d_M_starts_79 : decode b_M_starts 79 = .ok (.iaload, 1) := by decide +kernel
theorem d_M_starts_80 : decode b_M_starts 80 = .ok (.iconst 1, 1) := by decide +kernel
theorem d_M_starts_81 : decode b_M_starts 81 = .ok (.iadd, 1) := by decide +kernel
theorem d_M_starts_82 : decode b_M_starts 82 = .ok (.invokevirtual 94, 3) := by decide +kernel
theorem d_M_starts_85 : decode b_M_starts 85 = .ok (.aload_n 0, 1) := by decide +kernel
theorem d_M_starts_86 : decode b_M_starts 86 = .ok (.getfield 19, 3) := by decide +kernel
theorem d_M_starts_89 : decode b_M_starts 89 = .ok (.iload 4, 2) := by decide +kernel
theorem d_M_starts_91 : decode b_M_starts 91 = .ok (.dup2, 1) := by decide +kernel
theorem d_M_starts_92 : decode b_M_starts 92 = .ok (.iaload, 1) := by decide +kernel
theorem d_M_starts_93 : decode b_M_starts 93 = .ok (.iconst 1, 1) := by decide +kernel
theorem d_M_starts_94 : decode b_M_starts 94 = .ok (.iadd, 1) := by decide +kernel
theorem d_M_starts_95 : decode b_M_starts 95 = .ok (.iastore, 1) := by decide +kernel
theorem d_M_starts_96 : decode b_M_starts 96 = .ok (.iinc 2 1, 3) := by decide +kernel
theorem d_M_starts_99 : decode b_M_starts 99 = .ok (.iinc 4 1, 3) := by decide +kernel
theorem d_M_starts_102 : decode b_M_starts 102 = .ok (.goto (-77), 3) := by decide +kernel
theorem d_M_starts_105 : decode b_M_starts 105 = .ok (.iload_n 2, 1) := by decide +kernel
theorem d_M_starts_106 : decode b_M_starts 106 = .ok (.ireturn, 1) := by decide +kernel
theorem d_M_cancel_0 : decode b_M_cancel 0 = .ok (.aload_n 0, 1) := by decide +kernel
theorem d_M_cancel_1 : decode b_M_cancel 1 = .ok (.aload_n 0, 1) := by decide +kernel
theorem d_M_cancel_2 : decode b_M_cancel 2 = .ok (.iload_n 1, 1) := by decide +kernel
theorem d_M_cancel_3 : decode b_M_cancel 3 = .ok (.invokevirtual 127, 3) := by decide +kernel
theorem d_M_cancel_6 : decode b_M_cancel 6 = .ok (.ifCond .ne 7, 3) := by decide +kernel
theorem d_M_cancel_9 : decode b_M_cancel 9 = .ok (.iconst 1, 1) := by decide +kernel
theorem d_M_cancel_10 : decode b_M_cancel 10 = .ok (.goto 17, 3) := by decide +kernel
theorem d_M_cancel_13 : decode b_M_cancel 13 = .ok (.aload_n 0, 1) := by decide +kernel
theorem d_M_cancel_14 : decode b_M_cancel 14 = .ok (.getfield 59, 3) := by decide +kernel
theorem d_M_cancel_17 : decode b_M_cancel 17 = .ok (.iload_n 1, 1) := by decide +kernel
theorem d_M_cancel_18 : decode b_M_cancel 18 = .ok (.iaload, 1) := by decide +kernel
theorem d_M_cancel_19 : decode b_M_cancel 19 = .ok (.ifCond .ne 7, 3) := by decide +kernel
theorem d_M_cancel_22 : decode b_M_cancel 22 = .ok (.iconst 0, 1) := by decide +kernel
theorem d_M_cancel_23 : decode b_M_cancel 23 = .ok (.goto 4, 3) := by decide +kernel
theorem d_M_cancel_26 : decode b_M_cancel 26 = .ok (.iconst 2, 1) := by decide +kernel
theorem d_M_cancel_27 : decode b_M_cancel 27 = .ok (.putfield 71, 3) := by decide +kernel
theorem d_M_cancel_30 : decode b_M_cancel 30 = .ok (.aload_n 0, 1) := by decide +kernel
theorem d_M_cancel_31 : decode b_M_cancel 31 = .ok (.getfield 71, 3) := by decide +kernel
theorem d_M_cancel_34 : decode b_M_cancel 34 = .ok (.ifCond .le 5, 3) := by decide +kernel
theorem d_M_cancel_37 : decode b_M_cancel 37 = .ok (.iconst 0, 1) := by decide +kernel
theorem d_M_cancel_38 : decode b_M_cancel 38 = .ok (.ireturn, 1) := by decide +kernel
theorem d_M_cancel_39 : decode b_M_cancel 39 = .ok (.aload_n 0, 1) := by decide +kernel
theorem d_M_cancel_40 : decode b_M_cancel 40 = .ok (.getfield 59, 3) := by decide +kernel
theorem d_M_cancel_43 : decode b_M_cancel 43 = .ok (.iload_n 1, 1) := by decide +kernel
theorem d_M_cancel_44 : decode b_M_cancel 44 = .ok (.iconst 2, 1) := by decide +kernel
theorem d_M_cancel_45 : decode b_M_cancel 45 = .ok (.iastore, 1) := by decide +kernel
theorem d_M_cancel_46 : decode b_M_cancel 46 = .ok (.aload_n 0, 1) := by decide +kernel
theorem d_M_cancel_47 : decode b_M_cancel 47 = .ok (.getfield 62, 3) := by decide +kernel
theorem d_M_cancel_50 : decode b_M_cancel 50 = .ok (.iload_n 1, 1) := by decide +kernel
theorem d_M_cancel_51 : decode b_M_cancel 51 = .ok (.iaload, 1) := by decide +kernel
theorem d_M_cancel_52 : decode b_M_cancel 52 = .ok (.aload_n 0, 1) := by decide +kernel
theorem d_M_cancel_53 : decode b_M_cancel 53 = .ok (.getfield 65, 3) := by decide +kernel
theorem d_M_cancel_56 : decode b_M_cancel 56 = .ok (.iload_n 1, 1) := by decide +kernel
theorem d_M_cancel_57 : decode b_M_cancel 57 = .ok (.iaload, 1) := by decide +kernel
theorem d_M_cancel_58 : decode b_M_cancel 58 = .ok (.iconst (-1), 1) := by decide +kernel
theorem d_M_cancel_59 : decode b_M_cancel 59 = .ok (.ixor, 1) := by decide +kernel
theorem d_M_cancel_60 : decode b_M_cancel 60 = .ok (.iand, 1) := by decide +kernel
theorem d_M_cancel_61 : decode b_M_cancel 61 = .ok (.aload_n 0, 1) := by decide +kernel
theorem d_M_cancel_62 : decode b_M_cancel 62 = .ok (.getfield 68, 3) := by decide +kernel
theorem d_M_cancel_65 : decode b_M_cancel 65 = .ok (.iload_n 1, 1) := by decide +kernel
theorem d_M_cancel_66 : decode b_M_cancel 66 = .ok (.iaload, 1) := by decide +kernel
theorem d_M_cancel_67 : decode b_M_cancel 67 = .ok (.iconst (-1), 1) := by decide +kernel
theorem d_M_cancel_68 : decode b_M_cancel 68 = .ok (.ixor, 1) := by decide +kernel
theorem d_M_cancel_69 : decode b_M_cancel 69 = .ok (.iand, 1) := by decide +kernel
theorem d_M_cancel_70 : decode b_M_cancel 70 = .ok (.invokestatic 105, 3) := by decide +kernel
theorem d_M_cancel_73 : decode b_M_cancel 73 = .ok (.ireturn, 1) := by decide +kernel
theorem d_M_isJob_0 : decode b_M_isJob 0 = .ok (.iload_n 1, 1) := by decide +kernel
theorem d_M_isJob_1 : decode b_M_isJob 1 = .ok (.iconst 0, 1) := by decide +kernel
theorem d_M_isJob_2 : decode b_M_isJob 2 = .ok (.aload_n 0, 1) := by decide +kernel
theorem d_M_isJob_3 : decode b_M_isJob 3 = .ok (.getfield 117, 3) := by decide +kernel
theorem d_M_isJob_6 : decode b_M_isJob 6 = .ok (.iconst 1, 1) := by decide +kernel
theorem d_M_isJob_7 : decode b_M_isJob 7 = .ok (.isub, 1) := by decide +kernel
theorem d_M_isJob_8 : decode b_M_isJob 8 = .ok (.invokestatic 75, 3) := by decide +kernel
theorem d_M_isJob_11 : decode b_M_isJob 11 = .ok (.ireturn, 1) := by decide +kernel
theorem d_M_version_0 : decode b_M_version 0 = .ok (.aload_n 0, 1) := by decide +kernel
theorem d_M_version_1 : decode b_M_version 1 = .ok (.iload_n 1, 1) := by decide +kernel
theorem d_M_version_2 : decode b_M_version 2 = .ok (.invokevirtual 130, 3) := by decide +kernel
theorem d_M_version_5 : decode b_M_version 5 = .ok (.ifCond .eq 12, 3) := by decide +kernel
theorem d_M_version_8 : decode b_M_version 8 = .ok (.aload_n 0, 1) := by decide +kernel
theorem d_M_version_9 : decode b_M_version 9 = .ok (.getfield 19, 3) := by decide +kernel
theorem d_M_version_12 : decode b_M_version 12 = .ok (.iload_n 1, 1) := by decide +kernel
theorem d_M_version_13 : decode b_M_version 13 = .ok (.iaload, 1) := by decide +kernel
theorem d_M_version_14 : decode b_M_version 14 = .ok (.goto 4, 3) := by decide +kernel
theorem d_M_version_17 : decode b_M_version 17 = .ok (.iconst 0, 1) := by decide +kernel
theorem d_M_version_18 : decode b_M_version 18 = .ok (.ireturn, 1) := by decide +kernel
theorem d_M_asks_0 : decode b_M_asks 0 = .ok (.aload_n 0, 1) := by decide +kernel
theorem d_M_asks_1 : decode b_M_asks 1 = .ok (.iload_n 1, 1) := by decide +kernel
theorem d_M_asks_2 : decode b_M_asks 2 = .ok (.invokestatic 91, 3) := by decide +kernel
theorem d_M_asks_5 : decode b_M_asks 5 = .ok (.ifCond .eq 7, 3) := by decide +kernel
theorem d_M_asks_8 : decode b_M_asks 8 = .ok (.iconst 0, 1) := by decide +kernel
theorem d_M_asks_9 : decode b_M_asks 9 = .ok (.goto 4, 3) := by decide +kernel
theorem d_M_asks_12 : decode b_M_asks 12 = .ok (.iconst 1, 1) := by decide +kernel
theorem d_M_asks_13 : decode b_M_asks 13 = .ok (.putfield 71, 3) := by decide +kernel
theorem d_M_asks_16 : decode b_M_asks 16 = .ok (.aload_n 0, 1) := by decide +kernel
theorem d_M_asks_17 : decode b_M_asks 17 = .ok (.getfield 71, 3) := by decide +kernel
theorem d_M_asks_20 : decode b_M_asks 20 = .ok (.ifCond .ne 7, 3) := by decide +kernel
theorem d_M_asks_23 : decode b_M_asks 23 = .ok (.iconst 1, 1) := by decide +kernel
theorem d_M_asks_24 : decode b_M_asks 24 = .ok (.goto 4, 3) := by decide +kernel
theorem d_M_asks_27 : decode b_M_asks 27 = .ok (.iconst 0, 1) := by decide +kernel
theorem d_M_asks_28 : decode b_M_asks 28 = .ok (.ireturn, 1) := by decide +kernel
theorem d_M_heard_0 : decode b_M_heard 0 = .ok (.aload_n 0, 1) := by decide +kernel
theorem d_M_heard_1 : decode b_M_heard 1 = .ok (.iload_n 1, 1) := by decide +kernel
theorem d_M_heard_2 : decode b_M_heard 2 = .ok (.invokevirtual 130, 3) := by decide +kernel
theorem d_M_heard_5 : decode b_M_heard 5 = .ok (.ifCond .eq 11, 3) := by decide +kernel
theorem d_M_heard_8 : decode b_M_heard 8 = .ok (.aload_n 0, 1) := by decide +kernel
theorem d_M_heard_9 : decode b_M_heard 9 = .ok (.iload_n 1, 1) := by decide +kernel
theorem d_M_heard_10 : decode b_M_heard 10 = .ok (.invokevirtual 108, 3) := by decide +kernel
theorem d_M_heard_13 : decode b_M_heard 13 = .ok (.goto 4, 3) := by decide +kernel
theorem d_M_heard_16 : decode b_M_heard 16 = .ok (.iconst 0, 1) := by decide +kernel
theorem d_M_heard_17 : decode b_M_heard 17 = .ok (.ireturn, 1) := by decide +kernel
theorem d_M_wished_0 : decode b_M_wished 0 = .ok (.aload_n 0, 1) := by decide +kernel
theorem d_M_wished_1 : decode b_M_wished 1 = .ok (.iload_n 1, 1) := by decide +kernel
theorem d_M_wished_2 : decode b_M_wished 2 = .ok (.iload_n 2, 1) := by decide +kernel
theorem d_M_wished_3 : decode b_M_wished 3 = .ok (.invokevirtual 133, 3) := by decide +kernel
theorem d_M_wished_6 : decode b_M_wished 6 = .ok (.ifCond .eq 19, 3) := by decide +kernel
theorem d_M_wished_9 : decode b_M_wished 9 = .ok (.aload_n 0, 1) := by decide +kernel
theorem d_M_wished_10 : decode b_M_wished 10 = .ok (.getfield 7, 3) := by decide +kernel
theorem d_M_wished_13 : decode b_M_wished 13 = .ok (.bipush 12, 2) := by decide +kernel
theorem d_M_wished_15 : decode b_M_wished 15 = .ok (.iload_n 1, 1) := by decide +kernel
theorem d_M_wished_16 : decode b_M_wished 16 = .ok (.imul, 1) := by decide +kernel
theorem d_M_wished_17 : decode b_M_wished 17 = .ok (.iload_n 2, 1) := by decide +kernel
theorem d_M_wished_18 : decode b_M_wished 18 = .ok (.iadd, 1) := by decide +kernel
theorem d_M_wished_19 : decode b_M_wished 19 = .ok (.iaload, 1) := by decide +kernel
theorem d_M_wished_20 : decode b_M_wished 20 = .ok (.iconst 1, 1) := by decide +kernel
theorem d_M_wished_21 : decode b_M_wished 21 = .ok (.isub, 1) := by decide +kernel
theorem d_M_wished_22 : decode b_M_wished 22 = .ok (.goto 4, 3) := by decide +kernel
theorem d_M_wished_25 : decode b_M_wished 25 = .ok (.iconst 0, 1) := by decide +kernel
theorem d_M_wished_26 : decode b_M_wished 26 = .ok (.ireturn, 1) := by decide +kernel
theorem d_M_asksLeaf_0 : decode b_M_asksLeaf 0 = .ok (.aload_n 0, 1) := by decide +kernel
theorem d_M_asksLeaf_1 : decode b_M_asksLeaf 1 = .ok (.iload_n 1, 1) := by decide +kernel
theorem d_M_asksLeaf_2 : decode b_M_asksLeaf 2 = .ok (.invokestatic 91, 3) := by decide +kernel
theorem d_M_asksLeaf_5 : decode b_M_asksLeaf 5 = .ok (.ifCond .eq 14, 3) := by decide +kernel
theorem d_M_asksLeaf_8 : decode b_M_asksLeaf 8 = .ok (.iload_n 2, 1) := by decide +kernel
theorem d_M_asksLeaf_9 : decode b_M_asksLeaf 9 = .ok (.invokestatic 79, 3) := by decide +kernel
theorem d_M_asksLeaf_12 : decode b_M_asksLeaf 12 = .ok (.ifCond .eq 7, 3) := by decide +kernel
theorem d_M_asksLeaf_15 : decode b_M_asksLeaf 15 = .ok (.iconst 0, 1) := by decide +kernel
theorem d_M_asksLeaf_16 : decode b_M_asksLeaf 16 = .ok (.goto 4, 3) := by decide +kernel
theorem d_M_asksLeaf_19 : decode b_M_asksLeaf 19 = .ok (.iconst 1, 1) := by decide +kernel
theorem d_M_asksLeaf_20 : decode b_M_asksLeaf 20 = .ok (.putfield 71, 3) := by decide +kernel
theorem d_M_asksLeaf_23 : decode b_M_asksLeaf 23 = .ok (.aload_n 0, 1) := by decide +kernel
theorem d_M_asksLeaf_24 : decode b_M_asksLeaf 24 = .ok (.getfield 71, 3) := by decide +kernel
theorem d_M_asksLeaf_27 : decode b_M_asksLeaf 27 = .ok (.ifCond .ne 7, 3) := by decide +kernel
theorem d_M_asksLeaf_30 : decode b_M_asksLeaf 30 = .ok (.iconst 1, 1) := by decide +kernel
theorem d_M_asksLeaf_31 : decode b_M_asksLeaf 31 = .ok (.goto 4, 3) := by decide +kernel
theorem d_M_asksLeaf_34 : decode b_M_asksLeaf 34 = .ok (.iconst 0, 1) := by decide +kernel
theorem d_M_asksLeaf_35 : decode b_M_asksLeaf 35 = .ok (.ireturn, 1) := by decide +kernel
theorem d_M_reported_0 : decode b_M_reported 0 = .ok (.aload_n 0, 1) := by decide +kernel
theorem d_M_reported_1 : decode b_M_reported 1 = .ok (.iload_n 1, 1) := by decide +kernel
theorem d_M_reported_2 : decode b_M_reported 2 = .ok (.iload_n 2, 1) := by decide +kernel
theorem d_M_reported_3 : decode b_M_reported 3 = .ok (.invokevirtual 133, 3) := by decide +kernel
theorem d_M_reported_6 : decode b_M_reported 6 = .ok (.ifCond .eq 19, 3) := by decide +kernel
theorem d_M_reported_9 : decode b_M_reported 9 = .ok (.aload_n 0, 1) := by decide +kernel
theorem d_M_reported_10 : decode b_M_reported 10 = .ok (.getfield 13, 3) := by decide +kernel
theorem d_M_reported_13 : decode b_M_reported 13 = .ok (.bipush 12, 2) := by decide +kernel
theorem d_M_reported_15 : decode b_M_reported 15 = .ok (.iload_n 1, 1) := by decide +kernel
theorem d_M_reported_16 : decode b_M_reported 16 = .ok (.imul, 1) := by decide +kernel
theorem d_M_reported_17 : decode b_M_reported 17 = .ok (.iload_n 2, 1) := by decide +kernel
theorem d_M_reported_18 : decode b_M_reported 18 = .ok (.iadd, 1) := by decide +kernel
theorem d_M_reported_19 : decode b_M_reported 19 = .ok (.iaload, 1) := by decide +kernel
theorem d_M_reported_20 : decode b_M_reported 20 = .ok (.iconst 1, 1) := by decide +kernel
theorem d_M_reported_21 : decode b_M_reported 21 = .ok (.isub, 1) := by decide +kernel
theorem d_M_reported_22 : decode b_M_reported 22 = .ok (.goto 4, 3) := by decide +kernel
theorem d_M_reported_25 : decode b_M_reported 25 = .ok (.iconst 0, 1) := by decide +kernel
theorem d_M_reported_26 : decode b_M_reported 26 = .ok (.ireturn, 1) := by decide +kernel
theorem d_M_why_0 : decode b_M_why 0 = .ok (.aload_n 0, 1) := by decide +kernel
theorem d_M_why_1 : decode b_M_why 1 = .ok (.iload_n 1, 1) := by decide +kernel
theorem d_M_why_2 : decode b_M_why 2 = .ok (.iload_n 2, 1) := by decide +kernel
theorem d_M_why_3 : decode b_M_why 3 = .ok (.invokevirtual 133, 3) := by decide +kernel
theorem d_M_why_6 : decode b_M_why 6 = .ok (.ifCond .eq 17, 3) := by decide +kernel
theorem d_M_why_9 : decode b_M_why 9 = .ok (.aload_n 0, 1) := by decide +kernel
theorem d_M_why_10 : decode b_M_why 10 = .ok (.getfield 16, 3) := by decide +kernel
theorem d_M_why_13 : decode b_M_why 13 = .ok (.bipush 12, 2) := by decide +kernel
theorem d_M_why_15 : decode b_M_why 15 = .ok (.iload_n 1, 1) := by decide +kernel
theorem d_M_why_16 : decode b_M_why 16 = .ok (.imul, 1) := by decide +kernel
theorem d_M_why_17 : decode b_M_why 17 = .ok (.iload_n 2, 1) := by decide +kernel
theorem d_M_why_18 : decode b_M_why 18 = .ok (.iadd, 1) := by decide +kernel
theorem d_M_why_19 : decode b_M_why 19 = .ok (.iaload, 1) := by decide +kernel
theorem d_M_why_20 : decode b_M_why 20 = .ok (.goto 4, 3) := by decide +kernel
theorem d_M_why_23 : decode b_M_why 23 = .ok (.iconst 0, 1) := by decide +kernel
theorem d_M_why_24 : decode b_M_why 24 = .ok (.ireturn, 1) := by decide +kernel
theorem d_M_differences_0 : decode b_M_differences 0 = .ok (.aload_n 0, 1) := by decide +kernel
theorem d_M_differences_1 : decode b_M_differences 1 = .ok (.iload_n 1, 1) := by decide +kernel
theorem d_M_differences_2 : decode b_M_differences 2 = .ok (.invokevirtual 130, 3) := by decide +kernel
theorem d_M_differences_5 : decode b_M_differences 5 = .ok (.ifCond .eq 11, 3) := by decide +kernel
theorem d_M_differences_8 : decode b_M_differences 8 = .ok (.aload_n 0, 1) := by decide +kernel
theorem d_M_differences_9 : decode b_M_differences 9 = .ok (.iload_n 1, 1) := by decide +kernel
theorem d_M_differences_10 : decode b_M_differences 10 = .ok (.invokevirtual 101, 3) := by decide +kernel
theorem d_M_differences_13 : decode b_M_differences 13 = .ok (.goto 4, 3) := by decide +kernel
theorem d_M_differences_16 : decode b_M_differences 16 = .ok (.iconst 0, 1) := by decide +kernel
theorem d_M_differences_17 : decode b_M_differences 17 = .ok (.ireturn, 1) := by decide +kernel
theorem d_M_differencesAnew_0 : decode b_M_differencesAnew 0 = .ok (.aload_n 0, 1) := by decide +kernel
theorem d_M_differencesAnew_1 : decode b_M_differencesAnew 1 = .ok (.iload_n 1, 1) := by decide +kernel
theorem d_M_differencesAnew_2 : decode b_M_differencesAnew 2 = .ok (.invokevirtual 130, 3) := by decide +kernel
theorem d_M_differencesAnew_5 : decode b_M_differencesAnew 5 = .ok (.ifCond .eq 11, 3) := by decide +kernel
theorem d_M_differencesAnew_8 : decode b_M_differencesAnew 8 = .ok (.aload_n 0, 1) := by decide +kernel
theorem d_M_differencesAnew_9 : decode b_M_differencesAnew 9 = .ok (.iload_n 1, 1) := by decide +kernel
theorem d_M_differencesAnew_10 : decode b_M_differencesAnew 10 = .ok (.invokevirtual 101, 3) := by decide +kernel
theorem d_M_differencesAnew_13 : decode b_M_differencesAnew 13 = .ok (.goto 4, 3) := by decide +kernel
theorem d_M_differencesAnew_16 : decode b_M_differencesAnew 16 = .ok (.iconst 0, 1) := by decide +kernel
theorem d_M_differencesAnew_17 : decode b_M_differencesAnew 17 = .ok (.ireturn, 1) := by decide +kernel
theorem d_M_members_0 : decode b_M_members 0 = .ok (.aload_n 0, 1) := by decide +kernel
theorem d_M_members_1 : decode b_M_members 1 = .ok (.iload_n 1, 1) := by decide +kernel
theorem d_M_members_2 : decode b_M_members 2 = .ok (.invokestatic 111, 3) := by decide +kernel
theorem d_M_members_5 : decode b_M_members 5 = .ok (.ifCond .eq 7, 3) := by decide +kernel
theorem d_M_members_8 : decode b_M_members 8 = .ok (.iconst 0, 1) := by decide +kernel
theorem d_M_members_9 : decode b_M_members 9 = .ok (.goto 4, 3) := by decide +kernel
theorem d_M_members_12 : decode b_M_members 12 = .ok (.iconst 1, 1) := by decide +kernel
theorem d_M_members_13 : decode b_M_members 13 = .ok (.putfield 71, 3) := by decide +kernel
theorem d_M_members_16 : decode b_M_members 16 = .ok (.aload_n 0, 1) := by decide +kernel
theorem d_M_members_17 : decode b_M_members 17 = .ok (.getfield 71, 3) := by decide +kernel
theorem d_M_members_20 : decode b_M_members 20 = .ok (.ifCond .le 7, 3) := by decide +kernel
theorem d_M_members_23 : decode b_M_members 23 = .ok (.iconst 0, 1) := by decide +kernel
theorem d_M_members_24 : decode b_M_members 24 = .ok (.goto 8, 3) := by decide +kernel
theorem d_M_members_27 : decode b_M_members 27 = .ok (.aload_n 0, 1) := by decide +kernel
theorem d_M_members_28 : decode b_M_members 28 = .ok (.iload_n 1, 1) := by decide +kernel
theorem d_M_members_29 : decode b_M_members 29 = .ok (.invokevirtual 114, 3) := by decide +kernel
theorem d_M_members_32 : decode b_M_members 32 = .ok (.ireturn, 1) := by decide +kernel
theorem d_M_jobs_0 : decode b_M_jobs 0 = .ok (.aload_n 0, 1) := by decide +kernel
theorem d_M_jobs_1 : decode b_M_jobs 1 = .ok (.iconst 0, 1) := by decide +kernel
theorem d_M_jobs_2 : decode b_M_jobs 2 = .ok (.putfield 71, 3) := by decide +kernel
theorem d_M_jobs_5 : decode b_M_jobs 5 = .ok (.aload_n 0, 1) := by decide +kernel
theorem d_M_jobs_6 : decode b_M_jobs 6 = .ok (.getfield 117, 3) := by decide +kernel
theorem d_M_jobs_9 : decode b_M_jobs 9 = .ok (.ireturn, 1) := by decide +kernel
theorem d_M_state_0 : decode b_M_state 0 = .ok (.aload_n 0, 1) := by decide +kernel
theorem d_M_state_1 : decode b_M_state 1 = .ok (.aload_n 0, 1) := by decide +kernel
theorem d_M_state_2 : decode b_M_state 2 = .ok (.iload_n 1, 1) := by decide +kernel
theorem d_M_state_3 : decode b_M_state 3 = .ok (.invokevirtual 127, 3) := by decide +kernel
theorem d_M_state_6 : decode b_M_state 6 = .ok (.ifCond .eq 7, 3) := by decide +kernel
theorem d_M_state_9 : decode b_M_state 9 = .ok (.iconst 0, 1) := by decide +kernel
theorem d_M_state_10 : decode b_M_state 10 = .ok (.goto 4, 3) := by decide +kernel
theorem d_M_state_13 : decode b_M_state 13 = .ok (.iconst 1, 1) := by decide +kernel
theorem d_M_state_14 : decode b_M_state 14 = .ok (.putfield 71, 3) := by decide +kernel
theorem d_M_state_17 : decode b_M_state 17 = .ok (.aload_n 0, 1) := by decide +kernel
theorem d_M_state_18 : decode b_M_state 18 = .ok (.getfield 71, 3) := by decide +kernel
theorem d_M_state_21 : decode b_M_state 21 = .ok (.ifCond .le 7, 3) := by decide +kernel
theorem d_M_state_24 : decode b_M_state 24 = .ok (.iconst 0, 1) := by decide +kernel
theorem d_M_state_25 : decode b_M_state 25 = .ok (.goto 9, 3) := by decide +kernel
theorem d_M_state_28 : decode b_M_state 28 = .ok (.aload_n 0, 1) := by decide +kernel
theorem d_M_state_29 : decode b_M_state 29 = .ok (.getfield 59, 3) := by decide +kernel
theorem d_M_state_32 : decode b_M_state 32 = .ok (.iload_n 1, 1) := by decide +kernel
theorem d_M_state_33 : decode b_M_state 33 = .ok (.iaload, 1) := by decide +kernel
theorem d_M_state_34 : decode b_M_state 34 = .ok (.ireturn, 1) := by decide +kernel
theorem d_M_devices_0 : decode b_M_devices 0 = .ok (.aload_n 0, 1) := by decide +kernel
theorem d_M_devices_1 : decode b_M_devices 1 = .ok (.aload_n 0, 1) := by decide +kernel
theorem d_M_devices_2 : decode b_M_devices 2 = .ok (.iload_n 1, 1) := by decide +kernel
theorem d_M_devices_3 : decode b_M_devices 3 = .ok (.invokevirtual 127, 3) := by decide +kernel
theorem d_M_devices_6 : decode b_M_devices 6 = .ok (.ifCond .ne 7, 3) := by decide +kernel
theorem d_M_devices_9 : decode b_M_devices 9 = .ok (.iconst 1, 1) := by decide +kernel
theorem d_M_devices_10 : decode b_M_devices 10 = .ok (.goto 17, 3) := by decide +kernel
theorem d_M_devices_13 : decode b_M_devices 13 = .ok (.iload_n 2, 1) := by decide +kernel
theorem d_M_devices_14 : decode b_M_devices 14 = .ok (.iconst 0, 1) := by decide +kernel
theorem d_M_devices_15 : decode b_M_devices 15 = .ok (.iconst 2, 1) := by decide +kernel
theorem d_M_devices_16 : decode b_M_devices 16 = .ok (.invokestatic 75, 3) := by decide +kernel
theorem d_M_devices_19 : decode b_M_devices 19 = .ok (.ifCond .eq 7, 3) := by decide +kernel
theorem d_M_devices_22 : decode b_M_devices 22 = .ok (.iconst 0, 1) := by decide +kernel
theorem d_M_devices_23 : decode b_M_devices 23 = .ok (.goto 4, 3) := by decide +kernel
theorem d_M_devices_26 : decode b_M_devices 26 = .ok (.iconst 2, 1) := by decide +kernel
theorem d_M_devices_27 : decode b_M_devices 27 = .ok (.putfield 71, 3) := by decide +kernel
theorem d_M_devices_30 : decode b_M_devices 30 = .ok (.aload_n 0, 1) := by decide +kernel
theorem d_M_devices_31 : decode b_M_devices 31 = .ok (.getfield 71, 3) := by decide +kernel
theorem d_M_devices_34 : decode b_M_devices 34 = .ok (.ifCond .le 7, 3) := by decide +kernel
theorem d_M_devices_37 : decode b_M_devices 37 = .ok (.iconst 0, 1) := by decide +kernel
theorem d_M_devices_38 : decode b_M_devices 38 = .ok (.goto 36, 3) := by decide +kernel
theorem d_M_devices_41 : decode b_M_devices 41 = .ok (.iload_n 2, 1) := by decide +kernel
theorem d_M_devices_42 : decode b_M_devices 42 = .ok (.ifCond .ne 12, 3) := by decide +kernel
theorem d_M_devices_45 : decode b_M_devices 45 = .ok (.aload_n 0, 1) := by decide +kernel
theorem d_M_devices_46 : decode b_M_devices 46 = .ok (.getfield 62, 3) := by decide +kernel
theorem d_M_devices_49 : decode b_M_devices 49 = .ok (.iload_n 1, 1) := by decide +kernel
theorem d_M_devices_50 : decode b_M_devices 50 = .ok (.iaload, 1) := by decide +kernel
theorem d_M_devices_51 : decode b_M_devices 51 = .ok (.goto 23, 3) := by decide +kernel
theorem d_M_devices_54 : decode b_M_devices 54 = .ok (.iload_n 2, 1) := by decide +kernel
theorem d_M_devices_55 : decode b_M_devices 55 = .ok (.iconst 1, 1) := by decide +kernel
theorem d_M_devices_56 : decode b_M_devices 56 = .ok (.if_icmp .ne 12, 3) := by decide +kernel
theorem d_M_devices_59 : decode b_M_devices 59 = .ok (.aload_n 0, 1) := by decide +kernel
theorem d_M_devices_60 : decode b_M_devices 60 = .ok (.getfield 65, 3) := by decide +kernel
theorem d_M_devices_63 : decode b_M_devices 63 = .ok (.iload_n 1, 1) := by decide +kernel
theorem d_M_devices_64 : decode b_M_devices 64 = .ok (.iaload, 1) := by decide +kernel
theorem d_M_devices_65 : decode b_M_devices 65 = .ok (.goto 9, 3) := by decide +kernel
theorem d_M_devices_68 : decode b_M_devices 68 = .ok (.aload_n 0, 1) := by decide +kernel
theorem d_M_devices_69 : decode b_M_devices 69 = .ok (.getfield 68, 3) := by decide +kernel
theorem d_M_devices_72 : decode b_M_devices 72 = .ok (.iload_n 1, 1) := by decide +kernel
theorem d_M_devices_73 : decode b_M_devices 73 = .ok (.iaload, 1) := by decide +kernel
theorem d_M_devices_74 : decode b_M_devices 74 = .ok (.ireturn, 1) := by decide +kernel
