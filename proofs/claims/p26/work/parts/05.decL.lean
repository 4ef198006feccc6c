theorem d_L_cell_0 : decode b_L_cell 0 = .ok (.iload_n 1, 1) := by decide +kernel
theorem d_L_cell_1 : decode b_L_cell 1 = .ok (.aload_n 0, 1) := by decide +kernel
theorem d_L_cell_2 : decode b_L_cell 2 = .ok (.arraylength, 1) := by decide +kernel
theorem d_L_cell_3 : decode b_L_cell 3 = .ok (.if_icmp .ge 9, 3) := by decide +kernel
theorem d_L_cell_6 : decode b_L_cell 6 = .ok (.aload_n 0, 1) := by decide +kernel
theorem d_L_cell_7 : decode b_L_cell 7 = .ok (.iload_n 1, 1) := by decide +kernel
theorem d_L_cell_8 : decode b_L_cell 8 = .ok (.iaload, 1) := by decide +kernel
theorem d_L_cell_9 : decode b_L_cell 9 = .ok (.goto 9, 3) := by decide +kernel
theorem d_L_cell_12 : decode b_L_cell 12 = .ok (.ldc 7, 2) := by decide +kernel
theorem d_L_cell_14 : decode b_L_cell 14 = .ok (.iload_n 1, 1) := by decide +kernel
theorem d_L_cell_15 : decode b_L_cell 15 = .ok (.iconst 5, 1) := by decide +kernel
theorem d_L_cell_16 : decode b_L_cell 16 = .ok (.iadd, 1) := by decide +kernel
theorem d_L_cell_17 : decode b_L_cell 17 = .ok (.imul, 1) := by decide +kernel
theorem d_L_cell_18 : decode b_L_cell 18 = .ok (.ireturn, 1) := by decide +kernel
theorem d_L_low_0 : decode b_L_low 0 = .ok (.iload_n 0, 1) := by decide +kernel
theorem d_L_low_1 : decode b_L_low 1 = .ok (.iconst 1, 1) := by decide +kernel
theorem d_L_low_2 : decode b_L_low 2 = .ok (.iushr, 1) := by decide +kernel
theorem d_L_low_3 : decode b_L_low 3 = .ok (.iload_n 1, 1) := by decide +kernel
theorem d_L_low_4 : decode b_L_low 4 = .ok (.irem, 1) := by decide +kernel
theorem d_L_low_5 : decode b_L_low 5 = .ok (.ireturn, 1) := by decide +kernel
theorem d_L_empty_0 : decode b_L_empty 0 = .ok (.iconst 0, 1) := by decide +kernel
theorem d_L_empty_1 : decode b_L_empty 1 = .ok (.istore_n 1, 1) := by decide +kernel
theorem d_L_empty_2 : decode b_L_empty 2 = .ok (.iload_n 1, 1) := by decide +kernel
theorem d_L_empty_3 : decode b_L_empty 3 = .ok (.bipush 12, 2) := by decide +kernel
theorem d_L_empty_5 : decode b_L_empty 5 = .ok (.if_icmp .ge 14, 3) := by decide +kernel
theorem d_L_empty_8 : decode b_L_empty 8 = .ok (.aload_n 0, 1) := by decide +kernel
theorem d_L_empty_9 : decode b_L_empty 9 = .ok (.iload_n 1, 1) := by decide +kernel
theorem d_L_empty_10 : decode b_L_empty 10 = .ok (.bipush (-2), 2) := by decide +kernel
theorem d_L_empty_12 : decode b_L_empty 12 = .ok (.iastore, 1) := by decide +kernel
theorem d_L_empty_13 : decode b_L_empty 13 = .ok (.iinc 1 1, 3) := by decide +kernel
theorem d_L_empty_16 : decode b_L_empty 16 = .ok (.goto (-14), 3) := by decide +kernel
theorem d_L_empty_19 : decode b_L_empty 19 = .ok (.return_, 1) := by decide +kernel
theorem d_L_put_0 : decode b_L_put 0 = .ok (.aload_n 0, 1) := by decide +kernel
theorem d_L_put_1 : decode b_L_put 1 = .ok (.iload_n 1, 1) := by decide +kernel
theorem d_L_put_2 : decode b_L_put 2 = .ok (.iload_n 2, 1) := by decide +kernel
theorem d_L_put_3 : decode b_L_put 3 = .ok (.invokevirtual 8, 3) := by decide +kernel
theorem d_L_put_6 : decode b_L_put 6 = .ok (.istore_n 3, 1) := by decide +kernel
theorem d_L_put_7 : decode b_L_put 7 = .ok (.goto 13, 3) := by decide +kernel
theorem d_L_put_10 : decode b_L_put 10 = .ok (.astore 4, 2) := by decide +kernel
theorem d_L_put_12 : decode b_L_put 12 = .ok (.bipush (-71), 2) := by decide +kernel
theorem d_L_put_14 : decode b_L_put 14 = .ok (.ireturn, 1) := by decide +kernel
theorem d_L_put_15 : decode b_L_put 15 = .ok (.astore 4, 2) := by decide +kernel
theorem d_L_put_17 : decode b_L_put 17 = .ok (.bipush (-72), 2) := by decide +kernel
theorem d_L_put_19 : decode b_L_put 19 = .ok (.ireturn, 1) := by decide +kernel
theorem d_L_put_20 : decode b_L_put 20 = .ok (.iload_n 3, 1) := by decide +kernel
theorem d_L_put_21 : decode b_L_put 21 = .ok (.ireturn, 1) := by decide +kernel
theorem d_L_drafted_0 : decode b_L_drafted 0 = .ok (.iconst 0, 1) := by decide +kernel
theorem d_L_drafted_1 : decode b_L_drafted 1 = .ok (.istore_n 1, 1) := by decide +kernel
theorem d_L_drafted_2 : decode b_L_drafted 2 = .ok (.iconst 0, 1) := by decide +kernel
theorem d_L_drafted_3 : decode b_L_drafted 3 = .ok (.istore_n 2, 1) := by decide +kernel
theorem d_L_drafted_4 : decode b_L_drafted 4 = .ok (.iload_n 2, 1) := by decide +kernel
theorem d_L_drafted_5 : decode b_L_drafted 5 = .ok (.bipush 12, 2) := by decide +kernel
theorem d_L_drafted_7 : decode b_L_drafted 7 = .ok (.if_icmp .ge 25, 3) := by decide +kernel
theorem d_L_drafted_10 : decode b_L_drafted 10 = .ok (.iload_n 1, 1) := by decide +kernel
theorem d_L_drafted_11 : decode b_L_drafted 11 = .ok (.aload_n 0, 1) := by decide +kernel
theorem d_L_drafted_12 : decode b_L_drafted 12 = .ok (.iload_n 2, 1) := by decide +kernel
theorem d_L_drafted_13 : decode b_L_drafted 13 = .ok (.iaload, 1) := by decide +kernel
theorem d_L_drafted_14 : decode b_L_drafted 14 = .ok (.bipush (-2), 2) := by decide +kernel
theorem d_L_drafted_16 : decode b_L_drafted 16 = .ok (.if_icmp .le 7, 3) := by decide +kernel
theorem d_L_drafted_19 : decode b_L_drafted 19 = .ok (.iconst 1, 1) := by decide +kernel
theorem d_L_drafted_20 : decode b_L_drafted 20 = .ok (.goto 4, 3) := by decide +kernel
theorem d_L_drafted_23 : decode b_L_drafted 23 = .ok (.iconst 0, 1) := by decide +kernel
theorem d_L_drafted_24 : decode b_L_drafted 24 = .ok (.iadd, 1) := by decide +kernel
theorem d_L_drafted_25 : decode b_L_drafted 25 = .ok (.istore_n 1, 1) := by decide +kernel
theorem d_L_drafted_26 : decode b_L_drafted 26 = .ok (.iinc 2 1, 3) := by decide +kernel
theorem d_L_drafted_29 : decode b_L_drafted 29 = .ok (.goto (-25), 3) := by decide +kernel
theorem d_L_drafted_32 : decode b_L_drafted 32 = .ok (.iload_n 1, 1) := by decide +kernel
theorem d_L_drafted_33 : decode b_L_drafted 33 = .ok (.ireturn, 1) := by decide +kernel
theorem d_L_drop_0 : decode b_L_drop 0 = .ok (.aload_n 0, 1) := by decide +kernel
theorem d_L_drop_1 : decode b_L_drop 1 = .ok (.iload_n 1, 1) := by decide +kernel
theorem d_L_drop_2 : decode b_L_drop 2 = .ok (.invokevirtual 18, 3) := by decide +kernel
theorem d_L_drop_5 : decode b_L_drop 5 = .ok (.istore_n 2, 1) := by decide +kernel
theorem d_L_drop_6 : decode b_L_drop 6 = .ok (.goto 7, 3) := by decide +kernel
theorem d_L_drop_9 : decode b_L_drop 9 = .ok (.astore_n 3, 1) := by decide +kernel
theorem d_L_drop_10 : decode b_L_drop 10 = .ok (.bipush (-71), 2) := by decide +kernel
theorem d_L_drop_12 : decode b_L_drop 12 = .ok (.ireturn, 1) := by decide +kernel
theorem d_L_drop_13 : decode b_L_drop 13 = .ok (.iload_n 2, 1) := by decide +kernel
theorem d_L_drop_14 : decode b_L_drop 14 = .ok (.ireturn, 1) := by decide +kernel
theorem d_L_wish_0 : decode b_L_wish 0 = .ok (.aload_n 0, 1) := by decide +kernel
theorem d_L_wish_1 : decode b_L_wish 1 = .ok (.iload_n 1, 1) := by decide +kernel
theorem d_L_wish_2 : decode b_L_wish 2 = .ok (.iload_n 2, 1) := by decide +kernel
theorem d_L_wish_3 : decode b_L_wish 3 = .ok (.invokevirtual 22, 3) := by decide +kernel
theorem d_L_wish_6 : decode b_L_wish 6 = .ok (.istore_n 3, 1) := by decide +kernel
theorem d_L_wish_7 : decode b_L_wish 7 = .ok (.goto 13, 3) := by decide +kernel
theorem d_L_wish_10 : decode b_L_wish 10 = .ok (.astore 4, 2) := by decide +kernel
theorem d_L_wish_12 : decode b_L_wish 12 = .ok (.bipush (-71), 2) := by decide +kernel
theorem d_L_wish_14 : decode b_L_wish 14 = .ok (.ireturn, 1) := by decide +kernel
theorem d_L_wish_15 : decode b_L_wish 15 = .ok (.astore 4, 2) := by decide +kernel
theorem d_L_wish_17 : decode b_L_wish 17 = .ok (.bipush (-73), 2) := by decide +kernel
theorem d_L_wish_19 : decode b_L_wish 19 = .ok (.ireturn, 1) := by decide +kernel
theorem d_L_wish_20 : decode b_L_wish 20 = .ok (.iload_n 3, 1) := by decide +kernel
theorem d_L_wish_21 : decode b_L_wish 21 = .ok (.ireturn, 1) := by decide +kernel
theorem d_L_report_0 : decode b_L_report 0 = .ok (.aload_n 0, 1) := by decide +kernel
theorem d_L_report_1 : decode b_L_report 1 = .ok (.iload_n 1, 1) := by decide +kernel
theorem d_L_report_2 : decode b_L_report 2 = .ok (.iload_n 2, 1) := by decide +kernel
theorem d_L_report_3 : decode b_L_report 3 = .ok (.invokevirtual 27, 3) := by decide +kernel
theorem d_L_report_6 : decode b_L_report 6 = .ok (.istore_n 3, 1) := by decide +kernel
theorem d_L_report_7 : decode b_L_report 7 = .ok (.goto 18, 3) := by decide +kernel
theorem d_L_report_10 : decode b_L_report 10 = .ok (.astore 4, 2) := by decide +kernel
theorem d_L_report_12 : decode b_L_report 12 = .ok (.bipush (-71), 2) := by decide +kernel
theorem d_L_report_14 : decode b_L_report 14 = .ok (.ireturn, 1) := by decide +kernel
theorem d_L_report_15 : decode b_L_report 15 = .ok (.astore 4, 2) := by decide +kernel
theorem d_L_report_17 : decode b_L_report 17 = .ok (.bipush (-72), 2) := by decide +kernel
theorem d_L_report_19 : decode b_L_report 19 = .ok (.ireturn, 1) := by decide +kernel
theorem d_L_report_20 : decode b_L_report 20 = .ok (.astore 4, 2) := by decide +kernel
theorem d_L_report_22 : decode b_L_report 22 = .ok (.bipush (-73), 2) := by decide +kernel
theorem d_L_report_24 : decode b_L_report 24 = .ok (.ireturn, 1) := by decide +kernel
theorem d_L_report_25 : decode b_L_report 25 = .ok (.iload_n 3, 1) := by decide +kernel
theorem d_L_report_26 : decode b_L_report 26 = .ok (.ireturn, 1) := by decide +kernel
theorem d_L_differing_0 : decode b_L_differing 0 = .ok (.iconst 0, 1) := by decide +kernel
theorem d_L_differing_1 : decode b_L_differing 1 = .ok (.istore_n 2, 1) := by decide +kernel
theorem d_L_differing_2 : decode b_L_differing 2 = .ok (.iconst 0, 1) := by decide +kernel
theorem d_L_differing_3 : decode b_L_differing 3 = .ok (.istore_n 3, 1) := by decide +kernel
theorem d_L_differing_4 : decode b_L_differing 4 = .ok (.iload_n 3, 1) := by decide +kernel
theorem d_L_differing_5 : decode b_L_differing 5 = .ok (.bipush 12, 2) := by decide +kernel
theorem d_L_differing_7 : decode b_L_differing 7 = .ok (.if_icmp .ge 54, 3) := by decide +kernel
theorem d_L_differing_10 : decode b_L_differing 10 = .ok (.aload_n 0, 1) := by decide +kernel
theorem d_L_differing_11 : decode b_L_differing 11 = .ok (.bipush 12, 2) := by decide +kernel
theorem d_L_differing_13 : decode b_L_differing 13 = .ok (.iload_n 1, 1) := by decide +kernel
theorem d_L_differing_14 : decode b_L_differing 14 = .ok (.imul, 1) := by decide +kernel
theorem d_L_differing_15 : decode b_L_differing 15 = .ok (.iload_n 3, 1) := by decide +kernel
theorem d_L_differing_16 : decode b_L_differing 16 = .ok (.iadd, 1) := by decide +kernel
theorem d_L_differing_17 : decode b_L_differing 17 = .ok (.iaload, 1) := by decide +kernel
theorem d_L_differing_18 : decode b_L_differing 18 = .ok (.istore 4, 2) := by decide +kernel
theorem d_L_differing_20 : decode b_L_differing 20 = .ok (.iload 4, 2) := by decide +kernel
theorem d_L_differing_22 : decode b_L_differing 22 = .ok (.invokestatic 67, 3) := by decide +kernel
theorem d_L_differing_25 : decode b_L_differing 25 = .ok (.ifCond .lt 30, 3) := by decide +kernel
theorem d_L_differing_28 : decode b_L_differing 28 = .ok (.iload 4, 2) := by decide +kernel
theorem d_L_differing_30 : decode b_L_differing 30 = .ok (.sipush 16384, 3) := by decide +kernel
theorem d_L_differing_33 : decode b_L_differing 33 = .ok (.if_icmp .ge 22, 3) := by decide +kernel
theorem d_L_differing_36 : decode b_L_differing 36 = .ok (.iload 4, 2) := by decide +kernel
theorem d_L_differing_38 : decode b_L_differing 38 = .ok (.invokestatic 67, 3) := by decide +kernel
theorem d_L_differing_41 : decode b_L_differing 41 = .ok (.iload 4, 2) := by decide +kernel
theorem d_L_differing_43 : decode b_L_differing 43 = .ok (.invokestatic 72, 3) := by decide +kernel
theorem d_L_differing_46 : decode b_L_differing 46 = .ok (.if_icmp .eq 9, 3) := by decide +kernel
theorem d_L_differing_49 : decode b_L_differing 49 = .ok (.iload_n 2, 1) := by decide +kernel
theorem d_L_differing_50 : decode b_L_differing 50 = .ok (.iconst 1, 1) := by decide +kernel
theorem d_L_differing_51 : decode b_L_differing 51 = .ok (.iload_n 3, 1) := by decide +kernel
theorem d_L_differing_52 : decode b_L_differing 52 = .ok (.ishl, 1) := by decide +kernel
theorem d_L_differing_53 : decode b_L_differing 53 = .ok (.ior, 1) := by decide +kernel
theorem d_L_differing_54 : decode b_L_differing 54 = .ok (.istore_n 2, 1) := by decide +kernel
theorem d_L_differing_55 : decode b_L_differing 55 = .ok (.iinc 3 1, 3) := by decide +kernel
theorem d_L_differing_58 : decode b_L_differing 58 = .ok (.goto (-54), 3) := by decide +kernel
theorem d_L_differing_61 : decode b_L_differing 61 = .ok (.iload_n 2, 1) := by decide +kernel
theorem d_L_differing_62 : decode b_L_differing 62 = .ok (.ireturn, 1) := by decide +kernel
theorem d_L_wishedOf_0 : decode b_L_wishedOf 0 = .ok (.iload_n 0, 1) := by decide +kernel
theorem d_L_wishedOf_1 : decode b_L_wishedOf 1 = .ok (.bipush 127, 2) := by decide +kernel
theorem d_L_wishedOf_3 : decode b_L_wishedOf 3 = .ok (.iand, 1) := by decide +kernel
theorem d_L_wishedOf_4 : decode b_L_wishedOf 4 = .ok (.iconst 1, 1) := by decide +kernel
theorem d_L_wishedOf_5 : decode b_L_wishedOf 5 = .ok (.isub, 1) := by decide +kernel
theorem d_L_wishedOf_6 : decode b_L_wishedOf 6 = .ok (.ireturn, 1) := by decide +kernel
theorem d_L_reportedOf_0 : decode b_L_reportedOf 0 = .ok (.iload_n 0, 1) := by decide +kernel
theorem d_L_reportedOf_1 : decode b_L_reportedOf 1 = .ok (.bipush 7, 2) := by decide +kernel
theorem d_L_reportedOf_3 : decode b_L_reportedOf 3 = .ok (.ishr, 1) := by decide +kernel
theorem d_L_reportedOf_4 : decode b_L_reportedOf 4 = .ok (.bipush 127, 2) := by decide +kernel
theorem d_L_reportedOf_6 : decode b_L_reportedOf 6 = .ok (.iand, 1) := by decide +kernel
theorem d_L_reportedOf_7 : decode b_L_reportedOf 7 = .ok (.iconst 1, 1) := by decide +kernel
theorem d_L_reportedOf_8 : decode b_L_reportedOf 8 = .ok (.isub, 1) := by decide +kernel
theorem d_L_reportedOf_9 : decode b_L_reportedOf 9 = .ok (.ireturn, 1) := by decide +kernel
theorem d_L_many_0 : decode b_L_many 0 = .ok (.iconst 0, 1) := by decide +kernel
theorem d_L_many_1 : decode b_L_many 1 = .ok (.istore_n 1, 1) := by decide +kernel
theorem d_L_many_2 : decode b_L_many 2 = .ok (.iload_n 0, 1) := by decide +kernel
theorem d_L_many_3 : decode b_L_many 3 = .ok (.istore_n 2, 1) := by decide +kernel
theorem d_L_many_4 : decode b_L_many 4 = .ok (.iload_n 2, 1) := by decide +kernel
theorem d_L_many_5 : decode b_L_many 5 = .ok (.ifCond .eq 15, 3) := by decide +kernel
theorem d_L_many_8 : decode b_L_many 8 = .ok (.iinc 1 1, 3) := by decide +kernel
theorem d_L_many_11 : decode b_L_many 11 = .ok (.iload_n 2, 1) := by decide +kernel
theorem d_L_many_12 : decode b_L_many 12 = .ok (.iload_n 2, 1) := by decide +kernel
theorem d_L_many_13 : decode b_L_many 13 = .ok (.iconst 1, 1) := by decide +kernel
theorem d_L_many_14 : decode b_L_many 14 = .ok (.isub, 1) := by decide +kernel
theorem d_L_many_15 : decode b_L_many 15 = .ok (.iand, 1) := by decide +kernel
theorem d_L_many_16 : decode b_L_many 16 = .ok (.istore_n 2, 1) := by decide +kernel
theorem d_L_many_17 : decode b_L_many 17 = .ok (.goto (-13), 3) := by decide +kernel
theorem d_L_many_20 : decode b_L_many 20 = .ok (.iload_n 1, 1) := by decide +kernel
theorem d_L_many_21 : decode b_L_many 21 = .ok (.ireturn, 1) := by decide +kernel
theorem d_L_obey_0 : decode b_L_obey 0 = .ok (.aload_n 0, 1) := by decide +kernel
theorem d_L_obey_1 : decode b_L_obey 1 = .ok (.iload_n 1, 1) := by decide +kernel
theorem d_L_obey_2 : decode b_L_obey 2 = .ok (.invokevirtual 30, 3) := by decide +kernel
theorem d_L_obey_5 : decode b_L_obey 5 = .ok (.istore_n 2, 1) := by decide +kernel
theorem d_L_obey_6 : decode b_L_obey 6 = .ok (.goto 11, 3) := by decide +kernel
theorem d_L_obey_9 : decode b_L_obey 9 = .ok (.astore_n 3, 1) := by decide +kernel
theorem d_L_obey_10 : decode b_L_obey 10 = .ok (.bipush (-71), 2) := by decide +kernel
theorem d_L_obey_12 : decode b_L_obey 12 = .ok (.ireturn, 1) := by decide +kernel
theorem d_L_obey_13 : decode b_L_obey 13 = .ok (.astore_n 3, 1) := by decide +kernel
theorem d_L_obey_14 : decode b_L_obey 14 = .ok (.bipush (-73), 2) := by decide +kernel
theorem d_L_obey_16 : decode b_L_obey 16 = .ok (.ireturn, 1) := by decide +kernel
theorem d_L_obey_17 : decode b_L_obey 17 = .ok (.iload_n 2, 1) := by decide +kernel
theorem d_L_obey_18 : decode b_L_obey 18 = .ok (.ireturn, 1) := by decide +kernel
theorem d_L_refuse_0 : decode b_L_refuse 0 = .ok (.aload_n 0, 1) := by decide +kernel
theorem d_L_refuse_1 : decode b_L_refuse 1 = .ok (.iload_n 1, 1) := by decide +kernel
theorem d_L_refuse_2 : decode b_L_refuse 2 = .ok (.iload_n 2, 1) := by decide +kernel
theorem d_L_refuse_3 : decode b_L_refuse 3 = .ok (.iload_n 3, 1) := by decide +kernel
theorem d_L_refuse_4 : decode b_L_refuse 4 = .ok (.invokevirtual 33, 3) := by decide +kernel
theorem d_L_refuse_7 : decode b_L_refuse 7 = .ok (.istore 4, 2) := by decide +kernel
theorem d_L_refuse_9 : decode b_L_refuse 9 = .ok (.goto 18, 3) := by decide +kernel
theorem d_L_refuse_12 : decode b_L_refuse 12 = .ok (.astore 5, 2) := by decide +kernel
theorem d_L_refuse_14 : decode b_L_refuse 14 = .ok (.bipush (-71), 2) := by decide +kernel
theorem d_L_refuse_16 : decode b_L_refuse 16 = .ok (.ireturn, 1) := by decide +kernel
theorem d_L_refuse_17 : decode b_L_refuse 17 = .ok (.astore 5, 2) := by decide +kernel
theorem d_L_refuse_19 : decode b_L_refuse 19 = .ok (.bipush (-72), 2) := by decide +kernel
theorem d_L_refuse_21 : decode b_L_refuse 21 = .ok (.ireturn, 1) := by decide +kernel
theorem d_L_refuse_22 : decode b_L_refuse 22 = .ok (.astore 5, 2) := by decide +kernel
theorem d_L_refuse_24 : decode b_L_refuse 24 = .ok (.bipush (-73), 2) := by decide +kernel
theorem d_L_refuse_26 : decode b_L_refuse 26 = .ok (.ireturn, 1) := by decide +kernel
theorem d_L_refuse_27 : decode b_L_refuse 27 = .ok (.iload 4, 2) := by decide +kernel
theorem d_L_refuse_29 : decode b_L_refuse 29 = .ok (.ireturn, 1) := by decide +kernel
theorem d_L_sleep_0 : decode b_L_sleep 0 = .ok (.aload_n 0, 1) := by decide +kernel
theorem d_L_sleep_1 : decode b_L_sleep 1 = .ok (.iload_n 1, 1) := by decide +kernel
theorem d_L_sleep_2 : decode b_L_sleep 2 = .ok (.invokevirtual 37, 3) := by decide +kernel
theorem d_L_sleep_5 : decode b_L_sleep 5 = .ok (.istore_n 2, 1) := by decide +kernel
theorem d_L_sleep_6 : decode b_L_sleep 6 = .ok (.goto 7, 3) := by decide +kernel
theorem d_L_sleep_9 : decode b_L_sleep 9 = .ok (.astore_n 3, 1) := by decide +kernel
theorem d_L_sleep_10 : decode b_L_sleep 10 = .ok (.bipush (-71), 2) := by decide +kernel
theorem d_L_sleep_12 : decode b_L_sleep 12 = .ok (.ireturn, 1) := by decide +kernel
theorem d_L_sleep_13 : decode b_L_sleep 13 = .ok (.iload_n 2, 1) := by decide +kernel
theorem d_L_sleep_14 : decode b_L_sleep 14 = .ok (.ifCond .eq 7, 3) := by decide +kernel
theorem d_L_sleep_17 : decode b_L_sleep 17 = .ok (.iconst 1, 1) := by decide +kernel
theorem d_L_sleep_18 : decode b_L_sleep 18 = .ok (.goto 4, 3) := by decide +kernel
theorem d_L_sleep_21 : decode b_L_sleep 21 = .ok (.iconst 0, 1) := by decide +kernel
theorem d_L_sleep_22 : decode b_L_sleep 22 = .ok (.ireturn, 1) := by decide +kernel
theorem d_L_wake_0 : decode b_L_wake 0 = .ok (.aload_n 0, 1) := by decide +kernel
theorem d_L_wake_1 : decode b_L_wake 1 = .ok (.iload_n 1, 1) := by decide +kernel
theorem d_L_wake_2 : decode b_L_wake 2 = .ok (.invokevirtual 41, 3) := by decide +kernel
theorem d_L_wake_5 : decode b_L_wake 5 = .ok (.istore_n 2, 1) := by decide +kernel
theorem d_L_wake_6 : decode b_L_wake 6 = .ok (.goto 7, 3) := by decide +kernel
theorem d_L_wake_9 : decode b_L_wake 9 = .ok (.astore_n 3, 1) := by decide +kernel
theorem d_L_wake_10 : decode b_L_wake 10 = .ok (.bipush (-71), 2) := by decide +kernel
theorem d_L_wake_12 : decode b_L_wake 12 = .ok (.ireturn, 1) := by decide +kernel
theorem d_L_wake_13 : decode b_L_wake 13 = .ok (.iload_n 2, 1) := by decide +kernel
theorem d_L_wake_14 : decode b_L_wake 14 = .ok (.ireturn, 1) := by decide +kernel
theorem d_L_setGroup_0 : decode b_L_setGroup 0 = .ok (.aload_n 0, 1) := by decide +kernel
theorem d_L_setGroup_1 : decode b_L_setGroup 1 = .ok (.iload_n 1, 1) := by decide +kernel
theorem d_L_setGroup_2 : decode b_L_setGroup 2 = .ok (.iload_n 2, 1) := by decide +kernel
theorem d_L_setGroup_3 : decode b_L_setGroup 3 = .ok (.iload_n 3, 1) := by decide +kernel
theorem d_L_setGroup_4 : decode b_L_setGroup 4 = .ok (.iload 4, 2) := by decide +kernel
theorem d_L_setGroup_6 : decode b_L_setGroup 6 = .ok (.invokevirtual 44, 3) := by decide +kernel
theorem d_L_setGroup_9 : decode b_L_setGroup 9 = .ok (.istore 5, 2) := by decide +kernel
theorem d_L_setGroup_11 : decode b_L_setGroup 11 = .ok (.goto 13, 3) := by decide +kernel
theorem d_L_setGroup_14 : decode b_L_setGroup 14 = .ok (.astore 6, 2) := by decide +kernel
theorem d_L_setGroup_16 : decode b_L_setGroup 16 = .ok (.bipush (-71), 2) := by decide +kernel
theorem d_L_setGroup_18 : decode b_L_setGroup 18 = .ok (.ireturn, 1) := by decide +kernel
theorem d_L_setGroup_19 : decode b_L_setGroup 19 = .ok (.astore 6, 2) := by decide +kernel
theorem d_L_setGroup_21 : decode b_L_setGroup 21 = .ok (.bipush (-72), 2) := by decide +kernel
theorem d_L_setGroup_23 : decode b_L_setGroup 23 = .ok (.ireturn, 1) := by decide +kernel
theorem d_L_setGroup_24 : decode b_L_setGroup 24 = .ok (.iload 5, 2) := by decide +kernel
theorem d_L_setGroup_26 : decode b_L_setGroup 26 = .ok (.ireturn, 1) := by decide +kernel
theorem d_L_members_0 : decode b_L_members 0 = .ok (.iconst 0, 1) := by decide +kernel
theorem d_L_members_1 : decode b_L_members 1 = .ok (.istore_n 3, 1) := by decide +kernel
theorem d_L_members_2 : decode b_L_members 2 = .ok (.iconst 0, 1) := by decide +kernel
theorem d_L_members_3 : decode b_L_members 3 = .ok (.istore 4, 2) := by decide +kernel
theorem d_L_members_5 : decode b_L_members 5 = .ok (.iload 4, 2) := by decide +kernel
theorem d_L_members_7 : decode b_L_members 7 = .ok (.iconst 5, 1) := by decide +kernel
theorem d_L_members_8 : decode b_L_members 8 = .ok (.if_icmp .ge 59, 3) := by decide +kernel
theorem d_L_members_11 : decode b_L_members 11 = .ok (.aload_n 0, 1) := by decide +kernel
theorem d_L_members_12 : decode b_L_members 12 = .ok (.bipush 12, 2) := by decide +kernel
theorem d_L_members_14 : decode b_L_members 14 = .ok (.iload 4, 2) := by decide +kernel
theorem d_L_members_16 : decode b_L_members 16 = .ok (.imul, 1) := by decide +kernel
theorem d_L_members_17 : decode b_L_members 17 = .ok (.aload_n 1, 1) := by decide +kernel
theorem d_L_members_18 : decode b_L_members 18 = .ok (.iload_n 2, 1) := by decide +kernel
theorem d_L_members_19 : decode b_L_members 19 = .ok (.iaload, 1) := by decide +kernel
theorem d_L_members_20 : decode b_L_members 20 = .ok (.bipush 15, 2) := by decide +kernel
theorem d_L_members_22 : decode b_L_members 22 = .ok (.iand, 1) := by decide +kernel
theorem d_L_members_23 : decode b_L_members 23 = .ok (.iadd, 1) := by decide +kernel
theorem d_L_members_24 : decode b_L_members 24 = .ok (.iaload, 1) := by decide +kernel
theorem d_L_members_25 : decode b_L_members 25 = .ok (.invokestatic 72, 3) := by decide +kernel
theorem d_L_members_28 : decode b_L_members 28 = .ok (.istore 5, 2) := by decide +kernel
theorem d_L_members_30 : decode b_L_members 30 = .ok (.iload 5, 2) := by decide +kernel
theorem d_L_members_32 : decode b_L_members 32 = .ok (.aload_n 1, 1) := by decide +kernel
theorem d_L_members_33 : decode b_L_members 33 = .ok (.iload_n 2, 1) := by decide +kernel
theorem d_L_members_34 : decode b_L_members 34 = .ok (.iaload, 1) := by decide +kernel
theorem d_L_members_35 : decode b_L_members 35 = .ok (.iconst 4, 1) := by decide +kernel
theorem d_L_members_36 : decode b_L_members 36 = .ok (.ishr, 1) := by decide +kernel
theorem d_L_members_37 : decode b_L_members 37 = .ok (.bipush 127, 2) := by decide +kernel
theorem d_L_members_39 : decode b_L_members 39 = .ok (.iand, 1) := by decide +kernel
theorem d_L_members_40 : decode b_L_members 40 = .ok (.if_icmp .lt 21, 3) := by decide +kernel
theorem d_L_members_43 : decode b_L_members 43 = .ok (.iload 5, 2) := by decide +kernel
theorem d_L_members_45 : decode b_L_members 45 = .ok (.aload_n 1, 1) := by decide +kernel
theorem d_L_members_46 : decode b_L_members 46 = .ok (.iload_n 2, 1) := by decide +kernel
theorem d_L_members_47 : decode b_L_members 47 = .ok (.iaload, 1) := by decide +kernel
theorem d_L_members_48 : decode b_L_members 48 = .ok (.bipush 11, 2) := by decide +kernel
theorem d_L_members_50 : decode b_L_members 50 = .ok (.ishr, 1) := by decide +kernel
theorem d_L_members_51 : decode b_L_members 51 = .ok (.if_icmp .gt 10, 3) := by decide +kernel
theorem d_L_members_54 : decode b_L_members 54 = .ok (.iload_n 3, 1) := by decide +kernel
theorem d_L_members_55 : decode b_L_members 55 = .ok (.iconst 1, 1) := by decide +kernel
theorem d_L_members_56 : decode b_L_members 56 = .ok (.iload 4, 2) := by decide +kernel
theorem d_L_members_58 : decode b_L_members 58 = .ok (.ishl, 1) := by decide +kernel
theorem d_L_members_59 : decode b_L_members 59 = .ok (.ior, 1) := by decide +kernel
theorem d_L_members_60 : decode b_L_members 60 = .ok (.istore_n 3, 1) := by decide +kernel
theorem d_L_members_61 : decode b_L_members 61 = .ok (.iinc 4 1, 3) := by decide +kernel
theorem d_L_members_64 : decode b_L_members 64 = .ok (.goto (-59), 3) := by decide +kernel
theorem d_L_members_67 : decode b_L_members 67 = .ok (.iload_n 3, 1) := by decide +kernel
theorem d_L_members_68 : decode b_L_members 68 = .ok (.ireturn, 1) := by decide +kernel
theorem d_L_addJob_0 : decode b_L_addJob 0 = .ok (.aload_n 0, 1) := by decide +kernel
theorem d_L_addJob_1 : decode b_L_addJob 1 = .ok (.iload_n 1, 1) := by decide +kernel
theorem d_L_addJob_2 : decode b_L_addJob 2 = .ok (.iload_n 2, 1) := by decide +kernel
theorem d_L_addJob_3 : decode b_L_addJob 3 = .ok (.iload_n 3, 1) := by decide +kernel
theorem d_L_addJob_4 : decode b_L_addJob 4 = .ok (.iload 4, 2) := by decide +kernel
theorem d_L_addJob_6 : decode b_L_addJob 6 = .ok (.iload 5, 2) := by decide +kernel
theorem d_L_addJob_8 : decode b_L_addJob 8 = .ok (.invokevirtual 48, 3) := by decide +kernel
theorem d_L_addJob_11 : decode b_L_addJob 11 = .ok (.istore 6, 2) := by decide +kernel
theorem d_L_addJob_13 : decode b_L_addJob 13 = .ok (.goto 18, 3) := by decide +kernel
theorem d_L_addJob_16 : decode b_L_addJob 16 = .ok (.astore 7, 2) := by decide +kernel
theorem d_L_addJob_18 : decode b_L_addJob 18 = .ok (.bipush (-71), 2) := by decide +kernel
theorem d_L_addJob_20 : decode b_L_addJob 20 = .ok (.ireturn, 1) := by decide +kernel
theorem d_L_addJob_21 : decode b_L_addJob 21 = .ok (.astore 7, 2) := by decide +kernel
theorem d_L_addJob_23 : decode b_L_addJob 23 = .ok (.bipush (-72), 2) := by decide +kernel
theorem d_L_addJob_25 : decode b_L_addJob 25 = .ok (.ireturn, 1) := by decide +kernel
theorem d_L_addJob_26 : decode b_L_addJob 26 = .ok (.astore 7, 2) := by decide +kernel
theorem d_L_addJob_28 : decode b_L_addJob 28 = .ok (.bipush (-73), 2) := by decide +kernel
theorem d_L_addJob_30 : decode b_L_addJob 30 = .ok (.ireturn, 1) := by decide +kernel
theorem d_L_addJob_31 : decode b_L_addJob 31 = .ok (.iload 6, 2) := by decide +kernel
theorem d_L_addJob_33 : decode b_L_addJob 33 = .ok (.ireturn, 1) := by decide +kernel
theorem d_L_cancel_0 : decode b_L_cancel 0 = .ok (.aload_n 0, 1) := by decide +kernel
theorem d_L_cancel_1 : decode b_L_cancel 1 = .ok (.iload_n 1, 1) := by decide +kernel
theorem d_L_cancel_2 : decode b_L_cancel 2 = .ok (.invokevirtual 52, 3) := by decide +kernel
theorem d_L_cancel_5 : decode b_L_cancel 5 = .ok (.istore_n 2, 1) := by decide +kernel
theorem d_L_cancel_6 : decode b_L_cancel 6 = .ok (.goto 11, 3) := by decide +kernel
theorem d_L_cancel_9 : decode b_L_cancel 9 = .ok (.astore_n 3, 1) := by decide +kernel
theorem d_L_cancel_10 : decode b_L_cancel 10 = .ok (.bipush (-71), 2) := by decide +kernel
theorem d_L_cancel_12 : decode b_L_cancel 12 = .ok (.ireturn, 1) := by decide +kernel
theorem d_L_cancel_13 : decode b_L_cancel 13 = .ok (.astore_n 3, 1) := by decide +kernel
theorem d_L_cancel_14 : decode b_L_cancel 14 = .ok (.bipush (-73), 2) := by decide +kernel
theorem d_L_cancel_16 : decode b_L_cancel 16 = .ok (.ireturn, 1) := by decide +kernel
theorem d_L_cancel_17 : decode b_L_cancel 17 = .ok (.iload_n 2, 1) := by decide +kernel
theorem d_L_cancel_18 : decode b_L_cancel 18 = .ok (.ireturn, 1) := by decide +kernel
theorem d_L_state_0 : decode b_L_state 0 = .ok (.aload_n 0, 1) := by decide +kernel
theorem d_L_state_1 : decode b_L_state 1 = .ok (.iload_n 1, 1) := by decide +kernel
theorem d_L_state_2 : decode b_L_state 2 = .ok (.invokevirtual 61, 3) := by decide +kernel
theorem d_L_state_5 : decode b_L_state 5 = .ok (.istore_n 2, 1) := by decide +kernel
theorem d_L_state_6 : decode b_L_state 6 = .ok (.goto 7, 3) := by decide +kernel
theorem d_L_state_9 : decode b_L_state 9 = .ok (.astore_n 3, 1) := by decide +kernel
theorem d_L_state_10 : decode b_L_state 10 = .ok (.bipush (-71), 2) := by decide +kernel
theorem d_L_state_12 : decode b_L_state 12 = .ok (.ireturn, 1) := by decide +kernel
theorem d_L_state_13 : decode b_L_state 13 = .ok (.iload_n 2, 1) := by decide +kernel
theorem d_L_state_14 : decode b_L_state 14 = .ok (.ireturn, 1) := by decide +kernel
theorem d_L_version_0 : decode b_L_version 0 = .ok (.aload_n 0, 1) := by decide +kernel
theorem d_L_version_1 : decode b_L_version 1 = .ok (.iload_n 1, 1) := by decide +kernel
theorem d_L_version_2 : decode b_L_version 2 = .ok (.invokevirtual 55, 3) := by decide +kernel
theorem d_L_version_5 : decode b_L_version 5 = .ok (.istore_n 2, 1) := by decide +kernel
theorem d_L_version_6 : decode b_L_version 6 = .ok (.goto 7, 3) := by decide +kernel
theorem d_L_version_9 : decode b_L_version 9 = .ok (.astore_n 3, 1) := by decide +kernel
theorem d_L_version_10 : decode b_L_version 10 = .ok (.bipush (-71), 2) := by decide +kernel
theorem d_L_version_12 : decode b_L_version 12 = .ok (.ireturn, 1) := by decide +kernel
theorem d_L_version_13 : decode b_L_version 13 = .ok (.iload_n 2, 1) := by decide +kernel
theorem d_L_version_14 : decode b_L_version 14 = .ok (.ireturn, 1) := by decide +kernel
theorem d_L_wished_0 : decode b_L_wished 0 = .ok (.aload_n 0, 1) := by decide +kernel
theorem d_L_wished_1 : decode b_L_wished 1 = .ok (.iload_n 1, 1) := by decide +kernel
theorem d_L_wished_2 : decode b_L_wished 2 = .ok (.iload_n 2, 1) := by decide +kernel
theorem d_L_wished_3 : decode b_L_wished 3 = .ok (.invokevirtual 58, 3) := by decide +kernel
theorem d_L_wished_6 : decode b_L_wished 6 = .ok (.istore_n 3, 1) := by decide +kernel
theorem d_L_wished_7 : decode b_L_wished 7 = .ok (.goto 8, 3) := by decide +kernel
theorem d_L_wished_10 : decode b_L_wished 10 = .ok (.astore 4, 2) := by decide +kernel
theorem d_L_wished_12 : decode b_L_wished 12 = .ok (.bipush (-71), 2) := by decide +kernel
theorem d_L_wished_14 : decode b_L_wished 14 = .ok (.ireturn, 1) := by decide +kernel
theorem d_L_wished_15 : decode b_L_wished 15 = .ok (.iload_n 3, 1) := by decide +kernel
theorem d_L_wished_16 : decode b_L_wished 16 = .ok (.ireturn, 1) := by decide +kernel
theorem d_L_devices_0 : decode b_L_devices 0 = .ok (.aload_n 0, 1) := by decide +kernel
theorem d_L_devices_1 : decode b_L_devices 1 = .ok (.iload_n 1, 1) := by decide +kernel
theorem d_L_devices_2 : decode b_L_devices 2 = .ok (.iload_n 2, 1) := by decide +kernel
theorem d_L_devices_3 : decode b_L_devices 3 = .ok (.invokevirtual 64, 3) := by decide +kernel
theorem d_L_devices_6 : decode b_L_devices 6 = .ok (.istore_n 3, 1) := by decide +kernel
theorem d_L_devices_7 : decode b_L_devices 7 = .ok (.goto 13, 3) := by decide +kernel
theorem d_L_devices_10 : decode b_L_devices 10 = .ok (.astore 4, 2) := by decide +kernel
theorem d_L_devices_12 : decode b_L_devices 12 = .ok (.bipush (-71), 2) := by decide +kernel
theorem d_L_devices_14 : decode b_L_devices 14 = .ok (.ireturn, 1) := by decide +kernel
theorem d_L_devices_15 : decode b_L_devices 15 = .ok (.astore 4, 2) := by decide +kernel
theorem d_L_devices_17 : decode b_L_devices 17 = .ok (.bipush (-72), 2) := by decide +kernel
theorem d_L_devices_19 : decode b_L_devices 19 = .ok (.ireturn, 1) := by decide +kernel
theorem d_L_devices_20 : decode b_L_devices 20 = .ok (.iload_n 3, 1) := by decide +kernel
theorem d_L_devices_21 : decode b_L_devices 21 = .ok (.ireturn, 1) := by decide +kernel
theorem d_L_isTold_0 : decode b_L_isTold 0 = .ok (.iconst 0, 1) := by decide +kernel
theorem d_L_isTold_1 : decode b_L_isTold 1 = .ok (.istore 9, 2) := by decide +kernel
theorem d_L_isTold_3 : decode b_L_isTold 3 = .ok (.iload 9, 2) := by decide +kernel
theorem d_L_isTold_5 : decode b_L_isTold 5 = .ok (.iconst 5, 1) := by decide +kernel
theorem d_L_isTold_6 : decode b_L_isTold 6 = .ok (.if_icmp .ge 171, 3) := by decide +kernel
theorem d_L_isTold_9 : decode b_L_isTold 9 = .ok (.aload_n 1, 1) := by decide +kernel
theorem d_L_isTold_10 : decode b_L_isTold 10 = .ok (.iload 9, 2) := by decide +kernel
theorem d_L_isTold_12 : decode b_L_isTold 12 = .ok (.invokestatic 100, 3) := by decide +kernel
theorem d_L_isTold_15 : decode b_L_isTold 15 = .ok (.istore 10, 2) := by decide +kernel
theorem d_L_isTold_17 : decode b_L_isTold 17 = .ok (.aload_n 0, 1) := by decide +kernel
theorem d_L_isTold_18 : decode b_L_isTold 18 = .ok (.iload 9, 2) := by decide +kernel
theorem d_L_isTold_20 : decode b_L_isTold 20 = .ok (.invokestatic 135, 3) := by decide +kernel
theorem d_L_isTold_23 : decode b_L_isTold 23 = .ok (.aload_n 2, 1) := by decide +kernel
theorem d_L_isTold_24 : decode b_L_isTold 24 = .ok (.iload 9, 2) := by decide +kernel
theorem d_L_isTold_26 : decode b_L_isTold 26 = .ok (.iaload, 1) := by decide +kernel
theorem d_L_isTold_27 : decode b_L_isTold 27 = .ok (.if_icmp .ne 52, 3) := by decide +kernel
theorem d_L_isTold_30 : decode b_L_isTold 30 = .ok (.aload_n 0, 1) := by decide +kernel
theorem d_L_isTold_31 : decode b_L_isTold 31 = .ok (.iload 9, 2) := by decide +kernel
theorem d_L_isTold_33 : decode b_L_isTold 33 = .ok (.invokevirtual 137, 3) := by decide +kernel
theorem d_L_isTold_36 : decode b_L_isTold 36 = .ok (.aload_n 3, 1) := by decide +kernel
theorem d_L_isTold_37 : decode b_L_isTold 37 = .ok (.iload 9, 2) := by decide +kernel
theorem d_L_isTold_39 : decode b_L_isTold 39 = .ok (.iaload, 1) := by decide +kernel
theorem d_L_isTold_40 : decode b_L_isTold 40 = .ok (.ifCond .ge 10, 3) := by decide +kernel
theorem d_L_isTold_43 : decode b_L_isTold 43 = .ok (.aload_n 2, 1) := by decide +kernel
theorem d_L_isTold_44 : decode b_L_isTold 44 = .ok (.iload 9, 2) := by decide +kernel
theorem d_L_isTold_46 : decode b_L_isTold 46 = .ok (.iaload, 1) := by decide +kernel
theorem d_L_isTold_47 : decode b_L_isTold 47 = .ok (.goto 7, 3) := by decide +kernel
theorem d_L_isTold_50 : decode b_L_isTold 50 = .ok (.aload_n 3, 1) := by decide +kernel
theorem d_L_isTold_51 : decode b_L_isTold 51 = .ok (.iload 9, 2) := by decide +kernel
theorem d_L_isTold_53 : decode b_L_isTold 53 = .ok (.iaload, 1) := by decide +kernel
theorem d_L_isTold_54 : decode b_L_isTold 54 = .ok (.if_icmp .ne 25, 3) := by decide +kernel
theorem d_L_isTold_57 : decode b_L_isTold 57 = .ok (.aload_n 0, 1) := by decide +kernel
theorem d_L_isTold_58 : decode b_L_isTold 58 = .ok (.iload 9, 2) := by decide +kernel
theorem d_L_isTold_60 : decode b_L_isTold 60 = .ok (.invokevirtual 140, 3) := by decide +kernel
theorem d_L_isTold_63 : decode b_L_isTold 63 = .ok (.iload 10, 2) := by decide +kernel
theorem d_L_isTold_65 : decode b_L_isTold 65 = .ok (.if_icmp .ne 14, 3) := by decide +kernel
theorem d_L_isTold_68 : decode b_L_isTold 68 = .ok (.aload_n 0, 1) := by decide +kernel
theorem d_L_isTold_69 : decode b_L_isTold 69 = .ok (.iload 9, 2) := by decide +kernel
theorem d_L_isTold_71 : decode b_L_isTold 71 = .ok (.invokevirtual 143, 3) := by decide +kernel
theorem d_L_isTold_74 : decode b_L_isTold 74 = .ok (.iload 10, 2) := by decide +kernel
theorem d_L_isTold_76 : decode b_L_isTold 76 = .ok (.if_icmp .eq 5, 3) := by decide +kernel
theorem d_L_isTold_79 : decode b_L_isTold 79 = .ok (.iconst 0, 1) := by decide +kernel
theorem d_L_isTold_80 : decode b_L_isTold 80 = .ok (.ireturn, 1) := by decide +kernel
theorem d_L_isTold_81 : decode b_L_isTold 81 = .ok (.iconst 0, 1) := by decide +kernel
theorem d_L_isTold_82 : decode b_L_isTold 82 = .ok (.istore 11, 2) := by decide +kernel
theorem d_L_isTold_84 : decode b_L_isTold 84 = .ok (.iload 11, 2) := by decide +kernel
theorem d_L_isTold_86 : decode b_L_isTold 86 = .ok (.bipush 12, 2) := by decide +kernel
theorem d_L_isTold_88 : decode b_L_isTold 88 = .ok (.if_icmp .ge 83, 3) := by decide +kernel
theorem d_L_isTold_91 : decode b_L_isTold 91 = .ok (.aload_n 0, 1) := by decide +kernel
theorem d_L_isTold_92 : decode b_L_isTold 92 = .ok (.iload 9, 2) := by decide +kernel
theorem d_L_isTold_94 : decode b_L_isTold 94 = .ok (.iload 11, 2) := by decide +kernel
theorem d_L_isTold_96 : decode b_L_isTold 96 = .ok (.invokestatic 146, 3) := by decide +kernel
theorem d_L_isTold_99 : decode b_L_isTold 99 = .ok (.aload_n 1, 1) := by decide +kernel
theorem d_L_isTold_100 : decode b_L_isTold 100 = .ok (.bipush 12, 2) := by decide +kernel
theorem d_L_isTold_102 : decode b_L_isTold 102 = .ok (.iload 9, 2) := by decide +kernel
theorem d_L_isTold_104 : decode b_L_isTold 104 = .ok (.imul, 1) := by decide +kernel
theorem d_L_isTold_105 : decode b_L_isTold 105 = .ok (.iload 11, 2) := by decide +kernel
theorem d_L_isTold_107 : decode b_L_isTold 107 = .ok (.iadd, 1) := by decide +kernel
theorem d_L_isTold_108 : decode b_L_isTold 108 = .ok (.iaload, 1) := by decide +kernel
theorem d_L_isTold_109 : decode b_L_isTold 109 = .ok (.invokestatic 67, 3) := by decide +kernel
theorem d_L_isTold_112 : decode b_L_isTold 112 = .ok (.if_icmp .ne 51, 3) := by decide +kernel
theorem d_L_isTold_115 : decode b_L_isTold 115 = .ok (.aload_n 0, 1) := by decide +kernel
theorem d_L_isTold_116 : decode b_L_isTold 116 = .ok (.iload 9, 2) := by decide +kernel
theorem d_L_isTold_118 : decode b_L_isTold 118 = .ok (.iload 11, 2) := by decide +kernel
theorem d_L_isTold_120 : decode b_L_isTold 120 = .ok (.invokevirtual 148, 3) := by decide +kernel
theorem d_L_isTold_123 : decode b_L_isTold 123 = .ok (.aload_n 1, 1) := by decide +kernel
theorem d_L_isTold_124 : decode b_L_isTold 124 = .ok (.bipush 12, 2) := by decide +kernel
theorem d_L_isTold_126 : decode b_L_isTold 126 = .ok (.iload 9, 2) := by decide +kernel
theorem d_L_isTold_128 : decode b_L_isTold 128 = .ok (.imul, 1) := by decide +kernel
theorem d_L_isTold_129 : decode b_L_isTold 129 = .ok (.iload 11, 2) := by decide +kernel
theorem d_L_isTold_131 : decode b_L_isTold 131 = .ok (.iadd, 1) := by decide +kernel
theorem d_L_isTold_132 : decode b_L_isTold 132 = .ok (.iaload, 1) := by decide +kernel
theorem d_L_isTold_133 : decode b_L_isTold 133 = .ok (.invokestatic 72, 3) := by decide +kernel
theorem d_L_isTold_136 : decode b_L_isTold 136 = .ok (.if_icmp .ne 27, 3) := by decide +kernel
theorem d_L_isTold_139 : decode b_L_isTold 139 = .ok (.aload_n 0, 1) := by decide +kernel
theorem d_L_isTold_140 : decode b_L_isTold 140 = .ok (.iload 9, 2) := by decide +kernel
theorem d_L_isTold_142 : decode b_L_isTold 142 = .ok (.iload 11, 2) := by decide +kernel
theorem d_L_isTold_144 : decode b_L_isTold 144 = .ok (.invokevirtual 151, 3) := by decide +kernel
theorem d_L_isTold_147 : decode b_L_isTold 147 = .ok (.aload_n 1, 1) := by decide +kernel
theorem d_L_isTold_148 : decode b_L_isTold 148 = .ok (.bipush 12, 2) := by decide +kernel
theorem d_L_isTold_150 : decode b_L_isTold 150 = .ok (.iload 9, 2) := by decide +kernel
theorem d_L_isTold_152 : decode b_L_isTold 152 = .ok (.imul, 1) := by decide +kernel
theorem d_L_isTold_153 : decode b_L_isTold 153 = .ok (.iload 11, 2) := by decide +kernel
theorem d_L_isTold_155 : decode b_L_isTold 155 = .ok (.iadd, 1) := by decide +kernel
theorem d_L_isTold_156 : decode b_L_isTold 156 = .ok (.iaload, 1) := by decide +kernel
theorem d_L_isTold_157 : decode b_L_isTold 157 = .ok (.bipush 14, 2) := by decide +kernel
theorem d_L_isTold_159 : decode b_L_isTold 159 = .ok (.ishr, 1) := by decide +kernel
theorem d_L_isTold_160 : decode b_L_isTold 160 = .ok (.if_icmp .eq 5, 3) := by decide +kernel
theorem d_L_isTold_163 : decode b_L_isTold 163 = .ok (.iconst 0, 1) := by decide +kernel
theorem d_L_isTold_164 : decode b_L_isTold 164 = .ok (.ireturn, 1) := by decide +kernel
theorem d_L_isTold_165 : decode b_L_isTold 165 = .ok (.iinc 11 1, 3) := by decide +kernel
theorem d_L_isTold_168 : decode b_L_isTold 168 = .ok (.goto (-84), 3) := by decide +kernel
theorem d_L_isTold_171 : decode b_L_isTold 171 = .ok (.iinc 9 1, 3) := by decide +kernel
theorem d_L_isTold_174 : decode b_L_isTold 174 = .ok (.goto (-171), 3) := by decide +kernel
theorem d_L_isTold_177 : decode b_L_isTold 177 = .ok (.iconst 0, 1) := by decide +kernel
theorem d_L_isTold_178 : decode b_L_isTold 178 = .ok (.istore 9, 2) := by decide +kernel
theorem d_L_isTold_180 : decode b_L_isTold 180 = .ok (.iload 9, 2) := by decide +kernel
theorem d_L_isTold_182 : decode b_L_isTold 182 = .ok (.iconst 4, 1) := by decide +kernel
theorem d_L_isTold_183 : decode b_L_isTold 183 = .ok (.if_icmp .ge 28, 3) := by decide +kernel
theorem d_L_isTold_186 : decode b_L_isTold 186 = .ok (.aload_n 0, 1) := by decide +kernel
theorem d_L_isTold_187 : decode b_L_isTold 187 = .ok (.iload 9, 2) := by decide +kernel
theorem d_L_isTold_189 : decode b_L_isTold 189 = .ok (.invokevirtual 154, 3) := by decide +kernel
theorem d_L_isTold_192 : decode b_L_isTold 192 = .ok (.aload_n 1, 1) := by decide +kernel
theorem d_L_isTold_193 : decode b_L_isTold 193 = .ok (.aload 4, 2) := by decide +kernel
theorem d_L_isTold_195 : decode b_L_isTold 195 = .ok (.iload 9, 2) := by decide +kernel
theorem d_L_isTold_197 : decode b_L_isTold 197 = .ok (.invokestatic 75, 3) := by decide +kernel
theorem d_L_isTold_200 : decode b_L_isTold 200 = .ok (.if_icmp .eq 5, 3) := by decide +kernel
theorem d_L_isTold_203 : decode b_L_isTold 203 = .ok (.iconst 0, 1) := by decide +kernel
theorem d_L_isTold_204 : decode b_L_isTold 204 = .ok (.ireturn, 1) := by decide +kernel
theorem d_L_isTold_205 : decode b_L_isTold 205 = .ok (.iinc 9 1, 3) := by decide +kernel
theorem d_L_isTold_208 : decode b_L_isTold 208 = .ok (.goto (-28), 3) := by decide +kernel
theorem d_L_isTold_211 : decode b_L_isTold 211 = .ok (.iconst 0, 1) := by decide +kernel
theorem d_L_isTold_212 : decode b_L_isTold 212 = .ok (.istore 9, 2) := by decide +kernel
theorem d_L_isTold_214 : decode b_L_isTold 214 = .ok (.iload 9, 2) := by decide +kernel
theorem d_L_isTold_216 : decode b_L_isTold 216 = .ok (.aload 8, 2) := by decide +kernel
theorem d_L_isTold_218 : decode b_L_isTold 218 = .ok (.iconst 0, 1) := by decide +kernel
theorem d_L_isTold_219 : decode b_L_isTold 219 = .ok (.iaload, 1) := by decide +kernel
theorem d_L_isTold_220 : decode b_L_isTold 220 = .ok (.if_icmp .ge 167, 3) := by decide +kernel
theorem d_L_isTold_223 : decode b_L_isTold 223 = .ok (.iconst 0, 1) := by decide +kernel
theorem d_L_isTold_224 : decode b_L_isTold 224 = .ok (.istore 10, 2) := by decide +kernel
theorem d_L_isTold_226 : decode b_L_isTold 226 = .ok (.iconst 0, 1) := by decide +kernel
theorem d_L_isTold_227 : decode b_L_isTold 227 = .ok (.istore 11, 2) := by decide +kernel
theorem d_L_isTold_229 : decode b_L_isTold 229 = .ok (.iconst 0, 1) := by decide +kernel
theorem d_L_isTold_230 : decode b_L_isTold 230 = .ok (.istore 12, 2) := by decide +kernel
theorem d_L_isTold_232 : decode b_L_isTold 232 = .ok (.iconst 0, 1) := by decide +kernel
theorem d_L_isTold_233 : decode b_L_isTold 233 = .ok (.istore 13, 2) := by decide +kernel
theorem d_L_isTold_235 : decode b_L_isTold 235 = .ok (.iload 13, 2) := by decide +kernel
theorem d_L_isTold_237 : decode b_L_isTold 237 = .ok (.iconst 5, 1) := by decide +kernel
theorem d_L_isTold_238 : decode b_L_isTold 238 = .ok (.if_icmp .ge 79, 3) := by decide +kernel
theorem d_L_isTold_241 : decode b_L_isTold 241 = .ok (.aload 6, 2) := by decide +kernel
theorem d_L_isTold_243 : decode b_L_isTold 243 = .ok (.iload 9, 2) := by decide +kernel
theorem d_L_isTold_245 : decode b_L_isTold 245 = .ok (.iaload, 1) := by decide +kernel
theorem d_L_isTold_246 : decode b_L_isTold 246 = .ok (.iconst 2, 1) := by decide +kernel
theorem d_L_isTold_247 : decode b_L_isTold 247 = .ok (.iload 13, 2) := by decide +kernel
theorem d_L_isTold_249 : decode b_L_isTold 249 = .ok (.imul, 1) := by decide +kernel
theorem d_L_isTold_250 : decode b_L_isTold 250 = .ok (.ishr, 1) := by decide +kernel
theorem d_L_isTold_251 : decode b_L_isTold 251 = .ok (.iconst 3, 1) := by decide +kernel
theorem d_L_isTold_252 : decode b_L_isTold 252 = .ok (.iand, 1) := by decide +kernel
theorem d_L_isTold_253 : decode b_L_isTold 253 = .ok (.istore 14, 2) := by decide +kernel
theorem d_L_isTold_255 : decode b_L_isTold 255 = .ok (.iload 10, 2) := by decide +kernel
theorem d_L_isTold_257 : decode b_L_isTold 257 = .ok (.iload 14, 2) := by decide +kernel
theorem d_L_isTold_259 : decode b_L_isTold 259 = .ok (.ifCond .le 10, 3) := by decide +kernel
theorem d_L_isTold_262 : decode b_L_isTold 262 = .ok (.iconst 1, 1) := by decide +kernel
theorem d_L_isTold_263 : decode b_L_isTold 263 = .ok (.iload 13, 2) := by decide +kernel
theorem d_L_isTold_265 : decode b_L_isTold 265 = .ok (.ishl, 1) := by decide +kernel
theorem d_L_isTold_266 : decode b_L_isTold 266 = .ok (.goto 4, 3) := by decide +kernel
theorem d_L_isTold_269 : decode b_L_isTold 269 = .ok (.iconst 0, 1) := by decide +kernel
theorem d_L_isTold_270 : decode b_L_isTold 270 = .ok (.ior, 1) := by decide +kernel
theorem d_L_isTold_271 : decode b_L_isTold 271 = .ok (.istore 10, 2) := by decide +kernel
theorem d_L_isTold_273 : decode b_L_isTold 273 = .ok (.iload 11, 2) := by decide +kernel
theorem d_L_isTold_275 : decode b_L_isTold 275 = .ok (.iload 14, 2) := by decide +kernel
theorem d_L_isTold_277 : decode b_L_isTold 277 = .ok (.iconst 2, 1) := by decide +kernel
theorem d_L_isTold_278 : decode b_L_isTold 278 = .ok (.if_icmp .ne 10, 3) := by decide +kernel
theorem d_L_isTold_281 : decode b_L_isTold 281 = .ok (.iconst 1, 1) := by decide +kernel
theorem d_L_isTold_282 : decode b_L_isTold 282 = .ok (.iload 13, 2) := by decide +kernel
theorem d_L_isTold_284 : decode b_L_isTold 284 = .ok (.ishl, 1) := by decide +kernel
theorem d_L_isTold_285 : decode b_L_isTold 285 = .ok (.goto 4, 3) := by decide +kernel
theorem d_L_isTold_288 : decode b_L_isTold 288 = .ok (.iconst 0, 1) := by decide +kernel
theorem d_L_isTold_289 : decode b_L_isTold 289 = .ok (.ior, 1) := by decide +kernel
theorem d_L_isTold_290 : decode b_L_isTold 290 = .ok (.istore 11, 2) := by decide +kernel
theorem d_L_isTold_292 : decode b_L_isTold 292 = .ok (.iload 12, 2) := by decide +kernel
theorem d_L_isTold_294 : decode b_L_isTold 294 = .ok (.iload 14, 2) := by decide +kernel
theorem d_L_isTold_296 : decode b_L_isTold 296 = .ok (.iconst 3, 1) := by decide +kernel
theorem d_L_isTold_297 : decode b_L_isTold 297 = .ok (.if_icmp .ne 10, 3) := by decide +kernel
theorem d_L_isTold_300 : decode b_L_isTold 300 = .ok (.iconst 1, 1) := by decide +kernel
theorem d_L_isTold_301 : decode b_L_isTold 301 = .ok (.iload 13, 2) := by decide +kernel
theorem d_L_isTold_303 : decode b_L_isTold 303 = .ok (.ishl, 1) := by decide +kernel
theorem d_L_isTold_304 : decode b_L_isTold 304 = .ok (.goto 4, 3) := by decide +kernel
theorem d_L_isTold_307 : decode b_L_isTold 307 = .ok (.iconst 0, 1) := by decide +kernel
theorem d_L_isTold_308 : decode b_L_isTold 308 = .ok (.ior, 1) := by decide +kernel
theorem d_L_isTold_309 : decode b_L_isTold 309 = .ok (.istore 12, 2) := by decide +kernel
theorem d_L_isTold_311 : decode b_L_isTold 311 = .ok (.iinc 13 1, 3) := by decide +kernel
theorem d_L_isTold_314 : decode b_L_isTold 314 = .ok (.goto (-79), 3) := by decide +kernel
theorem d_L_isTold_317 : decode b_L_isTold 317 = .ok (.aload_n 0, 1) := by decide +kernel
theorem d_L_isTold_318 : decode b_L_isTold 318 = .ok (.iload 9, 2) := by decide +kernel
theorem d_L_isTold_320 : decode b_L_isTold 320 = .ok (.invokestatic 133, 3) := by decide +kernel
theorem d_L_isTold_323 : decode b_L_isTold 323 = .ok (.aload 7, 2) := by decide +kernel
theorem d_L_isTold_325 : decode b_L_isTold 325 = .ok (.iload 9, 2) := by decide +kernel
theorem d_L_isTold_327 : decode b_L_isTold 327 = .ok (.iaload, 1) := by decide +kernel
theorem d_L_isTold_328 : decode b_L_isTold 328 = .ok (.if_icmp .ne 51, 3) := by decide +kernel
theorem d_L_isTold_331 : decode b_L_isTold 331 = .ok (.aload_n 0, 1) := by decide +kernel
theorem d_L_isTold_332 : decode b_L_isTold 332 = .ok (.iload 9, 2) := by decide +kernel
theorem d_L_isTold_334 : decode b_L_isTold 334 = .ok (.iconst 0, 1) := by decide +kernel
theorem d_L_isTold_335 : decode b_L_isTold 335 = .ok (.invokestatic 156, 3) := by decide +kernel
theorem d_L_isTold_338 : decode b_L_isTold 338 = .ok (.iload 10, 2) := by decide +kernel
theorem d_L_isTold_340 : decode b_L_isTold 340 = .ok (.if_icmp .ne 39, 3) := by decide +kernel
theorem d_L_isTold_343 : decode b_L_isTold 343 = .ok (.aload_n 0, 1) := by decide +kernel
theorem d_L_isTold_344 : decode b_L_isTold 344 = .ok (.iload 9, 2) := by decide +kernel
theorem d_L_isTold_346 : decode b_L_isTold 346 = .ok (.iconst 1, 1) := by decide +kernel
theorem d_L_isTold_347 : decode b_L_isTold 347 = .ok (.invokestatic 156, 3) := by decide +kernel
theorem d_L_isTold_350 : decode b_L_isTold 350 = .ok (.iload 11, 2) := by decide +kernel
theorem d_L_isTold_352 : decode b_L_isTold 352 = .ok (.if_icmp .ne 27, 3) := by decide +kernel
theorem d_L_isTold_355 : decode b_L_isTold 355 = .ok (.aload_n 0, 1) := by decide +kernel
theorem d_L_isTold_356 : decode b_L_isTold 356 = .ok (.iload 9, 2) := by decide +kernel
theorem d_L_isTold_358 : decode b_L_isTold 358 = .ok (.iconst 2, 1) := by decide +kernel
theorem d_L_isTold_359 : decode b_L_isTold 359 = .ok (.invokestatic 156, 3) := by decide +kernel
theorem d_L_isTold_362 : decode b_L_isTold 362 = .ok (.iload 12, 2) := by decide +kernel
theorem d_L_isTold_364 : decode b_L_isTold 364 = .ok (.if_icmp .ne 15, 3) := by decide +kernel
theorem d_L_isTold_367 : decode b_L_isTold 367 = .ok (.aload_n 0, 1) := by decide +kernel
theorem d_L_isTold_368 : decode b_L_isTold 368 = .ok (.iload 9, 2) := by decide +kernel
theorem d_L_isTold_370 : decode b_L_isTold 370 = .ok (.iconst 3, 1) := by decide +kernel
theorem d_L_isTold_371 : decode b_L_isTold 371 = .ok (.invokestatic 156, 3) := by decide +kernel
theorem d_L_isTold_374 : decode b_L_isTold 374 = .ok (.bipush (-72), 2) := by decide +kernel
theorem d_L_isTold_376 : decode b_L_isTold 376 = .ok (.if_icmp .eq 5, 3) := by decide +kernel
theorem d_L_isTold_379 : decode b_L_isTold 379 = .ok (.iconst 0, 1) := by decide +kernel
theorem d_L_isTold_380 : decode b_L_isTold 380 = .ok (.ireturn, 1) := by decide +kernel
theorem d_L_isTold_381 : decode b_L_isTold 381 = .ok (.iinc 9 1, 3) := by decide +kernel
theorem d_L_isTold_384 : decode b_L_isTold 384 = .ok (.goto (-170), 3) := by decide +kernel
theorem d_L_isTold_387 : decode b_L_isTold 387 = .ok (.aload_n 0, 1) := by decide +kernel
theorem d_L_isTold_388 : decode b_L_isTold 388 = .ok (.invokevirtual 158, 3) := by decide +kernel
theorem d_L_isTold_391 : decode b_L_isTold 391 = .ok (.aload 8, 2) := by decide +kernel
theorem d_L_isTold_393 : decode b_L_isTold 393 = .ok (.iconst 0, 1) := by decide +kernel
theorem d_L_isTold_394 : decode b_L_isTold 394 = .ok (.iaload, 1) := by decide +kernel
theorem d_L_isTold_395 : decode b_L_isTold 395 = .ok (.if_icmp .ne 129, 3) := by decide +kernel
theorem d_L_isTold_398 : decode b_L_isTold 398 = .ok (.aload_n 0, 1) := by decide +kernel
theorem d_L_isTold_399 : decode b_L_isTold 399 = .ok (.aload 8, 2) := by decide +kernel
theorem d_L_isTold_401 : decode b_L_isTold 401 = .ok (.iconst 0, 1) := by decide +kernel
theorem d_L_isTold_402 : decode b_L_isTold 402 = .ok (.iaload, 1) := by decide +kernel
theorem d_L_isTold_403 : decode b_L_isTold 403 = .ok (.invokestatic 133, 3) := by decide +kernel
theorem d_L_isTold_406 : decode b_L_isTold 406 = .ok (.bipush (-71), 2) := by decide +kernel
theorem d_L_isTold_408 : decode b_L_isTold 408 = .ok (.if_icmp .ne 116, 3) := by decide +kernel
theorem d_L_isTold_411 : decode b_L_isTold 411 = .ok (.aload_n 0, 1) := by decide +kernel
theorem d_L_isTold_412 : decode b_L_isTold 412 = .ok (.aload 8, 2) := by decide +kernel
theorem d_L_isTold_414 : decode b_L_isTold 414 = .ok (.iconst 0, 1) := by decide +kernel
theorem d_L_isTold_415 : decode b_L_isTold 415 = .ok (.iaload, 1) := by decide +kernel
theorem d_L_isTold_416 : decode b_L_isTold 416 = .ok (.iconst 5, 1) := by decide +kernel
theorem d_L_isTold_417 : decode b_L_isTold 417 = .ok (.invokestatic 156, 3) := by decide +kernel
theorem d_L_isTold_420 : decode b_L_isTold 420 = .ok (.bipush (-71), 2) := by decide +kernel
theorem d_L_isTold_422 : decode b_L_isTold 422 = .ok (.if_icmp .ne 102, 3) := by decide +kernel
theorem d_L_isTold_425 : decode b_L_isTold 425 = .ok (.aload_n 0, 1) := by decide +kernel
theorem d_L_isTold_426 : decode b_L_isTold 426 = .ok (.iconst (-1), 1) := by decide +kernel
theorem d_L_isTold_427 : decode b_L_isTold 427 = .ok (.iconst 0, 1) := by decide +kernel
theorem d_L_isTold_428 : decode b_L_isTold 428 = .ok (.invokestatic 156, 3) := by decide +kernel
theorem d_L_isTold_431 : decode b_L_isTold 431 = .ok (.bipush (-71), 2) := by decide +kernel
theorem d_L_isTold_433 : decode b_L_isTold 433 = .ok (.if_icmp .ne 91, 3) := by decide +kernel
theorem d_L_isTold_436 : decode b_L_isTold 436 = .ok (.aload_n 0, 1) := by decide +kernel
theorem d_L_isTold_437 : decode b_L_isTold 437 = .ok (.bipush 8, 2) := by decide +kernel
theorem d_L_isTold_439 : decode b_L_isTold 439 = .ok (.invokestatic 135, 3) := by decide +kernel
theorem d_L_isTold_442 : decode b_L_isTold 442 = .ok (.bipush (-71), 2) := by decide +kernel
theorem d_L_isTold_444 : decode b_L_isTold 444 = .ok (.if_icmp .ne 80, 3) := by decide +kernel
theorem d_L_isTold_447 : decode b_L_isTold 447 = .ok (.aload_n 0, 1) := by decide +kernel
theorem d_L_isTold_448 : decode b_L_isTold 448 = .ok (.iconst (-1), 1) := by decide +kernel
theorem d_L_isTold_449 : decode b_L_isTold 449 = .ok (.invokestatic 135, 3) := by decide +kernel
theorem d_L_isTold_452 : decode b_L_isTold 452 = .ok (.bipush (-71), 2) := by decide +kernel
theorem d_L_isTold_454 : decode b_L_isTold 454 = .ok (.if_icmp .ne 70, 3) := by decide +kernel
theorem d_L_isTold_457 : decode b_L_isTold 457 = .ok (.aload_n 0, 1) := by decide +kernel
theorem d_L_isTold_458 : decode b_L_isTold 458 = .ok (.bipush 8, 2) := by decide +kernel
theorem d_L_isTold_460 : decode b_L_isTold 460 = .ok (.iconst 0, 1) := by decide +kernel
theorem d_L_isTold_461 : decode b_L_isTold 461 = .ok (.invokestatic 146, 3) := by decide +kernel
theorem d_L_isTold_464 : decode b_L_isTold 464 = .ok (.bipush (-71), 2) := by decide +kernel
theorem d_L_isTold_466 : decode b_L_isTold 466 = .ok (.if_icmp .ne 58, 3) := by decide +kernel
theorem d_L_isTold_469 : decode b_L_isTold 469 = .ok (.aload_n 0, 1) := by decide +kernel
theorem d_L_isTold_470 : decode b_L_isTold 470 = .ok (.iconst 0, 1) := by decide +kernel
theorem d_L_isTold_471 : decode b_L_isTold 471 = .ok (.bipush 12, 2) := by decide +kernel
theorem d_L_isTold_473 : decode b_L_isTold 473 = .ok (.invokestatic 146, 3) := by decide +kernel
theorem d_L_isTold_476 : decode b_L_isTold 476 = .ok (.bipush (-71), 2) := by decide +kernel
theorem d_L_isTold_478 : decode b_L_isTold 478 = .ok (.if_icmp .ne 46, 3) := by decide +kernel
theorem d_L_isTold_481 : decode b_L_isTold 481 = .ok (.aload_n 0, 1) := by decide +kernel
theorem d_L_isTold_482 : decode b_L_isTold 482 = .ok (.iconst 0, 1) := by decide +kernel
theorem d_L_isTold_483 : decode b_L_isTold 483 = .ok (.iconst (-1), 1) := by decide +kernel
theorem d_L_isTold_484 : decode b_L_isTold 484 = .ok (.invokestatic 146, 3) := by decide +kernel
theorem d_L_isTold_487 : decode b_L_isTold 487 = .ok (.bipush (-71), 2) := by decide +kernel
theorem d_L_isTold_489 : decode b_L_isTold 489 = .ok (.if_icmp .ne 35, 3) := by decide +kernel
theorem d_L_isTold_492 : decode b_L_isTold 492 = .ok (.aload_n 0, 1) := by decide +kernel
theorem d_L_isTold_493 : decode b_L_isTold 493 = .ok (.bipush 7, 2) := by decide +kernel
theorem d_L_isTold_495 : decode b_L_isTold 495 = .ok (.invokestatic 135, 3) := by decide +kernel
theorem d_L_isTold_498 : decode b_L_isTold 498 = .ok (.ifCond .ne 26, 3) := by decide +kernel
theorem d_L_isTold_501 : decode b_L_isTold 501 = .ok (.aload_n 0, 1) := by decide +kernel
theorem d_L_isTold_502 : decode b_L_isTold 502 = .ok (.bipush 6, 2) := by decide +kernel
theorem d_L_isTold_504 : decode b_L_isTold 504 = .ok (.invokevirtual 140, 3) := by decide +kernel
theorem d_L_isTold_507 : decode b_L_isTold 507 = .ok (.ifCond .ne 17, 3) := by decide +kernel
theorem d_L_isTold_510 : decode b_L_isTold 510 = .ok (.aload_n 0, 1) := by decide +kernel
theorem d_L_isTold_511 : decode b_L_isTold 511 = .ok (.iconst 5, 1) := by decide +kernel
theorem d_L_isTold_512 : decode b_L_isTold 512 = .ok (.iconst 5, 1) := by decide +kernel
theorem d_L_isTold_513 : decode b_L_isTold 513 = .ok (.invokestatic 146, 3) := by decide +kernel
theorem d_L_isTold_516 : decode b_L_isTold 516 = .ok (.iconst (-1), 1) := by decide +kernel
theorem d_L_isTold_517 : decode b_L_isTold 517 = .ok (.if_icmp .ne 7, 3) := by decide +kernel
theorem d_L_isTold_520 : decode b_L_isTold 520 = .ok (.iconst 1, 1) := by decide +kernel
theorem d_L_isTold_521 : decode b_L_isTold 521 = .ok (.goto 4, 3) := by decide +kernel
theorem d_L_isTold_524 : decode b_L_isTold 524 = .ok (.iconst 0, 1) := by decide +kernel
theorem d_L_isTold_525 : decode b_L_isTold 525 = .ok (.ireturn, 1) := by decide +kernel
theorem d_L_waves_0 : decode b_L_waves 0 = .ok (.iconst 0, 1) := by decide +kernel
theorem d_L_waves_1 : decode b_L_waves 1 = .ok (.istore 7, 2) := by decide +kernel
theorem d_L_waves_3 : decode b_L_waves 3 = .ok (.iconst 0, 1) := by decide +kernel
theorem d_L_waves_4 : decode b_L_waves 4 = .ok (.istore 8, 2) := by decide +kernel
theorem d_L_waves_6 : decode b_L_waves 6 = .ok (.iload 8, 2) := by decide +kernel
theorem d_L_waves_8 : decode b_L_waves 8 = .ok (.aload 6, 2) := by decide +kernel
theorem d_L_waves_10 : decode b_L_waves 10 = .ok (.iconst 0, 1) := by decide +kernel
theorem d_L_waves_11 : decode b_L_waves 11 = .ok (.iaload, 1) := by decide +kernel
theorem d_L_waves_12 : decode b_L_waves 12 = .ok (.if_icmp .ge 326, 3) := by decide +kernel
theorem d_L_waves_15 : decode b_L_waves 15 = .ok (.aload 5, 2) := by decide +kernel
theorem d_L_waves_17 : decode b_L_waves 17 = .ok (.iload 8, 2) := by decide +kernel
theorem d_L_waves_19 : decode b_L_waves 19 = .ok (.iaload, 1) := by decide +kernel
theorem d_L_waves_20 : decode b_L_waves 20 = .ok (.ifCond .le 6, 3) := by decide +kernel
theorem d_L_waves_23 : decode b_L_waves 23 = .ok (.goto 309, 3) := by decide +kernel
theorem d_L_waves_26 : decode b_L_waves 26 = .ok (.aload_n 3, 1) := by decide +kernel
theorem d_L_waves_27 : decode b_L_waves 27 = .ok (.iload 8, 2) := by decide +kernel
theorem d_L_waves_29 : decode b_L_waves 29 = .ok (.iaload, 1) := by decide +kernel
theorem d_L_waves_30 : decode b_L_waves 30 = .ok (.iconst 2, 1) := by decide +kernel
theorem d_L_waves_31 : decode b_L_waves 31 = .ok (.ishr, 1) := by decide +kernel
theorem d_L_waves_32 : decode b_L_waves 32 = .ok (.bipush 15, 2) := by decide +kernel
theorem d_L_waves_34 : decode b_L_waves 34 = .ok (.iand, 1) := by decide +kernel
theorem d_L_waves_35 : decode b_L_waves 35 = .ok (.istore 9, 2) := by decide +kernel
theorem d_L_waves_37 : decode b_L_waves 37 = .ok (.aload_n 3, 1) := by decide +kernel
theorem d_L_waves_38 : decode b_L_waves 38 = .ok (.iload 8, 2) := by decide +kernel
theorem d_L_waves_40 : decode b_L_waves 40 = .ok (.iaload, 1) := by decide +kernel
theorem d_L_waves_41 : decode b_L_waves 41 = .ok (.bipush 6, 2) := by decide +kernel
theorem d_L_waves_43 : decode b_L_waves 43 = .ok (.ishr, 1) := by decide +kernel
theorem d_L_waves_44 : decode b_L_waves 44 = .ok (.bipush 127, 2) := by decide +kernel
theorem d_L_waves_46 : decode b_L_waves 46 = .ok (.iand, 1) := by decide +kernel
theorem d_L_waves_47 : decode b_L_waves 47 = .ok (.istore 10, 2) := by decide +kernel
theorem d_L_waves_49 : decode b_L_waves 49 = .ok (.iconst 0, 1) := by decide +kernel
theorem d_L_waves_50 : decode b_L_waves 50 = .ok (.istore 11, 2) := by decide +kernel
theorem d_L_waves_52 : decode b_L_waves 52 = .ok (.iconst 0, 1) := by decide +kernel
theorem d_L_waves_53 : decode b_L_waves 53 = .ok (.istore 12, 2) := by decide +kernel
theorem d_L_waves_55 : decode b_L_waves 55 = .ok (.iload 12, 2) := by decide +kernel
theorem d_L_waves_57 : decode b_L_waves 57 = .ok (.iconst 5, 1) := by decide +kernel
theorem d_L_waves_58 : decode b_L_waves 58 = .ok (.if_icmp .ge 127, 3) := by decide +kernel
theorem d_L_waves_61 : decode b_L_waves 61 = .ok (.aload_n 0, 1) := by decide +kernel
theorem d_L_waves_62 : decode b_L_waves 62 = .ok (.bipush 12, 2) := by decide +kernel
theorem d_L_waves_64 : decode b_L_waves 64 = .ok (.iload 12, 2) := by decide +kernel
theorem d_L_waves_66 : decode b_L_waves 66 = .ok (.imul, 1) := by decide +kernel
theorem d_L_waves_67 : decode b_L_waves 67 = .ok (.iload 9, 2) := by decide +kernel
theorem d_L_waves_69 : decode b_L_waves 69 = .ok (.iadd, 1) := by decide +kernel
theorem d_L_waves_70 : decode b_L_waves 70 = .ok (.iaload, 1) := by decide +kernel
theorem d_L_waves_71 : decode b_L_waves 71 = .ok (.istore 13, 2) := by decide +kernel
theorem d_L_waves_73 : decode b_L_waves 73 = .ok (.aload 4, 2) := by decide +kernel
theorem d_L_waves_75 : decode b_L_waves 75 = .ok (.iload 8, 2) := by decide +kernel
theorem d_L_waves_77 : decode b_L_waves 77 = .ok (.iaload, 1) := by decide +kernel
theorem d_L_waves_78 : decode b_L_waves 78 = .ok (.iconst 2, 1) := by decide +kernel
theorem d_L_waves_79 : decode b_L_waves 79 = .ok (.iload 12, 2) := by decide +kernel
theorem d_L_waves_81 : decode b_L_waves 81 = .ok (.imul, 1) := by decide +kernel
theorem d_L_waves_82 : decode b_L_waves 82 = .ok (.ishr, 1) := by decide +kernel
theorem d_L_waves_83 : decode b_L_waves 83 = .ok (.iconst 3, 1) := by decide +kernel
theorem d_L_waves_84 : decode b_L_waves 84 = .ok (.iand, 1) := by decide +kernel
theorem d_L_waves_85 : decode b_L_waves 85 = .ok (.istore 14, 2) := by decide +kernel
theorem d_L_waves_87 : decode b_L_waves 87 = .ok (.iload 14, 2) := by decide +kernel
theorem d_L_waves_89 : decode b_L_waves 89 = .ok (.iconst 1, 1) := by decide +kernel
theorem d_L_waves_90 : decode b_L_waves 90 = .ok (.if_icmp .ne 19, 3) := by decide +kernel
theorem d_L_waves_93 : decode b_L_waves 93 = .ok (.iload 13, 2) := by decide +kernel
theorem d_L_waves_95 : decode b_L_waves 95 = .ok (.invokestatic 72, 3) := by decide +kernel
theorem d_L_waves_98 : decode b_L_waves 98 = .ok (.iload 10, 2) := by decide +kernel
theorem d_L_waves_100 : decode b_L_waves 100 = .ok (.if_icmp .ne 9, 3) := by decide +kernel
theorem d_L_waves_103 : decode b_L_waves 103 = .ok (.iconst 2, 1) := by decide +kernel
theorem d_L_waves_104 : decode b_L_waves 104 = .ok (.istore 14, 2) := by decide +kernel
theorem d_L_waves_106 : decode b_L_waves 106 = .ok (.goto 30, 3) := by decide +kernel
theorem d_L_waves_109 : decode b_L_waves 109 = .ok (.iload 14, 2) := by decide +kernel
theorem d_L_waves_111 : decode b_L_waves 111 = .ok (.iconst 1, 1) := by decide +kernel
theorem d_L_waves_112 : decode b_L_waves 112 = .ok (.if_icmp .ne 24, 3) := by decide +kernel
theorem d_L_waves_115 : decode b_L_waves 115 = .ok (.iload 13, 2) := by decide +kernel
theorem d_L_waves_117 : decode b_L_waves 117 = .ok (.invokestatic 67, 3) := by decide +kernel
theorem d_L_waves_120 : decode b_L_waves 120 = .ok (.iload 10, 2) := by decide +kernel
theorem d_L_waves_122 : decode b_L_waves 122 = .ok (.if_icmp .ne 14, 3) := by decide +kernel
theorem d_L_waves_125 : decode b_L_waves 125 = .ok (.iload 13, 2) := by decide +kernel
theorem d_L_waves_127 : decode b_L_waves 127 = .ok (.sipush 16384, 3) := by decide +kernel
theorem d_L_waves_130 : decode b_L_waves 130 = .ok (.if_icmp .lt 6, 3) := by decide +kernel
theorem d_L_waves_133 : decode b_L_waves 133 = .ok (.iconst 3, 1) := by decide +kernel
theorem d_L_waves_134 : decode b_L_waves 134 = .ok (.istore 14, 2) := by decide +kernel
theorem d_L_waves_136 : decode b_L_waves 136 = .ok (.aload 4, 2) := by decide +kernel
theorem d_L_waves_138 : decode b_L_waves 138 = .ok (.iload 8, 2) := by decide +kernel
theorem d_L_waves_140 : decode b_L_waves 140 = .ok (.aload 4, 2) := by decide +kernel
theorem d_L_waves_142 : decode b_L_waves 142 = .ok (.iload 8, 2) := by decide +kernel
theorem d_L_waves_144 : decode b_L_waves 144 = .ok (.iaload, 1) := by decide +kernel
theorem d_L_waves_145 : decode b_L_waves 145 = .ok (.iconst 3, 1) := by decide +kernel
theorem d_L_waves_146 : decode b_L_waves 146 = .ok (.iconst 2, 1) := by decide +kernel
theorem d_L_waves_147 : decode b_L_waves 147 = .ok (.iload 12, 2) := by decide +kernel
theorem d_L_waves_149 : decode b_L_waves 149 = .ok (.imul, 1) := by decide +kernel
theorem d_L_waves_150 : decode b_L_waves 150 = .ok (.ishl, 1) := by decide +kernel
theorem d_L_waves_151 : decode b_L_waves 151 = .ok (.iconst (-1), 1) := by decide +kernel
theorem d_L_waves_152 : decode b_L_waves 152 = .ok (.ixor, 1) := by decide +kernel
theorem d_L_waves_153 : decode b_L_waves 153 = .ok (.iand, 1) := by decide +kernel
theorem d_L_waves_154 : decode b_L_waves 154 = .ok (.iload 14, 2) := by decide +kernel
theorem d_L_waves_156 : decode b_L_waves 156 = .ok (.iconst 2, 1) := by decide +kernel
theorem d_L_waves_157 : decode b_L_waves 157 = .ok (.iload 12, 2) := by decide +kernel
theorem d_L_waves_159 : decode b_L_waves 159 = .ok (.imul, 1) := by decide +kernel
theorem d_L_waves_160 : decode b_L_waves 160 = .ok (.ishl, 1) := by decide +kernel
theorem d_L_waves_161 : decode b_L_waves 161 = .ok (.ior, 1) := by decide +kernel
theorem d_L_waves_162 : decode b_L_waves 162 = .ok (.iastore, 1) := by decide +kernel
theorem d_L_waves_163 : decode b_L_waves 163 = .ok (.iload 11, 2) := by decide +kernel
theorem d_L_waves_165 : decode b_L_waves 165 = .ok (.iload 14, 2) := by decide +kernel
theorem d_L_waves_167 : decode b_L_waves 167 = .ok (.iconst 3, 1) := by decide +kernel
theorem d_L_waves_168 : decode b_L_waves 168 = .ok (.if_icmp .ne 7, 3) := by decide +kernel
theorem d_L_waves_171 : decode b_L_waves 171 = .ok (.iconst 1, 1) := by decide +kernel
theorem d_L_waves_172 : decode b_L_waves 172 = .ok (.goto 4, 3) := by decide +kernel
theorem d_L_waves_175 : decode b_L_waves 175 = .ok (.iconst 0, 1) := by decide +kernel
theorem d_L_waves_176 : decode b_L_waves 176 = .ok (.iadd, 1) := by decide +kernel
theorem d_L_waves_177 : decode b_L_waves 177 = .ok (.istore 11, 2) := by decide +kernel
theorem d_L_waves_179 : decode b_L_waves 179 = .ok (.iinc 12 1, 3) := by decide +kernel
theorem d_L_waves_182 : decode b_L_waves 182 = .ok (.goto (-127), 3) := by decide +kernel
theorem d_L_waves_185 : decode b_L_waves 185 = .ok (.iload 11, 2) := by decide +kernel
theorem d_L_waves_187 : decode b_L_waves 187 = .ok (.aload_n 3, 1) := by decide +kernel
theorem d_L_waves_188 : decode b_L_waves 188 = .ok (.iload 8, 2) := by decide +kernel
theorem d_L_waves_190 : decode b_L_waves 190 = .ok (.iaload, 1) := by decide +kernel
theorem d_L_waves_191 : decode b_L_waves 191 = .ok (.bipush 17, 2) := by decide +kernel
theorem d_L_waves_193 : decode b_L_waves 193 = .ok (.ishr, 1) := by decide +kernel
theorem d_L_waves_194 : decode b_L_waves 194 = .ok (.if_icmp .lt 12, 3) := by decide +kernel
theorem d_L_waves_197 : decode b_L_waves 197 = .ok (.aload 5, 2) := by decide +kernel
theorem d_L_waves_199 : decode b_L_waves 199 = .ok (.iload 8, 2) := by decide +kernel
theorem d_L_waves_201 : decode b_L_waves 201 = .ok (.iconst 1, 1) := by decide +kernel
theorem d_L_waves_202 : decode b_L_waves 202 = .ok (.iastore, 1) := by decide +kernel
theorem d_L_waves_203 : decode b_L_waves 203 = .ok (.goto 129, 3) := by decide +kernel
theorem d_L_waves_206 : decode b_L_waves 206 = .ok (.aload_n 3, 1) := by decide +kernel
theorem d_L_waves_207 : decode b_L_waves 207 = .ok (.iload 8, 2) := by decide +kernel
theorem d_L_waves_209 : decode b_L_waves 209 = .ok (.iaload, 1) := by decide +kernel
theorem d_L_waves_210 : decode b_L_waves 210 = .ok (.bipush 13, 2) := by decide +kernel
theorem d_L_waves_212 : decode b_L_waves 212 = .ok (.ishr, 1) := by decide +kernel
theorem d_L_waves_213 : decode b_L_waves 213 = .ok (.bipush 15, 2) := by decide +kernel
theorem d_L_waves_215 : decode b_L_waves 215 = .ok (.iand, 1) := by decide +kernel
theorem d_L_waves_216 : decode b_L_waves 216 = .ok (.istore 12, 2) := by decide +kernel
theorem d_L_waves_218 : decode b_L_waves 218 = .ok (.iconst 0, 1) := by decide +kernel
theorem d_L_waves_219 : decode b_L_waves 219 = .ok (.istore 13, 2) := by decide +kernel
theorem d_L_waves_221 : decode b_L_waves 221 = .ok (.iload 13, 2) := by decide +kernel
theorem d_L_waves_223 : decode b_L_waves 223 = .ok (.iconst 5, 1) := by decide +kernel
theorem d_L_waves_224 : decode b_L_waves 224 = .ok (.if_icmp .ge 108, 3) := by decide +kernel
theorem d_L_waves_227 : decode b_L_waves 227 = .ok (.iload 12, 2) := by decide +kernel
theorem d_L_waves_229 : decode b_L_waves 229 = .ok (.ifCond .eq 97, 3) := by decide +kernel
theorem d_L_waves_232 : decode b_L_waves 232 = .ok (.aload 4, 2) := by decide +kernel
theorem d_L_waves_234 : decode b_L_waves 234 = .ok (.iload 8, 2) := by decide +kernel
theorem d_L_waves_236 : decode b_L_waves 236 = .ok (.iaload, 1) := by decide +kernel
theorem d_L_waves_237 : decode b_L_waves 237 = .ok (.iconst 2, 1) := by decide +kernel
theorem d_L_waves_238 : decode b_L_waves 238 = .ok (.iload 13, 2) := by decide +kernel
theorem d_L_waves_240 : decode b_L_waves 240 = .ok (.imul, 1) := by decide +kernel
theorem d_L_waves_241 : decode b_L_waves 241 = .ok (.ishr, 1) := by decide +kernel
theorem d_L_waves_242 : decode b_L_waves 242 = .ok (.iconst 3, 1) := by decide +kernel
theorem d_L_waves_243 : decode b_L_waves 243 = .ok (.iand, 1) := by decide +kernel
theorem d_L_waves_244 : decode b_L_waves 244 = .ok (.ifCond .gt 82, 3) := by decide +kernel
theorem d_L_waves_247 : decode b_L_waves 247 = .ok (.aload_n 0, 1) := by decide +kernel
theorem d_L_waves_248 : decode b_L_waves 248 = .ok (.aload_n 2, 1) := by decide +kernel
theorem d_L_waves_249 : decode b_L_waves 249 = .ok (.aload_n 3, 1) := by decide +kernel
theorem d_L_waves_250 : decode b_L_waves 250 = .ok (.iload 8, 2) := by decide +kernel
theorem d_L_waves_252 : decode b_L_waves 252 = .ok (.iaload, 1) := by decide +kernel
theorem d_L_waves_253 : decode b_L_waves 253 = .ok (.iconst 3, 1) := by decide +kernel
theorem d_L_waves_254 : decode b_L_waves 254 = .ok (.iand, 1) := by decide +kernel
theorem d_L_waves_255 : decode b_L_waves 255 = .ok (.invokestatic 75, 3) := by decide +kernel
theorem d_L_waves_258 : decode b_L_waves 258 = .ok (.iload 13, 2) := by decide +kernel
theorem d_L_waves_260 : decode b_L_waves 260 = .ok (.ishr, 1) := by decide +kernel
theorem d_L_waves_261 : decode b_L_waves 261 = .ok (.iconst 1, 1) := by decide +kernel
theorem d_L_waves_262 : decode b_L_waves 262 = .ok (.iand, 1) := by decide +kernel
theorem d_L_waves_263 : decode b_L_waves 263 = .ok (.ifCond .ne 6, 3) := by decide +kernel
theorem d_L_waves_266 : decode b_L_waves 266 = .ok (.goto 60, 3) := by decide +kernel
theorem d_L_waves_269 : decode b_L_waves 269 = .ok (.aload 4, 2) := by decide +kernel
theorem d_L_waves_271 : decode b_L_waves 271 = .ok (.iload 8, 2) := by decide +kernel
theorem d_L_waves_273 : decode b_L_waves 273 = .ok (.dup2, 1) := by decide +kernel
theorem d_L_waves_274 : decode b_L_waves 274 = .ok (.iaload, 1) := by decide +kernel
theorem d_L_waves_275 : decode b_L_waves 275 = .ok (.iconst 1, 1) := by decide +kernel
theorem d_L_waves_276 : decode b_L_waves 276 = .ok (.iconst 2, 1) := by decide +kernel
theorem d_L_waves_277 : decode b_L_waves 277 = .ok (.iload 13, 2) := by decide +kernel
theorem d_L_waves_279 : decode b_L_waves 279 = .ok (.imul, 1) := by decide +kernel
theorem d_L_waves_280 : decode b_L_waves 280 = .ok (.ishl, 1) := by decide +kernel
theorem d_L_waves_281 : decode b_L_waves 281 = .ok (.ior, 1) := by decide +kernel
theorem d_L_waves_282 : decode b_L_waves 282 = .ok (.iastore, 1) := by decide +kernel
theorem d_L_waves_283 : decode b_L_waves 283 = .ok (.aload_n 0, 1) := by decide +kernel
theorem d_L_waves_284 : decode b_L_waves 284 = .ok (.bipush 12, 2) := by decide +kernel
theorem d_L_waves_286 : decode b_L_waves 286 = .ok (.iload 13, 2) := by decide +kernel
theorem d_L_waves_288 : decode b_L_waves 288 = .ok (.imul, 1) := by decide +kernel
theorem d_L_waves_289 : decode b_L_waves 289 = .ok (.iload 9, 2) := by decide +kernel
theorem d_L_waves_291 : decode b_L_waves 291 = .ok (.iadd, 1) := by decide +kernel
theorem d_L_waves_292 : decode b_L_waves 292 = .ok (.aload_n 0, 1) := by decide +kernel
theorem d_L_waves_293 : decode b_L_waves 293 = .ok (.bipush 12, 2) := by decide +kernel
theorem d_L_waves_295 : decode b_L_waves 295 = .ok (.iload 13, 2) := by decide +kernel
theorem d_L_waves_297 : decode b_L_waves 297 = .ok (.imul, 1) := by decide +kernel
theorem d_L_waves_298 : decode b_L_waves 298 = .ok (.iload 9, 2) := by decide +kernel
theorem d_L_waves_300 : decode b_L_waves 300 = .ok (.iadd, 1) := by decide +kernel
theorem d_L_waves_301 : decode b_L_waves 301 = .ok (.iaload, 1) := by decide +kernel
theorem d_L_waves_302 : decode b_L_waves 302 = .ok (.sipush 16256, 3) := by decide +kernel
theorem d_L_waves_305 : decode b_L_waves 305 = .ok (.iand, 1) := by decide +kernel
theorem d_L_waves_306 : decode b_L_waves 306 = .ok (.iload 10, 2) := by decide +kernel
theorem d_L_waves_308 : decode b_L_waves 308 = .ok (.iconst 1, 1) := by decide +kernel
theorem d_L_waves_309 : decode b_L_waves 309 = .ok (.iadd, 1) := by decide +kernel
theorem d_L_waves_310 : decode b_L_waves 310 = .ok (.ior, 1) := by decide +kernel
theorem d_L_waves_311 : decode b_L_waves 311 = .ok (.iastore, 1) := by decide +kernel
theorem d_L_waves_312 : decode b_L_waves 312 = .ok (.aload_n 1, 1) := by decide +kernel
theorem d_L_waves_313 : decode b_L_waves 313 = .ok (.iload 13, 2) := by decide +kernel
theorem d_L_waves_315 : decode b_L_waves 315 = .ok (.dup2, 1) := by decide +kernel
theorem d_L_waves_316 : decode b_L_waves 316 = .ok (.iaload, 1) := by decide +kernel
theorem d_L_waves_317 : decode b_L_waves 317 = .ok (.iconst 1, 1) := by decide +kernel
theorem d_L_waves_318 : decode b_L_waves 318 = .ok (.iadd, 1) := by decide +kernel
theorem d_L_waves_319 : decode b_L_waves 319 = .ok (.iastore, 1) := by decide +kernel
theorem d_L_waves_320 : decode b_L_waves 320 = .ok (.iinc 12 (-1), 3) := by decide +kernel
theorem d_L_waves_323 : decode b_L_waves 323 = .ok (.iinc 7 1, 3) := by decide +kernel
theorem d_L_waves_326 : decode b_L_waves 326 = .ok (.iinc 13 1, 3) := by decide +kernel
theorem d_L_waves_329 : decode b_L_waves 329 = .ok (.goto (-108), 3) := by decide +kernel
theorem d_L_waves_332 : decode b_L_waves 332 = .ok (.iinc 8 1, 3) := by decide +kernel
theorem d_L_waves_335 : decode b_L_waves 335 = .ok (.goto (-329), 3) := by decide +kernel
theorem d_L_waves_338 : decode b_L_waves 338 = .ok (.iload 7, 2) := by decide +kernel
theorem d_L_waves_340 : decode b_L_waves 340 = .ok (.ireturn, 1) := by decide +kernel
