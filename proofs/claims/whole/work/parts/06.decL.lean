theorem d_L_put_0 : decode b_L_put 0 = .ok (.aload_n 3, 1) := by decide +kernel
theorem d_L_put_1 : decode b_L_put 1 = .ok (.iconst 0, 1) := by decide +kernel
theorem d_L_put_2 : decode b_L_put 2 = .ok (.aload_n 0, 1) := by decide +kernel
theorem d_L_put_3 : decode b_L_put 3 = .ok (.iload_n 1, 1) := by decide +kernel
theorem d_L_put_4 : decode b_L_put 4 = .ok (.iload_n 2, 1) := by decide +kernel
theorem d_L_put_5 : decode b_L_put 5 = .ok (.invokevirtual 7, 3) := by decide +kernel
theorem d_L_put_8 : decode b_L_put 8 = .ok (.i2l, 1) := by decide +kernel
theorem d_L_put_9 : decode b_L_put 9 = .ok (.lastore, 1) := by decide +kernel
theorem d_L_put_10 : decode b_L_put 10 = .ok (.goto 11, 3) := by decide +kernel
theorem d_L_put_13 : decode b_L_put 13 = .ok (.astore 4, 2) := by decide +kernel
theorem d_L_put_15 : decode b_L_put 15 = .ok (.iconst 1, 1) := by decide +kernel
theorem d_L_put_16 : decode b_L_put 16 = .ok (.ireturn, 1) := by decide +kernel
theorem d_L_put_17 : decode b_L_put 17 = .ok (.astore 4, 2) := by decide +kernel
theorem d_L_put_19 : decode b_L_put 19 = .ok (.iconst 2, 1) := by decide +kernel
theorem d_L_put_20 : decode b_L_put 20 = .ok (.ireturn, 1) := by decide +kernel
theorem d_L_put_21 : decode b_L_put 21 = .ok (.iconst 0, 1) := by decide +kernel
theorem d_L_put_22 : decode b_L_put 22 = .ok (.ireturn, 1) := by decide +kernel
theorem d_L_drop_0 : decode b_L_drop 0 = .ok (.aload_n 2, 1) := by decide +kernel
theorem d_L_drop_1 : decode b_L_drop 1 = .ok (.iconst 0, 1) := by decide +kernel
theorem d_L_drop_2 : decode b_L_drop 2 = .ok (.aload_n 0, 1) := by decide +kernel
theorem d_L_drop_3 : decode b_L_drop 3 = .ok (.iload_n 1, 1) := by decide +kernel
theorem d_L_drop_4 : decode b_L_drop 4 = .ok (.invokevirtual 17, 3) := by decide +kernel
theorem d_L_drop_7 : decode b_L_drop 7 = .ok (.i2l, 1) := by decide +kernel
theorem d_L_drop_8 : decode b_L_drop 8 = .ok (.lastore, 1) := by decide +kernel
theorem d_L_drop_9 : decode b_L_drop 9 = .ok (.goto 6, 3) := by decide +kernel
theorem d_L_drop_12 : decode b_L_drop 12 = .ok (.astore_n 3, 1) := by decide +kernel
theorem d_L_drop_13 : decode b_L_drop 13 = .ok (.iconst 1, 1) := by decide +kernel
theorem d_L_drop_14 : decode b_L_drop 14 = .ok (.ireturn, 1) := by decide +kernel
theorem d_L_drop_15 : decode b_L_drop 15 = .ok (.iconst 0, 1) := by decide +kernel
theorem d_L_drop_16 : decode b_L_drop 16 = .ok (.ireturn, 1) := by decide +kernel
theorem d_L_wish_0 : decode b_L_wish 0 = .ok (.aload_n 3, 1) := by decide +kernel
theorem d_L_wish_1 : decode b_L_wish 1 = .ok (.iconst 0, 1) := by decide +kernel
theorem d_L_wish_2 : decode b_L_wish 2 = .ok (.aload_n 0, 1) := by decide +kernel
theorem d_L_wish_3 : decode b_L_wish 3 = .ok (.iload_n 1, 1) := by decide +kernel
theorem d_L_wish_4 : decode b_L_wish 4 = .ok (.iload_n 2, 1) := by decide +kernel
theorem d_L_wish_5 : decode b_L_wish 5 = .ok (.invokevirtual 21, 3) := by decide +kernel
theorem d_L_wish_8 : decode b_L_wish 8 = .ok (.i2l, 1) := by decide +kernel
theorem d_L_wish_9 : decode b_L_wish 9 = .ok (.lastore, 1) := by decide +kernel
theorem d_L_wish_10 : decode b_L_wish 10 = .ok (.goto 11, 3) := by decide +kernel
theorem d_L_wish_13 : decode b_L_wish 13 = .ok (.astore 4, 2) := by decide +kernel
theorem d_L_wish_15 : decode b_L_wish 15 = .ok (.iconst 1, 1) := by decide +kernel
theorem d_L_wish_16 : decode b_L_wish 16 = .ok (.ireturn, 1) := by decide +kernel
theorem d_L_wish_17 : decode b_L_wish 17 = .ok (.astore 4, 2) := by decide +kernel
theorem d_L_wish_19 : decode b_L_wish 19 = .ok (.iconst 2, 1) := by decide +kernel
theorem d_L_wish_20 : decode b_L_wish 20 = .ok (.ireturn, 1) := by decide +kernel
theorem d_L_wish_21 : decode b_L_wish 21 = .ok (.iconst 0, 1) := by decide +kernel
theorem d_L_wish_22 : decode b_L_wish 22 = .ok (.ireturn, 1) := by decide +kernel
theorem d_L_report_0 : decode b_L_report 0 = .ok (.aload_n 3, 1) := by decide +kernel
theorem d_L_report_1 : decode b_L_report 1 = .ok (.iconst 0, 1) := by decide +kernel
theorem d_L_report_2 : decode b_L_report 2 = .ok (.aload_n 0, 1) := by decide +kernel
theorem d_L_report_3 : decode b_L_report 3 = .ok (.iload_n 1, 1) := by decide +kernel
theorem d_L_report_4 : decode b_L_report 4 = .ok (.iload_n 2, 1) := by decide +kernel
theorem d_L_report_5 : decode b_L_report 5 = .ok (.invokevirtual 26, 3) := by decide +kernel
theorem d_L_report_8 : decode b_L_report 8 = .ok (.i2l, 1) := by decide +kernel
theorem d_L_report_9 : decode b_L_report 9 = .ok (.lastore, 1) := by decide +kernel
theorem d_L_report_10 : decode b_L_report 10 = .ok (.goto 15, 3) := by decide +kernel
theorem d_L_report_13 : decode b_L_report 13 = .ok (.astore 4, 2) := by decide +kernel
theorem d_L_report_15 : decode b_L_report 15 = .ok (.iconst 1, 1) := by decide +kernel
theorem d_L_report_16 : decode b_L_report 16 = .ok (.ireturn, 1) := by decide +kernel
theorem d_L_report_17 : decode b_L_report 17 = .ok (.astore 4, 2) := by decide +kernel
theorem d_L_report_19 : decode b_L_report 19 = .ok (.iconst 2, 1) := by decide +kernel
theorem d_L_report_20 : decode b_L_report 20 = .ok (.ireturn, 1) := by decide +kernel
theorem d_L_report_21 : decode b_L_report 21 = .ok (.astore 4, 2) := by decide +kernel
theorem d_L_report_23 : decode b_L_report 23 = .ok (.iconst 3, 1) := by decide +kernel
theorem d_L_report_24 : decode b_L_report 24 = .ok (.ireturn, 1) := by decide +kernel
theorem d_L_report_25 : decode b_L_report 25 = .ok (.iconst 0, 1) := by decide +kernel
theorem d_L_report_26 : decode b_L_report 26 = .ok (.ireturn, 1) := by decide +kernel
theorem d_L_obey_0 : decode b_L_obey 0 = .ok (.aload_n 2, 1) := by decide +kernel
theorem d_L_obey_1 : decode b_L_obey 1 = .ok (.iconst 0, 1) := by decide +kernel
theorem d_L_obey_2 : decode b_L_obey 2 = .ok (.aload_n 0, 1) := by decide +kernel
theorem d_L_obey_3 : decode b_L_obey 3 = .ok (.iload_n 1, 1) := by decide +kernel
theorem d_L_obey_4 : decode b_L_obey 4 = .ok (.invokevirtual 29, 3) := by decide +kernel
theorem d_L_obey_7 : decode b_L_obey 7 = .ok (.i2l, 1) := by decide +kernel
theorem d_L_obey_8 : decode b_L_obey 8 = .ok (.lastore, 1) := by decide +kernel
theorem d_L_obey_9 : decode b_L_obey 9 = .ok (.goto 9, 3) := by decide +kernel
theorem d_L_obey_12 : decode b_L_obey 12 = .ok (.astore_n 3, 1) := by decide +kernel
theorem d_L_obey_13 : decode b_L_obey 13 = .ok (.iconst 1, 1) := by decide +kernel
theorem d_L_obey_14 : decode b_L_obey 14 = .ok (.ireturn, 1) := by decide +kernel
theorem d_L_obey_15 : decode b_L_obey 15 = .ok (.astore_n 3, 1) := by decide +kernel
theorem d_L_obey_16 : decode b_L_obey 16 = .ok (.iconst 2, 1) := by decide +kernel
theorem d_L_obey_17 : decode b_L_obey 17 = .ok (.ireturn, 1) := by decide +kernel
theorem d_L_obey_18 : decode b_L_obey 18 = .ok (.iconst 0, 1) := by decide +kernel
theorem d_L_obey_19 : decode b_L_obey 19 = .ok (.ireturn, 1) := by decide +kernel
theorem d_L_refuse_0 : decode b_L_refuse 0 = .ok (.aload 4, 2) := by decide +kernel
theorem d_L_refuse_2 : decode b_L_refuse 2 = .ok (.iconst 0, 1) := by decide +kernel
theorem d_L_refuse_3 : decode b_L_refuse 3 = .ok (.aload_n 0, 1) := by decide +kernel
theorem d_L_refuse_4 : decode b_L_refuse 4 = .ok (.iload_n 1, 1) := by decide +kernel
theorem d_L_refuse_5 : decode b_L_refuse 5 = .ok (.iload_n 2, 1) := by decide +kernel
theorem d_L_refuse_6 : decode b_L_refuse 6 = .ok (.iload_n 3, 1) := by decide +kernel
theorem d_L_refuse_7 : decode b_L_refuse 7 = .ok (.invokevirtual 32, 3) := by decide +kernel
theorem d_L_refuse_10 : decode b_L_refuse 10 = .ok (.i2l, 1) := by decide +kernel
theorem d_L_refuse_11 : decode b_L_refuse 11 = .ok (.lastore, 1) := by decide +kernel
theorem d_L_refuse_12 : decode b_L_refuse 12 = .ok (.goto 15, 3) := by decide +kernel
theorem d_L_refuse_15 : decode b_L_refuse 15 = .ok (.astore 5, 2) := by decide +kernel
theorem d_L_refuse_17 : decode b_L_refuse 17 = .ok (.iconst 1, 1) := by decide +kernel
theorem d_L_refuse_18 : decode b_L_refuse 18 = .ok (.ireturn, 1) := by decide +kernel
theorem d_L_refuse_19 : decode b_L_refuse 19 = .ok (.astore 5, 2) := by decide +kernel
theorem d_L_refuse_21 : decode b_L_refuse 21 = .ok (.iconst 2, 1) := by decide +kernel
theorem d_L_refuse_22 : decode b_L_refuse 22 = .ok (.ireturn, 1) := by decide +kernel
theorem d_L_refuse_23 : decode b_L_refuse 23 = .ok (.astore 5, 2) := by decide +kernel
theorem d_L_refuse_25 : decode b_L_refuse 25 = .ok (.iconst 3, 1) := by decide +kernel
theorem d_L_refuse_26 : decode b_L_refuse 26 = .ok (.ireturn, 1) := by decide +kernel
theorem d_L_refuse_27 : decode b_L_refuse 27 = .ok (.iconst 0, 1) := by decide +kernel
theorem d_L_refuse_28 : decode b_L_refuse 28 = .ok (.ireturn, 1) := by decide +kernel
theorem d_L_sleep_0 : decode b_L_sleep 0 = .ok (.aload_n 2, 1) := by decide +kernel
theorem d_L_sleep_1 : decode b_L_sleep 1 = .ok (.iconst 0, 1) := by decide +kernel
theorem d_L_sleep_2 : decode b_L_sleep 2 = .ok (.aload_n 0, 1) := by decide +kernel
theorem d_L_sleep_3 : decode b_L_sleep 3 = .ok (.iload_n 1, 1) := by decide +kernel
theorem d_L_sleep_4 : decode b_L_sleep 4 = .ok (.invokevirtual 36, 3) := by decide +kernel
theorem d_L_sleep_7 : decode b_L_sleep 7 = .ok (.ifCond .eq 7, 3) := by decide +kernel
theorem d_L_sleep_10 : decode b_L_sleep 10 = .ok (.lconst 1, 1) := by decide +kernel
theorem d_L_sleep_11 : decode b_L_sleep 11 = .ok (.goto 4, 3) := by decide +kernel
theorem d_L_sleep_14 : decode b_L_sleep 14 = .ok (.lconst 0, 1) := by decide +kernel
theorem d_L_sleep_15 : decode b_L_sleep 15 = .ok (.lastore, 1) := by decide +kernel
theorem d_L_sleep_16 : decode b_L_sleep 16 = .ok (.goto 6, 3) := by decide +kernel
theorem d_L_sleep_19 : decode b_L_sleep 19 = .ok (.astore_n 3, 1) := by decide +kernel
theorem d_L_sleep_20 : decode b_L_sleep 20 = .ok (.iconst 1, 1) := by decide +kernel
theorem d_L_sleep_21 : decode b_L_sleep 21 = .ok (.ireturn, 1) := by decide +kernel
theorem d_L_sleep_22 : decode b_L_sleep 22 = .ok (.iconst 0, 1) := by decide +kernel
theorem d_L_sleep_23 : decode b_L_sleep 23 = .ok (.ireturn, 1) := by decide +kernel
theorem d_L_wake_0 : decode b_L_wake 0 = .ok (.aload_n 2, 1) := by decide +kernel
theorem d_L_wake_1 : decode b_L_wake 1 = .ok (.iconst 0, 1) := by decide +kernel
theorem d_L_wake_2 : decode b_L_wake 2 = .ok (.aload_n 0, 1) := by decide +kernel
theorem d_L_wake_3 : decode b_L_wake 3 = .ok (.iload_n 1, 1) := by decide +kernel
theorem d_L_wake_4 : decode b_L_wake 4 = .ok (.invokevirtual 40, 3) := by decide +kernel
theorem d_L_wake_7 : decode b_L_wake 7 = .ok (.i2l, 1) := by decide +kernel
theorem d_L_wake_8 : decode b_L_wake 8 = .ok (.lastore, 1) := by decide +kernel
theorem d_L_wake_9 : decode b_L_wake 9 = .ok (.goto 6, 3) := by decide +kernel
theorem d_L_wake_12 : decode b_L_wake 12 = .ok (.astore_n 3, 1) := by decide +kernel
theorem d_L_wake_13 : decode b_L_wake 13 = .ok (.iconst 1, 1) := by decide +kernel
theorem d_L_wake_14 : decode b_L_wake 14 = .ok (.ireturn, 1) := by decide +kernel
theorem d_L_wake_15 : decode b_L_wake 15 = .ok (.iconst 0, 1) := by decide +kernel
theorem d_L_wake_16 : decode b_L_wake 16 = .ok (.ireturn, 1) := by decide +kernel
theorem d_L_setGroup_0 : decode b_L_setGroup 0 = .ok (.aload 5, 2) := by decide +kernel
theorem d_L_setGroup_2 : decode b_L_setGroup 2 = .ok (.iconst 0, 1) := by decide +kernel
theorem d_L_setGroup_3 : decode b_L_setGroup 3 = .ok (.aload_n 0, 1) := by decide +kernel
theorem d_L_setGroup_4 : decode b_L_setGroup 4 = .ok (.iload_n 1, 1) := by decide +kernel
theorem d_L_setGroup_5 : decode b_L_setGroup 5 = .ok (.iload_n 2, 1) := by decide +kernel
theorem d_L_setGroup_6 : decode b_L_setGroup 6 = .ok (.iload_n 3, 1) := by decide +kernel
theorem d_L_setGroup_7 : decode b_L_setGroup 7 = .ok (.iload 4, 2) := by decide +kernel
theorem d_L_setGroup_9 : decode b_L_setGroup 9 = .ok (.invokevirtual 43, 3) := by decide +kernel
theorem d_L_setGroup_12 : decode b_L_setGroup 12 = .ok (.i2l, 1) := by decide +kernel
theorem d_L_setGroup_13 : decode b_L_setGroup 13 = .ok (.lastore, 1) := by decide +kernel
theorem d_L_setGroup_14 : decode b_L_setGroup 14 = .ok (.goto 11, 3) := by decide +kernel
theorem d_L_setGroup_17 : decode b_L_setGroup 17 = .ok (.astore 6, 2) := by decide +kernel
theorem d_L_setGroup_19 : decode b_L_setGroup 19 = .ok (.iconst 1, 1) := by decide +kernel
theorem d_L_setGroup_20 : decode b_L_setGroup 20 = .ok (.ireturn, 1) := by decide +kernel
theorem d_L_setGroup_21 : decode b_L_setGroup 21 = .ok (.astore 6, 2) := by decide +kernel
theorem d_L_setGroup_23 : decode b_L_setGroup 23 = .ok (.iconst 2, 1) := by decide +kernel
theorem d_L_setGroup_24 : decode b_L_setGroup 24 = .ok (.ireturn, 1) := by decide +kernel
theorem d_L_setGroup_25 : decode b_L_setGroup 25 = .ok (.iconst 0, 1) := by decide +kernel
theorem d_L_setGroup_26 : decode b_L_setGroup 26 = .ok (.ireturn, 1) := by decide +kernel
theorem d_L_addJob_0 : decode b_L_addJob 0 = .ok (.aload 6, 2) := by decide +kernel
theorem d_L_addJob_2 : decode b_L_addJob 2 = .ok (.iconst 0, 1) := by decide +kernel
theorem d_L_addJob_3 : decode b_L_addJob 3 = .ok (.aload_n 0, 1) := by decide +kernel
theorem d_L_addJob_4 : decode b_L_addJob 4 = .ok (.iload_n 1, 1) := by decide +kernel
theorem d_L_addJob_5 : decode b_L_addJob 5 = .ok (.iload_n 2, 1) := by decide +kernel
theorem d_L_addJob_6 : decode b_L_addJob 6 = .ok (.iload_n 3, 1) := by decide +kernel
theorem d_L_addJob_7 : decode b_L_addJob 7 = .ok (.iload 4, 2) := by decide +kernel
theorem d_L_addJob_9 : decode b_L_addJob 9 = .ok (.iload 5, 2) := by decide +kernel
theorem d_L_addJob_11 : decode b_L_addJob 11 = .ok (.invokevirtual 47, 3) := by decide +kernel
theorem d_L_addJob_14 : decode b_L_addJob 14 = .ok (.i2l, 1) := by decide +kernel
theorem d_L_addJob_15 : decode b_L_addJob 15 = .ok (.lastore, 1) := by decide +kernel
theorem d_L_addJob_16 : decode b_L_addJob 16 = .ok (.goto 15, 3) := by decide +kernel
theorem d_L_addJob_19 : decode b_L_addJob 19 = .ok (.astore 7, 2) := by decide +kernel
theorem d_L_addJob_21 : decode b_L_addJob 21 = .ok (.iconst 1, 1) := by decide +kernel
theorem d_L_addJob_22 : decode b_L_addJob 22 = .ok (.ireturn, 1) := by decide +kernel
theorem d_L_addJob_23 : decode b_L_addJob 23 = .ok (.astore 7, 2) := by decide +kernel
theorem d_L_addJob_25 : decode b_L_addJob 25 = .ok (.iconst 2, 1) := by decide +kernel
theorem d_L_addJob_26 : decode b_L_addJob 26 = .ok (.ireturn, 1) := by decide +kernel
theorem d_L_addJob_27 : decode b_L_addJob 27 = .ok (.astore 7, 2) := by decide +kernel
theorem d_L_addJob_29 : decode b_L_addJob 29 = .ok (.iconst 3, 1) := by decide +kernel
theorem d_L_addJob_30 : decode b_L_addJob 30 = .ok (.ireturn, 1) := by decide +kernel
theorem d_L_addJob_31 : decode b_L_addJob 31 = .ok (.iconst 0, 1) := by decide +kernel
theorem d_L_addJob_32 : decode b_L_addJob 32 = .ok (.ireturn, 1) := by decide +kernel
theorem d_L_cancel_0 : decode b_L_cancel 0 = .ok (.aload_n 2, 1) := by decide +kernel
theorem d_L_cancel_1 : decode b_L_cancel 1 = .ok (.iconst 0, 1) := by decide +kernel
theorem d_L_cancel_2 : decode b_L_cancel 2 = .ok (.aload_n 0, 1) := by decide +kernel
theorem d_L_cancel_3 : decode b_L_cancel 3 = .ok (.iload_n 1, 1) := by decide +kernel
theorem d_L_cancel_4 : decode b_L_cancel 4 = .ok (.invokevirtual 51, 3) := by decide +kernel
theorem d_L_cancel_7 : decode b_L_cancel 7 = .ok (.i2l, 1) := by decide +kernel
theorem d_L_cancel_8 : decode b_L_cancel 8 = .ok (.lastore, 1) := by decide +kernel
theorem d_L_cancel_9 : decode b_L_cancel 9 = .ok (.goto 9, 3) := by decide +kernel
theorem d_L_cancel_12 : decode b_L_cancel 12 = .ok (.astore_n 3, 1) := by decide +kernel
theorem d_L_cancel_13 : decode b_L_cancel 13 = .ok (.iconst 1, 1) := by decide +kernel
theorem d_L_cancel_14 : decode b_L_cancel 14 = .ok (.ireturn, 1) := by decide +kernel
theorem d_L_cancel_15 : decode b_L_cancel 15 = .ok (.astore_n 3, 1) := by decide +kernel
theorem d_L_cancel_16 : decode b_L_cancel 16 = .ok (.iconst 2, 1) := by decide +kernel
theorem d_L_cancel_17 : decode b_L_cancel 17 = .ok (.ireturn, 1) := by decide +kernel
theorem d_L_cancel_18 : decode b_L_cancel 18 = .ok (.iconst 0, 1) := by decide +kernel
theorem d_L_cancel_19 : decode b_L_cancel 19 = .ok (.ireturn, 1) := by decide +kernel
theorem d_L_version_0 : decode b_L_version 0 = .ok (.aload_n 2, 1) := by decide +kernel
theorem d_L_version_1 : decode b_L_version 1 = .ok (.iconst 0, 1) := by decide +kernel
theorem d_L_version_2 : decode b_L_version 2 = .ok (.aload_n 0, 1) := by decide +kernel
theorem d_L_version_3 : decode b_L_version 3 = .ok (.iload_n 1, 1) := by decide +kernel
theorem d_L_version_4 : decode b_L_version 4 = .ok (.invokevirtual 54, 3) := by decide +kernel
theorem d_L_version_7 : decode b_L_version 7 = .ok (.i2l, 1) := by decide +kernel
theorem d_L_version_8 : decode b_L_version 8 = .ok (.lastore, 1) := by decide +kernel
theorem d_L_version_9 : decode b_L_version 9 = .ok (.goto 6, 3) := by decide +kernel
theorem d_L_version_12 : decode b_L_version 12 = .ok (.astore_n 3, 1) := by decide +kernel
theorem d_L_version_13 : decode b_L_version 13 = .ok (.iconst 1, 1) := by decide +kernel
theorem d_L_version_14 : decode b_L_version 14 = .ok (.ireturn, 1) := by decide +kernel
theorem d_L_version_15 : decode b_L_version 15 = .ok (.iconst 0, 1) := by decide +kernel
theorem d_L_version_16 : decode b_L_version 16 = .ok (.ireturn, 1) := by decide +kernel
theorem d_L_heard_0 : decode b_L_heard 0 = .ok (.aload_n 2, 1) := by decide +kernel
theorem d_L_heard_1 : decode b_L_heard 1 = .ok (.iconst 0, 1) := by decide +kernel
theorem d_L_heard_2 : decode b_L_heard 2 = .ok (.aload_n 0, 1) := by decide +kernel
theorem d_L_heard_3 : decode b_L_heard 3 = .ok (.iload_n 1, 1) := by decide +kernel
theorem d_L_heard_4 : decode b_L_heard 4 = .ok (.invokevirtual 57, 3) := by decide +kernel
theorem d_L_heard_7 : decode b_L_heard 7 = .ok (.i2l, 1) := by decide +kernel
theorem d_L_heard_8 : decode b_L_heard 8 = .ok (.lastore, 1) := by decide +kernel
theorem d_L_heard_9 : decode b_L_heard 9 = .ok (.goto 6, 3) := by decide +kernel
theorem d_L_heard_12 : decode b_L_heard 12 = .ok (.astore_n 3, 1) := by decide +kernel
theorem d_L_heard_13 : decode b_L_heard 13 = .ok (.iconst 1, 1) := by decide +kernel
theorem d_L_heard_14 : decode b_L_heard 14 = .ok (.ireturn, 1) := by decide +kernel
theorem d_L_heard_15 : decode b_L_heard 15 = .ok (.iconst 0, 1) := by decide +kernel
theorem d_L_heard_16 : decode b_L_heard 16 = .ok (.ireturn, 1) := by decide +kernel
theorem d_L_wished_0 : decode b_L_wished 0 = .ok (.aload_n 3, 1) := by decide +kernel
theorem d_L_wished_1 : decode b_L_wished 1 = .ok (.iconst 0, 1) := by decide +kernel
theorem d_L_wished_2 : decode b_L_wished 2 = .ok (.aload_n 0, 1) := by decide +kernel
theorem d_L_wished_3 : decode b_L_wished 3 = .ok (.iload_n 1, 1) := by decide +kernel
theorem d_L_wished_4 : decode b_L_wished 4 = .ok (.iload_n 2, 1) := by decide +kernel
theorem d_L_wished_5 : decode b_L_wished 5 = .ok (.invokevirtual 60, 3) := by decide +kernel
theorem d_L_wished_8 : decode b_L_wished 8 = .ok (.i2l, 1) := by decide +kernel
theorem d_L_wished_9 : decode b_L_wished 9 = .ok (.lastore, 1) := by decide +kernel
theorem d_L_wished_10 : decode b_L_wished 10 = .ok (.goto 7, 3) := by decide +kernel
theorem d_L_wished_13 : decode b_L_wished 13 = .ok (.astore 4, 2) := by decide +kernel
theorem d_L_wished_15 : decode b_L_wished 15 = .ok (.iconst 1, 1) := by decide +kernel
theorem d_L_wished_16 : decode b_L_wished 16 = .ok (.ireturn, 1) := by decide +kernel
theorem d_L_wished_17 : decode b_L_wished 17 = .ok (.iconst 0, 1) := by decide +kernel
theorem d_L_wished_18 : decode b_L_wished 18 = .ok (.ireturn, 1) := by decide +kernel
theorem d_L_reported_0 : decode b_L_reported 0 = .ok (.aload_n 3, 1) := by decide +kernel
theorem d_L_reported_1 : decode b_L_reported 1 = .ok (.iconst 0, 1) := by decide +kernel
theorem d_L_reported_2 : decode b_L_reported 2 = .ok (.aload_n 0, 1) := by decide +kernel
theorem d_L_reported_3 : decode b_L_reported 3 = .ok (.iload_n 1, 1) := by decide +kernel
theorem d_L_reported_4 : decode b_L_reported 4 = .ok (.iload_n 2, 1) := by decide +kernel
theorem d_L_reported_5 : decode b_L_reported 5 = .ok (.invokevirtual 63, 3) := by decide +kernel
theorem d_L_reported_8 : decode b_L_reported 8 = .ok (.i2l, 1) := by decide +kernel
theorem d_L_reported_9 : decode b_L_reported 9 = .ok (.lastore, 1) := by decide +kernel
theorem d_L_reported_10 : decode b_L_reported 10 = .ok (.goto 7, 3) := by decide +kernel
theorem d_L_reported_13 : decode b_L_reported 13 = .ok (.astore 4, 2) := by decide +kernel
theorem d_L_reported_15 : decode b_L_reported 15 = .ok (.iconst 1, 1) := by decide +kernel
theorem d_L_reported_16 : decode b_L_reported 16 = .ok (.ireturn, 1) := by decide +kernel
theorem d_L_reported_17 : decode b_L_reported 17 = .ok (.iconst 0, 1) := by decide +kernel
theorem d_L_reported_18 : decode b_L_reported 18 = .ok (.ireturn, 1) := by decide +kernel
theorem d_L_why_0 : decode b_L_why 0 = .ok (.aload_n 3, 1) := by decide +kernel
theorem d_L_why_1 : decode b_L_why 1 = .ok (.iconst 0, 1) := by decide +kernel
theorem d_L_why_2 : decode b_L_why 2 = .ok (.aload_n 0, 1) := by decide +kernel
theorem d_L_why_3 : decode b_L_why 3 = .ok (.iload_n 1, 1) := by decide +kernel
theorem d_L_why_4 : decode b_L_why 4 = .ok (.iload_n 2, 1) := by decide +kernel
theorem d_L_why_5 : decode b_L_why 5 = .ok (.invokevirtual 66, 3) := by decide +kernel
theorem d_L_why_8 : decode b_L_why 8 = .ok (.i2l, 1) := by decide +kernel
theorem d_L_why_9 : decode b_L_why 9 = .ok (.lastore, 1) := by decide +kernel
theorem d_L_why_10 : decode b_L_why 10 = .ok (.goto 7, 3) := by decide +kernel
theorem d_L_why_13 : decode b_L_why 13 = .ok (.astore 4, 2) := by decide +kernel
theorem d_L_why_15 : decode b_L_why 15 = .ok (.iconst 1, 1) := by decide +kernel
theorem d_L_why_16 : decode b_L_why 16 = .ok (.ireturn, 1) := by decide +kernel
theorem d_L_why_17 : decode b_L_why 17 = .ok (.iconst 0, 1) := by decide +kernel
theorem d_L_why_18 : decode b_L_why 18 = .ok (.ireturn, 1) := by decide +kernel
theorem d_L_differences_0 : decode b_L_differences 0 = .ok (.aload_n 2, 1) := by decide +kernel
theorem d_L_differences_1 : decode b_L_differences 1 = .ok (.iconst 0, 1) := by decide +kernel
theorem d_L_differences_2 : decode b_L_differences 2 = .ok (.aload_n 0, 1) := by decide +kernel
theorem d_L_differences_3 : decode b_L_differences 3 = .ok (.iload_n 1, 1) := by decide +kernel
theorem d_L_differences_4 : decode b_L_differences 4 = .ok (.invokevirtual 69, 3) := by decide +kernel
theorem d_L_differences_7 : decode b_L_differences 7 = .ok (.i2l, 1) := by decide +kernel
theorem d_L_differences_8 : decode b_L_differences 8 = .ok (.lastore, 1) := by decide +kernel
theorem d_L_differences_9 : decode b_L_differences 9 = .ok (.goto 6, 3) := by decide +kernel
theorem d_L_differences_12 : decode b_L_differences 12 = .ok (.astore_n 3, 1) := by decide +kernel
theorem d_L_differences_13 : decode b_L_differences 13 = .ok (.iconst 1, 1) := by decide +kernel
theorem d_L_differences_14 : decode b_L_differences 14 = .ok (.ireturn, 1) := by decide +kernel
theorem d_L_differences_15 : decode b_L_differences 15 = .ok (.iconst 0, 1) := by decide +kernel
theorem d_L_differences_16 : decode b_L_differences 16 = .ok (.ireturn, 1) := by decide +kernel
theorem d_L_differencesAnew_0 : decode b_L_differencesAnew 0 = .ok (.aload_n 2, 1) := by decide +kernel
theorem d_L_differencesAnew_1 : decode b_L_differencesAnew 1 = .ok (.iconst 0, 1) := by decide +kernel
theorem d_L_differencesAnew_2 : decode b_L_differencesAnew 2 = .ok (.aload_n 0, 1) := by decide +kernel
theorem d_L_differencesAnew_3 : decode b_L_differencesAnew 3 = .ok (.iload_n 1, 1) := by decide +kernel
theorem d_L_differencesAnew_4 : decode b_L_differencesAnew 4 = .ok (.invokevirtual 72, 3) := by decide +kernel
theorem d_L_differencesAnew_7 : decode b_L_differencesAnew 7 = .ok (.i2l, 1) := by decide +kernel
theorem d_L_differencesAnew_8 : decode b_L_differencesAnew 8 = .ok (.lastore, 1) := by decide +kernel
theorem d_L_differencesAnew_9 : decode b_L_differencesAnew 9 = .ok (.goto 6, 3) := by decide +kernel
theorem d_L_differencesAnew_12 : decode b_L_differencesAnew 12 = .ok (.astore_n 3, 1) := by decide +kernel
theorem d_L_differencesAnew_13 : decode b_L_differencesAnew 13 = .ok (.iconst 1, 1) := by decide +kernel
theorem d_L_differencesAnew_14 : decode b_L_differencesAnew 14 = .ok (.ireturn, 1) := by decide +kernel
theorem d_L_differencesAnew_15 : decode b_L_differencesAnew 15 = .ok (.iconst 0, 1) := by decide +kernel
theorem d_L_differencesAnew_16 : decode b_L_differencesAnew 16 = .ok (.ireturn, 1) := by decide +kernel
theorem d_L_members_0 : decode b_L_members 0 = .ok (.aload_n 2, 1) := by decide +kernel
theorem d_L_members_1 : decode b_L_members 1 = .ok (.iconst 0, 1) := by decide +kernel
theorem d_L_members_2 : decode b_L_members 2 = .ok (.aload_n 0, 1) := by decide +kernel
theorem d_L_members_3 : decode b_L_members 3 = .ok (.iload_n 1, 1) := by decide +kernel
theorem d_L_members_4 : decode b_L_members 4 = .ok (.invokevirtual 75, 3) := by decide +kernel
theorem d_L_members_7 : decode b_L_members 7 = .ok (.i2l, 1) := by decide +kernel
theorem d_L_members_8 : decode b_L_members 8 = .ok (.lastore, 1) := by decide +kernel
theorem d_L_members_9 : decode b_L_members 9 = .ok (.goto 6, 3) := by decide +kernel
theorem d_L_members_12 : decode b_L_members 12 = .ok (.astore_n 3, 1) := by decide +kernel
theorem d_L_members_13 : decode b_L_members 13 = .ok (.iconst 1, 1) := by decide +kernel
theorem d_L_members_14 : decode b_L_members 14 = .ok (.ireturn, 1) := by decide +kernel
theorem d_L_members_15 : decode b_L_members 15 = .ok (.iconst 0, 1) := by decide +kernel
theorem d_L_members_16 : decode b_L_members 16 = .ok (.ireturn, 1) := by decide +kernel
theorem d_L_state_0 : decode b_L_state 0 = .ok (.aload_n 2, 1) := by decide +kernel
theorem d_L_state_1 : decode b_L_state 1 = .ok (.iconst 0, 1) := by decide +kernel
theorem d_L_state_2 : decode b_L_state 2 = .ok (.aload_n 0, 1) := by decide +kernel
theorem d_L_state_3 : decode b_L_state 3 = .ok (.iload_n 1, 1) := by decide +kernel
theorem d_L_state_4 : decode b_L_state 4 = .ok (.invokevirtual 78, 3) := by decide +kernel
theorem d_L_state_7 : decode b_L_state 7 = .ok (.i2l, 1) := by decide +kernel
theorem d_L_state_8 : decode b_L_state 8 = .ok (.lastore, 1) := by decide +kernel
theorem d_L_state_9 : decode b_L_state 9 = .ok (.goto 6, 3) := by decide +kernel
theorem d_L_state_12 : decode b_L_state 12 = .ok (.astore_n 3, 1) := by decide +kernel
theorem d_L_state_13 : decode b_L_state 13 = .ok (.iconst 1, 1) := by decide +kernel
theorem d_L_state_14 : decode b_L_state 14 = .ok (.ireturn, 1) := by decide +kernel
theorem d_L_state_15 : decode b_L_state 15 = .ok (.iconst 0, 1) := by decide +kernel
theorem d_L_state_16 : decode b_L_state 16 = .ok (.ireturn, 1) := by decide +kernel
theorem d_L_devices_0 : decode b_L_devices 0 = .ok (.aload_n 3, 1) := by decide +kernel
theorem d_L_devices_1 : decode b_L_devices 1 = .ok (.iconst 0, 1) := by decide +kernel
theorem d_L_devices_2 : decode b_L_devices 2 = .ok (.aload_n 0, 1) := by decide +kernel
theorem d_L_devices_3 : decode b_L_devices 3 = .ok (.iload_n 1, 1) := by decide +kernel
theorem d_L_devices_4 : decode b_L_devices 4 = .ok (.iload_n 2, 1) := by decide +kernel
theorem d_L_devices_5 : decode b_L_devices 5 = .ok (.invokevirtual 81, 3) := by decide +kernel
theorem d_L_devices_8 : decode b_L_devices 8 = .ok (.i2l, 1) := by decide +kernel
theorem d_L_devices_9 : decode b_L_devices 9 = .ok (.lastore, 1) := by decide +kernel
theorem d_L_devices_10 : decode b_L_devices 10 = .ok (.goto 11, 3) := by decide +kernel
theorem d_L_devices_13 : decode b_L_devices 13 = .ok (.astore 4, 2) := by decide +kernel
theorem d_L_devices_15 : decode b_L_devices 15 = .ok (.iconst 1, 1) := by decide +kernel
theorem d_L_devices_16 : decode b_L_devices 16 = .ok (.ireturn, 1) := by decide +kernel
theorem d_L_devices_17 : decode b_L_devices 17 = .ok (.astore 4, 2) := by decide +kernel
theorem d_L_devices_19 : decode b_L_devices 19 = .ok (.iconst 2, 1) := by decide +kernel
theorem d_L_devices_20 : decode b_L_devices 20 = .ok (.ireturn, 1) := by decide +kernel
theorem d_L_devices_21 : decode b_L_devices 21 = .ok (.iconst 0, 1) := by decide +kernel
theorem d_L_devices_22 : decode b_L_devices 22 = .ok (.ireturn, 1) := by decide +kernel
theorem d_law_0 : decode code 0 = .ok (.new 8, 3) := by decide +kernel
theorem d_law_3 : decode code 3 = .ok (.dup, 1) := by decide +kernel
theorem d_law_4 : decode code 4 = .ok (.invokespecial 84, 3) := by decide +kernel
theorem d_law_7 : decode code 7 = .ok (.astore_n 1, 1) := by decide +kernel
theorem d_law_8 : decode code 8 = .ok (.new 85, 3) := by decide +kernel
theorem d_law_11 : decode code 11 = .ok (.dup, 1) := by decide +kernel
theorem d_law_12 : decode code 12 = .ok (.invokespecial 87, 3) := by decide +kernel
theorem d_law_15 : decode code 15 = .ok (.astore_n 2, 1) := by decide +kernel
theorem d_law_16 : decode code 16 = .ok (.iconst 1, 1) := by decide +kernel
theorem d_law_17 : decode code 17 = .ok (.newarray .long, 2) := by decide +kernel
theorem d_law_19 : decode code 19 = .ok (.astore_n 3, 1) := by decide +kernel
theorem d_law_20 : decode code 20 = .ok (.iconst 0, 1) := by decide +kernel
theorem d_law_21 : decode code 21 = .ok (.istore 4, 2) := by decide +kernel
theorem d_law_23 : decode code 23 = .ok (.iload 4, 2) := by decide +kernel
theorem d_law_25 : decode code 25 = .ok (.aload_n 0, 1) := by decide +kernel
theorem d_law_26 : decode code 26 = .ok (.arraylength, 1) := by decide +kernel
theorem d_law_27 : decode code 27 = .ok (.bipush 6, 2) := by decide +kernel
theorem d_law_29 : decode code 29 = .ok (.isub, 1) := by decide +kernel
theorem d_law_30 : decode code 30 = .ok (.if_icmp .gt 1525, 3) := by decide +kernel
theorem d_law_33 : decode code 33 = .ok (.aload_n 0, 1) := by decide +kernel
theorem d_law_34 : decode code 34 = .ok (.iload 4, 2) := by decide +kernel
theorem d_law_36 : decode code 36 = .ok (.iaload, 1) := by decide +kernel
theorem d_law_37 : decode code 37 = .ok (.bipush 31, 2) := by decide +kernel
theorem d_law_39 : decode code 39 = .ok (.iand, 1) := by decide +kernel
theorem d_law_40 : decode code 40 = .ok (.tableswitch 1509 0 22 #[108, 176, 232, 300, 368, 424, 504, 567, 623, 715, 819, 832, 888, 944, 1000, 1068, 1136, 1204, 1260, 1316, 1372, 1385, 1441], 108) := by decide +kernel
theorem d_law_148 : decode code 148 = .ok (.aload_n 1, 1) := by decide +kernel
theorem d_law_149 : decode code 149 = .ok (.aload_n 0, 1) := by decide +kernel
theorem d_law_150 : decode code 150 = .ok (.iload 4, 2) := by decide +kernel
theorem d_law_152 : decode code 152 = .ok (.iconst 1, 1) := by decide +kernel
theorem d_law_153 : decode code 153 = .ok (.iadd, 1) := by decide +kernel
theorem d_law_154 : decode code 154 = .ok (.iaload, 1) := by decide +kernel
theorem d_law_155 : decode code 155 = .ok (.aload_n 0, 1) := by decide +kernel
theorem d_law_156 : decode code 156 = .ok (.iload 4, 2) := by decide +kernel
theorem d_law_158 : decode code 158 = .ok (.iconst 2, 1) := by decide +kernel
theorem d_law_159 : decode code 159 = .ok (.iadd, 1) := by decide +kernel
theorem d_law_160 : decode code 160 = .ok (.iaload, 1) := by decide +kernel
theorem d_law_161 : decode code 161 = .ok (.aload_n 3, 1) := by decide +kernel
theorem d_law_162 : decode code 162 = .ok (.invokestatic 88, 3) := by decide +kernel
theorem d_law_165 : decode code 165 = .ok (.istore 5, 2) := by decide +kernel
theorem d_law_167 : decode code 167 = .ok (.aload_n 2, 1) := by decide +kernel
theorem d_law_168 : decode code 168 = .ok (.aload_n 0, 1) := by decide +kernel
theorem d_law_169 : decode code 169 = .ok (.iload 4, 2) := by decide +kernel
theorem d_law_171 : decode code 171 = .ok (.iconst 1, 1) := by decide +kernel
theorem d_law_172 : decode code 172 = .ok (.iadd, 1) := by decide +kernel
theorem d_law_173 : decode code 173 = .ok (.iaload, 1) := by decide +kernel
theorem d_law_174 : decode code 174 = .ok (.aload_n 0, 1) := by decide +kernel
theorem d_law_175 : decode code 175 = .ok (.iload 4, 2) := by decide +kernel
theorem d_law_177 : decode code 177 = .ok (.iconst 2, 1) := by decide +kernel
theorem d_law_178 : decode code 178 = .ok (.iadd, 1) := by decide +kernel
theorem d_law_179 : decode code 179 = .ok (.iaload, 1) := by decide +kernel
theorem d_law_180 : decode code 180 = .ok (.invokevirtual 93, 3) := by decide +kernel
theorem d_law_183 : decode code 183 = .ok (.istore 6, 2) := by decide +kernel
theorem d_law_185 : decode code 185 = .ok (.aload_n 2, 1) := by decide +kernel
theorem d_law_186 : decode code 186 = .ok (.invokevirtual 94, 3) := by decide +kernel
theorem d_law_189 : decode code 189 = .ok (.iload 5, 2) := by decide +kernel
theorem d_law_191 : decode code 191 = .ok (.if_icmp .eq 5, 3) := by decide +kernel
theorem d_law_194 : decode code 194 = .ok (.iconst 0, 1) := by decide +kernel
theorem d_law_195 : decode code 195 = .ok (.ireturn, 1) := by decide +kernel
theorem d_law_196 : decode code 196 = .ok (.iload 5, 2) := by decide +kernel
theorem d_law_198 : decode code 198 = .ok (.ifCond .ne 15, 3) := by decide +kernel
theorem d_law_201 : decode code 201 = .ok (.aload_n 3, 1) := by decide +kernel
theorem d_law_202 : decode code 202 = .ok (.iconst 0, 1) := by decide +kernel
theorem d_law_203 : decode code 203 = .ok (.laload, 1) := by decide +kernel
theorem d_law_204 : decode code 204 = .ok (.iload 6, 2) := by decide +kernel
theorem d_law_206 : decode code 206 = .ok (.i2l, 1) := by decide +kernel
theorem d_law_207 : decode code 207 = .ok (.lcmp, 1) := by decide +kernel
theorem d_law_208 : decode code 208 = .ok (.ifCond .eq 5, 3) := by decide +kernel
theorem d_law_211 : decode code 211 = .ok (.iconst 0, 1) := by decide +kernel
theorem d_law_212 : decode code 212 = .ok (.ireturn, 1) := by decide +kernel
theorem d_law_213 : decode code 213 = .ok (.goto 1336, 3) := by decide +kernel
theorem d_law_216 : decode code 216 = .ok (.aload_n 1, 1) := by decide +kernel
theorem d_law_217 : decode code 217 = .ok (.aload_n 0, 1) := by decide +kernel
theorem d_law_218 : decode code 218 = .ok (.iload 4, 2) := by decide +kernel
theorem d_law_220 : decode code 220 = .ok (.iconst 1, 1) := by decide +kernel
theorem d_law_221 : decode code 221 = .ok (.iadd, 1) := by decide +kernel
theorem d_law_222 : decode code 222 = .ok (.iaload, 1) := by decide +kernel
theorem d_law_223 : decode code 223 = .ok (.aload_n 3, 1) := by decide +kernel
theorem d_law_224 : decode code 224 = .ok (.invokestatic 98, 3) := by decide +kernel
theorem d_law_227 : decode code 227 = .ok (.istore 5, 2) := by decide +kernel
theorem d_law_229 : decode code 229 = .ok (.aload_n 2, 1) := by decide +kernel
theorem d_law_230 : decode code 230 = .ok (.aload_n 0, 1) := by decide +kernel
theorem d_law_231 : decode code 231 = .ok (.iload 4, 2) := by decide +kernel
theorem d_law_233 : decode code 233 = .ok (.iconst 1, 1) := by decide +kernel
theorem d_law_234 : decode code 234 = .ok (.iadd, 1) := by decide +kernel
theorem d_law_235 : decode code 235 = .ok (.iaload, 1) := by decide +kernel
theorem d_law_236 : decode code 236 = .ok (.invokevirtual 101, 3) := by decide +kernel
theorem d_law_239 : decode code 239 = .ok (.istore 6, 2) := by decide +kernel
theorem d_law_241 : decode code 241 = .ok (.aload_n 2, 1) := by decide +kernel
theorem d_law_242 : decode code 242 = .ok (.invokevirtual 94, 3) := by decide +kernel
theorem d_law_245 : decode code 245 = .ok (.iload 5, 2) := by decide +kernel
theorem d_law_247 : decode code 247 = .ok (.if_icmp .eq 5, 3) := by decide +kernel
theorem d_law_250 : decode code 250 = .ok (.iconst 0, 1) := by decide +kernel
theorem d_law_251 : decode code 251 = .ok (.ireturn, 1) := by decide +kernel
theorem d_law_252 : decode code 252 = .ok (.iload 5, 2) := by decide +kernel
theorem d_law_254 : decode code 254 = .ok (.ifCond .ne 15, 3) := by decide +kernel
theorem d_law_257 : decode code 257 = .ok (.aload_n 3, 1) := by decide +kernel
theorem d_law_258 : decode code 258 = .ok (.iconst 0, 1) := by decide +kernel
theorem d_law_259 : decode code 259 = .ok (.laload, 1) := by decide +kernel
theorem d_law_260 : decode code 260 = .ok (.iload 6, 2) := by decide +kernel
theorem d_law_262 : decode code 262 = .ok (.i2l, 1) := by decide +kernel
theorem d_law_263 : decode code 263 = .ok (.lcmp, 1) := by decide +kernel
theorem d_law_264 : decode code 264 = .ok (.ifCond .eq 5, 3) := by decide +kernel
theorem d_law_267 : decode code 267 = .ok (.iconst 0, 1) := by decide +kernel
theorem d_law_268 : decode code 268 = .ok (.ireturn, 1) := by decide +kernel
theorem d_law_269 : decode code 269 = .ok (.goto 1280, 3) := by decide +kernel
theorem d_law_272 : decode code 272 = .ok (.aload_n 1, 1) := by decide +kernel
theorem d_law_273 : decode code 273 = .ok (.aload_n 0, 1) := by decide +kernel
theorem d_law_274 : decode code 274 = .ok (.iload 4, 2) := by decide +kernel
theorem d_law_276 : decode code 276 = .ok (.iconst 1, 1) := by decide +kernel
theorem d_law_277 : decode code 277 = .ok (.iadd, 1) := by decide +kernel
theorem d_law_278 : decode code 278 = .ok (.iaload, 1) := by decide +kernel
theorem d_law_279 : decode code 279 = .ok (.aload_n 0, 1) := by decide +kernel
theorem d_law_280 : decode code 280 = .ok (.iload 4, 2) := by decide +kernel
theorem d_law_282 : decode code 282 = .ok (.iconst 2, 1) := by decide +kernel
theorem d_law_283 : decode code 283 = .ok (.iadd, 1) := by decide +kernel
theorem d_law_284 : decode code 284 = .ok (.iaload, 1) := by decide +kernel
theorem d_law_285 : decode code 285 = .ok (.aload_n 3, 1) := by decide +kernel
theorem d_law_286 : decode code 286 = .ok (.invokestatic 102, 3) := by decide +kernel
theorem d_law_289 : decode code 289 = .ok (.istore 5, 2) := by decide +kernel
theorem d_law_291 : decode code 291 = .ok (.aload_n 2, 1) := by decide +kernel
theorem d_law_292 : decode code 292 = .ok (.aload_n 0, 1) := by decide +kernel
theorem d_law_293 : decode code 293 = .ok (.iload 4, 2) := by decide +kernel
theorem d_law_295 : decode code 295 = .ok (.iconst 1, 1) := by decide +kernel
theorem d_law_296 : decode code 296 = .ok (.iadd, 1) := by decide +kernel
theorem d_law_297 : decode code 297 = .ok (.iaload, 1) := by decide +kernel
theorem d_law_298 : decode code 298 = .ok (.aload_n 0, 1) := by decide +kernel
theorem d_law_299 : decode code 299 = .ok (.iload 4, 2) := by decide +kernel
theorem d_law_301 : decode code 301 = .ok (.iconst 2, 1) := by decide +kernel
theorem d_law_302 : decode code 302 = .ok (.iadd, 1) := by decide +kernel
theorem d_law_303 : decode code 303 = .ok (.iaload, 1) := by decide +kernel
theorem d_law_304 : decode code 304 = .ok (.invokevirtual 104, 3) := by decide +kernel
theorem d_law_307 : decode code 307 = .ok (.istore 6, 2) := by decide +kernel
theorem d_law_309 : decode code 309 = .ok (.aload_n 2, 1) := by decide +kernel
theorem d_law_310 : decode code 310 = .ok (.invokevirtual 94, 3) := by decide +kernel
theorem d_law_313 : decode code 313 = .ok (.iload 5, 2) := by decide +kernel
theorem d_law_315 : decode code 315 = .ok (.if_icmp .eq 5, 3) := by decide +kernel
theorem d_law_318 : decode code 318 = .ok (.iconst 0, 1) := by decide +kernel
theorem d_law_319 : decode code 319 = .ok (.ireturn, 1) := by decide +kernel
theorem d_law_320 : decode code 320 = .ok (.iload 5, 2) := by decide +kernel
theorem d_law_322 : decode code 322 = .ok (.ifCond .ne 15, 3) := by decide +kernel
theorem d_law_325 : decode code 325 = .ok (.aload_n 3, 1) := by decide +kernel
theorem d_law_326 : decode code 326 = .ok (.iconst 0, 1) := by decide +kernel
theorem d_law_327 : decode code 327 = .ok (.laload, 1) := by decide +kernel
theorem d_law_328 : decode code 328 = .ok (.iload 6, 2) := by decide +kernel
theorem d_law_330 : decode code 330 = .ok (.i2l, 1) := by decide +kernel
theorem d_law_331 : decode code 331 = .ok (.lcmp, 1) := by decide +kernel
theorem d_law_332 : decode code 332 = .ok (.ifCond .eq 5, 3) := by decide +kernel
theorem d_law_335 : decode code 335 = .ok (.iconst 0, 1) := by decide +kernel
theorem d_law_336 : decode code 336 = .ok (.ireturn, 1) := by decide +kernel
theorem d_law_337 : decode code 337 = .ok (.goto 1212, 3) := by decide +kernel
theorem d_law_340 : decode code 340 = .ok (.aload_n 1, 1) := by decide +kernel
theorem d_law_341 : decode code 341 = .ok (.aload_n 0, 1) := by decide +kernel
theorem d_law_342 : decode code 342 = .ok (.iload 4, 2) := by decide +kernel
theorem d_law_344 : decode code 344 = .ok (.iconst 1, 1) := by decide +kernel
theorem d_law_345 : decode code 345 = .ok (.iadd, 1) := by decide +kernel
theorem d_law_346 : decode code 346 = .ok (.iaload, 1) := by decide +kernel
theorem d_law_347 : decode code 347 = .ok (.aload_n 0, 1) := by decide +kernel
theorem d_law_348 : decode code 348 = .ok (.iload 4, 2) := by decide +kernel
theorem d_law_350 : decode code 350 = .ok (.iconst 2, 1) := by decide +kernel
theorem d_law_351 : decode code 351 = .ok (.iadd, 1) := by decide +kernel
theorem d_law_352 : decode code 352 = .ok (.iaload, 1) := by decide +kernel
theorem d_law_353 : decode code 353 = .ok (.aload_n 3, 1) := by decide +kernel
theorem d_law_354 : decode code 354 = .ok (.invokestatic 105, 3) := by decide +kernel
theorem d_law_357 : decode code 357 = .ok (.istore 5, 2) := by decide +kernel
theorem d_law_359 : decode code 359 = .ok (.aload_n 2, 1) := by decide +kernel
theorem d_law_360 : decode code 360 = .ok (.aload_n 0, 1) := by decide +kernel
theorem d_law_361 : decode code 361 = .ok (.iload 4, 2) := by decide +kernel
theorem d_law_363 : decode code 363 = .ok (.iconst 1, 1) := by decide +kernel
theorem d_law_364 : decode code 364 = .ok (.iadd, 1) := by decide +kernel
theorem d_law_365 : decode code 365 = .ok (.iaload, 1) := by decide +kernel
theorem d_law_366 : decode code 366 = .ok (.aload_n 0, 1) := by decide +kernel
theorem d_law_367 : decode code 367 = .ok (.iload 4, 2) := by decide +kernel
theorem d_law_369 : decode code 369 = .ok (.iconst 2, 1) := by decide +kernel
theorem d_law_370 : decode code 370 = .ok (.iadd, 1) := by decide +kernel
theorem d_law_371 : decode code 371 = .ok (.iaload, 1) := by decide +kernel
theorem d_law_372 : decode code 372 = .ok (.invokevirtual 107, 3) := by decide +kernel
theorem d_law_375 : decode code 375 = .ok (.istore 6, 2) := by decide +kernel
theorem d_law_377 : decode code 377 = .ok (.aload_n 2, 1) := by decide +kernel
theorem d_law_378 : decode code 378 = .ok (.invokevirtual 94, 3) := by decide +kernel
theorem d_law_381 : decode code 381 = .ok (.iload 5, 2) := by decide +kernel
theorem d_law_383 : decode code 383 = .ok (.if_icmp .eq 5, 3) := by decide +kernel
theorem d_law_386 : decode code 386 = .ok (.iconst 0, 1) := by decide +kernel
theorem d_law_387 : decode code 387 = .ok (.ireturn, 1) := by decide +kernel
theorem d_law_388 : decode code 388 = .ok (.iload 5, 2) := by decide +kernel
theorem d_law_390 : decode code 390 = .ok (.ifCond .ne 15, 3) := by decide +kernel
theorem d_law_393 : decode code 393 = .ok (.aload_n 3, 1) := by decide +kernel
theorem d_law_394 : decode code 394 = .ok (.iconst 0, 1) := by decide +kernel
theorem d_law_395 : decode code 395 = .ok (.laload, 1) := by decide +kernel
theorem d_law_396 : decode code 396 = .ok (.iload 6, 2) := by decide +kernel
theorem d_law_398 : decode code 398 = .ok (.i2l, 1) := by decide +kernel
theorem d_law_399 : decode code 399 = .ok (.lcmp, 1) := by decide +kernel
theorem d_law_400 : decode code 400 = .ok (.ifCond .eq 5, 3) := by decide +kernel
theorem d_law_403 : decode code 403 = .ok (.iconst 0, 1) := by decide +kernel
theorem d_law_404 : decode code 404 = .ok (.ireturn, 1) := by decide +kernel
theorem d_law_405 : decode code 405 = .ok (.goto 1144, 3) := by decide +kernel
theorem d_law_408 : decode code 408 = .ok (.aload_n 1, 1) := by decide +kernel
theorem d_law_409 : decode code 409 = .ok (.aload_n 0, 1) := by decide +kernel
theorem d_law_410 : decode code 410 = .ok (.iload 4, 2) := by decide +kernel
theorem d_law_412 : decode code 412 = .ok (.iconst 1, 1) := by decide +kernel
theorem d_law_413 : decode code 413 = .ok (.iadd, 1) := by decide +kernel
theorem d_law_414 : decode code 414 = .ok (.iaload, 1) := by decide +kernel
theorem d_law_415 : decode code 415 = .ok (.aload_n 3, 1) := by decide +kernel
theorem d_law_416 : decode code 416 = .ok (.invokestatic 108, 3) := by decide +kernel
theorem d_law_419 : decode code 419 = .ok (.istore 5, 2) := by decide +kernel
theorem d_law_421 : decode code 421 = .ok (.aload_n 2, 1) := by decide +kernel
theorem d_law_422 : decode code 422 = .ok (.aload_n 0, 1) := by decide +kernel
theorem d_law_423 : decode code 423 = .ok (.iload 4, 2) := by decide +kernel
theorem d_law_425 : decode code 425 = .ok (.iconst 1, 1) := by decide +kernel
theorem d_law_426 : decode code 426 = .ok (.iadd, 1) := by decide +kernel
theorem d_law_427 : decode code 427 = .ok (.iaload, 1) := by decide +kernel
theorem d_law_428 : decode code 428 = .ok (.invokevirtual 110, 3) := by decide +kernel
theorem d_law_431 : decode code 431 = .ok (.istore 6, 2) := by decide +kernel
theorem d_law_433 : decode code 433 = .ok (.aload_n 2, 1) := by decide +kernel
theorem d_law_434 : decode code 434 = .ok (.invokevirtual 94, 3) := by decide +kernel
theorem d_law_437 : decode code 437 = .ok (.iload 5, 2) := by decide +kernel
theorem d_law_439 : decode code 439 = .ok (.if_icmp .eq 5, 3) := by decide +kernel
theorem d_law_442 : decode code 442 = .ok (.iconst 0, 1) := by decide +kernel
theorem d_law_443 : decode code 443 = .ok (.ireturn, 1) := by decide +kernel
theorem d_law_444 : decode code 444 = .ok (.iload 5, 2) := by decide +kernel
theorem d_law_446 : decode code 446 = .ok (.ifCond .ne 15, 3) := by decide +kernel
theorem d_law_449 : decode code 449 = .ok (.aload_n 3, 1) := by decide +kernel
theorem d_law_450 : decode code 450 = .ok (.iconst 0, 1) := by decide +kernel
theorem d_law_451 : decode code 451 = .ok (.laload, 1) := by decide +kernel
theorem d_law_452 : decode code 452 = .ok (.iload 6, 2) := by decide +kernel
theorem d_law_454 : decode code 454 = .ok (.i2l, 1) := by decide +kernel
theorem d_law_455 : decode code 455 = .ok (.lcmp, 1) := by decide +kernel
theorem d_law_456 : decode code 456 = .ok (.ifCond .eq 5, 3) := by decide +kernel
theorem d_law_459 : decode code 459 = .ok (.iconst 0, 1) := by decide +kernel
theorem d_law_460 : decode code 460 = .ok (.ireturn, 1) := by decide +kernel
theorem d_law_461 : decode code 461 = .ok (.goto 1088, 3) := by decide +kernel
theorem d_law_464 : decode code 464 = .ok (.aload_n 1, 1) := by decide +kernel
theorem d_law_465 : decode code 465 = .ok (.aload_n 0, 1) := by decide +kernel
theorem d_law_466 : decode code 466 = .ok (.iload 4, 2) := by decide +kernel
theorem d_law_468 : decode code 468 = .ok (.iconst 1, 1) := by decide +kernel
theorem d_law_469 : decode code 469 = .ok (.iadd, 1) := by decide +kernel
theorem d_law_470 : decode code 470 = .ok (.iaload, 1) := by decide +kernel
theorem d_law_471 : decode code 471 = .ok (.aload_n 0, 1) := by decide +kernel
theorem d_law_472 : decode code 472 = .ok (.iload 4, 2) := by decide +kernel
theorem d_law_474 : decode code 474 = .ok (.iconst 2, 1) := by decide +kernel
theorem d_law_475 : decode code 475 = .ok (.iadd, 1) := by decide +kernel
theorem d_law_476 : decode code 476 = .ok (.iaload, 1) := by decide +kernel
theorem d_law_477 : decode code 477 = .ok (.aload_n 0, 1) := by decide +kernel
theorem d_law_478 : decode code 478 = .ok (.iload 4, 2) := by decide +kernel
theorem d_law_480 : decode code 480 = .ok (.iconst 3, 1) := by decide +kernel
theorem d_law_481 : decode code 481 = .ok (.iadd, 1) := by decide +kernel
theorem d_law_482 : decode code 482 = .ok (.iaload, 1) := by decide +kernel
theorem d_law_483 : decode code 483 = .ok (.aload_n 3, 1) := by decide +kernel
theorem d_law_484 : decode code 484 = .ok (.invokestatic 111, 3) := by decide +kernel
theorem d_law_487 : decode code 487 = .ok (.istore 5, 2) := by decide +kernel
theorem d_law_489 : decode code 489 = .ok (.aload_n 2, 1) := by decide +kernel
theorem d_law_490 : decode code 490 = .ok (.aload_n 0, 1) := by decide +kernel
theorem d_law_491 : decode code 491 = .ok (.iload 4, 2) := by decide +kernel
theorem d_law_493 : decode code 493 = .ok (.iconst 1, 1) := by decide +kernel
theorem d_law_494 : decode code 494 = .ok (.iadd, 1) := by decide +kernel
theorem d_law_495 : decode code 495 = .ok (.iaload, 1) := by decide +kernel
theorem d_law_496 : decode code 496 = .ok (.aload_n 0, 1) := by decide +kernel
theorem d_law_497 : decode code 497 = .ok (.iload 4, 2) := by decide +kernel
theorem d_law_499 : decode code 499 = .ok (.iconst 2, 1) := by decide +kernel
theorem d_law_500 : decode code 500 = .ok (.iadd, 1) := by decide +kernel
theorem d_law_501 : decode code 501 = .ok (.iaload, 1) := by decide +kernel
theorem d_law_502 : decode code 502 = .ok (.aload_n 0, 1) := by decide +kernel
theorem d_law_503 : decode code 503 = .ok (.iload 4, 2) := by decide +kernel
theorem d_law_505 : decode code 505 = .ok (.iconst 3, 1) := by decide +kernel
theorem d_law_506 : decode code 506 = .ok (.iadd, 1) := by decide +kernel
theorem d_law_507 : decode code 507 = .ok (.iaload, 1) := by decide +kernel
theorem d_law_508 : decode code 508 = .ok (.invokevirtual 114, 3) := by decide +kernel
theorem d_law_511 : decode code 511 = .ok (.istore 6, 2) := by decide +kernel
theorem d_law_513 : decode code 513 = .ok (.aload_n 2, 1) := by decide +kernel
theorem d_law_514 : decode code 514 = .ok (.invokevirtual 94, 3) := by decide +kernel
theorem d_law_517 : decode code 517 = .ok (.iload 5, 2) := by decide +kernel
theorem d_law_519 : decode code 519 = .ok (.if_icmp .eq 5, 3) := by decide +kernel
theorem d_law_522 : decode code 522 = .ok (.iconst 0, 1) := by decide +kernel
theorem d_law_523 : decode code 523 = .ok (.ireturn, 1) := by decide +kernel
theorem d_law_524 : decode code 524 = .ok (.iload 5, 2) := by decide +kernel
theorem d_law_526 : decode code 526 = .ok (.ifCond .ne 15, 3) := by decide +kernel
theorem d_law_529 : decode code 529 = .ok (.aload_n 3, 1) := by decide +kernel
theorem d_law_530 : decode code 530 = .ok (.iconst 0, 1) := by decide +kernel
theorem d_law_531 : decode code 531 = .ok (.laload, 1) := by decide +kernel
theorem d_law_532 : decode code 532 = .ok (.iload 6, 2) := by decide +kernel
theorem d_law_534 : decode code 534 = .ok (.i2l, 1) := by decide +kernel
theorem d_law_535 : decode code 535 = .ok (.lcmp, 1) := by decide +kernel
theorem d_law_536 : decode code 536 = .ok (.ifCond .eq 5, 3) := by decide +kernel
theorem d_law_539 : decode code 539 = .ok (.iconst 0, 1) := by decide +kernel
theorem d_law_540 : decode code 540 = .ok (.ireturn, 1) := by decide +kernel
theorem d_law_541 : decode code 541 = .ok (.goto 1008, 3) := by decide +kernel
theorem d_law_544 : decode code 544 = .ok (.aload_n 1, 1) := by decide +kernel
theorem d_law_545 : decode code 545 = .ok (.aload_n 0, 1) := by decide +kernel
theorem d_law_546 : decode code 546 = .ok (.iload 4, 2) := by decide +kernel
theorem d_law_548 : decode code 548 = .ok (.iconst 1, 1) := by decide +kernel
theorem d_law_549 : decode code 549 = .ok (.iadd, 1) := by decide +kernel
theorem d_law_550 : decode code 550 = .ok (.iaload, 1) := by decide +kernel
theorem d_law_551 : decode code 551 = .ok (.aload_n 3, 1) := by decide +kernel
theorem d_law_552 : decode code 552 = .ok (.invokestatic 115, 3) := by decide +kernel
theorem d_law_555 : decode code 555 = .ok (.istore 5, 2) := by decide +kernel
theorem d_law_557 : decode code 557 = .ok (.aload_n 2, 1) := by decide +kernel
theorem d_law_558 : decode code 558 = .ok (.aload_n 0, 1) := by decide +kernel
theorem d_law_559 : decode code 559 = .ok (.iload 4, 2) := by decide +kernel
theorem d_law_561 : decode code 561 = .ok (.iconst 1, 1) := by decide +kernel
theorem d_law_562 : decode code 562 = .ok (.iadd, 1) := by decide +kernel
theorem d_law_563 : decode code 563 = .ok (.iaload, 1) := by decide +kernel
theorem d_law_564 : decode code 564 = .ok (.invokevirtual 117, 3) := by decide +kernel
theorem d_law_567 : decode code 567 = .ok (.istore 6, 2) := by decide +kernel
theorem d_law_569 : decode code 569 = .ok (.aload_n 2, 1) := by decide +kernel
theorem d_law_570 : decode code 570 = .ok (.invokevirtual 94, 3) := by decide +kernel
theorem d_law_573 : decode code 573 = .ok (.iload 5, 2) := by decide +kernel
theorem d_law_575 : decode code 575 = .ok (.if_icmp .eq 5, 3) := by decide +kernel
theorem d_law_578 : decode code 578 = .ok (.iconst 0, 1) := by decide +kernel
theorem d_law_579 : decode code 579 = .ok (.ireturn, 1) := by decide +kernel
theorem d_law_580 : decode code 580 = .ok (.iload 5, 2) := by decide +kernel
theorem d_law_582 : decode code 582 = .ok (.ifCond .ne 22, 3) := by decide +kernel
theorem d_law_585 : decode code 585 = .ok (.aload_n 3, 1) := by decide +kernel
theorem d_law_586 : decode code 586 = .ok (.iconst 0, 1) := by decide +kernel
theorem d_law_587 : decode code 587 = .ok (.laload, 1) := by decide +kernel
theorem d_law_588 : decode code 588 = .ok (.iload 6, 2) := by decide +kernel
theorem d_law_590 : decode code 590 = .ok (.ifCond .eq 7, 3) := by decide +kernel
theorem d_law_593 : decode code 593 = .ok (.lconst 1, 1) := by decide +kernel
theorem d_law_594 : decode code 594 = .ok (.goto 4, 3) := by decide +kernel
theorem d_law_597 : decode code 597 = .ok (.lconst 0, 1) := by decide +kernel
theorem d_law_598 : decode code 598 = .ok (.lcmp, 1) := by decide +kernel
theorem d_law_599 : decode code 599 = .ok (.ifCond .eq 5, 3) := by decide +kernel
theorem d_law_602 : decode code 602 = .ok (.iconst 0, 1) := by decide +kernel
theorem d_law_603 : decode code 603 = .ok (.ireturn, 1) := by decide +kernel
theorem d_law_604 : decode code 604 = .ok (.goto 945, 3) := by decide +kernel
theorem d_law_607 : decode code 607 = .ok (.aload_n 1, 1) := by decide +kernel
theorem d_law_608 : decode code 608 = .ok (.aload_n 0, 1) := by decide +kernel
theorem d_law_609 : decode code 609 = .ok (.iload 4, 2) := by decide +kernel
theorem d_law_611 : decode code 611 = .ok (.iconst 1, 1) := by decide +kernel
theorem d_law_612 : decode code 612 = .ok (.iadd, 1) := by decide +kernel
theorem d_law_613 : decode code 613 = .ok (.iaload, 1) := by decide +kernel
theorem d_law_614 : decode code 614 = .ok (.aload_n 3, 1) := by decide +kernel
theorem d_law_615 : decode code 615 = .ok (.invokestatic 118, 3) := by decide +kernel
theorem d_law_618 : decode code 618 = .ok (.istore 5, 2) := by decide +kernel
theorem d_law_620 : decode code 620 = .ok (.aload_n 2, 1) := by decide +kernel
theorem d_law_621 : decode code 621 = .ok (.aload_n 0, 1) := by decide +kernel
theorem d_law_622 : decode code 622 = .ok (.iload 4, 2) := by decide +kernel
theorem d_law_624 : decode code 624 = .ok (.iconst 1, 1) := by decide +kernel
theorem d_law_625 : decode code 625 = .ok (.iadd, 1) := by decide +kernel
theorem d_law_626 : decode code 626 = .ok (.iaload, 1) := by decide +kernel
theorem d_law_627 : decode code 627 = .ok (.invokevirtual 120, 3) := by decide +kernel
theorem d_law_630 : decode code 630 = .ok (.istore 6, 2) := by decide +kernel
theorem d_law_632 : decode code 632 = .ok (.aload_n 2, 1) := by decide +kernel
theorem d_law_633 : decode code 633 = .ok (.invokevirtual 94, 3) := by decide +kernel
theorem d_law_636 : decode code 636 = .ok (.iload 5, 2) := by decide +kernel
theorem d_law_638 : decode code 638 = .ok (.if_icmp .eq 5, 3) := by decide +kernel
theorem d_law_641 : decode code 641 = .ok (.iconst 0, 1) := by decide +kernel
theorem d_law_642 : decode code 642 = .ok (.ireturn, 1) := by decide +kernel
theorem d_law_643 : decode code 643 = .ok (.iload 5, 2) := by decide +kernel
theorem d_law_645 : decode code 645 = .ok (.ifCond .ne 15, 3) := by decide +kernel
theorem d_law_648 : decode code 648 = .ok (.aload_n 3, 1) := by decide +kernel
theorem d_law_649 : decode code 649 = .ok (.iconst 0, 1) := by decide +kernel
theorem d_law_650 : decode code 650 = .ok (.laload, 1) := by decide +kernel
theorem d_law_651 : decode code 651 = .ok (.iload 6, 2) := by decide +kernel
theorem d_law_653 : decode code 653 = .ok (.i2l, 1) := by decide +kernel
theorem d_law_654 : decode code 654 = .ok (.lcmp, 1) := by decide +kernel
theorem d_law_655 : decode code 655 = .ok (.ifCond .eq 5, 3) := by decide +kernel
theorem d_law_658 : decode code 658 = .ok (.iconst 0, 1) := by decide +kernel
theorem d_law_659 : decode code 659 = .ok (.ireturn, 1) := by decide +kernel
theorem d_law_660 : decode code 660 = .ok (.goto 889, 3) := by decide +kernel
theorem d_law_663 : decode code 663 = .ok (.aload_n 1, 1) := by decide +kernel
theorem d_law_664 : decode code 664 = .ok (.aload_n 0, 1) := by decide +kernel
theorem d_law_665 : decode code 665 = .ok (.iload 4, 2) := by decide +kernel
theorem d_law_667 : decode code 667 = .ok (.iconst 1, 1) := by decide +kernel
theorem d_law_668 : decode code 668 = .ok (.iadd, 1) := by decide +kernel
theorem d_law_669 : decode code 669 = .ok (.iaload, 1) := by decide +kernel
theorem d_law_670 : decode code 670 = .ok (.aload_n 0, 1) := by decide +kernel
theorem d_law_671 : decode code 671 = .ok (.iload 4, 2) := by decide +kernel
theorem d_law_673 : decode code 673 = .ok (.iconst 2, 1) := by decide +kernel
theorem d_law_674 : decode code 674 = .ok (.iadd, 1) := by decide +kernel
theorem d_law_675 : decode code 675 = .ok (.iaload, 1) := by decide +kernel
theorem d_law_676 : decode code 676 = .ok (.aload_n 0, 1) := by decide +kernel
theorem d_law_677 : decode code 677 = .ok (.iload 4, 2) := by decide +kernel
theorem d_law_679 : decode code 679 = .ok (.iconst 3, 1) := by decide +kernel
theorem d_law_680 : decode code 680 = .ok (.iadd, 1) := by decide +kernel
theorem d_law_681 : decode code 681 = .ok (.iaload, 1) := by decide +kernel
theorem d_law_682 : decode code 682 = .ok (.aload_n 0, 1) := by decide +kernel
theorem d_law_683 : decode code 683 = .ok (.iload 4, 2) := by decide +kernel
theorem d_law_685 : decode code 685 = .ok (.iconst 4, 1) := by decide +kernel
theorem d_law_686 : decode code 686 = .ok (.iadd, 1) := by decide +kernel
theorem d_law_687 : decode code 687 = .ok (.iaload, 1) := by decide +kernel
theorem d_law_688 : decode code 688 = .ok (.aload_n 3, 1) := by decide +kernel
theorem d_law_689 : decode code 689 = .ok (.invokestatic 121, 3) := by decide +kernel
theorem d_law_692 : decode code 692 = .ok (.istore 5, 2) := by decide +kernel
theorem d_law_694 : decode code 694 = .ok (.aload_n 2, 1) := by decide +kernel
theorem d_law_695 : decode code 695 = .ok (.aload_n 0, 1) := by decide +kernel
theorem d_law_696 : decode code 696 = .ok (.iload 4, 2) := by decide +kernel
theorem d_law_698 : decode code 698 = .ok (.iconst 1, 1) := by decide +kernel
theorem d_law_699 : decode code 699 = .ok (.iadd, 1) := by decide +kernel
theorem d_law_700 : decode code 700 = .ok (.iaload, 1) := by decide +kernel
theorem d_law_701 : decode code 701 = .ok (.aload_n 0, 1) := by decide +kernel
theorem d_law_702 : decode code 702 = .ok (.iload 4, 2) := by decide +kernel
theorem d_law_704 : decode code 704 = .ok (.iconst 2, 1) := by decide +kernel
theorem d_law_705 : decode code 705 = .ok (.iadd, 1) := by decide +kernel
theorem d_law_706 : decode code 706 = .ok (.iaload, 1) := by decide +kernel
theorem d_law_707 : decode code 707 = .ok (.aload_n 0, 1) := by decide +kernel
theorem d_law_708 : decode code 708 = .ok (.iload 4, 2) := by decide +kernel
theorem d_law_710 : decode code 710 = .ok (.iconst 3, 1) := by decide +kernel
theorem d_law_711 : decode code 711 = .ok (.iadd, 1) := by decide +kernel
theorem d_law_712 : decode code 712 = .ok (.iaload, 1) := by decide +kernel
theorem d_law_713 : decode code 713 = .ok (.aload_n 0, 1) := by decide +kernel
theorem d_law_714 : decode code 714 = .ok (.iload 4, 2) := by decide +kernel
theorem d_law_716 : decode code 716 = .ok (.iconst 4, 1) := by decide +kernel
theorem d_law_717 : decode code 717 = .ok (.iadd, 1) := by decide +kernel
theorem d_law_718 : decode code 718 = .ok (.iaload, 1) := by decide +kernel
theorem d_law_719 : decode code 719 = .ok (.invokevirtual 124, 3) := by decide +kernel
theorem d_law_722 : decode code 722 = .ok (.istore 6, 2) := by decide +kernel
theorem d_law_724 : decode code 724 = .ok (.aload_n 2, 1) := by decide +kernel
theorem d_law_725 : decode code 725 = .ok (.invokevirtual 94, 3) := by decide +kernel
theorem d_law_728 : decode code 728 = .ok (.iload 5, 2) := by decide +kernel
theorem d_law_730 : decode code 730 = .ok (.if_icmp .eq 5, 3) := by decide +kernel
theorem d_law_733 : decode code 733 = .ok (.iconst 0, 1) := by decide +kernel
theorem d_law_734 : decode code 734 = .ok (.ireturn, 1) := by decide +kernel
theorem d_law_735 : decode code 735 = .ok (.iload 5, 2) := by decide +kernel
theorem d_law_737 : decode code 737 = .ok (.ifCond .ne 15, 3) := by decide +kernel
theorem d_law_740 : decode code 740 = .ok (.aload_n 3, 1) := by decide +kernel
theorem d_law_741 : decode code 741 = .ok (.iconst 0, 1) := by decide +kernel
theorem d_law_742 : decode code 742 = .ok (.laload, 1) := by decide +kernel
theorem d_law_743 : decode code 743 = .ok (.iload 6, 2) := by decide +kernel
theorem d_law_745 : decode code 745 = .ok (.i2l, 1) := by decide +kernel
theorem d_law_746 : decode code 746 = .ok (.lcmp, 1) := by decide +kernel
theorem d_law_747 : decode code 747 = .ok (.ifCond .eq 5, 3) := by decide +kernel
theorem d_law_750 : decode code 750 = .ok (.iconst 0, 1) := by decide +kernel
theorem d_law_751 : decode code 751 = .ok (.ireturn, 1) := by decide +kernel
theorem d_law_752 : decode code 752 = .ok (.goto 797, 3) := by decide +kernel
theorem d_law_755 : decode code 755 = .ok (.aload_n 1, 1) := by decide +kernel
theorem d_law_756 : decode code 756 = .ok (.aload_n 0, 1) := by decide +kernel
theorem d_law_757 : decode code 757 = .ok (.iload 4, 2) := by decide +kernel
theorem d_law_759 : decode code 759 = .ok (.iconst 1, 1) := by decide +kernel
theorem d_law_760 : decode code 760 = .ok (.iadd, 1) := by decide +kernel
theorem d_law_761 : decode code 761 = .ok (.iaload, 1) := by decide +kernel
theorem d_law_762 : decode code 762 = .ok (.aload_n 0, 1) := by decide +kernel
theorem d_law_763 : decode code 763 = .ok (.iload 4, 2) := by decide +kernel
theorem d_law_765 : decode code 765 = .ok (.iconst 2, 1) := by decide +kernel
theorem d_law_766 : decode code 766 = .ok (.iadd, 1) := by decide +kernel
theorem d_law_767 : decode code 767 = .ok (.iaload, 1) := by decide +kernel
theorem d_law_768 : decode code 768 = .ok (.aload_n 0, 1) := by decide +kernel
theorem d_law_769 : decode code 769 = .ok (.iload 4, 2) := by decide +kernel
theorem d_law_771 : decode code 771 = .ok (.iconst 3, 1) := by decide +kernel
theorem d_law_772 : decode code 772 = .ok (.iadd, 1) := by decide +kernel
theorem d_law_773 : decode code 773 = .ok (.iaload, 1) := by decide +kernel
theorem d_law_774 : decode code 774 = .ok (.aload_n 0, 1) := by decide +kernel
theorem d_law_775 : decode code 775 = .ok (.iload 4, 2) := by decide +kernel
theorem d_law_777 : decode code 777 = .ok (.iconst 4, 1) := by decide +kernel
theorem d_law_778 : decode code 778 = .ok (.iadd, 1) := by decide +kernel
theorem d_law_779 : decode code 779 = .ok (.iaload, 1) := by decide +kernel
theorem d_law_780 : decode code 780 = .ok (.aload_n 0, 1) := by decide +kernel
theorem d_law_781 : decode code 781 = .ok (.iload 4, 2) := by decide +kernel
theorem d_law_783 : decode code 783 = .ok (.iconst 5, 1) := by decide +kernel
theorem d_law_784 : decode code 784 = .ok (.iadd, 1) := by decide +kernel
theorem d_law_785 : decode code 785 = .ok (.iaload, 1) := by decide +kernel
theorem d_law_786 : decode code 786 = .ok (.aload_n 3, 1) := by decide +kernel
theorem d_law_787 : decode code 787 = .ok (.invokestatic 125, 3) := by decide +kernel
theorem d_law_790 : decode code 790 = .ok (.istore 5, 2) := by decide +kernel
theorem d_law_792 : decode code 792 = .ok (.aload_n 2, 1) := by decide +kernel
theorem d_law_793 : decode code 793 = .ok (.aload_n 0, 1) := by decide +kernel
theorem d_law_794 : decode code 794 = .ok (.iload 4, 2) := by decide +kernel
theorem d_law_796 : decode code 796 = .ok (.iconst 1, 1) := by decide +kernel
theorem d_law_797 : decode code 797 = .ok (.iadd, 1) := by decide +kernel
theorem d_law_798 : decode code 798 = .ok (.iaload, 1) := by decide +kernel
theorem d_law_799 : decode code 799 = .ok (.aload_n 0, 1) := by decide +kernel
theorem d_law_800 : decode code 800 = .ok (.iload 4, 2) := by decide +kernel
theorem d_law_802 : decode code 802 = .ok (.iconst 2, 1) := by decide +kernel
theorem d_law_803 : decode code 803 = .ok (.iadd, 1) := by decide +kernel
theorem d_law_804 : decode code 804 = .ok (.iaload, 1) := by decide +kernel
theorem d_law_805 : decode code 805 = .ok (.aload_n 0, 1) := by decide +kernel
theorem d_law_806 : decode code 806 = .ok (.iload 4, 2) := by decide +kernel
theorem d_law_808 : decode code 808 = .ok (.iconst 3, 1) := by decide +kernel
theorem d_law_809 : decode code 809 = .ok (.iadd, 1) := by decide +kernel
theorem d_law_810 : decode code 810 = .ok (.iaload, 1) := by decide +kernel
theorem d_law_811 : decode code 811 = .ok (.aload_n 0, 1) := by decide +kernel
theorem d_law_812 : decode code 812 = .ok (.iload 4, 2) := by decide +kernel
theorem d_law_814 : decode code 814 = .ok (.iconst 4, 1) := by decide +kernel
theorem d_law_815 : decode code 815 = .ok (.iadd, 1) := by decide +kernel
theorem d_law_816 : decode code 816 = .ok (.iaload, 1) := by decide +kernel
theorem d_law_817 : decode code 817 = .ok (.aload_n 0, 1) := by decide +kernel
theorem d_law_818 : decode code 818 = .ok (.iload 4, 2) := by decide +kernel
theorem d_law_820 : decode code 820 = .ok (.iconst 5, 1) := by decide +kernel
theorem d_law_821 : decode code 821 = .ok (.iadd, 1) := by decide +kernel
theorem d_law_822 : decode code 822 = .ok (.iaload, 1) := by decide +kernel
theorem d_law_823 : decode code 823 = .ok (.invokevirtual 128, 3) := by decide +kernel
theorem d_law_826 : decode code 826 = .ok (.istore 6, 2) := by decide +kernel
theorem d_law_828 : decode code 828 = .ok (.aload_n 2, 1) := by decide +kernel
theorem d_law_829 : decode code 829 = .ok (.invokevirtual 94, 3) := by decide +kernel
theorem d_law_832 : decode code 832 = .ok (.iload 5, 2) := by decide +kernel
theorem d_law_834 : decode code 834 = .ok (.if_icmp .eq 5, 3) := by decide +kernel
theorem d_law_837 : decode code 837 = .ok (.iconst 0, 1) := by decide +kernel
theorem d_law_838 : decode code 838 = .ok (.ireturn, 1) := by decide +kernel
theorem d_law_839 : decode code 839 = .ok (.iload 5, 2) := by decide +kernel
theorem d_law_841 : decode code 841 = .ok (.ifCond .ne 15, 3) := by decide +kernel
theorem d_law_844 : decode code 844 = .ok (.aload_n 3, 1) := by decide +kernel
theorem d_law_845 : decode code 845 = .ok (.iconst 0, 1) := by decide +kernel
theorem d_law_846 : decode code 846 = .ok (.laload, 1) := by decide +kernel
theorem d_law_847 : decode code 847 = .ok (.iload 6, 2) := by decide +kernel
theorem d_law_849 : decode code 849 = .ok (.i2l, 1) := by decide +kernel
theorem d_law_850 : decode code 850 = .ok (.lcmp, 1) := by decide +kernel
theorem d_law_851 : decode code 851 = .ok (.ifCond .eq 5, 3) := by decide +kernel
theorem d_law_854 : decode code 854 = .ok (.iconst 0, 1) := by decide +kernel
theorem d_law_855 : decode code 855 = .ok (.ireturn, 1) := by decide +kernel
theorem d_law_856 : decode code 856 = .ok (.goto 693, 3) := by decide +kernel
theorem d_law_859 : decode code 859 = .ok (.aload_n 1, 1) := by decide +kernel
theorem d_law_860 : decode code 860 = .ok (.invokevirtual 129, 3) := by decide +kernel
theorem d_law_863 : decode code 863 = .ok (.aload_n 2, 1) := by decide +kernel
theorem d_law_864 : decode code 864 = .ok (.invokevirtual 132, 3) := by decide +kernel
theorem d_law_867 : decode code 867 = .ok (.if_icmp .eq 682, 3) := by decide +kernel
theorem d_law_870 : decode code 870 = .ok (.iconst 0, 1) := by decide +kernel
theorem d_law_871 : decode code 871 = .ok (.ireturn, 1) := by decide +kernel
theorem d_law_872 : decode code 872 = .ok (.aload_n 1, 1) := by decide +kernel
theorem d_law_873 : decode code 873 = .ok (.aload_n 0, 1) := by decide +kernel
theorem d_law_874 : decode code 874 = .ok (.iload 4, 2) := by decide +kernel
theorem d_law_876 : decode code 876 = .ok (.iconst 1, 1) := by decide +kernel
theorem d_law_877 : decode code 877 = .ok (.iadd, 1) := by decide +kernel
theorem d_law_878 : decode code 878 = .ok (.iaload, 1) := by decide +kernel
theorem d_law_879 : decode code 879 = .ok (.aload_n 3, 1) := by decide +kernel
theorem d_law_880 : decode code 880 = .ok (.invokestatic 133, 3) := by decide +kernel
theorem d_law_883 : decode code 883 = .ok (.istore 5, 2) := by decide +kernel
theorem d_law_885 : decode code 885 = .ok (.aload_n 2, 1) := by decide +kernel
theorem d_law_886 : decode code 886 = .ok (.aload_n 0, 1) := by decide +kernel
theorem d_law_887 : decode code 887 = .ok (.iload 4, 2) := by decide +kernel
theorem d_law_889 : decode code 889 = .ok (.iconst 1, 1) := by decide +kernel
theorem d_law_890 : decode code 890 = .ok (.iadd, 1) := by decide +kernel
theorem d_law_891 : decode code 891 = .ok (.iaload, 1) := by decide +kernel
theorem d_law_892 : decode code 892 = .ok (.invokevirtual 135, 3) := by decide +kernel
theorem d_law_895 : decode code 895 = .ok (.istore 6, 2) := by decide +kernel
theorem d_law_897 : decode code 897 = .ok (.aload_n 2, 1) := by decide +kernel
theorem d_law_898 : decode code 898 = .ok (.invokevirtual 94, 3) := by decide +kernel
theorem d_law_901 : decode code 901 = .ok (.iload 5, 2) := by decide +kernel
theorem d_law_903 : decode code 903 = .ok (.if_icmp .eq 5, 3) := by decide +kernel
theorem d_law_906 : decode code 906 = .ok (.iconst 0, 1) := by decide +kernel
theorem d_law_907 : decode code 907 = .ok (.ireturn, 1) := by decide +kernel
theorem d_law_908 : decode code 908 = .ok (.iload 5, 2) := by decide +kernel
theorem d_law_910 : decode code 910 = .ok (.ifCond .ne 15, 3) := by decide +kernel
theorem d_law_913 : decode code 913 = .ok (.aload_n 3, 1) := by decide +kernel
theorem d_law_914 : decode code 914 = .ok (.iconst 0, 1) := by decide +kernel
theorem d_law_915 : decode code 915 = .ok (.laload, 1) := by decide +kernel
theorem d_law_916 : decode code 916 = .ok (.iload 6, 2) := by decide +kernel
theorem d_law_918 : decode code 918 = .ok (.i2l, 1) := by decide +kernel
theorem d_law_919 : decode code 919 = .ok (.lcmp, 1) := by decide +kernel
theorem d_law_920 : decode code 920 = .ok (.ifCond .eq 5, 3) := by decide +kernel
theorem d_law_923 : decode code 923 = .ok (.iconst 0, 1) := by decide +kernel
theorem d_law_924 : decode code 924 = .ok (.ireturn, 1) := by decide +kernel
theorem d_law_925 : decode code 925 = .ok (.goto 624, 3) := by decide +kernel
theorem d_law_928 : decode code 928 = .ok (.aload_n 1, 1) := by decide +kernel
theorem d_law_929 : decode code 929 = .ok (.aload_n 0, 1) := by decide +kernel
theorem d_law_930 : decode code 930 = .ok (.iload 4, 2) := by decide +kernel
theorem d_law_932 : decode code 932 = .ok (.iconst 1, 1) := by decide +kernel
theorem d_law_933 : decode code 933 = .ok (.iadd, 1) := by decide +kernel
theorem d_law_934 : decode code 934 = .ok (.iaload, 1) := by decide +kernel
theorem d_law_935 : decode code 935 = .ok (.aload_n 3, 1) := by decide +kernel
theorem d_law_936 : decode code 936 = .ok (.invokestatic 136, 3) := by decide +kernel
theorem d_law_939 : decode code 939 = .ok (.istore 5, 2) := by decide +kernel
theorem d_law_941 : decode code 941 = .ok (.aload_n 2, 1) := by decide +kernel
theorem d_law_942 : decode code 942 = .ok (.aload_n 0, 1) := by decide +kernel
theorem d_law_943 : decode code 943 = .ok (.iload 4, 2) := by decide +kernel
theorem d_law_945 : decode code 945 = .ok (.iconst 1, 1) := by decide +kernel
theorem d_law_946 : decode code 946 = .ok (.iadd, 1) := by decide +kernel
theorem d_law_947 : decode code 947 = .ok (.iaload, 1) := by decide +kernel
theorem d_law_948 : decode code 948 = .ok (.invokevirtual 138, 3) := by decide +kernel
theorem d_law_951 : decode code 951 = .ok (.istore 6, 2) := by decide +kernel
theorem d_law_953 : decode code 953 = .ok (.aload_n 2, 1) := by decide +kernel
theorem d_law_954 : decode code 954 = .ok (.invokevirtual 94, 3) := by decide +kernel
theorem d_law_957 : decode code 957 = .ok (.iload 5, 2) := by decide +kernel
theorem d_law_959 : decode code 959 = .ok (.if_icmp .eq 5, 3) := by decide +kernel
theorem d_law_962 : decode code 962 = .ok (.iconst 0, 1) := by decide +kernel
theorem d_law_963 : decode code 963 = .ok (.ireturn, 1) := by decide +kernel
theorem d_law_964 : decode code 964 = .ok (.iload 5, 2) := by decide +kernel
theorem d_law_966 : decode code 966 = .ok (.ifCond .ne 15, 3) := by decide +kernel
theorem d_law_969 : decode code 969 = .ok (.aload_n 3, 1) := by decide +kernel
theorem d_law_970 : decode code 970 = .ok (.iconst 0, 1) := by decide +kernel
theorem d_law_971 : decode code 971 = .ok (.laload, 1) := by decide +kernel
theorem d_law_972 : decode code 972 = .ok (.iload 6, 2) := by decide +kernel
theorem d_law_974 : decode code 974 = .ok (.i2l, 1) := by decide +kernel
theorem d_law_975 : decode code 975 = .ok (.lcmp, 1) := by decide +kernel
theorem d_law_976 : decode code 976 = .ok (.ifCond .eq 5, 3) := by decide +kernel
theorem d_law_979 : decode code 979 = .ok (.iconst 0, 1) := by decide +kernel
theorem d_law_980 : decode code 980 = .ok (.ireturn, 1) := by decide +kernel
theorem d_law_981 : decode code 981 = .ok (.goto 568, 3) := by decide +kernel
theorem d_law_984 : decode code 984 = .ok (.aload_n 1, 1) := by decide +kernel
theorem d_law_985 : decode code 985 = .ok (.aload_n 0, 1) := by decide +kernel
theorem d_law_986 : decode code 986 = .ok (.iload 4, 2) := by decide +kernel
theorem d_law_988 : decode code 988 = .ok (.iconst 1, 1) := by decide +kernel
theorem d_law_989 : decode code 989 = .ok (.iadd, 1) := by decide +kernel
theorem d_law_990 : decode code 990 = .ok (.iaload, 1) := by decide +kernel
theorem d_law_991 : decode code 991 = .ok (.aload_n 3, 1) := by decide +kernel
theorem d_law_992 : decode code 992 = .ok (.invokestatic 139, 3) := by decide +kernel
theorem d_law_995 : decode code 995 = .ok (.istore 5, 2) := by decide +kernel
theorem d_law_997 : decode code 997 = .ok (.aload_n 2, 1) := by decide +kernel
theorem d_law_998 : decode code 998 = .ok (.aload_n 0, 1) := by decide +kernel
theorem d_law_999 : decode code 999 = .ok (.iload 4, 2) := by decide +kernel
theorem d_law_1001 : decode code 1001 = .ok (.iconst 1, 1) := by decide +kernel
theorem d_law_1002 : decode code 1002 = .ok (.iadd, 1) := by decide +kernel
theorem d_law_1003 : decode code 1003 = .ok (.iaload, 1) := by decide +kernel
theorem d_law_1004 : decode code 1004 = .ok (.invokevirtual 141, 3) := by decide +kernel
theorem d_law_1007 : decode code 1007 = .ok (.istore 6, 2) := by decide +kernel
theorem d_law_1009 : decode code 1009 = .ok (.aload_n 2, 1) := by decide +kernel
theorem d_law_1010 : decode code 1010 = .ok (.invokevirtual 94, 3) := by decide +kernel
theorem d_law_1013 : decode code 1013 = .ok (.iload 5, 2) := by decide +kernel
theorem d_law_1015 : decode code 1015 = .ok (.if_icmp .eq 5, 3) := by decide +kernel
theorem d_law_1018 : decode code 1018 = .ok (.iconst 0, 1) := by decide +kernel
theorem d_law_1019 : decode code 1019 = .ok (.ireturn, 1) := by decide +kernel
theorem d_law_1020 : decode code 1020 = .ok (.iload 5, 2) := by decide +kernel
theorem d_law_1022 : decode code 1022 = .ok (.ifCond .ne 15, 3) := by decide +kernel
theorem d_law_1025 : decode code 1025 = .ok (.aload_n 3, 1) := by decide +kernel
theorem d_law_1026 : decode code 1026 = .ok (.iconst 0, 1) := by decide +kernel
theorem d_law_1027 : decode code 1027 = .ok (.laload, 1) := by decide +kernel
theorem d_law_1028 : decode code 1028 = .ok (.iload 6, 2) := by decide +kernel
theorem d_law_1030 : decode code 1030 = .ok (.i2l, 1) := by decide +kernel
theorem d_law_1031 : decode code 1031 = .ok (.lcmp, 1) := by decide +kernel
theorem d_law_1032 : decode code 1032 = .ok (.ifCond .eq 5, 3) := by decide +kernel
theorem d_law_1035 : decode code 1035 = .ok (.iconst 0, 1) := by decide +kernel
theorem d_law_1036 : decode code 1036 = .ok (.ireturn, 1) := by decide +kernel
theorem d_law_1037 : decode code 1037 = .ok (.goto 512, 3) := by decide +kernel
theorem d_law_1040 : decode code 1040 = .ok (.aload_n 1, 1) := by decide +kernel
theorem d_law_1041 : decode code 1041 = .ok (.aload_n 0, 1) := by decide +kernel
theorem d_law_1042 : decode code 1042 = .ok (.iload 4, 2) := by decide +kernel
theorem d_law_1044 : decode code 1044 = .ok (.iconst 1, 1) := by decide +kernel
theorem d_law_1045 : decode code 1045 = .ok (.iadd, 1) := by decide +kernel
theorem d_law_1046 : decode code 1046 = .ok (.iaload, 1) := by decide +kernel
theorem d_law_1047 : decode code 1047 = .ok (.aload_n 0, 1) := by decide +kernel
theorem d_law_1048 : decode code 1048 = .ok (.iload 4, 2) := by decide +kernel
theorem d_law_1050 : decode code 1050 = .ok (.iconst 2, 1) := by decide +kernel
theorem d_law_1051 : decode code 1051 = .ok (.iadd, 1) := by decide +kernel
theorem d_law_1052 : decode code 1052 = .ok (.iaload, 1) := by decide +kernel
theorem d_law_1053 : decode code 1053 = .ok (.aload_n 3, 1) := by decide +kernel
theorem d_law_1054 : decode code 1054 = .ok (.invokestatic 142, 3) := by decide +kernel
theorem d_law_1057 : decode code 1057 = .ok (.istore 5, 2) := by decide +kernel
theorem d_law_1059 : decode code 1059 = .ok (.aload_n 2, 1) := by decide +kernel
theorem d_law_1060 : decode code 1060 = .ok (.aload_n 0, 1) := by decide +kernel
theorem d_law_1061 : decode code 1061 = .ok (.iload 4, 2) := by decide +kernel
theorem d_law_1063 : decode code 1063 = .ok (.iconst 1, 1) := by decide +kernel
theorem d_law_1064 : decode code 1064 = .ok (.iadd, 1) := by decide +kernel
theorem d_law_1065 : decode code 1065 = .ok (.iaload, 1) := by decide +kernel
theorem d_law_1066 : decode code 1066 = .ok (.aload_n 0, 1) := by decide +kernel
theorem d_law_1067 : decode code 1067 = .ok (.iload 4, 2) := by decide +kernel
theorem d_law_1069 : decode code 1069 = .ok (.iconst 2, 1) := by decide +kernel
theorem d_law_1070 : decode code 1070 = .ok (.iadd, 1) := by decide +kernel
theorem d_law_1071 : decode code 1071 = .ok (.iaload, 1) := by decide +kernel
theorem d_law_1072 : decode code 1072 = .ok (.invokevirtual 144, 3) := by decide +kernel
theorem d_law_1075 : decode code 1075 = .ok (.istore 6, 2) := by decide +kernel
theorem d_law_1077 : decode code 1077 = .ok (.aload_n 2, 1) := by decide +kernel
theorem d_law_1078 : decode code 1078 = .ok (.invokevirtual 94, 3) := by decide +kernel
theorem d_law_1081 : decode code 1081 = .ok (.iload 5, 2) := by decide +kernel
theorem d_law_1083 : decode code 1083 = .ok (.if_icmp .eq 5, 3) := by decide +kernel
theorem d_law_1086 : decode code 1086 = .ok (.iconst 0, 1) := by decide +kernel
theorem d_law_1087 : decode code 1087 = .ok (.ireturn, 1) := by decide +kernel
theorem d_law_1088 : decode code 1088 = .ok (.iload 5, 2) := by decide +kernel
theorem d_law_1090 : decode code 1090 = .ok (.ifCond .ne 15, 3) := by decide +kernel
theorem d_law_1093 : decode code 1093 = .ok (.aload_n 3, 1) := by decide +kernel
theorem d_law_1094 : decode code 1094 = .ok (.iconst 0, 1) := by decide +kernel
theorem d_law_1095 : decode code 1095 = .ok (.laload, 1) := by decide +kernel
theorem d_law_1096 : decode code 1096 = .ok (.iload 6, 2) := by decide +kernel
theorem d_law_1098 : decode code 1098 = .ok (.i2l, 1) := by decide +kernel
theorem d_law_1099 : decode code 1099 = .ok (.lcmp, 1) := by decide +kernel
theorem d_law_1100 : decode code 1100 = .ok (.ifCond .eq 5, 3) := by decide +kernel
theorem d_law_1103 : decode code 1103 = .ok (.iconst 0, 1) := by decide +kernel
theorem d_law_1104 : decode code 1104 = .ok (.ireturn, 1) := by decide +kernel
theorem d_law_1105 : decode code 1105 = .ok (.goto 444, 3) := by decide +kernel
theorem d_law_1108 : decode code 1108 = .ok (.aload_n 1, 1) := by decide +kernel
theorem d_law_1109 : decode code 1109 = .ok (.aload_n 0, 1) := by decide +kernel
theorem d_law_1110 : decode code 1110 = .ok (.iload 4, 2) := by decide +kernel
theorem d_law_1112 : decode code 1112 = .ok (.iconst 1, 1) := by decide +kernel
theorem d_law_1113 : decode code 1113 = .ok (.iadd, 1) := by decide +kernel
theorem d_law_1114 : decode code 1114 = .ok (.iaload, 1) := by decide +kernel
theorem d_law_1115 : decode code 1115 = .ok (.aload_n 0, 1) := by decide +kernel
theorem d_law_1116 : decode code 1116 = .ok (.iload 4, 2) := by decide +kernel
theorem d_law_1118 : decode code 1118 = .ok (.iconst 2, 1) := by decide +kernel
theorem d_law_1119 : decode code 1119 = .ok (.iadd, 1) := by decide +kernel
theorem d_law_1120 : decode code 1120 = .ok (.iaload, 1) := by decide +kernel
theorem d_law_1121 : decode code 1121 = .ok (.aload_n 3, 1) := by decide +kernel
theorem d_law_1122 : decode code 1122 = .ok (.invokestatic 145, 3) := by decide +kernel
theorem d_law_1125 : decode code 1125 = .ok (.istore 5, 2) := by decide +kernel
theorem d_law_1127 : decode code 1127 = .ok (.aload_n 2, 1) := by decide +kernel
theorem d_law_1128 : decode code 1128 = .ok (.aload_n 0, 1) := by decide +kernel
theorem d_law_1129 : decode code 1129 = .ok (.iload 4, 2) := by decide +kernel
theorem d_law_1131 : decode code 1131 = .ok (.iconst 1, 1) := by decide +kernel
theorem d_law_1132 : decode code 1132 = .ok (.iadd, 1) := by decide +kernel
theorem d_law_1133 : decode code 1133 = .ok (.iaload, 1) := by decide +kernel
theorem d_law_1134 : decode code 1134 = .ok (.aload_n 0, 1) := by decide +kernel
theorem d_law_1135 : decode code 1135 = .ok (.iload 4, 2) := by decide +kernel
theorem d_law_1137 : decode code 1137 = .ok (.iconst 2, 1) := by decide +kernel
theorem d_law_1138 : decode code 1138 = .ok (.iadd, 1) := by decide +kernel
theorem d_law_1139 : decode code 1139 = .ok (.iaload, 1) := by decide +kernel
theorem d_law_1140 : decode code 1140 = .ok (.invokevirtual 147, 3) := by decide +kernel
theorem d_law_1143 : decode code 1143 = .ok (.istore 6, 2) := by decide +kernel
theorem d_law_1145 : decode code 1145 = .ok (.aload_n 2, 1) := by decide +kernel
theorem d_law_1146 : decode code 1146 = .ok (.invokevirtual 94, 3) := by decide +kernel
theorem d_law_1149 : decode code 1149 = .ok (.iload 5, 2) := by decide +kernel
theorem d_law_1151 : decode code 1151 = .ok (.if_icmp .eq 5, 3) := by decide +kernel
theorem d_law_1154 : decode code 1154 = .ok (.iconst 0, 1) := by decide +kernel
theorem d_law_1155 : decode code 1155 = .ok (.ireturn, 1) := by decide +kernel
theorem d_law_1156 : decode code 1156 = .ok (.iload 5, 2) := by decide +kernel
theorem d_law_1158 : decode code 1158 = .ok (.ifCond .ne 15, 3) := by decide +kernel
theorem d_law_1161 : decode code 1161 = .ok (.aload_n 3, 1) := by decide +kernel
theorem d_law_1162 : decode code 1162 = .ok (.iconst 0, 1) := by decide +kernel
theorem d_law_1163 : decode code 1163 = .ok (.laload, 1) := by decide +kernel
theorem d_law_1164 : decode code 1164 = .ok (.iload 6, 2) := by decide +kernel
theorem d_law_1166 : decode code 1166 = .ok (.i2l, 1) := by decide +kernel
theorem d_law_1167 : decode code 1167 = .ok (.lcmp, 1) := by decide +kernel
theorem d_law_1168 : decode code 1168 = .ok (.ifCond .eq 5, 3) := by decide +kernel
theorem d_law_1171 : decode code 1171 = .ok (.iconst 0, 1) := by decide +kernel
theorem d_law_1172 : decode code 1172 = .ok (.ireturn, 1) := by decide +kernel
theorem d_law_1173 : decode code 1173 = .ok (.goto 376, 3) := by decide +kernel
theorem d_law_1176 : decode code 1176 = .ok (.aload_n 1, 1) := by decide +kernel
theorem d_law_1177 : decode code 1177 = .ok (.aload_n 0, 1) := by decide +kernel
theorem d_law_1178 : decode code 1178 = .ok (.iload 4, 2) := by decide +kernel
theorem d_law_1180 : decode code 1180 = .ok (.iconst 1, 1) := by decide +kernel
theorem d_law_1181 : decode code 1181 = .ok (.iadd, 1) := by decide +kernel
theorem d_law_1182 : decode code 1182 = .ok (.iaload, 1) := by decide +kernel
theorem d_law_1183 : decode code 1183 = .ok (.aload_n 0, 1) := by decide +kernel
theorem d_law_1184 : decode code 1184 = .ok (.iload 4, 2) := by decide +kernel
theorem d_law_1186 : decode code 1186 = .ok (.iconst 2, 1) := by decide +kernel
theorem d_law_1187 : decode code 1187 = .ok (.iadd, 1) := by decide +kernel
theorem d_law_1188 : decode code 1188 = .ok (.iaload, 1) := by decide +kernel
theorem d_law_1189 : decode code 1189 = .ok (.aload_n 3, 1) := by decide +kernel
theorem d_law_1190 : decode code 1190 = .ok (.invokestatic 148, 3) := by decide +kernel
theorem d_law_1193 : decode code 1193 = .ok (.istore 5, 2) := by decide +kernel
theorem d_law_1195 : decode code 1195 = .ok (.aload_n 2, 1) := by decide +kernel
theorem d_law_1196 : decode code 1196 = .ok (.aload_n 0, 1) := by decide +kernel
theorem d_law_1197 : decode code 1197 = .ok (.iload 4, 2) := by decide +kernel
theorem d_law_1199 : decode code 1199 = .ok (.iconst 1, 1) := by decide +kernel
theorem d_law_1200 : decode code 1200 = .ok (.iadd, 1) := by decide +kernel
theorem d_law_1201 : decode code 1201 = .ok (.iaload, 1) := by decide +kernel
theorem d_law_1202 : decode code 1202 = .ok (.aload_n 0, 1) := by decide +kernel
theorem d_law_1203 : decode code 1203 = .ok (.iload 4, 2) := by decide +kernel
theorem d_law_1205 : decode code 1205 = .ok (.iconst 2, 1) := by decide +kernel
theorem d_law_1206 : decode code 1206 = .ok (.iadd, 1) := by decide +kernel
theorem d_law_1207 : decode code 1207 = .ok (.iaload, 1) := by decide +kernel
theorem d_law_1208 : decode code 1208 = .ok (.invokevirtual 150, 3) := by decide +kernel
theorem d_law_1211 : decode code 1211 = .ok (.istore 6, 2) := by decide +kernel
theorem d_law_1213 : decode code 1213 = .ok (.aload_n 2, 1) := by decide +kernel
theorem d_law_1214 : decode code 1214 = .ok (.invokevirtual 94, 3) := by decide +kernel
theorem d_law_1217 : decode code 1217 = .ok (.iload 5, 2) := by decide +kernel
theorem d_law_1219 : decode code 1219 = .ok (.if_icmp .eq 5, 3) := by decide +kernel
theorem d_law_1222 : decode code 1222 = .ok (.iconst 0, 1) := by decide +kernel
theorem d_law_1223 : decode code 1223 = .ok (.ireturn, 1) := by decide +kernel
theorem d_law_1224 : decode code 1224 = .ok (.iload 5, 2) := by decide +kernel
theorem d_law_1226 : decode code 1226 = .ok (.ifCond .ne 15, 3) := by decide +kernel
theorem d_law_1229 : decode code 1229 = .ok (.aload_n 3, 1) := by decide +kernel
theorem d_law_1230 : decode code 1230 = .ok (.iconst 0, 1) := by decide +kernel
theorem d_law_1231 : decode code 1231 = .ok (.laload, 1) := by decide +kernel
theorem d_law_1232 : decode code 1232 = .ok (.iload 6, 2) := by decide +kernel
theorem d_law_1234 : decode code 1234 = .ok (.i2l, 1) := by decide +kernel
theorem d_law_1235 : decode code 1235 = .ok (.lcmp, 1) := by decide +kernel
theorem d_law_1236 : decode code 1236 = .ok (.ifCond .eq 5, 3) := by decide +kernel
theorem d_law_1239 : decode code 1239 = .ok (.iconst 0, 1) := by decide +kernel
theorem d_law_1240 : decode code 1240 = .ok (.ireturn, 1) := by decide +kernel
theorem d_law_1241 : decode code 1241 = .ok (.goto 308, 3) := by decide +kernel
theorem d_law_1244 : decode code 1244 = .ok (.aload_n 1, 1) := by decide +kernel
theorem d_law_1245 : decode code 1245 = .ok (.aload_n 0, 1) := by decide +kernel
theorem d_law_1246 : decode code 1246 = .ok (.iload 4, 2) := by decide +kernel
theorem d_law_1248 : decode code 1248 = .ok (.iconst 1, 1) := by decide +kernel
theorem d_law_1249 : decode code 1249 = .ok (.iadd, 1) := by decide +kernel
theorem d_law_1250 : decode code 1250 = .ok (.iaload, 1) := by decide +kernel
theorem d_law_1251 : decode code 1251 = .ok (.aload_n 3, 1) := by decide +kernel
theorem d_law_1252 : decode code 1252 = .ok (.invokestatic 151, 3) := by decide +kernel
theorem d_law_1255 : decode code 1255 = .ok (.istore 5, 2) := by decide +kernel
theorem d_law_1257 : decode code 1257 = .ok (.aload_n 2, 1) := by decide +kernel
theorem d_law_1258 : decode code 1258 = .ok (.aload_n 0, 1) := by decide +kernel
theorem d_law_1259 : decode code 1259 = .ok (.iload 4, 2) := by decide +kernel
theorem d_law_1261 : decode code 1261 = .ok (.iconst 1, 1) := by decide +kernel
theorem d_law_1262 : decode code 1262 = .ok (.iadd, 1) := by decide +kernel
theorem d_law_1263 : decode code 1263 = .ok (.iaload, 1) := by decide +kernel
theorem d_law_1264 : decode code 1264 = .ok (.invokevirtual 153, 3) := by decide +kernel
theorem d_law_1267 : decode code 1267 = .ok (.istore 6, 2) := by decide +kernel
theorem d_law_1269 : decode code 1269 = .ok (.aload_n 2, 1) := by decide +kernel
theorem d_law_1270 : decode code 1270 = .ok (.invokevirtual 94, 3) := by decide +kernel
theorem d_law_1273 : decode code 1273 = .ok (.iload 5, 2) := by decide +kernel
theorem d_law_1275 : decode code 1275 = .ok (.if_icmp .eq 5, 3) := by decide +kernel
theorem d_law_1278 : decode code 1278 = .ok (.iconst 0, 1) := by decide +kernel
theorem d_law_1279 : decode code 1279 = .ok (.ireturn, 1) := by decide +kernel
theorem d_law_1280 : decode code 1280 = .ok (.iload 5, 2) := by decide +kernel
theorem d_law_1282 : decode code 1282 = .ok (.ifCond .ne 15, 3) := by decide +kernel
theorem d_law_1285 : decode code 1285 = .ok (.aload_n 3, 1) := by decide +kernel
theorem d_law_1286 : decode code 1286 = .ok (.iconst 0, 1) := by decide +kernel
theorem d_law_1287 : decode code 1287 = .ok (.laload, 1) := by decide +kernel
theorem d_law_1288 : decode code 1288 = .ok (.iload 6, 2) := by decide +kernel
theorem d_law_1290 : decode code 1290 = .ok (.i2l, 1) := by decide +kernel
theorem d_law_1291 : decode code 1291 = .ok (.lcmp, 1) := by decide +kernel
theorem d_law_1292 : decode code 1292 = .ok (.ifCond .eq 5, 3) := by decide +kernel
theorem d_law_1295 : decode code 1295 = .ok (.iconst 0, 1) := by decide +kernel
theorem d_law_1296 : decode code 1296 = .ok (.ireturn, 1) := by decide +kernel
theorem d_law_1297 : decode code 1297 = .ok (.goto 252, 3) := by decide +kernel
theorem d_law_1300 : decode code 1300 = .ok (.aload_n 1, 1) := by decide +kernel
theorem d_law_1301 : decode code 1301 = .ok (.aload_n 0, 1) := by decide +kernel
theorem d_law_1302 : decode code 1302 = .ok (.iload 4, 2) := by decide +kernel
theorem d_law_1304 : decode code 1304 = .ok (.iconst 1, 1) := by decide +kernel
theorem d_law_1305 : decode code 1305 = .ok (.iadd, 1) := by decide +kernel
theorem d_law_1306 : decode code 1306 = .ok (.iaload, 1) := by decide +kernel
theorem d_law_1307 : decode code 1307 = .ok (.aload_n 3, 1) := by decide +kernel
theorem d_law_1308 : decode code 1308 = .ok (.invokestatic 154, 3) := by decide +kernel
theorem d_law_1311 : decode code 1311 = .ok (.istore 5, 2) := by decide +kernel
theorem d_law_1313 : decode code 1313 = .ok (.aload_n 2, 1) := by decide +kernel
theorem d_law_1314 : decode code 1314 = .ok (.aload_n 0, 1) := by decide +kernel
theorem d_law_1315 : decode code 1315 = .ok (.iload 4, 2) := by decide +kernel
theorem d_law_1317 : decode code 1317 = .ok (.iconst 1, 1) := by decide +kernel
theorem d_law_1318 : decode code 1318 = .ok (.iadd, 1) := by decide +kernel
theorem d_law_1319 : decode code 1319 = .ok (.iaload, 1) := by decide +kernel
theorem d_law_1320 : decode code 1320 = .ok (.invokevirtual 156, 3) := by decide +kernel
theorem d_law_1323 : decode code 1323 = .ok (.istore 6, 2) := by decide +kernel
theorem d_law_1325 : decode code 1325 = .ok (.aload_n 2, 1) := by decide +kernel
theorem d_law_1326 : decode code 1326 = .ok (.invokevirtual 94, 3) := by decide +kernel
theorem d_law_1329 : decode code 1329 = .ok (.iload 5, 2) := by decide +kernel
theorem d_law_1331 : decode code 1331 = .ok (.if_icmp .eq 5, 3) := by decide +kernel
theorem d_law_1334 : decode code 1334 = .ok (.iconst 0, 1) := by decide +kernel
theorem d_law_1335 : decode code 1335 = .ok (.ireturn, 1) := by decide +kernel
theorem d_law_1336 : decode code 1336 = .ok (.iload 5, 2) := by decide +kernel
theorem d_law_1338 : decode code 1338 = .ok (.ifCond .ne 15, 3) := by decide +kernel
theorem d_law_1341 : decode code 1341 = .ok (.aload_n 3, 1) := by decide +kernel
theorem d_law_1342 : decode code 1342 = .ok (.iconst 0, 1) := by decide +kernel
theorem d_law_1343 : decode code 1343 = .ok (.laload, 1) := by decide +kernel
theorem d_law_1344 : decode code 1344 = .ok (.iload 6, 2) := by decide +kernel
theorem d_law_1346 : decode code 1346 = .ok (.i2l, 1) := by decide +kernel
theorem d_law_1347 : decode code 1347 = .ok (.lcmp, 1) := by decide +kernel
theorem d_law_1348 : decode code 1348 = .ok (.ifCond .eq 5, 3) := by decide +kernel
theorem d_law_1351 : decode code 1351 = .ok (.iconst 0, 1) := by decide +kernel
theorem d_law_1352 : decode code 1352 = .ok (.ireturn, 1) := by decide +kernel
theorem d_law_1353 : decode code 1353 = .ok (.goto 196, 3) := by decide +kernel
theorem d_law_1356 : decode code 1356 = .ok (.aload_n 1, 1) := by decide +kernel
theorem d_law_1357 : decode code 1357 = .ok (.aload_n 0, 1) := by decide +kernel
theorem d_law_1358 : decode code 1358 = .ok (.iload 4, 2) := by decide +kernel
theorem d_law_1360 : decode code 1360 = .ok (.iconst 1, 1) := by decide +kernel
theorem d_law_1361 : decode code 1361 = .ok (.iadd, 1) := by decide +kernel
theorem d_law_1362 : decode code 1362 = .ok (.iaload, 1) := by decide +kernel
theorem d_law_1363 : decode code 1363 = .ok (.aload_n 3, 1) := by decide +kernel
theorem d_law_1364 : decode code 1364 = .ok (.invokestatic 157, 3) := by decide +kernel
theorem d_law_1367 : decode code 1367 = .ok (.istore 5, 2) := by decide +kernel
theorem d_law_1369 : decode code 1369 = .ok (.aload_n 2, 1) := by decide +kernel
theorem d_law_1370 : decode code 1370 = .ok (.aload_n 0, 1) := by decide +kernel
theorem d_law_1371 : decode code 1371 = .ok (.iload 4, 2) := by decide +kernel
theorem d_law_1373 : decode code 1373 = .ok (.iconst 1, 1) := by decide +kernel
theorem d_law_1374 : decode code 1374 = .ok (.iadd, 1) := by decide +kernel
theorem d_law_1375 : decode code 1375 = .ok (.iaload, 1) := by decide +kernel
theorem d_law_1376 : decode code 1376 = .ok (.invokevirtual 159, 3) := by decide +kernel
theorem d_law_1379 : decode code 1379 = .ok (.istore 6, 2) := by decide +kernel
theorem d_law_1381 : decode code 1381 = .ok (.aload_n 2, 1) := by decide +kernel
theorem d_law_1382 : decode code 1382 = .ok (.invokevirtual 94, 3) := by decide +kernel
theorem d_law_1385 : decode code 1385 = .ok (.iload 5, 2) := by decide +kernel
theorem d_law_1387 : decode code 1387 = .ok (.if_icmp .eq 5, 3) := by decide +kernel
theorem d_law_1390 : decode code 1390 = .ok (.iconst 0, 1) := by decide +kernel
theorem d_law_1391 : decode code 1391 = .ok (.ireturn, 1) := by decide +kernel
theorem d_law_1392 : decode code 1392 = .ok (.iload 5, 2) := by decide +kernel
theorem d_law_1394 : decode code 1394 = .ok (.ifCond .ne 15, 3) := by decide +kernel
theorem d_law_1397 : decode code 1397 = .ok (.aload_n 3, 1) := by decide +kernel
theorem d_law_1398 : decode code 1398 = .ok (.iconst 0, 1) := by decide +kernel
theorem d_law_1399 : decode code 1399 = .ok (.laload, 1) := by decide +kernel
theorem d_law_1400 : decode code 1400 = .ok (.iload 6, 2) := by decide +kernel
theorem d_law_1402 : decode code 1402 = .ok (.i2l, 1) := by decide +kernel
theorem d_law_1403 : decode code 1403 = .ok (.lcmp, 1) := by decide +kernel
theorem d_law_1404 : decode code 1404 = .ok (.ifCond .eq 5, 3) := by decide +kernel
theorem d_law_1407 : decode code 1407 = .ok (.iconst 0, 1) := by decide +kernel
theorem d_law_1408 : decode code 1408 = .ok (.ireturn, 1) := by decide +kernel
theorem d_law_1409 : decode code 1409 = .ok (.goto 140, 3) := by decide +kernel
theorem d_law_1412 : decode code 1412 = .ok (.aload_n 1, 1) := by decide +kernel
theorem d_law_1413 : decode code 1413 = .ok (.invokevirtual 160, 3) := by decide +kernel
theorem d_law_1416 : decode code 1416 = .ok (.aload_n 2, 1) := by decide +kernel
theorem d_law_1417 : decode code 1417 = .ok (.invokevirtual 163, 3) := by decide +kernel
theorem d_law_1420 : decode code 1420 = .ok (.if_icmp .eq 129, 3) := by decide +kernel
theorem d_law_1423 : decode code 1423 = .ok (.iconst 0, 1) := by decide +kernel
theorem d_law_1424 : decode code 1424 = .ok (.ireturn, 1) := by decide +kernel
theorem d_law_1425 : decode code 1425 = .ok (.aload_n 1, 1) := by decide +kernel
theorem d_law_1426 : decode code 1426 = .ok (.aload_n 0, 1) := by decide +kernel
theorem d_law_1427 : decode code 1427 = .ok (.iload 4, 2) := by decide +kernel
theorem d_law_1429 : decode code 1429 = .ok (.iconst 1, 1) := by decide +kernel
theorem d_law_1430 : decode code 1430 = .ok (.iadd, 1) := by decide +kernel
theorem d_law_1431 : decode code 1431 = .ok (.iaload, 1) := by decide +kernel
theorem d_law_1432 : decode code 1432 = .ok (.aload_n 3, 1) := by decide +kernel
theorem d_law_1433 : decode code 1433 = .ok (.invokestatic 164, 3) := by decide +kernel
theorem d_law_1436 : decode code 1436 = .ok (.istore 5, 2) := by decide +kernel
theorem d_law_1438 : decode code 1438 = .ok (.aload_n 2, 1) := by decide +kernel
theorem d_law_1439 : decode code 1439 = .ok (.aload_n 0, 1) := by decide +kernel
theorem d_law_1440 : decode code 1440 = .ok (.iload 4, 2) := by decide +kernel
theorem d_law_1442 : decode code 1442 = .ok (.iconst 1, 1) := by decide +kernel
theorem d_law_1443 : decode code 1443 = .ok (.iadd, 1) := by decide +kernel
theorem d_law_1444 : decode code 1444 = .ok (.iaload, 1) := by decide +kernel
theorem d_law_1445 : decode code 1445 = .ok (.invokevirtual 166, 3) := by decide +kernel
theorem d_law_1448 : decode code 1448 = .ok (.istore 6, 2) := by decide +kernel
theorem d_law_1450 : decode code 1450 = .ok (.aload_n 2, 1) := by decide +kernel
theorem d_law_1451 : decode code 1451 = .ok (.invokevirtual 94, 3) := by decide +kernel
theorem d_law_1454 : decode code 1454 = .ok (.iload 5, 2) := by decide +kernel
theorem d_law_1456 : decode code 1456 = .ok (.if_icmp .eq 5, 3) := by decide +kernel
theorem d_law_1459 : decode code 1459 = .ok (.iconst 0, 1) := by decide +kernel
theorem d_law_1460 : decode code 1460 = .ok (.ireturn, 1) := by decide +kernel
theorem d_law_1461 : decode code 1461 = .ok (.iload 5, 2) := by decide +kernel
theorem d_law_1463 : decode code 1463 = .ok (.ifCond .ne 15, 3) := by decide +kernel
theorem d_law_1466 : decode code 1466 = .ok (.aload_n 3, 1) := by decide +kernel
theorem d_law_1467 : decode code 1467 = .ok (.iconst 0, 1) := by decide +kernel
theorem d_law_1468 : decode code 1468 = .ok (.laload, 1) := by decide +kernel
theorem d_law_1469 : decode code 1469 = .ok (.iload 6, 2) := by decide +kernel
theorem d_law_1471 : decode code 1471 = .ok (.i2l, 1) := by decide +kernel
theorem d_law_1472 : decode code 1472 = .ok (.lcmp, 1) := by decide +kernel
theorem d_law_1473 : decode code 1473 = .ok (.ifCond .eq 5, 3) := by decide +kernel
theorem d_law_1476 : decode code 1476 = .ok (.iconst 0, 1) := by decide +kernel
theorem d_law_1477 : decode code 1477 = .ok (.ireturn, 1) := by decide +kernel
theorem d_law_1478 : decode code 1478 = .ok (.goto 71, 3) := by decide +kernel
theorem d_law_1481 : decode code 1481 = .ok (.aload_n 1, 1) := by decide +kernel
theorem d_law_1482 : decode code 1482 = .ok (.aload_n 0, 1) := by decide +kernel
theorem d_law_1483 : decode code 1483 = .ok (.iload 4, 2) := by decide +kernel
theorem d_law_1485 : decode code 1485 = .ok (.iconst 1, 1) := by decide +kernel
theorem d_law_1486 : decode code 1486 = .ok (.iadd, 1) := by decide +kernel
theorem d_law_1487 : decode code 1487 = .ok (.iaload, 1) := by decide +kernel
theorem d_law_1488 : decode code 1488 = .ok (.aload_n 0, 1) := by decide +kernel
theorem d_law_1489 : decode code 1489 = .ok (.iload 4, 2) := by decide +kernel
theorem d_law_1491 : decode code 1491 = .ok (.iconst 2, 1) := by decide +kernel
theorem d_law_1492 : decode code 1492 = .ok (.iadd, 1) := by decide +kernel
theorem d_law_1493 : decode code 1493 = .ok (.iaload, 1) := by decide +kernel
theorem d_law_1494 : decode code 1494 = .ok (.aload_n 3, 1) := by decide +kernel
theorem d_law_1495 : decode code 1495 = .ok (.invokestatic 167, 3) := by decide +kernel
theorem d_law_1498 : decode code 1498 = .ok (.istore 5, 2) := by decide +kernel
theorem d_law_1500 : decode code 1500 = .ok (.aload_n 2, 1) := by decide +kernel
theorem d_law_1501 : decode code 1501 = .ok (.aload_n 0, 1) := by decide +kernel
theorem d_law_1502 : decode code 1502 = .ok (.iload 4, 2) := by decide +kernel
theorem d_law_1504 : decode code 1504 = .ok (.iconst 1, 1) := by decide +kernel
theorem d_law_1505 : decode code 1505 = .ok (.iadd, 1) := by decide +kernel
theorem d_law_1506 : decode code 1506 = .ok (.iaload, 1) := by decide +kernel
theorem d_law_1507 : decode code 1507 = .ok (.aload_n 0, 1) := by decide +kernel
theorem d_law_1508 : decode code 1508 = .ok (.iload 4, 2) := by decide +kernel
theorem d_law_1510 : decode code 1510 = .ok (.iconst 2, 1) := by decide +kernel
theorem d_law_1511 : decode code 1511 = .ok (.iadd, 1) := by decide +kernel
theorem d_law_1512 : decode code 1512 = .ok (.iaload, 1) := by decide +kernel
theorem d_law_1513 : decode code 1513 = .ok (.invokevirtual 169, 3) := by decide +kernel
theorem d_law_1516 : decode code 1516 = .ok (.istore 6, 2) := by decide +kernel
theorem d_law_1518 : decode code 1518 = .ok (.aload_n 2, 1) := by decide +kernel
theorem d_law_1519 : decode code 1519 = .ok (.invokevirtual 94, 3) := by decide +kernel
theorem d_law_1522 : decode code 1522 = .ok (.iload 5, 2) := by decide +kernel
theorem d_law_1524 : decode code 1524 = .ok (.if_icmp .eq 5, 3) := by decide +kernel
theorem d_law_1527 : decode code 1527 = .ok (.iconst 0, 1) := by decide +kernel
theorem d_law_1528 : decode code 1528 = .ok (.ireturn, 1) := by decide +kernel
theorem d_law_1529 : decode code 1529 = .ok (.iload 5, 2) := by decide +kernel
theorem d_law_1531 : decode code 1531 = .ok (.ifCond .ne 15, 3) := by decide +kernel
theorem d_law_1534 : decode code 1534 = .ok (.aload_n 3, 1) := by decide +kernel
theorem d_law_1535 : decode code 1535 = .ok (.iconst 0, 1) := by decide +kernel
theorem d_law_1536 : decode code 1536 = .ok (.laload, 1) := by decide +kernel
theorem d_law_1537 : decode code 1537 = .ok (.iload 6, 2) := by decide +kernel
theorem d_law_1539 : decode code 1539 = .ok (.i2l, 1) := by decide +kernel
theorem d_law_1540 : decode code 1540 = .ok (.lcmp, 1) := by decide +kernel
theorem d_law_1541 : decode code 1541 = .ok (.ifCond .eq 5, 3) := by decide +kernel
theorem d_law_1544 : decode code 1544 = .ok (.iconst 0, 1) := by decide +kernel
theorem d_law_1545 : decode code 1545 = .ok (.ireturn, 1) := by decide +kernel
theorem d_law_1546 : decode code 1546 = .ok (.goto 3, 3) := by decide +kernel
theorem d_law_1549 : decode code 1549 = .ok (.iinc 4 6, 3) := by decide +kernel
theorem d_law_1552 : decode code 1552 = .ok (.goto (-1529), 3) := by decide +kernel
theorem d_law_1555 : decode code 1555 = .ok (.iconst 1, 1) := by decide +kernel
theorem d_law_1556 : decode code 1556 = .ok (.ireturn, 1) := by decide +kernel
