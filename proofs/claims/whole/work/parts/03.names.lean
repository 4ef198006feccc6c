def y_T_init : MethodName := ⟨"TwinRegister", "<init>", "()V"⟩
abbrev b_T_init : ByteArray := prog_1_method_1_code
def y_F_init : MethodName := ⟨"TwinRegister$Draft", "<init>", "()V"⟩
abbrev b_F_init : ByteArray := prog_3_method_1_code
def y_D_init : MethodName := ⟨"TwinRegister$Device", "<init>", "()V"⟩
abbrev b_D_init : ByteArray := prog_2_method_1_code
def y_G_init : MethodName := ⟨"TwinRegister$Group", "<init>", "()V"⟩
abbrev b_G_init : ByteArray := prog_4_method_1_code
def y_J_init : MethodName := ⟨"TwinRegister$Job", "<init>", "()V"⟩
abbrev b_J_init : ByteArray := prog_5_method_1_code
def y_T_wave : MethodName := ⟨"TwinRegister", "wave", "()I"⟩
abbrev b_T_wave : ByteArray := prog_1_method_12_code
def y_T_advance : MethodName := ⟨"TwinRegister", "advance", "(LTwinRegister$Job;)I"⟩
abbrev b_T_advance : ByteArray := prog_1_method_35_code
def y_T_judgeStarted : MethodName := ⟨"TwinRegister", "judgeStarted", "(LTwinRegister$Job;)V"⟩
abbrev b_T_judgeStarted : ByteArray := prog_1_method_36_code
def y_J_open : MethodName := ⟨"TwinRegister$Job", "open", "()I"⟩
abbrev b_J_open : ByteArray := prog_5_method_2_code
def y_I_bitCount : MethodName := ⟨"java/lang/Integer", "bitCount", "(I)I"⟩
abbrev b_I_bitCount : ByteArray := prog_12_method_49_code
def y_T_startMore : MethodName := ⟨"TwinRegister", "startMore", "(LTwinRegister$Job;)I"⟩
abbrev b_T_startMore : ByteArray := prog_1_method_37_code
def y_T_membersOf : MethodName := ⟨"TwinRegister", "membersOf", "(LTwinRegister$Group;)I"⟩
abbrev b_T_membersOf : ByteArray := prog_1_method_34_code
def y_G_admits : MethodName := ⟨"TwinRegister$Group", "admits", "(LTwinRegister$Device;)Z"⟩
abbrev b_G_admits : ByteArray := prog_4_method_2_code
def y_D_takeWish : MethodName := ⟨"TwinRegister$Device", "takeWish", "(II)V"⟩
abbrev b_D_takeWish : ByteArray := prog_2_method_2_code
def y_D_keepDifference : MethodName := ⟨"TwinRegister$Device", "keepDifference", "(I)V"⟩
abbrev b_D_keepDifference : ByteArray := prog_2_method_5_code
def y_D_comparesUnlike : MethodName := ⟨"TwinRegister$Device", "comparesUnlike", "(I)Z"⟩
abbrev b_D_comparesUnlike : ByteArray := prog_2_method_7_code
def y_T_jobs : MethodName := ⟨"TwinRegister", "jobs", "()I"⟩
abbrev b_T_jobs : ByteArray := prog_1_method_22_code
def y_L_put : MethodName := ⟨"TwinRegisterLaw", "put", "(LTwinRegister;II[J)I"⟩
abbrev b_L_put : ByteArray := method_3_code
def y_T_put : MethodName := ⟨"TwinRegister", "put", "(II)I"⟩
abbrev b_T_put : ByteArray := prog_1_method_2_code
def y_T_requireLeaf : MethodName := ⟨"TwinRegister", "requireLeaf", "(I)V"⟩
abbrev b_T_requireLeaf : ByteArray := prog_1_method_29_code
def y_T_requireInRange : MethodName := ⟨"TwinRegister", "requireInRange", "(III)V"⟩
abbrev b_T_requireInRange : ByteArray := prog_1_method_30_code
def y_F_assign : MethodName := ⟨"TwinRegister$Draft", "assign", "(II)V"⟩
abbrev b_F_assign : ByteArray := prog_3_method_2_code
def y_F_count : MethodName := ⟨"TwinRegister$Draft", "count", "()I"⟩
abbrev b_F_count : ByteArray := prog_3_method_4_code
def y_L_drop : MethodName := ⟨"TwinRegisterLaw", "drop", "(LTwinRegister;I[J)I"⟩
abbrev b_L_drop : ByteArray := method_4_code
def y_T_drop : MethodName := ⟨"TwinRegister", "drop", "(I)I"⟩
abbrev b_T_drop : ByteArray := prog_1_method_3_code
def y_L_wish : MethodName := ⟨"TwinRegisterLaw", "wish", "(LTwinRegister;II[J)I"⟩
abbrev b_L_wish : ByteArray := method_5_code
def y_T_wish : MethodName := ⟨"TwinRegister", "wish", "(II)I"⟩
abbrev b_T_wish : ByteArray := prog_1_method_4_code
def y_T_deviceAt : MethodName := ⟨"TwinRegister", "deviceAt", "(I)LTwinRegister$Device;"⟩
abbrev b_T_deviceAt : ByteArray := prog_1_method_25_code
def y_T_mergeWish : MethodName := ⟨"TwinRegister", "mergeWish", "(LTwinRegister$Device;)V"⟩
abbrev b_T_mergeWish : ByteArray := prog_1_method_32_code
def y_F_has : MethodName := ⟨"TwinRegister$Draft", "has", "(I)Z"⟩
abbrev b_F_has : ByteArray := prog_3_method_3_code
def y_F_empty : MethodName := ⟨"TwinRegister$Draft", "empty", "()V"⟩
abbrev b_F_empty : ByteArray := prog_3_method_5_code
def y_L_report : MethodName := ⟨"TwinRegisterLaw", "report", "(LTwinRegister;II[J)I"⟩
abbrev b_L_report : ByteArray := method_6_code
def y_T_report : MethodName := ⟨"TwinRegister", "report", "(II)I"⟩
abbrev b_T_report : ByteArray := prog_1_method_5_code
def y_T_requireAwake : MethodName := ⟨"TwinRegister", "requireAwake", "(LTwinRegister$Device;)V"⟩
abbrev b_T_requireAwake : ByteArray := prog_1_method_31_code
def y_T_mergeReport : MethodName := ⟨"TwinRegister", "mergeReport", "(LTwinRegister$Device;)V"⟩
abbrev b_T_mergeReport : ByteArray := prog_1_method_33_code
def y_D_takeReport : MethodName := ⟨"TwinRegister$Device", "takeReport", "(II)V"⟩
abbrev b_D_takeReport : ByteArray := prog_2_method_3_code
def y_L_obey : MethodName := ⟨"TwinRegisterLaw", "obey", "(LTwinRegister;I[J)I"⟩
abbrev b_L_obey : ByteArray := method_7_code
def y_T_obey : MethodName := ⟨"TwinRegister", "obey", "(I)I"⟩
abbrev b_T_obey : ByteArray := prog_1_method_6_code
def y_D_differsAt : MethodName := ⟨"TwinRegister$Device", "differsAt", "(I)Z"⟩
abbrev b_D_differsAt : ByteArray := prog_2_method_6_code
def y_L_refuse : MethodName := ⟨"TwinRegisterLaw", "refuse", "(LTwinRegister;III[J)I"⟩
abbrev b_L_refuse : ByteArray := method_8_code
def y_T_refuse : MethodName := ⟨"TwinRegister", "refuse", "(III)I"⟩
abbrev b_T_refuse : ByteArray := prog_1_method_7_code
def y_D_takeRefusal : MethodName := ⟨"TwinRegister$Device", "takeRefusal", "(II)V"⟩
abbrev b_D_takeRefusal : ByteArray := prog_2_method_4_code
def y_L_sleep : MethodName := ⟨"TwinRegisterLaw", "sleep", "(LTwinRegister;I[J)I"⟩
abbrev b_L_sleep : ByteArray := method_9_code
def y_T_sleep : MethodName := ⟨"TwinRegister", "sleep", "(I)Z"⟩
abbrev b_T_sleep : ByteArray := prog_1_method_8_code
def y_L_wake : MethodName := ⟨"TwinRegisterLaw", "wake", "(LTwinRegister;I[J)I"⟩
abbrev b_L_wake : ByteArray := method_10_code
def y_T_wake : MethodName := ⟨"TwinRegister", "wake", "(I)I"⟩
abbrev b_T_wake : ByteArray := prog_1_method_9_code
def y_D_heardVersion : MethodName := ⟨"TwinRegister$Device", "heardVersion", "()I"⟩
abbrev b_D_heardVersion : ByteArray := prog_2_method_8_code
def y_L_setGroup : MethodName := ⟨"TwinRegisterLaw", "setGroup", "(LTwinRegister;IIII[J)I"⟩
abbrev b_L_setGroup : ByteArray := method_11_code
def y_T_setGroup : MethodName := ⟨"TwinRegister", "setGroup", "(IIII)I"⟩
abbrev b_T_setGroup : ByteArray := prog_1_method_10_code
def y_T_groupAt : MethodName := ⟨"TwinRegister", "groupAt", "(I)LTwinRegister$Group;"⟩
abbrev b_T_groupAt : ByteArray := prog_1_method_26_code
def y_T_requireGroup : MethodName := ⟨"TwinRegister", "requireGroup", "(I)V"⟩
abbrev b_T_requireGroup : ByteArray := prog_1_method_27_code
def y_L_addJob : MethodName := ⟨"TwinRegisterLaw", "addJob", "(LTwinRegister;IIIII[J)I"⟩
abbrev b_L_addJob : ByteArray := method_12_code
def y_T_addJob : MethodName := ⟨"TwinRegister", "addJob", "(IIIII)I"⟩
abbrev b_T_addJob : ByteArray := prog_1_method_11_code
def y_L_cancel : MethodName := ⟨"TwinRegisterLaw", "cancel", "(LTwinRegister;I[J)I"⟩
abbrev b_L_cancel : ByteArray := method_13_code
def y_T_cancel : MethodName := ⟨"TwinRegister", "cancel", "(I)I"⟩
abbrev b_T_cancel : ByteArray := prog_1_method_13_code
def y_T_jobAt : MethodName := ⟨"TwinRegister", "jobAt", "(I)LTwinRegister$Job;"⟩
abbrev b_T_jobAt : ByteArray := prog_1_method_28_code
def y_L_version : MethodName := ⟨"TwinRegisterLaw", "version", "(LTwinRegister;I[J)I"⟩
abbrev b_L_version : ByteArray := method_14_code
def y_T_version : MethodName := ⟨"TwinRegister", "version", "(I)I"⟩
abbrev b_T_version : ByteArray := prog_1_method_14_code
def y_L_heard : MethodName := ⟨"TwinRegisterLaw", "heard", "(LTwinRegister;I[J)I"⟩
abbrev b_L_heard : ByteArray := method_15_code
def y_T_heard : MethodName := ⟨"TwinRegister", "heard", "(I)I"⟩
abbrev b_T_heard : ByteArray := prog_1_method_15_code
def y_L_wished : MethodName := ⟨"TwinRegisterLaw", "wished", "(LTwinRegister;II[J)I"⟩
abbrev b_L_wished : ByteArray := method_16_code
def y_T_wished : MethodName := ⟨"TwinRegister", "wished", "(II)I"⟩
abbrev b_T_wished : ByteArray := prog_1_method_16_code
def y_L_reported : MethodName := ⟨"TwinRegisterLaw", "reported", "(LTwinRegister;II[J)I"⟩
abbrev b_L_reported : ByteArray := method_17_code
def y_T_reported : MethodName := ⟨"TwinRegister", "reported", "(II)I"⟩
abbrev b_T_reported : ByteArray := prog_1_method_17_code
def y_L_why : MethodName := ⟨"TwinRegisterLaw", "why", "(LTwinRegister;II[J)I"⟩
abbrev b_L_why : ByteArray := method_18_code
def y_T_why : MethodName := ⟨"TwinRegister", "why", "(II)I"⟩
abbrev b_T_why : ByteArray := prog_1_method_18_code
def y_L_differences : MethodName := ⟨"TwinRegisterLaw", "differences", "(LTwinRegister;I[J)I"⟩
abbrev b_L_differences : ByteArray := method_19_code
def y_T_differences : MethodName := ⟨"TwinRegister", "differences", "(I)I"⟩
abbrev b_T_differences : ByteArray := prog_1_method_19_code
def y_L_differencesAnew : MethodName := ⟨"TwinRegisterLaw", "differencesAnew", "(LTwinRegister;I[J)I"⟩
abbrev b_L_differencesAnew : ByteArray := method_20_code
def y_T_differencesAnew : MethodName := ⟨"TwinRegister", "differencesAnew", "(I)I"⟩
abbrev b_T_differencesAnew : ByteArray := prog_1_method_20_code
def y_L_members : MethodName := ⟨"TwinRegisterLaw", "members", "(LTwinRegister;I[J)I"⟩
abbrev b_L_members : ByteArray := method_21_code
def y_T_members : MethodName := ⟨"TwinRegister", "members", "(I)I"⟩
abbrev b_T_members : ByteArray := prog_1_method_21_code
def y_L_state : MethodName := ⟨"TwinRegisterLaw", "state", "(LTwinRegister;I[J)I"⟩
abbrev b_L_state : ByteArray := method_22_code
def y_T_state : MethodName := ⟨"TwinRegister", "state", "(I)I"⟩
abbrev b_T_state : ByteArray := prog_1_method_23_code
def y_L_devices : MethodName := ⟨"TwinRegisterLaw", "devices", "(LTwinRegister;II[J)I"⟩
abbrev b_L_devices : ByteArray := method_23_code
def y_T_devices : MethodName := ⟨"TwinRegister", "devices", "(II)I"⟩
abbrev b_T_devices : ByteArray := prog_1_method_24_code
def y_M_init : MethodName := ⟨"TwinRegisterModel", "<init>", "()V"⟩
abbrev b_M_init : ByteArray := prog_7_method_1_code
def y_M_thrown : MethodName := ⟨"TwinRegisterModel", "thrown", "()I"⟩
abbrev b_M_thrown : ByteArray := prog_7_method_2_code
def y_M_put : MethodName := ⟨"TwinRegisterModel", "put", "(II)I"⟩
abbrev b_M_put : ByteArray := prog_7_method_9_code
def y_M_isLeaf : MethodName := ⟨"TwinRegisterModel", "isLeaf", "(I)Z"⟩
abbrev b_M_isLeaf : ByteArray := prog_7_method_5_code
def y_M_in : MethodName := ⟨"TwinRegisterModel", "in", "(III)Z"⟩
abbrev b_M_in : ByteArray := prog_7_method_3_code
def y_M_drafted : MethodName := ⟨"TwinRegisterModel", "drafted", "()I"⟩
abbrev b_M_drafted : ByteArray := prog_7_method_8_code
def y_M_drop : MethodName := ⟨"TwinRegisterModel", "drop", "(I)I"⟩
abbrev b_M_drop : ByteArray := prog_7_method_10_code
def y_M_wish : MethodName := ⟨"TwinRegisterModel", "wish", "(II)I"⟩
abbrev b_M_wish : ByteArray := prog_7_method_15_code
def y_M_isDevice : MethodName := ⟨"TwinRegisterModel", "isDevice", "(I)Z"⟩
abbrev b_M_isDevice : ByteArray := prog_7_method_4_code
def y_M_wishes : MethodName := ⟨"TwinRegisterModel", "wishes", "(III)V"⟩
abbrev b_M_wishes : ByteArray := prog_7_method_14_code
def y_M_empties : MethodName := ⟨"TwinRegisterModel", "empties", "()V"⟩
abbrev b_M_empties : ByteArray := prog_7_method_11_code
def y_M_report : MethodName := ⟨"TwinRegisterModel", "report", "(II)I"⟩
abbrev b_M_report : ByteArray := prog_7_method_16_code
def y_M_differing : MethodName := ⟨"TwinRegisterModel", "differing", "(I)I"⟩
abbrev b_M_differing : ByteArray := prog_7_method_13_code
def y_M_differs : MethodName := ⟨"TwinRegisterModel", "differs", "(II)Z"⟩
abbrev b_M_differs : ByteArray := prog_7_method_12_code
def y_M_manyOf : MethodName := ⟨"TwinRegisterModel", "manyOf", "(I)I"⟩
abbrev b_M_manyOf : ByteArray := prog_7_method_7_code
def y_M_obey : MethodName := ⟨"TwinRegisterModel", "obey", "(I)I"⟩
abbrev b_M_obey : ByteArray := prog_7_method_17_code
def y_M_refuse : MethodName := ⟨"TwinRegisterModel", "refuse", "(III)I"⟩
abbrev b_M_refuse : ByteArray := prog_7_method_18_code
def y_M_sleep : MethodName := ⟨"TwinRegisterModel", "sleep", "(I)Z"⟩
abbrev b_M_sleep : ByteArray := prog_7_method_19_code
def y_M_wake : MethodName := ⟨"TwinRegisterModel", "wake", "(I)I"⟩
abbrev b_M_wake : ByteArray := prog_7_method_21_code
def y_M_heardOf : MethodName := ⟨"TwinRegisterModel", "heardOf", "(I)I"⟩
abbrev b_M_heardOf : ByteArray := prog_7_method_20_code
def y_M_setGroup : MethodName := ⟨"TwinRegisterModel", "setGroup", "(IIII)I"⟩
abbrev b_M_setGroup : ByteArray := prog_7_method_23_code
def y_M_isGroup : MethodName := ⟨"TwinRegisterModel", "isGroup", "(I)Z"⟩
abbrev b_M_isGroup : ByteArray := prog_7_method_6_code
def y_M_membersOf : MethodName := ⟨"TwinRegisterModel", "membersOf", "(I)I"⟩
abbrev b_M_membersOf : ByteArray := prog_7_method_22_code
def y_M_addJob : MethodName := ⟨"TwinRegisterModel", "addJob", "(IIIII)I"⟩
abbrev b_M_addJob : ByteArray := prog_7_method_24_code
def y_M_wave : MethodName := ⟨"TwinRegisterModel", "wave", "()I"⟩
abbrev b_M_wave : ByteArray := prog_7_method_27_code
def y_M_looks : MethodName := ⟨"TwinRegisterModel", "looks", "(I)V"⟩
abbrev b_M_looks : ByteArray := prog_7_method_25_code
def y_M_starts : MethodName := ⟨"TwinRegisterModel", "starts", "(I)I"⟩
abbrev b_M_starts : ByteArray := prog_7_method_26_code
def y_M_cancel : MethodName := ⟨"TwinRegisterModel", "cancel", "(I)I"⟩
abbrev b_M_cancel : ByteArray := prog_7_method_29_code
def y_M_isJob : MethodName := ⟨"TwinRegisterModel", "isJob", "(I)Z"⟩
abbrev b_M_isJob : ByteArray := prog_7_method_28_code
def y_M_version : MethodName := ⟨"TwinRegisterModel", "version", "(I)I"⟩
abbrev b_M_version : ByteArray := prog_7_method_31_code
def y_M_asks : MethodName := ⟨"TwinRegisterModel", "asks", "(I)Z"⟩
abbrev b_M_asks : ByteArray := prog_7_method_30_code
def y_M_heard : MethodName := ⟨"TwinRegisterModel", "heard", "(I)I"⟩
abbrev b_M_heard : ByteArray := prog_7_method_32_code
def y_M_wished : MethodName := ⟨"TwinRegisterModel", "wished", "(II)I"⟩
abbrev b_M_wished : ByteArray := prog_7_method_34_code
def y_M_asksLeaf : MethodName := ⟨"TwinRegisterModel", "asksLeaf", "(II)Z"⟩
abbrev b_M_asksLeaf : ByteArray := prog_7_method_33_code
def y_M_reported : MethodName := ⟨"TwinRegisterModel", "reported", "(II)I"⟩
abbrev b_M_reported : ByteArray := prog_7_method_35_code
def y_M_why : MethodName := ⟨"TwinRegisterModel", "why", "(II)I"⟩
abbrev b_M_why : ByteArray := prog_7_method_36_code
def y_M_differences : MethodName := ⟨"TwinRegisterModel", "differences", "(I)I"⟩
abbrev b_M_differences : ByteArray := prog_7_method_37_code
def y_M_differencesAnew : MethodName := ⟨"TwinRegisterModel", "differencesAnew", "(I)I"⟩
abbrev b_M_differencesAnew : ByteArray := prog_7_method_38_code
def y_M_members : MethodName := ⟨"TwinRegisterModel", "members", "(I)I"⟩
abbrev b_M_members : ByteArray := prog_7_method_39_code
def y_M_jobs : MethodName := ⟨"TwinRegisterModel", "jobs", "()I"⟩
abbrev b_M_jobs : ByteArray := prog_7_method_40_code
def y_M_state : MethodName := ⟨"TwinRegisterModel", "state", "(I)I"⟩
abbrev b_M_state : ByteArray := prog_7_method_41_code
def y_M_devices : MethodName := ⟨"TwinRegisterModel", "devices", "(II)I"⟩
abbrev b_M_devices : ByteArray := prog_7_method_42_code
theorem m_0 : Cond.selects "TwinRegister" ⟨"TwinRegister", "advance", "(LTwinRegister$Job;)I"⟩ ⟨"TwinRegister", "advance", "(LTwinRegister$Job;)I"⟩ ∈ ag_all := ag_in 0 (by decide +kernel) (by decide +kernel)
theorem m_1 : Cond.selects "TwinRegister" ⟨"TwinRegister", "judgeStarted", "(LTwinRegister$Job;)V"⟩ ⟨"TwinRegister", "judgeStarted", "(LTwinRegister$Job;)V"⟩ ∈ ag_all := ag_in 1 (by decide +kernel) (by decide +kernel)
theorem m_2 : Cond.selects "TwinRegister$Job" ⟨"TwinRegister$Job", "open", "()I"⟩ ⟨"TwinRegister$Job", "open", "()I"⟩ ∈ ag_all := ag_in 2 (by decide +kernel) (by decide +kernel)
theorem m_3 : Cond.selects "TwinRegister" ⟨"TwinRegister", "startMore", "(LTwinRegister$Job;)I"⟩ ⟨"TwinRegister", "startMore", "(LTwinRegister$Job;)I"⟩ ∈ ag_all := ag_in 3 (by decide +kernel) (by decide +kernel)
theorem m_4 : Cond.selects "TwinRegister" ⟨"TwinRegister", "membersOf", "(LTwinRegister$Group;)I"⟩ ⟨"TwinRegister", "membersOf", "(LTwinRegister$Group;)I"⟩ ∈ ag_all := ag_in 4 (by decide +kernel) (by decide +kernel)
theorem m_5 : Cond.selects "TwinRegister$Group" ⟨"TwinRegister$Group", "admits", "(LTwinRegister$Device;)Z"⟩ ⟨"TwinRegister$Group", "admits", "(LTwinRegister$Device;)Z"⟩ ∈ ag_all := ag_in 5 (by decide +kernel) (by decide +kernel)
theorem m_6 : Cond.selects "TwinRegister$Device" ⟨"TwinRegister$Device", "takeWish", "(II)V"⟩ ⟨"TwinRegister$Device", "takeWish", "(II)V"⟩ ∈ ag_all := ag_in 6 (by decide +kernel) (by decide +kernel)
theorem m_7 : Cond.selects "TwinRegister$Device" ⟨"TwinRegister$Device", "keepDifference", "(I)V"⟩ ⟨"TwinRegister$Device", "keepDifference", "(I)V"⟩ ∈ ag_all := ag_in 7 (by decide +kernel) (by decide +kernel)
theorem m_8 : Cond.selects "TwinRegister$Device" ⟨"TwinRegister$Device", "comparesUnlike", "(I)Z"⟩ ⟨"TwinRegister$Device", "comparesUnlike", "(I)Z"⟩ ∈ ag_all := ag_in 8 (by decide +kernel) (by decide +kernel)
theorem m_9 : Cond.selects "java/lang/Throwable" ⟨"java/lang/Throwable", "fillInStackTrace", "(I)Ljava/lang/Throwable;"⟩ ⟨"java/lang/Throwable", "fillInStackTrace", "(I)Ljava/lang/Throwable;"⟩ ∈ ag_all := ag_in 9 (by decide +kernel) (by decide +kernel)
theorem m_10 : Cond.selects "TwinRegister$Draft" ⟨"TwinRegister$Draft", "assign", "(II)V"⟩ ⟨"TwinRegister$Draft", "assign", "(II)V"⟩ ∈ ag_all := ag_in 10 (by decide +kernel) (by decide +kernel)
theorem m_11 : Cond.selects "TwinRegister$Draft" ⟨"TwinRegister$Draft", "count", "()I"⟩ ⟨"TwinRegister$Draft", "count", "()I"⟩ ∈ ag_all := ag_in 11 (by decide +kernel) (by decide +kernel)
theorem m_12 : Cond.selects "TwinRegister" ⟨"TwinRegister", "deviceAt", "(I)LTwinRegister$Device;"⟩ ⟨"TwinRegister", "deviceAt", "(I)LTwinRegister$Device;"⟩ ∈ ag_all := ag_in 12 (by decide +kernel) (by decide +kernel)
theorem m_13 : Cond.selects "TwinRegister" ⟨"TwinRegister", "mergeWish", "(LTwinRegister$Device;)V"⟩ ⟨"TwinRegister", "mergeWish", "(LTwinRegister$Device;)V"⟩ ∈ ag_all := ag_in 13 (by decide +kernel) (by decide +kernel)
theorem m_14 : Cond.selects "TwinRegister$Draft" ⟨"TwinRegister$Draft", "has", "(I)Z"⟩ ⟨"TwinRegister$Draft", "has", "(I)Z"⟩ ∈ ag_all := ag_in 14 (by decide +kernel) (by decide +kernel)
theorem m_15 : Cond.selects "TwinRegister$Draft" ⟨"TwinRegister$Draft", "empty", "()V"⟩ ⟨"TwinRegister$Draft", "empty", "()V"⟩ ∈ ag_all := ag_in 15 (by decide +kernel) (by decide +kernel)
theorem m_16 : Cond.selects "TwinRegister" ⟨"TwinRegister", "mergeReport", "(LTwinRegister$Device;)V"⟩ ⟨"TwinRegister", "mergeReport", "(LTwinRegister$Device;)V"⟩ ∈ ag_all := ag_in 16 (by decide +kernel) (by decide +kernel)
theorem m_17 : Cond.selects "TwinRegister$Device" ⟨"TwinRegister$Device", "takeReport", "(II)V"⟩ ⟨"TwinRegister$Device", "takeReport", "(II)V"⟩ ∈ ag_all := ag_in 17 (by decide +kernel) (by decide +kernel)
theorem m_18 : Cond.selects "TwinRegister$Device" ⟨"TwinRegister$Device", "differsAt", "(I)Z"⟩ ⟨"TwinRegister$Device", "differsAt", "(I)Z"⟩ ∈ ag_all := ag_in 18 (by decide +kernel) (by decide +kernel)
theorem m_19 : Cond.selects "TwinRegister$Device" ⟨"TwinRegister$Device", "takeRefusal", "(II)V"⟩ ⟨"TwinRegister$Device", "takeRefusal", "(II)V"⟩ ∈ ag_all := ag_in 19 (by decide +kernel) (by decide +kernel)
theorem m_20 : Cond.selects "TwinRegister$Device" ⟨"TwinRegister$Device", "heardVersion", "()I"⟩ ⟨"TwinRegister$Device", "heardVersion", "()I"⟩ ∈ ag_all := ag_in 20 (by decide +kernel) (by decide +kernel)
theorem m_21 : Cond.selects "TwinRegister" ⟨"TwinRegister", "groupAt", "(I)LTwinRegister$Group;"⟩ ⟨"TwinRegister", "groupAt", "(I)LTwinRegister$Group;"⟩ ∈ ag_all := ag_in 21 (by decide +kernel) (by decide +kernel)
theorem m_22 : Cond.selects "TwinRegister" ⟨"TwinRegister", "jobAt", "(I)LTwinRegister$Job;"⟩ ⟨"TwinRegister", "jobAt", "(I)LTwinRegister$Job;"⟩ ∈ ag_all := ag_in 22 (by decide +kernel) (by decide +kernel)
theorem m_23 : Cond.selects "TwinRegisterModel" ⟨"TwinRegisterModel", "drafted", "()I"⟩ ⟨"TwinRegisterModel", "drafted", "()I"⟩ ∈ ag_all := ag_in 23 (by decide +kernel) (by decide +kernel)
theorem m_24 : Cond.selects "TwinRegisterModel" ⟨"TwinRegisterModel", "wishes", "(III)V"⟩ ⟨"TwinRegisterModel", "wishes", "(III)V"⟩ ∈ ag_all := ag_in 24 (by decide +kernel) (by decide +kernel)
theorem m_25 : Cond.selects "TwinRegisterModel" ⟨"TwinRegisterModel", "empties", "()V"⟩ ⟨"TwinRegisterModel", "empties", "()V"⟩ ∈ ag_all := ag_in 25 (by decide +kernel) (by decide +kernel)
theorem m_26 : Cond.selects "TwinRegisterModel" ⟨"TwinRegisterModel", "differing", "(I)I"⟩ ⟨"TwinRegisterModel", "differing", "(I)I"⟩ ∈ ag_all := ag_in 26 (by decide +kernel) (by decide +kernel)
theorem m_27 : Cond.selects "TwinRegisterModel" ⟨"TwinRegisterModel", "differs", "(II)Z"⟩ ⟨"TwinRegisterModel", "differs", "(II)Z"⟩ ∈ ag_all := ag_in 27 (by decide +kernel) (by decide +kernel)
theorem m_28 : Cond.selects "TwinRegisterModel" ⟨"TwinRegisterModel", "heardOf", "(I)I"⟩ ⟨"TwinRegisterModel", "heardOf", "(I)I"⟩ ∈ ag_all := ag_in 28 (by decide +kernel) (by decide +kernel)
theorem m_29 : Cond.selects "TwinRegisterModel" ⟨"TwinRegisterModel", "membersOf", "(I)I"⟩ ⟨"TwinRegisterModel", "membersOf", "(I)I"⟩ ∈ ag_all := ag_in 29 (by decide +kernel) (by decide +kernel)
theorem m_30 : Cond.selects "TwinRegisterModel" ⟨"TwinRegisterModel", "looks", "(I)V"⟩ ⟨"TwinRegisterModel", "looks", "(I)V"⟩ ∈ ag_all := ag_in 30 (by decide +kernel) (by decide +kernel)
theorem m_31 : Cond.selects "TwinRegisterModel" ⟨"TwinRegisterModel", "starts", "(I)I"⟩ ⟨"TwinRegisterModel", "starts", "(I)I"⟩ ∈ ag_all := ag_in 31 (by decide +kernel) (by decide +kernel)
theorem m_32 : Cond.selects "TwinRegisterModel" ⟨"TwinRegisterModel", "isJob", "(I)Z"⟩ ⟨"TwinRegisterModel", "isJob", "(I)Z"⟩ ∈ ag_all := ag_in 32 (by decide +kernel) (by decide +kernel)
theorem m_33 : Cond.selects "TwinRegisterModel" ⟨"TwinRegisterModel", "asks", "(I)Z"⟩ ⟨"TwinRegisterModel", "asks", "(I)Z"⟩ ∈ ag_all := ag_in 33 (by decide +kernel) (by decide +kernel)
theorem m_34 : Cond.selects "TwinRegisterModel" ⟨"TwinRegisterModel", "asksLeaf", "(II)Z"⟩ ⟨"TwinRegisterModel", "asksLeaf", "(II)Z"⟩ ∈ ag_all := ag_in 34 (by decide +kernel) (by decide +kernel)
theorem m_35 : (Jvm.Cond.initialized "TwinRegisterLaw") ∈ ag_all := ag_in 35 (by decide +kernel) (by decide +kernel)
theorem m_36 : (Jvm.Cond.initialized "TwinRegister") ∈ ag_all := ag_in 36 (by decide +kernel) (by decide +kernel)
theorem m_37 : (Jvm.Cond.initialized "TwinRegister$Draft") ∈ ag_all := ag_in 37 (by decide +kernel) (by decide +kernel)
theorem m_38 : (Jvm.Cond.initialized "TwinRegister$Device") ∈ ag_all := ag_in 38 (by decide +kernel) (by decide +kernel)
theorem m_39 : (Jvm.Cond.initialized "TwinRegister$Group") ∈ ag_all := ag_in 39 (by decide +kernel) (by decide +kernel)
theorem m_40 : (Jvm.Cond.initialized "TwinRegister$Job") ∈ ag_all := ag_in 40 (by decide +kernel) (by decide +kernel)
theorem m_41 : (Jvm.Cond.initialized "TwinRegisterModel") ∈ ag_all := ag_in 41 (by decide +kernel) (by decide +kernel)
theorem m_42 : (Jvm.Cond.initialized "java/lang/Throwable") ∈ ag_all := ag_in 42 (by decide +kernel) (by decide +kernel)
theorem m_43 : (Jvm.Cond.initialized "java/lang/Exception") ∈ ag_all := ag_in 43 (by decide +kernel) (by decide +kernel)
theorem m_44 : (Jvm.Cond.initialized "java/lang/RuntimeException") ∈ ag_all := ag_in 44 (by decide +kernel) (by decide +kernel)
theorem m_45 : (Jvm.Cond.initialized "java/lang/IndexOutOfBoundsException") ∈ ag_all := ag_in 45 (by decide +kernel) (by decide +kernel)
theorem m_46 : (Jvm.Cond.initialized "java/lang/IllegalArgumentException") ∈ ag_all := ag_in 46 (by decide +kernel) (by decide +kernel)
theorem m_47 : (Jvm.Cond.initialized "java/lang/Integer") ∈ ag_all := ag_in 47 (by decide +kernel) (by decide +kernel)
theorem m_48 : (Jvm.Cond.initialized "java/lang/IllegalStateException") ∈ ag_all := ag_in 48 (by decide +kernel) (by decide +kernel)
theorem m_49 : (Jvm.Cond.classLink "TwinRegisterLaw" (8 : Nat) "TwinRegister") ∈ ag_all := ag_in 49 (by decide +kernel) (by decide +kernel)
theorem m_50 : (Jvm.Cond.instantiable "TwinRegister" (5 : Nat)) ∈ ag_all := ag_in 50 (by decide +kernel) (by decide +kernel)
theorem m_51 : (Jvm.Cond.methodLink "TwinRegisterLaw" (84 : Nat) ({ cls := "TwinRegister", name := "<init>", desc := "()V" } : Jvm.MethodName)) ∈ ag_all := ag_in 51 (by decide +kernel) (by decide +kernel)
theorem m_52 : (Jvm.Cond.instanceMethod ({ cls := "TwinRegister", name := "<init>", desc := "()V" } : Jvm.MethodName)) ∈ ag_all := ag_in 52 (by decide +kernel) (by decide +kernel)
theorem m_53 : (Jvm.Cond.code ({ cls := "TwinRegister", name := "<init>", desc := "()V" } : Jvm.MethodName) prog_1_method_1_code (2 : Nat) (Option.none : Option Jvm.ClassFile.FieldType)) ∈ ag_all := ag_in 53 (by decide +kernel) (by decide +kernel)
theorem m_54 : (Jvm.Cond.methodLink "TwinRegister" (1 : Nat) ({ cls := "java/lang/Object", name := "<init>", desc := "()V" } : Jvm.MethodName)) ∈ ag_all := ag_in 54 (by decide +kernel) (by decide +kernel)
theorem m_55 : (Jvm.Cond.instanceMethod ({ cls := "java/lang/Object", name := "<init>", desc := "()V" } : Jvm.MethodName)) ∈ ag_all := ag_in 55 (by decide +kernel) (by decide +kernel)
theorem m_56 : (Jvm.Cond.code ({ cls := "java/lang/Object", name := "<init>", desc := "()V" } : Jvm.MethodName) object_method_1_code (1 : Nat) (Option.none : Option Jvm.ClassFile.FieldType)) ∈ ag_all := ag_in 56 (by decide +kernel) (by decide +kernel)
theorem m_57 : (Jvm.Cond.classLink "TwinRegister" (7 : Nat) "TwinRegister$Draft") ∈ ag_all := ag_in 57 (by decide +kernel) (by decide +kernel)
theorem m_58 : (Jvm.Cond.instantiable "TwinRegister$Draft" (2 : Nat)) ∈ ag_all := ag_in 58 (by decide +kernel) (by decide +kernel)
theorem m_59 : (Jvm.Cond.methodLinkNest "TwinRegister" (9 : Nat) ({ cls := "TwinRegister$Draft", name := "<init>", desc := "()V" } : Jvm.MethodName) "TwinRegister") ∈ ax_all := ax_in 59 (by decide +kernel) (by decide +kernel)
theorem m_60 : (Jvm.Cond.instanceMethod ({ cls := "TwinRegister$Draft", name := "<init>", desc := "()V" } : Jvm.MethodName)) ∈ ag_all := ag_in 60 (by decide +kernel) (by decide +kernel)
theorem m_61 : (Jvm.Cond.code ({ cls := "TwinRegister$Draft", name := "<init>", desc := "()V" } : Jvm.MethodName) prog_3_method_1_code (1 : Nat) (Option.none : Option Jvm.ClassFile.FieldType)) ∈ ag_all := ag_in 61 (by decide +kernel) (by decide +kernel)
theorem m_62 : (Jvm.Cond.methodLink "TwinRegister$Draft" (3 : Nat) ({ cls := "java/lang/Object", name := "<init>", desc := "()V" } : Jvm.MethodName)) ∈ ag_all := ag_in 62 (by decide +kernel) (by decide +kernel)
theorem m_63 : (Jvm.Cond.fieldLink "TwinRegister$Draft" (9 : Nat) "TwinRegister$Draft" "values" "[I") ∈ ag_all := ag_in 63 (by decide +kernel) (by decide +kernel)
theorem m_64 : (Jvm.Cond.fieldLinkNest "TwinRegister" (216 : Nat) "TwinRegister$Draft" "values" "[I" "TwinRegister") ∈ ax_all := ax_in 64 (by decide +kernel) (by decide +kernel)
theorem m_65 : (Jvm.Cond.fieldLink "TwinRegister$Draft" (15 : Nat) "TwinRegister$Draft" "leaves" "I") ∈ ag_all := ag_in 65 (by decide +kernel) (by decide +kernel)
theorem m_66 : (Jvm.Cond.laysFinal "TwinRegister$Draft" "TwinRegister$Draft" "values" "[I") ∈ ag_all := ag_in 66 (by decide +kernel) (by decide +kernel)
theorem m_67 : (Jvm.Cond.soleField "TwinRegister$Draft" "values") ∈ ag_all := ag_in 67 (by decide +kernel) (by decide +kernel)
theorem m_68 : (Jvm.Cond.lays "TwinRegister$Draft" "TwinRegister$Draft" "leaves" "I") ∈ ag_all := ag_in 68 (by decide +kernel) (by decide +kernel)
theorem m_69 : (Jvm.Cond.soleField "TwinRegister$Draft" "leaves") ∈ ag_all := ag_in 69 (by decide +kernel) (by decide +kernel)
theorem m_70 : (Jvm.Cond.superclass "TwinRegister$Draft" "java/lang/Object") ∈ ag_all := ag_in 70 (by decide +kernel) (by decide +kernel)
theorem m_71 : (Jvm.Cond.arrayClass Jvm.ClassFile.FieldType.int) ∈ ag_all := ag_in 71 (by decide +kernel) (by decide +kernel)
theorem m_72 : (Jvm.Cond.classLink "TwinRegister" (16 : Nat) "TwinRegister$Device") ∈ ag_all := ag_in 72 (by decide +kernel) (by decide +kernel)
theorem m_74 : (Jvm.Cond.instantiable "TwinRegister$Device" (8 : Nat)) ∈ ag_all := ag_in 74 (by decide +kernel) (by decide +kernel)
theorem m_75 : (Jvm.Cond.methodLinkNest "TwinRegister" (22 : Nat) ({ cls := "TwinRegister$Device", name := "<init>", desc := "()V" } : Jvm.MethodName) "TwinRegister") ∈ ax_all := ax_in 75 (by decide +kernel) (by decide +kernel)
theorem m_76 : (Jvm.Cond.instanceMethod ({ cls := "TwinRegister$Device", name := "<init>", desc := "()V" } : Jvm.MethodName)) ∈ ag_all := ag_in 76 (by decide +kernel) (by decide +kernel)
theorem m_77 : (Jvm.Cond.code ({ cls := "TwinRegister$Device", name := "<init>", desc := "()V" } : Jvm.MethodName) prog_2_method_1_code (2 : Nat) (Option.none : Option Jvm.ClassFile.FieldType)) ∈ ag_all := ag_in 77 (by decide +kernel) (by decide +kernel)
theorem m_78 : (Jvm.Cond.methodLink "TwinRegister$Device" (3 : Nat) ({ cls := "java/lang/Object", name := "<init>", desc := "()V" } : Jvm.MethodName)) ∈ ag_all := ag_in 78 (by decide +kernel) (by decide +kernel)
theorem m_79 : (Jvm.Cond.fieldLink "TwinRegister$Device" (9 : Nat) "TwinRegister$Device" "wishedValues" "[I") ∈ ag_all := ag_in 79 (by decide +kernel) (by decide +kernel)
theorem m_80 : (Jvm.Cond.fieldLinkNest "TwinRegister" (107 : Nat) "TwinRegister$Device" "wishedValues" "[I" "TwinRegister") ∈ ax_all := ax_in 80 (by decide +kernel) (by decide +kernel)
theorem m_81 : (Jvm.Cond.fieldLink "TwinRegister$Device" (15 : Nat) "TwinRegister$Device" "reportedValues" "[I") ∈ ag_all := ag_in 81 (by decide +kernel) (by decide +kernel)
theorem m_82 : (Jvm.Cond.fieldLinkNest "TwinRegister$Group" (21 : Nat) "TwinRegister$Device" "reportedValues" "[I" "TwinRegister") ∈ ax_all := ax_in 82 (by decide +kernel) (by decide +kernel)
theorem m_83 : (Jvm.Cond.fieldLinkNest "TwinRegister" (180 : Nat) "TwinRegister$Device" "reportedValues" "[I" "TwinRegister") ∈ ax_all := ax_in 83 (by decide +kernel) (by decide +kernel)
theorem m_84 : (Jvm.Cond.fieldLink "TwinRegister$Device" (18 : Nat) "TwinRegister$Device" "reasons" "[I") ∈ ag_all := ag_in 84 (by decide +kernel) (by decide +kernel)
theorem m_85 : (Jvm.Cond.fieldLinkNest "TwinRegister" (183 : Nat) "TwinRegister$Device" "reasons" "[I" "TwinRegister") ∈ ax_all := ax_in 85 (by decide +kernel) (by decide +kernel)
theorem m_86 : (Jvm.Cond.fieldLink "TwinRegister$Device" (29 : Nat) "TwinRegister$Device" "differing" "I") ∈ ag_all := ag_in 86 (by decide +kernel) (by decide +kernel)
theorem m_87 : (Jvm.Cond.fieldLinkNest "TwinRegister" (94 : Nat) "TwinRegister$Device" "differing" "I" "TwinRegister") ∈ ax_all := ax_in 87 (by decide +kernel) (by decide +kernel)
theorem m_88 : (Jvm.Cond.fieldLinkNest "TwinRegister" (73 : Nat) "TwinRegister$Device" "latestVersion" "I" "TwinRegister") ∈ ax_all := ax_in 88 (by decide +kernel) (by decide +kernel)
theorem m_89 : (Jvm.Cond.fieldLink "TwinRegister$Device" (40 : Nat) "TwinRegister$Device" "latestVersion" "I") ∈ ag_all := ag_in 89 (by decide +kernel) (by decide +kernel)
theorem m_90 : (Jvm.Cond.fieldLink "TwinRegister$Device" (37 : Nat) "TwinRegister$Device" "versionBeforeSleep" "I") ∈ ag_all := ag_in 90 (by decide +kernel) (by decide +kernel)
theorem m_91 : (Jvm.Cond.fieldLinkNest "TwinRegister" (123 : Nat) "TwinRegister$Device" "versionBeforeSleep" "I" "TwinRegister") ∈ ax_all := ax_in 91 (by decide +kernel) (by decide +kernel)
theorem m_92 : (Jvm.Cond.fieldLinkNest "TwinRegister" (85 : Nat) "TwinRegister$Device" "latestReport" "I" "TwinRegister") ∈ ax_all := ax_in 92 (by decide +kernel) (by decide +kernel)
theorem m_93 : (Jvm.Cond.fieldLink "TwinRegister$Device" (33 : Nat) "TwinRegister$Device" "asleep" "Z") ∈ ag_all := ag_in 93 (by decide +kernel) (by decide +kernel)
theorem m_94 : (Jvm.Cond.fieldLinkNest "TwinRegister" (119 : Nat) "TwinRegister$Device" "asleep" "Z" "TwinRegister") ∈ ax_all := ax_in 94 (by decide +kernel) (by decide +kernel)
theorem m_95 : (Jvm.Cond.laysFinal "TwinRegister$Device" "TwinRegister$Device" "wishedValues" "[I") ∈ ag_all := ag_in 95 (by decide +kernel) (by decide +kernel)
theorem m_96 : (Jvm.Cond.soleField "TwinRegister$Device" "wishedValues") ∈ ag_all := ag_in 96 (by decide +kernel) (by decide +kernel)
theorem m_97 : (Jvm.Cond.laysFinal "TwinRegister$Device" "TwinRegister$Device" "reportedValues" "[I") ∈ ag_all := ag_in 97 (by decide +kernel) (by decide +kernel)
theorem m_98 : (Jvm.Cond.soleField "TwinRegister$Device" "reportedValues") ∈ ag_all := ag_in 98 (by decide +kernel) (by decide +kernel)
theorem m_99 : (Jvm.Cond.laysFinal "TwinRegister$Device" "TwinRegister$Device" "reasons" "[I") ∈ ag_all := ag_in 99 (by decide +kernel) (by decide +kernel)
theorem m_100 : (Jvm.Cond.soleField "TwinRegister$Device" "reasons") ∈ ag_all := ag_in 100 (by decide +kernel) (by decide +kernel)
theorem m_101 : (Jvm.Cond.lays "TwinRegister$Device" "TwinRegister$Device" "differing" "I") ∈ ag_all := ag_in 101 (by decide +kernel) (by decide +kernel)
theorem m_102 : (Jvm.Cond.soleField "TwinRegister$Device" "differing") ∈ ag_all := ag_in 102 (by decide +kernel) (by decide +kernel)
theorem m_103 : (Jvm.Cond.lays "TwinRegister$Device" "TwinRegister$Device" "latestVersion" "I") ∈ ag_all := ag_in 103 (by decide +kernel) (by decide +kernel)
theorem m_104 : (Jvm.Cond.soleField "TwinRegister$Device" "latestVersion") ∈ ag_all := ag_in 104 (by decide +kernel) (by decide +kernel)
theorem m_105 : (Jvm.Cond.lays "TwinRegister$Device" "TwinRegister$Device" "versionBeforeSleep" "I") ∈ ag_all := ag_in 105 (by decide +kernel) (by decide +kernel)
theorem m_106 : (Jvm.Cond.soleField "TwinRegister$Device" "versionBeforeSleep") ∈ ag_all := ag_in 106 (by decide +kernel) (by decide +kernel)
theorem m_107 : (Jvm.Cond.lays "TwinRegister$Device" "TwinRegister$Device" "latestReport" "I") ∈ ag_all := ag_in 107 (by decide +kernel) (by decide +kernel)
theorem m_108 : (Jvm.Cond.soleField "TwinRegister$Device" "latestReport") ∈ ag_all := ag_in 108 (by decide +kernel) (by decide +kernel)
theorem m_109 : (Jvm.Cond.lays "TwinRegister$Device" "TwinRegister$Device" "asleep" "Z") ∈ ag_all := ag_in 109 (by decide +kernel) (by decide +kernel)
theorem m_110 : (Jvm.Cond.soleField "TwinRegister$Device" "asleep") ∈ ag_all := ag_in 110 (by decide +kernel) (by decide +kernel)
theorem m_111 : (Jvm.Cond.superclass "TwinRegister$Device" "java/lang/Object") ∈ ag_all := ag_in 111 (by decide +kernel) (by decide +kernel)
theorem m_112 : (Jvm.Cond.classLink "TwinRegister" (23 : Nat) "TwinRegister$Group") ∈ ag_all := ag_in 112 (by decide +kernel) (by decide +kernel)
theorem m_114 : (Jvm.Cond.instantiable "TwinRegister$Group" (3 : Nat)) ∈ ag_all := ag_in 114 (by decide +kernel) (by decide +kernel)
theorem m_115 : (Jvm.Cond.methodLinkNest "TwinRegister" (29 : Nat) ({ cls := "TwinRegister$Group", name := "<init>", desc := "()V" } : Jvm.MethodName) "TwinRegister") ∈ ax_all := ax_in 115 (by decide +kernel) (by decide +kernel)
theorem m_116 : (Jvm.Cond.instanceMethod ({ cls := "TwinRegister$Group", name := "<init>", desc := "()V" } : Jvm.MethodName)) ∈ ag_all := ag_in 116 (by decide +kernel) (by decide +kernel)
theorem m_117 : (Jvm.Cond.code ({ cls := "TwinRegister$Group", name := "<init>", desc := "()V" } : Jvm.MethodName) prog_4_method_1_code (1 : Nat) (Option.none : Option Jvm.ClassFile.FieldType)) ∈ ag_all := ag_in 117 (by decide +kernel) (by decide +kernel)
theorem m_118 : (Jvm.Cond.methodLink "TwinRegister$Group" (3 : Nat) ({ cls := "java/lang/Object", name := "<init>", desc := "()V" } : Jvm.MethodName)) ∈ ag_all := ag_in 118 (by decide +kernel) (by decide +kernel)
theorem m_119 : (Jvm.Cond.fieldLink "TwinRegister$Group" (9 : Nat) "TwinRegister$Group" "leaf" "I") ∈ ag_all := ag_in 119 (by decide +kernel) (by decide +kernel)
theorem m_120 : (Jvm.Cond.fieldLinkNest "TwinRegister" (133 : Nat) "TwinRegister$Group" "leaf" "I" "TwinRegister") ∈ ax_all := ax_in 120 (by decide +kernel) (by decide +kernel)
theorem m_121 : (Jvm.Cond.fieldLink "TwinRegister$Group" (15 : Nat) "TwinRegister$Group" "low" "I") ∈ ag_all := ag_in 121 (by decide +kernel) (by decide +kernel)
theorem m_122 : (Jvm.Cond.fieldLinkNest "TwinRegister" (136 : Nat) "TwinRegister$Group" "low" "I" "TwinRegister") ∈ ax_all := ax_in 122 (by decide +kernel) (by decide +kernel)
theorem m_123 : (Jvm.Cond.fieldLink "TwinRegister$Group" (18 : Nat) "TwinRegister$Group" "high" "I") ∈ ag_all := ag_in 123 (by decide +kernel) (by decide +kernel)
theorem m_124 : (Jvm.Cond.fieldLinkNest "TwinRegister" (139 : Nat) "TwinRegister$Group" "high" "I" "TwinRegister") ∈ ax_all := ax_in 124 (by decide +kernel) (by decide +kernel)
theorem m_125 : (Jvm.Cond.lays "TwinRegister$Group" "TwinRegister$Group" "leaf" "I") ∈ ag_all := ag_in 125 (by decide +kernel) (by decide +kernel)
theorem m_126 : (Jvm.Cond.soleField "TwinRegister$Group" "leaf") ∈ ag_all := ag_in 126 (by decide +kernel) (by decide +kernel)
theorem m_127 : (Jvm.Cond.lays "TwinRegister$Group" "TwinRegister$Group" "low" "I") ∈ ag_all := ag_in 127 (by decide +kernel) (by decide +kernel)
theorem m_128 : (Jvm.Cond.soleField "TwinRegister$Group" "low") ∈ ag_all := ag_in 128 (by decide +kernel) (by decide +kernel)
theorem m_129 : (Jvm.Cond.lays "TwinRegister$Group" "TwinRegister$Group" "high" "I") ∈ ag_all := ag_in 129 (by decide +kernel) (by decide +kernel)
theorem m_130 : (Jvm.Cond.soleField "TwinRegister$Group" "high") ∈ ag_all := ag_in 130 (by decide +kernel) (by decide +kernel)
theorem m_131 : (Jvm.Cond.superclass "TwinRegister$Group" "java/lang/Object") ∈ ag_all := ag_in 131 (by decide +kernel) (by decide +kernel)
theorem m_132 : (Jvm.Cond.classLink "TwinRegister" (30 : Nat) "TwinRegister$Job") ∈ ag_all := ag_in 132 (by decide +kernel) (by decide +kernel)
theorem m_134 : (Jvm.Cond.instantiable "TwinRegister$Job" (9 : Nat)) ∈ ag_all := ag_in 134 (by decide +kernel) (by decide +kernel)
theorem m_135 : (Jvm.Cond.methodLinkNest "TwinRegister" (36 : Nat) ({ cls := "TwinRegister$Job", name := "<init>", desc := "()V" } : Jvm.MethodName) "TwinRegister") ∈ ax_all := ax_in 135 (by decide +kernel) (by decide +kernel)
theorem m_136 : (Jvm.Cond.instanceMethod ({ cls := "TwinRegister$Job", name := "<init>", desc := "()V" } : Jvm.MethodName)) ∈ ag_all := ag_in 136 (by decide +kernel) (by decide +kernel)
theorem m_137 : (Jvm.Cond.code ({ cls := "TwinRegister$Job", name := "<init>", desc := "()V" } : Jvm.MethodName) prog_5_method_1_code (1 : Nat) (Option.none : Option Jvm.ClassFile.FieldType)) ∈ ag_all := ag_in 137 (by decide +kernel) (by decide +kernel)
theorem m_138 : (Jvm.Cond.methodLink "TwinRegister$Job" (3 : Nat) ({ cls := "java/lang/Object", name := "<init>", desc := "()V" } : Jvm.MethodName)) ∈ ag_all := ag_in 138 (by decide +kernel) (by decide +kernel)
theorem m_139 : (Jvm.Cond.fieldLinkNest "TwinRegister" (151 : Nat) "TwinRegister$Job" "group" "I" "TwinRegister") ∈ ax_all := ax_in 139 (by decide +kernel) (by decide +kernel)
theorem m_140 : (Jvm.Cond.fieldLinkNest "TwinRegister" (154 : Nat) "TwinRegister$Job" "leaf" "I" "TwinRegister") ∈ ax_all := ax_in 140 (by decide +kernel) (by decide +kernel)
theorem m_141 : (Jvm.Cond.fieldLinkNest "TwinRegister" (155 : Nat) "TwinRegister$Job" "value" "I" "TwinRegister") ∈ ax_all := ax_in 141 (by decide +kernel) (by decide +kernel)
theorem m_142 : (Jvm.Cond.fieldLinkNest "TwinRegister" (158 : Nat) "TwinRegister$Job" "rate" "I" "TwinRegister") ∈ ax_all := ax_in 142 (by decide +kernel) (by decide +kernel)
theorem m_143 : (Jvm.Cond.fieldLinkNest "TwinRegister" (161 : Nat) "TwinRegister$Job" "bound" "I" "TwinRegister") ∈ ax_all := ax_in 143 (by decide +kernel) (by decide +kernel)
theorem m_144 : (Jvm.Cond.fieldLink "TwinRegister$Job" (9 : Nat) "TwinRegister$Job" "condition" "I") ∈ ag_all := ag_in 144 (by decide +kernel) (by decide +kernel)
theorem m_145 : (Jvm.Cond.fieldLinkNest "TwinRegister" (164 : Nat) "TwinRegister$Job" "condition" "I" "TwinRegister") ∈ ax_all := ax_in 145 (by decide +kernel) (by decide +kernel)
theorem m_146 : (Jvm.Cond.fieldLink "TwinRegister$Job" (15 : Nat) "TwinRegister$Job" "started" "I") ∈ ag_all := ag_in 146 (by decide +kernel) (by decide +kernel)
theorem m_147 : (Jvm.Cond.fieldLinkNest "TwinRegister" (189 : Nat) "TwinRegister$Job" "started" "I" "TwinRegister") ∈ ax_all := ax_in 147 (by decide +kernel) (by decide +kernel)
theorem m_148 : (Jvm.Cond.fieldLink "TwinRegister$Job" (18 : Nat) "TwinRegister$Job" "done" "I") ∈ ag_all := ag_in 148 (by decide +kernel) (by decide +kernel)
theorem m_149 : (Jvm.Cond.fieldLinkNest "TwinRegister" (192 : Nat) "TwinRegister$Job" "done" "I" "TwinRegister") ∈ ax_all := ax_in 149 (by decide +kernel) (by decide +kernel)
theorem m_150 : (Jvm.Cond.fieldLink "TwinRegister$Job" (21 : Nat) "TwinRegister$Job" "failed" "I") ∈ ag_all := ag_in 150 (by decide +kernel) (by decide +kernel)
theorem m_151 : (Jvm.Cond.fieldLinkNest "TwinRegister" (195 : Nat) "TwinRegister$Job" "failed" "I" "TwinRegister") ∈ ax_all := ax_in 151 (by decide +kernel) (by decide +kernel)
theorem m_152 : (Jvm.Cond.lays "TwinRegister$Job" "TwinRegister$Job" "group" "I") ∈ ag_all := ag_in 152 (by decide +kernel) (by decide +kernel)
theorem m_153 : (Jvm.Cond.soleField "TwinRegister$Job" "group") ∈ ag_all := ag_in 153 (by decide +kernel) (by decide +kernel)
theorem m_154 : (Jvm.Cond.lays "TwinRegister$Job" "TwinRegister$Job" "leaf" "I") ∈ ag_all := ag_in 154 (by decide +kernel) (by decide +kernel)
theorem m_155 : (Jvm.Cond.soleField "TwinRegister$Job" "leaf") ∈ ag_all := ag_in 155 (by decide +kernel) (by decide +kernel)
theorem m_156 : (Jvm.Cond.lays "TwinRegister$Job" "TwinRegister$Job" "value" "I") ∈ ag_all := ag_in 156 (by decide +kernel) (by decide +kernel)
theorem m_157 : (Jvm.Cond.soleField "TwinRegister$Job" "value") ∈ ag_all := ag_in 157 (by decide +kernel) (by decide +kernel)
theorem m_158 : (Jvm.Cond.lays "TwinRegister$Job" "TwinRegister$Job" "rate" "I") ∈ ag_all := ag_in 158 (by decide +kernel) (by decide +kernel)
theorem m_159 : (Jvm.Cond.soleField "TwinRegister$Job" "rate") ∈ ag_all := ag_in 159 (by decide +kernel) (by decide +kernel)
theorem m_160 : (Jvm.Cond.lays "TwinRegister$Job" "TwinRegister$Job" "bound" "I") ∈ ag_all := ag_in 160 (by decide +kernel) (by decide +kernel)
theorem m_161 : (Jvm.Cond.soleField "TwinRegister$Job" "bound") ∈ ag_all := ag_in 161 (by decide +kernel) (by decide +kernel)
theorem m_162 : (Jvm.Cond.lays "TwinRegister$Job" "TwinRegister$Job" "condition" "I") ∈ ag_all := ag_in 162 (by decide +kernel) (by decide +kernel)
theorem m_163 : (Jvm.Cond.soleField "TwinRegister$Job" "condition") ∈ ag_all := ag_in 163 (by decide +kernel) (by decide +kernel)
theorem m_164 : (Jvm.Cond.lays "TwinRegister$Job" "TwinRegister$Job" "started" "I") ∈ ag_all := ag_in 164 (by decide +kernel) (by decide +kernel)
theorem m_165 : (Jvm.Cond.soleField "TwinRegister$Job" "started") ∈ ag_all := ag_in 165 (by decide +kernel) (by decide +kernel)
theorem m_166 : (Jvm.Cond.lays "TwinRegister$Job" "TwinRegister$Job" "done" "I") ∈ ag_all := ag_in 166 (by decide +kernel) (by decide +kernel)
theorem m_167 : (Jvm.Cond.soleField "TwinRegister$Job" "done") ∈ ag_all := ag_in 167 (by decide +kernel) (by decide +kernel)
theorem m_168 : (Jvm.Cond.lays "TwinRegister$Job" "TwinRegister$Job" "failed" "I") ∈ ag_all := ag_in 168 (by decide +kernel) (by decide +kernel)
theorem m_169 : (Jvm.Cond.soleField "TwinRegister$Job" "failed") ∈ ag_all := ag_in 169 (by decide +kernel) (by decide +kernel)
theorem m_170 : (Jvm.Cond.superclass "TwinRegister$Job" "java/lang/Object") ∈ ag_all := ag_in 170 (by decide +kernel) (by decide +kernel)
theorem m_171 : (Jvm.Cond.fieldLink "TwinRegister" (10 : Nat) "TwinRegister" "draft" "LTwinRegister$Draft;") ∈ ag_all := ag_in 171 (by decide +kernel) (by decide +kernel)
theorem m_172 : (Jvm.Cond.fieldLink "TwinRegister" (18 : Nat) "TwinRegister" "deviceRows" "[LTwinRegister$Device;") ∈ ag_all := ag_in 172 (by decide +kernel) (by decide +kernel)
theorem m_173 : (Jvm.Cond.fieldLink "TwinRegister" (25 : Nat) "TwinRegister" "groupRows" "[LTwinRegister$Group;") ∈ ag_all := ag_in 173 (by decide +kernel) (by decide +kernel)
theorem m_174 : (Jvm.Cond.fieldLink "TwinRegister" (32 : Nat) "TwinRegister" "jobRows" "[LTwinRegister$Job;") ∈ ag_all := ag_in 174 (by decide +kernel) (by decide +kernel)
theorem m_175 : (Jvm.Cond.fieldLink "TwinRegister" (37 : Nat) "TwinRegister" "jobCount" "I") ∈ ag_all := ag_in 175 (by decide +kernel) (by decide +kernel)
theorem m_176 : (Jvm.Cond.laysFinal "TwinRegister" "TwinRegister" "draft" "LTwinRegister$Draft;") ∈ ag_all := ag_in 176 (by decide +kernel) (by decide +kernel)
theorem m_177 : (Jvm.Cond.soleField "TwinRegister" "draft") ∈ ag_all := ag_in 177 (by decide +kernel) (by decide +kernel)
theorem m_178 : (Jvm.Cond.laysFinal "TwinRegister" "TwinRegister" "deviceRows" "[LTwinRegister$Device;") ∈ ag_all := ag_in 178 (by decide +kernel) (by decide +kernel)
theorem m_179 : (Jvm.Cond.soleField "TwinRegister" "deviceRows") ∈ ag_all := ag_in 179 (by decide +kernel) (by decide +kernel)
theorem m_180 : (Jvm.Cond.laysFinal "TwinRegister" "TwinRegister" "groupRows" "[LTwinRegister$Group;") ∈ ag_all := ag_in 180 (by decide +kernel) (by decide +kernel)
theorem m_181 : (Jvm.Cond.soleField "TwinRegister" "groupRows") ∈ ag_all := ag_in 181 (by decide +kernel) (by decide +kernel)
theorem m_182 : (Jvm.Cond.laysFinal "TwinRegister" "TwinRegister" "jobRows" "[LTwinRegister$Job;") ∈ ag_all := ag_in 182 (by decide +kernel) (by decide +kernel)
theorem m_183 : (Jvm.Cond.soleField "TwinRegister" "jobRows") ∈ ag_all := ag_in 183 (by decide +kernel) (by decide +kernel)
theorem m_184 : (Jvm.Cond.lays "TwinRegister" "TwinRegister" "jobCount" "I") ∈ ag_all := ag_in 184 (by decide +kernel) (by decide +kernel)
theorem m_185 : (Jvm.Cond.soleField "TwinRegister" "jobCount") ∈ ag_all := ag_in 185 (by decide +kernel) (by decide +kernel)
theorem m_186 : (Jvm.Cond.superclass "TwinRegister" "java/lang/Object") ∈ ag_all := ag_in 186 (by decide +kernel) (by decide +kernel)
theorem m_187 : (Jvm.Cond.methodLink "TwinRegisterLaw" (129 : Nat) ({ cls := "TwinRegister", name := "wave", desc := "()I" } : Jvm.MethodName)) ∈ ag_all := ag_in 187 (by decide +kernel) (by decide +kernel)
theorem m_188 : (Jvm.Cond.instanceMethod ({ cls := "TwinRegister", name := "wave", desc := "()I" } : Jvm.MethodName)) ∈ ag_all := ag_in 188 (by decide +kernel) (by decide +kernel)
theorem m_189 : (Jvm.Cond.selects "TwinRegister" ({ cls := "TwinRegister", name := "wave", desc := "()I" } : Jvm.MethodName) ({ cls := "TwinRegister", name := "wave", desc := "()I" } : Jvm.MethodName)) ∈ ag_all := ag_in 189 (by decide +kernel) (by decide +kernel)
theorem m_190 : (Jvm.Cond.code ({ cls := "TwinRegister", name := "wave", desc := "()I" } : Jvm.MethodName) prog_1_method_12_code (3 : Nat) (Option.some Jvm.ClassFile.FieldType.int)) ∈ ag_all := ag_in 190 (by decide +kernel) (by decide +kernel)
theorem m_191 : (Jvm.Cond.methodLink "TwinRegister" (167 : Nat) ({ cls := "TwinRegister", name := "advance", desc := "(LTwinRegister$Job;)I" } : Jvm.MethodName)) ∈ ag_all := ag_in 191 (by decide +kernel) (by decide +kernel)
theorem m_193 : (Jvm.Cond.instanceMethod ({ cls := "TwinRegister", name := "advance", desc := "(LTwinRegister$Job;)I" } : Jvm.MethodName)) ∈ ag_all := ag_in 193 (by decide +kernel) (by decide +kernel)
theorem m_194 : (Jvm.Cond.code ({ cls := "TwinRegister", name := "advance", desc := "(LTwinRegister$Job;)I" } : Jvm.MethodName) prog_1_method_35_code (2 : Nat) (Option.some Jvm.ClassFile.FieldType.int)) ∈ ag_all := ag_in 194 (by decide +kernel) (by decide +kernel)
theorem m_195 : (Jvm.Cond.methodLink "TwinRegister" (226 : Nat) ({ cls := "TwinRegister", name := "judgeStarted", desc := "(LTwinRegister$Job;)V" } : Jvm.MethodName)) ∈ ag_all := ag_in 195 (by decide +kernel) (by decide +kernel)
theorem m_197 : (Jvm.Cond.instanceMethod ({ cls := "TwinRegister", name := "judgeStarted", desc := "(LTwinRegister$Job;)V" } : Jvm.MethodName)) ∈ ag_all := ag_in 197 (by decide +kernel) (by decide +kernel)
theorem m_198 : (Jvm.Cond.code ({ cls := "TwinRegister", name := "judgeStarted", desc := "(LTwinRegister$Job;)V" } : Jvm.MethodName) prog_1_method_36_code (6 : Nat) (Option.none : Option Jvm.ClassFile.FieldType)) ∈ ag_all := ag_in 198 (by decide +kernel) (by decide +kernel)
theorem m_199 : (Jvm.Cond.methodLinkNest "TwinRegister" (177 : Nat) ({ cls := "TwinRegister$Job", name := "open", desc := "()I" } : Jvm.MethodName) "TwinRegister") ∈ ax_all := ax_in 199 (by decide +kernel) (by decide +kernel)
theorem m_201 : (Jvm.Cond.instanceMethod ({ cls := "TwinRegister$Job", name := "open", desc := "()I" } : Jvm.MethodName)) ∈ ag_all := ag_in 201 (by decide +kernel) (by decide +kernel)
theorem m_202 : (Jvm.Cond.code ({ cls := "TwinRegister$Job", name := "open", desc := "()I" } : Jvm.MethodName) prog_5_method_2_code (1 : Nat) (Option.some Jvm.ClassFile.FieldType.int)) ∈ ag_all := ag_in 202 (by decide +kernel) (by decide +kernel)
theorem m_203 : (Jvm.Cond.methodLink "TwinRegister" (97 : Nat) ({ cls := "java/lang/Integer", name := "bitCount", desc := "(I)I" } : Jvm.MethodName)) ∈ ag_all := ag_in 203 (by decide +kernel) (by decide +kernel)
theorem m_204 : (Jvm.Cond.static ({ cls := "java/lang/Integer", name := "bitCount", desc := "(I)I" } : Jvm.MethodName)) ∈ ag_all := ag_in 204 (by decide +kernel) (by decide +kernel)
theorem m_205 : (Jvm.Cond.code ({ cls := "java/lang/Integer", name := "bitCount", desc := "(I)I" } : Jvm.MethodName) prog_12_method_49_code (1 : Nat) (Option.some Jvm.ClassFile.FieldType.int)) ∈ ag_all := ag_in 205 (by decide +kernel) (by decide +kernel)
theorem m_206 : (Jvm.Cond.constant "java/lang/Integer" (265 : Nat) (1431655765 : Int32)) ∈ ag_all := ag_in 206 (by decide +kernel) (by decide +kernel)
theorem m_207 : (Jvm.Cond.constant "java/lang/Integer" (266 : Nat) (858993459 : Int32)) ∈ ag_all := ag_in 207 (by decide +kernel) (by decide +kernel)
theorem m_208 : (Jvm.Cond.constant "java/lang/Integer" (267 : Nat) (252645135 : Int32)) ∈ ag_all := ag_in 208 (by decide +kernel) (by decide +kernel)
theorem m_209 : (Jvm.Cond.methodLink "TwinRegister" (230 : Nat) ({ cls := "TwinRegister", name := "startMore", desc := "(LTwinRegister$Job;)I" } : Jvm.MethodName)) ∈ ag_all := ag_in 209 (by decide +kernel) (by decide +kernel)
theorem m_211 : (Jvm.Cond.instanceMethod ({ cls := "TwinRegister", name := "startMore", desc := "(LTwinRegister$Job;)I" } : Jvm.MethodName)) ∈ ag_all := ag_in 211 (by decide +kernel) (by decide +kernel)
theorem m_212 : (Jvm.Cond.code ({ cls := "TwinRegister", name := "startMore", desc := "(LTwinRegister$Job;)I" } : Jvm.MethodName) prog_1_method_37_code (6 : Nat) (Option.some Jvm.ClassFile.FieldType.int)) ∈ ag_all := ag_in 212 (by decide +kernel) (by decide +kernel)
theorem m_213 : (Jvm.Cond.methodLink "TwinRegister" (142 : Nat) ({ cls := "TwinRegister", name := "membersOf", desc := "(LTwinRegister$Group;)I" } : Jvm.MethodName)) ∈ ag_all := ag_in 213 (by decide +kernel) (by decide +kernel)
theorem m_215 : (Jvm.Cond.instanceMethod ({ cls := "TwinRegister", name := "membersOf", desc := "(LTwinRegister$Group;)I" } : Jvm.MethodName)) ∈ ag_all := ag_in 215 (by decide +kernel) (by decide +kernel)
theorem m_216 : (Jvm.Cond.code ({ cls := "TwinRegister", name := "membersOf", desc := "(LTwinRegister$Group;)I" } : Jvm.MethodName) prog_1_method_34_code (4 : Nat) (Option.some Jvm.ClassFile.FieldType.int)) ∈ ag_all := ag_in 216 (by decide +kernel) (by decide +kernel)
theorem m_217 : (Jvm.Cond.methodLinkNest "TwinRegister" (222 : Nat) ({ cls := "TwinRegister$Group", name := "admits", desc := "(LTwinRegister$Device;)Z" } : Jvm.MethodName) "TwinRegister") ∈ ax_all := ax_in 217 (by decide +kernel) (by decide +kernel)
theorem m_219 : (Jvm.Cond.instanceMethod ({ cls := "TwinRegister$Group", name := "admits", desc := "(LTwinRegister$Device;)Z" } : Jvm.MethodName)) ∈ ag_all := ag_in 219 (by decide +kernel) (by decide +kernel)
theorem m_220 : (Jvm.Cond.code ({ cls := "TwinRegister$Group", name := "admits", desc := "(LTwinRegister$Device;)Z" } : Jvm.MethodName) prog_4_method_2_code (3 : Nat) (Option.some Jvm.ClassFile.FieldType.boolean)) ∈ ag_all := ag_in 220 (by decide +kernel) (by decide +kernel)
theorem m_221 : (Jvm.Cond.methodLinkNest "TwinRegister" (219 : Nat) ({ cls := "TwinRegister$Device", name := "takeWish", desc := "(II)V" } : Jvm.MethodName) "TwinRegister") ∈ ax_all := ax_in 221 (by decide +kernel) (by decide +kernel)
theorem m_223 : (Jvm.Cond.instanceMethod ({ cls := "TwinRegister$Device", name := "takeWish", desc := "(II)V" } : Jvm.MethodName)) ∈ ag_all := ag_in 223 (by decide +kernel) (by decide +kernel)
theorem m_224 : (Jvm.Cond.code ({ cls := "TwinRegister$Device", name := "takeWish", desc := "(II)V" } : Jvm.MethodName) prog_2_method_2_code (3 : Nat) (Option.none : Option Jvm.ClassFile.FieldType)) ∈ ag_all := ag_in 224 (by decide +kernel) (by decide +kernel)
theorem m_225 : (Jvm.Cond.methodLink "TwinRegister$Device" (21 : Nat) ({ cls := "TwinRegister$Device", name := "keepDifference", desc := "(I)V" } : Jvm.MethodName)) ∈ ag_all := ag_in 225 (by decide +kernel) (by decide +kernel)
theorem m_227 : (Jvm.Cond.instanceMethod ({ cls := "TwinRegister$Device", name := "keepDifference", desc := "(I)V" } : Jvm.MethodName)) ∈ ag_all := ag_in 227 (by decide +kernel) (by decide +kernel)
theorem m_228 : (Jvm.Cond.code ({ cls := "TwinRegister$Device", name := "keepDifference", desc := "(I)V" } : Jvm.MethodName) prog_2_method_5_code (2 : Nat) (Option.none : Option Jvm.ClassFile.FieldType)) ∈ ag_all := ag_in 228 (by decide +kernel) (by decide +kernel)
theorem m_229 : (Jvm.Cond.methodLink "TwinRegister$Device" (25 : Nat) ({ cls := "TwinRegister$Device", name := "comparesUnlike", desc := "(I)Z" } : Jvm.MethodName)) ∈ ag_all := ag_in 229 (by decide +kernel) (by decide +kernel)
theorem m_231 : (Jvm.Cond.instanceMethod ({ cls := "TwinRegister$Device", name := "comparesUnlike", desc := "(I)Z" } : Jvm.MethodName)) ∈ ag_all := ag_in 231 (by decide +kernel) (by decide +kernel)
theorem m_232 : (Jvm.Cond.code ({ cls := "TwinRegister$Device", name := "comparesUnlike", desc := "(I)Z" } : Jvm.MethodName) prog_2_method_7_code (2 : Nat) (Option.some Jvm.ClassFile.FieldType.boolean)) ∈ ag_all := ag_in 232 (by decide +kernel) (by decide +kernel)
theorem m_233 : (Jvm.Cond.methodLink "TwinRegisterLaw" (160 : Nat) ({ cls := "TwinRegister", name := "jobs", desc := "()I" } : Jvm.MethodName)) ∈ ag_all := ag_in 233 (by decide +kernel) (by decide +kernel)
theorem m_234 : (Jvm.Cond.instanceMethod ({ cls := "TwinRegister", name := "jobs", desc := "()I" } : Jvm.MethodName)) ∈ ag_all := ag_in 234 (by decide +kernel) (by decide +kernel)
theorem m_235 : (Jvm.Cond.selects "TwinRegister" ({ cls := "TwinRegister", name := "jobs", desc := "()I" } : Jvm.MethodName) ({ cls := "TwinRegister", name := "jobs", desc := "()I" } : Jvm.MethodName)) ∈ ag_all := ag_in 235 (by decide +kernel) (by decide +kernel)
theorem m_236 : (Jvm.Cond.code ({ cls := "TwinRegister", name := "jobs", desc := "()I" } : Jvm.MethodName) prog_1_method_22_code (1 : Nat) (Option.some Jvm.ClassFile.FieldType.int)) ∈ ag_all := ag_in 236 (by decide +kernel) (by decide +kernel)
theorem m_237 : (Jvm.Cond.methodLink "TwinRegisterLaw" (88 : Nat) ({ cls := "TwinRegisterLaw", name := "put", desc := "(LTwinRegister;II[J)I" } : Jvm.MethodName)) ∈ ag_all := ag_in 237 (by decide +kernel) (by decide +kernel)
theorem m_238 : (Jvm.Cond.static ({ cls := "TwinRegisterLaw", name := "put", desc := "(LTwinRegister;II[J)I" } : Jvm.MethodName)) ∈ ag_all := ag_in 238 (by decide +kernel) (by decide +kernel)
theorem m_239 : (Jvm.Cond.codeWith ({ cls := "TwinRegisterLaw", name := "put", desc := "(LTwinRegister;II[J)I" } : Jvm.MethodName) method_3_code (5 : Nat) (Option.some Jvm.ClassFile.FieldType.int) [((0 : Nat), (10 : Nat), (13 : Nat), (13 : Nat)), ((0 : Nat), (10 : Nat), (17 : Nat), (15 : Nat))]) ∈ ag_all := ag_in 239 (by decide +kernel) (by decide +kernel)
theorem m_240 : (Jvm.Cond.classLink "TwinRegisterLaw" (13 : Nat) "java/lang/IndexOutOfBoundsException") ∈ ag_all := ag_in 240 (by decide +kernel) (by decide +kernel)
theorem m_241 : (Jvm.Cond.classLink "TwinRegisterLaw" (15 : Nat) "java/lang/IllegalArgumentException") ∈ ag_all := ag_in 241 (by decide +kernel) (by decide +kernel)
theorem m_242 : (Jvm.Cond.methodLink "TwinRegisterLaw" (7 : Nat) ({ cls := "TwinRegister", name := "put", desc := "(II)I" } : Jvm.MethodName)) ∈ ag_all := ag_in 242 (by decide +kernel) (by decide +kernel)
theorem m_243 : (Jvm.Cond.instanceMethod ({ cls := "TwinRegister", name := "put", desc := "(II)I" } : Jvm.MethodName)) ∈ ag_all := ag_in 243 (by decide +kernel) (by decide +kernel)
theorem m_244 : (Jvm.Cond.selects "TwinRegister" ({ cls := "TwinRegister", name := "put", desc := "(II)I" } : Jvm.MethodName) ({ cls := "TwinRegister", name := "put", desc := "(II)I" } : Jvm.MethodName)) ∈ ag_all := ag_in 244 (by decide +kernel) (by decide +kernel)
theorem m_245 : (Jvm.Cond.code ({ cls := "TwinRegister", name := "put", desc := "(II)I" } : Jvm.MethodName) prog_1_method_2_code (3 : Nat) (Option.some Jvm.ClassFile.FieldType.int)) ∈ ag_all := ag_in 245 (by decide +kernel) (by decide +kernel)
theorem m_246 : (Jvm.Cond.methodLink "TwinRegister" (41 : Nat) ({ cls := "TwinRegister", name := "requireLeaf", desc := "(I)V" } : Jvm.MethodName)) ∈ ag_all := ag_in 246 (by decide +kernel) (by decide +kernel)
theorem m_247 : (Jvm.Cond.static ({ cls := "TwinRegister", name := "requireLeaf", desc := "(I)V" } : Jvm.MethodName)) ∈ ag_all := ag_in 247 (by decide +kernel) (by decide +kernel)
theorem m_248 : (Jvm.Cond.code ({ cls := "TwinRegister", name := "requireLeaf", desc := "(I)V" } : Jvm.MethodName) prog_1_method_29_code (1 : Nat) (Option.none : Option Jvm.ClassFile.FieldType)) ∈ ag_all := ag_in 248 (by decide +kernel) (by decide +kernel)
theorem m_249 : (Jvm.Cond.classLink "TwinRegister" (57 : Nat) "java/lang/IndexOutOfBoundsException") ∈ ag_all := ag_in 249 (by decide +kernel) (by decide +kernel)
theorem m_250 : (Jvm.Cond.instantiable "java/lang/IndexOutOfBoundsException" (6 : Nat)) ∈ ag_all := ag_in 250 (by decide +kernel) (by decide +kernel)
theorem m_251 : (Jvm.Cond.castable "java/lang/IndexOutOfBoundsException" "java/lang/IndexOutOfBoundsException") ∈ ax_all := ax_in 251 (by decide +kernel) (by decide +kernel)
theorem m_252 : (Jvm.Cond.declares ({ cls := "java/lang/RuntimeException", name := "<init>", desc := "()V" } : Jvm.MethodName)) ∈ ax_all := ax_in 252 (by decide +kernel) (by decide +kernel)
theorem m_253 : (Jvm.Cond.declares ({ cls := "java/lang/RuntimeException", name := "<init>", desc := "(Ljava/lang/String;)V" } : Jvm.MethodName)) ∈ ax_all := ax_in 253 (by decide +kernel) (by decide +kernel)
theorem m_254 : (Jvm.Cond.declares ({ cls := "java/lang/Exception", name := "<init>", desc := "()V" } : Jvm.MethodName)) ∈ ax_all := ax_in 254 (by decide +kernel) (by decide +kernel)
theorem m_255 : (Jvm.Cond.declares ({ cls := "java/lang/Exception", name := "<init>", desc := "(Ljava/lang/String;)V" } : Jvm.MethodName)) ∈ ax_all := ax_in 255 (by decide +kernel) (by decide +kernel)
theorem m_256 : (Jvm.Cond.declares ({ cls := "java/lang/Throwable", name := "<init>", desc := "()V" } : Jvm.MethodName)) ∈ ax_all := ax_in 256 (by decide +kernel) (by decide +kernel)
theorem m_257 : (Jvm.Cond.declares ({ cls := "java/lang/Throwable", name := "<init>", desc := "(Ljava/lang/String;)V" } : Jvm.MethodName)) ∈ ax_all := ax_in 257 (by decide +kernel) (by decide +kernel)
theorem m_258 : (Jvm.Cond.selects "java/lang/IndexOutOfBoundsException" ({ cls := "java/lang/Throwable", name := "fillInStackTrace", desc := "(I)Ljava/lang/Throwable;" } : Jvm.MethodName) ({ cls := "java/lang/Throwable", name := "fillInStackTrace", desc := "(I)Ljava/lang/Throwable;" } : Jvm.MethodName)) ∈ ag_all := ag_in 258 (by decide +kernel) (by decide +kernel)
theorem m_259 : (Jvm.Cond.selects "java/lang/IndexOutOfBoundsException" ({ cls := "java/lang/Throwable", name := "fillInStackTrace", desc := "()Ljava/lang/Throwable;" } : Jvm.MethodName) ({ cls := "java/lang/Throwable", name := "fillInStackTrace", desc := "()Ljava/lang/Throwable;" } : Jvm.MethodName)) ∈ ag_all := ag_in 259 (by decide +kernel) (by decide +kernel)
theorem m_260 : (Jvm.Cond.lays "java/lang/IndexOutOfBoundsException" "java/lang/Throwable" "cause" "Ljava/lang/Throwable;") ∈ ag_all := ag_in 260 (by decide +kernel) (by decide +kernel)
theorem m_261 : (Jvm.Cond.lays "java/lang/Throwable" "java/lang/Throwable" "cause" "Ljava/lang/Throwable;") ∈ ag_all := ag_in 261 (by decide +kernel) (by decide +kernel)
theorem m_262 : (Jvm.Cond.lays "java/lang/IndexOutOfBoundsException" "java/lang/Throwable" "stackTrace" "[Ljava/lang/StackTraceElement;") ∈ ag_all := ag_in 262 (by decide +kernel) (by decide +kernel)
theorem m_263 : (Jvm.Cond.lays "java/lang/Throwable" "java/lang/Throwable" "stackTrace" "[Ljava/lang/StackTraceElement;") ∈ ag_all := ag_in 263 (by decide +kernel) (by decide +kernel)
theorem m_264 : (Jvm.Cond.lays "java/lang/IndexOutOfBoundsException" "java/lang/Throwable" "suppressedExceptions" "Ljava/util/List;") ∈ ag_all := ag_in 264 (by decide +kernel) (by decide +kernel)
theorem m_265 : (Jvm.Cond.lays "java/lang/Throwable" "java/lang/Throwable" "suppressedExceptions" "Ljava/util/List;") ∈ ag_all := ag_in 265 (by decide +kernel) (by decide +kernel)
theorem m_266 : (Jvm.Cond.lays "java/lang/IndexOutOfBoundsException" "java/lang/Throwable" "detailMessage" "Ljava/lang/String;") ∈ ag_all := ag_in 266 (by decide +kernel) (by decide +kernel)
theorem m_267 : (Jvm.Cond.lays "java/lang/Throwable" "java/lang/Throwable" "detailMessage" "Ljava/lang/String;") ∈ ag_all := ag_in 267 (by decide +kernel) (by decide +kernel)
theorem m_268 : (Jvm.Cond.lays "java/lang/IndexOutOfBoundsException" "java/lang/Throwable" "backtrace" "Ljava/lang/Object;") ∈ ag_all := ag_in 268 (by decide +kernel) (by decide +kernel)
theorem m_269 : (Jvm.Cond.lays "java/lang/Throwable" "java/lang/Throwable" "backtrace" "Ljava/lang/Object;") ∈ ag_all := ag_in 269 (by decide +kernel) (by decide +kernel)
theorem m_270 : (Jvm.Cond.fieldLink "java/lang/Throwable" (198 : Nat) "java/lang/Throwable" "backtrace" "Ljava/lang/Object;") ∈ ag_all := ag_in 270 (by decide +kernel) (by decide +kernel)
theorem m_271 : (Jvm.Cond.superclass "java/lang/Throwable" "java/lang/Object") ∈ ag_all := ag_in 271 (by decide +kernel) (by decide +kernel)
theorem m_272 : (Jvm.Cond.instanceMethod ({ cls := "java/lang/Throwable", name := "<init>", desc := "()V" } : Jvm.MethodName)) ∈ ag_all := ag_in 272 (by decide +kernel) (by decide +kernel)
theorem m_273 : (Jvm.Cond.code ({ cls := "java/lang/Throwable", name := "<init>", desc := "()V" } : Jvm.MethodName) prog_15_method_1_code (1 : Nat) (Option.none : Option Jvm.ClassFile.FieldType)) ∈ ag_all := ag_in 273 (by decide +kernel) (by decide +kernel)
theorem m_274 : (Jvm.Cond.methodLink "java/lang/Throwable" (1 : Nat) ({ cls := "java/lang/Object", name := "<init>", desc := "()V" } : Jvm.MethodName)) ∈ ag_all := ag_in 274 (by decide +kernel) (by decide +kernel)
theorem m_275 : (Jvm.Cond.fieldLink "java/lang/Throwable" (13 : Nat) "java/lang/Throwable" "UNASSIGNED_STACK" "[Ljava/lang/StackTraceElement;") ∈ ag_all := ag_in 275 (by decide +kernel) (by decide +kernel)
theorem m_277 : (Jvm.Cond.fieldLink "java/lang/Throwable" (20 : Nat) "java/lang/Throwable" "SUPPRESSED_SENTINEL" "Ljava/util/List;") ∈ ag_all := ag_in 277 (by decide +kernel) (by decide +kernel)
theorem m_279 : (Jvm.Cond.methodLink "java/lang/Throwable" (27 : Nat) ({ cls := "java/lang/Throwable", name := "fillInStackTrace", desc := "()Ljava/lang/Throwable;" } : Jvm.MethodName)) ∈ ag_all := ag_in 279 (by decide +kernel) (by decide +kernel)
theorem m_280 : (Jvm.Cond.instanceMethod ({ cls := "java/lang/Throwable", name := "fillInStackTrace", desc := "()Ljava/lang/Throwable;" } : Jvm.MethodName)) ∈ ag_all := ag_in 280 (by decide +kernel) (by decide +kernel)
theorem m_281 : (Jvm.Cond.sameMethod "java/lang/Throwable" "java/lang/Throwable" "fillInStackTrace" "()Ljava/lang/Throwable;") ∈ ag_all := ag_in 281 (by decide +kernel) (by decide +kernel)
theorem m_282 : (Jvm.Cond.selects "java/lang/IllegalArgumentException" ({ cls := "java/lang/Throwable", name := "fillInStackTrace", desc := "()Ljava/lang/Throwable;" } : Jvm.MethodName) ({ cls := "java/lang/Throwable", name := "fillInStackTrace", desc := "()Ljava/lang/Throwable;" } : Jvm.MethodName)) ∈ ag_all := ag_in 282 (by decide +kernel) (by decide +kernel)
theorem m_283 : (Jvm.Cond.selects "java/lang/IllegalStateException" ({ cls := "java/lang/Throwable", name := "fillInStackTrace", desc := "()Ljava/lang/Throwable;" } : Jvm.MethodName) ({ cls := "java/lang/Throwable", name := "fillInStackTrace", desc := "()Ljava/lang/Throwable;" } : Jvm.MethodName)) ∈ ag_all := ag_in 283 (by decide +kernel) (by decide +kernel)
theorem m_284 : (Jvm.Cond.codeSync ({ cls := "java/lang/Throwable", name := "fillInStackTrace", desc := "()Ljava/lang/Throwable;" } : Jvm.MethodName) prog_15_method_18_code (1 : Nat) (Option.some (Jvm.ClassFile.FieldType.object "java/lang/Throwable"))) ∈ ag_all := ag_in 284 (by decide +kernel) (by decide +kernel)
theorem m_285 : (Jvm.Cond.methodLink "java/lang/Throwable" (202 : Nat) ({ cls := "java/lang/Throwable", name := "fillInStackTrace", desc := "(I)Ljava/lang/Throwable;" } : Jvm.MethodName)) ∈ ag_all := ag_in 285 (by decide +kernel) (by decide +kernel)
theorem m_287 : (Jvm.Cond.instanceMethod ({ cls := "java/lang/Throwable", name := "fillInStackTrace", desc := "(I)Ljava/lang/Throwable;" } : Jvm.MethodName)) ∈ ag_all := ag_in 287 (by decide +kernel) (by decide +kernel)
theorem m_288 : (Jvm.Cond.instantiable "java/lang/Throwable" (6 : Nat)) ∈ ag_all := ag_in 288 (by decide +kernel) (by decide +kernel)
theorem m_289 : (Jvm.Cond.native ({ cls := "java/lang/Throwable", name := "fillInStackTrace", desc := "(I)Ljava/lang/Throwable;" } : Jvm.MethodName)) ∈ ag_all := ag_in 289 (by decide +kernel) (by decide +kernel)
theorem m_291 : (Jvm.Cond.methodLink "TwinRegister" (61 : Nat) ({ cls := "java/lang/IndexOutOfBoundsException", name := "<init>", desc := "(Ljava/lang/String;)V" } : Jvm.MethodName)) ∈ ag_all := ag_in 291 (by decide +kernel) (by decide +kernel)
theorem m_292 : (Jvm.Cond.instanceMethod ({ cls := "java/lang/IndexOutOfBoundsException", name := "<init>", desc := "(Ljava/lang/String;)V" } : Jvm.MethodName)) ∈ ag_all := ag_in 292 (by decide +kernel) (by decide +kernel)
theorem m_293 : (Jvm.Cond.code ({ cls := "java/lang/IndexOutOfBoundsException", name := "<init>", desc := "(Ljava/lang/String;)V" } : Jvm.MethodName) prog_11_method_2_code (2 : Nat) (Option.none : Option Jvm.ClassFile.FieldType)) ∈ ag_all := ag_in 293 (by decide +kernel) (by decide +kernel)
theorem m_294 : (Jvm.Cond.methodLink "java/lang/IndexOutOfBoundsException" (7 : Nat) ({ cls := "java/lang/RuntimeException", name := "<init>", desc := "(Ljava/lang/String;)V" } : Jvm.MethodName)) ∈ ag_all := ag_in 294 (by decide +kernel) (by decide +kernel)
theorem m_295 : (Jvm.Cond.instanceMethod ({ cls := "java/lang/RuntimeException", name := "<init>", desc := "(Ljava/lang/String;)V" } : Jvm.MethodName)) ∈ ag_all := ag_in 295 (by decide +kernel) (by decide +kernel)
theorem m_296 : (Jvm.Cond.code ({ cls := "java/lang/RuntimeException", name := "<init>", desc := "(Ljava/lang/String;)V" } : Jvm.MethodName) prog_13_method_2_code (2 : Nat) (Option.none : Option Jvm.ClassFile.FieldType)) ∈ ag_all := ag_in 296 (by decide +kernel) (by decide +kernel)
theorem m_297 : (Jvm.Cond.methodLink "java/lang/RuntimeException" (7 : Nat) ({ cls := "java/lang/Exception", name := "<init>", desc := "(Ljava/lang/String;)V" } : Jvm.MethodName)) ∈ ag_all := ag_in 297 (by decide +kernel) (by decide +kernel)
theorem m_298 : (Jvm.Cond.instanceMethod ({ cls := "java/lang/Exception", name := "<init>", desc := "(Ljava/lang/String;)V" } : Jvm.MethodName)) ∈ ag_all := ag_in 298 (by decide +kernel) (by decide +kernel)
theorem m_299 : (Jvm.Cond.code ({ cls := "java/lang/Exception", name := "<init>", desc := "(Ljava/lang/String;)V" } : Jvm.MethodName) prog_8_method_2_code (2 : Nat) (Option.none : Option Jvm.ClassFile.FieldType)) ∈ ag_all := ag_in 299 (by decide +kernel) (by decide +kernel)
theorem m_300 : (Jvm.Cond.methodLink "java/lang/Exception" (7 : Nat) ({ cls := "java/lang/Throwable", name := "<init>", desc := "(Ljava/lang/String;)V" } : Jvm.MethodName)) ∈ ag_all := ag_in 300 (by decide +kernel) (by decide +kernel)
theorem m_301 : (Jvm.Cond.instanceMethod ({ cls := "java/lang/Throwable", name := "<init>", desc := "(Ljava/lang/String;)V" } : Jvm.MethodName)) ∈ ag_all := ag_in 301 (by decide +kernel) (by decide +kernel)
theorem m_302 : (Jvm.Cond.code ({ cls := "java/lang/Throwable", name := "<init>", desc := "(Ljava/lang/String;)V" } : Jvm.MethodName) prog_15_method_2_code (2 : Nat) (Option.none : Option Jvm.ClassFile.FieldType)) ∈ ag_all := ag_in 302 (by decide +kernel) (by decide +kernel)
theorem m_303 : (Jvm.Cond.fieldLink "java/lang/Throwable" (198 : Nat) "java/lang/Throwable" "backtrace" "Ljava/lang/Object;") ∈ ag_all := ag_in 303 (by decide +kernel) (by decide +kernel)
theorem m_304 : (Jvm.Cond.fieldLink "java/lang/Throwable" (31 : Nat) "java/lang/Throwable" "detailMessage" "Ljava/lang/String;") ∈ ag_all := ag_in 304 (by decide +kernel) (by decide +kernel)
theorem m_305 : (Jvm.Cond.fieldLink "java/lang/Throwable" (7 : Nat) "java/lang/Throwable" "cause" "Ljava/lang/Throwable;") ∈ ag_all := ag_in 305 (by decide +kernel) (by decide +kernel)
theorem m_306 : (Jvm.Cond.fieldLink "java/lang/Throwable" (17 : Nat) "java/lang/Throwable" "stackTrace" "[Ljava/lang/StackTraceElement;") ∈ ag_all := ag_in 306 (by decide +kernel) (by decide +kernel)
theorem m_307 : (Jvm.Cond.fieldLink "java/lang/Throwable" (24 : Nat) "java/lang/Throwable" "suppressedExceptions" "Ljava/util/List;") ∈ ag_all := ag_in 307 (by decide +kernel) (by decide +kernel)
theorem m_308 : (Jvm.Cond.soleField "java/lang/Throwable" "backtrace") ∈ ag_all := ag_in 308 (by decide +kernel) (by decide +kernel)
theorem m_309 : (Jvm.Cond.soleField "java/lang/Throwable" "detailMessage") ∈ ag_all := ag_in 309 (by decide +kernel) (by decide +kernel)
theorem m_310 : (Jvm.Cond.soleField "java/lang/Throwable" "cause") ∈ ag_all := ag_in 310 (by decide +kernel) (by decide +kernel)
theorem m_311 : (Jvm.Cond.soleField "java/lang/Throwable" "stackTrace") ∈ ag_all := ag_in 311 (by decide +kernel) (by decide +kernel)
theorem m_312 : (Jvm.Cond.lays "java/lang/IndexOutOfBoundsException" "java/lang/Throwable" "depth" "I") ∈ ag_all := ag_in 312 (by decide +kernel) (by decide +kernel)
theorem m_313 : (Jvm.Cond.soleField "java/lang/Throwable" "depth") ∈ ag_all := ag_in 313 (by decide +kernel) (by decide +kernel)
theorem m_314 : (Jvm.Cond.soleField "java/lang/Throwable" "suppressedExceptions") ∈ ag_all := ag_in 314 (by decide +kernel) (by decide +kernel)
theorem m_315 : (Jvm.Cond.superclass "java/lang/IndexOutOfBoundsException" "java/lang/RuntimeException") ∈ ag_all := ag_in 315 (by decide +kernel) (by decide +kernel)
theorem m_316 : (Jvm.Cond.arrayClass Jvm.ClassFile.FieldType.byte) ∈ ag_all := ag_in 316 (by decide +kernel) (by decide +kernel)
theorem m_317 : (Jvm.Cond.methodLink "TwinRegister" (45 : Nat) ({ cls := "TwinRegister", name := "requireInRange", desc := "(III)V" } : Jvm.MethodName)) ∈ ag_all := ag_in 317 (by decide +kernel) (by decide +kernel)
theorem m_318 : (Jvm.Cond.static ({ cls := "TwinRegister", name := "requireInRange", desc := "(III)V" } : Jvm.MethodName)) ∈ ag_all := ag_in 318 (by decide +kernel) (by decide +kernel)
theorem m_319 : (Jvm.Cond.code ({ cls := "TwinRegister", name := "requireInRange", desc := "(III)V" } : Jvm.MethodName) prog_1_method_30_code (3 : Nat) (Option.none : Option Jvm.ClassFile.FieldType)) ∈ ag_all := ag_in 319 (by decide +kernel) (by decide +kernel)
theorem m_320 : (Jvm.Cond.classLink "TwinRegister" (206 : Nat) "java/lang/IllegalArgumentException") ∈ ag_all := ag_in 320 (by decide +kernel) (by decide +kernel)
theorem m_321 : (Jvm.Cond.instantiable "java/lang/IllegalArgumentException" (6 : Nat)) ∈ ag_all := ag_in 321 (by decide +kernel) (by decide +kernel)
theorem m_322 : (Jvm.Cond.castable "java/lang/IllegalArgumentException" "java/lang/IllegalArgumentException") ∈ ax_all := ax_in 322 (by decide +kernel) (by decide +kernel)
theorem m_323 : (Jvm.Cond.selects "java/lang/IllegalArgumentException" ({ cls := "java/lang/Throwable", name := "fillInStackTrace", desc := "(I)Ljava/lang/Throwable;" } : Jvm.MethodName) ({ cls := "java/lang/Throwable", name := "fillInStackTrace", desc := "(I)Ljava/lang/Throwable;" } : Jvm.MethodName)) ∈ ag_all := ag_in 323 (by decide +kernel) (by decide +kernel)
theorem m_324 : (Jvm.Cond.lays "java/lang/IllegalArgumentException" "java/lang/Throwable" "cause" "Ljava/lang/Throwable;") ∈ ag_all := ag_in 324 (by decide +kernel) (by decide +kernel)
theorem m_325 : (Jvm.Cond.lays "java/lang/IllegalArgumentException" "java/lang/Throwable" "stackTrace" "[Ljava/lang/StackTraceElement;") ∈ ag_all := ag_in 325 (by decide +kernel) (by decide +kernel)
theorem m_326 : (Jvm.Cond.lays "java/lang/IllegalArgumentException" "java/lang/Throwable" "suppressedExceptions" "Ljava/util/List;") ∈ ag_all := ag_in 326 (by decide +kernel) (by decide +kernel)
theorem m_327 : (Jvm.Cond.lays "java/lang/IllegalArgumentException" "java/lang/Throwable" "detailMessage" "Ljava/lang/String;") ∈ ag_all := ag_in 327 (by decide +kernel) (by decide +kernel)
theorem m_328 : (Jvm.Cond.lays "java/lang/IllegalArgumentException" "java/lang/Throwable" "backtrace" "Ljava/lang/Object;") ∈ ag_all := ag_in 328 (by decide +kernel) (by decide +kernel)
theorem m_330 : (Jvm.Cond.methodLink "TwinRegister" (210 : Nat) ({ cls := "java/lang/IllegalArgumentException", name := "<init>", desc := "(Ljava/lang/String;)V" } : Jvm.MethodName)) ∈ ag_all := ag_in 330 (by decide +kernel) (by decide +kernel)
theorem m_331 : (Jvm.Cond.instanceMethod ({ cls := "java/lang/IllegalArgumentException", name := "<init>", desc := "(Ljava/lang/String;)V" } : Jvm.MethodName)) ∈ ag_all := ag_in 331 (by decide +kernel) (by decide +kernel)
theorem m_332 : (Jvm.Cond.code ({ cls := "java/lang/IllegalArgumentException", name := "<init>", desc := "(Ljava/lang/String;)V" } : Jvm.MethodName) prog_9_method_2_code (2 : Nat) (Option.none : Option Jvm.ClassFile.FieldType)) ∈ ag_all := ag_in 332 (by decide +kernel) (by decide +kernel)
theorem m_333 : (Jvm.Cond.methodLink "java/lang/IllegalArgumentException" (7 : Nat) ({ cls := "java/lang/RuntimeException", name := "<init>", desc := "(Ljava/lang/String;)V" } : Jvm.MethodName)) ∈ ag_all := ag_in 333 (by decide +kernel) (by decide +kernel)
theorem m_334 : (Jvm.Cond.lays "java/lang/IllegalArgumentException" "java/lang/Throwable" "depth" "I") ∈ ag_all := ag_in 334 (by decide +kernel) (by decide +kernel)
theorem m_335 : (Jvm.Cond.superclass "java/lang/IllegalArgumentException" "java/lang/RuntimeException") ∈ ag_all := ag_in 335 (by decide +kernel) (by decide +kernel)
theorem m_336 : (Jvm.Cond.methodLinkNest "TwinRegister" (49 : Nat) ({ cls := "TwinRegister$Draft", name := "assign", desc := "(II)V" } : Jvm.MethodName) "TwinRegister") ∈ ax_all := ax_in 336 (by decide +kernel) (by decide +kernel)
theorem m_338 : (Jvm.Cond.instanceMethod ({ cls := "TwinRegister$Draft", name := "assign", desc := "(II)V" } : Jvm.MethodName)) ∈ ag_all := ag_in 338 (by decide +kernel) (by decide +kernel)
theorem m_339 : (Jvm.Cond.code ({ cls := "TwinRegister$Draft", name := "assign", desc := "(II)V" } : Jvm.MethodName) prog_3_method_2_code (3 : Nat) (Option.none : Option Jvm.ClassFile.FieldType)) ∈ ag_all := ag_in 339 (by decide +kernel) (by decide +kernel)
theorem m_340 : (Jvm.Cond.methodLinkNest "TwinRegister" (53 : Nat) ({ cls := "TwinRegister$Draft", name := "count", desc := "()I" } : Jvm.MethodName) "TwinRegister") ∈ ax_all := ax_in 340 (by decide +kernel) (by decide +kernel)
theorem m_342 : (Jvm.Cond.instanceMethod ({ cls := "TwinRegister$Draft", name := "count", desc := "()I" } : Jvm.MethodName)) ∈ ag_all := ag_in 342 (by decide +kernel) (by decide +kernel)
theorem m_343 : (Jvm.Cond.code ({ cls := "TwinRegister$Draft", name := "count", desc := "()I" } : Jvm.MethodName) prog_3_method_4_code (1 : Nat) (Option.some Jvm.ClassFile.FieldType.int)) ∈ ag_all := ag_in 343 (by decide +kernel) (by decide +kernel)
theorem m_344 : (Jvm.Cond.methodLink "TwinRegister$Draft" (19 : Nat) ({ cls := "java/lang/Integer", name := "bitCount", desc := "(I)I" } : Jvm.MethodName)) ∈ ag_all := ag_in 344 (by decide +kernel) (by decide +kernel)
theorem m_345 : (Jvm.Cond.methodLink "TwinRegisterLaw" (98 : Nat) ({ cls := "TwinRegisterLaw", name := "drop", desc := "(LTwinRegister;I[J)I" } : Jvm.MethodName)) ∈ ag_all := ag_in 345 (by decide +kernel) (by decide +kernel)
theorem m_346 : (Jvm.Cond.static ({ cls := "TwinRegisterLaw", name := "drop", desc := "(LTwinRegister;I[J)I" } : Jvm.MethodName)) ∈ ag_all := ag_in 346 (by decide +kernel) (by decide +kernel)
theorem m_347 : (Jvm.Cond.codeWith ({ cls := "TwinRegisterLaw", name := "drop", desc := "(LTwinRegister;I[J)I" } : Jvm.MethodName) method_4_code (4 : Nat) (Option.some Jvm.ClassFile.FieldType.int) [((0 : Nat), (9 : Nat), (12 : Nat), (13 : Nat))]) ∈ ag_all := ag_in 347 (by decide +kernel) (by decide +kernel)
theorem m_348 : (Jvm.Cond.methodLink "TwinRegisterLaw" (17 : Nat) ({ cls := "TwinRegister", name := "drop", desc := "(I)I" } : Jvm.MethodName)) ∈ ag_all := ag_in 348 (by decide +kernel) (by decide +kernel)
theorem m_349 : (Jvm.Cond.instanceMethod ({ cls := "TwinRegister", name := "drop", desc := "(I)I" } : Jvm.MethodName)) ∈ ag_all := ag_in 349 (by decide +kernel) (by decide +kernel)
theorem m_350 : (Jvm.Cond.selects "TwinRegister" ({ cls := "TwinRegister", name := "drop", desc := "(I)I" } : Jvm.MethodName) ({ cls := "TwinRegister", name := "drop", desc := "(I)I" } : Jvm.MethodName)) ∈ ag_all := ag_in 350 (by decide +kernel) (by decide +kernel)
theorem m_351 : (Jvm.Cond.code ({ cls := "TwinRegister", name := "drop", desc := "(I)I" } : Jvm.MethodName) prog_1_method_3_code (4 : Nat) (Option.some Jvm.ClassFile.FieldType.int)) ∈ ag_all := ag_in 351 (by decide +kernel) (by decide +kernel)
theorem m_353 : (Jvm.Cond.methodLink "TwinRegisterLaw" (102 : Nat) ({ cls := "TwinRegisterLaw", name := "wish", desc := "(LTwinRegister;II[J)I" } : Jvm.MethodName)) ∈ ag_all := ag_in 353 (by decide +kernel) (by decide +kernel)
theorem m_354 : (Jvm.Cond.static ({ cls := "TwinRegisterLaw", name := "wish", desc := "(LTwinRegister;II[J)I" } : Jvm.MethodName)) ∈ ag_all := ag_in 354 (by decide +kernel) (by decide +kernel)
theorem m_355 : (Jvm.Cond.codeWith ({ cls := "TwinRegisterLaw", name := "wish", desc := "(LTwinRegister;II[J)I" } : Jvm.MethodName) method_5_code (5 : Nat) (Option.some Jvm.ClassFile.FieldType.int) [((0 : Nat), (10 : Nat), (13 : Nat), (13 : Nat)), ((0 : Nat), (10 : Nat), (17 : Nat), (24 : Nat))]) ∈ ag_all := ag_in 355 (by decide +kernel) (by decide +kernel)
theorem m_356 : (Jvm.Cond.classLink "TwinRegisterLaw" (24 : Nat) "java/lang/IllegalStateException") ∈ ag_all := ag_in 356 (by decide +kernel) (by decide +kernel)
theorem m_357 : (Jvm.Cond.methodLink "TwinRegisterLaw" (21 : Nat) ({ cls := "TwinRegister", name := "wish", desc := "(II)I" } : Jvm.MethodName)) ∈ ag_all := ag_in 357 (by decide +kernel) (by decide +kernel)
theorem m_358 : (Jvm.Cond.instanceMethod ({ cls := "TwinRegister", name := "wish", desc := "(II)I" } : Jvm.MethodName)) ∈ ag_all := ag_in 358 (by decide +kernel) (by decide +kernel)
theorem m_359 : (Jvm.Cond.selects "TwinRegister" ({ cls := "TwinRegister", name := "wish", desc := "(II)I" } : Jvm.MethodName) ({ cls := "TwinRegister", name := "wish", desc := "(II)I" } : Jvm.MethodName)) ∈ ag_all := ag_in 359 (by decide +kernel) (by decide +kernel)
theorem m_360 : (Jvm.Cond.code ({ cls := "TwinRegister", name := "wish", desc := "(II)I" } : Jvm.MethodName) prog_1_method_4_code (4 : Nat) (Option.some Jvm.ClassFile.FieldType.int)) ∈ ag_all := ag_in 360 (by decide +kernel) (by decide +kernel)
theorem m_361 : (Jvm.Cond.methodLink "TwinRegister" (64 : Nat) ({ cls := "TwinRegister", name := "deviceAt", desc := "(I)LTwinRegister$Device;" } : Jvm.MethodName)) ∈ ag_all := ag_in 361 (by decide +kernel) (by decide +kernel)
theorem m_363 : (Jvm.Cond.instanceMethod ({ cls := "TwinRegister", name := "deviceAt", desc := "(I)LTwinRegister$Device;" } : Jvm.MethodName)) ∈ ag_all := ag_in 363 (by decide +kernel) (by decide +kernel)
theorem m_364 : (Jvm.Cond.code ({ cls := "TwinRegister", name := "deviceAt", desc := "(I)LTwinRegister$Device;" } : Jvm.MethodName) prog_1_method_25_code (2 : Nat) (Option.some (Jvm.ClassFile.FieldType.object "TwinRegister$Device"))) ∈ ag_all := ag_in 364 (by decide +kernel) (by decide +kernel)
theorem m_366 : (Jvm.Cond.classLink "TwinRegister" (68 : Nat) "java/lang/IllegalStateException") ∈ ag_all := ag_in 366 (by decide +kernel) (by decide +kernel)
theorem m_367 : (Jvm.Cond.instantiable "java/lang/IllegalStateException" (6 : Nat)) ∈ ag_all := ag_in 367 (by decide +kernel) (by decide +kernel)
theorem m_368 : (Jvm.Cond.castable "java/lang/IllegalStateException" "java/lang/IllegalStateException") ∈ ax_all := ax_in 368 (by decide +kernel) (by decide +kernel)
theorem m_369 : (Jvm.Cond.selects "java/lang/IllegalStateException" ({ cls := "java/lang/Throwable", name := "fillInStackTrace", desc := "(I)Ljava/lang/Throwable;" } : Jvm.MethodName) ({ cls := "java/lang/Throwable", name := "fillInStackTrace", desc := "(I)Ljava/lang/Throwable;" } : Jvm.MethodName)) ∈ ag_all := ag_in 369 (by decide +kernel) (by decide +kernel)
theorem m_370 : (Jvm.Cond.lays "java/lang/IllegalStateException" "java/lang/Throwable" "cause" "Ljava/lang/Throwable;") ∈ ag_all := ag_in 370 (by decide +kernel) (by decide +kernel)
theorem m_371 : (Jvm.Cond.lays "java/lang/IllegalStateException" "java/lang/Throwable" "stackTrace" "[Ljava/lang/StackTraceElement;") ∈ ag_all := ag_in 371 (by decide +kernel) (by decide +kernel)
theorem m_372 : (Jvm.Cond.lays "java/lang/IllegalStateException" "java/lang/Throwable" "suppressedExceptions" "Ljava/util/List;") ∈ ag_all := ag_in 372 (by decide +kernel) (by decide +kernel)
theorem m_373 : (Jvm.Cond.lays "java/lang/IllegalStateException" "java/lang/Throwable" "detailMessage" "Ljava/lang/String;") ∈ ag_all := ag_in 373 (by decide +kernel) (by decide +kernel)
theorem m_374 : (Jvm.Cond.lays "java/lang/IllegalStateException" "java/lang/Throwable" "backtrace" "Ljava/lang/Object;") ∈ ag_all := ag_in 374 (by decide +kernel) (by decide +kernel)
theorem m_376 : (Jvm.Cond.methodLink "TwinRegister" (72 : Nat) ({ cls := "java/lang/IllegalStateException", name := "<init>", desc := "(Ljava/lang/String;)V" } : Jvm.MethodName)) ∈ ag_all := ag_in 376 (by decide +kernel) (by decide +kernel)
theorem m_377 : (Jvm.Cond.instanceMethod ({ cls := "java/lang/IllegalStateException", name := "<init>", desc := "(Ljava/lang/String;)V" } : Jvm.MethodName)) ∈ ag_all := ag_in 377 (by decide +kernel) (by decide +kernel)
theorem m_378 : (Jvm.Cond.code ({ cls := "java/lang/IllegalStateException", name := "<init>", desc := "(Ljava/lang/String;)V" } : Jvm.MethodName) prog_10_method_2_code (2 : Nat) (Option.none : Option Jvm.ClassFile.FieldType)) ∈ ag_all := ag_in 378 (by decide +kernel) (by decide +kernel)
theorem m_379 : (Jvm.Cond.methodLink "java/lang/IllegalStateException" (7 : Nat) ({ cls := "java/lang/RuntimeException", name := "<init>", desc := "(Ljava/lang/String;)V" } : Jvm.MethodName)) ∈ ag_all := ag_in 379 (by decide +kernel) (by decide +kernel)
theorem m_380 : (Jvm.Cond.lays "java/lang/IllegalStateException" "java/lang/Throwable" "depth" "I") ∈ ag_all := ag_in 380 (by decide +kernel) (by decide +kernel)
theorem m_381 : (Jvm.Cond.superclass "java/lang/IllegalStateException" "java/lang/RuntimeException") ∈ ag_all := ag_in 381 (by decide +kernel) (by decide +kernel)
theorem m_383 : (Jvm.Cond.methodLink "TwinRegister" (78 : Nat) ({ cls := "TwinRegister", name := "mergeWish", desc := "(LTwinRegister$Device;)V" } : Jvm.MethodName)) ∈ ag_all := ag_in 383 (by decide +kernel) (by decide +kernel)
theorem m_385 : (Jvm.Cond.instanceMethod ({ cls := "TwinRegister", name := "mergeWish", desc := "(LTwinRegister$Device;)V" } : Jvm.MethodName)) ∈ ag_all := ag_in 385 (by decide +kernel) (by decide +kernel)
theorem m_386 : (Jvm.Cond.code ({ cls := "TwinRegister", name := "mergeWish", desc := "(LTwinRegister$Device;)V" } : Jvm.MethodName) prog_1_method_32_code (3 : Nat) (Option.none : Option Jvm.ClassFile.FieldType)) ∈ ag_all := ag_in 386 (by decide +kernel) (by decide +kernel)
theorem m_387 : (Jvm.Cond.methodLinkNest "TwinRegister" (213 : Nat) ({ cls := "TwinRegister$Draft", name := "has", desc := "(I)Z" } : Jvm.MethodName) "TwinRegister") ∈ ax_all := ax_in 387 (by decide +kernel) (by decide +kernel)
theorem m_389 : (Jvm.Cond.instanceMethod ({ cls := "TwinRegister$Draft", name := "has", desc := "(I)Z" } : Jvm.MethodName)) ∈ ag_all := ag_in 389 (by decide +kernel) (by decide +kernel)
theorem m_390 : (Jvm.Cond.code ({ cls := "TwinRegister$Draft", name := "has", desc := "(I)Z" } : Jvm.MethodName) prog_3_method_3_code (2 : Nat) (Option.some Jvm.ClassFile.FieldType.boolean)) ∈ ag_all := ag_in 390 (by decide +kernel) (by decide +kernel)
theorem m_391 : (Jvm.Cond.methodLinkNest "TwinRegister" (82 : Nat) ({ cls := "TwinRegister$Draft", name := "empty", desc := "()V" } : Jvm.MethodName) "TwinRegister") ∈ ax_all := ax_in 391 (by decide +kernel) (by decide +kernel)
theorem m_393 : (Jvm.Cond.instanceMethod ({ cls := "TwinRegister$Draft", name := "empty", desc := "()V" } : Jvm.MethodName)) ∈ ag_all := ag_in 393 (by decide +kernel) (by decide +kernel)
theorem m_394 : (Jvm.Cond.code ({ cls := "TwinRegister$Draft", name := "empty", desc := "()V" } : Jvm.MethodName) prog_3_method_5_code (1 : Nat) (Option.none : Option Jvm.ClassFile.FieldType)) ∈ ag_all := ag_in 394 (by decide +kernel) (by decide +kernel)
theorem m_395 : (Jvm.Cond.methodLink "TwinRegisterLaw" (105 : Nat) ({ cls := "TwinRegisterLaw", name := "report", desc := "(LTwinRegister;II[J)I" } : Jvm.MethodName)) ∈ ag_all := ag_in 395 (by decide +kernel) (by decide +kernel)
theorem m_396 : (Jvm.Cond.static ({ cls := "TwinRegisterLaw", name := "report", desc := "(LTwinRegister;II[J)I" } : Jvm.MethodName)) ∈ ag_all := ag_in 396 (by decide +kernel) (by decide +kernel)
theorem m_397 : (Jvm.Cond.codeWith ({ cls := "TwinRegisterLaw", name := "report", desc := "(LTwinRegister;II[J)I" } : Jvm.MethodName) method_6_code (5 : Nat) (Option.some Jvm.ClassFile.FieldType.int) [((0 : Nat), (10 : Nat), (13 : Nat), (13 : Nat)), ((0 : Nat), (10 : Nat), (17 : Nat), (15 : Nat)), ((0 : Nat), (10 : Nat), (21 : Nat), (24 : Nat))]) ∈ ag_all := ag_in 397 (by decide +kernel) (by decide +kernel)
theorem m_398 : (Jvm.Cond.methodLink "TwinRegisterLaw" (26 : Nat) ({ cls := "TwinRegister", name := "report", desc := "(II)I" } : Jvm.MethodName)) ∈ ag_all := ag_in 398 (by decide +kernel) (by decide +kernel)
theorem m_399 : (Jvm.Cond.instanceMethod ({ cls := "TwinRegister", name := "report", desc := "(II)I" } : Jvm.MethodName)) ∈ ag_all := ag_in 399 (by decide +kernel) (by decide +kernel)
theorem m_400 : (Jvm.Cond.selects "TwinRegister" ({ cls := "TwinRegister", name := "report", desc := "(II)I" } : Jvm.MethodName) ({ cls := "TwinRegister", name := "report", desc := "(II)I" } : Jvm.MethodName)) ∈ ag_all := ag_in 400 (by decide +kernel) (by decide +kernel)
theorem m_401 : (Jvm.Cond.code ({ cls := "TwinRegister", name := "report", desc := "(II)I" } : Jvm.MethodName) prog_1_method_5_code (5 : Nat) (Option.some Jvm.ClassFile.FieldType.int)) ∈ ag_all := ag_in 401 (by decide +kernel) (by decide +kernel)
theorem m_402 : (Jvm.Cond.methodLink "TwinRegister" (88 : Nat) ({ cls := "TwinRegister", name := "requireAwake", desc := "(LTwinRegister$Device;)V" } : Jvm.MethodName)) ∈ ag_all := ag_in 402 (by decide +kernel) (by decide +kernel)
theorem m_403 : (Jvm.Cond.static ({ cls := "TwinRegister", name := "requireAwake", desc := "(LTwinRegister$Device;)V" } : Jvm.MethodName)) ∈ ag_all := ag_in 403 (by decide +kernel) (by decide +kernel)
theorem m_404 : (Jvm.Cond.code ({ cls := "TwinRegister", name := "requireAwake", desc := "(LTwinRegister$Device;)V" } : Jvm.MethodName) prog_1_method_31_code (1 : Nat) (Option.none : Option Jvm.ClassFile.FieldType)) ∈ ag_all := ag_in 404 (by decide +kernel) (by decide +kernel)
theorem m_406 : (Jvm.Cond.methodLink "TwinRegister" (91 : Nat) ({ cls := "TwinRegister", name := "mergeReport", desc := "(LTwinRegister$Device;)V" } : Jvm.MethodName)) ∈ ag_all := ag_in 406 (by decide +kernel) (by decide +kernel)
theorem m_408 : (Jvm.Cond.instanceMethod ({ cls := "TwinRegister", name := "mergeReport", desc := "(LTwinRegister$Device;)V" } : Jvm.MethodName)) ∈ ag_all := ag_in 408 (by decide +kernel) (by decide +kernel)
theorem m_409 : (Jvm.Cond.code ({ cls := "TwinRegister", name := "mergeReport", desc := "(LTwinRegister$Device;)V" } : Jvm.MethodName) prog_1_method_33_code (3 : Nat) (Option.none : Option Jvm.ClassFile.FieldType)) ∈ ag_all := ag_in 409 (by decide +kernel) (by decide +kernel)
theorem m_410 : (Jvm.Cond.methodLinkNest "TwinRegister" (111 : Nat) ({ cls := "TwinRegister$Device", name := "takeReport", desc := "(II)V" } : Jvm.MethodName) "TwinRegister") ∈ ax_all := ax_in 410 (by decide +kernel) (by decide +kernel)
theorem m_412 : (Jvm.Cond.instanceMethod ({ cls := "TwinRegister$Device", name := "takeReport", desc := "(II)V" } : Jvm.MethodName)) ∈ ag_all := ag_in 412 (by decide +kernel) (by decide +kernel)
theorem m_413 : (Jvm.Cond.code ({ cls := "TwinRegister$Device", name := "takeReport", desc := "(II)V" } : Jvm.MethodName) prog_2_method_3_code (3 : Nat) (Option.none : Option Jvm.ClassFile.FieldType)) ∈ ag_all := ag_in 413 (by decide +kernel) (by decide +kernel)
theorem m_414 : (Jvm.Cond.methodLink "TwinRegisterLaw" (108 : Nat) ({ cls := "TwinRegisterLaw", name := "obey", desc := "(LTwinRegister;I[J)I" } : Jvm.MethodName)) ∈ ag_all := ag_in 414 (by decide +kernel) (by decide +kernel)
theorem m_415 : (Jvm.Cond.static ({ cls := "TwinRegisterLaw", name := "obey", desc := "(LTwinRegister;I[J)I" } : Jvm.MethodName)) ∈ ag_all := ag_in 415 (by decide +kernel) (by decide +kernel)
theorem m_416 : (Jvm.Cond.codeWith ({ cls := "TwinRegisterLaw", name := "obey", desc := "(LTwinRegister;I[J)I" } : Jvm.MethodName) method_7_code (4 : Nat) (Option.some Jvm.ClassFile.FieldType.int) [((0 : Nat), (9 : Nat), (12 : Nat), (13 : Nat)), ((0 : Nat), (9 : Nat), (15 : Nat), (24 : Nat))]) ∈ ag_all := ag_in 416 (by decide +kernel) (by decide +kernel)
theorem m_417 : (Jvm.Cond.methodLink "TwinRegisterLaw" (29 : Nat) ({ cls := "TwinRegister", name := "obey", desc := "(I)I" } : Jvm.MethodName)) ∈ ag_all := ag_in 417 (by decide +kernel) (by decide +kernel)
theorem m_418 : (Jvm.Cond.instanceMethod ({ cls := "TwinRegister", name := "obey", desc := "(I)I" } : Jvm.MethodName)) ∈ ag_all := ag_in 418 (by decide +kernel) (by decide +kernel)
theorem m_419 : (Jvm.Cond.selects "TwinRegister" ({ cls := "TwinRegister", name := "obey", desc := "(I)I" } : Jvm.MethodName) ({ cls := "TwinRegister", name := "obey", desc := "(I)I" } : Jvm.MethodName)) ∈ ag_all := ag_in 419 (by decide +kernel) (by decide +kernel)
theorem m_420 : (Jvm.Cond.code ({ cls := "TwinRegister", name := "obey", desc := "(I)I" } : Jvm.MethodName) prog_1_method_6_code (5 : Nat) (Option.some Jvm.ClassFile.FieldType.int)) ∈ ag_all := ag_in 420 (by decide +kernel) (by decide +kernel)
theorem m_421 : (Jvm.Cond.methodLinkNest "TwinRegister" (103 : Nat) ({ cls := "TwinRegister$Device", name := "differsAt", desc := "(I)Z" } : Jvm.MethodName) "TwinRegister") ∈ ax_all := ax_in 421 (by decide +kernel) (by decide +kernel)
theorem m_423 : (Jvm.Cond.instanceMethod ({ cls := "TwinRegister$Device", name := "differsAt", desc := "(I)Z" } : Jvm.MethodName)) ∈ ag_all := ag_in 423 (by decide +kernel) (by decide +kernel)
theorem m_424 : (Jvm.Cond.code ({ cls := "TwinRegister$Device", name := "differsAt", desc := "(I)Z" } : Jvm.MethodName) prog_2_method_6_code (2 : Nat) (Option.some Jvm.ClassFile.FieldType.boolean)) ∈ ag_all := ag_in 424 (by decide +kernel) (by decide +kernel)
theorem m_425 : (Jvm.Cond.methodLink "TwinRegisterLaw" (111 : Nat) ({ cls := "TwinRegisterLaw", name := "refuse", desc := "(LTwinRegister;III[J)I" } : Jvm.MethodName)) ∈ ag_all := ag_in 425 (by decide +kernel) (by decide +kernel)
theorem m_426 : (Jvm.Cond.static ({ cls := "TwinRegisterLaw", name := "refuse", desc := "(LTwinRegister;III[J)I" } : Jvm.MethodName)) ∈ ag_all := ag_in 426 (by decide +kernel) (by decide +kernel)
theorem m_427 : (Jvm.Cond.codeWith ({ cls := "TwinRegisterLaw", name := "refuse", desc := "(LTwinRegister;III[J)I" } : Jvm.MethodName) method_8_code (6 : Nat) (Option.some Jvm.ClassFile.FieldType.int) [((0 : Nat), (12 : Nat), (15 : Nat), (13 : Nat)), ((0 : Nat), (12 : Nat), (19 : Nat), (15 : Nat)), ((0 : Nat), (12 : Nat), (23 : Nat), (24 : Nat))]) ∈ ag_all := ag_in 427 (by decide +kernel) (by decide +kernel)
theorem m_428 : (Jvm.Cond.methodLink "TwinRegisterLaw" (32 : Nat) ({ cls := "TwinRegister", name := "refuse", desc := "(III)I" } : Jvm.MethodName)) ∈ ag_all := ag_in 428 (by decide +kernel) (by decide +kernel)
theorem m_429 : (Jvm.Cond.instanceMethod ({ cls := "TwinRegister", name := "refuse", desc := "(III)I" } : Jvm.MethodName)) ∈ ag_all := ag_in 429 (by decide +kernel) (by decide +kernel)
theorem m_430 : (Jvm.Cond.selects "TwinRegister" ({ cls := "TwinRegister", name := "refuse", desc := "(III)I" } : Jvm.MethodName) ({ cls := "TwinRegister", name := "refuse", desc := "(III)I" } : Jvm.MethodName)) ∈ ag_all := ag_in 430 (by decide +kernel) (by decide +kernel)
theorem m_431 : (Jvm.Cond.code ({ cls := "TwinRegister", name := "refuse", desc := "(III)I" } : Jvm.MethodName) prog_1_method_7_code (5 : Nat) (Option.some Jvm.ClassFile.FieldType.int)) ∈ ag_all := ag_in 431 (by decide +kernel) (by decide +kernel)
theorem m_433 : (Jvm.Cond.methodLinkNest "TwinRegister" (116 : Nat) ({ cls := "TwinRegister$Device", name := "takeRefusal", desc := "(II)V" } : Jvm.MethodName) "TwinRegister") ∈ ax_all := ax_in 433 (by decide +kernel) (by decide +kernel)
theorem m_435 : (Jvm.Cond.instanceMethod ({ cls := "TwinRegister$Device", name := "takeRefusal", desc := "(II)V" } : Jvm.MethodName)) ∈ ag_all := ag_in 435 (by decide +kernel) (by decide +kernel)
theorem m_436 : (Jvm.Cond.code ({ cls := "TwinRegister$Device", name := "takeRefusal", desc := "(II)V" } : Jvm.MethodName) prog_2_method_4_code (3 : Nat) (Option.none : Option Jvm.ClassFile.FieldType)) ∈ ag_all := ag_in 436 (by decide +kernel) (by decide +kernel)
theorem m_437 : (Jvm.Cond.methodLink "TwinRegisterLaw" (115 : Nat) ({ cls := "TwinRegisterLaw", name := "sleep", desc := "(LTwinRegister;I[J)I" } : Jvm.MethodName)) ∈ ag_all := ag_in 437 (by decide +kernel) (by decide +kernel)
theorem m_438 : (Jvm.Cond.static ({ cls := "TwinRegisterLaw", name := "sleep", desc := "(LTwinRegister;I[J)I" } : Jvm.MethodName)) ∈ ag_all := ag_in 438 (by decide +kernel) (by decide +kernel)
theorem m_439 : (Jvm.Cond.codeWith ({ cls := "TwinRegisterLaw", name := "sleep", desc := "(LTwinRegister;I[J)I" } : Jvm.MethodName) method_9_code (4 : Nat) (Option.some Jvm.ClassFile.FieldType.int) [((0 : Nat), (16 : Nat), (19 : Nat), (13 : Nat))]) ∈ ag_all := ag_in 439 (by decide +kernel) (by decide +kernel)
theorem m_440 : (Jvm.Cond.methodLink "TwinRegisterLaw" (36 : Nat) ({ cls := "TwinRegister", name := "sleep", desc := "(I)Z" } : Jvm.MethodName)) ∈ ag_all := ag_in 440 (by decide +kernel) (by decide +kernel)
theorem m_441 : (Jvm.Cond.instanceMethod ({ cls := "TwinRegister", name := "sleep", desc := "(I)Z" } : Jvm.MethodName)) ∈ ag_all := ag_in 441 (by decide +kernel) (by decide +kernel)
theorem m_442 : (Jvm.Cond.selects "TwinRegister" ({ cls := "TwinRegister", name := "sleep", desc := "(I)Z" } : Jvm.MethodName) ({ cls := "TwinRegister", name := "sleep", desc := "(I)Z" } : Jvm.MethodName)) ∈ ag_all := ag_in 442 (by decide +kernel) (by decide +kernel)
theorem m_443 : (Jvm.Cond.code ({ cls := "TwinRegister", name := "sleep", desc := "(I)Z" } : Jvm.MethodName) prog_1_method_8_code (4 : Nat) (Option.some Jvm.ClassFile.FieldType.boolean)) ∈ ag_all := ag_in 443 (by decide +kernel) (by decide +kernel)
theorem m_444 : (Jvm.Cond.methodLink "TwinRegisterLaw" (118 : Nat) ({ cls := "TwinRegisterLaw", name := "wake", desc := "(LTwinRegister;I[J)I" } : Jvm.MethodName)) ∈ ag_all := ag_in 444 (by decide +kernel) (by decide +kernel)
theorem m_445 : (Jvm.Cond.static ({ cls := "TwinRegisterLaw", name := "wake", desc := "(LTwinRegister;I[J)I" } : Jvm.MethodName)) ∈ ag_all := ag_in 445 (by decide +kernel) (by decide +kernel)
theorem m_446 : (Jvm.Cond.codeWith ({ cls := "TwinRegisterLaw", name := "wake", desc := "(LTwinRegister;I[J)I" } : Jvm.MethodName) method_10_code (4 : Nat) (Option.some Jvm.ClassFile.FieldType.int) [((0 : Nat), (9 : Nat), (12 : Nat), (13 : Nat))]) ∈ ag_all := ag_in 446 (by decide +kernel) (by decide +kernel)
theorem m_447 : (Jvm.Cond.methodLink "TwinRegisterLaw" (40 : Nat) ({ cls := "TwinRegister", name := "wake", desc := "(I)I" } : Jvm.MethodName)) ∈ ag_all := ag_in 447 (by decide +kernel) (by decide +kernel)
theorem m_448 : (Jvm.Cond.instanceMethod ({ cls := "TwinRegister", name := "wake", desc := "(I)I" } : Jvm.MethodName)) ∈ ag_all := ag_in 448 (by decide +kernel) (by decide +kernel)
theorem m_449 : (Jvm.Cond.selects "TwinRegister" ({ cls := "TwinRegister", name := "wake", desc := "(I)I" } : Jvm.MethodName) ({ cls := "TwinRegister", name := "wake", desc := "(I)I" } : Jvm.MethodName)) ∈ ag_all := ag_in 449 (by decide +kernel) (by decide +kernel)
theorem m_450 : (Jvm.Cond.code ({ cls := "TwinRegister", name := "wake", desc := "(I)I" } : Jvm.MethodName) prog_1_method_9_code (4 : Nat) (Option.some Jvm.ClassFile.FieldType.int)) ∈ ag_all := ag_in 450 (by decide +kernel) (by decide +kernel)
theorem m_451 : (Jvm.Cond.methodLinkNest "TwinRegister" (126 : Nat) ({ cls := "TwinRegister$Device", name := "heardVersion", desc := "()I" } : Jvm.MethodName) "TwinRegister") ∈ ax_all := ax_in 451 (by decide +kernel) (by decide +kernel)
theorem m_453 : (Jvm.Cond.instanceMethod ({ cls := "TwinRegister$Device", name := "heardVersion", desc := "()I" } : Jvm.MethodName)) ∈ ag_all := ag_in 453 (by decide +kernel) (by decide +kernel)
theorem m_454 : (Jvm.Cond.code ({ cls := "TwinRegister$Device", name := "heardVersion", desc := "()I" } : Jvm.MethodName) prog_2_method_8_code (1 : Nat) (Option.some Jvm.ClassFile.FieldType.int)) ∈ ag_all := ag_in 454 (by decide +kernel) (by decide +kernel)
theorem m_455 : (Jvm.Cond.methodLink "TwinRegisterLaw" (121 : Nat) ({ cls := "TwinRegisterLaw", name := "setGroup", desc := "(LTwinRegister;IIII[J)I" } : Jvm.MethodName)) ∈ ag_all := ag_in 455 (by decide +kernel) (by decide +kernel)
theorem m_456 : (Jvm.Cond.static ({ cls := "TwinRegisterLaw", name := "setGroup", desc := "(LTwinRegister;IIII[J)I" } : Jvm.MethodName)) ∈ ag_all := ag_in 456 (by decide +kernel) (by decide +kernel)
theorem m_457 : (Jvm.Cond.codeWith ({ cls := "TwinRegisterLaw", name := "setGroup", desc := "(LTwinRegister;IIII[J)I" } : Jvm.MethodName) method_11_code (7 : Nat) (Option.some Jvm.ClassFile.FieldType.int) [((0 : Nat), (14 : Nat), (17 : Nat), (13 : Nat)), ((0 : Nat), (14 : Nat), (21 : Nat), (15 : Nat))]) ∈ ag_all := ag_in 457 (by decide +kernel) (by decide +kernel)
theorem m_458 : (Jvm.Cond.methodLink "TwinRegisterLaw" (43 : Nat) ({ cls := "TwinRegister", name := "setGroup", desc := "(IIII)I" } : Jvm.MethodName)) ∈ ag_all := ag_in 458 (by decide +kernel) (by decide +kernel)
theorem m_459 : (Jvm.Cond.instanceMethod ({ cls := "TwinRegister", name := "setGroup", desc := "(IIII)I" } : Jvm.MethodName)) ∈ ag_all := ag_in 459 (by decide +kernel) (by decide +kernel)
theorem m_460 : (Jvm.Cond.selects "TwinRegister" ({ cls := "TwinRegister", name := "setGroup", desc := "(IIII)I" } : Jvm.MethodName) ({ cls := "TwinRegister", name := "setGroup", desc := "(IIII)I" } : Jvm.MethodName)) ∈ ag_all := ag_in 460 (by decide +kernel) (by decide +kernel)
theorem m_461 : (Jvm.Cond.code ({ cls := "TwinRegister", name := "setGroup", desc := "(IIII)I" } : Jvm.MethodName) prog_1_method_10_code (6 : Nat) (Option.some Jvm.ClassFile.FieldType.int)) ∈ ag_all := ag_in 461 (by decide +kernel) (by decide +kernel)
theorem m_462 : (Jvm.Cond.methodLink "TwinRegister" (129 : Nat) ({ cls := "TwinRegister", name := "groupAt", desc := "(I)LTwinRegister$Group;" } : Jvm.MethodName)) ∈ ag_all := ag_in 462 (by decide +kernel) (by decide +kernel)
theorem m_464 : (Jvm.Cond.instanceMethod ({ cls := "TwinRegister", name := "groupAt", desc := "(I)LTwinRegister$Group;" } : Jvm.MethodName)) ∈ ag_all := ag_in 464 (by decide +kernel) (by decide +kernel)
theorem m_465 : (Jvm.Cond.code ({ cls := "TwinRegister", name := "groupAt", desc := "(I)LTwinRegister$Group;" } : Jvm.MethodName) prog_1_method_26_code (2 : Nat) (Option.some (Jvm.ClassFile.FieldType.object "TwinRegister$Group"))) ∈ ag_all := ag_in 465 (by decide +kernel) (by decide +kernel)
theorem m_466 : (Jvm.Cond.methodLink "TwinRegister" (146 : Nat) ({ cls := "TwinRegister", name := "requireGroup", desc := "(I)V" } : Jvm.MethodName)) ∈ ag_all := ag_in 466 (by decide +kernel) (by decide +kernel)
theorem m_467 : (Jvm.Cond.static ({ cls := "TwinRegister", name := "requireGroup", desc := "(I)V" } : Jvm.MethodName)) ∈ ag_all := ag_in 467 (by decide +kernel) (by decide +kernel)
theorem m_468 : (Jvm.Cond.code ({ cls := "TwinRegister", name := "requireGroup", desc := "(I)V" } : Jvm.MethodName) prog_1_method_27_code (1 : Nat) (Option.none : Option Jvm.ClassFile.FieldType)) ∈ ag_all := ag_in 468 (by decide +kernel) (by decide +kernel)
theorem m_470 : (Jvm.Cond.methodLink "TwinRegisterLaw" (125 : Nat) ({ cls := "TwinRegisterLaw", name := "addJob", desc := "(LTwinRegister;IIIII[J)I" } : Jvm.MethodName)) ∈ ag_all := ag_in 470 (by decide +kernel) (by decide +kernel)
theorem m_471 : (Jvm.Cond.static ({ cls := "TwinRegisterLaw", name := "addJob", desc := "(LTwinRegister;IIIII[J)I" } : Jvm.MethodName)) ∈ ag_all := ag_in 471 (by decide +kernel) (by decide +kernel)
theorem m_472 : (Jvm.Cond.codeWith ({ cls := "TwinRegisterLaw", name := "addJob", desc := "(LTwinRegister;IIIII[J)I" } : Jvm.MethodName) method_12_code (8 : Nat) (Option.some Jvm.ClassFile.FieldType.int) [((0 : Nat), (16 : Nat), (19 : Nat), (13 : Nat)), ((0 : Nat), (16 : Nat), (23 : Nat), (15 : Nat)), ((0 : Nat), (16 : Nat), (27 : Nat), (24 : Nat))]) ∈ ag_all := ag_in 472 (by decide +kernel) (by decide +kernel)
theorem m_473 : (Jvm.Cond.methodLink "TwinRegisterLaw" (47 : Nat) ({ cls := "TwinRegister", name := "addJob", desc := "(IIIII)I" } : Jvm.MethodName)) ∈ ag_all := ag_in 473 (by decide +kernel) (by decide +kernel)
theorem m_474 : (Jvm.Cond.instanceMethod ({ cls := "TwinRegister", name := "addJob", desc := "(IIIII)I" } : Jvm.MethodName)) ∈ ag_all := ag_in 474 (by decide +kernel) (by decide +kernel)
theorem m_475 : (Jvm.Cond.selects "TwinRegister" ({ cls := "TwinRegister", name := "addJob", desc := "(IIIII)I" } : Jvm.MethodName) ({ cls := "TwinRegister", name := "addJob", desc := "(IIIII)I" } : Jvm.MethodName)) ∈ ag_all := ag_in 475 (by decide +kernel) (by decide +kernel)
theorem m_476 : (Jvm.Cond.code ({ cls := "TwinRegister", name := "addJob", desc := "(IIIII)I" } : Jvm.MethodName) prog_1_method_11_code (7 : Nat) (Option.some Jvm.ClassFile.FieldType.int)) ∈ ag_all := ag_in 476 (by decide +kernel) (by decide +kernel)
theorem m_478 : (Jvm.Cond.methodLink "TwinRegisterLaw" (133 : Nat) ({ cls := "TwinRegisterLaw", name := "cancel", desc := "(LTwinRegister;I[J)I" } : Jvm.MethodName)) ∈ ag_all := ag_in 478 (by decide +kernel) (by decide +kernel)
theorem m_479 : (Jvm.Cond.static ({ cls := "TwinRegisterLaw", name := "cancel", desc := "(LTwinRegister;I[J)I" } : Jvm.MethodName)) ∈ ag_all := ag_in 479 (by decide +kernel) (by decide +kernel)
theorem m_480 : (Jvm.Cond.codeWith ({ cls := "TwinRegisterLaw", name := "cancel", desc := "(LTwinRegister;I[J)I" } : Jvm.MethodName) method_13_code (4 : Nat) (Option.some Jvm.ClassFile.FieldType.int) [((0 : Nat), (9 : Nat), (12 : Nat), (13 : Nat)), ((0 : Nat), (9 : Nat), (15 : Nat), (24 : Nat))]) ∈ ag_all := ag_in 480 (by decide +kernel) (by decide +kernel)
theorem m_481 : (Jvm.Cond.methodLink "TwinRegisterLaw" (51 : Nat) ({ cls := "TwinRegister", name := "cancel", desc := "(I)I" } : Jvm.MethodName)) ∈ ag_all := ag_in 481 (by decide +kernel) (by decide +kernel)
theorem m_482 : (Jvm.Cond.instanceMethod ({ cls := "TwinRegister", name := "cancel", desc := "(I)I" } : Jvm.MethodName)) ∈ ag_all := ag_in 482 (by decide +kernel) (by decide +kernel)
theorem m_483 : (Jvm.Cond.selects "TwinRegister" ({ cls := "TwinRegister", name := "cancel", desc := "(I)I" } : Jvm.MethodName) ({ cls := "TwinRegister", name := "cancel", desc := "(I)I" } : Jvm.MethodName)) ∈ ag_all := ag_in 483 (by decide +kernel) (by decide +kernel)
theorem m_484 : (Jvm.Cond.code ({ cls := "TwinRegister", name := "cancel", desc := "(I)I" } : Jvm.MethodName) prog_1_method_13_code (3 : Nat) (Option.some Jvm.ClassFile.FieldType.int)) ∈ ag_all := ag_in 484 (by decide +kernel) (by decide +kernel)
theorem m_485 : (Jvm.Cond.methodLink "TwinRegister" (171 : Nat) ({ cls := "TwinRegister", name := "jobAt", desc := "(I)LTwinRegister$Job;" } : Jvm.MethodName)) ∈ ag_all := ag_in 485 (by decide +kernel) (by decide +kernel)
theorem m_487 : (Jvm.Cond.instanceMethod ({ cls := "TwinRegister", name := "jobAt", desc := "(I)LTwinRegister$Job;" } : Jvm.MethodName)) ∈ ag_all := ag_in 487 (by decide +kernel) (by decide +kernel)
theorem m_488 : (Jvm.Cond.code ({ cls := "TwinRegister", name := "jobAt", desc := "(I)LTwinRegister$Job;" } : Jvm.MethodName) prog_1_method_28_code (2 : Nat) (Option.some (Jvm.ClassFile.FieldType.object "TwinRegister$Job"))) ∈ ag_all := ag_in 488 (by decide +kernel) (by decide +kernel)
theorem m_491 : (Jvm.Cond.methodLink "TwinRegisterLaw" (136 : Nat) ({ cls := "TwinRegisterLaw", name := "version", desc := "(LTwinRegister;I[J)I" } : Jvm.MethodName)) ∈ ag_all := ag_in 491 (by decide +kernel) (by decide +kernel)
theorem m_492 : (Jvm.Cond.static ({ cls := "TwinRegisterLaw", name := "version", desc := "(LTwinRegister;I[J)I" } : Jvm.MethodName)) ∈ ag_all := ag_in 492 (by decide +kernel) (by decide +kernel)
theorem m_493 : (Jvm.Cond.codeWith ({ cls := "TwinRegisterLaw", name := "version", desc := "(LTwinRegister;I[J)I" } : Jvm.MethodName) method_14_code (4 : Nat) (Option.some Jvm.ClassFile.FieldType.int) [((0 : Nat), (9 : Nat), (12 : Nat), (13 : Nat))]) ∈ ag_all := ag_in 493 (by decide +kernel) (by decide +kernel)
theorem m_494 : (Jvm.Cond.methodLink "TwinRegisterLaw" (54 : Nat) ({ cls := "TwinRegister", name := "version", desc := "(I)I" } : Jvm.MethodName)) ∈ ag_all := ag_in 494 (by decide +kernel) (by decide +kernel)
theorem m_495 : (Jvm.Cond.instanceMethod ({ cls := "TwinRegister", name := "version", desc := "(I)I" } : Jvm.MethodName)) ∈ ag_all := ag_in 495 (by decide +kernel) (by decide +kernel)
theorem m_496 : (Jvm.Cond.selects "TwinRegister" ({ cls := "TwinRegister", name := "version", desc := "(I)I" } : Jvm.MethodName) ({ cls := "TwinRegister", name := "version", desc := "(I)I" } : Jvm.MethodName)) ∈ ag_all := ag_in 496 (by decide +kernel) (by decide +kernel)
theorem m_497 : (Jvm.Cond.code ({ cls := "TwinRegister", name := "version", desc := "(I)I" } : Jvm.MethodName) prog_1_method_14_code (2 : Nat) (Option.some Jvm.ClassFile.FieldType.int)) ∈ ag_all := ag_in 497 (by decide +kernel) (by decide +kernel)
theorem m_498 : (Jvm.Cond.methodLink "TwinRegisterLaw" (139 : Nat) ({ cls := "TwinRegisterLaw", name := "heard", desc := "(LTwinRegister;I[J)I" } : Jvm.MethodName)) ∈ ag_all := ag_in 498 (by decide +kernel) (by decide +kernel)
theorem m_499 : (Jvm.Cond.static ({ cls := "TwinRegisterLaw", name := "heard", desc := "(LTwinRegister;I[J)I" } : Jvm.MethodName)) ∈ ag_all := ag_in 499 (by decide +kernel) (by decide +kernel)
theorem m_500 : (Jvm.Cond.codeWith ({ cls := "TwinRegisterLaw", name := "heard", desc := "(LTwinRegister;I[J)I" } : Jvm.MethodName) method_15_code (4 : Nat) (Option.some Jvm.ClassFile.FieldType.int) [((0 : Nat), (9 : Nat), (12 : Nat), (13 : Nat))]) ∈ ag_all := ag_in 500 (by decide +kernel) (by decide +kernel)
theorem m_501 : (Jvm.Cond.methodLink "TwinRegisterLaw" (57 : Nat) ({ cls := "TwinRegister", name := "heard", desc := "(I)I" } : Jvm.MethodName)) ∈ ag_all := ag_in 501 (by decide +kernel) (by decide +kernel)
theorem m_502 : (Jvm.Cond.instanceMethod ({ cls := "TwinRegister", name := "heard", desc := "(I)I" } : Jvm.MethodName)) ∈ ag_all := ag_in 502 (by decide +kernel) (by decide +kernel)
theorem m_503 : (Jvm.Cond.selects "TwinRegister" ({ cls := "TwinRegister", name := "heard", desc := "(I)I" } : Jvm.MethodName) ({ cls := "TwinRegister", name := "heard", desc := "(I)I" } : Jvm.MethodName)) ∈ ag_all := ag_in 503 (by decide +kernel) (by decide +kernel)
theorem m_504 : (Jvm.Cond.code ({ cls := "TwinRegister", name := "heard", desc := "(I)I" } : Jvm.MethodName) prog_1_method_15_code (2 : Nat) (Option.some Jvm.ClassFile.FieldType.int)) ∈ ag_all := ag_in 504 (by decide +kernel) (by decide +kernel)
theorem m_505 : (Jvm.Cond.methodLink "TwinRegisterLaw" (142 : Nat) ({ cls := "TwinRegisterLaw", name := "wished", desc := "(LTwinRegister;II[J)I" } : Jvm.MethodName)) ∈ ag_all := ag_in 505 (by decide +kernel) (by decide +kernel)
theorem m_506 : (Jvm.Cond.static ({ cls := "TwinRegisterLaw", name := "wished", desc := "(LTwinRegister;II[J)I" } : Jvm.MethodName)) ∈ ag_all := ag_in 506 (by decide +kernel) (by decide +kernel)
theorem m_507 : (Jvm.Cond.codeWith ({ cls := "TwinRegisterLaw", name := "wished", desc := "(LTwinRegister;II[J)I" } : Jvm.MethodName) method_16_code (5 : Nat) (Option.some Jvm.ClassFile.FieldType.int) [((0 : Nat), (10 : Nat), (13 : Nat), (13 : Nat))]) ∈ ag_all := ag_in 507 (by decide +kernel) (by decide +kernel)
theorem m_508 : (Jvm.Cond.methodLink "TwinRegisterLaw" (60 : Nat) ({ cls := "TwinRegister", name := "wished", desc := "(II)I" } : Jvm.MethodName)) ∈ ag_all := ag_in 508 (by decide +kernel) (by decide +kernel)
theorem m_509 : (Jvm.Cond.instanceMethod ({ cls := "TwinRegister", name := "wished", desc := "(II)I" } : Jvm.MethodName)) ∈ ag_all := ag_in 509 (by decide +kernel) (by decide +kernel)
theorem m_510 : (Jvm.Cond.selects "TwinRegister" ({ cls := "TwinRegister", name := "wished", desc := "(II)I" } : Jvm.MethodName) ({ cls := "TwinRegister", name := "wished", desc := "(II)I" } : Jvm.MethodName)) ∈ ag_all := ag_in 510 (by decide +kernel) (by decide +kernel)
theorem m_511 : (Jvm.Cond.code ({ cls := "TwinRegister", name := "wished", desc := "(II)I" } : Jvm.MethodName) prog_1_method_16_code (4 : Nat) (Option.some Jvm.ClassFile.FieldType.int)) ∈ ag_all := ag_in 511 (by decide +kernel) (by decide +kernel)
theorem m_512 : (Jvm.Cond.methodLink "TwinRegisterLaw" (145 : Nat) ({ cls := "TwinRegisterLaw", name := "reported", desc := "(LTwinRegister;II[J)I" } : Jvm.MethodName)) ∈ ag_all := ag_in 512 (by decide +kernel) (by decide +kernel)
theorem m_513 : (Jvm.Cond.static ({ cls := "TwinRegisterLaw", name := "reported", desc := "(LTwinRegister;II[J)I" } : Jvm.MethodName)) ∈ ag_all := ag_in 513 (by decide +kernel) (by decide +kernel)
theorem m_514 : (Jvm.Cond.codeWith ({ cls := "TwinRegisterLaw", name := "reported", desc := "(LTwinRegister;II[J)I" } : Jvm.MethodName) method_17_code (5 : Nat) (Option.some Jvm.ClassFile.FieldType.int) [((0 : Nat), (10 : Nat), (13 : Nat), (13 : Nat))]) ∈ ag_all := ag_in 514 (by decide +kernel) (by decide +kernel)
theorem m_515 : (Jvm.Cond.methodLink "TwinRegisterLaw" (63 : Nat) ({ cls := "TwinRegister", name := "reported", desc := "(II)I" } : Jvm.MethodName)) ∈ ag_all := ag_in 515 (by decide +kernel) (by decide +kernel)
theorem m_516 : (Jvm.Cond.instanceMethod ({ cls := "TwinRegister", name := "reported", desc := "(II)I" } : Jvm.MethodName)) ∈ ag_all := ag_in 516 (by decide +kernel) (by decide +kernel)
theorem m_517 : (Jvm.Cond.selects "TwinRegister" ({ cls := "TwinRegister", name := "reported", desc := "(II)I" } : Jvm.MethodName) ({ cls := "TwinRegister", name := "reported", desc := "(II)I" } : Jvm.MethodName)) ∈ ag_all := ag_in 517 (by decide +kernel) (by decide +kernel)
theorem m_518 : (Jvm.Cond.code ({ cls := "TwinRegister", name := "reported", desc := "(II)I" } : Jvm.MethodName) prog_1_method_17_code (4 : Nat) (Option.some Jvm.ClassFile.FieldType.int)) ∈ ag_all := ag_in 518 (by decide +kernel) (by decide +kernel)
theorem m_519 : (Jvm.Cond.methodLink "TwinRegisterLaw" (148 : Nat) ({ cls := "TwinRegisterLaw", name := "why", desc := "(LTwinRegister;II[J)I" } : Jvm.MethodName)) ∈ ag_all := ag_in 519 (by decide +kernel) (by decide +kernel)
theorem m_520 : (Jvm.Cond.static ({ cls := "TwinRegisterLaw", name := "why", desc := "(LTwinRegister;II[J)I" } : Jvm.MethodName)) ∈ ag_all := ag_in 520 (by decide +kernel) (by decide +kernel)
theorem m_521 : (Jvm.Cond.codeWith ({ cls := "TwinRegisterLaw", name := "why", desc := "(LTwinRegister;II[J)I" } : Jvm.MethodName) method_18_code (5 : Nat) (Option.some Jvm.ClassFile.FieldType.int) [((0 : Nat), (10 : Nat), (13 : Nat), (13 : Nat))]) ∈ ag_all := ag_in 521 (by decide +kernel) (by decide +kernel)
theorem m_522 : (Jvm.Cond.methodLink "TwinRegisterLaw" (66 : Nat) ({ cls := "TwinRegister", name := "why", desc := "(II)I" } : Jvm.MethodName)) ∈ ag_all := ag_in 522 (by decide +kernel) (by decide +kernel)
theorem m_523 : (Jvm.Cond.instanceMethod ({ cls := "TwinRegister", name := "why", desc := "(II)I" } : Jvm.MethodName)) ∈ ag_all := ag_in 523 (by decide +kernel) (by decide +kernel)
theorem m_524 : (Jvm.Cond.selects "TwinRegister" ({ cls := "TwinRegister", name := "why", desc := "(II)I" } : Jvm.MethodName) ({ cls := "TwinRegister", name := "why", desc := "(II)I" } : Jvm.MethodName)) ∈ ag_all := ag_in 524 (by decide +kernel) (by decide +kernel)
theorem m_525 : (Jvm.Cond.code ({ cls := "TwinRegister", name := "why", desc := "(II)I" } : Jvm.MethodName) prog_1_method_18_code (4 : Nat) (Option.some Jvm.ClassFile.FieldType.int)) ∈ ag_all := ag_in 525 (by decide +kernel) (by decide +kernel)
theorem m_526 : (Jvm.Cond.methodLink "TwinRegisterLaw" (151 : Nat) ({ cls := "TwinRegisterLaw", name := "differences", desc := "(LTwinRegister;I[J)I" } : Jvm.MethodName)) ∈ ag_all := ag_in 526 (by decide +kernel) (by decide +kernel)
theorem m_527 : (Jvm.Cond.static ({ cls := "TwinRegisterLaw", name := "differences", desc := "(LTwinRegister;I[J)I" } : Jvm.MethodName)) ∈ ag_all := ag_in 527 (by decide +kernel) (by decide +kernel)
theorem m_528 : (Jvm.Cond.codeWith ({ cls := "TwinRegisterLaw", name := "differences", desc := "(LTwinRegister;I[J)I" } : Jvm.MethodName) method_19_code (4 : Nat) (Option.some Jvm.ClassFile.FieldType.int) [((0 : Nat), (9 : Nat), (12 : Nat), (13 : Nat))]) ∈ ag_all := ag_in 528 (by decide +kernel) (by decide +kernel)
theorem m_529 : (Jvm.Cond.methodLink "TwinRegisterLaw" (69 : Nat) ({ cls := "TwinRegister", name := "differences", desc := "(I)I" } : Jvm.MethodName)) ∈ ag_all := ag_in 529 (by decide +kernel) (by decide +kernel)
theorem m_530 : (Jvm.Cond.instanceMethod ({ cls := "TwinRegister", name := "differences", desc := "(I)I" } : Jvm.MethodName)) ∈ ag_all := ag_in 530 (by decide +kernel) (by decide +kernel)
theorem m_531 : (Jvm.Cond.selects "TwinRegister" ({ cls := "TwinRegister", name := "differences", desc := "(I)I" } : Jvm.MethodName) ({ cls := "TwinRegister", name := "differences", desc := "(I)I" } : Jvm.MethodName)) ∈ ag_all := ag_in 531 (by decide +kernel) (by decide +kernel)
theorem m_532 : (Jvm.Cond.code ({ cls := "TwinRegister", name := "differences", desc := "(I)I" } : Jvm.MethodName) prog_1_method_19_code (2 : Nat) (Option.some Jvm.ClassFile.FieldType.int)) ∈ ag_all := ag_in 532 (by decide +kernel) (by decide +kernel)
theorem m_533 : (Jvm.Cond.methodLink "TwinRegisterLaw" (154 : Nat) ({ cls := "TwinRegisterLaw", name := "differencesAnew", desc := "(LTwinRegister;I[J)I" } : Jvm.MethodName)) ∈ ag_all := ag_in 533 (by decide +kernel) (by decide +kernel)
theorem m_534 : (Jvm.Cond.static ({ cls := "TwinRegisterLaw", name := "differencesAnew", desc := "(LTwinRegister;I[J)I" } : Jvm.MethodName)) ∈ ag_all := ag_in 534 (by decide +kernel) (by decide +kernel)
theorem m_535 : (Jvm.Cond.codeWith ({ cls := "TwinRegisterLaw", name := "differencesAnew", desc := "(LTwinRegister;I[J)I" } : Jvm.MethodName) method_20_code (4 : Nat) (Option.some Jvm.ClassFile.FieldType.int) [((0 : Nat), (9 : Nat), (12 : Nat), (13 : Nat))]) ∈ ag_all := ag_in 535 (by decide +kernel) (by decide +kernel)
theorem m_536 : (Jvm.Cond.methodLink "TwinRegisterLaw" (72 : Nat) ({ cls := "TwinRegister", name := "differencesAnew", desc := "(I)I" } : Jvm.MethodName)) ∈ ag_all := ag_in 536 (by decide +kernel) (by decide +kernel)
theorem m_537 : (Jvm.Cond.instanceMethod ({ cls := "TwinRegister", name := "differencesAnew", desc := "(I)I" } : Jvm.MethodName)) ∈ ag_all := ag_in 537 (by decide +kernel) (by decide +kernel)
theorem m_538 : (Jvm.Cond.selects "TwinRegister" ({ cls := "TwinRegister", name := "differencesAnew", desc := "(I)I" } : Jvm.MethodName) ({ cls := "TwinRegister", name := "differencesAnew", desc := "(I)I" } : Jvm.MethodName)) ∈ ag_all := ag_in 538 (by decide +kernel) (by decide +kernel)
theorem m_539 : (Jvm.Cond.code ({ cls := "TwinRegister", name := "differencesAnew", desc := "(I)I" } : Jvm.MethodName) prog_1_method_20_code (5 : Nat) (Option.some Jvm.ClassFile.FieldType.int)) ∈ ag_all := ag_in 539 (by decide +kernel) (by decide +kernel)
theorem m_540 : (Jvm.Cond.methodLinkNest "TwinRegister" (186 : Nat) ({ cls := "TwinRegister$Device", name := "comparesUnlike", desc := "(I)Z" } : Jvm.MethodName) "TwinRegister") ∈ ax_all := ax_in 540 (by decide +kernel) (by decide +kernel)
theorem m_541 : (Jvm.Cond.methodLink "TwinRegisterLaw" (157 : Nat) ({ cls := "TwinRegisterLaw", name := "members", desc := "(LTwinRegister;I[J)I" } : Jvm.MethodName)) ∈ ag_all := ag_in 541 (by decide +kernel) (by decide +kernel)
theorem m_542 : (Jvm.Cond.static ({ cls := "TwinRegisterLaw", name := "members", desc := "(LTwinRegister;I[J)I" } : Jvm.MethodName)) ∈ ag_all := ag_in 542 (by decide +kernel) (by decide +kernel)
theorem m_543 : (Jvm.Cond.codeWith ({ cls := "TwinRegisterLaw", name := "members", desc := "(LTwinRegister;I[J)I" } : Jvm.MethodName) method_21_code (4 : Nat) (Option.some Jvm.ClassFile.FieldType.int) [((0 : Nat), (9 : Nat), (12 : Nat), (13 : Nat))]) ∈ ag_all := ag_in 543 (by decide +kernel) (by decide +kernel)
theorem m_544 : (Jvm.Cond.methodLink "TwinRegisterLaw" (75 : Nat) ({ cls := "TwinRegister", name := "members", desc := "(I)I" } : Jvm.MethodName)) ∈ ag_all := ag_in 544 (by decide +kernel) (by decide +kernel)
theorem m_545 : (Jvm.Cond.instanceMethod ({ cls := "TwinRegister", name := "members", desc := "(I)I" } : Jvm.MethodName)) ∈ ag_all := ag_in 545 (by decide +kernel) (by decide +kernel)
theorem m_546 : (Jvm.Cond.selects "TwinRegister" ({ cls := "TwinRegister", name := "members", desc := "(I)I" } : Jvm.MethodName) ({ cls := "TwinRegister", name := "members", desc := "(I)I" } : Jvm.MethodName)) ∈ ag_all := ag_in 546 (by decide +kernel) (by decide +kernel)
theorem m_547 : (Jvm.Cond.code ({ cls := "TwinRegister", name := "members", desc := "(I)I" } : Jvm.MethodName) prog_1_method_21_code (2 : Nat) (Option.some Jvm.ClassFile.FieldType.int)) ∈ ag_all := ag_in 547 (by decide +kernel) (by decide +kernel)
theorem m_548 : (Jvm.Cond.methodLink "TwinRegisterLaw" (164 : Nat) ({ cls := "TwinRegisterLaw", name := "state", desc := "(LTwinRegister;I[J)I" } : Jvm.MethodName)) ∈ ag_all := ag_in 548 (by decide +kernel) (by decide +kernel)
theorem m_549 : (Jvm.Cond.static ({ cls := "TwinRegisterLaw", name := "state", desc := "(LTwinRegister;I[J)I" } : Jvm.MethodName)) ∈ ag_all := ag_in 549 (by decide +kernel) (by decide +kernel)
theorem m_550 : (Jvm.Cond.codeWith ({ cls := "TwinRegisterLaw", name := "state", desc := "(LTwinRegister;I[J)I" } : Jvm.MethodName) method_22_code (4 : Nat) (Option.some Jvm.ClassFile.FieldType.int) [((0 : Nat), (9 : Nat), (12 : Nat), (13 : Nat))]) ∈ ag_all := ag_in 550 (by decide +kernel) (by decide +kernel)
theorem m_551 : (Jvm.Cond.methodLink "TwinRegisterLaw" (78 : Nat) ({ cls := "TwinRegister", name := "state", desc := "(I)I" } : Jvm.MethodName)) ∈ ag_all := ag_in 551 (by decide +kernel) (by decide +kernel)
theorem m_552 : (Jvm.Cond.instanceMethod ({ cls := "TwinRegister", name := "state", desc := "(I)I" } : Jvm.MethodName)) ∈ ag_all := ag_in 552 (by decide +kernel) (by decide +kernel)
theorem m_553 : (Jvm.Cond.selects "TwinRegister" ({ cls := "TwinRegister", name := "state", desc := "(I)I" } : Jvm.MethodName) ({ cls := "TwinRegister", name := "state", desc := "(I)I" } : Jvm.MethodName)) ∈ ag_all := ag_in 553 (by decide +kernel) (by decide +kernel)
theorem m_554 : (Jvm.Cond.code ({ cls := "TwinRegister", name := "state", desc := "(I)I" } : Jvm.MethodName) prog_1_method_23_code (2 : Nat) (Option.some Jvm.ClassFile.FieldType.int)) ∈ ag_all := ag_in 554 (by decide +kernel) (by decide +kernel)
theorem m_555 : (Jvm.Cond.methodLink "TwinRegisterLaw" (167 : Nat) ({ cls := "TwinRegisterLaw", name := "devices", desc := "(LTwinRegister;II[J)I" } : Jvm.MethodName)) ∈ ag_all := ag_in 555 (by decide +kernel) (by decide +kernel)
theorem m_556 : (Jvm.Cond.static ({ cls := "TwinRegisterLaw", name := "devices", desc := "(LTwinRegister;II[J)I" } : Jvm.MethodName)) ∈ ag_all := ag_in 556 (by decide +kernel) (by decide +kernel)
theorem m_557 : (Jvm.Cond.codeWith ({ cls := "TwinRegisterLaw", name := "devices", desc := "(LTwinRegister;II[J)I" } : Jvm.MethodName) method_23_code (5 : Nat) (Option.some Jvm.ClassFile.FieldType.int) [((0 : Nat), (10 : Nat), (13 : Nat), (13 : Nat)), ((0 : Nat), (10 : Nat), (17 : Nat), (15 : Nat))]) ∈ ag_all := ag_in 557 (by decide +kernel) (by decide +kernel)
theorem m_558 : (Jvm.Cond.methodLink "TwinRegisterLaw" (81 : Nat) ({ cls := "TwinRegister", name := "devices", desc := "(II)I" } : Jvm.MethodName)) ∈ ag_all := ag_in 558 (by decide +kernel) (by decide +kernel)
theorem m_559 : (Jvm.Cond.instanceMethod ({ cls := "TwinRegister", name := "devices", desc := "(II)I" } : Jvm.MethodName)) ∈ ag_all := ag_in 559 (by decide +kernel) (by decide +kernel)
theorem m_560 : (Jvm.Cond.selects "TwinRegister" ({ cls := "TwinRegister", name := "devices", desc := "(II)I" } : Jvm.MethodName) ({ cls := "TwinRegister", name := "devices", desc := "(II)I" } : Jvm.MethodName)) ∈ ag_all := ag_in 560 (by decide +kernel) (by decide +kernel)
theorem m_561 : (Jvm.Cond.code ({ cls := "TwinRegister", name := "devices", desc := "(II)I" } : Jvm.MethodName) prog_1_method_24_code (4 : Nat) (Option.some Jvm.ClassFile.FieldType.int)) ∈ ag_all := ag_in 561 (by decide +kernel) (by decide +kernel)
theorem m_562 : (Jvm.Cond.classLink "TwinRegisterLaw" (85 : Nat) "TwinRegisterModel") ∈ ag_all := ag_in 562 (by decide +kernel) (by decide +kernel)
theorem m_563 : (Jvm.Cond.instantiable "TwinRegisterModel" (22 : Nat)) ∈ ag_all := ag_in 563 (by decide +kernel) (by decide +kernel)
theorem m_564 : (Jvm.Cond.methodLink "TwinRegisterLaw" (87 : Nat) ({ cls := "TwinRegisterModel", name := "<init>", desc := "()V" } : Jvm.MethodName)) ∈ ag_all := ag_in 564 (by decide +kernel) (by decide +kernel)
theorem m_565 : (Jvm.Cond.instanceMethod ({ cls := "TwinRegisterModel", name := "<init>", desc := "()V" } : Jvm.MethodName)) ∈ ag_all := ag_in 565 (by decide +kernel) (by decide +kernel)
theorem m_566 : (Jvm.Cond.code ({ cls := "TwinRegisterModel", name := "<init>", desc := "()V" } : Jvm.MethodName) prog_7_method_1_code (1 : Nat) (Option.none : Option Jvm.ClassFile.FieldType)) ∈ ag_all := ag_in 566 (by decide +kernel) (by decide +kernel)
theorem m_567 : (Jvm.Cond.methodLink "TwinRegisterModel" (1 : Nat) ({ cls := "java/lang/Object", name := "<init>", desc := "()V" } : Jvm.MethodName)) ∈ ag_all := ag_in 567 (by decide +kernel) (by decide +kernel)
theorem m_568 : (Jvm.Cond.fieldLink "TwinRegisterModel" (71 : Nat) "TwinRegisterModel" "thrown" "I") ∈ ag_all := ag_in 568 (by decide +kernel) (by decide +kernel)
theorem m_569 : (Jvm.Cond.fieldLink "TwinRegisterModel" (7 : Nat) "TwinRegisterModel" "wished" "[I") ∈ ag_all := ag_in 569 (by decide +kernel) (by decide +kernel)
theorem m_570 : (Jvm.Cond.fieldLink "TwinRegisterModel" (13 : Nat) "TwinRegisterModel" "reported" "[I") ∈ ag_all := ag_in 570 (by decide +kernel) (by decide +kernel)
theorem m_571 : (Jvm.Cond.fieldLink "TwinRegisterModel" (16 : Nat) "TwinRegisterModel" "reason" "[I") ∈ ag_all := ag_in 571 (by decide +kernel) (by decide +kernel)
theorem m_572 : (Jvm.Cond.fieldLink "TwinRegisterModel" (19 : Nat) "TwinRegisterModel" "version" "[I") ∈ ag_all := ag_in 572 (by decide +kernel) (by decide +kernel)
theorem m_573 : (Jvm.Cond.fieldLink "TwinRegisterModel" (22 : Nat) "TwinRegisterModel" "heard" "[I") ∈ ag_all := ag_in 573 (by decide +kernel) (by decide +kernel)
theorem m_574 : (Jvm.Cond.fieldLink "TwinRegisterModel" (25 : Nat) "TwinRegisterModel" "isAsleep" "[Z") ∈ ag_all := ag_in 574 (by decide +kernel) (by decide +kernel)
theorem m_575 : (Jvm.Cond.fieldLink "TwinRegisterModel" (29 : Nat) "TwinRegisterModel" "latest" "[I") ∈ ag_all := ag_in 575 (by decide +kernel) (by decide +kernel)
theorem m_576 : (Jvm.Cond.fieldLink "TwinRegisterModel" (32 : Nat) "TwinRegisterModel" "draft" "[I") ∈ ag_all := ag_in 576 (by decide +kernel) (by decide +kernel)
theorem m_577 : (Jvm.Cond.fieldLink "TwinRegisterModel" (35 : Nat) "TwinRegisterModel" "groupLeaf" "[I") ∈ ag_all := ag_in 577 (by decide +kernel) (by decide +kernel)
theorem m_578 : (Jvm.Cond.fieldLink "TwinRegisterModel" (38 : Nat) "TwinRegisterModel" "low" "[I") ∈ ag_all := ag_in 578 (by decide +kernel) (by decide +kernel)
theorem m_579 : (Jvm.Cond.fieldLink "TwinRegisterModel" (41 : Nat) "TwinRegisterModel" "high" "[I") ∈ ag_all := ag_in 579 (by decide +kernel) (by decide +kernel)
theorem m_580 : (Jvm.Cond.fieldLink "TwinRegisterModel" (117 : Nat) "TwinRegisterModel" "jobs" "I") ∈ ag_all := ag_in 580 (by decide +kernel) (by decide +kernel)
theorem m_581 : (Jvm.Cond.fieldLink "TwinRegisterModel" (44 : Nat) "TwinRegisterModel" "group" "[I") ∈ ag_all := ag_in 581 (by decide +kernel) (by decide +kernel)
theorem m_582 : (Jvm.Cond.fieldLink "TwinRegisterModel" (47 : Nat) "TwinRegisterModel" "leaf" "[I") ∈ ag_all := ag_in 582 (by decide +kernel) (by decide +kernel)
theorem m_583 : (Jvm.Cond.fieldLink "TwinRegisterModel" (50 : Nat) "TwinRegisterModel" "value" "[I") ∈ ag_all := ag_in 583 (by decide +kernel) (by decide +kernel)
theorem m_584 : (Jvm.Cond.fieldLink "TwinRegisterModel" (53 : Nat) "TwinRegisterModel" "rate" "[I") ∈ ag_all := ag_in 584 (by decide +kernel) (by decide +kernel)
theorem m_585 : (Jvm.Cond.fieldLink "TwinRegisterModel" (56 : Nat) "TwinRegisterModel" "bound" "[I") ∈ ag_all := ag_in 585 (by decide +kernel) (by decide +kernel)
theorem m_586 : (Jvm.Cond.fieldLink "TwinRegisterModel" (59 : Nat) "TwinRegisterModel" "state" "[I") ∈ ag_all := ag_in 586 (by decide +kernel) (by decide +kernel)
theorem m_587 : (Jvm.Cond.fieldLink "TwinRegisterModel" (62 : Nat) "TwinRegisterModel" "started" "[I") ∈ ag_all := ag_in 587 (by decide +kernel) (by decide +kernel)
theorem m_588 : (Jvm.Cond.fieldLink "TwinRegisterModel" (65 : Nat) "TwinRegisterModel" "done" "[I") ∈ ag_all := ag_in 588 (by decide +kernel) (by decide +kernel)
theorem m_589 : (Jvm.Cond.fieldLink "TwinRegisterModel" (68 : Nat) "TwinRegisterModel" "failed" "[I") ∈ ag_all := ag_in 589 (by decide +kernel) (by decide +kernel)
theorem m_590 : (Jvm.Cond.lays "TwinRegisterModel" "TwinRegisterModel" "thrown" "I") ∈ ag_all := ag_in 590 (by decide +kernel) (by decide +kernel)
theorem m_591 : (Jvm.Cond.soleField "TwinRegisterModel" "thrown") ∈ ag_all := ag_in 591 (by decide +kernel) (by decide +kernel)
theorem m_592 : (Jvm.Cond.laysFinal "TwinRegisterModel" "TwinRegisterModel" "wished" "[I") ∈ ag_all := ag_in 592 (by decide +kernel) (by decide +kernel)
theorem m_593 : (Jvm.Cond.soleField "TwinRegisterModel" "wished") ∈ ag_all := ag_in 593 (by decide +kernel) (by decide +kernel)
theorem m_594 : (Jvm.Cond.laysFinal "TwinRegisterModel" "TwinRegisterModel" "reported" "[I") ∈ ag_all := ag_in 594 (by decide +kernel) (by decide +kernel)
theorem m_595 : (Jvm.Cond.soleField "TwinRegisterModel" "reported") ∈ ag_all := ag_in 595 (by decide +kernel) (by decide +kernel)
theorem m_596 : (Jvm.Cond.laysFinal "TwinRegisterModel" "TwinRegisterModel" "reason" "[I") ∈ ag_all := ag_in 596 (by decide +kernel) (by decide +kernel)
theorem m_597 : (Jvm.Cond.soleField "TwinRegisterModel" "reason") ∈ ag_all := ag_in 597 (by decide +kernel) (by decide +kernel)
theorem m_598 : (Jvm.Cond.laysFinal "TwinRegisterModel" "TwinRegisterModel" "version" "[I") ∈ ag_all := ag_in 598 (by decide +kernel) (by decide +kernel)
theorem m_599 : (Jvm.Cond.soleField "TwinRegisterModel" "version") ∈ ag_all := ag_in 599 (by decide +kernel) (by decide +kernel)
theorem m_600 : (Jvm.Cond.laysFinal "TwinRegisterModel" "TwinRegisterModel" "heard" "[I") ∈ ag_all := ag_in 600 (by decide +kernel) (by decide +kernel)
theorem m_601 : (Jvm.Cond.soleField "TwinRegisterModel" "heard") ∈ ag_all := ag_in 601 (by decide +kernel) (by decide +kernel)
theorem m_602 : (Jvm.Cond.laysFinal "TwinRegisterModel" "TwinRegisterModel" "isAsleep" "[Z") ∈ ag_all := ag_in 602 (by decide +kernel) (by decide +kernel)
theorem m_603 : (Jvm.Cond.soleField "TwinRegisterModel" "isAsleep") ∈ ag_all := ag_in 603 (by decide +kernel) (by decide +kernel)
theorem m_604 : (Jvm.Cond.laysFinal "TwinRegisterModel" "TwinRegisterModel" "latest" "[I") ∈ ag_all := ag_in 604 (by decide +kernel) (by decide +kernel)
theorem m_605 : (Jvm.Cond.soleField "TwinRegisterModel" "latest") ∈ ag_all := ag_in 605 (by decide +kernel) (by decide +kernel)
theorem m_606 : (Jvm.Cond.laysFinal "TwinRegisterModel" "TwinRegisterModel" "draft" "[I") ∈ ag_all := ag_in 606 (by decide +kernel) (by decide +kernel)
theorem m_607 : (Jvm.Cond.soleField "TwinRegisterModel" "draft") ∈ ag_all := ag_in 607 (by decide +kernel) (by decide +kernel)
theorem m_608 : (Jvm.Cond.laysFinal "TwinRegisterModel" "TwinRegisterModel" "groupLeaf" "[I") ∈ ag_all := ag_in 608 (by decide +kernel) (by decide +kernel)
theorem m_609 : (Jvm.Cond.soleField "TwinRegisterModel" "groupLeaf") ∈ ag_all := ag_in 609 (by decide +kernel) (by decide +kernel)
theorem m_610 : (Jvm.Cond.laysFinal "TwinRegisterModel" "TwinRegisterModel" "low" "[I") ∈ ag_all := ag_in 610 (by decide +kernel) (by decide +kernel)
theorem m_611 : (Jvm.Cond.soleField "TwinRegisterModel" "low") ∈ ag_all := ag_in 611 (by decide +kernel) (by decide +kernel)
theorem m_612 : (Jvm.Cond.laysFinal "TwinRegisterModel" "TwinRegisterModel" "high" "[I") ∈ ag_all := ag_in 612 (by decide +kernel) (by decide +kernel)
theorem m_613 : (Jvm.Cond.soleField "TwinRegisterModel" "high") ∈ ag_all := ag_in 613 (by decide +kernel) (by decide +kernel)
theorem m_614 : (Jvm.Cond.lays "TwinRegisterModel" "TwinRegisterModel" "jobs" "I") ∈ ag_all := ag_in 614 (by decide +kernel) (by decide +kernel)
theorem m_615 : (Jvm.Cond.soleField "TwinRegisterModel" "jobs") ∈ ag_all := ag_in 615 (by decide +kernel) (by decide +kernel)
theorem m_616 : (Jvm.Cond.laysFinal "TwinRegisterModel" "TwinRegisterModel" "group" "[I") ∈ ag_all := ag_in 616 (by decide +kernel) (by decide +kernel)
theorem m_617 : (Jvm.Cond.soleField "TwinRegisterModel" "group") ∈ ag_all := ag_in 617 (by decide +kernel) (by decide +kernel)
theorem m_618 : (Jvm.Cond.laysFinal "TwinRegisterModel" "TwinRegisterModel" "leaf" "[I") ∈ ag_all := ag_in 618 (by decide +kernel) (by decide +kernel)
theorem m_619 : (Jvm.Cond.soleField "TwinRegisterModel" "leaf") ∈ ag_all := ag_in 619 (by decide +kernel) (by decide +kernel)
theorem m_620 : (Jvm.Cond.laysFinal "TwinRegisterModel" "TwinRegisterModel" "value" "[I") ∈ ag_all := ag_in 620 (by decide +kernel) (by decide +kernel)
theorem m_621 : (Jvm.Cond.soleField "TwinRegisterModel" "value") ∈ ag_all := ag_in 621 (by decide +kernel) (by decide +kernel)
theorem m_622 : (Jvm.Cond.laysFinal "TwinRegisterModel" "TwinRegisterModel" "rate" "[I") ∈ ag_all := ag_in 622 (by decide +kernel) (by decide +kernel)
theorem m_623 : (Jvm.Cond.soleField "TwinRegisterModel" "rate") ∈ ag_all := ag_in 623 (by decide +kernel) (by decide +kernel)
theorem m_624 : (Jvm.Cond.laysFinal "TwinRegisterModel" "TwinRegisterModel" "bound" "[I") ∈ ag_all := ag_in 624 (by decide +kernel) (by decide +kernel)
theorem m_625 : (Jvm.Cond.soleField "TwinRegisterModel" "bound") ∈ ag_all := ag_in 625 (by decide +kernel) (by decide +kernel)
theorem m_626 : (Jvm.Cond.laysFinal "TwinRegisterModel" "TwinRegisterModel" "state" "[I") ∈ ag_all := ag_in 626 (by decide +kernel) (by decide +kernel)
theorem m_627 : (Jvm.Cond.soleField "TwinRegisterModel" "state") ∈ ag_all := ag_in 627 (by decide +kernel) (by decide +kernel)
theorem m_628 : (Jvm.Cond.laysFinal "TwinRegisterModel" "TwinRegisterModel" "started" "[I") ∈ ag_all := ag_in 628 (by decide +kernel) (by decide +kernel)
theorem m_629 : (Jvm.Cond.soleField "TwinRegisterModel" "started") ∈ ag_all := ag_in 629 (by decide +kernel) (by decide +kernel)
theorem m_630 : (Jvm.Cond.laysFinal "TwinRegisterModel" "TwinRegisterModel" "done" "[I") ∈ ag_all := ag_in 630 (by decide +kernel) (by decide +kernel)
theorem m_631 : (Jvm.Cond.soleField "TwinRegisterModel" "done") ∈ ag_all := ag_in 631 (by decide +kernel) (by decide +kernel)
theorem m_632 : (Jvm.Cond.laysFinal "TwinRegisterModel" "TwinRegisterModel" "failed" "[I") ∈ ag_all := ag_in 632 (by decide +kernel) (by decide +kernel)
theorem m_633 : (Jvm.Cond.soleField "TwinRegisterModel" "failed") ∈ ag_all := ag_in 633 (by decide +kernel) (by decide +kernel)
theorem m_634 : (Jvm.Cond.superclass "TwinRegisterModel" "java/lang/Object") ∈ ag_all := ag_in 634 (by decide +kernel) (by decide +kernel)
theorem m_635 : (Jvm.Cond.arrayClass Jvm.ClassFile.FieldType.boolean) ∈ ag_all := ag_in 635 (by decide +kernel) (by decide +kernel)
theorem m_636 : (Jvm.Cond.methodLink "TwinRegisterLaw" (94 : Nat) ({ cls := "TwinRegisterModel", name := "thrown", desc := "()I" } : Jvm.MethodName)) ∈ ag_all := ag_in 636 (by decide +kernel) (by decide +kernel)
theorem m_637 : (Jvm.Cond.instanceMethod ({ cls := "TwinRegisterModel", name := "thrown", desc := "()I" } : Jvm.MethodName)) ∈ ag_all := ag_in 637 (by decide +kernel) (by decide +kernel)
theorem m_638 : (Jvm.Cond.selects "TwinRegisterModel" ({ cls := "TwinRegisterModel", name := "thrown", desc := "()I" } : Jvm.MethodName) ({ cls := "TwinRegisterModel", name := "thrown", desc := "()I" } : Jvm.MethodName)) ∈ ag_all := ag_in 638 (by decide +kernel) (by decide +kernel)
theorem m_639 : (Jvm.Cond.code ({ cls := "TwinRegisterModel", name := "thrown", desc := "()I" } : Jvm.MethodName) prog_7_method_2_code (1 : Nat) (Option.some Jvm.ClassFile.FieldType.int)) ∈ ag_all := ag_in 639 (by decide +kernel) (by decide +kernel)
theorem m_640 : (Jvm.Cond.methodLink "TwinRegisterLaw" (93 : Nat) ({ cls := "TwinRegisterModel", name := "put", desc := "(II)I" } : Jvm.MethodName)) ∈ ag_all := ag_in 640 (by decide +kernel) (by decide +kernel)
theorem m_641 : (Jvm.Cond.instanceMethod ({ cls := "TwinRegisterModel", name := "put", desc := "(II)I" } : Jvm.MethodName)) ∈ ag_all := ag_in 641 (by decide +kernel) (by decide +kernel)
theorem m_642 : (Jvm.Cond.selects "TwinRegisterModel" ({ cls := "TwinRegisterModel", name := "put", desc := "(II)I" } : Jvm.MethodName) ({ cls := "TwinRegisterModel", name := "put", desc := "(II)I" } : Jvm.MethodName)) ∈ ag_all := ag_in 642 (by decide +kernel) (by decide +kernel)
theorem m_643 : (Jvm.Cond.code ({ cls := "TwinRegisterModel", name := "put", desc := "(II)I" } : Jvm.MethodName) prog_7_method_9_code (3 : Nat) (Option.some Jvm.ClassFile.FieldType.int)) ∈ ag_all := ag_in 643 (by decide +kernel) (by decide +kernel)
theorem m_644 : (Jvm.Cond.methodLink "TwinRegisterModel" (79 : Nat) ({ cls := "TwinRegisterModel", name := "isLeaf", desc := "(I)Z" } : Jvm.MethodName)) ∈ ag_all := ag_in 644 (by decide +kernel) (by decide +kernel)
theorem m_645 : (Jvm.Cond.static ({ cls := "TwinRegisterModel", name := "isLeaf", desc := "(I)Z" } : Jvm.MethodName)) ∈ ag_all := ag_in 645 (by decide +kernel) (by decide +kernel)
theorem m_646 : (Jvm.Cond.code ({ cls := "TwinRegisterModel", name := "isLeaf", desc := "(I)Z" } : Jvm.MethodName) prog_7_method_5_code (1 : Nat) (Option.some Jvm.ClassFile.FieldType.boolean)) ∈ ag_all := ag_in 646 (by decide +kernel) (by decide +kernel)
theorem m_647 : (Jvm.Cond.methodLink "TwinRegisterModel" (75 : Nat) ({ cls := "TwinRegisterModel", name := "in", desc := "(III)Z" } : Jvm.MethodName)) ∈ ag_all := ag_in 647 (by decide +kernel) (by decide +kernel)
theorem m_648 : (Jvm.Cond.static ({ cls := "TwinRegisterModel", name := "in", desc := "(III)Z" } : Jvm.MethodName)) ∈ ag_all := ag_in 648 (by decide +kernel) (by decide +kernel)
theorem m_649 : (Jvm.Cond.code ({ cls := "TwinRegisterModel", name := "in", desc := "(III)Z" } : Jvm.MethodName) prog_7_method_3_code (3 : Nat) (Option.some Jvm.ClassFile.FieldType.boolean)) ∈ ag_all := ag_in 649 (by decide +kernel) (by decide +kernel)
theorem m_650 : (Jvm.Cond.methodLink "TwinRegisterModel" (83 : Nat) ({ cls := "TwinRegisterModel", name := "drafted", desc := "()I" } : Jvm.MethodName)) ∈ ag_all := ag_in 650 (by decide +kernel) (by decide +kernel)
theorem m_652 : (Jvm.Cond.instanceMethod ({ cls := "TwinRegisterModel", name := "drafted", desc := "()I" } : Jvm.MethodName)) ∈ ag_all := ag_in 652 (by decide +kernel) (by decide +kernel)
theorem m_653 : (Jvm.Cond.code ({ cls := "TwinRegisterModel", name := "drafted", desc := "()I" } : Jvm.MethodName) prog_7_method_8_code (3 : Nat) (Option.some Jvm.ClassFile.FieldType.int)) ∈ ag_all := ag_in 653 (by decide +kernel) (by decide +kernel)
theorem m_654 : (Jvm.Cond.methodLink "TwinRegisterLaw" (101 : Nat) ({ cls := "TwinRegisterModel", name := "drop", desc := "(I)I" } : Jvm.MethodName)) ∈ ag_all := ag_in 654 (by decide +kernel) (by decide +kernel)
theorem m_655 : (Jvm.Cond.instanceMethod ({ cls := "TwinRegisterModel", name := "drop", desc := "(I)I" } : Jvm.MethodName)) ∈ ag_all := ag_in 655 (by decide +kernel) (by decide +kernel)
theorem m_656 : (Jvm.Cond.selects "TwinRegisterModel" ({ cls := "TwinRegisterModel", name := "drop", desc := "(I)I" } : Jvm.MethodName) ({ cls := "TwinRegisterModel", name := "drop", desc := "(I)I" } : Jvm.MethodName)) ∈ ag_all := ag_in 656 (by decide +kernel) (by decide +kernel)
theorem m_657 : (Jvm.Cond.code ({ cls := "TwinRegisterModel", name := "drop", desc := "(I)I" } : Jvm.MethodName) prog_7_method_10_code (3 : Nat) (Option.some Jvm.ClassFile.FieldType.int)) ∈ ag_all := ag_in 657 (by decide +kernel) (by decide +kernel)
theorem m_658 : (Jvm.Cond.methodLink "TwinRegisterLaw" (104 : Nat) ({ cls := "TwinRegisterModel", name := "wish", desc := "(II)I" } : Jvm.MethodName)) ∈ ag_all := ag_in 658 (by decide +kernel) (by decide +kernel)
theorem m_659 : (Jvm.Cond.instanceMethod ({ cls := "TwinRegisterModel", name := "wish", desc := "(II)I" } : Jvm.MethodName)) ∈ ag_all := ag_in 659 (by decide +kernel) (by decide +kernel)
theorem m_660 : (Jvm.Cond.selects "TwinRegisterModel" ({ cls := "TwinRegisterModel", name := "wish", desc := "(II)I" } : Jvm.MethodName) ({ cls := "TwinRegisterModel", name := "wish", desc := "(II)I" } : Jvm.MethodName)) ∈ ag_all := ag_in 660 (by decide +kernel) (by decide +kernel)
theorem m_661 : (Jvm.Cond.code ({ cls := "TwinRegisterModel", name := "wish", desc := "(II)I" } : Jvm.MethodName) prog_7_method_15_code (4 : Nat) (Option.some Jvm.ClassFile.FieldType.int)) ∈ ag_all := ag_in 661 (by decide +kernel) (by decide +kernel)
theorem m_662 : (Jvm.Cond.methodLink "TwinRegisterModel" (91 : Nat) ({ cls := "TwinRegisterModel", name := "isDevice", desc := "(I)Z" } : Jvm.MethodName)) ∈ ag_all := ag_in 662 (by decide +kernel) (by decide +kernel)
theorem m_663 : (Jvm.Cond.static ({ cls := "TwinRegisterModel", name := "isDevice", desc := "(I)Z" } : Jvm.MethodName)) ∈ ag_all := ag_in 663 (by decide +kernel) (by decide +kernel)
theorem m_664 : (Jvm.Cond.code ({ cls := "TwinRegisterModel", name := "isDevice", desc := "(I)Z" } : Jvm.MethodName) prog_7_method_4_code (1 : Nat) (Option.some Jvm.ClassFile.FieldType.boolean)) ∈ ag_all := ag_in 664 (by decide +kernel) (by decide +kernel)
theorem m_665 : (Jvm.Cond.methodLink "TwinRegisterModel" (94 : Nat) ({ cls := "TwinRegisterModel", name := "wishes", desc := "(III)V" } : Jvm.MethodName)) ∈ ag_all := ag_in 665 (by decide +kernel) (by decide +kernel)
theorem m_667 : (Jvm.Cond.instanceMethod ({ cls := "TwinRegisterModel", name := "wishes", desc := "(III)V" } : Jvm.MethodName)) ∈ ag_all := ag_in 667 (by decide +kernel) (by decide +kernel)
theorem m_668 : (Jvm.Cond.code ({ cls := "TwinRegisterModel", name := "wishes", desc := "(III)V" } : Jvm.MethodName) prog_7_method_14_code (4 : Nat) (Option.none : Option Jvm.ClassFile.FieldType)) ∈ ag_all := ag_in 668 (by decide +kernel) (by decide +kernel)
theorem m_669 : (Jvm.Cond.methodLink "TwinRegisterModel" (98 : Nat) ({ cls := "TwinRegisterModel", name := "empties", desc := "()V" } : Jvm.MethodName)) ∈ ag_all := ag_in 669 (by decide +kernel) (by decide +kernel)
theorem m_671 : (Jvm.Cond.instanceMethod ({ cls := "TwinRegisterModel", name := "empties", desc := "()V" } : Jvm.MethodName)) ∈ ag_all := ag_in 671 (by decide +kernel) (by decide +kernel)
theorem m_672 : (Jvm.Cond.code ({ cls := "TwinRegisterModel", name := "empties", desc := "()V" } : Jvm.MethodName) prog_7_method_11_code (2 : Nat) (Option.none : Option Jvm.ClassFile.FieldType)) ∈ ag_all := ag_in 672 (by decide +kernel) (by decide +kernel)
theorem m_673 : (Jvm.Cond.methodLink "TwinRegisterLaw" (107 : Nat) ({ cls := "TwinRegisterModel", name := "report", desc := "(II)I" } : Jvm.MethodName)) ∈ ag_all := ag_in 673 (by decide +kernel) (by decide +kernel)
theorem m_674 : (Jvm.Cond.instanceMethod ({ cls := "TwinRegisterModel", name := "report", desc := "(II)I" } : Jvm.MethodName)) ∈ ag_all := ag_in 674 (by decide +kernel) (by decide +kernel)
theorem m_675 : (Jvm.Cond.selects "TwinRegisterModel" ({ cls := "TwinRegisterModel", name := "report", desc := "(II)I" } : Jvm.MethodName) ({ cls := "TwinRegisterModel", name := "report", desc := "(II)I" } : Jvm.MethodName)) ∈ ag_all := ag_in 675 (by decide +kernel) (by decide +kernel)
theorem m_676 : (Jvm.Cond.code ({ cls := "TwinRegisterModel", name := "report", desc := "(II)I" } : Jvm.MethodName) prog_7_method_16_code (5 : Nat) (Option.some Jvm.ClassFile.FieldType.int)) ∈ ag_all := ag_in 676 (by decide +kernel) (by decide +kernel)
theorem m_677 : (Jvm.Cond.methodLink "TwinRegisterModel" (101 : Nat) ({ cls := "TwinRegisterModel", name := "differing", desc := "(I)I" } : Jvm.MethodName)) ∈ ag_all := ag_in 677 (by decide +kernel) (by decide +kernel)
theorem m_679 : (Jvm.Cond.instanceMethod ({ cls := "TwinRegisterModel", name := "differing", desc := "(I)I" } : Jvm.MethodName)) ∈ ag_all := ag_in 679 (by decide +kernel) (by decide +kernel)
theorem m_680 : (Jvm.Cond.code ({ cls := "TwinRegisterModel", name := "differing", desc := "(I)I" } : Jvm.MethodName) prog_7_method_13_code (4 : Nat) (Option.some Jvm.ClassFile.FieldType.int)) ∈ ag_all := ag_in 680 (by decide +kernel) (by decide +kernel)
theorem m_681 : (Jvm.Cond.methodLink "TwinRegisterModel" (87 : Nat) ({ cls := "TwinRegisterModel", name := "differs", desc := "(II)Z" } : Jvm.MethodName)) ∈ ag_all := ag_in 681 (by decide +kernel) (by decide +kernel)
theorem m_683 : (Jvm.Cond.instanceMethod ({ cls := "TwinRegisterModel", name := "differs", desc := "(II)Z" } : Jvm.MethodName)) ∈ ag_all := ag_in 683 (by decide +kernel) (by decide +kernel)
theorem m_684 : (Jvm.Cond.code ({ cls := "TwinRegisterModel", name := "differs", desc := "(II)Z" } : Jvm.MethodName) prog_7_method_12_code (4 : Nat) (Option.some Jvm.ClassFile.FieldType.boolean)) ∈ ag_all := ag_in 684 (by decide +kernel) (by decide +kernel)
theorem m_685 : (Jvm.Cond.methodLink "TwinRegisterModel" (105 : Nat) ({ cls := "TwinRegisterModel", name := "manyOf", desc := "(I)I" } : Jvm.MethodName)) ∈ ag_all := ag_in 685 (by decide +kernel) (by decide +kernel)
theorem m_686 : (Jvm.Cond.static ({ cls := "TwinRegisterModel", name := "manyOf", desc := "(I)I" } : Jvm.MethodName)) ∈ ag_all := ag_in 686 (by decide +kernel) (by decide +kernel)
theorem m_687 : (Jvm.Cond.code ({ cls := "TwinRegisterModel", name := "manyOf", desc := "(I)I" } : Jvm.MethodName) prog_7_method_7_code (3 : Nat) (Option.some Jvm.ClassFile.FieldType.int)) ∈ ag_all := ag_in 687 (by decide +kernel) (by decide +kernel)
theorem m_688 : (Jvm.Cond.methodLink "TwinRegisterLaw" (110 : Nat) ({ cls := "TwinRegisterModel", name := "obey", desc := "(I)I" } : Jvm.MethodName)) ∈ ag_all := ag_in 688 (by decide +kernel) (by decide +kernel)
theorem m_689 : (Jvm.Cond.instanceMethod ({ cls := "TwinRegisterModel", name := "obey", desc := "(I)I" } : Jvm.MethodName)) ∈ ag_all := ag_in 689 (by decide +kernel) (by decide +kernel)
theorem m_690 : (Jvm.Cond.selects "TwinRegisterModel" ({ cls := "TwinRegisterModel", name := "obey", desc := "(I)I" } : Jvm.MethodName) ({ cls := "TwinRegisterModel", name := "obey", desc := "(I)I" } : Jvm.MethodName)) ∈ ag_all := ag_in 690 (by decide +kernel) (by decide +kernel)
theorem m_691 : (Jvm.Cond.code ({ cls := "TwinRegisterModel", name := "obey", desc := "(I)I" } : Jvm.MethodName) prog_7_method_17_code (5 : Nat) (Option.some Jvm.ClassFile.FieldType.int)) ∈ ag_all := ag_in 691 (by decide +kernel) (by decide +kernel)
theorem m_692 : (Jvm.Cond.methodLink "TwinRegisterLaw" (114 : Nat) ({ cls := "TwinRegisterModel", name := "refuse", desc := "(III)I" } : Jvm.MethodName)) ∈ ag_all := ag_in 692 (by decide +kernel) (by decide +kernel)
theorem m_693 : (Jvm.Cond.instanceMethod ({ cls := "TwinRegisterModel", name := "refuse", desc := "(III)I" } : Jvm.MethodName)) ∈ ag_all := ag_in 693 (by decide +kernel) (by decide +kernel)
theorem m_694 : (Jvm.Cond.selects "TwinRegisterModel" ({ cls := "TwinRegisterModel", name := "refuse", desc := "(III)I" } : Jvm.MethodName) ({ cls := "TwinRegisterModel", name := "refuse", desc := "(III)I" } : Jvm.MethodName)) ∈ ag_all := ag_in 694 (by decide +kernel) (by decide +kernel)
theorem m_695 : (Jvm.Cond.code ({ cls := "TwinRegisterModel", name := "refuse", desc := "(III)I" } : Jvm.MethodName) prog_7_method_18_code (4 : Nat) (Option.some Jvm.ClassFile.FieldType.int)) ∈ ag_all := ag_in 695 (by decide +kernel) (by decide +kernel)
theorem m_696 : (Jvm.Cond.methodLink "TwinRegisterLaw" (117 : Nat) ({ cls := "TwinRegisterModel", name := "sleep", desc := "(I)Z" } : Jvm.MethodName)) ∈ ag_all := ag_in 696 (by decide +kernel) (by decide +kernel)
theorem m_697 : (Jvm.Cond.instanceMethod ({ cls := "TwinRegisterModel", name := "sleep", desc := "(I)Z" } : Jvm.MethodName)) ∈ ag_all := ag_in 697 (by decide +kernel) (by decide +kernel)
theorem m_698 : (Jvm.Cond.selects "TwinRegisterModel" ({ cls := "TwinRegisterModel", name := "sleep", desc := "(I)Z" } : Jvm.MethodName) ({ cls := "TwinRegisterModel", name := "sleep", desc := "(I)Z" } : Jvm.MethodName)) ∈ ag_all := ag_in 698 (by decide +kernel) (by decide +kernel)
theorem m_699 : (Jvm.Cond.code ({ cls := "TwinRegisterModel", name := "sleep", desc := "(I)Z" } : Jvm.MethodName) prog_7_method_19_code (3 : Nat) (Option.some Jvm.ClassFile.FieldType.boolean)) ∈ ag_all := ag_in 699 (by decide +kernel) (by decide +kernel)
theorem m_700 : (Jvm.Cond.methodLink "TwinRegisterLaw" (120 : Nat) ({ cls := "TwinRegisterModel", name := "wake", desc := "(I)I" } : Jvm.MethodName)) ∈ ag_all := ag_in 700 (by decide +kernel) (by decide +kernel)
theorem m_701 : (Jvm.Cond.instanceMethod ({ cls := "TwinRegisterModel", name := "wake", desc := "(I)I" } : Jvm.MethodName)) ∈ ag_all := ag_in 701 (by decide +kernel) (by decide +kernel)
theorem m_702 : (Jvm.Cond.selects "TwinRegisterModel" ({ cls := "TwinRegisterModel", name := "wake", desc := "(I)I" } : Jvm.MethodName) ({ cls := "TwinRegisterModel", name := "wake", desc := "(I)I" } : Jvm.MethodName)) ∈ ag_all := ag_in 702 (by decide +kernel) (by decide +kernel)
theorem m_703 : (Jvm.Cond.code ({ cls := "TwinRegisterModel", name := "wake", desc := "(I)I" } : Jvm.MethodName) prog_7_method_21_code (3 : Nat) (Option.some Jvm.ClassFile.FieldType.int)) ∈ ag_all := ag_in 703 (by decide +kernel) (by decide +kernel)
theorem m_704 : (Jvm.Cond.methodLink "TwinRegisterModel" (108 : Nat) ({ cls := "TwinRegisterModel", name := "heardOf", desc := "(I)I" } : Jvm.MethodName)) ∈ ag_all := ag_in 704 (by decide +kernel) (by decide +kernel)
theorem m_706 : (Jvm.Cond.instanceMethod ({ cls := "TwinRegisterModel", name := "heardOf", desc := "(I)I" } : Jvm.MethodName)) ∈ ag_all := ag_in 706 (by decide +kernel) (by decide +kernel)
theorem m_707 : (Jvm.Cond.code ({ cls := "TwinRegisterModel", name := "heardOf", desc := "(I)I" } : Jvm.MethodName) prog_7_method_20_code (2 : Nat) (Option.some Jvm.ClassFile.FieldType.int)) ∈ ag_all := ag_in 707 (by decide +kernel) (by decide +kernel)
theorem m_708 : (Jvm.Cond.methodLink "TwinRegisterLaw" (124 : Nat) ({ cls := "TwinRegisterModel", name := "setGroup", desc := "(IIII)I" } : Jvm.MethodName)) ∈ ag_all := ag_in 708 (by decide +kernel) (by decide +kernel)
theorem m_709 : (Jvm.Cond.instanceMethod ({ cls := "TwinRegisterModel", name := "setGroup", desc := "(IIII)I" } : Jvm.MethodName)) ∈ ag_all := ag_in 709 (by decide +kernel) (by decide +kernel)
theorem m_710 : (Jvm.Cond.selects "TwinRegisterModel" ({ cls := "TwinRegisterModel", name := "setGroup", desc := "(IIII)I" } : Jvm.MethodName) ({ cls := "TwinRegisterModel", name := "setGroup", desc := "(IIII)I" } : Jvm.MethodName)) ∈ ag_all := ag_in 710 (by decide +kernel) (by decide +kernel)
theorem m_711 : (Jvm.Cond.code ({ cls := "TwinRegisterModel", name := "setGroup", desc := "(IIII)I" } : Jvm.MethodName) prog_7_method_23_code (5 : Nat) (Option.some Jvm.ClassFile.FieldType.int)) ∈ ag_all := ag_in 711 (by decide +kernel) (by decide +kernel)
theorem m_712 : (Jvm.Cond.methodLink "TwinRegisterModel" (111 : Nat) ({ cls := "TwinRegisterModel", name := "isGroup", desc := "(I)Z" } : Jvm.MethodName)) ∈ ag_all := ag_in 712 (by decide +kernel) (by decide +kernel)
theorem m_713 : (Jvm.Cond.static ({ cls := "TwinRegisterModel", name := "isGroup", desc := "(I)Z" } : Jvm.MethodName)) ∈ ag_all := ag_in 713 (by decide +kernel) (by decide +kernel)
theorem m_714 : (Jvm.Cond.code ({ cls := "TwinRegisterModel", name := "isGroup", desc := "(I)Z" } : Jvm.MethodName) prog_7_method_6_code (1 : Nat) (Option.some Jvm.ClassFile.FieldType.boolean)) ∈ ag_all := ag_in 714 (by decide +kernel) (by decide +kernel)
theorem m_715 : (Jvm.Cond.methodLink "TwinRegisterModel" (114 : Nat) ({ cls := "TwinRegisterModel", name := "membersOf", desc := "(I)I" } : Jvm.MethodName)) ∈ ag_all := ag_in 715 (by decide +kernel) (by decide +kernel)
theorem m_717 : (Jvm.Cond.instanceMethod ({ cls := "TwinRegisterModel", name := "membersOf", desc := "(I)I" } : Jvm.MethodName)) ∈ ag_all := ag_in 717 (by decide +kernel) (by decide +kernel)
theorem m_718 : (Jvm.Cond.code ({ cls := "TwinRegisterModel", name := "membersOf", desc := "(I)I" } : Jvm.MethodName) prog_7_method_22_code (5 : Nat) (Option.some Jvm.ClassFile.FieldType.int)) ∈ ag_all := ag_in 718 (by decide +kernel) (by decide +kernel)
theorem m_719 : (Jvm.Cond.methodLink "TwinRegisterLaw" (128 : Nat) ({ cls := "TwinRegisterModel", name := "addJob", desc := "(IIIII)I" } : Jvm.MethodName)) ∈ ag_all := ag_in 719 (by decide +kernel) (by decide +kernel)
theorem m_720 : (Jvm.Cond.instanceMethod ({ cls := "TwinRegisterModel", name := "addJob", desc := "(IIIII)I" } : Jvm.MethodName)) ∈ ag_all := ag_in 720 (by decide +kernel) (by decide +kernel)
theorem m_721 : (Jvm.Cond.selects "TwinRegisterModel" ({ cls := "TwinRegisterModel", name := "addJob", desc := "(IIIII)I" } : Jvm.MethodName) ({ cls := "TwinRegisterModel", name := "addJob", desc := "(IIIII)I" } : Jvm.MethodName)) ∈ ag_all := ag_in 721 (by decide +kernel) (by decide +kernel)
theorem m_722 : (Jvm.Cond.code ({ cls := "TwinRegisterModel", name := "addJob", desc := "(IIIII)I" } : Jvm.MethodName) prog_7_method_24_code (7 : Nat) (Option.some Jvm.ClassFile.FieldType.int)) ∈ ag_all := ag_in 722 (by decide +kernel) (by decide +kernel)
theorem m_723 : (Jvm.Cond.methodLink "TwinRegisterLaw" (132 : Nat) ({ cls := "TwinRegisterModel", name := "wave", desc := "()I" } : Jvm.MethodName)) ∈ ag_all := ag_in 723 (by decide +kernel) (by decide +kernel)
theorem m_724 : (Jvm.Cond.instanceMethod ({ cls := "TwinRegisterModel", name := "wave", desc := "()I" } : Jvm.MethodName)) ∈ ag_all := ag_in 724 (by decide +kernel) (by decide +kernel)
theorem m_725 : (Jvm.Cond.selects "TwinRegisterModel" ({ cls := "TwinRegisterModel", name := "wave", desc := "()I" } : Jvm.MethodName) ({ cls := "TwinRegisterModel", name := "wave", desc := "()I" } : Jvm.MethodName)) ∈ ag_all := ag_in 725 (by decide +kernel) (by decide +kernel)
theorem m_726 : (Jvm.Cond.code ({ cls := "TwinRegisterModel", name := "wave", desc := "()I" } : Jvm.MethodName) prog_7_method_27_code (3 : Nat) (Option.some Jvm.ClassFile.FieldType.int)) ∈ ag_all := ag_in 726 (by decide +kernel) (by decide +kernel)
theorem m_727 : (Jvm.Cond.methodLink "TwinRegisterModel" (120 : Nat) ({ cls := "TwinRegisterModel", name := "looks", desc := "(I)V" } : Jvm.MethodName)) ∈ ag_all := ag_in 727 (by decide +kernel) (by decide +kernel)
theorem m_729 : (Jvm.Cond.instanceMethod ({ cls := "TwinRegisterModel", name := "looks", desc := "(I)V" } : Jvm.MethodName)) ∈ ag_all := ag_in 729 (by decide +kernel) (by decide +kernel)
theorem m_730 : (Jvm.Cond.code ({ cls := "TwinRegisterModel", name := "looks", desc := "(I)V" } : Jvm.MethodName) prog_7_method_25_code (5 : Nat) (Option.none : Option Jvm.ClassFile.FieldType)) ∈ ag_all := ag_in 730 (by decide +kernel) (by decide +kernel)
theorem m_731 : (Jvm.Cond.methodLink "TwinRegisterModel" (124 : Nat) ({ cls := "TwinRegisterModel", name := "starts", desc := "(I)I" } : Jvm.MethodName)) ∈ ag_all := ag_in 731 (by decide +kernel) (by decide +kernel)
theorem m_733 : (Jvm.Cond.instanceMethod ({ cls := "TwinRegisterModel", name := "starts", desc := "(I)I" } : Jvm.MethodName)) ∈ ag_all := ag_in 733 (by decide +kernel) (by decide +kernel)
theorem m_734 : (Jvm.Cond.code ({ cls := "TwinRegisterModel", name := "starts", desc := "(I)I" } : Jvm.MethodName) prog_7_method_26_code (5 : Nat) (Option.some Jvm.ClassFile.FieldType.int)) ∈ ag_all := ag_in 734 (by decide +kernel) (by decide +kernel)
theorem m_735 : (Jvm.Cond.methodLink "TwinRegisterLaw" (135 : Nat) ({ cls := "TwinRegisterModel", name := "cancel", desc := "(I)I" } : Jvm.MethodName)) ∈ ag_all := ag_in 735 (by decide +kernel) (by decide +kernel)
theorem m_736 : (Jvm.Cond.instanceMethod ({ cls := "TwinRegisterModel", name := "cancel", desc := "(I)I" } : Jvm.MethodName)) ∈ ag_all := ag_in 736 (by decide +kernel) (by decide +kernel)
theorem m_737 : (Jvm.Cond.selects "TwinRegisterModel" ({ cls := "TwinRegisterModel", name := "cancel", desc := "(I)I" } : Jvm.MethodName) ({ cls := "TwinRegisterModel", name := "cancel", desc := "(I)I" } : Jvm.MethodName)) ∈ ag_all := ag_in 737 (by decide +kernel) (by decide +kernel)
theorem m_738 : (Jvm.Cond.code ({ cls := "TwinRegisterModel", name := "cancel", desc := "(I)I" } : Jvm.MethodName) prog_7_method_29_code (2 : Nat) (Option.some Jvm.ClassFile.FieldType.int)) ∈ ag_all := ag_in 738 (by decide +kernel) (by decide +kernel)
theorem m_739 : (Jvm.Cond.methodLink "TwinRegisterModel" (127 : Nat) ({ cls := "TwinRegisterModel", name := "isJob", desc := "(I)Z" } : Jvm.MethodName)) ∈ ag_all := ag_in 739 (by decide +kernel) (by decide +kernel)
theorem m_741 : (Jvm.Cond.instanceMethod ({ cls := "TwinRegisterModel", name := "isJob", desc := "(I)Z" } : Jvm.MethodName)) ∈ ag_all := ag_in 741 (by decide +kernel) (by decide +kernel)
theorem m_742 : (Jvm.Cond.code ({ cls := "TwinRegisterModel", name := "isJob", desc := "(I)Z" } : Jvm.MethodName) prog_7_method_28_code (2 : Nat) (Option.some Jvm.ClassFile.FieldType.boolean)) ∈ ag_all := ag_in 742 (by decide +kernel) (by decide +kernel)
theorem m_743 : (Jvm.Cond.methodLink "TwinRegisterLaw" (138 : Nat) ({ cls := "TwinRegisterModel", name := "version", desc := "(I)I" } : Jvm.MethodName)) ∈ ag_all := ag_in 743 (by decide +kernel) (by decide +kernel)
theorem m_744 : (Jvm.Cond.instanceMethod ({ cls := "TwinRegisterModel", name := "version", desc := "(I)I" } : Jvm.MethodName)) ∈ ag_all := ag_in 744 (by decide +kernel) (by decide +kernel)
theorem m_745 : (Jvm.Cond.selects "TwinRegisterModel" ({ cls := "TwinRegisterModel", name := "version", desc := "(I)I" } : Jvm.MethodName) ({ cls := "TwinRegisterModel", name := "version", desc := "(I)I" } : Jvm.MethodName)) ∈ ag_all := ag_in 745 (by decide +kernel) (by decide +kernel)
theorem m_746 : (Jvm.Cond.code ({ cls := "TwinRegisterModel", name := "version", desc := "(I)I" } : Jvm.MethodName) prog_7_method_31_code (2 : Nat) (Option.some Jvm.ClassFile.FieldType.int)) ∈ ag_all := ag_in 746 (by decide +kernel) (by decide +kernel)
theorem m_747 : (Jvm.Cond.methodLink "TwinRegisterModel" (130 : Nat) ({ cls := "TwinRegisterModel", name := "asks", desc := "(I)Z" } : Jvm.MethodName)) ∈ ag_all := ag_in 747 (by decide +kernel) (by decide +kernel)
theorem m_749 : (Jvm.Cond.instanceMethod ({ cls := "TwinRegisterModel", name := "asks", desc := "(I)Z" } : Jvm.MethodName)) ∈ ag_all := ag_in 749 (by decide +kernel) (by decide +kernel)
theorem m_750 : (Jvm.Cond.code ({ cls := "TwinRegisterModel", name := "asks", desc := "(I)Z" } : Jvm.MethodName) prog_7_method_30_code (2 : Nat) (Option.some Jvm.ClassFile.FieldType.boolean)) ∈ ag_all := ag_in 750 (by decide +kernel) (by decide +kernel)
theorem m_751 : (Jvm.Cond.methodLink "TwinRegisterLaw" (141 : Nat) ({ cls := "TwinRegisterModel", name := "heard", desc := "(I)I" } : Jvm.MethodName)) ∈ ag_all := ag_in 751 (by decide +kernel) (by decide +kernel)
theorem m_752 : (Jvm.Cond.instanceMethod ({ cls := "TwinRegisterModel", name := "heard", desc := "(I)I" } : Jvm.MethodName)) ∈ ag_all := ag_in 752 (by decide +kernel) (by decide +kernel)
theorem m_753 : (Jvm.Cond.selects "TwinRegisterModel" ({ cls := "TwinRegisterModel", name := "heard", desc := "(I)I" } : Jvm.MethodName) ({ cls := "TwinRegisterModel", name := "heard", desc := "(I)I" } : Jvm.MethodName)) ∈ ag_all := ag_in 753 (by decide +kernel) (by decide +kernel)
theorem m_754 : (Jvm.Cond.code ({ cls := "TwinRegisterModel", name := "heard", desc := "(I)I" } : Jvm.MethodName) prog_7_method_32_code (2 : Nat) (Option.some Jvm.ClassFile.FieldType.int)) ∈ ag_all := ag_in 754 (by decide +kernel) (by decide +kernel)
theorem m_755 : (Jvm.Cond.methodLink "TwinRegisterLaw" (144 : Nat) ({ cls := "TwinRegisterModel", name := "wished", desc := "(II)I" } : Jvm.MethodName)) ∈ ag_all := ag_in 755 (by decide +kernel) (by decide +kernel)
theorem m_756 : (Jvm.Cond.instanceMethod ({ cls := "TwinRegisterModel", name := "wished", desc := "(II)I" } : Jvm.MethodName)) ∈ ag_all := ag_in 756 (by decide +kernel) (by decide +kernel)
theorem m_757 : (Jvm.Cond.selects "TwinRegisterModel" ({ cls := "TwinRegisterModel", name := "wished", desc := "(II)I" } : Jvm.MethodName) ({ cls := "TwinRegisterModel", name := "wished", desc := "(II)I" } : Jvm.MethodName)) ∈ ag_all := ag_in 757 (by decide +kernel) (by decide +kernel)
theorem m_758 : (Jvm.Cond.code ({ cls := "TwinRegisterModel", name := "wished", desc := "(II)I" } : Jvm.MethodName) prog_7_method_34_code (3 : Nat) (Option.some Jvm.ClassFile.FieldType.int)) ∈ ag_all := ag_in 758 (by decide +kernel) (by decide +kernel)
theorem m_759 : (Jvm.Cond.methodLink "TwinRegisterModel" (133 : Nat) ({ cls := "TwinRegisterModel", name := "asksLeaf", desc := "(II)Z" } : Jvm.MethodName)) ∈ ag_all := ag_in 759 (by decide +kernel) (by decide +kernel)
theorem m_761 : (Jvm.Cond.instanceMethod ({ cls := "TwinRegisterModel", name := "asksLeaf", desc := "(II)Z" } : Jvm.MethodName)) ∈ ag_all := ag_in 761 (by decide +kernel) (by decide +kernel)
theorem m_762 : (Jvm.Cond.code ({ cls := "TwinRegisterModel", name := "asksLeaf", desc := "(II)Z" } : Jvm.MethodName) prog_7_method_33_code (3 : Nat) (Option.some Jvm.ClassFile.FieldType.boolean)) ∈ ag_all := ag_in 762 (by decide +kernel) (by decide +kernel)
theorem m_763 : (Jvm.Cond.methodLink "TwinRegisterLaw" (147 : Nat) ({ cls := "TwinRegisterModel", name := "reported", desc := "(II)I" } : Jvm.MethodName)) ∈ ag_all := ag_in 763 (by decide +kernel) (by decide +kernel)
theorem m_764 : (Jvm.Cond.instanceMethod ({ cls := "TwinRegisterModel", name := "reported", desc := "(II)I" } : Jvm.MethodName)) ∈ ag_all := ag_in 764 (by decide +kernel) (by decide +kernel)
theorem m_765 : (Jvm.Cond.selects "TwinRegisterModel" ({ cls := "TwinRegisterModel", name := "reported", desc := "(II)I" } : Jvm.MethodName) ({ cls := "TwinRegisterModel", name := "reported", desc := "(II)I" } : Jvm.MethodName)) ∈ ag_all := ag_in 765 (by decide +kernel) (by decide +kernel)
theorem m_766 : (Jvm.Cond.code ({ cls := "TwinRegisterModel", name := "reported", desc := "(II)I" } : Jvm.MethodName) prog_7_method_35_code (3 : Nat) (Option.some Jvm.ClassFile.FieldType.int)) ∈ ag_all := ag_in 766 (by decide +kernel) (by decide +kernel)
theorem m_767 : (Jvm.Cond.methodLink "TwinRegisterLaw" (150 : Nat) ({ cls := "TwinRegisterModel", name := "why", desc := "(II)I" } : Jvm.MethodName)) ∈ ag_all := ag_in 767 (by decide +kernel) (by decide +kernel)
theorem m_768 : (Jvm.Cond.instanceMethod ({ cls := "TwinRegisterModel", name := "why", desc := "(II)I" } : Jvm.MethodName)) ∈ ag_all := ag_in 768 (by decide +kernel) (by decide +kernel)
theorem m_769 : (Jvm.Cond.selects "TwinRegisterModel" ({ cls := "TwinRegisterModel", name := "why", desc := "(II)I" } : Jvm.MethodName) ({ cls := "TwinRegisterModel", name := "why", desc := "(II)I" } : Jvm.MethodName)) ∈ ag_all := ag_in 769 (by decide +kernel) (by decide +kernel)
theorem m_770 : (Jvm.Cond.code ({ cls := "TwinRegisterModel", name := "why", desc := "(II)I" } : Jvm.MethodName) prog_7_method_36_code (3 : Nat) (Option.some Jvm.ClassFile.FieldType.int)) ∈ ag_all := ag_in 770 (by decide +kernel) (by decide +kernel)
theorem m_771 : (Jvm.Cond.methodLink "TwinRegisterLaw" (153 : Nat) ({ cls := "TwinRegisterModel", name := "differences", desc := "(I)I" } : Jvm.MethodName)) ∈ ag_all := ag_in 771 (by decide +kernel) (by decide +kernel)
theorem m_772 : (Jvm.Cond.instanceMethod ({ cls := "TwinRegisterModel", name := "differences", desc := "(I)I" } : Jvm.MethodName)) ∈ ag_all := ag_in 772 (by decide +kernel) (by decide +kernel)
theorem m_773 : (Jvm.Cond.selects "TwinRegisterModel" ({ cls := "TwinRegisterModel", name := "differences", desc := "(I)I" } : Jvm.MethodName) ({ cls := "TwinRegisterModel", name := "differences", desc := "(I)I" } : Jvm.MethodName)) ∈ ag_all := ag_in 773 (by decide +kernel) (by decide +kernel)
theorem m_774 : (Jvm.Cond.code ({ cls := "TwinRegisterModel", name := "differences", desc := "(I)I" } : Jvm.MethodName) prog_7_method_37_code (2 : Nat) (Option.some Jvm.ClassFile.FieldType.int)) ∈ ag_all := ag_in 774 (by decide +kernel) (by decide +kernel)
theorem m_775 : (Jvm.Cond.methodLink "TwinRegisterLaw" (156 : Nat) ({ cls := "TwinRegisterModel", name := "differencesAnew", desc := "(I)I" } : Jvm.MethodName)) ∈ ag_all := ag_in 775 (by decide +kernel) (by decide +kernel)
theorem m_776 : (Jvm.Cond.instanceMethod ({ cls := "TwinRegisterModel", name := "differencesAnew", desc := "(I)I" } : Jvm.MethodName)) ∈ ag_all := ag_in 776 (by decide +kernel) (by decide +kernel)
theorem m_777 : (Jvm.Cond.selects "TwinRegisterModel" ({ cls := "TwinRegisterModel", name := "differencesAnew", desc := "(I)I" } : Jvm.MethodName) ({ cls := "TwinRegisterModel", name := "differencesAnew", desc := "(I)I" } : Jvm.MethodName)) ∈ ag_all := ag_in 777 (by decide +kernel) (by decide +kernel)
theorem m_778 : (Jvm.Cond.code ({ cls := "TwinRegisterModel", name := "differencesAnew", desc := "(I)I" } : Jvm.MethodName) prog_7_method_38_code (2 : Nat) (Option.some Jvm.ClassFile.FieldType.int)) ∈ ag_all := ag_in 778 (by decide +kernel) (by decide +kernel)
theorem m_779 : (Jvm.Cond.methodLink "TwinRegisterLaw" (159 : Nat) ({ cls := "TwinRegisterModel", name := "members", desc := "(I)I" } : Jvm.MethodName)) ∈ ag_all := ag_in 779 (by decide +kernel) (by decide +kernel)
theorem m_780 : (Jvm.Cond.instanceMethod ({ cls := "TwinRegisterModel", name := "members", desc := "(I)I" } : Jvm.MethodName)) ∈ ag_all := ag_in 780 (by decide +kernel) (by decide +kernel)
theorem m_781 : (Jvm.Cond.selects "TwinRegisterModel" ({ cls := "TwinRegisterModel", name := "members", desc := "(I)I" } : Jvm.MethodName) ({ cls := "TwinRegisterModel", name := "members", desc := "(I)I" } : Jvm.MethodName)) ∈ ag_all := ag_in 781 (by decide +kernel) (by decide +kernel)
theorem m_782 : (Jvm.Cond.code ({ cls := "TwinRegisterModel", name := "members", desc := "(I)I" } : Jvm.MethodName) prog_7_method_39_code (2 : Nat) (Option.some Jvm.ClassFile.FieldType.int)) ∈ ag_all := ag_in 782 (by decide +kernel) (by decide +kernel)
theorem m_783 : (Jvm.Cond.methodLink "TwinRegisterLaw" (163 : Nat) ({ cls := "TwinRegisterModel", name := "jobs", desc := "()I" } : Jvm.MethodName)) ∈ ag_all := ag_in 783 (by decide +kernel) (by decide +kernel)
theorem m_784 : (Jvm.Cond.instanceMethod ({ cls := "TwinRegisterModel", name := "jobs", desc := "()I" } : Jvm.MethodName)) ∈ ag_all := ag_in 784 (by decide +kernel) (by decide +kernel)
theorem m_785 : (Jvm.Cond.selects "TwinRegisterModel" ({ cls := "TwinRegisterModel", name := "jobs", desc := "()I" } : Jvm.MethodName) ({ cls := "TwinRegisterModel", name := "jobs", desc := "()I" } : Jvm.MethodName)) ∈ ag_all := ag_in 785 (by decide +kernel) (by decide +kernel)
theorem m_786 : (Jvm.Cond.code ({ cls := "TwinRegisterModel", name := "jobs", desc := "()I" } : Jvm.MethodName) prog_7_method_40_code (1 : Nat) (Option.some Jvm.ClassFile.FieldType.int)) ∈ ag_all := ag_in 786 (by decide +kernel) (by decide +kernel)
theorem m_787 : (Jvm.Cond.methodLink "TwinRegisterLaw" (166 : Nat) ({ cls := "TwinRegisterModel", name := "state", desc := "(I)I" } : Jvm.MethodName)) ∈ ag_all := ag_in 787 (by decide +kernel) (by decide +kernel)
theorem m_788 : (Jvm.Cond.instanceMethod ({ cls := "TwinRegisterModel", name := "state", desc := "(I)I" } : Jvm.MethodName)) ∈ ag_all := ag_in 788 (by decide +kernel) (by decide +kernel)
theorem m_789 : (Jvm.Cond.selects "TwinRegisterModel" ({ cls := "TwinRegisterModel", name := "state", desc := "(I)I" } : Jvm.MethodName) ({ cls := "TwinRegisterModel", name := "state", desc := "(I)I" } : Jvm.MethodName)) ∈ ag_all := ag_in 789 (by decide +kernel) (by decide +kernel)
theorem m_790 : (Jvm.Cond.code ({ cls := "TwinRegisterModel", name := "state", desc := "(I)I" } : Jvm.MethodName) prog_7_method_41_code (2 : Nat) (Option.some Jvm.ClassFile.FieldType.int)) ∈ ag_all := ag_in 790 (by decide +kernel) (by decide +kernel)
theorem m_791 : (Jvm.Cond.methodLink "TwinRegisterLaw" (169 : Nat) ({ cls := "TwinRegisterModel", name := "devices", desc := "(II)I" } : Jvm.MethodName)) ∈ ag_all := ag_in 791 (by decide +kernel) (by decide +kernel)
theorem m_792 : (Jvm.Cond.instanceMethod ({ cls := "TwinRegisterModel", name := "devices", desc := "(II)I" } : Jvm.MethodName)) ∈ ag_all := ag_in 792 (by decide +kernel) (by decide +kernel)
theorem m_793 : (Jvm.Cond.selects "TwinRegisterModel" ({ cls := "TwinRegisterModel", name := "devices", desc := "(II)I" } : Jvm.MethodName) ({ cls := "TwinRegisterModel", name := "devices", desc := "(II)I" } : Jvm.MethodName)) ∈ ag_all := ag_in 793 (by decide +kernel) (by decide +kernel)
theorem m_794 : (Jvm.Cond.code ({ cls := "TwinRegisterModel", name := "devices", desc := "(II)I" } : Jvm.MethodName) prog_7_method_42_code (3 : Nat) (Option.some Jvm.ClassFile.FieldType.int)) ∈ ag_all := ag_in 794 (by decide +kernel) (by decide +kernel)
theorem m_795 : (Jvm.Cond.arrayClass Jvm.ClassFile.FieldType.long) ∈ ag_all := ag_in 795 (by decide +kernel) (by decide +kernel)
theorem m_796 : (Jvm.Cond.sameMethod "java/lang/Throwable" "java/lang/Throwable" "fillInStackTrace" "(I)Ljava/lang/Throwable;") ∈ ag_all := ag_in 796 (by decide +kernel) (by decide +kernel)
