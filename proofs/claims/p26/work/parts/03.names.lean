def y_T_init : MethodName := ⟨"TwinRegister", "<init>", "()V"⟩
abbrev b_T_init : ByteArray := prog_1_method_1_code
def y_F_init : MethodName := ⟨"TwinRegister$Draft", "<init>", "()V"⟩
abbrev b_F_init : ByteArray := prog_3_method_1_code
def y_D_init : MethodName := ⟨"TwinRegister$Device", "<init>", "()V"⟩
abbrev b_D_init : ByteArray := prog_2_method_1_code
def y_G_init : MethodName := ⟨"TwinRegister$Group", "<init>", "()V"⟩
abbrev b_G_init : ByteArray := prog_4_method_1_code
def y_J_init : MethodName := ⟨"TwinRegister$Job", "<init>", "()V"⟩
abbrev b_J_init : ByteArray := prog_5_method_1_code
def y_L_cell : MethodName := ⟨"TwinRegisterLaw", "cell", "([II)I"⟩
abbrev b_L_cell : ByteArray := method_2_code
def y_L_low : MethodName := ⟨"TwinRegisterLaw", "low", "(II)I"⟩
abbrev b_L_low : ByteArray := method_3_code
def y_L_empty : MethodName := ⟨"TwinRegisterLaw", "empty", "([I)V"⟩
abbrev b_L_empty : ByteArray := method_25_code
def y_L_talks : MethodName := ⟨"TwinRegisterLaw", "talks", "(LTwinRegister;III[I[I[I[I[I)Z"⟩
abbrev b_L_talks : ByteArray := method_27_code
def y_L_put : MethodName := ⟨"TwinRegisterLaw", "put", "(LTwinRegister;II)I"⟩
abbrev b_L_put : ByteArray := method_4_code
def y_T_put : MethodName := ⟨"TwinRegister", "put", "(II)I"⟩
abbrev b_T_put : ByteArray := prog_1_method_2_code
def y_T_requireLeaf : MethodName := ⟨"TwinRegister", "requireLeaf", "(I)V"⟩
abbrev b_T_requireLeaf : ByteArray := prog_1_method_29_code
def y_T_requireInRange : MethodName := ⟨"TwinRegister", "requireInRange", "(III)V"⟩
abbrev b_T_requireInRange : ByteArray := prog_1_method_30_code
def y_F_assign : MethodName := ⟨"TwinRegister$Draft", "assign", "(II)V"⟩
abbrev b_F_assign : ByteArray := prog_3_method_2_code
def y_F_count : MethodName := ⟨"TwinRegister$Draft", "count", "()I"⟩
abbrev b_F_count : ByteArray := prog_3_method_4_code
def y_I_bitCount : MethodName := ⟨"java/lang/Integer", "bitCount", "(I)I"⟩
abbrev b_I_bitCount : ByteArray := prog_12_method_49_code
def y_L_drafted : MethodName := ⟨"TwinRegisterLaw", "drafted", "([I)I"⟩
abbrev b_L_drafted : ByteArray := method_24_code
def y_L_drop : MethodName := ⟨"TwinRegisterLaw", "drop", "(LTwinRegister;I)I"⟩
abbrev b_L_drop : ByteArray := method_5_code
def y_T_drop : MethodName := ⟨"TwinRegister", "drop", "(I)I"⟩
abbrev b_T_drop : ByteArray := prog_1_method_3_code
def y_L_wish : MethodName := ⟨"TwinRegisterLaw", "wish", "(LTwinRegister;II)I"⟩
abbrev b_L_wish : ByteArray := method_6_code
def y_T_wish : MethodName := ⟨"TwinRegister", "wish", "(II)I"⟩
abbrev b_T_wish : ByteArray := prog_1_method_4_code
def y_T_deviceAt : MethodName := ⟨"TwinRegister", "deviceAt", "(I)LTwinRegister$Device;"⟩
abbrev b_T_deviceAt : ByteArray := prog_1_method_25_code
def y_T_mergeWish : MethodName := ⟨"TwinRegister", "mergeWish", "(LTwinRegister$Device;)V"⟩
abbrev b_T_mergeWish : ByteArray := prog_1_method_32_code
def y_F_has : MethodName := ⟨"TwinRegister$Draft", "has", "(I)Z"⟩
abbrev b_F_has : ByteArray := prog_3_method_3_code
def y_D_takeWish : MethodName := ⟨"TwinRegister$Device", "takeWish", "(II)V"⟩
abbrev b_D_takeWish : ByteArray := prog_2_method_2_code
def y_D_keepDifference : MethodName := ⟨"TwinRegister$Device", "keepDifference", "(I)V"⟩
abbrev b_D_keepDifference : ByteArray := prog_2_method_5_code
def y_D_comparesUnlike : MethodName := ⟨"TwinRegister$Device", "comparesUnlike", "(I)Z"⟩
abbrev b_D_comparesUnlike : ByteArray := prog_2_method_7_code
def y_F_empty : MethodName := ⟨"TwinRegister$Draft", "empty", "()V"⟩
abbrev b_F_empty : ByteArray := prog_3_method_5_code
def y_L_report : MethodName := ⟨"TwinRegisterLaw", "report", "(LTwinRegister;II)I"⟩
abbrev b_L_report : ByteArray := method_7_code
def y_T_report : MethodName := ⟨"TwinRegister", "report", "(II)I"⟩
abbrev b_T_report : ByteArray := prog_1_method_5_code
def y_T_requireAwake : MethodName := ⟨"TwinRegister", "requireAwake", "(LTwinRegister$Device;)V"⟩
abbrev b_T_requireAwake : ByteArray := prog_1_method_31_code
def y_T_mergeReport : MethodName := ⟨"TwinRegister", "mergeReport", "(LTwinRegister$Device;)V"⟩
abbrev b_T_mergeReport : ByteArray := prog_1_method_33_code
def y_D_takeReport : MethodName := ⟨"TwinRegister$Device", "takeReport", "(II)V"⟩
abbrev b_D_takeReport : ByteArray := prog_2_method_3_code
def y_L_differing : MethodName := ⟨"TwinRegisterLaw", "differing", "([II)I"⟩
abbrev b_L_differing : ByteArray := method_21_code
def y_L_wishedOf : MethodName := ⟨"TwinRegisterLaw", "wishedOf", "(I)I"⟩
abbrev b_L_wishedOf : ByteArray := method_19_code
def y_L_reportedOf : MethodName := ⟨"TwinRegisterLaw", "reportedOf", "(I)I"⟩
abbrev b_L_reportedOf : ByteArray := method_20_code
def y_L_many : MethodName := ⟨"TwinRegisterLaw", "many", "(I)I"⟩
abbrev b_L_many : ByteArray := method_22_code
def y_L_obey : MethodName := ⟨"TwinRegisterLaw", "obey", "(LTwinRegister;I)I"⟩
abbrev b_L_obey : ByteArray := method_8_code
def y_T_obey : MethodName := ⟨"TwinRegister", "obey", "(I)I"⟩
abbrev b_T_obey : ByteArray := prog_1_method_6_code
def y_D_differsAt : MethodName := ⟨"TwinRegister$Device", "differsAt", "(I)Z"⟩
abbrev b_D_differsAt : ByteArray := prog_2_method_6_code
def y_L_refuse : MethodName := ⟨"TwinRegisterLaw", "refuse", "(LTwinRegister;III)I"⟩
abbrev b_L_refuse : ByteArray := method_9_code
def y_T_refuse : MethodName := ⟨"TwinRegister", "refuse", "(III)I"⟩
abbrev b_T_refuse : ByteArray := prog_1_method_7_code
def y_D_takeRefusal : MethodName := ⟨"TwinRegister$Device", "takeRefusal", "(II)V"⟩
abbrev b_D_takeRefusal : ByteArray := prog_2_method_4_code
def y_L_sleep : MethodName := ⟨"TwinRegisterLaw", "sleep", "(LTwinRegister;I)I"⟩
abbrev b_L_sleep : ByteArray := method_10_code
def y_T_sleep : MethodName := ⟨"TwinRegister", "sleep", "(I)Z"⟩
abbrev b_T_sleep : ByteArray := prog_1_method_8_code
def y_L_wake : MethodName := ⟨"TwinRegisterLaw", "wake", "(LTwinRegister;I)I"⟩
abbrev b_L_wake : ByteArray := method_11_code
def y_T_wake : MethodName := ⟨"TwinRegister", "wake", "(I)I"⟩
abbrev b_T_wake : ByteArray := prog_1_method_9_code
def y_D_heardVersion : MethodName := ⟨"TwinRegister$Device", "heardVersion", "()I"⟩
abbrev b_D_heardVersion : ByteArray := prog_2_method_8_code
def y_L_works : MethodName := ⟨"TwinRegisterLaw", "works", "(LTwinRegister;III[I[I[I[I[I[I[I)Z"⟩
abbrev b_L_works : ByteArray := method_28_code
def y_L_setGroup : MethodName := ⟨"TwinRegisterLaw", "setGroup", "(LTwinRegister;IIII)I"⟩
abbrev b_L_setGroup : ByteArray := method_12_code
def y_T_setGroup : MethodName := ⟨"TwinRegister", "setGroup", "(IIII)I"⟩
abbrev b_T_setGroup : ByteArray := prog_1_method_10_code
def y_T_groupAt : MethodName := ⟨"TwinRegister", "groupAt", "(I)LTwinRegister$Group;"⟩
abbrev b_T_groupAt : ByteArray := prog_1_method_26_code
def y_T_requireGroup : MethodName := ⟨"TwinRegister", "requireGroup", "(I)V"⟩
abbrev b_T_requireGroup : ByteArray := prog_1_method_27_code
def y_T_membersOf : MethodName := ⟨"TwinRegister", "membersOf", "(LTwinRegister$Group;)I"⟩
abbrev b_T_membersOf : ByteArray := prog_1_method_34_code
def y_G_admits : MethodName := ⟨"TwinRegister$Group", "admits", "(LTwinRegister$Device;)Z"⟩
abbrev b_G_admits : ByteArray := prog_4_method_2_code
def y_L_members : MethodName := ⟨"TwinRegisterLaw", "members", "([I[II)I"⟩
abbrev b_L_members : ByteArray := method_23_code
def y_L_addJob : MethodName := ⟨"TwinRegisterLaw", "addJob", "(LTwinRegister;IIIII)I"⟩
abbrev b_L_addJob : ByteArray := method_13_code
def y_T_addJob : MethodName := ⟨"TwinRegister", "addJob", "(IIIII)I"⟩
abbrev b_T_addJob : ByteArray := prog_1_method_11_code
def y_T_wave : MethodName := ⟨"TwinRegister", "wave", "()I"⟩
abbrev b_T_wave : ByteArray := prog_1_method_12_code
def y_T_advance : MethodName := ⟨"TwinRegister", "advance", "(LTwinRegister$Job;)I"⟩
abbrev b_T_advance : ByteArray := prog_1_method_35_code
def y_T_judgeStarted : MethodName := ⟨"TwinRegister", "judgeStarted", "(LTwinRegister$Job;)V"⟩
abbrev b_T_judgeStarted : ByteArray := prog_1_method_36_code
def y_J_open : MethodName := ⟨"TwinRegister$Job", "open", "()I"⟩
abbrev b_J_open : ByteArray := prog_5_method_2_code
def y_T_startMore : MethodName := ⟨"TwinRegister", "startMore", "(LTwinRegister$Job;)I"⟩
abbrev b_T_startMore : ByteArray := prog_1_method_37_code
def y_L_waves : MethodName := ⟨"TwinRegisterLaw", "waves", "([I[I[I[I[I[I[I)I"⟩
abbrev b_L_waves : ByteArray := method_26_code
def y_L_cancel : MethodName := ⟨"TwinRegisterLaw", "cancel", "(LTwinRegister;I)I"⟩
abbrev b_L_cancel : ByteArray := method_14_code
def y_T_cancel : MethodName := ⟨"TwinRegister", "cancel", "(I)I"⟩
abbrev b_T_cancel : ByteArray := prog_1_method_13_code
def y_T_jobAt : MethodName := ⟨"TwinRegister", "jobAt", "(I)LTwinRegister$Job;"⟩
abbrev b_T_jobAt : ByteArray := prog_1_method_28_code
def y_L_state : MethodName := ⟨"TwinRegisterLaw", "state", "(LTwinRegister;I)I"⟩
abbrev b_L_state : ByteArray := method_17_code
def y_T_state : MethodName := ⟨"TwinRegister", "state", "(I)I"⟩
abbrev b_T_state : ByteArray := prog_1_method_23_code
def y_L_isTold : MethodName := ⟨"TwinRegisterLaw", "isTold", "(LTwinRegister;[I[I[I[I[I[I[I[I)Z"⟩
abbrev b_L_isTold : ByteArray := method_29_code
def y_L_version : MethodName := ⟨"TwinRegisterLaw", "version", "(LTwinRegister;I)I"⟩
abbrev b_L_version : ByteArray := method_15_code
def y_T_version : MethodName := ⟨"TwinRegister", "version", "(I)I"⟩
abbrev b_T_version : ByteArray := prog_1_method_14_code
def y_T_heard : MethodName := ⟨"TwinRegister", "heard", "(I)I"⟩
abbrev b_T_heard : ByteArray := prog_1_method_15_code
def y_T_differences : MethodName := ⟨"TwinRegister", "differences", "(I)I"⟩
abbrev b_T_differences : ByteArray := prog_1_method_19_code
def y_T_differencesAnew : MethodName := ⟨"TwinRegister", "differencesAnew", "(I)I"⟩
abbrev b_T_differencesAnew : ByteArray := prog_1_method_20_code
def y_L_wished : MethodName := ⟨"TwinRegisterLaw", "wished", "(LTwinRegister;II)I"⟩
abbrev b_L_wished : ByteArray := method_16_code
def y_T_wished : MethodName := ⟨"TwinRegister", "wished", "(II)I"⟩
abbrev b_T_wished : ByteArray := prog_1_method_16_code
def y_T_reported : MethodName := ⟨"TwinRegister", "reported", "(II)I"⟩
abbrev b_T_reported : ByteArray := prog_1_method_17_code
def y_T_why : MethodName := ⟨"TwinRegister", "why", "(II)I"⟩
abbrev b_T_why : ByteArray := prog_1_method_18_code
def y_T_members : MethodName := ⟨"TwinRegister", "members", "(I)I"⟩
abbrev b_T_members : ByteArray := prog_1_method_21_code
def y_L_devices : MethodName := ⟨"TwinRegisterLaw", "devices", "(LTwinRegister;II)I"⟩
abbrev b_L_devices : ByteArray := method_18_code
def y_T_devices : MethodName := ⟨"TwinRegister", "devices", "(II)I"⟩
abbrev b_T_devices : ByteArray := prog_1_method_24_code
def y_T_jobs : MethodName := ⟨"TwinRegister", "jobs", "()I"⟩
abbrev b_T_jobs : ByteArray := prog_1_method_22_code
theorem m_0 : Cond.selects "java/lang/Throwable" ⟨"java/lang/Throwable", "fillInStackTrace", "(I)Ljava/lang/Throwable;"⟩ ⟨"java/lang/Throwable", "fillInStackTrace", "(I)Ljava/lang/Throwable;"⟩ ∈ ag_all := ag_in 0 (by decide +kernel) (by decide +kernel)
theorem m_1 : Cond.selects "TwinRegister$Draft" ⟨"TwinRegister$Draft", "assign", "(II)V"⟩ ⟨"TwinRegister$Draft", "assign", "(II)V"⟩ ∈ ag_all := ag_in 1 (by decide +kernel) (by decide +kernel)
theorem m_2 : Cond.selects "TwinRegister$Draft" ⟨"TwinRegister$Draft", "count", "()I"⟩ ⟨"TwinRegister$Draft", "count", "()I"⟩ ∈ ag_all := ag_in 2 (by decide +kernel) (by decide +kernel)
theorem m_3 : Cond.selects "TwinRegister" ⟨"TwinRegister", "deviceAt", "(I)LTwinRegister$Device;"⟩ ⟨"TwinRegister", "deviceAt", "(I)LTwinRegister$Device;"⟩ ∈ ag_all := ag_in 3 (by decide +kernel) (by decide +kernel)
theorem m_4 : Cond.selects "TwinRegister" ⟨"TwinRegister", "mergeWish", "(LTwinRegister$Device;)V"⟩ ⟨"TwinRegister", "mergeWish", "(LTwinRegister$Device;)V"⟩ ∈ ag_all := ag_in 4 (by decide +kernel) (by decide +kernel)
theorem m_5 : Cond.selects "TwinRegister$Draft" ⟨"TwinRegister$Draft", "has", "(I)Z"⟩ ⟨"TwinRegister$Draft", "has", "(I)Z"⟩ ∈ ag_all := ag_in 5 (by decide +kernel) (by decide +kernel)
theorem m_6 : Cond.selects "TwinRegister$Device" ⟨"TwinRegister$Device", "takeWish", "(II)V"⟩ ⟨"TwinRegister$Device", "takeWish", "(II)V"⟩ ∈ ag_all := ag_in 6 (by decide +kernel) (by decide +kernel)
theorem m_7 : Cond.selects "TwinRegister$Device" ⟨"TwinRegister$Device", "keepDifference", "(I)V"⟩ ⟨"TwinRegister$Device", "keepDifference", "(I)V"⟩ ∈ ag_all := ag_in 7 (by decide +kernel) (by decide +kernel)
theorem m_8 : Cond.selects "TwinRegister$Device" ⟨"TwinRegister$Device", "comparesUnlike", "(I)Z"⟩ ⟨"TwinRegister$Device", "comparesUnlike", "(I)Z"⟩ ∈ ag_all := ag_in 8 (by decide +kernel) (by decide +kernel)
theorem m_9 : Cond.selects "TwinRegister$Draft" ⟨"TwinRegister$Draft", "empty", "()V"⟩ ⟨"TwinRegister$Draft", "empty", "()V"⟩ ∈ ag_all := ag_in 9 (by decide +kernel) (by decide +kernel)
theorem m_10 : Cond.selects "TwinRegister" ⟨"TwinRegister", "mergeReport", "(LTwinRegister$Device;)V"⟩ ⟨"TwinRegister", "mergeReport", "(LTwinRegister$Device;)V"⟩ ∈ ag_all := ag_in 10 (by decide +kernel) (by decide +kernel)
theorem m_11 : Cond.selects "TwinRegister$Device" ⟨"TwinRegister$Device", "takeReport", "(II)V"⟩ ⟨"TwinRegister$Device", "takeReport", "(II)V"⟩ ∈ ag_all := ag_in 11 (by decide +kernel) (by decide +kernel)
theorem m_12 : Cond.selects "TwinRegister$Device" ⟨"TwinRegister$Device", "differsAt", "(I)Z"⟩ ⟨"TwinRegister$Device", "differsAt", "(I)Z"⟩ ∈ ag_all := ag_in 12 (by decide +kernel) (by decide +kernel)
theorem m_13 : Cond.selects "TwinRegister$Device" ⟨"TwinRegister$Device", "takeRefusal", "(II)V"⟩ ⟨"TwinRegister$Device", "takeRefusal", "(II)V"⟩ ∈ ag_all := ag_in 13 (by decide +kernel) (by decide +kernel)
theorem m_14 : Cond.selects "TwinRegister$Device" ⟨"TwinRegister$Device", "heardVersion", "()I"⟩ ⟨"TwinRegister$Device", "heardVersion", "()I"⟩ ∈ ag_all := ag_in 14 (by decide +kernel) (by decide +kernel)
theorem m_15 : Cond.selects "TwinRegister" ⟨"TwinRegister", "groupAt", "(I)LTwinRegister$Group;"⟩ ⟨"TwinRegister", "groupAt", "(I)LTwinRegister$Group;"⟩ ∈ ag_all := ag_in 15 (by decide +kernel) (by decide +kernel)
theorem m_16 : Cond.selects "TwinRegister" ⟨"TwinRegister", "membersOf", "(LTwinRegister$Group;)I"⟩ ⟨"TwinRegister", "membersOf", "(LTwinRegister$Group;)I"⟩ ∈ ag_all := ag_in 16 (by decide +kernel) (by decide +kernel)
theorem m_17 : Cond.selects "TwinRegister$Group" ⟨"TwinRegister$Group", "admits", "(LTwinRegister$Device;)Z"⟩ ⟨"TwinRegister$Group", "admits", "(LTwinRegister$Device;)Z"⟩ ∈ ag_all := ag_in 17 (by decide +kernel) (by decide +kernel)
theorem m_18 : Cond.selects "TwinRegister" ⟨"TwinRegister", "advance", "(LTwinRegister$Job;)I"⟩ ⟨"TwinRegister", "advance", "(LTwinRegister$Job;)I"⟩ ∈ ag_all := ag_in 18 (by decide +kernel) (by decide +kernel)
theorem m_19 : Cond.selects "TwinRegister" ⟨"TwinRegister", "judgeStarted", "(LTwinRegister$Job;)V"⟩ ⟨"TwinRegister", "judgeStarted", "(LTwinRegister$Job;)V"⟩ ∈ ag_all := ag_in 19 (by decide +kernel) (by decide +kernel)
theorem m_20 : Cond.selects "TwinRegister$Job" ⟨"TwinRegister$Job", "open", "()I"⟩ ⟨"TwinRegister$Job", "open", "()I"⟩ ∈ ag_all := ag_in 20 (by decide +kernel) (by decide +kernel)
theorem m_21 : Cond.selects "TwinRegister" ⟨"TwinRegister", "startMore", "(LTwinRegister$Job;)I"⟩ ⟨"TwinRegister", "startMore", "(LTwinRegister$Job;)I"⟩ ∈ ag_all := ag_in 21 (by decide +kernel) (by decide +kernel)
theorem m_22 : Cond.selects "TwinRegister" ⟨"TwinRegister", "jobAt", "(I)LTwinRegister$Job;"⟩ ⟨"TwinRegister", "jobAt", "(I)LTwinRegister$Job;"⟩ ∈ ag_all := ag_in 22 (by decide +kernel) (by decide +kernel)
theorem m_23 : (Jvm.Cond.initialized "TwinRegisterLaw") ∈ ag_all := ag_in 23 (by decide +kernel) (by decide +kernel)
theorem m_24 : (Jvm.Cond.initialized "TwinRegister") ∈ ag_all := ag_in 24 (by decide +kernel) (by decide +kernel)
theorem m_25 : (Jvm.Cond.initialized "TwinRegister$Draft") ∈ ag_all := ag_in 25 (by decide +kernel) (by decide +kernel)
theorem m_26 : (Jvm.Cond.initialized "TwinRegister$Device") ∈ ag_all := ag_in 26 (by decide +kernel) (by decide +kernel)
theorem m_27 : (Jvm.Cond.initialized "TwinRegister$Group") ∈ ag_all := ag_in 27 (by decide +kernel) (by decide +kernel)
theorem m_28 : (Jvm.Cond.initialized "TwinRegister$Job") ∈ ag_all := ag_in 28 (by decide +kernel) (by decide +kernel)
theorem m_29 : (Jvm.Cond.initialized "java/lang/Throwable") ∈ ag_all := ag_in 29 (by decide +kernel) (by decide +kernel)
theorem m_30 : (Jvm.Cond.initialized "java/lang/Exception") ∈ ag_all := ag_in 30 (by decide +kernel) (by decide +kernel)
theorem m_31 : (Jvm.Cond.initialized "java/lang/RuntimeException") ∈ ag_all := ag_in 31 (by decide +kernel) (by decide +kernel)
theorem m_32 : (Jvm.Cond.initialized "java/lang/IndexOutOfBoundsException") ∈ ag_all := ag_in 32 (by decide +kernel) (by decide +kernel)
theorem m_33 : (Jvm.Cond.initialized "java/lang/IllegalArgumentException") ∈ ag_all := ag_in 33 (by decide +kernel) (by decide +kernel)
theorem m_34 : (Jvm.Cond.initialized "java/lang/Integer") ∈ ag_all := ag_in 34 (by decide +kernel) (by decide +kernel)
theorem m_35 : (Jvm.Cond.initialized "java/lang/IllegalStateException") ∈ ag_all := ag_in 35 (by decide +kernel) (by decide +kernel)
theorem m_36 : (Jvm.Cond.classLink "TwinRegisterLaw" (9 : Nat) "TwinRegister") ∈ ag_all := ag_in 36 (by decide +kernel) (by decide +kernel)
theorem m_37 : (Jvm.Cond.instantiable "TwinRegister" (5 : Nat)) ∈ ag_all := ag_in 37 (by decide +kernel) (by decide +kernel)
theorem m_38 : (Jvm.Cond.methodLink "TwinRegisterLaw" (161 : Nat) ({ cls := "TwinRegister", name := "<init>", desc := "()V" } : Jvm.MethodName)) ∈ ag_all := ag_in 38 (by decide +kernel) (by decide +kernel)
theorem m_39 : (Jvm.Cond.instanceMethod ({ cls := "TwinRegister", name := "<init>", desc := "()V" } : Jvm.MethodName)) ∈ ag_all := ag_in 39 (by decide +kernel) (by decide +kernel)
theorem m_40 : (Jvm.Cond.code ({ cls := "TwinRegister", name := "<init>", desc := "()V" } : Jvm.MethodName) prog_1_method_1_code (2 : Nat) (Option.none : Option Jvm.ClassFile.FieldType)) ∈ ag_all := ag_in 40 (by decide +kernel) (by decide +kernel)
theorem m_41 : (Jvm.Cond.methodLink "TwinRegister" (1 : Nat) ({ cls := "java/lang/Object", name := "<init>", desc := "()V" } : Jvm.MethodName)) ∈ ag_all := ag_in 41 (by decide +kernel) (by decide +kernel)
theorem m_42 : (Jvm.Cond.instanceMethod ({ cls := "java/lang/Object", name := "<init>", desc := "()V" } : Jvm.MethodName)) ∈ ag_all := ag_in 42 (by decide +kernel) (by decide +kernel)
theorem m_43 : (Jvm.Cond.code ({ cls := "java/lang/Object", name := "<init>", desc := "()V" } : Jvm.MethodName) object_method_1_code (1 : Nat) (Option.none : Option Jvm.ClassFile.FieldType)) ∈ ag_all := ag_in 43 (by decide +kernel) (by decide +kernel)
theorem m_44 : (Jvm.Cond.classLink "TwinRegister" (7 : Nat) "TwinRegister$Draft") ∈ ag_all := ag_in 44 (by decide +kernel) (by decide +kernel)
theorem m_45 : (Jvm.Cond.instantiable "TwinRegister$Draft" (2 : Nat)) ∈ ag_all := ag_in 45 (by decide +kernel) (by decide +kernel)
theorem m_46 : (Jvm.Cond.methodLinkNest "TwinRegister" (9 : Nat) ({ cls := "TwinRegister$Draft", name := "<init>", desc := "()V" } : Jvm.MethodName) "TwinRegister") ∈ ax_all := ax_in 46 (by decide +kernel) (by decide +kernel)
theorem m_47 : (Jvm.Cond.instanceMethod ({ cls := "TwinRegister$Draft", name := "<init>", desc := "()V" } : Jvm.MethodName)) ∈ ag_all := ag_in 47 (by decide +kernel) (by decide +kernel)
theorem m_48 : (Jvm.Cond.code ({ cls := "TwinRegister$Draft", name := "<init>", desc := "()V" } : Jvm.MethodName) prog_3_method_1_code (1 : Nat) (Option.none : Option Jvm.ClassFile.FieldType)) ∈ ag_all := ag_in 48 (by decide +kernel) (by decide +kernel)
theorem m_49 : (Jvm.Cond.methodLink "TwinRegister$Draft" (3 : Nat) ({ cls := "java/lang/Object", name := "<init>", desc := "()V" } : Jvm.MethodName)) ∈ ag_all := ag_in 49 (by decide +kernel) (by decide +kernel)
theorem m_50 : (Jvm.Cond.fieldLink "TwinRegister$Draft" (9 : Nat) "TwinRegister$Draft" "values" "[I") ∈ ag_all := ag_in 50 (by decide +kernel) (by decide +kernel)
theorem m_51 : (Jvm.Cond.fieldLinkNest "TwinRegister" (216 : Nat) "TwinRegister$Draft" "values" "[I" "TwinRegister") ∈ ax_all := ax_in 51 (by decide +kernel) (by decide +kernel)
theorem m_52 : (Jvm.Cond.fieldLink "TwinRegister$Draft" (15 : Nat) "TwinRegister$Draft" "leaves" "I") ∈ ag_all := ag_in 52 (by decide +kernel) (by decide +kernel)
theorem m_53 : (Jvm.Cond.laysFinal "TwinRegister$Draft" "TwinRegister$Draft" "values" "[I") ∈ ag_all := ag_in 53 (by decide +kernel) (by decide +kernel)
theorem m_54 : (Jvm.Cond.soleField "TwinRegister$Draft" "values") ∈ ag_all := ag_in 54 (by decide +kernel) (by decide +kernel)
theorem m_55 : (Jvm.Cond.lays "TwinRegister$Draft" "TwinRegister$Draft" "leaves" "I") ∈ ag_all := ag_in 55 (by decide +kernel) (by decide +kernel)
theorem m_56 : (Jvm.Cond.soleField "TwinRegister$Draft" "leaves") ∈ ag_all := ag_in 56 (by decide +kernel) (by decide +kernel)
theorem m_57 : (Jvm.Cond.superclass "TwinRegister$Draft" "java/lang/Object") ∈ ag_all := ag_in 57 (by decide +kernel) (by decide +kernel)
theorem m_58 : (Jvm.Cond.arrayClass Jvm.ClassFile.FieldType.int) ∈ ag_all := ag_in 58 (by decide +kernel) (by decide +kernel)
theorem m_59 : (Jvm.Cond.classLink "TwinRegister" (16 : Nat) "TwinRegister$Device") ∈ ag_all := ag_in 59 (by decide +kernel) (by decide +kernel)
theorem m_61 : (Jvm.Cond.instantiable "TwinRegister$Device" (8 : Nat)) ∈ ag_all := ag_in 61 (by decide +kernel) (by decide +kernel)
theorem m_62 : (Jvm.Cond.methodLinkNest "TwinRegister" (22 : Nat) ({ cls := "TwinRegister$Device", name := "<init>", desc := "()V" } : Jvm.MethodName) "TwinRegister") ∈ ax_all := ax_in 62 (by decide +kernel) (by decide +kernel)
theorem m_63 : (Jvm.Cond.instanceMethod ({ cls := "TwinRegister$Device", name := "<init>", desc := "()V" } : Jvm.MethodName)) ∈ ag_all := ag_in 63 (by decide +kernel) (by decide +kernel)
theorem m_64 : (Jvm.Cond.code ({ cls := "TwinRegister$Device", name := "<init>", desc := "()V" } : Jvm.MethodName) prog_2_method_1_code (2 : Nat) (Option.none : Option Jvm.ClassFile.FieldType)) ∈ ag_all := ag_in 64 (by decide +kernel) (by decide +kernel)
theorem m_65 : (Jvm.Cond.methodLink "TwinRegister$Device" (3 : Nat) ({ cls := "java/lang/Object", name := "<init>", desc := "()V" } : Jvm.MethodName)) ∈ ag_all := ag_in 65 (by decide +kernel) (by decide +kernel)
theorem m_66 : (Jvm.Cond.fieldLink "TwinRegister$Device" (9 : Nat) "TwinRegister$Device" "wishedValues" "[I") ∈ ag_all := ag_in 66 (by decide +kernel) (by decide +kernel)
theorem m_67 : (Jvm.Cond.fieldLinkNest "TwinRegister" (107 : Nat) "TwinRegister$Device" "wishedValues" "[I" "TwinRegister") ∈ ax_all := ax_in 67 (by decide +kernel) (by decide +kernel)
theorem m_68 : (Jvm.Cond.fieldLink "TwinRegister$Device" (15 : Nat) "TwinRegister$Device" "reportedValues" "[I") ∈ ag_all := ag_in 68 (by decide +kernel) (by decide +kernel)
theorem m_69 : (Jvm.Cond.fieldLinkNest "TwinRegister$Group" (21 : Nat) "TwinRegister$Device" "reportedValues" "[I" "TwinRegister") ∈ ax_all := ax_in 69 (by decide +kernel) (by decide +kernel)
theorem m_70 : (Jvm.Cond.fieldLinkNest "TwinRegister" (180 : Nat) "TwinRegister$Device" "reportedValues" "[I" "TwinRegister") ∈ ax_all := ax_in 70 (by decide +kernel) (by decide +kernel)
theorem m_71 : (Jvm.Cond.fieldLink "TwinRegister$Device" (18 : Nat) "TwinRegister$Device" "reasons" "[I") ∈ ag_all := ag_in 71 (by decide +kernel) (by decide +kernel)
theorem m_72 : (Jvm.Cond.fieldLinkNest "TwinRegister" (183 : Nat) "TwinRegister$Device" "reasons" "[I" "TwinRegister") ∈ ax_all := ax_in 72 (by decide +kernel) (by decide +kernel)
theorem m_73 : (Jvm.Cond.fieldLink "TwinRegister$Device" (29 : Nat) "TwinRegister$Device" "differing" "I") ∈ ag_all := ag_in 73 (by decide +kernel) (by decide +kernel)
theorem m_74 : (Jvm.Cond.fieldLinkNest "TwinRegister" (94 : Nat) "TwinRegister$Device" "differing" "I" "TwinRegister") ∈ ax_all := ax_in 74 (by decide +kernel) (by decide +kernel)
theorem m_75 : (Jvm.Cond.fieldLinkNest "TwinRegister" (73 : Nat) "TwinRegister$Device" "latestVersion" "I" "TwinRegister") ∈ ax_all := ax_in 75 (by decide +kernel) (by decide +kernel)
theorem m_76 : (Jvm.Cond.fieldLink "TwinRegister$Device" (40 : Nat) "TwinRegister$Device" "latestVersion" "I") ∈ ag_all := ag_in 76 (by decide +kernel) (by decide +kernel)
theorem m_77 : (Jvm.Cond.fieldLink "TwinRegister$Device" (37 : Nat) "TwinRegister$Device" "versionBeforeSleep" "I") ∈ ag_all := ag_in 77 (by decide +kernel) (by decide +kernel)
theorem m_78 : (Jvm.Cond.fieldLinkNest "TwinRegister" (123 : Nat) "TwinRegister$Device" "versionBeforeSleep" "I" "TwinRegister") ∈ ax_all := ax_in 78 (by decide +kernel) (by decide +kernel)
theorem m_79 : (Jvm.Cond.fieldLinkNest "TwinRegister" (85 : Nat) "TwinRegister$Device" "latestReport" "I" "TwinRegister") ∈ ax_all := ax_in 79 (by decide +kernel) (by decide +kernel)
theorem m_80 : (Jvm.Cond.fieldLink "TwinRegister$Device" (33 : Nat) "TwinRegister$Device" "asleep" "Z") ∈ ag_all := ag_in 80 (by decide +kernel) (by decide +kernel)
theorem m_81 : (Jvm.Cond.fieldLinkNest "TwinRegister" (119 : Nat) "TwinRegister$Device" "asleep" "Z" "TwinRegister") ∈ ax_all := ax_in 81 (by decide +kernel) (by decide +kernel)
theorem m_82 : (Jvm.Cond.laysFinal "TwinRegister$Device" "TwinRegister$Device" "wishedValues" "[I") ∈ ag_all := ag_in 82 (by decide +kernel) (by decide +kernel)
theorem m_83 : (Jvm.Cond.soleField "TwinRegister$Device" "wishedValues") ∈ ag_all := ag_in 83 (by decide +kernel) (by decide +kernel)
theorem m_84 : (Jvm.Cond.laysFinal "TwinRegister$Device" "TwinRegister$Device" "reportedValues" "[I") ∈ ag_all := ag_in 84 (by decide +kernel) (by decide +kernel)
theorem m_85 : (Jvm.Cond.soleField "TwinRegister$Device" "reportedValues") ∈ ag_all := ag_in 85 (by decide +kernel) (by decide +kernel)
theorem m_86 : (Jvm.Cond.laysFinal "TwinRegister$Device" "TwinRegister$Device" "reasons" "[I") ∈ ag_all := ag_in 86 (by decide +kernel) (by decide +kernel)
theorem m_87 : (Jvm.Cond.soleField "TwinRegister$Device" "reasons") ∈ ag_all := ag_in 87 (by decide +kernel) (by decide +kernel)
theorem m_88 : (Jvm.Cond.lays "TwinRegister$Device" "TwinRegister$Device" "differing" "I") ∈ ag_all := ag_in 88 (by decide +kernel) (by decide +kernel)
theorem m_89 : (Jvm.Cond.soleField "TwinRegister$Device" "differing") ∈ ag_all := ag_in 89 (by decide +kernel) (by decide +kernel)
theorem m_90 : (Jvm.Cond.lays "TwinRegister$Device" "TwinRegister$Device" "latestVersion" "I") ∈ ag_all := ag_in 90 (by decide +kernel) (by decide +kernel)
theorem m_91 : (Jvm.Cond.soleField "TwinRegister$Device" "latestVersion") ∈ ag_all := ag_in 91 (by decide +kernel) (by decide +kernel)
theorem m_92 : (Jvm.Cond.lays "TwinRegister$Device" "TwinRegister$Device" "versionBeforeSleep" "I") ∈ ag_all := ag_in 92 (by decide +kernel) (by decide +kernel)
theorem m_93 : (Jvm.Cond.soleField "TwinRegister$Device" "versionBeforeSleep") ∈ ag_all := ag_in 93 (by decide +kernel) (by decide +kernel)
theorem m_94 : (Jvm.Cond.lays "TwinRegister$Device" "TwinRegister$Device" "latestReport" "I") ∈ ag_all := ag_in 94 (by decide +kernel) (by decide +kernel)
theorem m_95 : (Jvm.Cond.soleField "TwinRegister$Device" "latestReport") ∈ ag_all := ag_in 95 (by decide +kernel) (by decide +kernel)
theorem m_96 : (Jvm.Cond.lays "TwinRegister$Device" "TwinRegister$Device" "asleep" "Z") ∈ ag_all := ag_in 96 (by decide +kernel) (by decide +kernel)
theorem m_97 : (Jvm.Cond.soleField "TwinRegister$Device" "asleep") ∈ ag_all := ag_in 97 (by decide +kernel) (by decide +kernel)
theorem m_98 : (Jvm.Cond.superclass "TwinRegister$Device" "java/lang/Object") ∈ ag_all := ag_in 98 (by decide +kernel) (by decide +kernel)
theorem m_99 : (Jvm.Cond.classLink "TwinRegister" (23 : Nat) "TwinRegister$Group") ∈ ag_all := ag_in 99 (by decide +kernel) (by decide +kernel)
theorem m_101 : (Jvm.Cond.instantiable "TwinRegister$Group" (3 : Nat)) ∈ ag_all := ag_in 101 (by decide +kernel) (by decide +kernel)
theorem m_102 : (Jvm.Cond.methodLinkNest "TwinRegister" (29 : Nat) ({ cls := "TwinRegister$Group", name := "<init>", desc := "()V" } : Jvm.MethodName) "TwinRegister") ∈ ax_all := ax_in 102 (by decide +kernel) (by decide +kernel)
theorem m_103 : (Jvm.Cond.instanceMethod ({ cls := "TwinRegister$Group", name := "<init>", desc := "()V" } : Jvm.MethodName)) ∈ ag_all := ag_in 103 (by decide +kernel) (by decide +kernel)
theorem m_104 : (Jvm.Cond.code ({ cls := "TwinRegister$Group", name := "<init>", desc := "()V" } : Jvm.MethodName) prog_4_method_1_code (1 : Nat) (Option.none : Option Jvm.ClassFile.FieldType)) ∈ ag_all := ag_in 104 (by decide +kernel) (by decide +kernel)
theorem m_105 : (Jvm.Cond.methodLink "TwinRegister$Group" (3 : Nat) ({ cls := "java/lang/Object", name := "<init>", desc := "()V" } : Jvm.MethodName)) ∈ ag_all := ag_in 105 (by decide +kernel) (by decide +kernel)
theorem m_106 : (Jvm.Cond.fieldLink "TwinRegister$Group" (9 : Nat) "TwinRegister$Group" "leaf" "I") ∈ ag_all := ag_in 106 (by decide +kernel) (by decide +kernel)
theorem m_107 : (Jvm.Cond.fieldLinkNest "TwinRegister" (133 : Nat) "TwinRegister$Group" "leaf" "I" "TwinRegister") ∈ ax_all := ax_in 107 (by decide +kernel) (by decide +kernel)
theorem m_108 : (Jvm.Cond.fieldLink "TwinRegister$Group" (15 : Nat) "TwinRegister$Group" "low" "I") ∈ ag_all := ag_in 108 (by decide +kernel) (by decide +kernel)
theorem m_109 : (Jvm.Cond.fieldLinkNest "TwinRegister" (136 : Nat) "TwinRegister$Group" "low" "I" "TwinRegister") ∈ ax_all := ax_in 109 (by decide +kernel) (by decide +kernel)
theorem m_110 : (Jvm.Cond.fieldLink "TwinRegister$Group" (18 : Nat) "TwinRegister$Group" "high" "I") ∈ ag_all := ag_in 110 (by decide +kernel) (by decide +kernel)
theorem m_111 : (Jvm.Cond.fieldLinkNest "TwinRegister" (139 : Nat) "TwinRegister$Group" "high" "I" "TwinRegister") ∈ ax_all := ax_in 111 (by decide +kernel) (by decide +kernel)
theorem m_112 : (Jvm.Cond.lays "TwinRegister$Group" "TwinRegister$Group" "leaf" "I") ∈ ag_all := ag_in 112 (by decide +kernel) (by decide +kernel)
theorem m_113 : (Jvm.Cond.soleField "TwinRegister$Group" "leaf") ∈ ag_all := ag_in 113 (by decide +kernel) (by decide +kernel)
theorem m_114 : (Jvm.Cond.lays "TwinRegister$Group" "TwinRegister$Group" "low" "I") ∈ ag_all := ag_in 114 (by decide +kernel) (by decide +kernel)
theorem m_115 : (Jvm.Cond.soleField "TwinRegister$Group" "low") ∈ ag_all := ag_in 115 (by decide +kernel) (by decide +kernel)
theorem m_116 : (Jvm.Cond.lays "TwinRegister$Group" "TwinRegister$Group" "high" "I") ∈ ag_all := ag_in 116 (by decide +kernel) (by decide +kernel)
theorem m_117 : (Jvm.Cond.soleField "TwinRegister$Group" "high") ∈ ag_all := ag_in 117 (by decide +kernel) (by decide +kernel)
theorem m_118 : (Jvm.Cond.superclass "TwinRegister$Group" "java/lang/Object") ∈ ag_all := ag_in 118 (by decide +kernel) (by decide +kernel)
theorem m_119 : (Jvm.Cond.classLink "TwinRegister" (30 : Nat) "TwinRegister$Job") ∈ ag_all := ag_in 119 (by decide +kernel) (by decide +kernel)
theorem m_121 : (Jvm.Cond.instantiable "TwinRegister$Job" (9 : Nat)) ∈ ag_all := ag_in 121 (by decide +kernel) (by decide +kernel)
theorem m_122 : (Jvm.Cond.methodLinkNest "TwinRegister" (36 : Nat) ({ cls := "TwinRegister$Job", name := "<init>", desc := "()V" } : Jvm.MethodName) "TwinRegister") ∈ ax_all := ax_in 122 (by decide +kernel) (by decide +kernel)
theorem m_123 : (Jvm.Cond.instanceMethod ({ cls := "TwinRegister$Job", name := "<init>", desc := "()V" } : Jvm.MethodName)) ∈ ag_all := ag_in 123 (by decide +kernel) (by decide +kernel)
theorem m_124 : (Jvm.Cond.code ({ cls := "TwinRegister$Job", name := "<init>", desc := "()V" } : Jvm.MethodName) prog_5_method_1_code (1 : Nat) (Option.none : Option Jvm.ClassFile.FieldType)) ∈ ag_all := ag_in 124 (by decide +kernel) (by decide +kernel)
theorem m_125 : (Jvm.Cond.methodLink "TwinRegister$Job" (3 : Nat) ({ cls := "java/lang/Object", name := "<init>", desc := "()V" } : Jvm.MethodName)) ∈ ag_all := ag_in 125 (by decide +kernel) (by decide +kernel)
theorem m_126 : (Jvm.Cond.fieldLinkNest "TwinRegister" (151 : Nat) "TwinRegister$Job" "group" "I" "TwinRegister") ∈ ax_all := ax_in 126 (by decide +kernel) (by decide +kernel)
theorem m_127 : (Jvm.Cond.fieldLinkNest "TwinRegister" (154 : Nat) "TwinRegister$Job" "leaf" "I" "TwinRegister") ∈ ax_all := ax_in 127 (by decide +kernel) (by decide +kernel)
theorem m_128 : (Jvm.Cond.fieldLinkNest "TwinRegister" (155 : Nat) "TwinRegister$Job" "value" "I" "TwinRegister") ∈ ax_all := ax_in 128 (by decide +kernel) (by decide +kernel)
theorem m_129 : (Jvm.Cond.fieldLinkNest "TwinRegister" (158 : Nat) "TwinRegister$Job" "rate" "I" "TwinRegister") ∈ ax_all := ax_in 129 (by decide +kernel) (by decide +kernel)
theorem m_130 : (Jvm.Cond.fieldLinkNest "TwinRegister" (161 : Nat) "TwinRegister$Job" "bound" "I" "TwinRegister") ∈ ax_all := ax_in 130 (by decide +kernel) (by decide +kernel)
theorem m_131 : (Jvm.Cond.fieldLink "TwinRegister$Job" (9 : Nat) "TwinRegister$Job" "condition" "I") ∈ ag_all := ag_in 131 (by decide +kernel) (by decide +kernel)
theorem m_132 : (Jvm.Cond.fieldLinkNest "TwinRegister" (164 : Nat) "TwinRegister$Job" "condition" "I" "TwinRegister") ∈ ax_all := ax_in 132 (by decide +kernel) (by decide +kernel)
theorem m_133 : (Jvm.Cond.fieldLink "TwinRegister$Job" (15 : Nat) "TwinRegister$Job" "started" "I") ∈ ag_all := ag_in 133 (by decide +kernel) (by decide +kernel)
theorem m_134 : (Jvm.Cond.fieldLinkNest "TwinRegister" (189 : Nat) "TwinRegister$Job" "started" "I" "TwinRegister") ∈ ax_all := ax_in 134 (by decide +kernel) (by decide +kernel)
theorem m_135 : (Jvm.Cond.fieldLink "TwinRegister$Job" (18 : Nat) "TwinRegister$Job" "done" "I") ∈ ag_all := ag_in 135 (by decide +kernel) (by decide +kernel)
theorem m_136 : (Jvm.Cond.fieldLinkNest "TwinRegister" (192 : Nat) "TwinRegister$Job" "done" "I" "TwinRegister") ∈ ax_all := ax_in 136 (by decide +kernel) (by decide +kernel)
theorem m_137 : (Jvm.Cond.fieldLink "TwinRegister$Job" (21 : Nat) "TwinRegister$Job" "failed" "I") ∈ ag_all := ag_in 137 (by decide +kernel) (by decide +kernel)
theorem m_138 : (Jvm.Cond.fieldLinkNest "TwinRegister" (195 : Nat) "TwinRegister$Job" "failed" "I" "TwinRegister") ∈ ax_all := ax_in 138 (by decide +kernel) (by decide +kernel)
theorem m_139 : (Jvm.Cond.lays "TwinRegister$Job" "TwinRegister$Job" "group" "I") ∈ ag_all := ag_in 139 (by decide +kernel) (by decide +kernel)
theorem m_140 : (Jvm.Cond.soleField "TwinRegister$Job" "group") ∈ ag_all := ag_in 140 (by decide +kernel) (by decide +kernel)
theorem m_141 : (Jvm.Cond.lays "TwinRegister$Job" "TwinRegister$Job" "leaf" "I") ∈ ag_all := ag_in 141 (by decide +kernel) (by decide +kernel)
theorem m_142 : (Jvm.Cond.soleField "TwinRegister$Job" "leaf") ∈ ag_all := ag_in 142 (by decide +kernel) (by decide +kernel)
theorem m_143 : (Jvm.Cond.lays "TwinRegister$Job" "TwinRegister$Job" "value" "I") ∈ ag_all := ag_in 143 (by decide +kernel) (by decide +kernel)
theorem m_144 : (Jvm.Cond.soleField "TwinRegister$Job" "value") ∈ ag_all := ag_in 144 (by decide +kernel) (by decide +kernel)
theorem m_145 : (Jvm.Cond.lays "TwinRegister$Job" "TwinRegister$Job" "rate" "I") ∈ ag_all := ag_in 145 (by decide +kernel) (by decide +kernel)
theorem m_146 : (Jvm.Cond.soleField "TwinRegister$Job" "rate") ∈ ag_all := ag_in 146 (by decide +kernel) (by decide +kernel)
theorem m_147 : (Jvm.Cond.lays "TwinRegister$Job" "TwinRegister$Job" "bound" "I") ∈ ag_all := ag_in 147 (by decide +kernel) (by decide +kernel)
theorem m_148 : (Jvm.Cond.soleField "TwinRegister$Job" "bound") ∈ ag_all := ag_in 148 (by decide +kernel) (by decide +kernel)
theorem m_149 : (Jvm.Cond.lays "TwinRegister$Job" "TwinRegister$Job" "condition" "I") ∈ ag_all := ag_in 149 (by decide +kernel) (by decide +kernel)
theorem m_150 : (Jvm.Cond.soleField "TwinRegister$Job" "condition") ∈ ag_all := ag_in 150 (by decide +kernel) (by decide +kernel)
theorem m_151 : (Jvm.Cond.lays "TwinRegister$Job" "TwinRegister$Job" "started" "I") ∈ ag_all := ag_in 151 (by decide +kernel) (by decide +kernel)
theorem m_152 : (Jvm.Cond.soleField "TwinRegister$Job" "started") ∈ ag_all := ag_in 152 (by decide +kernel) (by decide +kernel)
theorem m_153 : (Jvm.Cond.lays "TwinRegister$Job" "TwinRegister$Job" "done" "I") ∈ ag_all := ag_in 153 (by decide +kernel) (by decide +kernel)
theorem m_154 : (Jvm.Cond.soleField "TwinRegister$Job" "done") ∈ ag_all := ag_in 154 (by decide +kernel) (by decide +kernel)
theorem m_155 : (Jvm.Cond.lays "TwinRegister$Job" "TwinRegister$Job" "failed" "I") ∈ ag_all := ag_in 155 (by decide +kernel) (by decide +kernel)
theorem m_156 : (Jvm.Cond.soleField "TwinRegister$Job" "failed") ∈ ag_all := ag_in 156 (by decide +kernel) (by decide +kernel)
theorem m_157 : (Jvm.Cond.superclass "TwinRegister$Job" "java/lang/Object") ∈ ag_all := ag_in 157 (by decide +kernel) (by decide +kernel)
theorem m_158 : (Jvm.Cond.fieldLink "TwinRegister" (10 : Nat) "TwinRegister" "draft" "LTwinRegister$Draft;") ∈ ag_all := ag_in 158 (by decide +kernel) (by decide +kernel)
theorem m_159 : (Jvm.Cond.fieldLink "TwinRegister" (18 : Nat) "TwinRegister" "deviceRows" "[LTwinRegister$Device;") ∈ ag_all := ag_in 159 (by decide +kernel) (by decide +kernel)
theorem m_160 : (Jvm.Cond.fieldLink "TwinRegister" (25 : Nat) "TwinRegister" "groupRows" "[LTwinRegister$Group;") ∈ ag_all := ag_in 160 (by decide +kernel) (by decide +kernel)
theorem m_161 : (Jvm.Cond.fieldLink "TwinRegister" (32 : Nat) "TwinRegister" "jobRows" "[LTwinRegister$Job;") ∈ ag_all := ag_in 161 (by decide +kernel) (by decide +kernel)
theorem m_162 : (Jvm.Cond.fieldLink "TwinRegister" (37 : Nat) "TwinRegister" "jobCount" "I") ∈ ag_all := ag_in 162 (by decide +kernel) (by decide +kernel)
theorem m_163 : (Jvm.Cond.laysFinal "TwinRegister" "TwinRegister" "draft" "LTwinRegister$Draft;") ∈ ag_all := ag_in 163 (by decide +kernel) (by decide +kernel)
theorem m_164 : (Jvm.Cond.soleField "TwinRegister" "draft") ∈ ag_all := ag_in 164 (by decide +kernel) (by decide +kernel)
theorem m_165 : (Jvm.Cond.laysFinal "TwinRegister" "TwinRegister" "deviceRows" "[LTwinRegister$Device;") ∈ ag_all := ag_in 165 (by decide +kernel) (by decide +kernel)
theorem m_166 : (Jvm.Cond.soleField "TwinRegister" "deviceRows") ∈ ag_all := ag_in 166 (by decide +kernel) (by decide +kernel)
theorem m_167 : (Jvm.Cond.laysFinal "TwinRegister" "TwinRegister" "groupRows" "[LTwinRegister$Group;") ∈ ag_all := ag_in 167 (by decide +kernel) (by decide +kernel)
theorem m_168 : (Jvm.Cond.soleField "TwinRegister" "groupRows") ∈ ag_all := ag_in 168 (by decide +kernel) (by decide +kernel)
theorem m_169 : (Jvm.Cond.laysFinal "TwinRegister" "TwinRegister" "jobRows" "[LTwinRegister$Job;") ∈ ag_all := ag_in 169 (by decide +kernel) (by decide +kernel)
theorem m_170 : (Jvm.Cond.soleField "TwinRegister" "jobRows") ∈ ag_all := ag_in 170 (by decide +kernel) (by decide +kernel)
theorem m_171 : (Jvm.Cond.lays "TwinRegister" "TwinRegister" "jobCount" "I") ∈ ag_all := ag_in 171 (by decide +kernel) (by decide +kernel)
theorem m_172 : (Jvm.Cond.soleField "TwinRegister" "jobCount") ∈ ag_all := ag_in 172 (by decide +kernel) (by decide +kernel)
theorem m_173 : (Jvm.Cond.superclass "TwinRegister" "java/lang/Object") ∈ ag_all := ag_in 173 (by decide +kernel) (by decide +kernel)
theorem m_174 : (Jvm.Cond.methodLink "TwinRegisterLaw" (167 : Nat) ({ cls := "TwinRegisterLaw", name := "cell", desc := "([II)I" } : Jvm.MethodName)) ∈ ag_all := ag_in 174 (by decide +kernel) (by decide +kernel)
theorem m_175 : (Jvm.Cond.static ({ cls := "TwinRegisterLaw", name := "cell", desc := "([II)I" } : Jvm.MethodName)) ∈ ag_all := ag_in 175 (by decide +kernel) (by decide +kernel)
theorem m_176 : (Jvm.Cond.code ({ cls := "TwinRegisterLaw", name := "cell", desc := "([II)I" } : Jvm.MethodName) method_2_code (2 : Nat) (Option.some Jvm.ClassFile.FieldType.int)) ∈ ag_all := ag_in 176 (by decide +kernel) (by decide +kernel)
theorem m_177 : (Jvm.Cond.constant "TwinRegisterLaw" (7 : Nat) (1205059557 : Int32)) ∈ ag_all := ag_in 177 (by decide +kernel) (by decide +kernel)
theorem m_178 : (Jvm.Cond.methodLink "TwinRegisterLaw" (79 : Nat) ({ cls := "TwinRegisterLaw", name := "low", desc := "(II)I" } : Jvm.MethodName)) ∈ ag_all := ag_in 178 (by decide +kernel) (by decide +kernel)
theorem m_179 : (Jvm.Cond.static ({ cls := "TwinRegisterLaw", name := "low", desc := "(II)I" } : Jvm.MethodName)) ∈ ag_all := ag_in 179 (by decide +kernel) (by decide +kernel)
theorem m_180 : (Jvm.Cond.code ({ cls := "TwinRegisterLaw", name := "low", desc := "(II)I" } : Jvm.MethodName) method_3_code (2 : Nat) (Option.some Jvm.ClassFile.FieldType.int)) ∈ ag_all := ag_in 180 (by decide +kernel) (by decide +kernel)
theorem m_181 : (Jvm.Cond.methodLink "TwinRegisterLaw" (94 : Nat) ({ cls := "TwinRegisterLaw", name := "empty", desc := "([I)V" } : Jvm.MethodName)) ∈ ag_all := ag_in 181 (by decide +kernel) (by decide +kernel)
theorem m_182 : (Jvm.Cond.static ({ cls := "TwinRegisterLaw", name := "empty", desc := "([I)V" } : Jvm.MethodName)) ∈ ag_all := ag_in 182 (by decide +kernel) (by decide +kernel)
theorem m_183 : (Jvm.Cond.code ({ cls := "TwinRegisterLaw", name := "empty", desc := "([I)V" } : Jvm.MethodName) method_25_code (2 : Nat) (Option.none : Option Jvm.ClassFile.FieldType)) ∈ ag_all := ag_in 183 (by decide +kernel) (by decide +kernel)
theorem m_184 : (Jvm.Cond.methodLink "TwinRegisterLaw" (170 : Nat) ({ cls := "TwinRegisterLaw", name := "talks", desc := "(LTwinRegister;III[I[I[I[I[I)Z" } : Jvm.MethodName)) ∈ ag_all := ag_in 184 (by decide +kernel) (by decide +kernel)
theorem m_185 : (Jvm.Cond.static ({ cls := "TwinRegisterLaw", name := "talks", desc := "(LTwinRegister;III[I[I[I[I[I)Z" } : Jvm.MethodName)) ∈ ag_all := ag_in 185 (by decide +kernel) (by decide +kernel)
theorem m_186 : (Jvm.Cond.code ({ cls := "TwinRegisterLaw", name := "talks", desc := "(LTwinRegister;III[I[I[I[I[I)Z" } : Jvm.MethodName) method_27_code (13 : Nat) (Option.some Jvm.ClassFile.FieldType.boolean)) ∈ ag_all := ag_in 186 (by rfl) (by rfl)
theorem m_187 : (Jvm.Cond.methodLink "TwinRegisterLaw" (82 : Nat) ({ cls := "TwinRegisterLaw", name := "put", desc := "(LTwinRegister;II)I" } : Jvm.MethodName)) ∈ ag_all := ag_in 187 (by decide +kernel) (by decide +kernel)
theorem m_188 : (Jvm.Cond.static ({ cls := "TwinRegisterLaw", name := "put", desc := "(LTwinRegister;II)I" } : Jvm.MethodName)) ∈ ag_all := ag_in 188 (by decide +kernel) (by decide +kernel)
theorem m_189 : (Jvm.Cond.codeWith ({ cls := "TwinRegisterLaw", name := "put", desc := "(LTwinRegister;II)I" } : Jvm.MethodName) method_4_code (5 : Nat) (Option.some Jvm.ClassFile.FieldType.int) [((0 : Nat), (7 : Nat), (10 : Nat), (14 : Nat)), ((0 : Nat), (7 : Nat), (15 : Nat), (16 : Nat))]) ∈ ag_all := ag_in 189 (by decide +kernel) (by decide +kernel)
theorem m_190 : (Jvm.Cond.classLink "TwinRegisterLaw" (14 : Nat) "java/lang/IndexOutOfBoundsException") ∈ ag_all := ag_in 190 (by decide +kernel) (by decide +kernel)
theorem m_191 : (Jvm.Cond.classLink "TwinRegisterLaw" (16 : Nat) "java/lang/IllegalArgumentException") ∈ ag_all := ag_in 191 (by decide +kernel) (by decide +kernel)
theorem m_192 : (Jvm.Cond.methodLink "TwinRegisterLaw" (8 : Nat) ({ cls := "TwinRegister", name := "put", desc := "(II)I" } : Jvm.MethodName)) ∈ ag_all := ag_in 192 (by decide +kernel) (by decide +kernel)
theorem m_193 : (Jvm.Cond.instanceMethod ({ cls := "TwinRegister", name := "put", desc := "(II)I" } : Jvm.MethodName)) ∈ ag_all := ag_in 193 (by decide +kernel) (by decide +kernel)
theorem m_194 : (Jvm.Cond.selects "TwinRegister" ({ cls := "TwinRegister", name := "put", desc := "(II)I" } : Jvm.MethodName) ({ cls := "TwinRegister", name := "put", desc := "(II)I" } : Jvm.MethodName)) ∈ ag_all := ag_in 194 (by decide +kernel) (by decide +kernel)
theorem m_195 : (Jvm.Cond.code ({ cls := "TwinRegister", name := "put", desc := "(II)I" } : Jvm.MethodName) prog_1_method_2_code (3 : Nat) (Option.some Jvm.ClassFile.FieldType.int)) ∈ ag_all := ag_in 195 (by decide +kernel) (by decide +kernel)
theorem m_196 : (Jvm.Cond.methodLink "TwinRegister" (41 : Nat) ({ cls := "TwinRegister", name := "requireLeaf", desc := "(I)V" } : Jvm.MethodName)) ∈ ag_all := ag_in 196 (by decide +kernel) (by decide +kernel)
theorem m_197 : (Jvm.Cond.static ({ cls := "TwinRegister", name := "requireLeaf", desc := "(I)V" } : Jvm.MethodName)) ∈ ag_all := ag_in 197 (by decide +kernel) (by decide +kernel)
theorem m_198 : (Jvm.Cond.code ({ cls := "TwinRegister", name := "requireLeaf", desc := "(I)V" } : Jvm.MethodName) prog_1_method_29_code (1 : Nat) (Option.none : Option Jvm.ClassFile.FieldType)) ∈ ag_all := ag_in 198 (by decide +kernel) (by decide +kernel)
theorem m_199 : (Jvm.Cond.classLink "TwinRegister" (57 : Nat) "java/lang/IndexOutOfBoundsException") ∈ ag_all := ag_in 199 (by decide +kernel) (by decide +kernel)
theorem m_200 : (Jvm.Cond.instantiable "java/lang/IndexOutOfBoundsException" (6 : Nat)) ∈ ag_all := ag_in 200 (by decide +kernel) (by decide +kernel)
theorem m_201 : (Jvm.Cond.castable "java/lang/IndexOutOfBoundsException" "java/lang/IndexOutOfBoundsException") ∈ ax_all := ax_in 201 (by decide +kernel) (by decide +kernel)
theorem m_202 : (Jvm.Cond.declares ({ cls := "java/lang/RuntimeException", name := "<init>", desc := "()V" } : Jvm.MethodName)) ∈ ax_all := ax_in 202 (by decide +kernel) (by decide +kernel)
theorem m_203 : (Jvm.Cond.declares ({ cls := "java/lang/RuntimeException", name := "<init>", desc := "(Ljava/lang/String;)V" } : Jvm.MethodName)) ∈ ax_all := ax_in 203 (by decide +kernel) (by decide +kernel)
theorem m_204 : (Jvm.Cond.declares ({ cls := "java/lang/Exception", name := "<init>", desc := "()V" } : Jvm.MethodName)) ∈ ax_all := ax_in 204 (by decide +kernel) (by decide +kernel)
theorem m_205 : (Jvm.Cond.declares ({ cls := "java/lang/Exception", name := "<init>", desc := "(Ljava/lang/String;)V" } : Jvm.MethodName)) ∈ ax_all := ax_in 205 (by decide +kernel) (by decide +kernel)
theorem m_206 : (Jvm.Cond.declares ({ cls := "java/lang/Throwable", name := "<init>", desc := "()V" } : Jvm.MethodName)) ∈ ax_all := ax_in 206 (by decide +kernel) (by decide +kernel)
theorem m_207 : (Jvm.Cond.declares ({ cls := "java/lang/Throwable", name := "<init>", desc := "(Ljava/lang/String;)V" } : Jvm.MethodName)) ∈ ax_all := ax_in 207 (by decide +kernel) (by decide +kernel)
theorem m_208 : (Jvm.Cond.selects "java/lang/IndexOutOfBoundsException" ({ cls := "java/lang/Throwable", name := "fillInStackTrace", desc := "(I)Ljava/lang/Throwable;" } : Jvm.MethodName) ({ cls := "java/lang/Throwable", name := "fillInStackTrace", desc := "(I)Ljava/lang/Throwable;" } : Jvm.MethodName)) ∈ ag_all := ag_in 208 (by decide +kernel) (by decide +kernel)
theorem m_209 : (Jvm.Cond.selects "java/lang/IndexOutOfBoundsException" ({ cls := "java/lang/Throwable", name := "fillInStackTrace", desc := "()Ljava/lang/Throwable;" } : Jvm.MethodName) ({ cls := "java/lang/Throwable", name := "fillInStackTrace", desc := "()Ljava/lang/Throwable;" } : Jvm.MethodName)) ∈ ag_all := ag_in 209 (by decide +kernel) (by decide +kernel)
theorem m_210 : (Jvm.Cond.lays "java/lang/IndexOutOfBoundsException" "java/lang/Throwable" "cause" "Ljava/lang/Throwable;") ∈ ag_all := ag_in 210 (by decide +kernel) (by decide +kernel)
theorem m_211 : (Jvm.Cond.lays "java/lang/Throwable" "java/lang/Throwable" "cause" "Ljava/lang/Throwable;") ∈ ag_all := ag_in 211 (by decide +kernel) (by decide +kernel)
theorem m_212 : (Jvm.Cond.lays "java/lang/IndexOutOfBoundsException" "java/lang/Throwable" "stackTrace" "[Ljava/lang/StackTraceElement;") ∈ ag_all := ag_in 212 (by decide +kernel) (by decide +kernel)
theorem m_213 : (Jvm.Cond.lays "java/lang/Throwable" "java/lang/Throwable" "stackTrace" "[Ljava/lang/StackTraceElement;") ∈ ag_all := ag_in 213 (by decide +kernel) (by decide +kernel)
theorem m_214 : (Jvm.Cond.lays "java/lang/IndexOutOfBoundsException" "java/lang/Throwable" "suppressedExceptions" "Ljava/util/List;") ∈ ag_all := ag_in 214 (by decide +kernel) (by decide +kernel)
theorem m_215 : (Jvm.Cond.lays "java/lang/Throwable" "java/lang/Throwable" "suppressedExceptions" "Ljava/util/List;") ∈ ag_all := ag_in 215 (by decide +kernel) (by decide +kernel)
theorem m_216 : (Jvm.Cond.lays "java/lang/IndexOutOfBoundsException" "java/lang/Throwable" "detailMessage" "Ljava/lang/String;") ∈ ag_all := ag_in 216 (by decide +kernel) (by decide +kernel)
theorem m_217 : (Jvm.Cond.lays "java/lang/Throwable" "java/lang/Throwable" "detailMessage" "Ljava/lang/String;") ∈ ag_all := ag_in 217 (by decide +kernel) (by decide +kernel)
theorem m_218 : (Jvm.Cond.lays "java/lang/IndexOutOfBoundsException" "java/lang/Throwable" "backtrace" "Ljava/lang/Object;") ∈ ag_all := ag_in 218 (by decide +kernel) (by decide +kernel)
theorem m_219 : (Jvm.Cond.lays "java/lang/Throwable" "java/lang/Throwable" "backtrace" "Ljava/lang/Object;") ∈ ag_all := ag_in 219 (by decide +kernel) (by decide +kernel)
theorem m_220 : (Jvm.Cond.fieldLink "java/lang/Throwable" (198 : Nat) "java/lang/Throwable" "backtrace" "Ljava/lang/Object;") ∈ ag_all := ag_in 220 (by decide +kernel) (by decide +kernel)
theorem m_221 : (Jvm.Cond.superclass "java/lang/Throwable" "java/lang/Object") ∈ ag_all := ag_in 221 (by decide +kernel) (by decide +kernel)
theorem m_222 : (Jvm.Cond.instanceMethod ({ cls := "java/lang/Throwable", name := "<init>", desc := "()V" } : Jvm.MethodName)) ∈ ag_all := ag_in 222 (by decide +kernel) (by decide +kernel)
theorem m_223 : (Jvm.Cond.code ({ cls := "java/lang/Throwable", name := "<init>", desc := "()V" } : Jvm.MethodName) prog_15_method_1_code (1 : Nat) (Option.none : Option Jvm.ClassFile.FieldType)) ∈ ag_all := ag_in 223 (by decide +kernel) (by decide +kernel)
theorem m_224 : (Jvm.Cond.methodLink "java/lang/Throwable" (1 : Nat) ({ cls := "java/lang/Object", name := "<init>", desc := "()V" } : Jvm.MethodName)) ∈ ag_all := ag_in 224 (by decide +kernel) (by decide +kernel)
theorem m_225 : (Jvm.Cond.fieldLink "java/lang/Throwable" (13 : Nat) "java/lang/Throwable" "UNASSIGNED_STACK" "[Ljava/lang/StackTraceElement;") ∈ ag_all := ag_in 225 (by decide +kernel) (by decide +kernel)
theorem m_227 : (Jvm.Cond.fieldLink "java/lang/Throwable" (20 : Nat) "java/lang/Throwable" "SUPPRESSED_SENTINEL" "Ljava/util/List;") ∈ ag_all := ag_in 227 (by decide +kernel) (by decide +kernel)
theorem m_229 : (Jvm.Cond.methodLink "java/lang/Throwable" (27 : Nat) ({ cls := "java/lang/Throwable", name := "fillInStackTrace", desc := "()Ljava/lang/Throwable;" } : Jvm.MethodName)) ∈ ag_all := ag_in 229 (by decide +kernel) (by decide +kernel)
theorem m_230 : (Jvm.Cond.instanceMethod ({ cls := "java/lang/Throwable", name := "fillInStackTrace", desc := "()Ljava/lang/Throwable;" } : Jvm.MethodName)) ∈ ag_all := ag_in 230 (by decide +kernel) (by decide +kernel)
theorem m_231 : (Jvm.Cond.sameMethod "java/lang/Throwable" "java/lang/Throwable" "fillInStackTrace" "()Ljava/lang/Throwable;") ∈ ag_all := ag_in 231 (by decide +kernel) (by decide +kernel)
theorem m_232 : (Jvm.Cond.selects "java/lang/IllegalArgumentException" ({ cls := "java/lang/Throwable", name := "fillInStackTrace", desc := "()Ljava/lang/Throwable;" } : Jvm.MethodName) ({ cls := "java/lang/Throwable", name := "fillInStackTrace", desc := "()Ljava/lang/Throwable;" } : Jvm.MethodName)) ∈ ag_all := ag_in 232 (by decide +kernel) (by decide +kernel)
theorem m_233 : (Jvm.Cond.selects "java/lang/IllegalStateException" ({ cls := "java/lang/Throwable", name := "fillInStackTrace", desc := "()Ljava/lang/Throwable;" } : Jvm.MethodName) ({ cls := "java/lang/Throwable", name := "fillInStackTrace", desc := "()Ljava/lang/Throwable;" } : Jvm.MethodName)) ∈ ag_all := ag_in 233 (by decide +kernel) (by decide +kernel)
theorem m_234 : (Jvm.Cond.codeSync ({ cls := "java/lang/Throwable", name := "fillInStackTrace", desc := "()Ljava/lang/Throwable;" } : Jvm.MethodName) prog_15_method_18_code (1 : Nat) (Option.some (Jvm.ClassFile.FieldType.object "java/lang/Throwable"))) ∈ ag_all := ag_in 234 (by decide +kernel) (by decide +kernel)
theorem m_235 : (Jvm.Cond.methodLink "java/lang/Throwable" (202 : Nat) ({ cls := "java/lang/Throwable", name := "fillInStackTrace", desc := "(I)Ljava/lang/Throwable;" } : Jvm.MethodName)) ∈ ag_all := ag_in 235 (by decide +kernel) (by decide +kernel)
theorem m_237 : (Jvm.Cond.instanceMethod ({ cls := "java/lang/Throwable", name := "fillInStackTrace", desc := "(I)Ljava/lang/Throwable;" } : Jvm.MethodName)) ∈ ag_all := ag_in 237 (by decide +kernel) (by decide +kernel)
theorem m_238 : (Jvm.Cond.instantiable "java/lang/Throwable" (6 : Nat)) ∈ ag_all := ag_in 238 (by decide +kernel) (by decide +kernel)
theorem m_239 : (Jvm.Cond.native ({ cls := "java/lang/Throwable", name := "fillInStackTrace", desc := "(I)Ljava/lang/Throwable;" } : Jvm.MethodName)) ∈ ag_all := ag_in 239 (by decide +kernel) (by decide +kernel)
theorem m_241 : (Jvm.Cond.methodLink "TwinRegister" (61 : Nat) ({ cls := "java/lang/IndexOutOfBoundsException", name := "<init>", desc := "(Ljava/lang/String;)V" } : Jvm.MethodName)) ∈ ag_all := ag_in 241 (by decide +kernel) (by decide +kernel)
theorem m_242 : (Jvm.Cond.instanceMethod ({ cls := "java/lang/IndexOutOfBoundsException", name := "<init>", desc := "(Ljava/lang/String;)V" } : Jvm.MethodName)) ∈ ag_all := ag_in 242 (by decide +kernel) (by decide +kernel)
theorem m_243 : (Jvm.Cond.code ({ cls := "java/lang/IndexOutOfBoundsException", name := "<init>", desc := "(Ljava/lang/String;)V" } : Jvm.MethodName) prog_11_method_2_code (2 : Nat) (Option.none : Option Jvm.ClassFile.FieldType)) ∈ ag_all := ag_in 243 (by decide +kernel) (by decide +kernel)
theorem m_244 : (Jvm.Cond.methodLink "java/lang/IndexOutOfBoundsException" (7 : Nat) ({ cls := "java/lang/RuntimeException", name := "<init>", desc := "(Ljava/lang/String;)V" } : Jvm.MethodName)) ∈ ag_all := ag_in 244 (by decide +kernel) (by decide +kernel)
theorem m_245 : (Jvm.Cond.instanceMethod ({ cls := "java/lang/RuntimeException", name := "<init>", desc := "(Ljava/lang/String;)V" } : Jvm.MethodName)) ∈ ag_all := ag_in 245 (by decide +kernel) (by decide +kernel)
theorem m_246 : (Jvm.Cond.code ({ cls := "java/lang/RuntimeException", name := "<init>", desc := "(Ljava/lang/String;)V" } : Jvm.MethodName) prog_13_method_2_code (2 : Nat) (Option.none : Option Jvm.ClassFile.FieldType)) ∈ ag_all := ag_in 246 (by decide +kernel) (by decide +kernel)
theorem m_247 : (Jvm.Cond.methodLink "java/lang/RuntimeException" (7 : Nat) ({ cls := "java/lang/Exception", name := "<init>", desc := "(Ljava/lang/String;)V" } : Jvm.MethodName)) ∈ ag_all := ag_in 247 (by decide +kernel) (by decide +kernel)
theorem m_248 : (Jvm.Cond.instanceMethod ({ cls := "java/lang/Exception", name := "<init>", desc := "(Ljava/lang/String;)V" } : Jvm.MethodName)) ∈ ag_all := ag_in 248 (by decide +kernel) (by decide +kernel)
theorem m_249 : (Jvm.Cond.code ({ cls := "java/lang/Exception", name := "<init>", desc := "(Ljava/lang/String;)V" } : Jvm.MethodName) prog_8_method_2_code (2 : Nat) (Option.none : Option Jvm.ClassFile.FieldType)) ∈ ag_all := ag_in 249 (by decide +kernel) (by decide +kernel)
theorem m_250 : (Jvm.Cond.methodLink "java/lang/Exception" (7 : Nat) ({ cls := "java/lang/Throwable", name := "<init>", desc := "(Ljava/lang/String;)V" } : Jvm.MethodName)) ∈ ag_all := ag_in 250 (by decide +kernel) (by decide +kernel)
theorem m_251 : (Jvm.Cond.instanceMethod ({ cls := "java/lang/Throwable", name := "<init>", desc := "(Ljava/lang/String;)V" } : Jvm.MethodName)) ∈ ag_all := ag_in 251 (by decide +kernel) (by decide +kernel)
theorem m_252 : (Jvm.Cond.code ({ cls := "java/lang/Throwable", name := "<init>", desc := "(Ljava/lang/String;)V" } : Jvm.MethodName) prog_15_method_2_code (2 : Nat) (Option.none : Option Jvm.ClassFile.FieldType)) ∈ ag_all := ag_in 252 (by decide +kernel) (by decide +kernel)
theorem m_253 : (Jvm.Cond.fieldLink "java/lang/Throwable" (198 : Nat) "java/lang/Throwable" "backtrace" "Ljava/lang/Object;") ∈ ag_all := ag_in 253 (by decide +kernel) (by decide +kernel)
theorem m_254 : (Jvm.Cond.fieldLink "java/lang/Throwable" (31 : Nat) "java/lang/Throwable" "detailMessage" "Ljava/lang/String;") ∈ ag_all := ag_in 254 (by decide +kernel) (by decide +kernel)
theorem m_255 : (Jvm.Cond.fieldLink "java/lang/Throwable" (7 : Nat) "java/lang/Throwable" "cause" "Ljava/lang/Throwable;") ∈ ag_all := ag_in 255 (by decide +kernel) (by decide +kernel)
theorem m_256 : (Jvm.Cond.fieldLink "java/lang/Throwable" (17 : Nat) "java/lang/Throwable" "stackTrace" "[Ljava/lang/StackTraceElement;") ∈ ag_all := ag_in 256 (by decide +kernel) (by decide +kernel)
theorem m_257 : (Jvm.Cond.fieldLink "java/lang/Throwable" (24 : Nat) "java/lang/Throwable" "suppressedExceptions" "Ljava/util/List;") ∈ ag_all := ag_in 257 (by decide +kernel) (by decide +kernel)
theorem m_258 : (Jvm.Cond.soleField "java/lang/Throwable" "backtrace") ∈ ag_all := ag_in 258 (by decide +kernel) (by decide +kernel)
theorem m_259 : (Jvm.Cond.soleField "java/lang/Throwable" "detailMessage") ∈ ag_all := ag_in 259 (by decide +kernel) (by decide +kernel)
theorem m_260 : (Jvm.Cond.soleField "java/lang/Throwable" "cause") ∈ ag_all := ag_in 260 (by decide +kernel) (by decide +kernel)
theorem m_261 : (Jvm.Cond.soleField "java/lang/Throwable" "stackTrace") ∈ ag_all := ag_in 261 (by decide +kernel) (by decide +kernel)
theorem m_262 : (Jvm.Cond.lays "java/lang/IndexOutOfBoundsException" "java/lang/Throwable" "depth" "I") ∈ ag_all := ag_in 262 (by decide +kernel) (by decide +kernel)
theorem m_263 : (Jvm.Cond.soleField "java/lang/Throwable" "depth") ∈ ag_all := ag_in 263 (by decide +kernel) (by decide +kernel)
theorem m_264 : (Jvm.Cond.soleField "java/lang/Throwable" "suppressedExceptions") ∈ ag_all := ag_in 264 (by decide +kernel) (by decide +kernel)
theorem m_265 : (Jvm.Cond.superclass "java/lang/IndexOutOfBoundsException" "java/lang/RuntimeException") ∈ ag_all := ag_in 265 (by decide +kernel) (by decide +kernel)
theorem m_266 : (Jvm.Cond.arrayClass Jvm.ClassFile.FieldType.byte) ∈ ag_all := ag_in 266 (by decide +kernel) (by decide +kernel)
theorem m_267 : (Jvm.Cond.methodLink "TwinRegister" (45 : Nat) ({ cls := "TwinRegister", name := "requireInRange", desc := "(III)V" } : Jvm.MethodName)) ∈ ag_all := ag_in 267 (by decide +kernel) (by decide +kernel)
theorem m_268 : (Jvm.Cond.static ({ cls := "TwinRegister", name := "requireInRange", desc := "(III)V" } : Jvm.MethodName)) ∈ ag_all := ag_in 268 (by decide +kernel) (by decide +kernel)
theorem m_269 : (Jvm.Cond.code ({ cls := "TwinRegister", name := "requireInRange", desc := "(III)V" } : Jvm.MethodName) prog_1_method_30_code (3 : Nat) (Option.none : Option Jvm.ClassFile.FieldType)) ∈ ag_all := ag_in 269 (by decide +kernel) (by decide +kernel)
theorem m_270 : (Jvm.Cond.classLink "TwinRegister" (206 : Nat) "java/lang/IllegalArgumentException") ∈ ag_all := ag_in 270 (by decide +kernel) (by decide +kernel)
theorem m_271 : (Jvm.Cond.instantiable "java/lang/IllegalArgumentException" (6 : Nat)) ∈ ag_all := ag_in 271 (by decide +kernel) (by decide +kernel)
theorem m_272 : (Jvm.Cond.castable "java/lang/IllegalArgumentException" "java/lang/IllegalArgumentException") ∈ ax_all := ax_in 272 (by decide +kernel) (by decide +kernel)
theorem m_273 : (Jvm.Cond.selects "java/lang/IllegalArgumentException" ({ cls := "java/lang/Throwable", name := "fillInStackTrace", desc := "(I)Ljava/lang/Throwable;" } : Jvm.MethodName) ({ cls := "java/lang/Throwable", name := "fillInStackTrace", desc := "(I)Ljava/lang/Throwable;" } : Jvm.MethodName)) ∈ ag_all := ag_in 273 (by decide +kernel) (by decide +kernel)
theorem m_274 : (Jvm.Cond.lays "java/lang/IllegalArgumentException" "java/lang/Throwable" "cause" "Ljava/lang/Throwable;") ∈ ag_all := ag_in 274 (by decide +kernel) (by decide +kernel)
theorem m_275 : (Jvm.Cond.lays "java/lang/IllegalArgumentException" "java/lang/Throwable" "stackTrace" "[Ljava/lang/StackTraceElement;") ∈ ag_all := ag_in 275 (by decide +kernel) (by decide +kernel)
theorem m_276 : (Jvm.Cond.lays "java/lang/IllegalArgumentException" "java/lang/Throwable" "suppressedExceptions" "Ljava/util/List;") ∈ ag_all := ag_in 276 (by decide +kernel) (by decide +kernel)
theorem m_277 : (Jvm.Cond.lays "java/lang/IllegalArgumentException" "java/lang/Throwable" "detailMessage" "Ljava/lang/String;") ∈ ag_all := ag_in 277 (by decide +kernel) (by decide +kernel)
theorem m_278 : (Jvm.Cond.lays "java/lang/IllegalArgumentException" "java/lang/Throwable" "backtrace" "Ljava/lang/Object;") ∈ ag_all := ag_in 278 (by decide +kernel) (by decide +kernel)
theorem m_280 : (Jvm.Cond.methodLink "TwinRegister" (210 : Nat) ({ cls := "java/lang/IllegalArgumentException", name := "<init>", desc := "(Ljava/lang/String;)V" } : Jvm.MethodName)) ∈ ag_all := ag_in 280 (by decide +kernel) (by decide +kernel)
theorem m_281 : (Jvm.Cond.instanceMethod ({ cls := "java/lang/IllegalArgumentException", name := "<init>", desc := "(Ljava/lang/String;)V" } : Jvm.MethodName)) ∈ ag_all := ag_in 281 (by decide +kernel) (by decide +kernel)
theorem m_282 : (Jvm.Cond.code ({ cls := "java/lang/IllegalArgumentException", name := "<init>", desc := "(Ljava/lang/String;)V" } : Jvm.MethodName) prog_9_method_2_code (2 : Nat) (Option.none : Option Jvm.ClassFile.FieldType)) ∈ ag_all := ag_in 282 (by decide +kernel) (by decide +kernel)
theorem m_283 : (Jvm.Cond.methodLink "java/lang/IllegalArgumentException" (7 : Nat) ({ cls := "java/lang/RuntimeException", name := "<init>", desc := "(Ljava/lang/String;)V" } : Jvm.MethodName)) ∈ ag_all := ag_in 283 (by decide +kernel) (by decide +kernel)
theorem m_284 : (Jvm.Cond.lays "java/lang/IllegalArgumentException" "java/lang/Throwable" "depth" "I") ∈ ag_all := ag_in 284 (by decide +kernel) (by decide +kernel)
theorem m_285 : (Jvm.Cond.superclass "java/lang/IllegalArgumentException" "java/lang/RuntimeException") ∈ ag_all := ag_in 285 (by decide +kernel) (by decide +kernel)
theorem m_286 : (Jvm.Cond.methodLinkNest "TwinRegister" (49 : Nat) ({ cls := "TwinRegister$Draft", name := "assign", desc := "(II)V" } : Jvm.MethodName) "TwinRegister") ∈ ax_all := ax_in 286 (by decide +kernel) (by decide +kernel)
theorem m_288 : (Jvm.Cond.instanceMethod ({ cls := "TwinRegister$Draft", name := "assign", desc := "(II)V" } : Jvm.MethodName)) ∈ ag_all := ag_in 288 (by decide +kernel) (by decide +kernel)
theorem m_289 : (Jvm.Cond.code ({ cls := "TwinRegister$Draft", name := "assign", desc := "(II)V" } : Jvm.MethodName) prog_3_method_2_code (3 : Nat) (Option.none : Option Jvm.ClassFile.FieldType)) ∈ ag_all := ag_in 289 (by decide +kernel) (by decide +kernel)
theorem m_290 : (Jvm.Cond.methodLinkNest "TwinRegister" (53 : Nat) ({ cls := "TwinRegister$Draft", name := "count", desc := "()I" } : Jvm.MethodName) "TwinRegister") ∈ ax_all := ax_in 290 (by decide +kernel) (by decide +kernel)
theorem m_292 : (Jvm.Cond.instanceMethod ({ cls := "TwinRegister$Draft", name := "count", desc := "()I" } : Jvm.MethodName)) ∈ ag_all := ag_in 292 (by decide +kernel) (by decide +kernel)
theorem m_293 : (Jvm.Cond.code ({ cls := "TwinRegister$Draft", name := "count", desc := "()I" } : Jvm.MethodName) prog_3_method_4_code (1 : Nat) (Option.some Jvm.ClassFile.FieldType.int)) ∈ ag_all := ag_in 293 (by decide +kernel) (by decide +kernel)
theorem m_294 : (Jvm.Cond.methodLink "TwinRegister$Draft" (19 : Nat) ({ cls := "java/lang/Integer", name := "bitCount", desc := "(I)I" } : Jvm.MethodName)) ∈ ag_all := ag_in 294 (by decide +kernel) (by decide +kernel)
theorem m_295 : (Jvm.Cond.static ({ cls := "java/lang/Integer", name := "bitCount", desc := "(I)I" } : Jvm.MethodName)) ∈ ag_all := ag_in 295 (by decide +kernel) (by decide +kernel)
theorem m_296 : (Jvm.Cond.code ({ cls := "java/lang/Integer", name := "bitCount", desc := "(I)I" } : Jvm.MethodName) prog_12_method_49_code (1 : Nat) (Option.some Jvm.ClassFile.FieldType.int)) ∈ ag_all := ag_in 296 (by decide +kernel) (by decide +kernel)
theorem m_297 : (Jvm.Cond.constant "java/lang/Integer" (265 : Nat) (1431655765 : Int32)) ∈ ag_all := ag_in 297 (by decide +kernel) (by decide +kernel)
theorem m_298 : (Jvm.Cond.constant "java/lang/Integer" (266 : Nat) (858993459 : Int32)) ∈ ag_all := ag_in 298 (by decide +kernel) (by decide +kernel)
theorem m_299 : (Jvm.Cond.constant "java/lang/Integer" (267 : Nat) (252645135 : Int32)) ∈ ag_all := ag_in 299 (by decide +kernel) (by decide +kernel)
theorem m_300 : (Jvm.Cond.methodLink "TwinRegisterLaw" (85 : Nat) ({ cls := "TwinRegisterLaw", name := "drafted", desc := "([I)I" } : Jvm.MethodName)) ∈ ag_all := ag_in 300 (by decide +kernel) (by decide +kernel)
theorem m_301 : (Jvm.Cond.static ({ cls := "TwinRegisterLaw", name := "drafted", desc := "([I)I" } : Jvm.MethodName)) ∈ ag_all := ag_in 301 (by decide +kernel) (by decide +kernel)
theorem m_302 : (Jvm.Cond.code ({ cls := "TwinRegisterLaw", name := "drafted", desc := "([I)I" } : Jvm.MethodName) method_24_code (3 : Nat) (Option.some Jvm.ClassFile.FieldType.int)) ∈ ag_all := ag_in 302 (by decide +kernel) (by decide +kernel)
theorem m_303 : (Jvm.Cond.methodLink "TwinRegisterLaw" (89 : Nat) ({ cls := "TwinRegisterLaw", name := "drop", desc := "(LTwinRegister;I)I" } : Jvm.MethodName)) ∈ ag_all := ag_in 303 (by decide +kernel) (by decide +kernel)
theorem m_304 : (Jvm.Cond.static ({ cls := "TwinRegisterLaw", name := "drop", desc := "(LTwinRegister;I)I" } : Jvm.MethodName)) ∈ ag_all := ag_in 304 (by decide +kernel) (by decide +kernel)
theorem m_305 : (Jvm.Cond.codeWith ({ cls := "TwinRegisterLaw", name := "drop", desc := "(LTwinRegister;I)I" } : Jvm.MethodName) method_5_code (4 : Nat) (Option.some Jvm.ClassFile.FieldType.int) [((0 : Nat), (6 : Nat), (9 : Nat), (14 : Nat))]) ∈ ag_all := ag_in 305 (by decide +kernel) (by decide +kernel)
theorem m_306 : (Jvm.Cond.methodLink "TwinRegisterLaw" (18 : Nat) ({ cls := "TwinRegister", name := "drop", desc := "(I)I" } : Jvm.MethodName)) ∈ ag_all := ag_in 306 (by decide +kernel) (by decide +kernel)
theorem m_307 : (Jvm.Cond.instanceMethod ({ cls := "TwinRegister", name := "drop", desc := "(I)I" } : Jvm.MethodName)) ∈ ag_all := ag_in 307 (by decide +kernel) (by decide +kernel)
theorem m_308 : (Jvm.Cond.selects "TwinRegister" ({ cls := "TwinRegister", name := "drop", desc := "(I)I" } : Jvm.MethodName) ({ cls := "TwinRegister", name := "drop", desc := "(I)I" } : Jvm.MethodName)) ∈ ag_all := ag_in 308 (by decide +kernel) (by decide +kernel)
theorem m_309 : (Jvm.Cond.code ({ cls := "TwinRegister", name := "drop", desc := "(I)I" } : Jvm.MethodName) prog_1_method_3_code (4 : Nat) (Option.some Jvm.ClassFile.FieldType.int)) ∈ ag_all := ag_in 309 (by decide +kernel) (by decide +kernel)
theorem m_311 : (Jvm.Cond.methodLink "TwinRegisterLaw" (92 : Nat) ({ cls := "TwinRegisterLaw", name := "wish", desc := "(LTwinRegister;II)I" } : Jvm.MethodName)) ∈ ag_all := ag_in 311 (by decide +kernel) (by decide +kernel)
theorem m_312 : (Jvm.Cond.static ({ cls := "TwinRegisterLaw", name := "wish", desc := "(LTwinRegister;II)I" } : Jvm.MethodName)) ∈ ag_all := ag_in 312 (by decide +kernel) (by decide +kernel)
theorem m_313 : (Jvm.Cond.codeWith ({ cls := "TwinRegisterLaw", name := "wish", desc := "(LTwinRegister;II)I" } : Jvm.MethodName) method_6_code (5 : Nat) (Option.some Jvm.ClassFile.FieldType.int) [((0 : Nat), (7 : Nat), (10 : Nat), (14 : Nat)), ((0 : Nat), (7 : Nat), (15 : Nat), (25 : Nat))]) ∈ ag_all := ag_in 313 (by decide +kernel) (by decide +kernel)
theorem m_314 : (Jvm.Cond.classLink "TwinRegisterLaw" (25 : Nat) "java/lang/IllegalStateException") ∈ ag_all := ag_in 314 (by decide +kernel) (by decide +kernel)
theorem m_315 : (Jvm.Cond.methodLink "TwinRegisterLaw" (22 : Nat) ({ cls := "TwinRegister", name := "wish", desc := "(II)I" } : Jvm.MethodName)) ∈ ag_all := ag_in 315 (by decide +kernel) (by decide +kernel)
theorem m_316 : (Jvm.Cond.instanceMethod ({ cls := "TwinRegister", name := "wish", desc := "(II)I" } : Jvm.MethodName)) ∈ ag_all := ag_in 316 (by decide +kernel) (by decide +kernel)
theorem m_317 : (Jvm.Cond.selects "TwinRegister" ({ cls := "TwinRegister", name := "wish", desc := "(II)I" } : Jvm.MethodName) ({ cls := "TwinRegister", name := "wish", desc := "(II)I" } : Jvm.MethodName)) ∈ ag_all := ag_in 317 (by decide +kernel) (by decide +kernel)
theorem m_318 : (Jvm.Cond.code ({ cls := "TwinRegister", name := "wish", desc := "(II)I" } : Jvm.MethodName) prog_1_method_4_code (4 : Nat) (Option.some Jvm.ClassFile.FieldType.int)) ∈ ag_all := ag_in 318 (by decide +kernel) (by decide +kernel)
theorem m_319 : (Jvm.Cond.methodLink "TwinRegister" (64 : Nat) ({ cls := "TwinRegister", name := "deviceAt", desc := "(I)LTwinRegister$Device;" } : Jvm.MethodName)) ∈ ag_all := ag_in 319 (by decide +kernel) (by decide +kernel)
theorem m_321 : (Jvm.Cond.instanceMethod ({ cls := "TwinRegister", name := "deviceAt", desc := "(I)LTwinRegister$Device;" } : Jvm.MethodName)) ∈ ag_all := ag_in 321 (by decide +kernel) (by decide +kernel)
theorem m_322 : (Jvm.Cond.code ({ cls := "TwinRegister", name := "deviceAt", desc := "(I)LTwinRegister$Device;" } : Jvm.MethodName) prog_1_method_25_code (2 : Nat) (Option.some (Jvm.ClassFile.FieldType.object "TwinRegister$Device"))) ∈ ag_all := ag_in 322 (by decide +kernel) (by decide +kernel)
theorem m_324 : (Jvm.Cond.classLink "TwinRegister" (68 : Nat) "java/lang/IllegalStateException") ∈ ag_all := ag_in 324 (by decide +kernel) (by decide +kernel)
theorem m_325 : (Jvm.Cond.instantiable "java/lang/IllegalStateException" (6 : Nat)) ∈ ag_all := ag_in 325 (by decide +kernel) (by decide +kernel)
theorem m_326 : (Jvm.Cond.castable "java/lang/IllegalStateException" "java/lang/IllegalStateException") ∈ ax_all := ax_in 326 (by decide +kernel) (by decide +kernel)
theorem m_327 : (Jvm.Cond.selects "java/lang/IllegalStateException" ({ cls := "java/lang/Throwable", name := "fillInStackTrace", desc := "(I)Ljava/lang/Throwable;" } : Jvm.MethodName) ({ cls := "java/lang/Throwable", name := "fillInStackTrace", desc := "(I)Ljava/lang/Throwable;" } : Jvm.MethodName)) ∈ ag_all := ag_in 327 (by decide +kernel) (by decide +kernel)
theorem m_328 : (Jvm.Cond.lays "java/lang/IllegalStateException" "java/lang/Throwable" "cause" "Ljava/lang/Throwable;") ∈ ag_all := ag_in 328 (by decide +kernel) (by decide +kernel)
theorem m_329 : (Jvm.Cond.lays "java/lang/IllegalStateException" "java/lang/Throwable" "stackTrace" "[Ljava/lang/StackTraceElement;") ∈ ag_all := ag_in 329 (by decide +kernel) (by decide +kernel)
theorem m_330 : (Jvm.Cond.lays "java/lang/IllegalStateException" "java/lang/Throwable" "suppressedExceptions" "Ljava/util/List;") ∈ ag_all := ag_in 330 (by decide +kernel) (by decide +kernel)
theorem m_331 : (Jvm.Cond.lays "java/lang/IllegalStateException" "java/lang/Throwable" "detailMessage" "Ljava/lang/String;") ∈ ag_all := ag_in 331 (by decide +kernel) (by decide +kernel)
theorem m_332 : (Jvm.Cond.lays "java/lang/IllegalStateException" "java/lang/Throwable" "backtrace" "Ljava/lang/Object;") ∈ ag_all := ag_in 332 (by decide +kernel) (by decide +kernel)
theorem m_334 : (Jvm.Cond.methodLink "TwinRegister" (72 : Nat) ({ cls := "java/lang/IllegalStateException", name := "<init>", desc := "(Ljava/lang/String;)V" } : Jvm.MethodName)) ∈ ag_all := ag_in 334 (by decide +kernel) (by decide +kernel)
theorem m_335 : (Jvm.Cond.instanceMethod ({ cls := "java/lang/IllegalStateException", name := "<init>", desc := "(Ljava/lang/String;)V" } : Jvm.MethodName)) ∈ ag_all := ag_in 335 (by decide +kernel) (by decide +kernel)
theorem m_336 : (Jvm.Cond.code ({ cls := "java/lang/IllegalStateException", name := "<init>", desc := "(Ljava/lang/String;)V" } : Jvm.MethodName) prog_10_method_2_code (2 : Nat) (Option.none : Option Jvm.ClassFile.FieldType)) ∈ ag_all := ag_in 336 (by decide +kernel) (by decide +kernel)
theorem m_337 : (Jvm.Cond.methodLink "java/lang/IllegalStateException" (7 : Nat) ({ cls := "java/lang/RuntimeException", name := "<init>", desc := "(Ljava/lang/String;)V" } : Jvm.MethodName)) ∈ ag_all := ag_in 337 (by decide +kernel) (by decide +kernel)
theorem m_338 : (Jvm.Cond.lays "java/lang/IllegalStateException" "java/lang/Throwable" "depth" "I") ∈ ag_all := ag_in 338 (by decide +kernel) (by decide +kernel)
theorem m_339 : (Jvm.Cond.superclass "java/lang/IllegalStateException" "java/lang/RuntimeException") ∈ ag_all := ag_in 339 (by decide +kernel) (by decide +kernel)
theorem m_341 : (Jvm.Cond.methodLink "TwinRegister" (78 : Nat) ({ cls := "TwinRegister", name := "mergeWish", desc := "(LTwinRegister$Device;)V" } : Jvm.MethodName)) ∈ ag_all := ag_in 341 (by decide +kernel) (by decide +kernel)
theorem m_343 : (Jvm.Cond.instanceMethod ({ cls := "TwinRegister", name := "mergeWish", desc := "(LTwinRegister$Device;)V" } : Jvm.MethodName)) ∈ ag_all := ag_in 343 (by decide +kernel) (by decide +kernel)
theorem m_344 : (Jvm.Cond.code ({ cls := "TwinRegister", name := "mergeWish", desc := "(LTwinRegister$Device;)V" } : Jvm.MethodName) prog_1_method_32_code (3 : Nat) (Option.none : Option Jvm.ClassFile.FieldType)) ∈ ag_all := ag_in 344 (by decide +kernel) (by decide +kernel)
theorem m_345 : (Jvm.Cond.methodLinkNest "TwinRegister" (213 : Nat) ({ cls := "TwinRegister$Draft", name := "has", desc := "(I)Z" } : Jvm.MethodName) "TwinRegister") ∈ ax_all := ax_in 345 (by decide +kernel) (by decide +kernel)
theorem m_347 : (Jvm.Cond.instanceMethod ({ cls := "TwinRegister$Draft", name := "has", desc := "(I)Z" } : Jvm.MethodName)) ∈ ag_all := ag_in 347 (by decide +kernel) (by decide +kernel)
theorem m_348 : (Jvm.Cond.code ({ cls := "TwinRegister$Draft", name := "has", desc := "(I)Z" } : Jvm.MethodName) prog_3_method_3_code (2 : Nat) (Option.some Jvm.ClassFile.FieldType.boolean)) ∈ ag_all := ag_in 348 (by decide +kernel) (by decide +kernel)
theorem m_349 : (Jvm.Cond.methodLinkNest "TwinRegister" (219 : Nat) ({ cls := "TwinRegister$Device", name := "takeWish", desc := "(II)V" } : Jvm.MethodName) "TwinRegister") ∈ ax_all := ax_in 349 (by decide +kernel) (by decide +kernel)
theorem m_351 : (Jvm.Cond.instanceMethod ({ cls := "TwinRegister$Device", name := "takeWish", desc := "(II)V" } : Jvm.MethodName)) ∈ ag_all := ag_in 351 (by decide +kernel) (by decide +kernel)
theorem m_352 : (Jvm.Cond.code ({ cls := "TwinRegister$Device", name := "takeWish", desc := "(II)V" } : Jvm.MethodName) prog_2_method_2_code (3 : Nat) (Option.none : Option Jvm.ClassFile.FieldType)) ∈ ag_all := ag_in 352 (by decide +kernel) (by decide +kernel)
theorem m_353 : (Jvm.Cond.methodLink "TwinRegister$Device" (21 : Nat) ({ cls := "TwinRegister$Device", name := "keepDifference", desc := "(I)V" } : Jvm.MethodName)) ∈ ag_all := ag_in 353 (by decide +kernel) (by decide +kernel)
theorem m_355 : (Jvm.Cond.instanceMethod ({ cls := "TwinRegister$Device", name := "keepDifference", desc := "(I)V" } : Jvm.MethodName)) ∈ ag_all := ag_in 355 (by decide +kernel) (by decide +kernel)
theorem m_356 : (Jvm.Cond.code ({ cls := "TwinRegister$Device", name := "keepDifference", desc := "(I)V" } : Jvm.MethodName) prog_2_method_5_code (2 : Nat) (Option.none : Option Jvm.ClassFile.FieldType)) ∈ ag_all := ag_in 356 (by decide +kernel) (by decide +kernel)
theorem m_357 : (Jvm.Cond.methodLink "TwinRegister$Device" (25 : Nat) ({ cls := "TwinRegister$Device", name := "comparesUnlike", desc := "(I)Z" } : Jvm.MethodName)) ∈ ag_all := ag_in 357 (by decide +kernel) (by decide +kernel)
theorem m_359 : (Jvm.Cond.instanceMethod ({ cls := "TwinRegister$Device", name := "comparesUnlike", desc := "(I)Z" } : Jvm.MethodName)) ∈ ag_all := ag_in 359 (by decide +kernel) (by decide +kernel)
theorem m_360 : (Jvm.Cond.code ({ cls := "TwinRegister$Device", name := "comparesUnlike", desc := "(I)Z" } : Jvm.MethodName) prog_2_method_7_code (2 : Nat) (Option.some Jvm.ClassFile.FieldType.boolean)) ∈ ag_all := ag_in 360 (by decide +kernel) (by decide +kernel)
theorem m_361 : (Jvm.Cond.methodLinkNest "TwinRegister" (82 : Nat) ({ cls := "TwinRegister$Draft", name := "empty", desc := "()V" } : Jvm.MethodName) "TwinRegister") ∈ ax_all := ax_in 361 (by decide +kernel) (by decide +kernel)
theorem m_363 : (Jvm.Cond.instanceMethod ({ cls := "TwinRegister$Draft", name := "empty", desc := "()V" } : Jvm.MethodName)) ∈ ag_all := ag_in 363 (by decide +kernel) (by decide +kernel)
theorem m_364 : (Jvm.Cond.code ({ cls := "TwinRegister$Draft", name := "empty", desc := "()V" } : Jvm.MethodName) prog_3_method_5_code (1 : Nat) (Option.none : Option Jvm.ClassFile.FieldType)) ∈ ag_all := ag_in 364 (by decide +kernel) (by decide +kernel)
theorem m_365 : (Jvm.Cond.methodLink "TwinRegisterLaw" (98 : Nat) ({ cls := "TwinRegisterLaw", name := "report", desc := "(LTwinRegister;II)I" } : Jvm.MethodName)) ∈ ag_all := ag_in 365 (by decide +kernel) (by decide +kernel)
theorem m_366 : (Jvm.Cond.static ({ cls := "TwinRegisterLaw", name := "report", desc := "(LTwinRegister;II)I" } : Jvm.MethodName)) ∈ ag_all := ag_in 366 (by decide +kernel) (by decide +kernel)
theorem m_367 : (Jvm.Cond.codeWith ({ cls := "TwinRegisterLaw", name := "report", desc := "(LTwinRegister;II)I" } : Jvm.MethodName) method_7_code (5 : Nat) (Option.some Jvm.ClassFile.FieldType.int) [((0 : Nat), (7 : Nat), (10 : Nat), (14 : Nat)), ((0 : Nat), (7 : Nat), (15 : Nat), (16 : Nat)), ((0 : Nat), (7 : Nat), (20 : Nat), (25 : Nat))]) ∈ ag_all := ag_in 367 (by decide +kernel) (by decide +kernel)
theorem m_368 : (Jvm.Cond.methodLink "TwinRegisterLaw" (27 : Nat) ({ cls := "TwinRegister", name := "report", desc := "(II)I" } : Jvm.MethodName)) ∈ ag_all := ag_in 368 (by decide +kernel) (by decide +kernel)
theorem m_369 : (Jvm.Cond.instanceMethod ({ cls := "TwinRegister", name := "report", desc := "(II)I" } : Jvm.MethodName)) ∈ ag_all := ag_in 369 (by decide +kernel) (by decide +kernel)
theorem m_370 : (Jvm.Cond.selects "TwinRegister" ({ cls := "TwinRegister", name := "report", desc := "(II)I" } : Jvm.MethodName) ({ cls := "TwinRegister", name := "report", desc := "(II)I" } : Jvm.MethodName)) ∈ ag_all := ag_in 370 (by decide +kernel) (by decide +kernel)
theorem m_371 : (Jvm.Cond.code ({ cls := "TwinRegister", name := "report", desc := "(II)I" } : Jvm.MethodName) prog_1_method_5_code (5 : Nat) (Option.some Jvm.ClassFile.FieldType.int)) ∈ ag_all := ag_in 371 (by decide +kernel) (by decide +kernel)
theorem m_372 : (Jvm.Cond.methodLink "TwinRegister" (88 : Nat) ({ cls := "TwinRegister", name := "requireAwake", desc := "(LTwinRegister$Device;)V" } : Jvm.MethodName)) ∈ ag_all := ag_in 372 (by decide +kernel) (by decide +kernel)
theorem m_373 : (Jvm.Cond.static ({ cls := "TwinRegister", name := "requireAwake", desc := "(LTwinRegister$Device;)V" } : Jvm.MethodName)) ∈ ag_all := ag_in 373 (by decide +kernel) (by decide +kernel)
theorem m_374 : (Jvm.Cond.code ({ cls := "TwinRegister", name := "requireAwake", desc := "(LTwinRegister$Device;)V" } : Jvm.MethodName) prog_1_method_31_code (1 : Nat) (Option.none : Option Jvm.ClassFile.FieldType)) ∈ ag_all := ag_in 374 (by decide +kernel) (by decide +kernel)
theorem m_376 : (Jvm.Cond.methodLink "TwinRegister" (91 : Nat) ({ cls := "TwinRegister", name := "mergeReport", desc := "(LTwinRegister$Device;)V" } : Jvm.MethodName)) ∈ ag_all := ag_in 376 (by decide +kernel) (by decide +kernel)
theorem m_378 : (Jvm.Cond.instanceMethod ({ cls := "TwinRegister", name := "mergeReport", desc := "(LTwinRegister$Device;)V" } : Jvm.MethodName)) ∈ ag_all := ag_in 378 (by decide +kernel) (by decide +kernel)
theorem m_379 : (Jvm.Cond.code ({ cls := "TwinRegister", name := "mergeReport", desc := "(LTwinRegister$Device;)V" } : Jvm.MethodName) prog_1_method_33_code (3 : Nat) (Option.none : Option Jvm.ClassFile.FieldType)) ∈ ag_all := ag_in 379 (by decide +kernel) (by decide +kernel)
theorem m_380 : (Jvm.Cond.methodLinkNest "TwinRegister" (111 : Nat) ({ cls := "TwinRegister$Device", name := "takeReport", desc := "(II)V" } : Jvm.MethodName) "TwinRegister") ∈ ax_all := ax_in 380 (by decide +kernel) (by decide +kernel)
theorem m_382 : (Jvm.Cond.instanceMethod ({ cls := "TwinRegister$Device", name := "takeReport", desc := "(II)V" } : Jvm.MethodName)) ∈ ag_all := ag_in 382 (by decide +kernel) (by decide +kernel)
theorem m_383 : (Jvm.Cond.code ({ cls := "TwinRegister$Device", name := "takeReport", desc := "(II)V" } : Jvm.MethodName) prog_2_method_3_code (3 : Nat) (Option.none : Option Jvm.ClassFile.FieldType)) ∈ ag_all := ag_in 383 (by decide +kernel) (by decide +kernel)
theorem m_384 : (Jvm.Cond.methodLink "TwinRegister" (97 : Nat) ({ cls := "java/lang/Integer", name := "bitCount", desc := "(I)I" } : Jvm.MethodName)) ∈ ag_all := ag_in 384 (by decide +kernel) (by decide +kernel)
theorem m_385 : (Jvm.Cond.methodLink "TwinRegisterLaw" (100 : Nat) ({ cls := "TwinRegisterLaw", name := "differing", desc := "([II)I" } : Jvm.MethodName)) ∈ ag_all := ag_in 385 (by decide +kernel) (by decide +kernel)
theorem m_386 : (Jvm.Cond.static ({ cls := "TwinRegisterLaw", name := "differing", desc := "([II)I" } : Jvm.MethodName)) ∈ ag_all := ag_in 386 (by decide +kernel) (by decide +kernel)
theorem m_387 : (Jvm.Cond.code ({ cls := "TwinRegisterLaw", name := "differing", desc := "([II)I" } : Jvm.MethodName) method_21_code (5 : Nat) (Option.some Jvm.ClassFile.FieldType.int)) ∈ ag_all := ag_in 387 (by decide +kernel) (by decide +kernel)
theorem m_388 : (Jvm.Cond.methodLink "TwinRegisterLaw" (67 : Nat) ({ cls := "TwinRegisterLaw", name := "wishedOf", desc := "(I)I" } : Jvm.MethodName)) ∈ ag_all := ag_in 388 (by decide +kernel) (by decide +kernel)
theorem m_389 : (Jvm.Cond.static ({ cls := "TwinRegisterLaw", name := "wishedOf", desc := "(I)I" } : Jvm.MethodName)) ∈ ag_all := ag_in 389 (by decide +kernel) (by decide +kernel)
theorem m_390 : (Jvm.Cond.code ({ cls := "TwinRegisterLaw", name := "wishedOf", desc := "(I)I" } : Jvm.MethodName) method_19_code (1 : Nat) (Option.some Jvm.ClassFile.FieldType.int)) ∈ ag_all := ag_in 390 (by decide +kernel) (by decide +kernel)
theorem m_391 : (Jvm.Cond.methodLink "TwinRegisterLaw" (72 : Nat) ({ cls := "TwinRegisterLaw", name := "reportedOf", desc := "(I)I" } : Jvm.MethodName)) ∈ ag_all := ag_in 391 (by decide +kernel) (by decide +kernel)
theorem m_392 : (Jvm.Cond.static ({ cls := "TwinRegisterLaw", name := "reportedOf", desc := "(I)I" } : Jvm.MethodName)) ∈ ag_all := ag_in 392 (by decide +kernel) (by decide +kernel)
theorem m_393 : (Jvm.Cond.code ({ cls := "TwinRegisterLaw", name := "reportedOf", desc := "(I)I" } : Jvm.MethodName) method_20_code (1 : Nat) (Option.some Jvm.ClassFile.FieldType.int)) ∈ ag_all := ag_in 393 (by decide +kernel) (by decide +kernel)
theorem m_394 : (Jvm.Cond.methodLink "TwinRegisterLaw" (104 : Nat) ({ cls := "TwinRegisterLaw", name := "many", desc := "(I)I" } : Jvm.MethodName)) ∈ ag_all := ag_in 394 (by decide +kernel) (by decide +kernel)
theorem m_395 : (Jvm.Cond.static ({ cls := "TwinRegisterLaw", name := "many", desc := "(I)I" } : Jvm.MethodName)) ∈ ag_all := ag_in 395 (by decide +kernel) (by decide +kernel)
theorem m_396 : (Jvm.Cond.code ({ cls := "TwinRegisterLaw", name := "many", desc := "(I)I" } : Jvm.MethodName) method_22_code (3 : Nat) (Option.some Jvm.ClassFile.FieldType.int)) ∈ ag_all := ag_in 396 (by decide +kernel) (by decide +kernel)
theorem m_397 : (Jvm.Cond.methodLink "TwinRegisterLaw" (107 : Nat) ({ cls := "TwinRegisterLaw", name := "obey", desc := "(LTwinRegister;I)I" } : Jvm.MethodName)) ∈ ag_all := ag_in 397 (by decide +kernel) (by decide +kernel)
theorem m_398 : (Jvm.Cond.static ({ cls := "TwinRegisterLaw", name := "obey", desc := "(LTwinRegister;I)I" } : Jvm.MethodName)) ∈ ag_all := ag_in 398 (by decide +kernel) (by decide +kernel)
theorem m_399 : (Jvm.Cond.codeWith ({ cls := "TwinRegisterLaw", name := "obey", desc := "(LTwinRegister;I)I" } : Jvm.MethodName) method_8_code (4 : Nat) (Option.some Jvm.ClassFile.FieldType.int) [((0 : Nat), (6 : Nat), (9 : Nat), (14 : Nat)), ((0 : Nat), (6 : Nat), (13 : Nat), (25 : Nat))]) ∈ ag_all := ag_in 399 (by decide +kernel) (by decide +kernel)
theorem m_400 : (Jvm.Cond.methodLink "TwinRegisterLaw" (30 : Nat) ({ cls := "TwinRegister", name := "obey", desc := "(I)I" } : Jvm.MethodName)) ∈ ag_all := ag_in 400 (by decide +kernel) (by decide +kernel)
theorem m_401 : (Jvm.Cond.instanceMethod ({ cls := "TwinRegister", name := "obey", desc := "(I)I" } : Jvm.MethodName)) ∈ ag_all := ag_in 401 (by decide +kernel) (by decide +kernel)
theorem m_402 : (Jvm.Cond.selects "TwinRegister" ({ cls := "TwinRegister", name := "obey", desc := "(I)I" } : Jvm.MethodName) ({ cls := "TwinRegister", name := "obey", desc := "(I)I" } : Jvm.MethodName)) ∈ ag_all := ag_in 402 (by decide +kernel) (by decide +kernel)
theorem m_403 : (Jvm.Cond.code ({ cls := "TwinRegister", name := "obey", desc := "(I)I" } : Jvm.MethodName) prog_1_method_6_code (5 : Nat) (Option.some Jvm.ClassFile.FieldType.int)) ∈ ag_all := ag_in 403 (by decide +kernel) (by decide +kernel)
theorem m_404 : (Jvm.Cond.methodLinkNest "TwinRegister" (103 : Nat) ({ cls := "TwinRegister$Device", name := "differsAt", desc := "(I)Z" } : Jvm.MethodName) "TwinRegister") ∈ ax_all := ax_in 404 (by decide +kernel) (by decide +kernel)
theorem m_406 : (Jvm.Cond.instanceMethod ({ cls := "TwinRegister$Device", name := "differsAt", desc := "(I)Z" } : Jvm.MethodName)) ∈ ag_all := ag_in 406 (by decide +kernel) (by decide +kernel)
theorem m_407 : (Jvm.Cond.code ({ cls := "TwinRegister$Device", name := "differsAt", desc := "(I)Z" } : Jvm.MethodName) prog_2_method_6_code (2 : Nat) (Option.some Jvm.ClassFile.FieldType.boolean)) ∈ ag_all := ag_in 407 (by decide +kernel) (by decide +kernel)
theorem m_408 : (Jvm.Cond.methodLink "TwinRegisterLaw" (109 : Nat) ({ cls := "TwinRegisterLaw", name := "refuse", desc := "(LTwinRegister;III)I" } : Jvm.MethodName)) ∈ ag_all := ag_in 408 (by decide +kernel) (by decide +kernel)
theorem m_409 : (Jvm.Cond.static ({ cls := "TwinRegisterLaw", name := "refuse", desc := "(LTwinRegister;III)I" } : Jvm.MethodName)) ∈ ag_all := ag_in 409 (by decide +kernel) (by decide +kernel)
theorem m_410 : (Jvm.Cond.codeWith ({ cls := "TwinRegisterLaw", name := "refuse", desc := "(LTwinRegister;III)I" } : Jvm.MethodName) method_9_code (6 : Nat) (Option.some Jvm.ClassFile.FieldType.int) [((0 : Nat), (9 : Nat), (12 : Nat), (14 : Nat)), ((0 : Nat), (9 : Nat), (17 : Nat), (16 : Nat)), ((0 : Nat), (9 : Nat), (22 : Nat), (25 : Nat))]) ∈ ag_all := ag_in 410 (by decide +kernel) (by decide +kernel)
theorem m_411 : (Jvm.Cond.methodLink "TwinRegisterLaw" (33 : Nat) ({ cls := "TwinRegister", name := "refuse", desc := "(III)I" } : Jvm.MethodName)) ∈ ag_all := ag_in 411 (by decide +kernel) (by decide +kernel)
theorem m_412 : (Jvm.Cond.instanceMethod ({ cls := "TwinRegister", name := "refuse", desc := "(III)I" } : Jvm.MethodName)) ∈ ag_all := ag_in 412 (by decide +kernel) (by decide +kernel)
theorem m_413 : (Jvm.Cond.selects "TwinRegister" ({ cls := "TwinRegister", name := "refuse", desc := "(III)I" } : Jvm.MethodName) ({ cls := "TwinRegister", name := "refuse", desc := "(III)I" } : Jvm.MethodName)) ∈ ag_all := ag_in 413 (by decide +kernel) (by decide +kernel)
theorem m_414 : (Jvm.Cond.code ({ cls := "TwinRegister", name := "refuse", desc := "(III)I" } : Jvm.MethodName) prog_1_method_7_code (5 : Nat) (Option.some Jvm.ClassFile.FieldType.int)) ∈ ag_all := ag_in 414 (by decide +kernel) (by decide +kernel)
theorem m_416 : (Jvm.Cond.methodLinkNest "TwinRegister" (116 : Nat) ({ cls := "TwinRegister$Device", name := "takeRefusal", desc := "(II)V" } : Jvm.MethodName) "TwinRegister") ∈ ax_all := ax_in 416 (by decide +kernel) (by decide +kernel)
theorem m_418 : (Jvm.Cond.instanceMethod ({ cls := "TwinRegister$Device", name := "takeRefusal", desc := "(II)V" } : Jvm.MethodName)) ∈ ag_all := ag_in 418 (by decide +kernel) (by decide +kernel)
theorem m_419 : (Jvm.Cond.code ({ cls := "TwinRegister$Device", name := "takeRefusal", desc := "(II)V" } : Jvm.MethodName) prog_2_method_4_code (3 : Nat) (Option.none : Option Jvm.ClassFile.FieldType)) ∈ ag_all := ag_in 419 (by decide +kernel) (by decide +kernel)
theorem m_420 : (Jvm.Cond.methodLink "TwinRegisterLaw" (112 : Nat) ({ cls := "TwinRegisterLaw", name := "sleep", desc := "(LTwinRegister;I)I" } : Jvm.MethodName)) ∈ ag_all := ag_in 420 (by decide +kernel) (by decide +kernel)
theorem m_421 : (Jvm.Cond.static ({ cls := "TwinRegisterLaw", name := "sleep", desc := "(LTwinRegister;I)I" } : Jvm.MethodName)) ∈ ag_all := ag_in 421 (by decide +kernel) (by decide +kernel)
theorem m_422 : (Jvm.Cond.codeWith ({ cls := "TwinRegisterLaw", name := "sleep", desc := "(LTwinRegister;I)I" } : Jvm.MethodName) method_10_code (4 : Nat) (Option.some Jvm.ClassFile.FieldType.int) [((0 : Nat), (6 : Nat), (9 : Nat), (14 : Nat))]) ∈ ag_all := ag_in 422 (by decide +kernel) (by decide +kernel)
theorem m_423 : (Jvm.Cond.methodLink "TwinRegisterLaw" (37 : Nat) ({ cls := "TwinRegister", name := "sleep", desc := "(I)Z" } : Jvm.MethodName)) ∈ ag_all := ag_in 423 (by decide +kernel) (by decide +kernel)
theorem m_424 : (Jvm.Cond.instanceMethod ({ cls := "TwinRegister", name := "sleep", desc := "(I)Z" } : Jvm.MethodName)) ∈ ag_all := ag_in 424 (by decide +kernel) (by decide +kernel)
theorem m_425 : (Jvm.Cond.selects "TwinRegister" ({ cls := "TwinRegister", name := "sleep", desc := "(I)Z" } : Jvm.MethodName) ({ cls := "TwinRegister", name := "sleep", desc := "(I)Z" } : Jvm.MethodName)) ∈ ag_all := ag_in 425 (by decide +kernel) (by decide +kernel)
theorem m_426 : (Jvm.Cond.code ({ cls := "TwinRegister", name := "sleep", desc := "(I)Z" } : Jvm.MethodName) prog_1_method_8_code (4 : Nat) (Option.some Jvm.ClassFile.FieldType.boolean)) ∈ ag_all := ag_in 426 (by decide +kernel) (by decide +kernel)
theorem m_427 : (Jvm.Cond.methodLink "TwinRegisterLaw" (114 : Nat) ({ cls := "TwinRegisterLaw", name := "wake", desc := "(LTwinRegister;I)I" } : Jvm.MethodName)) ∈ ag_all := ag_in 427 (by decide +kernel) (by decide +kernel)
theorem m_428 : (Jvm.Cond.static ({ cls := "TwinRegisterLaw", name := "wake", desc := "(LTwinRegister;I)I" } : Jvm.MethodName)) ∈ ag_all := ag_in 428 (by decide +kernel) (by decide +kernel)
theorem m_429 : (Jvm.Cond.codeWith ({ cls := "TwinRegisterLaw", name := "wake", desc := "(LTwinRegister;I)I" } : Jvm.MethodName) method_11_code (4 : Nat) (Option.some Jvm.ClassFile.FieldType.int) [((0 : Nat), (6 : Nat), (9 : Nat), (14 : Nat))]) ∈ ag_all := ag_in 429 (by decide +kernel) (by decide +kernel)
theorem m_430 : (Jvm.Cond.methodLink "TwinRegisterLaw" (41 : Nat) ({ cls := "TwinRegister", name := "wake", desc := "(I)I" } : Jvm.MethodName)) ∈ ag_all := ag_in 430 (by decide +kernel) (by decide +kernel)
theorem m_431 : (Jvm.Cond.instanceMethod ({ cls := "TwinRegister", name := "wake", desc := "(I)I" } : Jvm.MethodName)) ∈ ag_all := ag_in 431 (by decide +kernel) (by decide +kernel)
theorem m_432 : (Jvm.Cond.selects "TwinRegister" ({ cls := "TwinRegister", name := "wake", desc := "(I)I" } : Jvm.MethodName) ({ cls := "TwinRegister", name := "wake", desc := "(I)I" } : Jvm.MethodName)) ∈ ag_all := ag_in 432 (by decide +kernel) (by decide +kernel)
theorem m_433 : (Jvm.Cond.code ({ cls := "TwinRegister", name := "wake", desc := "(I)I" } : Jvm.MethodName) prog_1_method_9_code (4 : Nat) (Option.some Jvm.ClassFile.FieldType.int)) ∈ ag_all := ag_in 433 (by decide +kernel) (by decide +kernel)
theorem m_434 : (Jvm.Cond.methodLinkNest "TwinRegister" (126 : Nat) ({ cls := "TwinRegister$Device", name := "heardVersion", desc := "()I" } : Jvm.MethodName) "TwinRegister") ∈ ax_all := ax_in 434 (by decide +kernel) (by decide +kernel)
theorem m_436 : (Jvm.Cond.instanceMethod ({ cls := "TwinRegister$Device", name := "heardVersion", desc := "()I" } : Jvm.MethodName)) ∈ ag_all := ag_in 436 (by decide +kernel) (by decide +kernel)
theorem m_437 : (Jvm.Cond.code ({ cls := "TwinRegister$Device", name := "heardVersion", desc := "()I" } : Jvm.MethodName) prog_2_method_8_code (1 : Nat) (Option.some Jvm.ClassFile.FieldType.int)) ∈ ag_all := ag_in 437 (by decide +kernel) (by decide +kernel)
theorem m_438 : (Jvm.Cond.methodLink "TwinRegisterLaw" (174 : Nat) ({ cls := "TwinRegisterLaw", name := "works", desc := "(LTwinRegister;III[I[I[I[I[I[I[I)Z" } : Jvm.MethodName)) ∈ ag_all := ag_in 438 (by decide +kernel) (by decide +kernel)
theorem m_439 : (Jvm.Cond.static ({ cls := "TwinRegisterLaw", name := "works", desc := "(LTwinRegister;III[I[I[I[I[I[I[I)Z" } : Jvm.MethodName)) ∈ ag_all := ag_in 439 (by decide +kernel) (by decide +kernel)
theorem m_440 : (Jvm.Cond.code ({ cls := "TwinRegisterLaw", name := "works", desc := "(LTwinRegister;III[I[I[I[I[I[I[I)Z" } : Jvm.MethodName) method_28_code (16 : Nat) (Option.some Jvm.ClassFile.FieldType.boolean)) ∈ ag_all := ag_in 440 (by rfl) (by rfl)
theorem m_441 : (Jvm.Cond.methodLink "TwinRegisterLaw" (116 : Nat) ({ cls := "TwinRegisterLaw", name := "setGroup", desc := "(LTwinRegister;IIII)I" } : Jvm.MethodName)) ∈ ag_all := ag_in 441 (by decide +kernel) (by decide +kernel)
theorem m_442 : (Jvm.Cond.static ({ cls := "TwinRegisterLaw", name := "setGroup", desc := "(LTwinRegister;IIII)I" } : Jvm.MethodName)) ∈ ag_all := ag_in 442 (by decide +kernel) (by decide +kernel)
theorem m_443 : (Jvm.Cond.codeWith ({ cls := "TwinRegisterLaw", name := "setGroup", desc := "(LTwinRegister;IIII)I" } : Jvm.MethodName) method_12_code (7 : Nat) (Option.some Jvm.ClassFile.FieldType.int) [((0 : Nat), (11 : Nat), (14 : Nat), (14 : Nat)), ((0 : Nat), (11 : Nat), (19 : Nat), (16 : Nat))]) ∈ ag_all := ag_in 443 (by decide +kernel) (by decide +kernel)
theorem m_444 : (Jvm.Cond.methodLink "TwinRegisterLaw" (44 : Nat) ({ cls := "TwinRegister", name := "setGroup", desc := "(IIII)I" } : Jvm.MethodName)) ∈ ag_all := ag_in 444 (by decide +kernel) (by decide +kernel)
theorem m_445 : (Jvm.Cond.instanceMethod ({ cls := "TwinRegister", name := "setGroup", desc := "(IIII)I" } : Jvm.MethodName)) ∈ ag_all := ag_in 445 (by decide +kernel) (by decide +kernel)
theorem m_446 : (Jvm.Cond.selects "TwinRegister" ({ cls := "TwinRegister", name := "setGroup", desc := "(IIII)I" } : Jvm.MethodName) ({ cls := "TwinRegister", name := "setGroup", desc := "(IIII)I" } : Jvm.MethodName)) ∈ ag_all := ag_in 446 (by decide +kernel) (by decide +kernel)
theorem m_447 : (Jvm.Cond.code ({ cls := "TwinRegister", name := "setGroup", desc := "(IIII)I" } : Jvm.MethodName) prog_1_method_10_code (6 : Nat) (Option.some Jvm.ClassFile.FieldType.int)) ∈ ag_all := ag_in 447 (by decide +kernel) (by decide +kernel)
theorem m_448 : (Jvm.Cond.methodLink "TwinRegister" (129 : Nat) ({ cls := "TwinRegister", name := "groupAt", desc := "(I)LTwinRegister$Group;" } : Jvm.MethodName)) ∈ ag_all := ag_in 448 (by decide +kernel) (by decide +kernel)
theorem m_450 : (Jvm.Cond.instanceMethod ({ cls := "TwinRegister", name := "groupAt", desc := "(I)LTwinRegister$Group;" } : Jvm.MethodName)) ∈ ag_all := ag_in 450 (by decide +kernel) (by decide +kernel)
theorem m_451 : (Jvm.Cond.code ({ cls := "TwinRegister", name := "groupAt", desc := "(I)LTwinRegister$Group;" } : Jvm.MethodName) prog_1_method_26_code (2 : Nat) (Option.some (Jvm.ClassFile.FieldType.object "TwinRegister$Group"))) ∈ ag_all := ag_in 451 (by decide +kernel) (by decide +kernel)
theorem m_452 : (Jvm.Cond.methodLink "TwinRegister" (146 : Nat) ({ cls := "TwinRegister", name := "requireGroup", desc := "(I)V" } : Jvm.MethodName)) ∈ ag_all := ag_in 452 (by decide +kernel) (by decide +kernel)
theorem m_453 : (Jvm.Cond.static ({ cls := "TwinRegister", name := "requireGroup", desc := "(I)V" } : Jvm.MethodName)) ∈ ag_all := ag_in 453 (by decide +kernel) (by decide +kernel)
theorem m_454 : (Jvm.Cond.code ({ cls := "TwinRegister", name := "requireGroup", desc := "(I)V" } : Jvm.MethodName) prog_1_method_27_code (1 : Nat) (Option.none : Option Jvm.ClassFile.FieldType)) ∈ ag_all := ag_in 454 (by decide +kernel) (by decide +kernel)
theorem m_456 : (Jvm.Cond.methodLink "TwinRegister" (142 : Nat) ({ cls := "TwinRegister", name := "membersOf", desc := "(LTwinRegister$Group;)I" } : Jvm.MethodName)) ∈ ag_all := ag_in 456 (by decide +kernel) (by decide +kernel)
theorem m_458 : (Jvm.Cond.instanceMethod ({ cls := "TwinRegister", name := "membersOf", desc := "(LTwinRegister$Group;)I" } : Jvm.MethodName)) ∈ ag_all := ag_in 458 (by decide +kernel) (by decide +kernel)
theorem m_459 : (Jvm.Cond.code ({ cls := "TwinRegister", name := "membersOf", desc := "(LTwinRegister$Group;)I" } : Jvm.MethodName) prog_1_method_34_code (4 : Nat) (Option.some Jvm.ClassFile.FieldType.int)) ∈ ag_all := ag_in 459 (by decide +kernel) (by decide +kernel)
theorem m_460 : (Jvm.Cond.methodLinkNest "TwinRegister" (222 : Nat) ({ cls := "TwinRegister$Group", name := "admits", desc := "(LTwinRegister$Device;)Z" } : Jvm.MethodName) "TwinRegister") ∈ ax_all := ax_in 460 (by decide +kernel) (by decide +kernel)
theorem m_462 : (Jvm.Cond.instanceMethod ({ cls := "TwinRegister$Group", name := "admits", desc := "(LTwinRegister$Device;)Z" } : Jvm.MethodName)) ∈ ag_all := ag_in 462 (by decide +kernel) (by decide +kernel)
theorem m_463 : (Jvm.Cond.code ({ cls := "TwinRegister$Group", name := "admits", desc := "(LTwinRegister$Device;)Z" } : Jvm.MethodName) prog_4_method_2_code (3 : Nat) (Option.some Jvm.ClassFile.FieldType.boolean)) ∈ ag_all := ag_in 463 (by decide +kernel) (by decide +kernel)
theorem m_464 : (Jvm.Cond.methodLink "TwinRegisterLaw" (75 : Nat) ({ cls := "TwinRegisterLaw", name := "members", desc := "([I[II)I" } : Jvm.MethodName)) ∈ ag_all := ag_in 464 (by decide +kernel) (by decide +kernel)
theorem m_465 : (Jvm.Cond.static ({ cls := "TwinRegisterLaw", name := "members", desc := "([I[II)I" } : Jvm.MethodName)) ∈ ag_all := ag_in 465 (by decide +kernel) (by decide +kernel)
theorem m_466 : (Jvm.Cond.code ({ cls := "TwinRegisterLaw", name := "members", desc := "([I[II)I" } : Jvm.MethodName) method_23_code (6 : Nat) (Option.some Jvm.ClassFile.FieldType.int)) ∈ ag_all := ag_in 466 (by decide +kernel) (by decide +kernel)
theorem m_467 : (Jvm.Cond.methodLink "TwinRegisterLaw" (119 : Nat) ({ cls := "TwinRegisterLaw", name := "addJob", desc := "(LTwinRegister;IIIII)I" } : Jvm.MethodName)) ∈ ag_all := ag_in 467 (by decide +kernel) (by decide +kernel)
theorem m_468 : (Jvm.Cond.static ({ cls := "TwinRegisterLaw", name := "addJob", desc := "(LTwinRegister;IIIII)I" } : Jvm.MethodName)) ∈ ag_all := ag_in 468 (by decide +kernel) (by decide +kernel)
theorem m_469 : (Jvm.Cond.codeWith ({ cls := "TwinRegisterLaw", name := "addJob", desc := "(LTwinRegister;IIIII)I" } : Jvm.MethodName) method_13_code (8 : Nat) (Option.some Jvm.ClassFile.FieldType.int) [((0 : Nat), (13 : Nat), (16 : Nat), (14 : Nat)), ((0 : Nat), (13 : Nat), (21 : Nat), (16 : Nat)), ((0 : Nat), (13 : Nat), (26 : Nat), (25 : Nat))]) ∈ ag_all := ag_in 469 (by decide +kernel) (by decide +kernel)
theorem m_470 : (Jvm.Cond.methodLink "TwinRegisterLaw" (48 : Nat) ({ cls := "TwinRegister", name := "addJob", desc := "(IIIII)I" } : Jvm.MethodName)) ∈ ag_all := ag_in 470 (by decide +kernel) (by decide +kernel)
theorem m_471 : (Jvm.Cond.instanceMethod ({ cls := "TwinRegister", name := "addJob", desc := "(IIIII)I" } : Jvm.MethodName)) ∈ ag_all := ag_in 471 (by decide +kernel) (by decide +kernel)
theorem m_472 : (Jvm.Cond.selects "TwinRegister" ({ cls := "TwinRegister", name := "addJob", desc := "(IIIII)I" } : Jvm.MethodName) ({ cls := "TwinRegister", name := "addJob", desc := "(IIIII)I" } : Jvm.MethodName)) ∈ ag_all := ag_in 472 (by decide +kernel) (by decide +kernel)
theorem m_473 : (Jvm.Cond.code ({ cls := "TwinRegister", name := "addJob", desc := "(IIIII)I" } : Jvm.MethodName) prog_1_method_11_code (7 : Nat) (Option.some Jvm.ClassFile.FieldType.int)) ∈ ag_all := ag_in 473 (by decide +kernel) (by decide +kernel)
theorem m_475 : (Jvm.Cond.constant "TwinRegisterLaw" (122 : Nat) (131072 : Int32)) ∈ ag_all := ag_in 475 (by decide +kernel) (by decide +kernel)
theorem m_476 : (Jvm.Cond.methodLink "TwinRegisterLaw" (123 : Nat) ({ cls := "TwinRegister", name := "wave", desc := "()I" } : Jvm.MethodName)) ∈ ag_all := ag_in 476 (by decide +kernel) (by decide +kernel)
theorem m_477 : (Jvm.Cond.instanceMethod ({ cls := "TwinRegister", name := "wave", desc := "()I" } : Jvm.MethodName)) ∈ ag_all := ag_in 477 (by decide +kernel) (by decide +kernel)
theorem m_478 : (Jvm.Cond.selects "TwinRegister" ({ cls := "TwinRegister", name := "wave", desc := "()I" } : Jvm.MethodName) ({ cls := "TwinRegister", name := "wave", desc := "()I" } : Jvm.MethodName)) ∈ ag_all := ag_in 478 (by decide +kernel) (by decide +kernel)
theorem m_479 : (Jvm.Cond.code ({ cls := "TwinRegister", name := "wave", desc := "()I" } : Jvm.MethodName) prog_1_method_12_code (3 : Nat) (Option.some Jvm.ClassFile.FieldType.int)) ∈ ag_all := ag_in 479 (by decide +kernel) (by decide +kernel)
theorem m_480 : (Jvm.Cond.methodLink "TwinRegister" (167 : Nat) ({ cls := "TwinRegister", name := "advance", desc := "(LTwinRegister$Job;)I" } : Jvm.MethodName)) ∈ ag_all := ag_in 480 (by decide +kernel) (by decide +kernel)
theorem m_482 : (Jvm.Cond.instanceMethod ({ cls := "TwinRegister", name := "advance", desc := "(LTwinRegister$Job;)I" } : Jvm.MethodName)) ∈ ag_all := ag_in 482 (by decide +kernel) (by decide +kernel)
theorem m_483 : (Jvm.Cond.code ({ cls := "TwinRegister", name := "advance", desc := "(LTwinRegister$Job;)I" } : Jvm.MethodName) prog_1_method_35_code (2 : Nat) (Option.some Jvm.ClassFile.FieldType.int)) ∈ ag_all := ag_in 483 (by decide +kernel) (by decide +kernel)
theorem m_484 : (Jvm.Cond.methodLink "TwinRegister" (226 : Nat) ({ cls := "TwinRegister", name := "judgeStarted", desc := "(LTwinRegister$Job;)V" } : Jvm.MethodName)) ∈ ag_all := ag_in 484 (by decide +kernel) (by decide +kernel)
theorem m_486 : (Jvm.Cond.instanceMethod ({ cls := "TwinRegister", name := "judgeStarted", desc := "(LTwinRegister$Job;)V" } : Jvm.MethodName)) ∈ ag_all := ag_in 486 (by decide +kernel) (by decide +kernel)
theorem m_487 : (Jvm.Cond.code ({ cls := "TwinRegister", name := "judgeStarted", desc := "(LTwinRegister$Job;)V" } : Jvm.MethodName) prog_1_method_36_code (6 : Nat) (Option.none : Option Jvm.ClassFile.FieldType)) ∈ ag_all := ag_in 487 (by decide +kernel) (by decide +kernel)
theorem m_488 : (Jvm.Cond.methodLinkNest "TwinRegister" (177 : Nat) ({ cls := "TwinRegister$Job", name := "open", desc := "()I" } : Jvm.MethodName) "TwinRegister") ∈ ax_all := ax_in 488 (by decide +kernel) (by decide +kernel)
theorem m_490 : (Jvm.Cond.instanceMethod ({ cls := "TwinRegister$Job", name := "open", desc := "()I" } : Jvm.MethodName)) ∈ ag_all := ag_in 490 (by decide +kernel) (by decide +kernel)
theorem m_491 : (Jvm.Cond.code ({ cls := "TwinRegister$Job", name := "open", desc := "()I" } : Jvm.MethodName) prog_5_method_2_code (1 : Nat) (Option.some Jvm.ClassFile.FieldType.int)) ∈ ag_all := ag_in 491 (by decide +kernel) (by decide +kernel)
theorem m_492 : (Jvm.Cond.methodLink "TwinRegister" (230 : Nat) ({ cls := "TwinRegister", name := "startMore", desc := "(LTwinRegister$Job;)I" } : Jvm.MethodName)) ∈ ag_all := ag_in 492 (by decide +kernel) (by decide +kernel)
theorem m_494 : (Jvm.Cond.instanceMethod ({ cls := "TwinRegister", name := "startMore", desc := "(LTwinRegister$Job;)I" } : Jvm.MethodName)) ∈ ag_all := ag_in 494 (by decide +kernel) (by decide +kernel)
theorem m_495 : (Jvm.Cond.code ({ cls := "TwinRegister", name := "startMore", desc := "(LTwinRegister$Job;)I" } : Jvm.MethodName) prog_1_method_37_code (6 : Nat) (Option.some Jvm.ClassFile.FieldType.int)) ∈ ag_all := ag_in 495 (by decide +kernel) (by decide +kernel)
theorem m_496 : (Jvm.Cond.methodLink "TwinRegisterLaw" (127 : Nat) ({ cls := "TwinRegisterLaw", name := "waves", desc := "([I[I[I[I[I[I[I)I" } : Jvm.MethodName)) ∈ ag_all := ag_in 496 (by decide +kernel) (by decide +kernel)
theorem m_497 : (Jvm.Cond.static ({ cls := "TwinRegisterLaw", name := "waves", desc := "([I[I[I[I[I[I[I)I" } : Jvm.MethodName)) ∈ ag_all := ag_in 497 (by decide +kernel) (by decide +kernel)
theorem m_498 : (Jvm.Cond.code ({ cls := "TwinRegisterLaw", name := "waves", desc := "([I[I[I[I[I[I[I)I" } : Jvm.MethodName) method_26_code (15 : Nat) (Option.some Jvm.ClassFile.FieldType.int)) ∈ ag_all := ag_in 498 (by decide +kernel) (by decide +kernel)
theorem m_499 : (Jvm.Cond.methodLink "TwinRegisterLaw" (131 : Nat) ({ cls := "TwinRegisterLaw", name := "cancel", desc := "(LTwinRegister;I)I" } : Jvm.MethodName)) ∈ ag_all := ag_in 499 (by decide +kernel) (by decide +kernel)
theorem m_500 : (Jvm.Cond.static ({ cls := "TwinRegisterLaw", name := "cancel", desc := "(LTwinRegister;I)I" } : Jvm.MethodName)) ∈ ag_all := ag_in 500 (by decide +kernel) (by decide +kernel)
theorem m_501 : (Jvm.Cond.codeWith ({ cls := "TwinRegisterLaw", name := "cancel", desc := "(LTwinRegister;I)I" } : Jvm.MethodName) method_14_code (4 : Nat) (Option.some Jvm.ClassFile.FieldType.int) [((0 : Nat), (6 : Nat), (9 : Nat), (14 : Nat)), ((0 : Nat), (6 : Nat), (13 : Nat), (25 : Nat))]) ∈ ag_all := ag_in 501 (by decide +kernel) (by decide +kernel)
theorem m_502 : (Jvm.Cond.methodLink "TwinRegisterLaw" (52 : Nat) ({ cls := "TwinRegister", name := "cancel", desc := "(I)I" } : Jvm.MethodName)) ∈ ag_all := ag_in 502 (by decide +kernel) (by decide +kernel)
theorem m_503 : (Jvm.Cond.instanceMethod ({ cls := "TwinRegister", name := "cancel", desc := "(I)I" } : Jvm.MethodName)) ∈ ag_all := ag_in 503 (by decide +kernel) (by decide +kernel)
theorem m_504 : (Jvm.Cond.selects "TwinRegister" ({ cls := "TwinRegister", name := "cancel", desc := "(I)I" } : Jvm.MethodName) ({ cls := "TwinRegister", name := "cancel", desc := "(I)I" } : Jvm.MethodName)) ∈ ag_all := ag_in 504 (by decide +kernel) (by decide +kernel)
theorem m_505 : (Jvm.Cond.code ({ cls := "TwinRegister", name := "cancel", desc := "(I)I" } : Jvm.MethodName) prog_1_method_13_code (3 : Nat) (Option.some Jvm.ClassFile.FieldType.int)) ∈ ag_all := ag_in 505 (by decide +kernel) (by decide +kernel)
theorem m_506 : (Jvm.Cond.methodLink "TwinRegister" (171 : Nat) ({ cls := "TwinRegister", name := "jobAt", desc := "(I)LTwinRegister$Job;" } : Jvm.MethodName)) ∈ ag_all := ag_in 506 (by decide +kernel) (by decide +kernel)
theorem m_508 : (Jvm.Cond.instanceMethod ({ cls := "TwinRegister", name := "jobAt", desc := "(I)LTwinRegister$Job;" } : Jvm.MethodName)) ∈ ag_all := ag_in 508 (by decide +kernel) (by decide +kernel)
theorem m_509 : (Jvm.Cond.code ({ cls := "TwinRegister", name := "jobAt", desc := "(I)LTwinRegister$Job;" } : Jvm.MethodName) prog_1_method_28_code (2 : Nat) (Option.some (Jvm.ClassFile.FieldType.object "TwinRegister$Job"))) ∈ ag_all := ag_in 509 (by decide +kernel) (by decide +kernel)
theorem m_512 : (Jvm.Cond.methodLink "TwinRegisterLaw" (133 : Nat) ({ cls := "TwinRegisterLaw", name := "state", desc := "(LTwinRegister;I)I" } : Jvm.MethodName)) ∈ ag_all := ag_in 512 (by decide +kernel) (by decide +kernel)
theorem m_513 : (Jvm.Cond.static ({ cls := "TwinRegisterLaw", name := "state", desc := "(LTwinRegister;I)I" } : Jvm.MethodName)) ∈ ag_all := ag_in 513 (by decide +kernel) (by decide +kernel)
theorem m_514 : (Jvm.Cond.codeWith ({ cls := "TwinRegisterLaw", name := "state", desc := "(LTwinRegister;I)I" } : Jvm.MethodName) method_17_code (4 : Nat) (Option.some Jvm.ClassFile.FieldType.int) [((0 : Nat), (6 : Nat), (9 : Nat), (14 : Nat))]) ∈ ag_all := ag_in 514 (by decide +kernel) (by decide +kernel)
theorem m_515 : (Jvm.Cond.methodLink "TwinRegisterLaw" (61 : Nat) ({ cls := "TwinRegister", name := "state", desc := "(I)I" } : Jvm.MethodName)) ∈ ag_all := ag_in 515 (by decide +kernel) (by decide +kernel)
theorem m_516 : (Jvm.Cond.instanceMethod ({ cls := "TwinRegister", name := "state", desc := "(I)I" } : Jvm.MethodName)) ∈ ag_all := ag_in 516 (by decide +kernel) (by decide +kernel)
theorem m_517 : (Jvm.Cond.selects "TwinRegister" ({ cls := "TwinRegister", name := "state", desc := "(I)I" } : Jvm.MethodName) ({ cls := "TwinRegister", name := "state", desc := "(I)I" } : Jvm.MethodName)) ∈ ag_all := ag_in 517 (by decide +kernel) (by decide +kernel)
theorem m_518 : (Jvm.Cond.code ({ cls := "TwinRegister", name := "state", desc := "(I)I" } : Jvm.MethodName) prog_1_method_23_code (2 : Nat) (Option.some Jvm.ClassFile.FieldType.int)) ∈ ag_all := ag_in 518 (by decide +kernel) (by decide +kernel)
theorem m_519 : (Jvm.Cond.methodLink "TwinRegisterLaw" (163 : Nat) ({ cls := "TwinRegisterLaw", name := "isTold", desc := "(LTwinRegister;[I[I[I[I[I[I[I[I)Z" } : Jvm.MethodName)) ∈ ag_all := ag_in 519 (by decide +kernel) (by decide +kernel)
theorem m_520 : (Jvm.Cond.static ({ cls := "TwinRegisterLaw", name := "isTold", desc := "(LTwinRegister;[I[I[I[I[I[I[I[I)Z" } : Jvm.MethodName)) ∈ ag_all := ag_in 520 (by decide +kernel) (by decide +kernel)
theorem m_521 : (Jvm.Cond.code ({ cls := "TwinRegisterLaw", name := "isTold", desc := "(LTwinRegister;[I[I[I[I[I[I[I[I)Z" } : Jvm.MethodName) method_29_code (15 : Nat) (Option.some Jvm.ClassFile.FieldType.boolean)) ∈ ag_all := ag_in 521 (by decide +kernel) (by decide +kernel)
theorem m_522 : (Jvm.Cond.methodLink "TwinRegisterLaw" (135 : Nat) ({ cls := "TwinRegisterLaw", name := "version", desc := "(LTwinRegister;I)I" } : Jvm.MethodName)) ∈ ag_all := ag_in 522 (by decide +kernel) (by decide +kernel)
theorem m_523 : (Jvm.Cond.static ({ cls := "TwinRegisterLaw", name := "version", desc := "(LTwinRegister;I)I" } : Jvm.MethodName)) ∈ ag_all := ag_in 523 (by decide +kernel) (by decide +kernel)
theorem m_524 : (Jvm.Cond.codeWith ({ cls := "TwinRegisterLaw", name := "version", desc := "(LTwinRegister;I)I" } : Jvm.MethodName) method_15_code (4 : Nat) (Option.some Jvm.ClassFile.FieldType.int) [((0 : Nat), (6 : Nat), (9 : Nat), (14 : Nat))]) ∈ ag_all := ag_in 524 (by decide +kernel) (by decide +kernel)
theorem m_525 : (Jvm.Cond.methodLink "TwinRegisterLaw" (55 : Nat) ({ cls := "TwinRegister", name := "version", desc := "(I)I" } : Jvm.MethodName)) ∈ ag_all := ag_in 525 (by decide +kernel) (by decide +kernel)
theorem m_526 : (Jvm.Cond.instanceMethod ({ cls := "TwinRegister", name := "version", desc := "(I)I" } : Jvm.MethodName)) ∈ ag_all := ag_in 526 (by decide +kernel) (by decide +kernel)
theorem m_527 : (Jvm.Cond.selects "TwinRegister" ({ cls := "TwinRegister", name := "version", desc := "(I)I" } : Jvm.MethodName) ({ cls := "TwinRegister", name := "version", desc := "(I)I" } : Jvm.MethodName)) ∈ ag_all := ag_in 527 (by decide +kernel) (by decide +kernel)
theorem m_528 : (Jvm.Cond.code ({ cls := "TwinRegister", name := "version", desc := "(I)I" } : Jvm.MethodName) prog_1_method_14_code (2 : Nat) (Option.some Jvm.ClassFile.FieldType.int)) ∈ ag_all := ag_in 528 (by decide +kernel) (by decide +kernel)
theorem m_529 : (Jvm.Cond.methodLink "TwinRegisterLaw" (137 : Nat) ({ cls := "TwinRegister", name := "heard", desc := "(I)I" } : Jvm.MethodName)) ∈ ag_all := ag_in 529 (by decide +kernel) (by decide +kernel)
theorem m_530 : (Jvm.Cond.instanceMethod ({ cls := "TwinRegister", name := "heard", desc := "(I)I" } : Jvm.MethodName)) ∈ ag_all := ag_in 530 (by decide +kernel) (by decide +kernel)
theorem m_531 : (Jvm.Cond.selects "TwinRegister" ({ cls := "TwinRegister", name := "heard", desc := "(I)I" } : Jvm.MethodName) ({ cls := "TwinRegister", name := "heard", desc := "(I)I" } : Jvm.MethodName)) ∈ ag_all := ag_in 531 (by decide +kernel) (by decide +kernel)
theorem m_532 : (Jvm.Cond.code ({ cls := "TwinRegister", name := "heard", desc := "(I)I" } : Jvm.MethodName) prog_1_method_15_code (2 : Nat) (Option.some Jvm.ClassFile.FieldType.int)) ∈ ag_all := ag_in 532 (by decide +kernel) (by decide +kernel)
theorem m_533 : (Jvm.Cond.methodLink "TwinRegisterLaw" (140 : Nat) ({ cls := "TwinRegister", name := "differences", desc := "(I)I" } : Jvm.MethodName)) ∈ ag_all := ag_in 533 (by decide +kernel) (by decide +kernel)
theorem m_534 : (Jvm.Cond.instanceMethod ({ cls := "TwinRegister", name := "differences", desc := "(I)I" } : Jvm.MethodName)) ∈ ag_all := ag_in 534 (by decide +kernel) (by decide +kernel)
theorem m_535 : (Jvm.Cond.selects "TwinRegister" ({ cls := "TwinRegister", name := "differences", desc := "(I)I" } : Jvm.MethodName) ({ cls := "TwinRegister", name := "differences", desc := "(I)I" } : Jvm.MethodName)) ∈ ag_all := ag_in 535 (by decide +kernel) (by decide +kernel)
theorem m_536 : (Jvm.Cond.code ({ cls := "TwinRegister", name := "differences", desc := "(I)I" } : Jvm.MethodName) prog_1_method_19_code (2 : Nat) (Option.some Jvm.ClassFile.FieldType.int)) ∈ ag_all := ag_in 536 (by decide +kernel) (by decide +kernel)
theorem m_537 : (Jvm.Cond.methodLink "TwinRegisterLaw" (143 : Nat) ({ cls := "TwinRegister", name := "differencesAnew", desc := "(I)I" } : Jvm.MethodName)) ∈ ag_all := ag_in 537 (by decide +kernel) (by decide +kernel)
theorem m_538 : (Jvm.Cond.instanceMethod ({ cls := "TwinRegister", name := "differencesAnew", desc := "(I)I" } : Jvm.MethodName)) ∈ ag_all := ag_in 538 (by decide +kernel) (by decide +kernel)
theorem m_539 : (Jvm.Cond.selects "TwinRegister" ({ cls := "TwinRegister", name := "differencesAnew", desc := "(I)I" } : Jvm.MethodName) ({ cls := "TwinRegister", name := "differencesAnew", desc := "(I)I" } : Jvm.MethodName)) ∈ ag_all := ag_in 539 (by decide +kernel) (by decide +kernel)
theorem m_540 : (Jvm.Cond.code ({ cls := "TwinRegister", name := "differencesAnew", desc := "(I)I" } : Jvm.MethodName) prog_1_method_20_code (5 : Nat) (Option.some Jvm.ClassFile.FieldType.int)) ∈ ag_all := ag_in 540 (by decide +kernel) (by decide +kernel)
theorem m_541 : (Jvm.Cond.methodLinkNest "TwinRegister" (186 : Nat) ({ cls := "TwinRegister$Device", name := "comparesUnlike", desc := "(I)Z" } : Jvm.MethodName) "TwinRegister") ∈ ax_all := ax_in 541 (by decide +kernel) (by decide +kernel)
theorem m_542 : (Jvm.Cond.methodLink "TwinRegisterLaw" (146 : Nat) ({ cls := "TwinRegisterLaw", name := "wished", desc := "(LTwinRegister;II)I" } : Jvm.MethodName)) ∈ ag_all := ag_in 542 (by decide +kernel) (by decide +kernel)
theorem m_543 : (Jvm.Cond.static ({ cls := "TwinRegisterLaw", name := "wished", desc := "(LTwinRegister;II)I" } : Jvm.MethodName)) ∈ ag_all := ag_in 543 (by decide +kernel) (by decide +kernel)
theorem m_544 : (Jvm.Cond.codeWith ({ cls := "TwinRegisterLaw", name := "wished", desc := "(LTwinRegister;II)I" } : Jvm.MethodName) method_16_code (5 : Nat) (Option.some Jvm.ClassFile.FieldType.int) [((0 : Nat), (7 : Nat), (10 : Nat), (14 : Nat))]) ∈ ag_all := ag_in 544 (by decide +kernel) (by decide +kernel)
theorem m_545 : (Jvm.Cond.methodLink "TwinRegisterLaw" (58 : Nat) ({ cls := "TwinRegister", name := "wished", desc := "(II)I" } : Jvm.MethodName)) ∈ ag_all := ag_in 545 (by decide +kernel) (by decide +kernel)
theorem m_546 : (Jvm.Cond.instanceMethod ({ cls := "TwinRegister", name := "wished", desc := "(II)I" } : Jvm.MethodName)) ∈ ag_all := ag_in 546 (by decide +kernel) (by decide +kernel)
theorem m_547 : (Jvm.Cond.selects "TwinRegister" ({ cls := "TwinRegister", name := "wished", desc := "(II)I" } : Jvm.MethodName) ({ cls := "TwinRegister", name := "wished", desc := "(II)I" } : Jvm.MethodName)) ∈ ag_all := ag_in 547 (by decide +kernel) (by decide +kernel)
theorem m_548 : (Jvm.Cond.code ({ cls := "TwinRegister", name := "wished", desc := "(II)I" } : Jvm.MethodName) prog_1_method_16_code (4 : Nat) (Option.some Jvm.ClassFile.FieldType.int)) ∈ ag_all := ag_in 548 (by decide +kernel) (by decide +kernel)
theorem m_549 : (Jvm.Cond.methodLink "TwinRegisterLaw" (148 : Nat) ({ cls := "TwinRegister", name := "reported", desc := "(II)I" } : Jvm.MethodName)) ∈ ag_all := ag_in 549 (by decide +kernel) (by decide +kernel)
theorem m_550 : (Jvm.Cond.instanceMethod ({ cls := "TwinRegister", name := "reported", desc := "(II)I" } : Jvm.MethodName)) ∈ ag_all := ag_in 550 (by decide +kernel) (by decide +kernel)
theorem m_551 : (Jvm.Cond.selects "TwinRegister" ({ cls := "TwinRegister", name := "reported", desc := "(II)I" } : Jvm.MethodName) ({ cls := "TwinRegister", name := "reported", desc := "(II)I" } : Jvm.MethodName)) ∈ ag_all := ag_in 551 (by decide +kernel) (by decide +kernel)
theorem m_552 : (Jvm.Cond.code ({ cls := "TwinRegister", name := "reported", desc := "(II)I" } : Jvm.MethodName) prog_1_method_17_code (4 : Nat) (Option.some Jvm.ClassFile.FieldType.int)) ∈ ag_all := ag_in 552 (by decide +kernel) (by decide +kernel)
theorem m_553 : (Jvm.Cond.methodLink "TwinRegisterLaw" (151 : Nat) ({ cls := "TwinRegister", name := "why", desc := "(II)I" } : Jvm.MethodName)) ∈ ag_all := ag_in 553 (by decide +kernel) (by decide +kernel)
theorem m_554 : (Jvm.Cond.instanceMethod ({ cls := "TwinRegister", name := "why", desc := "(II)I" } : Jvm.MethodName)) ∈ ag_all := ag_in 554 (by decide +kernel) (by decide +kernel)
theorem m_555 : (Jvm.Cond.selects "TwinRegister" ({ cls := "TwinRegister", name := "why", desc := "(II)I" } : Jvm.MethodName) ({ cls := "TwinRegister", name := "why", desc := "(II)I" } : Jvm.MethodName)) ∈ ag_all := ag_in 555 (by decide +kernel) (by decide +kernel)
theorem m_556 : (Jvm.Cond.code ({ cls := "TwinRegister", name := "why", desc := "(II)I" } : Jvm.MethodName) prog_1_method_18_code (4 : Nat) (Option.some Jvm.ClassFile.FieldType.int)) ∈ ag_all := ag_in 556 (by decide +kernel) (by decide +kernel)
theorem m_557 : (Jvm.Cond.methodLink "TwinRegisterLaw" (154 : Nat) ({ cls := "TwinRegister", name := "members", desc := "(I)I" } : Jvm.MethodName)) ∈ ag_all := ag_in 557 (by decide +kernel) (by decide +kernel)
theorem m_558 : (Jvm.Cond.instanceMethod ({ cls := "TwinRegister", name := "members", desc := "(I)I" } : Jvm.MethodName)) ∈ ag_all := ag_in 558 (by decide +kernel) (by decide +kernel)
theorem m_559 : (Jvm.Cond.selects "TwinRegister" ({ cls := "TwinRegister", name := "members", desc := "(I)I" } : Jvm.MethodName) ({ cls := "TwinRegister", name := "members", desc := "(I)I" } : Jvm.MethodName)) ∈ ag_all := ag_in 559 (by decide +kernel) (by decide +kernel)
theorem m_560 : (Jvm.Cond.code ({ cls := "TwinRegister", name := "members", desc := "(I)I" } : Jvm.MethodName) prog_1_method_21_code (2 : Nat) (Option.some Jvm.ClassFile.FieldType.int)) ∈ ag_all := ag_in 560 (by decide +kernel) (by decide +kernel)
theorem m_561 : (Jvm.Cond.methodLink "TwinRegisterLaw" (156 : Nat) ({ cls := "TwinRegisterLaw", name := "devices", desc := "(LTwinRegister;II)I" } : Jvm.MethodName)) ∈ ag_all := ag_in 561 (by decide +kernel) (by decide +kernel)
theorem m_562 : (Jvm.Cond.static ({ cls := "TwinRegisterLaw", name := "devices", desc := "(LTwinRegister;II)I" } : Jvm.MethodName)) ∈ ag_all := ag_in 562 (by decide +kernel) (by decide +kernel)
theorem m_563 : (Jvm.Cond.codeWith ({ cls := "TwinRegisterLaw", name := "devices", desc := "(LTwinRegister;II)I" } : Jvm.MethodName) method_18_code (5 : Nat) (Option.some Jvm.ClassFile.FieldType.int) [((0 : Nat), (7 : Nat), (10 : Nat), (14 : Nat)), ((0 : Nat), (7 : Nat), (15 : Nat), (16 : Nat))]) ∈ ag_all := ag_in 563 (by decide +kernel) (by decide +kernel)
theorem m_564 : (Jvm.Cond.methodLink "TwinRegisterLaw" (64 : Nat) ({ cls := "TwinRegister", name := "devices", desc := "(II)I" } : Jvm.MethodName)) ∈ ag_all := ag_in 564 (by decide +kernel) (by decide +kernel)
theorem m_565 : (Jvm.Cond.instanceMethod ({ cls := "TwinRegister", name := "devices", desc := "(II)I" } : Jvm.MethodName)) ∈ ag_all := ag_in 565 (by decide +kernel) (by decide +kernel)
theorem m_566 : (Jvm.Cond.selects "TwinRegister" ({ cls := "TwinRegister", name := "devices", desc := "(II)I" } : Jvm.MethodName) ({ cls := "TwinRegister", name := "devices", desc := "(II)I" } : Jvm.MethodName)) ∈ ag_all := ag_in 566 (by decide +kernel) (by decide +kernel)
theorem m_567 : (Jvm.Cond.code ({ cls := "TwinRegister", name := "devices", desc := "(II)I" } : Jvm.MethodName) prog_1_method_24_code (4 : Nat) (Option.some Jvm.ClassFile.FieldType.int)) ∈ ag_all := ag_in 567 (by decide +kernel) (by decide +kernel)
theorem m_568 : (Jvm.Cond.methodLink "TwinRegisterLaw" (158 : Nat) ({ cls := "TwinRegister", name := "jobs", desc := "()I" } : Jvm.MethodName)) ∈ ag_all := ag_in 568 (by decide +kernel) (by decide +kernel)
theorem m_569 : (Jvm.Cond.instanceMethod ({ cls := "TwinRegister", name := "jobs", desc := "()I" } : Jvm.MethodName)) ∈ ag_all := ag_in 569 (by decide +kernel) (by decide +kernel)
theorem m_570 : (Jvm.Cond.selects "TwinRegister" ({ cls := "TwinRegister", name := "jobs", desc := "()I" } : Jvm.MethodName) ({ cls := "TwinRegister", name := "jobs", desc := "()I" } : Jvm.MethodName)) ∈ ag_all := ag_in 570 (by decide +kernel) (by decide +kernel)
theorem m_571 : (Jvm.Cond.code ({ cls := "TwinRegister", name := "jobs", desc := "()I" } : Jvm.MethodName) prog_1_method_22_code (1 : Nat) (Option.some Jvm.ClassFile.FieldType.int)) ∈ ag_all := ag_in 571 (by decide +kernel) (by decide +kernel)
theorem m_572 : (Jvm.Cond.constant "TwinRegisterLaw" (162 : Nat) (202752 : Int32)) ∈ ag_all := ag_in 572 (by decide +kernel) (by decide +kernel)
theorem m_573 : (Jvm.Cond.sameMethod "java/lang/Throwable" "java/lang/Throwable" "fillInStackTrace" "(I)Ljava/lang/Throwable;") ∈ ag_all := ag_in 573 (by decide +kernel) (by decide +kernel)
