/-! ===== numbers, bools, bits ===== -/
def b2i (b : Bool) : Int32 := match b with
  | true => 1
  | false => 0
theorem b2i_01 (b : Bool) : b2i b = 0 ∨ b2i b = 1 := by cases b <;> simp [b2i]
theorem b2i_t {b : Bool} (h : b = true) : b2i b = 1 := by rw [h]; rfl
theorem b2i_f {b : Bool} (h : b = false) : b2i b = 0 := by rw [h]; rfl
theorem b2i_0 {b : Bool} (h : b2i b = 0) : b = false := by cases b with
  | false => rfl
  | true => exact absurd h (by decide)
theorem b2i_n {b : Bool} (h : ¬ b2i b = 0) : b = true := by cases b with
  | true => rfl
  | false => exact absurd rfl h
/-- x is one of 0 .. n-1 -/
def inR (x : Int32) (n : Nat) : Prop := ∃ k : Nat, k < n ∧ x = nI k
theorem inR_lt {x : Int32} {n : Nat} (hn : n < 2 ^ 31) (h1 : ¬ x < 0) (h2 : x < nI n) : inR x n := by
  obtain ⟨j, hj, rfl⟩ := nI_of h1
  exact ⟨j, (nI_ltI hj hn).mp h2, rfl⟩
theorem inR_nle {x : Int32} {n : Nat} (hn : n < 2 ^ 31) (h1 : ¬ x < 0) (h2 : ¬ nI n ≤ x) : inR x n := by
  obtain ⟨j, hj, rfl⟩ := nI_of h1
  refine ⟨j, ?_, rfl⟩
  have h3 : ¬ n ≤ j := fun q => h2 ((nI_leI hn hj).mpr q)
  omega
theorem inR_no0 {x : Int32} {n : Nat} (hn : n < 2 ^ 31) (h : x < 0) : ¬ inR x n := by
  rintro ⟨k, hk, rfl⟩
  exact nI_pos (by omega) h
theorem inR_no1 {x : Int32} {n : Nat} (hn : n < 2 ^ 31) (h : nI n ≤ x) : ¬ inR x n := by
  rintro ⟨k, hk, rfl⟩
  exact absurd ((nI_leI hn (by omega)).mp h) (by omega)
theorem inR_no2 {x : Int32} {n : Nat} (hn : n < 2 ^ 31) (h : ¬ x < nI n) : ¬ inR x n := by
  rintro ⟨k, hk, rfl⟩
  exact h ((nI_ltI (by omega) hn).mpr hk)
theorem inR_0 {x : Int32} {n : Nat} (hn : n < 2 ^ 31) (h : inR x n) : ¬ x < 0 := by
  obtain ⟨k, hk, rfl⟩ := h
  exact nI_pos (by omega)
theorem inR_nI {k n : Nat} (hk : k < n) : inR (nI k) n := ⟨k, hk, rfl⟩
/-- the bit of place k -/
def bitI (k : Nat) : Int32 := (1 : Int32) <<< (nI k &&& 31)
section BOOLS
variable {p : Program} {l : Launch} {e : Env} {R : Room} {s : State} {m : MethodId} {args : Array Value} {below : List Frame} {meth : Method} {c : Code} {Q : State → Prop} {D : va_G} {cs : Nat → ClassId} {ad : Nat → Nat} {A : Nat → Prop} {nL : Nat} {cc : ByteArray} {own : String} {cells slots : Nat} {pc : Nat} {lv : List (Nat × Value)} {stk : List Value} {st mt : Nat → Nat → Int32} {ov : Nat → Int64}
theorem w_ifb_eq (C : Cx p s m args meth c D cs ad A cc nL own) {off : Int} {b : Bool} (tgt : Nat) (d : decode cc pc = .ok (.ifCond .eq off, 3)) (ht : (pc : Int) + off = (tgt : Int)) (kt : b = false → Wg p l e R s m args below meth c Q D cs ad A nL cells slots tgt lv stk st mt ov) (kf : b = true → Wg p l e R s m args below meth c Q D cs ad A nL cells slots (pc + 3) lv stk st mt ov) : Wg p l e R s m args below meth c Q D cs ad A nL cells slots pc lv (.int (b2i b) :: stk) st mt ov :=
  w_if_eq C tgt d ht (fun h => kt (b2i_0 h)) (fun h => kf (b2i_n h))
theorem w_ifb_ne (C : Cx p s m args meth c D cs ad A cc nL own) {off : Int} {b : Bool} (tgt : Nat) (d : decode cc pc = .ok (.ifCond .ne off, 3)) (ht : (pc : Int) + off = (tgt : Int)) (kt : b = true → Wg p l e R s m args below meth c Q D cs ad A nL cells slots tgt lv stk st mt ov) (kf : b = false → Wg p l e R s m args below meth c Q D cs ad A nL cells slots (pc + 3) lv stk st mt ov) : Wg p l e R s m args below meth c Q D cs ad A nL cells slots pc lv (.int (b2i b) :: stk) st mt ov :=
  w_if_ne C tgt d ht (fun h => kt (b2i_n h)) (fun h => kf (b2i_0 h))
end BOOLS
theorem hd_T_init : y_T_init.cls ≠ "java/lang/invoke/MethodHandle" ∧ y_T_init.cls ≠ "java/lang/invoke/VarHandle" ∧ (parseMethodDescriptor y_T_init.desc).map (fun d => d.parameters.length) = some 0 := by decide +kernel
theorem hd_F_init : y_F_init.cls ≠ "java/lang/invoke/MethodHandle" ∧ y_F_init.cls ≠ "java/lang/invoke/VarHandle" ∧ (parseMethodDescriptor y_F_init.desc).map (fun d => d.parameters.length) = some 0 := by decide +kernel
theorem hd_D_init : y_D_init.cls ≠ "java/lang/invoke/MethodHandle" ∧ y_D_init.cls ≠ "java/lang/invoke/VarHandle" ∧ (parseMethodDescriptor y_D_init.desc).map (fun d => d.parameters.length) = some 0 := by decide +kernel
theorem hd_G_init : y_G_init.cls ≠ "java/lang/invoke/MethodHandle" ∧ y_G_init.cls ≠ "java/lang/invoke/VarHandle" ∧ (parseMethodDescriptor y_G_init.desc).map (fun d => d.parameters.length) = some 0 := by decide +kernel
theorem hd_J_init : y_J_init.cls ≠ "java/lang/invoke/MethodHandle" ∧ y_J_init.cls ≠ "java/lang/invoke/VarHandle" ∧ (parseMethodDescriptor y_J_init.desc).map (fun d => d.parameters.length) = some 0 := by decide +kernel
theorem hd_L_cell : y_L_cell.cls ≠ "java/lang/invoke/MethodHandle" ∧ y_L_cell.cls ≠ "java/lang/invoke/VarHandle" ∧ (parseMethodDescriptor y_L_cell.desc).map (fun d => d.parameters.length) = some 2 := by decide +kernel
theorem hd_L_low : y_L_low.cls ≠ "java/lang/invoke/MethodHandle" ∧ y_L_low.cls ≠ "java/lang/invoke/VarHandle" ∧ (parseMethodDescriptor y_L_low.desc).map (fun d => d.parameters.length) = some 2 := by decide +kernel
theorem hd_L_empty : y_L_empty.cls ≠ "java/lang/invoke/MethodHandle" ∧ y_L_empty.cls ≠ "java/lang/invoke/VarHandle" ∧ (parseMethodDescriptor y_L_empty.desc).map (fun d => d.parameters.length) = some 1 := by decide +kernel
theorem hd_L_talks : y_L_talks.cls ≠ "java/lang/invoke/MethodHandle" ∧ y_L_talks.cls ≠ "java/lang/invoke/VarHandle" ∧ (parseMethodDescriptor y_L_talks.desc).map (fun d => d.parameters.length) = some 9 := by decide +kernel
theorem hd_L_put : y_L_put.cls ≠ "java/lang/invoke/MethodHandle" ∧ y_L_put.cls ≠ "java/lang/invoke/VarHandle" ∧ (parseMethodDescriptor y_L_put.desc).map (fun d => d.parameters.length) = some 3 := by decide +kernel
theorem hd_T_put : y_T_put.cls ≠ "java/lang/invoke/MethodHandle" ∧ y_T_put.cls ≠ "java/lang/invoke/VarHandle" ∧ (parseMethodDescriptor y_T_put.desc).map (fun d => d.parameters.length) = some 2 := by decide +kernel
theorem hd_T_requireLeaf : y_T_requireLeaf.cls ≠ "java/lang/invoke/MethodHandle" ∧ y_T_requireLeaf.cls ≠ "java/lang/invoke/VarHandle" ∧ (parseMethodDescriptor y_T_requireLeaf.desc).map (fun d => d.parameters.length) = some 1 := by decide +kernel
theorem hd_T_requireInRange : y_T_requireInRange.cls ≠ "java/lang/invoke/MethodHandle" ∧ y_T_requireInRange.cls ≠ "java/lang/invoke/VarHandle" ∧ (parseMethodDescriptor y_T_requireInRange.desc).map (fun d => d.parameters.length) = some 3 := by decide +kernel
theorem hd_F_assign : y_F_assign.cls ≠ "java/lang/invoke/MethodHandle" ∧ y_F_assign.cls ≠ "java/lang/invoke/VarHandle" ∧ (parseMethodDescriptor y_F_assign.desc).map (fun d => d.parameters.length) = some 2 := by decide +kernel
theorem hd_F_count : y_F_count.cls ≠ "java/lang/invoke/MethodHandle" ∧ y_F_count.cls ≠ "java/lang/invoke/VarHandle" ∧ (parseMethodDescriptor y_F_count.desc).map (fun d => d.parameters.length) = some 0 := by decide +kernel
theorem hd_I_bitCount : y_I_bitCount.cls ≠ "java/lang/invoke/MethodHandle" ∧ y_I_bitCount.cls ≠ "java/lang/invoke/VarHandle" ∧ (parseMethodDescriptor y_I_bitCount.desc).map (fun d => d.parameters.length) = some 1 := by decide +kernel
theorem hd_L_drafted : y_L_drafted.cls ≠ "java/lang/invoke/MethodHandle" ∧ y_L_drafted.cls ≠ "java/lang/invoke/VarHandle" ∧ (parseMethodDescriptor y_L_drafted.desc).map (fun d => d.parameters.length) = some 1 := by decide +kernel
theorem hd_L_drop : y_L_drop.cls ≠ "java/lang/invoke/MethodHandle" ∧ y_L_drop.cls ≠ "java/lang/invoke/VarHandle" ∧ (parseMethodDescriptor y_L_drop.desc).map (fun d => d.parameters.length) = some 2 := by decide +kernel
theorem hd_T_drop : y_T_drop.cls ≠ "java/lang/invoke/MethodHandle" ∧ y_T_drop.cls ≠ "java/lang/invoke/VarHandle" ∧ (parseMethodDescriptor y_T_drop.desc).map (fun d => d.parameters.length) = some 1 := by decide +kernel
theorem hd_L_wish : y_L_wish.cls ≠ "java/lang/invoke/MethodHandle" ∧ y_L_wish.cls ≠ "java/lang/invoke/VarHandle" ∧ (parseMethodDescriptor y_L_wish.desc).map (fun d => d.parameters.length) = some 3 := by decide +kernel
theorem hd_T_wish : y_T_wish.cls ≠ "java/lang/invoke/MethodHandle" ∧ y_T_wish.cls ≠ "java/lang/invoke/VarHandle" ∧ (parseMethodDescriptor y_T_wish.desc).map (fun d => d.parameters.length) = some 2 := by decide +kernel
theorem hd_T_deviceAt : y_T_deviceAt.cls ≠ "java/lang/invoke/MethodHandle" ∧ y_T_deviceAt.cls ≠ "java/lang/invoke/VarHandle" ∧ (parseMethodDescriptor y_T_deviceAt.desc).map (fun d => d.parameters.length) = some 1 := by decide +kernel
theorem hd_T_mergeWish : y_T_mergeWish.cls ≠ "java/lang/invoke/MethodHandle" ∧ y_T_mergeWish.cls ≠ "java/lang/invoke/VarHandle" ∧ (parseMethodDescriptor y_T_mergeWish.desc).map (fun d => d.parameters.length) = some 1 := by decide +kernel
theorem hd_F_has : y_F_has.cls ≠ "java/lang/invoke/MethodHandle" ∧ y_F_has.cls ≠ "java/lang/invoke/VarHandle" ∧ (parseMethodDescriptor y_F_has.desc).map (fun d => d.parameters.length) = some 1 := by decide +kernel
theorem hd_D_takeWish : y_D_takeWish.cls ≠ "java/lang/invoke/MethodHandle" ∧ y_D_takeWish.cls ≠ "java/lang/invoke/VarHandle" ∧ (parseMethodDescriptor y_D_takeWish.desc).map (fun d => d.parameters.length) = some 2 := by decide +kernel
theorem hd_D_keepDifference : y_D_keepDifference.cls ≠ "java/lang/invoke/MethodHandle" ∧ y_D_keepDifference.cls ≠ "java/lang/invoke/VarHandle" ∧ (parseMethodDescriptor y_D_keepDifference.desc).map (fun d => d.parameters.length) = some 1 := by decide +kernel
theorem hd_D_comparesUnlike : y_D_comparesUnlike.cls ≠ "java/lang/invoke/MethodHandle" ∧ y_D_comparesUnlike.cls ≠ "java/lang/invoke/VarHandle" ∧ (parseMethodDescriptor y_D_comparesUnlike.desc).map (fun d => d.parameters.length) = some 1 := by decide +kernel
theorem hd_F_empty : y_F_empty.cls ≠ "java/lang/invoke/MethodHandle" ∧ y_F_empty.cls ≠ "java/lang/invoke/VarHandle" ∧ (parseMethodDescriptor y_F_empty.desc).map (fun d => d.parameters.length) = some 0 := by decide +kernel
theorem hd_L_report : y_L_report.cls ≠ "java/lang/invoke/MethodHandle" ∧ y_L_report.cls ≠ "java/lang/invoke/VarHandle" ∧ (parseMethodDescriptor y_L_report.desc).map (fun d => d.parameters.length) = some 3 := by decide +kernel
theorem hd_T_report : y_T_report.cls ≠ "java/lang/invoke/MethodHandle" ∧ y_T_report.cls ≠ "java/lang/invoke/VarHandle" ∧ (parseMethodDescriptor y_T_report.desc).map (fun d => d.parameters.length) = some 2 := by decide +kernel
theorem hd_T_requireAwake : y_T_requireAwake.cls ≠ "java/lang/invoke/MethodHandle" ∧ y_T_requireAwake.cls ≠ "java/lang/invoke/VarHandle" ∧ (parseMethodDescriptor y_T_requireAwake.desc).map (fun d => d.parameters.length) = some 1 := by decide +kernel
theorem hd_T_mergeReport : y_T_mergeReport.cls ≠ "java/lang/invoke/MethodHandle" ∧ y_T_mergeReport.cls ≠ "java/lang/invoke/VarHandle" ∧ (parseMethodDescriptor y_T_mergeReport.desc).map (fun d => d.parameters.length) = some 1 := by decide +kernel
theorem hd_D_takeReport : y_D_takeReport.cls ≠ "java/lang/invoke/MethodHandle" ∧ y_D_takeReport.cls ≠ "java/lang/invoke/VarHandle" ∧ (parseMethodDescriptor y_D_takeReport.desc).map (fun d => d.parameters.length) = some 2 := by decide +kernel
theorem hd_L_differing : y_L_differing.cls ≠ "java/lang/invoke/MethodHandle" ∧ y_L_differing.cls ≠ "java/lang/invoke/VarHandle" ∧ (parseMethodDescriptor y_L_differing.desc).map (fun d => d.parameters.length) = some 2 := by decide +kernel
theorem hd_L_wishedOf : y_L_wishedOf.cls ≠ "java/lang/invoke/MethodHandle" ∧ y_L_wishedOf.cls ≠ "java/lang/invoke/VarHandle" ∧ (parseMethodDescriptor y_L_wishedOf.desc).map (fun d => d.parameters.length) = some 1 := by decide +kernel
theorem hd_L_reportedOf : y_L_reportedOf.cls ≠ "java/lang/invoke/MethodHandle" ∧ y_L_reportedOf.cls ≠ "java/lang/invoke/VarHandle" ∧ (parseMethodDescriptor y_L_reportedOf.desc).map (fun d => d.parameters.length) = some 1 := by decide +kernel
theorem hd_L_many : y_L_many.cls ≠ "java/lang/invoke/MethodHandle" ∧ y_L_many.cls ≠ "java/lang/invoke/VarHandle" ∧ (parseMethodDescriptor y_L_many.desc).map (fun d => d.parameters.length) = some 1 := by decide +kernel
theorem hd_L_obey : y_L_obey.cls ≠ "java/lang/invoke/MethodHandle" ∧ y_L_obey.cls ≠ "java/lang/invoke/VarHandle" ∧ (parseMethodDescriptor y_L_obey.desc).map (fun d => d.parameters.length) = some 2 := by decide +kernel
theorem hd_T_obey : y_T_obey.cls ≠ "java/lang/invoke/MethodHandle" ∧ y_T_obey.cls ≠ "java/lang/invoke/VarHandle" ∧ (parseMethodDescriptor y_T_obey.desc).map (fun d => d.parameters.length) = some 1 := by decide +kernel
theorem hd_D_differsAt : y_D_differsAt.cls ≠ "java/lang/invoke/MethodHandle" ∧ y_D_differsAt.cls ≠ "java/lang/invoke/VarHandle" ∧ (parseMethodDescriptor y_D_differsAt.desc).map (fun d => d.parameters.length) = some 1 := by decide +kernel
theorem hd_L_refuse : y_L_refuse.cls ≠ "java/lang/invoke/MethodHandle" ∧ y_L_refuse.cls ≠ "java/lang/invoke/VarHandle" ∧ (parseMethodDescriptor y_L_refuse.desc).map (fun d => d.parameters.length) = some 4 := by decide +kernel
theorem hd_T_refuse : y_T_refuse.cls ≠ "java/lang/invoke/MethodHandle" ∧ y_T_refuse.cls ≠ "java/lang/invoke/VarHandle" ∧ (parseMethodDescriptor y_T_refuse.desc).map (fun d => d.parameters.length) = some 3 := by decide +kernel
theorem hd_D_takeRefusal : y_D_takeRefusal.cls ≠ "java/lang/invoke/MethodHandle" ∧ y_D_takeRefusal.cls ≠ "java/lang/invoke/VarHandle" ∧ (parseMethodDescriptor y_D_takeRefusal.desc).map (fun d => d.parameters.length) = some 2 := by decide +kernel
theorem hd_L_sleep : y_L_sleep.cls ≠ "java/lang/invoke/MethodHandle" ∧ y_L_sleep.cls ≠ "java/lang/invoke/VarHandle" ∧ (parseMethodDescriptor y_L_sleep.desc).map (fun d => d.parameters.length) = some 2 := by decide +kernel
theorem hd_T_sleep : y_T_sleep.cls ≠ "java/lang/invoke/MethodHandle" ∧ y_T_sleep.cls ≠ "java/lang/invoke/VarHandle" ∧ (parseMethodDescriptor y_T_sleep.desc).map (fun d => d.parameters.length) = some 1 := by decide +kernel
theorem hd_L_wake : y_L_wake.cls ≠ "java/lang/invoke/MethodHandle" ∧ y_L_wake.cls ≠ "java/lang/invoke/VarHandle" ∧ (parseMethodDescriptor y_L_wake.desc).map (fun d => d.parameters.length) = some 2 := by decide +kernel
theorem hd_T_wake : y_T_wake.cls ≠ "java/lang/invoke/MethodHandle" ∧ y_T_wake.cls ≠ "java/lang/invoke/VarHandle" ∧ (parseMethodDescriptor y_T_wake.desc).map (fun d => d.parameters.length) = some 1 := by decide +kernel
theorem hd_D_heardVersion : y_D_heardVersion.cls ≠ "java/lang/invoke/MethodHandle" ∧ y_D_heardVersion.cls ≠ "java/lang/invoke/VarHandle" ∧ (parseMethodDescriptor y_D_heardVersion.desc).map (fun d => d.parameters.length) = some 0 := by decide +kernel
theorem hd_L_works : y_L_works.cls ≠ "java/lang/invoke/MethodHandle" ∧ y_L_works.cls ≠ "java/lang/invoke/VarHandle" ∧ (parseMethodDescriptor y_L_works.desc).map (fun d => d.parameters.length) = some 11 := by decide +kernel
theorem hd_L_setGroup : y_L_setGroup.cls ≠ "java/lang/invoke/MethodHandle" ∧ y_L_setGroup.cls ≠ "java/lang/invoke/VarHandle" ∧ (parseMethodDescriptor y_L_setGroup.desc).map (fun d => d.parameters.length) = some 5 := by decide +kernel
theorem hd_T_setGroup : y_T_setGroup.cls ≠ "java/lang/invoke/MethodHandle" ∧ y_T_setGroup.cls ≠ "java/lang/invoke/VarHandle" ∧ (parseMethodDescriptor y_T_setGroup.desc).map (fun d => d.parameters.length) = some 4 := by decide +kernel
theorem hd_T_groupAt : y_T_groupAt.cls ≠ "java/lang/invoke/MethodHandle" ∧ y_T_groupAt.cls ≠ "java/lang/invoke/VarHandle" ∧ (parseMethodDescriptor y_T_groupAt.desc).map (fun d => d.parameters.length) = some 1 := by decide +kernel
theorem hd_T_requireGroup : y_T_requireGroup.cls ≠ "java/lang/invoke/MethodHandle" ∧ y_T_requireGroup.cls ≠ "java/lang/invoke/VarHandle" ∧ (parseMethodDescriptor y_T_requireGroup.desc).map (fun d => d.parameters.length) = some 1 := by decide +kernel
theorem hd_T_membersOf : y_T_membersOf.cls ≠ "java/lang/invoke/MethodHandle" ∧ y_T_membersOf.cls ≠ "java/lang/invoke/VarHandle" ∧ (parseMethodDescriptor y_T_membersOf.desc).map (fun d => d.parameters.length) = some 1 := by decide +kernel
theorem hd_G_admits : y_G_admits.cls ≠ "java/lang/invoke/MethodHandle" ∧ y_G_admits.cls ≠ "java/lang/invoke/VarHandle" ∧ (parseMethodDescriptor y_G_admits.desc).map (fun d => d.parameters.length) = some 1 := by decide +kernel
theorem hd_L_members : y_L_members.cls ≠ "java/lang/invoke/MethodHandle" ∧ y_L_members.cls ≠ "java/lang/invoke/VarHandle" ∧ (parseMethodDescriptor y_L_members.desc).map (fun d => d.parameters.length) = some 3 := by decide +kernel
theorem hd_L_addJob : y_L_addJob.cls ≠ "java/lang/invoke/MethodHandle" ∧ y_L_addJob.cls ≠ "java/lang/invoke/VarHandle" ∧ (parseMethodDescriptor y_L_addJob.desc).map (fun d => d.parameters.length) = some 6 := by decide +kernel
theorem hd_T_addJob : y_T_addJob.cls ≠ "java/lang/invoke/MethodHandle" ∧ y_T_addJob.cls ≠ "java/lang/invoke/VarHandle" ∧ (parseMethodDescriptor y_T_addJob.desc).map (fun d => d.parameters.length) = some 5 := by decide +kernel
theorem hd_T_wave : y_T_wave.cls ≠ "java/lang/invoke/MethodHandle" ∧ y_T_wave.cls ≠ "java/lang/invoke/VarHandle" ∧ (parseMethodDescriptor y_T_wave.desc).map (fun d => d.parameters.length) = some 0 := by decide +kernel
theorem hd_T_advance : y_T_advance.cls ≠ "java/lang/invoke/MethodHandle" ∧ y_T_advance.cls ≠ "java/lang/invoke/VarHandle" ∧ (parseMethodDescriptor y_T_advance.desc).map (fun d => d.parameters.length) = some 1 := by decide +kernel
theorem hd_T_judgeStarted : y_T_judgeStarted.cls ≠ "java/lang/invoke/MethodHandle" ∧ y_T_judgeStarted.cls ≠ "java/lang/invoke/VarHandle" ∧ (parseMethodDescriptor y_T_judgeStarted.desc).map (fun d => d.parameters.length) = some 1 := by decide +kernel
theorem hd_J_open : y_J_open.cls ≠ "java/lang/invoke/MethodHandle" ∧ y_J_open.cls ≠ "java/lang/invoke/VarHandle" ∧ (parseMethodDescriptor y_J_open.desc).map (fun d => d.parameters.length) = some 0 := by decide +kernel
theorem hd_T_startMore : y_T_startMore.cls ≠ "java/lang/invoke/MethodHandle" ∧ y_T_startMore.cls ≠ "java/lang/invoke/VarHandle" ∧ (parseMethodDescriptor y_T_startMore.desc).map (fun d => d.parameters.length) = some 1 := by decide +kernel
theorem hd_L_waves : y_L_waves.cls ≠ "java/lang/invoke/MethodHandle" ∧ y_L_waves.cls ≠ "java/lang/invoke/VarHandle" ∧ (parseMethodDescriptor y_L_waves.desc).map (fun d => d.parameters.length) = some 7 := by decide +kernel
theorem hd_L_cancel : y_L_cancel.cls ≠ "java/lang/invoke/MethodHandle" ∧ y_L_cancel.cls ≠ "java/lang/invoke/VarHandle" ∧ (parseMethodDescriptor y_L_cancel.desc).map (fun d => d.parameters.length) = some 2 := by decide +kernel
theorem hd_T_cancel : y_T_cancel.cls ≠ "java/lang/invoke/MethodHandle" ∧ y_T_cancel.cls ≠ "java/lang/invoke/VarHandle" ∧ (parseMethodDescriptor y_T_cancel.desc).map (fun d => d.parameters.length) = some 1 := by decide +kernel
theorem hd_T_jobAt : y_T_jobAt.cls ≠ "java/lang/invoke/MethodHandle" ∧ y_T_jobAt.cls ≠ "java/lang/invoke/VarHandle" ∧ (parseMethodDescriptor y_T_jobAt.desc).map (fun d => d.parameters.length) = some 1 := by decide +kernel
theorem hd_L_state : y_L_state.cls ≠ "java/lang/invoke/MethodHandle" ∧ y_L_state.cls ≠ "java/lang/invoke/VarHandle" ∧ (parseMethodDescriptor y_L_state.desc).map (fun d => d.parameters.length) = some 2 := by decide +kernel
theorem hd_T_state : y_T_state.cls ≠ "java/lang/invoke/MethodHandle" ∧ y_T_state.cls ≠ "java/lang/invoke/VarHandle" ∧ (parseMethodDescriptor y_T_state.desc).map (fun d => d.parameters.length) = some 1 := by decide +kernel
theorem hd_L_isTold : y_L_isTold.cls ≠ "java/lang/invoke/MethodHandle" ∧ y_L_isTold.cls ≠ "java/lang/invoke/VarHandle" ∧ (parseMethodDescriptor y_L_isTold.desc).map (fun d => d.parameters.length) = some 9 := by decide +kernel
theorem hd_L_version : y_L_version.cls ≠ "java/lang/invoke/MethodHandle" ∧ y_L_version.cls ≠ "java/lang/invoke/VarHandle" ∧ (parseMethodDescriptor y_L_version.desc).map (fun d => d.parameters.length) = some 2 := by decide +kernel
theorem hd_T_version : y_T_version.cls ≠ "java/lang/invoke/MethodHandle" ∧ y_T_version.cls ≠ "java/lang/invoke/VarHandle" ∧ (parseMethodDescriptor y_T_version.desc).map (fun d => d.parameters.length) = some 1 := by decide +kernel
theorem hd_T_heard : y_T_heard.cls ≠ "java/lang/invoke/MethodHandle" ∧ y_T_heard.cls ≠ "java/lang/invoke/VarHandle" ∧ (parseMethodDescriptor y_T_heard.desc).map (fun d => d.parameters.length) = some 1 := by decide +kernel
theorem hd_T_differences : y_T_differences.cls ≠ "java/lang/invoke/MethodHandle" ∧ y_T_differences.cls ≠ "java/lang/invoke/VarHandle" ∧ (parseMethodDescriptor y_T_differences.desc).map (fun d => d.parameters.length) = some 1 := by decide +kernel
theorem hd_T_differencesAnew : y_T_differencesAnew.cls ≠ "java/lang/invoke/MethodHandle" ∧ y_T_differencesAnew.cls ≠ "java/lang/invoke/VarHandle" ∧ (parseMethodDescriptor y_T_differencesAnew.desc).map (fun d => d.parameters.length) = some 1 := by decide +kernel
theorem hd_L_wished : y_L_wished.cls ≠ "java/lang/invoke/MethodHandle" ∧ y_L_wished.cls ≠ "java/lang/invoke/VarHandle" ∧ (parseMethodDescriptor y_L_wished.desc).map (fun d => d.parameters.length) = some 3 := by decide +kernel
theorem hd_T_wished : y_T_wished.cls ≠ "java/lang/invoke/MethodHandle" ∧ y_T_wished.cls ≠ "java/lang/invoke/VarHandle" ∧ (parseMethodDescriptor y_T_wished.desc).map (fun d => d.parameters.length) = some 2 := by decide +kernel
theorem hd_T_reported : y_T_reported.cls ≠ "java/lang/invoke/MethodHandle" ∧ y_T_reported.cls ≠ "java/lang/invoke/VarHandle" ∧ (parseMethodDescriptor y_T_reported.desc).map (fun d => d.parameters.length) = some 2 := by decide +kernel
theorem hd_T_why : y_T_why.cls ≠ "java/lang/invoke/MethodHandle" ∧ y_T_why.cls ≠ "java/lang/invoke/VarHandle" ∧ (parseMethodDescriptor y_T_why.desc).map (fun d => d.parameters.length) = some 2 := by decide +kernel
theorem hd_T_members : y_T_members.cls ≠ "java/lang/invoke/MethodHandle" ∧ y_T_members.cls ≠ "java/lang/invoke/VarHandle" ∧ (parseMethodDescriptor y_T_members.desc).map (fun d => d.parameters.length) = some 1 := by decide +kernel
theorem hd_L_devices : y_L_devices.cls ≠ "java/lang/invoke/MethodHandle" ∧ y_L_devices.cls ≠ "java/lang/invoke/VarHandle" ∧ (parseMethodDescriptor y_L_devices.desc).map (fun d => d.parameters.length) = some 3 := by decide +kernel
theorem hd_T_devices : y_T_devices.cls ≠ "java/lang/invoke/MethodHandle" ∧ y_T_devices.cls ≠ "java/lang/invoke/VarHandle" ∧ (parseMethodDescriptor y_T_devices.desc).map (fun d => d.parameters.length) = some 2 := by decide +kernel
theorem hd_T_jobs : y_T_jobs.cls ≠ "java/lang/invoke/MethodHandle" ∧ y_T_jobs.cls ≠ "java/lang/invoke/VarHandle" ∧ (parseMethodDescriptor y_T_jobs.desc).map (fun d => d.parameters.length) = some 0 := by decide +kernel
set_option maxRecDepth 20000 in
theorem hat_O : (vx_atS "TwinRegister" 61 xO ["java/lang/RuntimeException", "java/lang/Exception"]).all (fun w => decide (w ∈ ag_all) || decide (w ∈ ax_all)) = true := by decide +kernel
set_option maxRecDepth 20000 in
theorem hat_A : (vx_atS "TwinRegister" 210 xA ["java/lang/RuntimeException", "java/lang/Exception"]).all (fun w => decide (w ∈ ag_all) || decide (w ∈ ax_all)) = true := by decide +kernel
set_option maxRecDepth 20000 in
theorem hat_S : (vx_atS "TwinRegister" 72 xS ["java/lang/RuntimeException", "java/lang/Exception"]).all (fun w => decide (w ∈ ag_all) || decide (w ∈ ax_all)) = true := by decide +kernel
theorem hfit : ∀ n ∈ ["java/lang/RuntimeException", "java/lang/Exception"], Bundle.fit n = true := by decide +kernel
