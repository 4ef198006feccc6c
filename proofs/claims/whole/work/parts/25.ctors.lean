/-! ===== the constructors ===== -/
def neg (j : Nat) : Nat → Int32 := fun k => if k < j then -1 else 0
theorem neg_0 : neg 0 = fun _ => 0 := by
  funext k
  simp [neg]
theorem neg_s (j : Nat) : upd (neg j) j (-1) = neg (j + 1) := by
  funext k
  unfold upd neg
  by_cases h : k = j
  · subst h
    simp
  · by_cases h2 : k < j
    · simp [h, h2, Nat.lt_succ_of_lt h2]
    · have h3 : ¬ k < j + 1 := by omega
      simp [h, h2, h3]
theorem zro_s (j : Nat) : upd (fun _ => (0 : Int32)) j 0 = fun _ => 0 := by
  funext k
  unfold upd
  simp
def fE (base : Nat) (cs : Nat → ClassId) (E : Nat → va_E) (n : Nat) : Nat → va_E := fun i => if i = n then .inr (1, [.ref (base + (n + 1)), .int 0]) else if i = n + 1 then .inl (cs 0, 12, .inl (fun _ => 0)) else E i
def dE (base : Nat) (cs : Nat → ClassId) (E : Nat → va_E) (n j : Nat) : Nat → va_E := fun i => if i = n then .inr (2, [.ref (base + (n + 1)), .ref (base + (n + 2)), .ref (base + (n + 3)), .int 0, .int 0, .int 0, .int 0, .int 0]) else if i = n + 1 then .inl (cs 0, 12, .inl (neg j)) else if i = n + 2 then .inl (cs 0, 12, .inl (neg j)) else if i = n + 3 then .inl (cs 0, 12, .inl (fun _ => 0)) else E i
def oE (ci : Nat) (fs : List Value) (E : Nat → va_E) (n : Nat) : Nat → va_E := fun i => if i = n then .inr (ci, fs) else E i
set_option maxHeartbeats 4000000 in
set_option maxRecDepth 100000 in
theorem c_F_init {l : Launch} {D : va_G} {cs : Nat → ClassId} {base n : Nat} {E : Nat → va_E} (he : E n = .inr (1, [.null, .int 0])) : kM l y_F_init b_F_init 1 ({ frames := 1, cells := 1, slots := 12, locals := 30 } : Room) 1 12 [.ref (base + n)] D cs base (n + 1) E (fun u => u = (n + 2, fE base cs E n)) := by
  refine kM_of (own := "TwinRegister$Draft") (by decide +kernel) rfl (Nat.le_of_ble_eq_true rfl) ?_
  intro p e s m args below meth c C hr hm hz hA
  refine k_lv (lv2 := [(0, .ref (base + n))]) [0] rfl ?_
  refine k_aload_n C 0 d_F_init_0 rfl rfl ?_
  refine k_objInit C m_62 m_55 m_56 ⟨Nat.le_of_ble_eq_true rfl, Nat.le_of_ble_eq_true rfl⟩ d_F_init_1 ?_
  refine k_aload_n C 0 d_F_init_4 rfl rfl ?_
  refine k_bipush (v := 12) C d_F_init_5 rfl ?_
  refine k_newa (t0 := 0) (N := 12) (a0 := (12, .inl (fun _ => 0))) C m_71 rfl rfl (fun _ => rfl) ⟨by decide, by decide⟩ (by decide) (by omega) ⟨Nat.le_of_ble_eq_true rfl, Nat.le_of_ble_eq_true rfl⟩ d_F_init_7 ?_
  refine k_put (ci := 1) (fs := [.null, .int 0]) (v := (.ref (base + (n + 1)))) C n 0 i_F ft_F ft_F_ok n_F rfl (by omega) (by simp [va_up, Nat.add_assoc, he]) (by decide) m_63 rfl rfl ⟨rfl, rfl⟩ (Nat.le_of_ble_eq_true rfl) (Or.inr ⟨rfl, hm, rfl⟩) d_F_init_9 ?_
  refine k_aload_n C 0 d_F_init_12 rfl rfl ?_
  refine k_iconst (v := 0) C d_F_init_13 rfl ?_
  refine k_put (ci := 1) (fs := [.ref (base + (n + 1)), .int 0]) (v := (.int 0)) C n 1 i_F ft_F ft_F_ok n_F rfl (by omega) (by simp [va_up, Nat.add_assoc, he]) (by decide) m_65 rfl rfl ⟨rfl, rfl⟩ (Nat.le_of_ble_eq_true rfl) (Or.inl rfl) d_F_init_14 ?_
  refine k_E (E2 := fE base cs E n) (fun i hi => ?_) ?_
  · simp only [va_up, fE, List.set]
    repeat' split
    all_goals first | rfl | omega
  exact k_vret C hr d_F_init_17 rfl
set_option maxHeartbeats 4000000 in
set_option maxRecDepth 100000 in
theorem c_G_init {l : Launch} {D : va_G} {cs : Nat → ClassId} {base n : Nat} {E : Nat → va_E} (he : E n = .inr (3, [.int 0, .int 0, .int 0])) : kM l y_G_init b_G_init 1 ({ frames := 1, cells := 0, slots := 0, locals := 30 } : Room) 0 0 [.ref (base + n)] D cs base (n + 1) E (fun u => u = (n + 1, oE 3 [.int 0, .int 0, .int 99] E n)) := by
  refine kM_of (own := "TwinRegister$Group") (by decide +kernel) rfl (Nat.le_of_ble_eq_true rfl) ?_
  intro p e s m args below meth c C hr hm hz hA
  refine k_lv (lv2 := [(0, .ref (base + n))]) [0] rfl ?_
  refine k_aload_n C 0 d_G_init_0 rfl rfl ?_
  refine k_objInit C m_118 m_55 m_56 ⟨Nat.le_of_ble_eq_true rfl, Nat.le_of_ble_eq_true rfl⟩ d_G_init_1 ?_
  refine k_aload_n C 0 d_G_init_4 rfl rfl ?_
  refine k_iconst (v := 0) C d_G_init_5 rfl ?_
  refine k_put (ci := 3) (fs := [.int 0, .int 0, .int 0]) (v := (.int 0)) C n 0 i_G ft_G ft_G_ok n_G rfl (by omega) (by simp [va_up, Nat.add_assoc, he]) (by decide) m_119 rfl rfl ⟨rfl, rfl⟩ (Nat.le_of_ble_eq_true rfl) (Or.inl rfl) d_G_init_6 ?_
  refine k_aload_n C 0 d_G_init_9 rfl rfl ?_
  refine k_iconst (v := 0) C d_G_init_10 rfl ?_
  refine k_put (ci := 3) (fs := [.int 0, .int 0, .int 0]) (v := (.int 0)) C n 1 i_G ft_G ft_G_ok n_G rfl (by omega) (by simp [va_up, Nat.add_assoc, he]) (by decide) m_121 rfl rfl ⟨rfl, rfl⟩ (Nat.le_of_ble_eq_true rfl) (Or.inl rfl) d_G_init_11 ?_
  refine k_aload_n C 0 d_G_init_14 rfl rfl ?_
  refine k_bipush (v := 99) C d_G_init_15 rfl ?_
  refine k_put (ci := 3) (fs := [.int 0, .int 0, .int 0]) (v := (.int 99)) C n 2 i_G ft_G ft_G_ok n_G rfl (by omega) (by simp [va_up, Nat.add_assoc, he]) (by decide) m_123 rfl rfl ⟨rfl, rfl⟩ (Nat.le_of_ble_eq_true rfl) (Or.inl rfl) d_G_init_17 ?_
  refine k_E (E2 := oE 3 [.int 0, .int 0, .int 99] E n) (fun i hi => ?_) ?_
  · simp only [va_up, oE, List.set]
    repeat' split
    all_goals first | rfl | omega
  exact k_vret C hr d_G_init_20 rfl
set_option maxHeartbeats 4000000 in
set_option maxRecDepth 100000 in
theorem c_J_init {l : Launch} {D : va_G} {cs : Nat → ClassId} {base n : Nat} {E : Nat → va_E} (he : E n = .inr (4, [.int 0, .int 0, .int 0, .int 0, .int 0, .int 0, .int 0, .int 0, .int 0])) : kM l y_J_init b_J_init 1 ({ frames := 1, cells := 0, slots := 0, locals := 30 } : Room) 0 0 [.ref (base + n)] D cs base (n + 1) E (fun u => u = (n + 1, oE 4 [.int 0, .int 0, .int 0, .int 0, .int 0, .int 0, .int 0, .int 0, .int 0] E n)) := by
  refine kM_of (own := "TwinRegister$Job") (by decide +kernel) rfl (Nat.le_of_ble_eq_true rfl) ?_
  intro p e s m args below meth c C hr hm hz hA
  refine k_lv (lv2 := [(0, .ref (base + n))]) [0] rfl ?_
  refine k_aload_n C 0 d_J_init_0 rfl rfl ?_
  refine k_objInit C m_138 m_55 m_56 ⟨Nat.le_of_ble_eq_true rfl, Nat.le_of_ble_eq_true rfl⟩ d_J_init_1 ?_
  refine k_aload_n C 0 d_J_init_4 rfl rfl ?_
  refine k_iconst (v := 0) C d_J_init_5 rfl ?_
  refine k_put (ci := 4) (fs := [.int 0, .int 0, .int 0, .int 0, .int 0, .int 0, .int 0, .int 0, .int 0]) (v := (.int 0)) C n 5 i_J ft_J ft_J_ok n_J rfl (by omega) (by simp [va_up, Nat.add_assoc, he]) (by decide) m_144 rfl rfl ⟨rfl, rfl⟩ (Nat.le_of_ble_eq_true rfl) (Or.inl rfl) d_J_init_6 ?_
  refine k_E (E2 := oE 4 [.int 0, .int 0, .int 0, .int 0, .int 0, .int 0, .int 0, .int 0, .int 0] E n) (fun i hi => ?_) ?_
  · simp only [va_up, oE, List.set]
    repeat' split
    all_goals first | rfl | omega
  exact k_vret C hr d_J_init_9 rfl
set_option maxHeartbeats 4000000 in
set_option maxRecDepth 100000 in
theorem lp_D_init {l : Launch} {D : va_G} {cs : Nat → ClassId} {base n : Nat} {E : Nat → va_E} {p : Program} {e : Env} {s : State} {m : MethodId} {args : Array Value} {below : List Frame} {meth : Method} {c : Code} (C : Cx p s m args meth c D cs (kad base) (kA base) b_D_init 2 "TwinRegister$Device") (hr : meth.sig.returnType = none) {rm : Room} : ∀ f j, j + f = 12 → Kg p l e rm s m args below meth c (MQ below (kQ D base (fun u => u = (n + 4, dE base cs E n 12))) args s 3 36 (kA base)) D base 2 3 36 30 [(1, .int (nI j)), (0, .ref (base + n))] [] (n + 4) (dE base cs E n j) := by
  intro f
  induction f with
  | zero =>
    intro j hj
    have hj : j = 12 := hj
    subst hj
    refine k_iload_n C 0 d_D_init_30 rfl rfl ?_
    refine k_bipush (v := 12) C d_D_init_31 rfl ?_
    refine k_icmp_ge C 63 d_D_init_33 (by decide) (fun _ => ?_) (fun h => absurd (show (12 : Int32) ≤ nI 12 by decide) h)
    exact k_vret C hr d_D_init_63 rfl
  | succ f ih =>
    intro j hj
    refine k_iload_n C 0 d_D_init_30 rfl rfl ?_
    refine k_bipush (v := 12) C d_D_init_31 rfl ?_
    refine k_icmp_ge C 63 d_D_init_33 (by decide) (fun h => absurd ((nI_leI (a := 12) (by decide) (by omega)).mp h) (by omega)) (fun _ => ?_)
    refine k_aload_n C 1 d_D_init_36 rfl rfl ?_
    refine k_get (ci := 2) (fs := [.ref (base + (n + 1)), .ref (base + (n + 2)), .ref (base + (n + 3)), .int 0, .int 0, .int 0, .int 0, .int 0]) (v := .ref (base + (n + 1))) C n 0 i_D rfl (by omega) (by simp [va_up, dE]) (by decide) m_79 rfl rfl d_D_init_37 ?_
    refine k_iload_n C 0 d_D_init_40 rfl rfl ?_
    refine k_iconst (v := (-1)) C d_D_init_41 rfl ?_
    refine k_iast (f := neg j) (v := (-1)) (N := 12) C (n + 1) j (by omega) (by simp [va_up, dE]) rfl (by omega) (by decide) d_D_init_42 ?_
    refine k_aload_n C 1 d_D_init_43 rfl rfl ?_
    refine k_get (ci := 2) (fs := [.ref (base + (n + 1)), .ref (base + (n + 2)), .ref (base + (n + 3)), .int 0, .int 0, .int 0, .int 0, .int 0]) (v := .ref (base + (n + 2))) C n 1 i_D rfl (by omega) (by simp [va_up, dE]) (by decide) m_81 rfl rfl d_D_init_44 ?_
    refine k_iload_n C 0 d_D_init_47 rfl rfl ?_
    refine k_iconst (v := (-1)) C d_D_init_48 rfl ?_
    refine k_iast (f := neg j) (v := (-1)) (N := 12) C (n + 2) j (by omega) (by simp [va_up, dE]) rfl (by omega) (by decide) d_D_init_49 ?_
    refine k_aload_n C 1 d_D_init_50 rfl rfl ?_
    refine k_get (ci := 2) (fs := [.ref (base + (n + 1)), .ref (base + (n + 2)), .ref (base + (n + 3)), .int 0, .int 0, .int 0, .int 0, .int 0]) (v := .ref (base + (n + 3))) C n 2 i_D rfl (by omega) (by simp [va_up, dE]) (by decide) m_84 rfl rfl d_D_init_51 ?_
    refine k_iload_n C 0 d_D_init_54 rfl rfl ?_
    refine k_iconst (v := 0) C d_D_init_55 rfl ?_
    refine k_iast (f := fun _ => 0) (v := 0) (N := 12) C (n + 3) j (by omega) (by simp [va_up, dE]) rfl (by omega) (by decide) d_D_init_56 ?_
    refine k_iinc (v := nI (j + 1)) C 0 d_D_init_57 rfl (nI_1 j) (by decide) rfl ?_
    refine k_goto C 30 d_D_init_60 (by decide) ?_
    refine k_E (E2 := dE base cs E n (j + 1)) (fun i hi => ?_) (ih (j + 1) (by omega))
    rw [neg_s, zro_s]
    simp only [va_up, dE]
    repeat' split
    all_goals first | rfl | omega
set_option maxHeartbeats 4000000 in
set_option maxRecDepth 100000 in
theorem c_D_init {l : Launch} {D : va_G} {cs : Nat → ClassId} {base n : Nat} {E : Nat → va_E} (he : E n = .inr (2, [.null, .null, .null, .int 0, .int 0, .int 0, .int 0, .int 0])) : kM l y_D_init b_D_init 2 ({ frames := 1, cells := 3, slots := 36, locals := 30 } : Room) 3 36 [.ref (base + n)] D cs base (n + 1) E (fun u => u = (n + 4, dE base cs E n 12)) := by
  refine kM_of (own := "TwinRegister$Device") (by decide +kernel) rfl (Nat.le_of_ble_eq_true rfl) ?_
  intro p e s m args below meth c C hr hm hz hA
  refine k_lv (lv2 := [(0, .ref (base + n))]) [0] rfl ?_
  refine k_aload_n C 0 d_D_init_0 rfl rfl ?_
  refine k_objInit C m_78 m_55 m_56 ⟨Nat.le_of_ble_eq_true rfl, Nat.le_of_ble_eq_true rfl⟩ d_D_init_1 ?_
  refine k_aload_n C 0 d_D_init_4 rfl rfl ?_
  refine k_bipush (v := 12) C d_D_init_5 rfl ?_
  refine k_newa (t0 := 0) (N := 12) (a0 := (12, .inl (fun _ => 0))) C m_71 rfl rfl (fun _ => rfl) ⟨by decide, by decide⟩ (by decide) (by omega) ⟨Nat.le_of_ble_eq_true rfl, Nat.le_of_ble_eq_true rfl⟩ d_D_init_7 ?_
  refine k_put (ci := 2) (fs := [.null, .null, .null, .int 0, .int 0, .int 0, .int 0, .int 0]) (v := (.ref (base + (n + 1)))) C n 0 i_D ft_D ft_D_ok n_D rfl (by omega) (by simp [va_up, Nat.add_assoc, he]) (by decide) m_79 rfl rfl ⟨rfl, rfl⟩ (Nat.le_of_ble_eq_true rfl) (Or.inr ⟨rfl, hm, rfl⟩) d_D_init_9 ?_
  refine k_aload_n C 0 d_D_init_12 rfl rfl ?_
  refine k_bipush (v := 12) C d_D_init_13 rfl ?_
  refine k_newa (t0 := 0) (N := 12) (a0 := (12, .inl (fun _ => 0))) C m_71 rfl rfl (fun _ => rfl) ⟨by decide, by decide⟩ (by decide) (by omega) ⟨Nat.le_of_ble_eq_true rfl, Nat.le_of_ble_eq_true rfl⟩ d_D_init_15 ?_
  refine k_put (ci := 2) (fs := [.ref (base + (n + 1)), .null, .null, .int 0, .int 0, .int 0, .int 0, .int 0]) (v := (.ref (base + (n + 2)))) C n 1 i_D ft_D ft_D_ok n_D rfl (by omega) (by simp [va_up, Nat.add_assoc, he]) (by decide) m_81 rfl rfl ⟨rfl, rfl⟩ (Nat.le_of_ble_eq_true rfl) (Or.inr ⟨rfl, hm, rfl⟩) d_D_init_17 ?_
  refine k_aload_n C 0 d_D_init_20 rfl rfl ?_
  refine k_bipush (v := 12) C d_D_init_21 rfl ?_
  refine k_newa (t0 := 0) (N := 12) (a0 := (12, .inl (fun _ => 0))) C m_71 rfl rfl (fun _ => rfl) ⟨by decide, by decide⟩ (by decide) (by omega) ⟨Nat.le_of_ble_eq_true rfl, Nat.le_of_ble_eq_true rfl⟩ d_D_init_23 ?_
  refine k_put (ci := 2) (fs := [.ref (base + (n + 1)), .ref (base + (n + 2)), .null, .int 0, .int 0, .int 0, .int 0, .int 0]) (v := (.ref (base + (n + 3)))) C n 2 i_D ft_D ft_D_ok n_D rfl (by omega) (by simp [va_up, Nat.add_assoc, he]) (by decide) m_84 rfl rfl ⟨rfl, rfl⟩ (Nat.le_of_ble_eq_true rfl) (Or.inr ⟨rfl, hm, rfl⟩) d_D_init_25 ?_
  refine k_iconst (v := 0) C d_D_init_28 rfl ?_
  refine k_istore_n (lv2 := [(1, .int (nI 0)), (0, .ref (base + n))]) C d_D_init_29 rfl (by decide) rfl ?_
  refine k_E (E2 := dE base cs E n 0) (fun i hi => ?_) (lp_D_init C hr 12 0 rfl)
  rw [show dE base cs E n 0 = dE base cs E n 0 from rfl]
  simp only [va_up, dE, List.set, neg_0]
  repeat' split
  all_goals first | rfl | omega
def hi4 : Nat → Int32 := upd (upd (upd (upd (fun _ => 0) 0 99) 1 99) 2 99) 3 99
def mt0 : St := fun a => if a = 11 then hi4 else fun _ => 0
def rE (base : Nat) (cs : Nat → ClassId) (E : Nat → va_E) : Nat → va_E := fun i => if i < 50 then E i else mE (kad base) cs mt0 (i - 50)
set_option maxHeartbeats 4000000 in
set_option maxRecDepth 100000 in
theorem c_M_init {l : Launch} {D : va_G} {cs : Nat → ClassId} {base n : Nat} {E : Nat → va_E} (he : E 50 = .inr (5, [.int 0, .null, .null, .null, .null, .null, .null, .null, .null, .null, .null, .null, .int 0, .null, .null, .null, .null, .null, .null, .null, .null, .null])) : kM l y_M_init b_M_init 1 ({ frames := 1, cells := 20, slots := 416, locals := 30 } : Room) 20 416 [.ref (base + 50)] D cs base 51 E (fun u => u = (71, rE base cs E)) := by
  refine kM_of (own := "TwinRegisterModel") (by decide +kernel) rfl (Nat.le_of_ble_eq_true rfl) ?_
  intro p e s m args below meth c C hr hm hz hA
  refine k_lv (lv2 := [(0, .ref (base + 50))]) [0] rfl ?_
  refine k_aload_n C 0 d_M_init_0 rfl rfl ?_
  refine k_objInit C m_567 m_55 m_56 ⟨Nat.le_of_ble_eq_true rfl, Nat.le_of_ble_eq_true rfl⟩ d_M_init_1 ?_
  refine k_aload_n C 0 d_M_init_4 rfl rfl ?_
  refine k_bipush (v := 96) C d_M_init_5 rfl ?_
  refine k_newa (t0 := 0) (N := 96) (a0 := (96, .inl (fun _ => 0))) C m_71 rfl rfl (fun _ => rfl) ⟨by decide, by decide⟩ (by decide) (by omega) ⟨Nat.le_of_ble_eq_true rfl, Nat.le_of_ble_eq_true rfl⟩ d_M_init_7 ?_
  refine k_put (ci := 5) (fs := [.int 0, .null, .null, .null, .null, .null, .null, .null, .null, .null, .null, .null, .int 0, .null, .null, .null, .null, .null, .null, .null, .null, .null]) (v := (.ref (base + 51))) C 50 1 i_M ft_M ft_M_ok n_M rfl (by omega) (by simp [va_up, Nat.add_assoc, he]) (by decide) m_569 rfl rfl ⟨rfl, rfl⟩ (Nat.le_of_ble_eq_true rfl) (Or.inr ⟨rfl, hm, rfl⟩) d_M_init_9 ?_
  refine k_aload_n C 0 d_M_init_12 rfl rfl ?_
  refine k_bipush (v := 96) C d_M_init_13 rfl ?_
  refine k_newa (t0 := 0) (N := 96) (a0 := (96, .inl (fun _ => 0))) C m_71 rfl rfl (fun _ => rfl) ⟨by decide, by decide⟩ (by decide) (by omega) ⟨Nat.le_of_ble_eq_true rfl, Nat.le_of_ble_eq_true rfl⟩ d_M_init_15 ?_
  refine k_put (ci := 5) (fs := [.int 0, .ref (base + 51), .null, .null, .null, .null, .null, .null, .null, .null, .null, .null, .int 0, .null, .null, .null, .null, .null, .null, .null, .null, .null]) (v := (.ref (base + 52))) C 50 2 i_M ft_M ft_M_ok n_M rfl (by omega) (by simp [va_up, Nat.add_assoc, he]) (by decide) m_570 rfl rfl ⟨rfl, rfl⟩ (Nat.le_of_ble_eq_true rfl) (Or.inr ⟨rfl, hm, rfl⟩) d_M_init_17 ?_
  refine k_aload_n C 0 d_M_init_20 rfl rfl ?_
  refine k_bipush (v := 96) C d_M_init_21 rfl ?_
  refine k_newa (t0 := 0) (N := 96) (a0 := (96, .inl (fun _ => 0))) C m_71 rfl rfl (fun _ => rfl) ⟨by decide, by decide⟩ (by decide) (by omega) ⟨Nat.le_of_ble_eq_true rfl, Nat.le_of_ble_eq_true rfl⟩ d_M_init_23 ?_
  refine k_put (ci := 5) (fs := [.int 0, .ref (base + 51), .ref (base + 52), .null, .null, .null, .null, .null, .null, .null, .null, .null, .int 0, .null, .null, .null, .null, .null, .null, .null, .null, .null]) (v := (.ref (base + 53))) C 50 3 i_M ft_M ft_M_ok n_M rfl (by omega) (by simp [va_up, Nat.add_assoc, he]) (by decide) m_571 rfl rfl ⟨rfl, rfl⟩ (Nat.le_of_ble_eq_true rfl) (Or.inr ⟨rfl, hm, rfl⟩) d_M_init_25 ?_
  refine k_aload_n C 0 d_M_init_28 rfl rfl ?_
  refine k_bipush (v := 8) C d_M_init_29 rfl ?_
  refine k_newa (t0 := 0) (N := 8) (a0 := (8, .inl (fun _ => 0))) C m_71 rfl rfl (fun _ => rfl) ⟨by decide, by decide⟩ (by decide) (by omega) ⟨Nat.le_of_ble_eq_true rfl, Nat.le_of_ble_eq_true rfl⟩ d_M_init_31 ?_
  refine k_put (ci := 5) (fs := [.int 0, .ref (base + 51), .ref (base + 52), .ref (base + 53), .null, .null, .null, .null, .null, .null, .null, .null, .int 0, .null, .null, .null, .null, .null, .null, .null, .null, .null]) (v := (.ref (base + 54))) C 50 4 i_M ft_M ft_M_ok n_M rfl (by omega) (by simp [va_up, Nat.add_assoc, he]) (by decide) m_572 rfl rfl ⟨rfl, rfl⟩ (Nat.le_of_ble_eq_true rfl) (Or.inr ⟨rfl, hm, rfl⟩) d_M_init_33 ?_
  refine k_aload_n C 0 d_M_init_36 rfl rfl ?_
  refine k_bipush (v := 8) C d_M_init_37 rfl ?_
  refine k_newa (t0 := 0) (N := 8) (a0 := (8, .inl (fun _ => 0))) C m_71 rfl rfl (fun _ => rfl) ⟨by decide, by decide⟩ (by decide) (by omega) ⟨Nat.le_of_ble_eq_true rfl, Nat.le_of_ble_eq_true rfl⟩ d_M_init_39 ?_
  refine k_put (ci := 5) (fs := [.int 0, .ref (base + 51), .ref (base + 52), .ref (base + 53), .ref (base + 54), .null, .null, .null, .null, .null, .null, .null, .int 0, .null, .null, .null, .null, .null, .null, .null, .null, .null]) (v := (.ref (base + 55))) C 50 5 i_M ft_M ft_M_ok n_M rfl (by omega) (by simp [va_up, Nat.add_assoc, he]) (by decide) m_573 rfl rfl ⟨rfl, rfl⟩ (Nat.le_of_ble_eq_true rfl) (Or.inr ⟨rfl, hm, rfl⟩) d_M_init_41 ?_
  refine k_aload_n C 0 d_M_init_44 rfl rfl ?_
  refine k_bipush (v := 8) C d_M_init_45 rfl ?_
  refine k_newa (t0 := 1) (N := 8) (a0 := (8, .inl (fun _ => 0))) C m_635 rfl rfl (fun _ => rfl) ⟨by decide, by decide⟩ (by decide) (by omega) ⟨Nat.le_of_ble_eq_true rfl, Nat.le_of_ble_eq_true rfl⟩ d_M_init_47 ?_
  refine k_put (ci := 5) (fs := [.int 0, .ref (base + 51), .ref (base + 52), .ref (base + 53), .ref (base + 54), .ref (base + 55), .null, .null, .null, .null, .null, .null, .int 0, .null, .null, .null, .null, .null, .null, .null, .null, .null]) (v := (.ref (base + 56))) C 50 6 i_M ft_M ft_M_ok n_M rfl (by omega) (by simp [va_up, Nat.add_assoc, he]) (by decide) m_574 rfl rfl ⟨rfl, rfl⟩ (Nat.le_of_ble_eq_true rfl) (Or.inr ⟨rfl, hm, rfl⟩) d_M_init_49 ?_
  refine k_aload_n C 0 d_M_init_52 rfl rfl ?_
  refine k_bipush (v := 8) C d_M_init_53 rfl ?_
  refine k_newa (t0 := 0) (N := 8) (a0 := (8, .inl (fun _ => 0))) C m_71 rfl rfl (fun _ => rfl) ⟨by decide, by decide⟩ (by decide) (by omega) ⟨Nat.le_of_ble_eq_true rfl, Nat.le_of_ble_eq_true rfl⟩ d_M_init_55 ?_
  refine k_put (ci := 5) (fs := [.int 0, .ref (base + 51), .ref (base + 52), .ref (base + 53), .ref (base + 54), .ref (base + 55), .ref (base + 56), .null, .null, .null, .null, .null, .int 0, .null, .null, .null, .null, .null, .null, .null, .null, .null]) (v := (.ref (base + 57))) C 50 7 i_M ft_M ft_M_ok n_M rfl (by omega) (by simp [va_up, Nat.add_assoc, he]) (by decide) m_575 rfl rfl ⟨rfl, rfl⟩ (Nat.le_of_ble_eq_true rfl) (Or.inr ⟨rfl, hm, rfl⟩) d_M_init_57 ?_
  refine k_aload_n C 0 d_M_init_60 rfl rfl ?_
  refine k_bipush (v := 12) C d_M_init_61 rfl ?_
  refine k_newa (t0 := 0) (N := 12) (a0 := (12, .inl (fun _ => 0))) C m_71 rfl rfl (fun _ => rfl) ⟨by decide, by decide⟩ (by decide) (by omega) ⟨Nat.le_of_ble_eq_true rfl, Nat.le_of_ble_eq_true rfl⟩ d_M_init_63 ?_
  refine k_put (ci := 5) (fs := [.int 0, .ref (base + 51), .ref (base + 52), .ref (base + 53), .ref (base + 54), .ref (base + 55), .ref (base + 56), .ref (base + 57), .null, .null, .null, .null, .int 0, .null, .null, .null, .null, .null, .null, .null, .null, .null]) (v := (.ref (base + 58))) C 50 8 i_M ft_M ft_M_ok n_M rfl (by omega) (by simp [va_up, Nat.add_assoc, he]) (by decide) m_576 rfl rfl ⟨rfl, rfl⟩ (Nat.le_of_ble_eq_true rfl) (Or.inr ⟨rfl, hm, rfl⟩) d_M_init_65 ?_
  refine k_aload_n C 0 d_M_init_68 rfl rfl ?_
  refine k_iconst (v := 4) C d_M_init_69 rfl ?_
  refine k_newa (t0 := 0) (N := 4) (a0 := (4, .inl (fun _ => 0))) C m_71 rfl rfl (fun _ => rfl) ⟨by decide, by decide⟩ (by decide) (by omega) ⟨Nat.le_of_ble_eq_true rfl, Nat.le_of_ble_eq_true rfl⟩ d_M_init_70 ?_
  refine k_put (ci := 5) (fs := [.int 0, .ref (base + 51), .ref (base + 52), .ref (base + 53), .ref (base + 54), .ref (base + 55), .ref (base + 56), .ref (base + 57), .ref (base + 58), .null, .null, .null, .int 0, .null, .null, .null, .null, .null, .null, .null, .null, .null]) (v := (.ref (base + 59))) C 50 9 i_M ft_M ft_M_ok n_M rfl (by omega) (by simp [va_up, Nat.add_assoc, he]) (by decide) m_577 rfl rfl ⟨rfl, rfl⟩ (Nat.le_of_ble_eq_true rfl) (Or.inr ⟨rfl, hm, rfl⟩) d_M_init_72 ?_
  refine k_aload_n C 0 d_M_init_75 rfl rfl ?_
  refine k_iconst (v := 4) C d_M_init_76 rfl ?_
  refine k_newa (t0 := 0) (N := 4) (a0 := (4, .inl (fun _ => 0))) C m_71 rfl rfl (fun _ => rfl) ⟨by decide, by decide⟩ (by decide) (by omega) ⟨Nat.le_of_ble_eq_true rfl, Nat.le_of_ble_eq_true rfl⟩ d_M_init_77 ?_
  refine k_put (ci := 5) (fs := [.int 0, .ref (base + 51), .ref (base + 52), .ref (base + 53), .ref (base + 54), .ref (base + 55), .ref (base + 56), .ref (base + 57), .ref (base + 58), .ref (base + 59), .null, .null, .int 0, .null, .null, .null, .null, .null, .null, .null, .null, .null]) (v := (.ref (base + 60))) C 50 10 i_M ft_M ft_M_ok n_M rfl (by omega) (by simp [va_up, Nat.add_assoc, he]) (by decide) m_578 rfl rfl ⟨rfl, rfl⟩ (Nat.le_of_ble_eq_true rfl) (Or.inr ⟨rfl, hm, rfl⟩) d_M_init_79 ?_
  refine k_aload_n C 0 d_M_init_82 rfl rfl ?_
  refine k_iconst (v := 4) C d_M_init_83 rfl ?_
  refine k_newa (t0 := 0) (N := 4) (a0 := (4, .inl (fun _ => 0))) C m_71 rfl rfl (fun _ => rfl) ⟨by decide, by decide⟩ (by decide) (by omega) ⟨Nat.le_of_ble_eq_true rfl, Nat.le_of_ble_eq_true rfl⟩ d_M_init_84 ?_
  refine k_dup C d_M_init_86 rfl ?_
  refine k_iconst (v := 0) C d_M_init_87 rfl ?_
  refine k_bipush (v := 99) C d_M_init_88 rfl ?_
  refine k_iast (f := (fun _ => 0)) (v := 99) (N := 4) C 61 0 (by omega) (by simp [va_up]) rfl (by decide) (by decide) d_M_init_90 ?_
  refine k_dup C d_M_init_91 rfl ?_
  refine k_iconst (v := 1) C d_M_init_92 rfl ?_
  refine k_bipush (v := 99) C d_M_init_93 rfl ?_
  refine k_iast (f := (upd (fun _ => 0) 0 99)) (v := 99) (N := 4) C 61 1 (by omega) (by simp [va_up]) rfl (by decide) (by decide) d_M_init_95 ?_
  refine k_dup C d_M_init_96 rfl ?_
  refine k_iconst (v := 2) C d_M_init_97 rfl ?_
  refine k_bipush (v := 99) C d_M_init_98 rfl ?_
  refine k_iast (f := (upd (upd (fun _ => 0) 0 99) 1 99)) (v := 99) (N := 4) C 61 2 (by omega) (by simp [va_up]) rfl (by decide) (by decide) d_M_init_100 ?_
  refine k_dup C d_M_init_101 rfl ?_
  refine k_iconst (v := 3) C d_M_init_102 rfl ?_
  refine k_bipush (v := 99) C d_M_init_103 rfl ?_
  refine k_iast (f := (upd (upd (upd (fun _ => 0) 0 99) 1 99) 2 99)) (v := 99) (N := 4) C 61 3 (by omega) (by simp [va_up]) rfl (by decide) (by decide) d_M_init_105 ?_
  refine k_put (ci := 5) (fs := [.int 0, .ref (base + 51), .ref (base + 52), .ref (base + 53), .ref (base + 54), .ref (base + 55), .ref (base + 56), .ref (base + 57), .ref (base + 58), .ref (base + 59), .ref (base + 60), .null, .int 0, .null, .null, .null, .null, .null, .null, .null, .null, .null]) (v := (.ref (base + 61))) C 50 11 i_M ft_M ft_M_ok n_M rfl (by omega) (by simp [va_up, Nat.add_assoc, he]) (by decide) m_579 rfl rfl ⟨rfl, rfl⟩ (Nat.le_of_ble_eq_true rfl) (Or.inr ⟨rfl, hm, rfl⟩) d_M_init_106 ?_
  refine k_aload_n C 0 d_M_init_109 rfl rfl ?_
  refine k_bipush (v := 8) C d_M_init_110 rfl ?_
  refine k_newa (t0 := 0) (N := 8) (a0 := (8, .inl (fun _ => 0))) C m_71 rfl rfl (fun _ => rfl) ⟨by decide, by decide⟩ (by decide) (by omega) ⟨Nat.le_of_ble_eq_true rfl, Nat.le_of_ble_eq_true rfl⟩ d_M_init_112 ?_
  refine k_put (ci := 5) (fs := [.int 0, .ref (base + 51), .ref (base + 52), .ref (base + 53), .ref (base + 54), .ref (base + 55), .ref (base + 56), .ref (base + 57), .ref (base + 58), .ref (base + 59), .ref (base + 60), .ref (base + 61), .int 0, .null, .null, .null, .null, .null, .null, .null, .null, .null]) (v := (.ref (base + 62))) C 50 13 i_M ft_M ft_M_ok n_M rfl (by omega) (by simp [va_up, Nat.add_assoc, he]) (by decide) m_581 rfl rfl ⟨rfl, rfl⟩ (Nat.le_of_ble_eq_true rfl) (Or.inr ⟨rfl, hm, rfl⟩) d_M_init_114 ?_
  refine k_aload_n C 0 d_M_init_117 rfl rfl ?_
  refine k_bipush (v := 8) C d_M_init_118 rfl ?_
  refine k_newa (t0 := 0) (N := 8) (a0 := (8, .inl (fun _ => 0))) C m_71 rfl rfl (fun _ => rfl) ⟨by decide, by decide⟩ (by decide) (by omega) ⟨Nat.le_of_ble_eq_true rfl, Nat.le_of_ble_eq_true rfl⟩ d_M_init_120 ?_
  refine k_put (ci := 5) (fs := [.int 0, .ref (base + 51), .ref (base + 52), .ref (base + 53), .ref (base + 54), .ref (base + 55), .ref (base + 56), .ref (base + 57), .ref (base + 58), .ref (base + 59), .ref (base + 60), .ref (base + 61), .int 0, .ref (base + 62), .null, .null, .null, .null, .null, .null, .null, .null]) (v := (.ref (base + 63))) C 50 14 i_M ft_M ft_M_ok n_M rfl (by omega) (by simp [va_up, Nat.add_assoc, he]) (by decide) m_582 rfl rfl ⟨rfl, rfl⟩ (Nat.le_of_ble_eq_true rfl) (Or.inr ⟨rfl, hm, rfl⟩) d_M_init_122 ?_
  refine k_aload_n C 0 d_M_init_125 rfl rfl ?_
  refine k_bipush (v := 8) C d_M_init_126 rfl ?_
  refine k_newa (t0 := 0) (N := 8) (a0 := (8, .inl (fun _ => 0))) C m_71 rfl rfl (fun _ => rfl) ⟨by decide, by decide⟩ (by decide) (by omega) ⟨Nat.le_of_ble_eq_true rfl, Nat.le_of_ble_eq_true rfl⟩ d_M_init_128 ?_
  refine k_put (ci := 5) (fs := [.int 0, .ref (base + 51), .ref (base + 52), .ref (base + 53), .ref (base + 54), .ref (base + 55), .ref (base + 56), .ref (base + 57), .ref (base + 58), .ref (base + 59), .ref (base + 60), .ref (base + 61), .int 0, .ref (base + 62), .ref (base + 63), .null, .null, .null, .null, .null, .null, .null]) (v := (.ref (base + 64))) C 50 15 i_M ft_M ft_M_ok n_M rfl (by omega) (by simp [va_up, Nat.add_assoc, he]) (by decide) m_583 rfl rfl ⟨rfl, rfl⟩ (Nat.le_of_ble_eq_true rfl) (Or.inr ⟨rfl, hm, rfl⟩) d_M_init_130 ?_
  refine k_aload_n C 0 d_M_init_133 rfl rfl ?_
  refine k_bipush (v := 8) C d_M_init_134 rfl ?_
  refine k_newa (t0 := 0) (N := 8) (a0 := (8, .inl (fun _ => 0))) C m_71 rfl rfl (fun _ => rfl) ⟨by decide, by decide⟩ (by decide) (by omega) ⟨Nat.le_of_ble_eq_true rfl, Nat.le_of_ble_eq_true rfl⟩ d_M_init_136 ?_
  refine k_put (ci := 5) (fs := [.int 0, .ref (base + 51), .ref (base + 52), .ref (base + 53), .ref (base + 54), .ref (base + 55), .ref (base + 56), .ref (base + 57), .ref (base + 58), .ref (base + 59), .ref (base + 60), .ref (base + 61), .int 0, .ref (base + 62), .ref (base + 63), .ref (base + 64), .null, .null, .null, .null, .null, .null]) (v := (.ref (base + 65))) C 50 16 i_M ft_M ft_M_ok n_M rfl (by omega) (by simp [va_up, Nat.add_assoc, he]) (by decide) m_584 rfl rfl ⟨rfl, rfl⟩ (Nat.le_of_ble_eq_true rfl) (Or.inr ⟨rfl, hm, rfl⟩) d_M_init_138 ?_
  refine k_aload_n C 0 d_M_init_141 rfl rfl ?_
  refine k_bipush (v := 8) C d_M_init_142 rfl ?_
  refine k_newa (t0 := 0) (N := 8) (a0 := (8, .inl (fun _ => 0))) C m_71 rfl rfl (fun _ => rfl) ⟨by decide, by decide⟩ (by decide) (by omega) ⟨Nat.le_of_ble_eq_true rfl, Nat.le_of_ble_eq_true rfl⟩ d_M_init_144 ?_
  refine k_put (ci := 5) (fs := [.int 0, .ref (base + 51), .ref (base + 52), .ref (base + 53), .ref (base + 54), .ref (base + 55), .ref (base + 56), .ref (base + 57), .ref (base + 58), .ref (base + 59), .ref (base + 60), .ref (base + 61), .int 0, .ref (base + 62), .ref (base + 63), .ref (base + 64), .ref (base + 65), .null, .null, .null, .null, .null]) (v := (.ref (base + 66))) C 50 17 i_M ft_M ft_M_ok n_M rfl (by omega) (by simp [va_up, Nat.add_assoc, he]) (by decide) m_585 rfl rfl ⟨rfl, rfl⟩ (Nat.le_of_ble_eq_true rfl) (Or.inr ⟨rfl, hm, rfl⟩) d_M_init_146 ?_
  refine k_aload_n C 0 d_M_init_149 rfl rfl ?_
  refine k_bipush (v := 8) C d_M_init_150 rfl ?_
  refine k_newa (t0 := 0) (N := 8) (a0 := (8, .inl (fun _ => 0))) C m_71 rfl rfl (fun _ => rfl) ⟨by decide, by decide⟩ (by decide) (by omega) ⟨Nat.le_of_ble_eq_true rfl, Nat.le_of_ble_eq_true rfl⟩ d_M_init_152 ?_
  refine k_put (ci := 5) (fs := [.int 0, .ref (base + 51), .ref (base + 52), .ref (base + 53), .ref (base + 54), .ref (base + 55), .ref (base + 56), .ref (base + 57), .ref (base + 58), .ref (base + 59), .ref (base + 60), .ref (base + 61), .int 0, .ref (base + 62), .ref (base + 63), .ref (base + 64), .ref (base + 65), .ref (base + 66), .null, .null, .null, .null]) (v := (.ref (base + 67))) C 50 18 i_M ft_M ft_M_ok n_M rfl (by omega) (by simp [va_up, Nat.add_assoc, he]) (by decide) m_586 rfl rfl ⟨rfl, rfl⟩ (Nat.le_of_ble_eq_true rfl) (Or.inr ⟨rfl, hm, rfl⟩) d_M_init_154 ?_
  refine k_aload_n C 0 d_M_init_157 rfl rfl ?_
  refine k_bipush (v := 8) C d_M_init_158 rfl ?_
  refine k_newa (t0 := 0) (N := 8) (a0 := (8, .inl (fun _ => 0))) C m_71 rfl rfl (fun _ => rfl) ⟨by decide, by decide⟩ (by decide) (by omega) ⟨Nat.le_of_ble_eq_true rfl, Nat.le_of_ble_eq_true rfl⟩ d_M_init_160 ?_
  refine k_put (ci := 5) (fs := [.int 0, .ref (base + 51), .ref (base + 52), .ref (base + 53), .ref (base + 54), .ref (base + 55), .ref (base + 56), .ref (base + 57), .ref (base + 58), .ref (base + 59), .ref (base + 60), .ref (base + 61), .int 0, .ref (base + 62), .ref (base + 63), .ref (base + 64), .ref (base + 65), .ref (base + 66), .ref (base + 67), .null, .null, .null]) (v := (.ref (base + 68))) C 50 19 i_M ft_M ft_M_ok n_M rfl (by omega) (by simp [va_up, Nat.add_assoc, he]) (by decide) m_587 rfl rfl ⟨rfl, rfl⟩ (Nat.le_of_ble_eq_true rfl) (Or.inr ⟨rfl, hm, rfl⟩) d_M_init_162 ?_
  refine k_aload_n C 0 d_M_init_165 rfl rfl ?_
  refine k_bipush (v := 8) C d_M_init_166 rfl ?_
  refine k_newa (t0 := 0) (N := 8) (a0 := (8, .inl (fun _ => 0))) C m_71 rfl rfl (fun _ => rfl) ⟨by decide, by decide⟩ (by decide) (by omega) ⟨Nat.le_of_ble_eq_true rfl, Nat.le_of_ble_eq_true rfl⟩ d_M_init_168 ?_
  refine k_put (ci := 5) (fs := [.int 0, .ref (base + 51), .ref (base + 52), .ref (base + 53), .ref (base + 54), .ref (base + 55), .ref (base + 56), .ref (base + 57), .ref (base + 58), .ref (base + 59), .ref (base + 60), .ref (base + 61), .int 0, .ref (base + 62), .ref (base + 63), .ref (base + 64), .ref (base + 65), .ref (base + 66), .ref (base + 67), .ref (base + 68), .null, .null]) (v := (.ref (base + 69))) C 50 20 i_M ft_M ft_M_ok n_M rfl (by omega) (by simp [va_up, Nat.add_assoc, he]) (by decide) m_588 rfl rfl ⟨rfl, rfl⟩ (Nat.le_of_ble_eq_true rfl) (Or.inr ⟨rfl, hm, rfl⟩) d_M_init_170 ?_
  refine k_aload_n C 0 d_M_init_173 rfl rfl ?_
  refine k_bipush (v := 8) C d_M_init_174 rfl ?_
  refine k_newa (t0 := 0) (N := 8) (a0 := (8, .inl (fun _ => 0))) C m_71 rfl rfl (fun _ => rfl) ⟨by decide, by decide⟩ (by decide) (by omega) ⟨Nat.le_of_ble_eq_true rfl, Nat.le_of_ble_eq_true rfl⟩ d_M_init_176 ?_
  refine k_put (ci := 5) (fs := [.int 0, .ref (base + 51), .ref (base + 52), .ref (base + 53), .ref (base + 54), .ref (base + 55), .ref (base + 56), .ref (base + 57), .ref (base + 58), .ref (base + 59), .ref (base + 60), .ref (base + 61), .int 0, .ref (base + 62), .ref (base + 63), .ref (base + 64), .ref (base + 65), .ref (base + 66), .ref (base + 67), .ref (base + 68), .ref (base + 69), .null]) (v := (.ref (base + 70))) C 50 21 i_M ft_M ft_M_ok n_M rfl (by omega) (by simp [va_up, Nat.add_assoc, he]) (by decide) m_589 rfl rfl ⟨rfl, rfl⟩ (Nat.le_of_ble_eq_true rfl) (Or.inr ⟨rfl, hm, rfl⟩) d_M_init_178 ?_
  refine k_E (E2 := rE base cs E) (fun i hi => ?_) ?_
  · by_cases h : i < 50
    · have hne : ∀ j, 50 ≤ j → ¬ i = j := fun j h1 h2 => by omega
      unfold rE
      rw [if_pos h]
      repeat rw [va_up_ne _ _ (hne _ (by decide))]
    · have h2 : i = 50 ∨ i = 51 ∨ i = 52 ∨ i = 53 ∨ i = 54 ∨ i = 55 ∨ i = 56 ∨ i = 57 ∨ i = 58 ∨ i = 59 ∨ i = 60 ∨ i = 61 ∨ i = 62 ∨ i = 63 ∨ i = 64 ∨ i = 65 ∨ i = 66 ∨ i = 67 ∨ i = 68 ∨ i = 69 ∨ i = 70 := by omega
      rcases h2 with rfl | rfl | rfl | rfl | rfl | rfl | rfl | rfl | rfl | rfl | rfl | rfl | rfl | rfl | rfl | rfl | rfl | rfl | rfl | rfl | rfl <;> rfl
  exact k_vret C hr d_M_init_181 rfl
