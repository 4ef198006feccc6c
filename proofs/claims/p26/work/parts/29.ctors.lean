/-! ===== the constructors ===== -/
def neg (j : Nat) : Nat → Int32 := fun k => if k < j then -1 else 0
theorem neg_0 : neg 0 = fun _ => 0 := by
  funext k
  simp [neg]
theorem neg_s (j : Nat) : upd (neg j) j (-1) = neg (j + 1) := by
  funext k
  unfold upd neg
  by_cases h : k = j
  · subst h
    simp
  · by_cases h2 : k < j
    · simp [h, h2, Nat.lt_succ_of_lt h2]
    · have h3 : ¬ k < j + 1 := by omega
      simp [h, h2, h3]
theorem zro_s (j : Nat) : upd (fun _ => (0 : Int32)) j 0 = fun _ => 0 := by
  funext k
  unfold upd
  simp
def fE (base : Nat) (cs : Nat → ClassId) (E : Nat → va_E) (n : Nat) : Nat → va_E := fun i => if i = n then .inr (1, [.ref (base + (n + 1)), .int 0]) else if i = n + 1 then .inl (cs 0, 12, .inl (fun _ => 0)) else E i
def dE (base : Nat) (cs : Nat → ClassId) (E : Nat → va_E) (n j : Nat) : Nat → va_E := fun i => if i = n then .inr (2, [.ref (base + (n + 1)), .ref (base + (n + 2)), .ref (base + (n + 3)), .int 0, .int 0, .int 0, .int 0, .int 0]) else if i = n + 1 then .inl (cs 0, 12, .inl (neg j)) else if i = n + 2 then .inl (cs 0, 12, .inl (neg j)) else if i = n + 3 then .inl (cs 0, 12, .inl (fun _ => 0)) else E i
def oE (ci : Nat) (fs : List Value) (E : Nat → va_E) (n : Nat) : Nat → va_E := fun i => if i = n then .inr (ci, fs) else E i
set_option maxHeartbeats 4000000 in
set_option maxRecDepth 100000 in
theorem c_F_init {l : Launch} {D : va_G} {cs : Nat → ClassId} {base n : Nat} {E : Nat → va_E} (he : E n = .inr (1, [.null, .int 0])) : kM l y_F_init b_F_init 1 ({ frames := 1, cells := 1, slots := 12, locals := 30 } : Room) 1 12 [.ref (base + n)] D cs base (n + 1) E (fun u => u = (n + 2, fE base cs E n)) := by
  refine kM_of (own := "TwinRegister$Draft") (by decide +kernel) rfl (Nat.le_of_ble_eq_true rfl) ?_
  intro p e s m args below meth c C hr hm hz hA
  refine k_lv (lv2 := [(0, .ref (base + n))]) [0] rfl ?_
  refine k_aload_n C 0 d_F_init_0 rfl rfl ?_
  refine k_objInit C m_49 m_42 m_43 ⟨Nat.le_of_ble_eq_true rfl, Nat.le_of_ble_eq_true rfl⟩ d_F_init_1 ?_
  refine k_aload_n C 0 d_F_init_4 rfl rfl ?_
  refine k_bipush (v := 12) C d_F_init_5 rfl ?_
  refine k_newa (t0 := 0) (N := 12) (a0 := (12, .inl (fun _ => 0))) C m_58 rfl rfl (fun _ => rfl) ⟨by decide, by decide⟩ (by decide) (by omega) ⟨Nat.le_of_ble_eq_true rfl, Nat.le_of_ble_eq_true rfl⟩ d_F_init_7 ?_
  refine k_put (ci := 1) (fs := [.null, .int 0]) (v := (.ref (base + (n + 1)))) C n 0 i_F ft_F ft_F_ok n_F rfl (by omega) (by simp [va_up, Nat.add_assoc, he]) (by decide) m_50 rfl rfl ⟨rfl, rfl⟩ (Nat.le_of_ble_eq_true rfl) (Or.inr ⟨rfl, hm, rfl⟩) d_F_init_9 ?_
  refine k_aload_n C 0 d_F_init_12 rfl rfl ?_
  refine k_iconst (v := 0) C d_F_init_13 rfl ?_
  refine k_put (ci := 1) (fs := [.ref (base + (n + 1)), .int 0]) (v := (.int 0)) C n 1 i_F ft_F ft_F_ok n_F rfl (by omega) (by simp [va_up, Nat.add_assoc, he]) (by decide) m_52 rfl rfl ⟨rfl, rfl⟩ (Nat.le_of_ble_eq_true rfl) (Or.inl rfl) d_F_init_14 ?_
  refine k_E (E2 := fE base cs E n) (fun i hi => ?_) ?_
  · simp only [va_up, fE, List.set]
    repeat' split
    all_goals first | rfl | omega
  exact k_vret C hr d_F_init_17 rfl
set_option maxHeartbeats 4000000 in
set_option maxRecDepth 100000 in
theorem c_G_init {l : Launch} {D : va_G} {cs : Nat → ClassId} {base n : Nat} {E : Nat → va_E} (he : E n = .inr (3, [.int 0, .int 0, .int 0])) : kM l y_G_init b_G_init 1 ({ frames := 1, cells := 0, slots := 0, locals := 30 } : Room) 0 0 [.ref (base + n)] D cs base (n + 1) E (fun u => u = (n + 1, oE 3 [.int 0, .int 0, .int 99] E n)) := by
  refine kM_of (own := "TwinRegister$Group") (by decide +kernel) rfl (Nat.le_of_ble_eq_true rfl) ?_
  intro p e s m args below meth c C hr hm hz hA
  refine k_lv (lv2 := [(0, .ref (base + n))]) [0] rfl ?_
  refine k_aload_n C 0 d_G_init_0 rfl rfl ?_
  refine k_objInit C m_105 m_42 m_43 ⟨Nat.le_of_ble_eq_true rfl, Nat.le_of_ble_eq_true rfl⟩ d_G_init_1 ?_
  refine k_aload_n C 0 d_G_init_4 rfl rfl ?_
  refine k_iconst (v := 0) C d_G_init_5 rfl ?_
  refine k_put (ci := 3) (fs := [.int 0, .int 0, .int 0]) (v := (.int 0)) C n 0 i_G ft_G ft_G_ok n_G rfl (by omega) (by simp [va_up, Nat.add_assoc, he]) (by decide) m_106 rfl rfl ⟨rfl, rfl⟩ (Nat.le_of_ble_eq_true rfl) (Or.inl rfl) d_G_init_6 ?_
  refine k_aload_n C 0 d_G_init_9 rfl rfl ?_
  refine k_iconst (v := 0) C d_G_init_10 rfl ?_
  refine k_put (ci := 3) (fs := [.int 0, .int 0, .int 0]) (v := (.int 0)) C n 1 i_G ft_G ft_G_ok n_G rfl (by omega) (by simp [va_up, Nat.add_assoc, he]) (by decide) m_108 rfl rfl ⟨rfl, rfl⟩ (Nat.le_of_ble_eq_true rfl) (Or.inl rfl) d_G_init_11 ?_
  refine k_aload_n C 0 d_G_init_14 rfl rfl ?_
  refine k_bipush (v := 99) C d_G_init_15 rfl ?_
  refine k_put (ci := 3) (fs := [.int 0, .int 0, .int 0]) (v := (.int 99)) C n 2 i_G ft_G ft_G_ok n_G rfl (by omega) (by simp [va_up, Nat.add_assoc, he]) (by decide) m_110 rfl rfl ⟨rfl, rfl⟩ (Nat.le_of_ble_eq_true rfl) (Or.inl rfl) d_G_init_17 ?_
  refine k_E (E2 := oE 3 [.int 0, .int 0, .int 99] E n) (fun i hi => ?_) ?_
  · simp only [va_up, oE, List.set]
    repeat' split
    all_goals first | rfl | omega
  exact k_vret C hr d_G_init_20 rfl
set_option maxHeartbeats 4000000 in
set_option maxRecDepth 100000 in
theorem c_J_init {l : Launch} {D : va_G} {cs : Nat → ClassId} {base n : Nat} {E : Nat → va_E} (he : E n = .inr (4, [.int 0, .int 0, .int 0, .int 0, .int 0, .int 0, .int 0, .int 0, .int 0])) : kM l y_J_init b_J_init 1 ({ frames := 1, cells := 0, slots := 0, locals := 30 } : Room) 0 0 [.ref (base + n)] D cs base (n + 1) E (fun u => u = (n + 1, oE 4 [.int 0, .int 0, .int 0, .int 0, .int 0, .int 0, .int 0, .int 0, .int 0] E n)) := by
  refine kM_of (own := "TwinRegister$Job") (by decide +kernel) rfl (Nat.le_of_ble_eq_true rfl) ?_
  intro p e s m args below meth c C hr hm hz hA
  refine k_lv (lv2 := [(0, .ref (base + n))]) [0] rfl ?_
  refine k_aload_n C 0 d_J_init_0 rfl rfl ?_
  refine k_objInit C m_125 m_42 m_43 ⟨Nat.le_of_ble_eq_true rfl, Nat.le_of_ble_eq_true rfl⟩ d_J_init_1 ?_
  refine k_aload_n C 0 d_J_init_4 rfl rfl ?_
  refine k_iconst (v := 0) C d_J_init_5 rfl ?_
  refine k_put (ci := 4) (fs := [.int 0, .int 0, .int 0, .int 0, .int 0, .int 0, .int 0, .int 0, .int 0]) (v := (.int 0)) C n 5 i_J ft_J ft_J_ok n_J rfl (by omega) (by simp [va_up, Nat.add_assoc, he]) (by decide) m_131 rfl rfl ⟨rfl, rfl⟩ (Nat.le_of_ble_eq_true rfl) (Or.inl rfl) d_J_init_6 ?_
  refine k_E (E2 := oE 4 [.int 0, .int 0, .int 0, .int 0, .int 0, .int 0, .int 0, .int 0, .int 0] E n) (fun i hi => ?_) ?_
  · simp only [va_up, oE, List.set]
    repeat' split
    all_goals first | rfl | omega
  exact k_vret C hr d_J_init_9 rfl
set_option maxHeartbeats 4000000 in
set_option maxRecDepth 100000 in
theorem lp_D_init {l : Launch} {D : va_G} {cs : Nat → ClassId} {base n : Nat} {E : Nat → va_E} {p : Program} {e : Env} {s : State} {m : MethodId} {args : Array Value} {below : List Frame} {meth : Method} {c : Code} (C : Cx p s m args meth c D cs (kad base) (kA base) b_D_init 2 "TwinRegister$Device") (hr : meth.sig.returnType = none) {rm : Room} : ∀ f j, j + f = 12 → Kg p l e rm s m args below meth c (MQ below (kQ D base (fun u => u = (n + 4, dE base cs E n 12))) args s 3 36 (kA base)) D base 2 3 36 30 [(1, .int (nI j)), (0, .ref (base + n))] [] (n + 4) (dE base cs E n j) := by
  intro f
  induction f with
  | zero =>
    intro j hj
    have hj : j = 12 := hj
    subst hj
    refine k_iload_n C 0 d_D_init_30 rfl rfl ?_
    refine k_bipush (v := 12) C d_D_init_31 rfl ?_
    refine k_icmp_ge C 63 d_D_init_33 (by decide) (fun _ => ?_) (fun h => absurd (show (12 : Int32) ≤ nI 12 by decide) h)
    exact k_vret C hr d_D_init_63 rfl
  | succ f ih =>
    intro j hj
    refine k_iload_n C 0 d_D_init_30 rfl rfl ?_
    refine k_bipush (v := 12) C d_D_init_31 rfl ?_
    refine k_icmp_ge C 63 d_D_init_33 (by decide) (fun h => absurd ((nI_leI (a := 12) (by decide) (by omega)).mp h) (by omega)) (fun _ => ?_)
    refine k_aload_n C 1 d_D_init_36 rfl rfl ?_
    refine k_get (ci := 2) (fs := [.ref (base + (n + 1)), .ref (base + (n + 2)), .ref (base + (n + 3)), .int 0, .int 0, .int 0, .int 0, .int 0]) (v := .ref (base + (n + 1))) C n 0 i_D rfl (by omega) (by simp [va_up, dE]) (by decide) m_66 rfl rfl d_D_init_37 ?_
    refine k_iload_n C 0 d_D_init_40 rfl rfl ?_
    refine k_iconst (v := (-1)) C d_D_init_41 rfl ?_
    refine k_iast (f := neg j) (v := (-1)) (N := 12) C (n + 1) j (by omega) (by simp [va_up, dE]) rfl (by omega) (by decide) d_D_init_42 ?_
    refine k_aload_n C 1 d_D_init_43 rfl rfl ?_
    refine k_get (ci := 2) (fs := [.ref (base + (n + 1)), .ref (base + (n + 2)), .ref (base + (n + 3)), .int 0, .int 0, .int 0, .int 0, .int 0]) (v := .ref (base + (n + 2))) C n 1 i_D rfl (by omega) (by simp [va_up, dE]) (by decide) m_68 rfl rfl d_D_init_44 ?_
    refine k_iload_n C 0 d_D_init_47 rfl rfl ?_
    refine k_iconst (v := (-1)) C d_D_init_48 rfl ?_
    refine k_iast (f := neg j) (v := (-1)) (N := 12) C (n + 2) j (by omega) (by simp [va_up, dE]) rfl (by omega) (by decide) d_D_init_49 ?_
    refine k_aload_n C 1 d_D_init_50 rfl rfl ?_
    refine k_get (ci := 2) (fs := [.ref (base + (n + 1)), .ref (base + (n + 2)), .ref (base + (n + 3)), .int 0, .int 0, .int 0, .int 0, .int 0]) (v := .ref (base + (n + 3))) C n 2 i_D rfl (by omega) (by simp [va_up, dE]) (by decide) m_71 rfl rfl d_D_init_51 ?_
    refine k_iload_n C 0 d_D_init_54 rfl rfl ?_
    refine k_iconst (v := 0) C d_D_init_55 rfl ?_
    refine k_iast (f := fun _ => 0) (v := 0) (N := 12) C (n + 3) j (by omega) (by simp [va_up, dE]) rfl (by omega) (by decide) d_D_init_56 ?_
    refine k_iinc (v := nI (j + 1)) C 0 d_D_init_57 rfl (nI_1 j) (by decide) rfl ?_
    refine k_goto C 30 d_D_init_60 (by decide) ?_
    refine k_E (E2 := dE base cs E n (j + 1)) (fun i hi => ?_) (ih (j + 1) (by omega))
    rw [neg_s, zro_s]
    simp only [va_up, dE]
    repeat' split
    all_goals first | rfl | omega
set_option maxHeartbeats 4000000 in
set_option maxRecDepth 100000 in
theorem c_D_init {l : Launch} {D : va_G} {cs : Nat → ClassId} {base n : Nat} {E : Nat → va_E} (he : E n = .inr (2, [.null, .null, .null, .int 0, .int 0, .int 0, .int 0, .int 0])) : kM l y_D_init b_D_init 2 ({ frames := 1, cells := 3, slots := 36, locals := 30 } : Room) 3 36 [.ref (base + n)] D cs base (n + 1) E (fun u => u = (n + 4, dE base cs E n 12)) := by
  refine kM_of (own := "TwinRegister$Device") (by decide +kernel) rfl (Nat.le_of_ble_eq_true rfl) ?_
  intro p e s m args below meth c C hr hm hz hA
  refine k_lv (lv2 := [(0, .ref (base + n))]) [0] rfl ?_
  refine k_aload_n C 0 d_D_init_0 rfl rfl ?_
  refine k_objInit C m_65 m_42 m_43 ⟨Nat.le_of_ble_eq_true rfl, Nat.le_of_ble_eq_true rfl⟩ d_D_init_1 ?_
  refine k_aload_n C 0 d_D_init_4 rfl rfl ?_
  refine k_bipush (v := 12) C d_D_init_5 rfl ?_
  refine k_newa (t0 := 0) (N := 12) (a0 := (12, .inl (fun _ => 0))) C m_58 rfl rfl (fun _ => rfl) ⟨by decide, by decide⟩ (by decide) (by omega) ⟨Nat.le_of_ble_eq_true rfl, Nat.le_of_ble_eq_true rfl⟩ d_D_init_7 ?_
  refine k_put (ci := 2) (fs := [.null, .null, .null, .int 0, .int 0, .int 0, .int 0, .int 0]) (v := (.ref (base + (n + 1)))) C n 0 i_D ft_D ft_D_ok n_D rfl (by omega) (by simp [va_up, Nat.add_assoc, he]) (by decide) m_66 rfl rfl ⟨rfl, rfl⟩ (Nat.le_of_ble_eq_true rfl) (Or.inr ⟨rfl, hm, rfl⟩) d_D_init_9 ?_
  refine k_aload_n C 0 d_D_init_12 rfl rfl ?_
  refine k_bipush (v := 12) C d_D_init_13 rfl ?_
  refine k_newa (t0 := 0) (N := 12) (a0 := (12, .inl (fun _ => 0))) C m_58 rfl rfl (fun _ => rfl) ⟨by decide, by decide⟩ (by decide) (by omega) ⟨Nat.le_of_ble_eq_true rfl, Nat.le_of_ble_eq_true rfl⟩ d_D_init_15 ?_
  refine k_put (ci := 2) (fs := [.ref (base + (n + 1)), .null, .null, .int 0, .int 0, .int 0, .int 0, .int 0]) (v := (.ref (base + (n + 2)))) C n 1 i_D ft_D ft_D_ok n_D rfl (by omega) (by simp [va_up, Nat.add_assoc, he]) (by decide) m_68 rfl rfl ⟨rfl, rfl⟩ (Nat.le_of_ble_eq_true rfl) (Or.inr ⟨rfl, hm, rfl⟩) d_D_init_17 ?_
  refine k_aload_n C 0 d_D_init_20 rfl rfl ?_
  refine k_bipush (v := 12) C d_D_init_21 rfl ?_
  refine k_newa (t0 := 0) (N := 12) (a0 := (12, .inl (fun _ => 0))) C m_58 rfl rfl (fun _ => rfl) ⟨by decide, by decide⟩ (by decide) (by omega) ⟨Nat.le_of_ble_eq_true rfl, Nat.le_of_ble_eq_true rfl⟩ d_D_init_23 ?_
  refine k_put (ci := 2) (fs := [.ref (base + (n + 1)), .ref (base + (n + 2)), .null, .int 0, .int 0, .int 0, .int 0, .int 0]) (v := (.ref (base + (n + 3)))) C n 2 i_D ft_D ft_D_ok n_D rfl (by omega) (by simp [va_up, Nat.add_assoc, he]) (by decide) m_71 rfl rfl ⟨rfl, rfl⟩ (Nat.le_of_ble_eq_true rfl) (Or.inr ⟨rfl, hm, rfl⟩) d_D_init_25 ?_
  refine k_iconst (v := 0) C d_D_init_28 rfl ?_
  refine k_istore_n (lv2 := [(1, .int (nI 0)), (0, .ref (base + n))]) C d_D_init_29 rfl (by decide) rfl ?_
  refine k_E (E2 := dE base cs E n 0) (fun i hi => ?_) (lp_D_init C hr 12 0 rfl)
  rw [show dE base cs E n 0 = dE base cs E n 0 from rfl]
  simp only [va_up, dE, List.set, neg_0]
  repeat' split
  all_goals first | rfl | omega
