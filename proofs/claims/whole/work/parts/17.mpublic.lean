/-! ===== the reference's public methods ===== -/
def dpM (a : St) (k : Nat) : Nat → St
  | 0 => a
  | i + 1 => up2 (dpM a k i) 8 (4 * k + i) 1
def bvM (a : St) (q : Nat) : St := up2 a 4 q (a 4 q + 1)
def blM (a : St) (q : Nat) : St := up2 a 7 q (a 7 q + 1)
theorem wlS_t {q i : Nat} {b : St} (h : b 8 i ≤ 0) : wlS q i b = b := by unfold wlS; rw [bt h]
theorem wlS_f {q i : Nat} {b : St} (h : ¬ b 8 i ≤ 0) : wlS q i b = wiM b q i (b 8 i - 1) := by unfold wlS; rw [bf h]
def sgr (a : St) (g : Nat) (x y z : Int32) : St := up2 (up2 (up2 a 9 g x) 10 g y) 11 g z
def ajM (a : St) (j : Nat) (x0 x1 x2 x3 x4 : Int32) : St := up2 (up2 (up2 (up2 (up2 (up2 a 12 j x0) 13 j x1) 14 j x2) 15 j x3) 16 j x4) 17 j 0
def icM (a : St) : St := up2 a 0 12 (a 0 12 + 1)
def ijb (p : Int32) (jc : Nat) : Bool := inb p 0 (nI jc - 1)
theorem ijb_t {p : Int32} {jc : Nat} (hjc : jc ≤ 8) (h : ijb p jc = true) : inR p jc := by
  unfold ijb at h
  cases jc with
  | zero =>
    obtain ⟨h1, h2⟩ := inb_t h
    obtain ⟨j, hj, rfl⟩ := nI_of h1
    exact absurd (show nI 0 - 1 < nI j by
      rw [Int32.lt_iff_toInt_lt, nI_toInt hj, show (nI 0 - 1).toInt = -1 by decide]
      omega) h2
  | succ n =>
    rw [nI_pred] at h
    exact inb_R (by omega) h
theorem ijb_f {p : Int32} {jc : Nat} (hjc : jc ≤ 8) (h : ijb p jc = false) : ¬ inR p jc := by
  unfold ijb at h
  cases jc with
  | zero =>
    rintro ⟨k, hk, -⟩
    omega
  | succ n =>
    rw [nI_pred] at h
    exact inb_nR (by omega) h

set_option maxHeartbeats 4000000 in
set_option maxRecDepth 100000 in
theorem c_M_put {l : Launch} {D : va_G} {cs : Nat → ClassId} {ad : Nat → Nat} {st mt : Nat → Nat → Int32} {ov : Nat → Int64} {p0 p1 : Int32} : gM l y_M_put b_M_put 3 (some .int) ({ frames := 2, cells := 0, slots := 0, locals := 42 } : Room) 0 0 [.ref (ad 50), .int p0, .int p1] D cs ad st mt ov (QMi D cs ad st ov (fun r u => (inb p0 0 11 = false ∧ u = thr mt 1 ∧ r = 0) ∨ (∃ k, k < 12 ∧ p0 = nI k ∧ ((inb p1 (-1) 99 = false ∧ u = thr mt 2 ∧ r = 0) ∨ (inb p1 (-1) 99 = true ∧ u = up2 (thr mt 0) 8 k (p1 + 2) ∧ r = drM u 12))))) := by
  refine gM_of (own := "TwinRegisterModel") (by decide +kernel) rfl (Nat.le_of_ble_eq_true rfl) ?_
  intro p e s m args below meth c C hr
  refine w_lv (lv2 := [(0, .ref (ad 50)), (1, .int p0), (2, .int p1)]) [0, 1, 2] rfl ?_
  refine w_aload_n C 0 d_M_put_0 rfl rfl ?_
  refine w_iload_n C 1 d_M_put_1 rfl rfl ?_
  refine w_callMi C (w_runS C (c_M_isLeaf ) m_644 m_645 m_41 m_646 ⟨rfl, rfl⟩ hd_M_isLeaf rfl ⟨Nat.le_of_ble_eq_true rfl, Nat.le_of_ble_eq_true rfl⟩ rfl (Nat.le_of_ble_eq_true rfl) d_M_put_2 ⟨Nat.le_of_ble_eq_true rfl, Nat.le_of_ble_eq_true rfl⟩) (fun r2 u2 h2 => ?_)
  obtain ⟨rfl, h2⟩ := h2; have h2 := h2.symm; subst h2
  refine w_ifb_ne C 12 d_M_put_5 (by decide) (fun h5 => ?_) (fun h5 => ?_)
  · skip
    obtain ⟨k, hk, rfl⟩ := inb_R (n := 11) (by decide) h5
    refine w_iload_n C 2 d_M_put_12 rfl rfl ?_
    refine w_iconst (v := (-1)) C d_M_put_13 rfl ?_
    refine w_bipush (v := 99) C d_M_put_14 rfl ?_
    refine w_callMi C (w_runS C (c_M_in ) m_647 m_648 m_41 m_649 ⟨rfl, rfl⟩ hd_M_in rfl ⟨Nat.le_of_ble_eq_true rfl, Nat.le_of_ble_eq_true rfl⟩ rfl (Nat.le_of_ble_eq_true rfl) d_M_put_16 ⟨Nat.le_of_ble_eq_true rfl, Nat.le_of_ble_eq_true rfl⟩) (fun r16 u16 h16 => ?_)
    obtain ⟨rfl, h16⟩ := h16; have h16 := h16.symm; subst h16
    refine w_ifb_eq C 26 d_M_put_19 (by decide) (fun h19 => ?_) (fun h19 => ?_)
    · skip
      refine w_iconst (v := 2) C d_M_put_26 rfl ?_
      refine p_M_thrown C m_568 d_M_put_27 ?_
      refine w_mt (mt2 := (thr mt 2)) rfl ?_
      refine w_aload_n C 0 d_M_put_30 rfl rfl ?_
      refine g_M_thrown C m_568 d_M_put_31 ?_
      refine w_topi (y := 2) rfl ?_
      refine w_if_le_f C 39 d_M_put_34 (by decide) (by decide) ?_
      refine w_iconst (v := 0) C d_M_put_37 rfl ?_
      exact w_iretM C hr d_M_put_38 (Or.inr ⟨k, hk, rfl, Or.inl ⟨h19, rfl, rfl⟩⟩)
    · skip
      refine w_iconst (v := 0) C d_M_put_22 rfl ?_
      refine w_goto C 27 d_M_put_23 (by decide) ?_
      refine p_M_thrown C m_568 d_M_put_27 ?_
      refine w_mt (mt2 := (thr mt 0)) rfl ?_
      refine w_aload_n C 0 d_M_put_30 rfl rfl ?_
      refine g_M_thrown C m_568 d_M_put_31 ?_
      refine w_topi (y := 0) rfl ?_
      refine w_if_le_t C 39 d_M_put_34 (by decide) (by decide) ?_
      refine w_aload_n C 0 d_M_put_39 rfl rfl ?_
      refine g_M_draft C m_576 d_M_put_40 ?_
      refine w_iload_n C 1 d_M_put_43 rfl rfl ?_
      refine w_iload_n C 2 d_M_put_44 rfl rfl ?_
      refine w_iconst (v := 2) C d_M_put_45 rfl ?_
      refine w_iadd C d_M_put_46 ?_
      refine is_MA C 8 (by omega) (by omega) rfl rfl (show _ < 12 by omega) d_M_put_47 ?_
      refine w_aload_n C 0 d_M_put_48 rfl rfl ?_
      refine w_callMi C (w_runV C (c_M_drafted ) (by omega) e_M rfl rfl m_650 m_652 m_23 m_41 m_653 ⟨rfl, rfl⟩ hd_M_drafted rfl ⟨Nat.le_of_ble_eq_true rfl, Nat.le_of_ble_eq_true rfl⟩ rfl (Nat.le_of_ble_eq_true rfl) d_M_put_49 ⟨Nat.le_of_ble_eq_true rfl, Nat.le_of_ble_eq_true rfl⟩) (fun r49 u49 h49 => ?_)
      obtain ⟨rfl, h49⟩ := h49; have h49 := h49.symm; subst h49
      exact w_iretM C hr d_M_put_52 (Or.inr ⟨k, hk, rfl, Or.inr ⟨h19, rfl, rfl⟩⟩)
  · skip
    refine w_iconst (v := 1) C d_M_put_8 rfl ?_
    refine w_goto C 27 d_M_put_9 (by decide) ?_
    refine p_M_thrown C m_568 d_M_put_27 ?_
    refine w_mt (mt2 := (thr mt 1)) rfl ?_
    refine w_aload_n C 0 d_M_put_30 rfl rfl ?_
    refine g_M_thrown C m_568 d_M_put_31 ?_
    refine w_topi (y := 1) rfl ?_
    refine w_if_le_f C 39 d_M_put_34 (by decide) (by decide) ?_
    refine w_iconst (v := 0) C d_M_put_37 rfl ?_
    exact w_iretM C hr d_M_put_38 (Or.inl ⟨h5, rfl, rfl⟩)
set_option maxHeartbeats 4000000 in
set_option maxRecDepth 100000 in
theorem l_M_drop {p : Program} {l : Launch} {e : Env} {s : State} {m : MethodId} {args : Array Value} {below : List Frame} {meth : Method} {c : Code} {Q : State → Prop} {D : va_G} {cs : Nat → ClassId} {ad : Nat → Nat} {A : Nat → Prop} {cells slots : Nat} {st mt : Nat → Nat → Int32} {ov : Nat → Int64} {k : Nat} (hk : k < 3) (C : Cx p s m args meth c D cs ad A b_M_drop 3 "TwinRegisterModel") (hcs : cells ≤ 0 ∧ slots ≤ 0)
    (kx : Wg p l e ({ frames := 1, cells := 0, slots := 0, locals := 22 } : Room) s m args below meth c Q D cs ad A 3 cells slots 53 [(0, .ref (ad 50)), (1, .int (nI k)), (2, .int (nI (4 * k + 4)))] [] st (dpM mt k 4) ov) : ∀ n i : Nat, i + n = 4 → Wg p l e ({ frames := 1, cells := 0, slots := 0, locals := 22 } : Room) s m args below meth c Q D cs ad A 3 cells slots 31 [(0, .ref (ad 50)), (1, .int (nI k)), (2, .int (nI (4 * k + i)))] [] st (dpM mt k i) ov := by
  intro n
  induction n with
  | zero =>
    intro i hi
    have hi9 : 4 = i := by omega
    subst hi9
    refine w_iload_n C 2 d_M_drop_31 rfl rfl ?_
    refine w_iconst (v := 4) C d_M_drop_32 rfl ?_
    refine w_iload_n C 1 d_M_drop_33 rfl rfl ?_
    refine w_imul C d_M_drop_34 ?_
    refine w_topi (y := (nI (4 * k))) (pk_mul 4 k) ?_
    refine w_iconst (v := 4) C d_M_drop_35 rfl ?_
    refine w_iadd C d_M_drop_36 ?_
    refine w_topi (y := (nI (4 * k + 4))) (nI_add (4 * k) 4) ?_
    refine w_icmp_ge_t C 53 d_M_drop_37 (by decide) (nI_le (a := 4 * k + 4) (b := 4 * k + 4) (Nat.le_refl _) (by omega)) ?_
    exact w_lv [0, 1, 2] rfl kx
  | succ n ih =>
    intro i hi
    have hi2 : i < 4 := by omega
    refine w_iload_n C 2 d_M_drop_31 rfl rfl ?_
    refine w_iconst (v := 4) C d_M_drop_32 rfl ?_
    refine w_iload_n C 1 d_M_drop_33 rfl rfl ?_
    refine w_imul C d_M_drop_34 ?_
    refine w_topi (y := (nI (4 * k))) (pk_mul 4 k) ?_
    refine w_iconst (v := 4) C d_M_drop_35 rfl ?_
    refine w_iadd C d_M_drop_36 ?_
    refine w_topi (y := (nI (4 * k + 4))) (nI_add (4 * k) 4) ?_
    refine w_icmp_ge_f C 53 d_M_drop_37 (by decide) (nI_ge (a := 4 * k + i) (b := 4 * k + 4) (by omega) (by omega)) ?_
    refine w_aload_n C 0 d_M_drop_40 rfl rfl ?_
    refine g_M_draft C m_576 d_M_drop_41 ?_
    refine w_iload_n C 2 d_M_drop_44 rfl rfl ?_
    refine w_iconst (v := 1) C d_M_drop_45 rfl ?_
    refine is_MA C 8 (by omega) (by omega) rfl rfl (show _ < 12 by omega) d_M_drop_46 ?_
    refine w_iinc (lv2 := [(2, .int (nI ((4 * k + i) + 1))), (0, .ref (ad 50)), (1, .int (nI k))]) C 2 d_M_drop_47 rfl (nI_1 _) (by decide) rfl ?_
    refine w_goto C 31 d_M_drop_50 (by decide) ?_
    refine w_mt (mt2 := dpM mt k (i + 1)) (rfl) ?_
    exact w_lv [1, 2, 0] rfl (ih (i + 1) (by omega))
set_option maxHeartbeats 4000000 in
set_option maxRecDepth 100000 in
theorem c_M_drop {l : Launch} {D : va_G} {cs : Nat → ClassId} {ad : Nat → Nat} {st mt : Nat → Nat → Int32} {ov : Nat → Int64} {p0 : Int32} : gM l y_M_drop b_M_drop 3 (some .int) ({ frames := 1, cells := 0, slots := 0, locals := 22 } : Room) 0 0 [.ref (ad 50), .int p0] D cs ad st mt ov (QMi D cs ad st ov (fun r u => (inb p0 0 2 = false ∧ u = thr mt 1 ∧ r = 0) ∨ (∃ k, k < 3 ∧ p0 = nI k ∧ u = dpM (thr mt 0) k 4 ∧ r = drM u 12))) := by
  refine gM_of (own := "TwinRegisterModel") (by decide +kernel) rfl (Nat.le_of_ble_eq_true rfl) ?_
  intro p e s m args below meth c C hr
  refine w_lv (lv2 := [(0, .ref (ad 50)), (1, .int p0)]) [0, 1] rfl ?_
  refine w_aload_n C 0 d_M_drop_0 rfl rfl ?_
  refine w_iload_n C 1 d_M_drop_1 rfl rfl ?_
  refine w_iconst (v := 0) C d_M_drop_2 rfl ?_
  refine w_iconst (v := 2) C d_M_drop_3 rfl ?_
  refine w_callMi C (w_runS C (c_M_in ) m_647 m_648 m_41 m_649 ⟨rfl, rfl⟩ hd_M_in rfl ⟨Nat.le_of_ble_eq_true rfl, Nat.le_of_ble_eq_true rfl⟩ rfl (Nat.le_of_ble_eq_true rfl) d_M_drop_4 ⟨Nat.le_of_ble_eq_true rfl, Nat.le_of_ble_eq_true rfl⟩) (fun r4 u4 h4 => ?_)
  obtain ⟨rfl, h4⟩ := h4; have h4 := h4.symm; subst h4
  refine w_ifb_eq C 14 d_M_drop_7 (by decide) (fun h7 => ?_) (fun h7 => ?_)
  · skip
    refine w_iconst (v := 1) C d_M_drop_14 rfl ?_
    refine p_M_thrown C m_568 d_M_drop_15 ?_
    refine w_mt (mt2 := (thr mt 1)) rfl ?_
    refine w_aload_n C 0 d_M_drop_18 rfl rfl ?_
    refine g_M_thrown C m_568 d_M_drop_19 ?_
    refine w_topi (y := 1) rfl ?_
    refine w_if_le_f C 27 d_M_drop_22 (by decide) (by decide) ?_
    refine w_iconst (v := 0) C d_M_drop_25 rfl ?_
    exact w_iretM C hr d_M_drop_26 (Or.inl ⟨h7, rfl, rfl⟩)
  · skip
    obtain ⟨k, hk, rfl⟩ := inb_R (n := 2) (by decide) h7
    refine w_iconst (v := 0) C d_M_drop_10 rfl ?_
    refine w_goto C 15 d_M_drop_11 (by decide) ?_
    refine p_M_thrown C m_568 d_M_drop_15 ?_
    refine w_mt (mt2 := (thr mt 0)) rfl ?_
    refine w_aload_n C 0 d_M_drop_18 rfl rfl ?_
    refine g_M_thrown C m_568 d_M_drop_19 ?_
    refine w_topi (y := 0) rfl ?_
    refine w_if_le_t C 27 d_M_drop_22 (by decide) (by decide) ?_
    refine w_iconst (v := 4) C d_M_drop_27 rfl ?_
    refine w_iload_n C 1 d_M_drop_28 rfl rfl ?_
    refine w_imul C d_M_drop_29 ?_
    refine w_topi (y := (nI (4 * k + 0))) (pk_mul 4 k) ?_
    refine w_istore_n (lv2 := [(2, .int (nI (4 * k + 0))), (0, .ref (ad 50)), (1, .int (nI k))]) C d_M_drop_30 rfl (by decide) rfl ?_
    refine w_lv (lv2 := [(0, .ref (ad 50)), (1, .int (nI k)), (2, .int (nI (4 * k + 0)))]) [1, 2, 0] rfl ?_
    refine l_M_drop (mt := thr mt 0) hk C ⟨Nat.le_of_ble_eq_true rfl, Nat.le_of_ble_eq_true rfl⟩ ?_ 4 0 rfl
    refine w_aload_n C 0 d_M_drop_53 rfl rfl ?_
    refine w_callMi C (w_runV C (c_M_drafted ) (by omega) e_M rfl rfl m_650 m_652 m_23 m_41 m_653 ⟨rfl, rfl⟩ hd_M_drafted rfl ⟨Nat.le_of_ble_eq_true rfl, Nat.le_of_ble_eq_true rfl⟩ rfl (Nat.le_of_ble_eq_true rfl) d_M_drop_54 ⟨Nat.le_of_ble_eq_true rfl, Nat.le_of_ble_eq_true rfl⟩) (fun r54 u54 h54 => ?_)
    obtain ⟨rfl, h54⟩ := h54; have h54 := h54.symm; subst h54
    exact w_iretM C hr d_M_drop_57 (Or.inr ⟨k, hk, rfl, rfl, rfl⟩)
set_option maxHeartbeats 4000000 in
set_option maxRecDepth 100000 in
theorem l_M_wish {p : Program} {l : Launch} {e : Env} {s : State} {m : MethodId} {args : Array Value} {below : List Frame} {meth : Method} {c : Code} {Q : State → Prop} {D : va_G} {cs : Nat → ClassId} {ad : Nat → Nat} {A : Nat → Prop} {cells slots : Nat} {st mt : Nat → Nat → Int32} {ov : Nat → Int64} {q : Nat} (hq : q < 8) {p1 : Int32} (C : Cx p s m args meth c D cs ad A b_M_wish 4 "TwinRegisterModel") (hcs : cells ≤ 0 ∧ slots ≤ 0)
    (kx : Wg p l e ({ frames := 2, cells := 0, slots := 0, locals := 42 } : Room) s m args below meth c Q D cs ad A 4 cells slots 100 [(0, .ref (ad 50)), (1, .int (nI q)), (2, .int p1), (3, .int (nI 12))] [] st (wlM mt q 12) ov) : ∀ n i : Nat, i + n = 12 → Wg p l e ({ frames := 2, cells := 0, slots := 0, locals := 42 } : Room) s m args below meth c Q D cs ad A 4 cells slots 65 [(0, .ref (ad 50)), (1, .int (nI q)), (2, .int p1), (3, .int (nI i))] [] st (wlM mt q i) ov := by
  intro n
  induction n with
  | zero =>
    intro i hi
    have hi9 : 12 = i := by omega
    subst hi9
    refine w_iload_n C 3 d_M_wish_65 rfl rfl ?_
    refine w_bipush (v := 12) C d_M_wish_66 rfl ?_
    refine w_icmp_ge_t C 100 d_M_wish_68 (by decide) (nI_le (a := 12) (b := 12) (Nat.le_refl _) (by decide)) ?_
    exact w_lv [0, 1, 2, 3] rfl kx
  | succ n ih =>
    intro i hi
    have hi2 : i < 12 := by omega
    refine w_iload_n C 3 d_M_wish_65 rfl rfl ?_
    refine w_bipush (v := 12) C d_M_wish_66 rfl ?_
    refine w_icmp_ge_f C 100 d_M_wish_68 (by decide) (nI_ge (b := 12) hi2 (by decide)) ?_
    refine w_aload_n C 0 d_M_wish_71 rfl rfl ?_
    refine g_M_draft C m_576 d_M_wish_72 ?_
    refine w_iload_n C 3 d_M_wish_75 rfl rfl ?_
    refine ia_MA C 8 (by omega) (by omega) rfl rfl (show _ < 12 by omega) d_M_wish_76 ?_
    refine w_if_le C 94 d_M_wish_77 (by decide) (fun h77 => ?_) (fun h77 => ?_)
    · skip
      refine w_iinc (lv2 := [(3, .int (nI (i + 1))), (0, .ref (ad 50)), (1, .int (nI q)), (2, .int p1)]) C 3 d_M_wish_94 rfl (nI_1 _) (by decide) rfl ?_
      refine w_goto C 65 d_M_wish_97 (by decide) ?_
      refine w_mt (mt2 := wlM mt q (i + 1)) ((show wlM mt q (i + 1) = _ from wlS_t h77).symm) ?_
      exact w_lv [1, 2, 3, 0] rfl (ih (i + 1) (by omega))
    · skip
      refine w_aload_n C 0 d_M_wish_80 rfl rfl ?_
      refine w_iload_n C 1 d_M_wish_81 rfl rfl ?_
      refine w_iload_n C 3 d_M_wish_82 rfl rfl ?_
      refine w_aload_n C 0 d_M_wish_83 rfl rfl ?_
      refine g_M_draft C m_576 d_M_wish_84 ?_
      refine w_iload_n C 3 d_M_wish_87 rfl rfl ?_
      refine ia_MA C 8 (by omega) (by omega) rfl rfl (show _ < 12 by omega) d_M_wish_88 ?_
      refine w_iconst (v := 1) C d_M_wish_89 rfl ?_
      refine w_isub C d_M_wish_90 ?_
      refine w_callMv C (w_runV C (c_M_wishes (by omega) (by omega)) (by omega) e_M rfl rfl m_665 m_667 m_24 m_41 m_668 ⟨rfl, rfl⟩ hd_M_wishes rfl ⟨Nat.le_of_ble_eq_true rfl, Nat.le_of_ble_eq_true rfl⟩ rfl (Nat.le_of_ble_eq_true rfl) d_M_wish_91 hcs) (fun u91 h91 => ?_)
      subst h91
      refine w_iinc (lv2 := [(3, .int (nI (i + 1))), (0, .ref (ad 50)), (1, .int (nI q)), (2, .int p1)]) C 3 d_M_wish_94 rfl (nI_1 _) (by decide) rfl ?_
      refine w_goto C 65 d_M_wish_97 (by decide) ?_
      refine w_mt (mt2 := wlM mt q (i + 1)) ((show wlM mt q (i + 1) = _ from wlS_f h77).symm) ?_
      exact w_lv [1, 2, 3, 0] rfl (ih (i + 1) (by omega))
set_option maxHeartbeats 4000000 in
set_option maxRecDepth 100000 in
theorem c_M_wish {l : Launch} {D : va_G} {cs : Nat → ClassId} {ad : Nat → Nat} {st mt : Nat → Nat → Int32} {ov : Nat → Int64} {p0 p1 : Int32} : gM l y_M_wish b_M_wish 4 (some .int) ({ frames := 2, cells := 0, slots := 0, locals := 42 } : Room) 0 0 [.ref (ad 50), .int p0, .int p1] D cs ad st mt ov (QMi D cs ad st ov (fun r u => (inb p0 0 7 = false ∧ u = thr mt 1 ∧ r = 0) ∨ (∃ q, q < 8 ∧ p0 = nI q ∧ (((drM (thr mt 0) 12 = 0 ∨ (¬ p1 = -1 ∧ ¬ p1 = thr mt 0 4 q)) ∧ u = thr (thr mt 0) 2 ∧ r = 0) ∨ (¬ drM (thr mt 0) 12 = 0 ∧ (p1 = -1 ∨ p1 = thr mt 0 4 q) ∧ u = bvM (emM (wlM (thr (thr mt 0) 0) q 12) 12) q ∧ r = u 4 q))))) := by
  refine gM_of (own := "TwinRegisterModel") (by decide +kernel) rfl (Nat.le_of_ble_eq_true rfl) ?_
  intro p e s m args below meth c C hr
  refine w_lv (lv2 := [(0, .ref (ad 50)), (1, .int p0), (2, .int p1)]) [0, 1, 2] rfl ?_
  refine w_aload_n C 0 d_M_wish_0 rfl rfl ?_
  refine w_iload_n C 1 d_M_wish_1 rfl rfl ?_
  refine w_callMi C (w_runS C (c_M_isDevice ) m_662 m_663 m_41 m_664 ⟨rfl, rfl⟩ hd_M_isDevice rfl ⟨Nat.le_of_ble_eq_true rfl, Nat.le_of_ble_eq_true rfl⟩ rfl (Nat.le_of_ble_eq_true rfl) d_M_wish_2 ⟨Nat.le_of_ble_eq_true rfl, Nat.le_of_ble_eq_true rfl⟩) (fun r2 u2 h2 => ?_)
  obtain ⟨rfl, h2⟩ := h2; have h2 := h2.symm; subst h2
  refine w_ifb_eq C 12 d_M_wish_5 (by decide) (fun h5 => ?_) (fun h5 => ?_)
  · skip
    refine w_iconst (v := 1) C d_M_wish_12 rfl ?_
    refine p_M_thrown C m_568 d_M_wish_13 ?_
    refine w_mt (mt2 := (thr mt 1)) rfl ?_
    refine w_aload_n C 0 d_M_wish_16 rfl rfl ?_
    refine g_M_thrown C m_568 d_M_wish_17 ?_
    refine w_topi (y := 1) rfl ?_
    refine w_if_ne_t C 54 d_M_wish_20 (by decide) (by decide) ?_
    refine w_aload_n C 0 d_M_wish_54 rfl rfl ?_
    refine g_M_thrown C m_568 d_M_wish_55 ?_
    refine w_topi (y := 1) rfl ?_
    refine w_if_le_f C 63 d_M_wish_58 (by decide) (by decide) ?_
    refine w_iconst (v := 0) C d_M_wish_61 rfl ?_
    exact w_iretM C hr d_M_wish_62 (Or.inl ⟨h5, rfl, rfl⟩)
  · skip
    obtain ⟨q, hq, rfl⟩ := inb_R (n := 7) (by decide) h5
    refine w_iconst (v := 0) C d_M_wish_8 rfl ?_
    refine w_goto C 13 d_M_wish_9 (by decide) ?_
    refine p_M_thrown C m_568 d_M_wish_13 ?_
    refine w_mt (mt2 := (thr mt 0)) rfl ?_
    refine w_aload_n C 0 d_M_wish_16 rfl rfl ?_
    refine g_M_thrown C m_568 d_M_wish_17 ?_
    refine w_topi (y := 0) rfl ?_
    refine w_if_ne_f C 54 d_M_wish_20 (by decide) (by decide) ?_
    refine w_aload_n C 0 d_M_wish_23 rfl rfl ?_
    refine w_aload_n C 0 d_M_wish_24 rfl rfl ?_
    refine w_callMi C (w_runV C (c_M_drafted ) (by omega) e_M rfl rfl m_650 m_652 m_23 m_41 m_653 ⟨rfl, rfl⟩ hd_M_drafted rfl ⟨Nat.le_of_ble_eq_true rfl, Nat.le_of_ble_eq_true rfl⟩ rfl (Nat.le_of_ble_eq_true rfl) d_M_wish_25 ⟨Nat.le_of_ble_eq_true rfl, Nat.le_of_ble_eq_true rfl⟩) (fun r25 u25 h25 => ?_)
    obtain ⟨rfl, h25⟩ := h25; have h25 := h25.symm; subst h25
    refine w_if_eq C 46 d_M_wish_28 (by decide) (fun h28 => ?_) (fun h28 => ?_)
    · skip
      refine w_iconst (v := 2) C d_M_wish_46 rfl ?_
      refine w_goto C 51 d_M_wish_47 (by decide) ?_
      refine p_M_thrown C m_568 d_M_wish_51 ?_
      refine w_mt (mt2 := (thr (thr mt 0) 2)) rfl ?_
      refine w_aload_n C 0 d_M_wish_54 rfl rfl ?_
      refine g_M_thrown C m_568 d_M_wish_55 ?_
      refine w_topi (y := 2) rfl ?_
      refine w_if_le_f C 63 d_M_wish_58 (by decide) (by decide) ?_
      refine w_iconst (v := 0) C d_M_wish_61 rfl ?_
      exact w_iretM C hr d_M_wish_62 (Or.inr ⟨q, hq, rfl, Or.inl ⟨Or.inl h28, rfl, rfl⟩⟩)
    · skip
      refine w_iload_n C 2 d_M_wish_31 rfl rfl ?_
      refine w_iconst (v := (-1)) C d_M_wish_32 rfl ?_
      refine w_icmp_eq C 50 d_M_wish_33 (by decide) (fun h33 => ?_) (fun h33 => ?_)
      · skip
        refine w_iconst (v := 0) C d_M_wish_50 rfl ?_
        refine p_M_thrown C m_568 d_M_wish_51 ?_
        refine w_mt (mt2 := (thr (thr mt 0) 0)) rfl ?_
        refine w_aload_n C 0 d_M_wish_54 rfl rfl ?_
        refine g_M_thrown C m_568 d_M_wish_55 ?_
        refine w_topi (y := 0) rfl ?_
        refine w_if_le_t C 63 d_M_wish_58 (by decide) (by decide) ?_
        refine w_iconst (v := 0) C d_M_wish_63 rfl ?_
        refine w_istore_n (lv2 := [(3, .int 0), (0, .ref (ad 50)), (1, .int (nI q)), (2, .int p1)]) C d_M_wish_64 rfl (by decide) rfl ?_
        refine w_lv (lv2 := [(0, .ref (ad 50)), (1, .int (nI q)), (2, .int p1), (3, .int (nI 0))]) [1, 2, 3, 0] rfl ?_
        refine l_M_wish (mt := thr (thr mt 0) 0) hq C ⟨Nat.le_of_ble_eq_true rfl, Nat.le_of_ble_eq_true rfl⟩ ?_ 12 0 rfl
        refine w_aload_n C 0 d_M_wish_100 rfl rfl ?_
        refine w_callMv C (w_runV C (c_M_empties ) (by omega) e_M rfl rfl m_669 m_671 m_25 m_41 m_672 ⟨rfl, rfl⟩ hd_M_empties rfl ⟨Nat.le_of_ble_eq_true rfl, Nat.le_of_ble_eq_true rfl⟩ rfl (Nat.le_of_ble_eq_true rfl) d_M_wish_101 ⟨Nat.le_of_ble_eq_true rfl, Nat.le_of_ble_eq_true rfl⟩) (fun u101 h101 => ?_)
        subst h101
        refine w_aload_n C 0 d_M_wish_104 rfl rfl ?_
        refine g_M_version C m_572 d_M_wish_105 ?_
        refine w_iload_n C 1 d_M_wish_108 rfl rfl ?_
        refine w_dup2 C d_M_wish_109 rfl rfl ?_
        refine ia_MA C 4 (by omega) (by omega) rfl rfl (show _ < 8 by omega) d_M_wish_110 ?_
        refine w_iconst (v := 1) C d_M_wish_111 rfl ?_
        refine w_iadd C d_M_wish_112 ?_
        refine is_MA C 4 (by omega) (by omega) rfl rfl (show _ < 8 by omega) d_M_wish_113 ?_
        refine w_aload_n C 0 d_M_wish_114 rfl rfl ?_
        refine g_M_version C m_572 d_M_wish_115 ?_
        refine w_iload_n C 1 d_M_wish_118 rfl rfl ?_
        refine ia_MA C 4 (by omega) (by omega) rfl rfl (show _ < 8 by omega) d_M_wish_119 ?_
        exact w_iretM C hr d_M_wish_120 (Or.inr ⟨q, hq, rfl, Or.inr ⟨h28, Or.inl h33, rfl, rfl⟩⟩)
      · skip
        refine w_iload_n C 2 d_M_wish_36 rfl rfl ?_
        refine w_aload_n C 0 d_M_wish_37 rfl rfl ?_
        refine g_M_version C m_572 d_M_wish_38 ?_
        refine w_iload_n C 1 d_M_wish_41 rfl rfl ?_
        refine ia_MA C 4 (by omega) (by omega) rfl rfl (show _ < 8 by omega) d_M_wish_42 ?_
        refine w_icmp_eq C 50 d_M_wish_43 (by decide) (fun h43 => ?_) (fun h43 => ?_)
        · skip
          refine w_iconst (v := 0) C d_M_wish_50 rfl ?_
          refine p_M_thrown C m_568 d_M_wish_51 ?_
          refine w_mt (mt2 := (thr (thr mt 0) 0)) rfl ?_
          refine w_aload_n C 0 d_M_wish_54 rfl rfl ?_
          refine g_M_thrown C m_568 d_M_wish_55 ?_
          refine w_topi (y := 0) rfl ?_
          refine w_if_le_t C 63 d_M_wish_58 (by decide) (by decide) ?_
          refine w_iconst (v := 0) C d_M_wish_63 rfl ?_
          refine w_istore_n (lv2 := [(3, .int 0), (0, .ref (ad 50)), (1, .int (nI q)), (2, .int p1)]) C d_M_wish_64 rfl (by decide) rfl ?_
          refine w_lv (lv2 := [(0, .ref (ad 50)), (1, .int (nI q)), (2, .int p1), (3, .int (nI 0))]) [1, 2, 3, 0] rfl ?_
          refine l_M_wish (mt := thr (thr mt 0) 0) hq C ⟨Nat.le_of_ble_eq_true rfl, Nat.le_of_ble_eq_true rfl⟩ ?_ 12 0 rfl
          refine w_aload_n C 0 d_M_wish_100 rfl rfl ?_
          refine w_callMv C (w_runV C (c_M_empties ) (by omega) e_M rfl rfl m_669 m_671 m_25 m_41 m_672 ⟨rfl, rfl⟩ hd_M_empties rfl ⟨Nat.le_of_ble_eq_true rfl, Nat.le_of_ble_eq_true rfl⟩ rfl (Nat.le_of_ble_eq_true rfl) d_M_wish_101 ⟨Nat.le_of_ble_eq_true rfl, Nat.le_of_ble_eq_true rfl⟩) (fun u101 h101 => ?_)
          subst h101
          refine w_aload_n C 0 d_M_wish_104 rfl rfl ?_
          refine g_M_version C m_572 d_M_wish_105 ?_
          refine w_iload_n C 1 d_M_wish_108 rfl rfl ?_
          refine w_dup2 C d_M_wish_109 rfl rfl ?_
          refine ia_MA C 4 (by omega) (by omega) rfl rfl (show _ < 8 by omega) d_M_wish_110 ?_
          refine w_iconst (v := 1) C d_M_wish_111 rfl ?_
          refine w_iadd C d_M_wish_112 ?_
          refine is_MA C 4 (by omega) (by omega) rfl rfl (show _ < 8 by omega) d_M_wish_113 ?_
          refine w_aload_n C 0 d_M_wish_114 rfl rfl ?_
          refine g_M_version C m_572 d_M_wish_115 ?_
          refine w_iload_n C 1 d_M_wish_118 rfl rfl ?_
          refine ia_MA C 4 (by omega) (by omega) rfl rfl (show _ < 8 by omega) d_M_wish_119 ?_
          exact w_iretM C hr d_M_wish_120 (Or.inr ⟨q, hq, rfl, Or.inr ⟨h28, Or.inr h43, rfl, rfl⟩⟩)
        · skip
          refine w_iconst (v := 2) C d_M_wish_46 rfl ?_
          refine w_goto C 51 d_M_wish_47 (by decide) ?_
          refine p_M_thrown C m_568 d_M_wish_51 ?_
          refine w_mt (mt2 := (thr (thr mt 0) 2)) rfl ?_
          refine w_aload_n C 0 d_M_wish_54 rfl rfl ?_
          refine g_M_thrown C m_568 d_M_wish_55 ?_
          refine w_topi (y := 2) rfl ?_
          refine w_if_le_f C 63 d_M_wish_58 (by decide) (by decide) ?_
          refine w_iconst (v := 0) C d_M_wish_61 rfl ?_
          exact w_iretM C hr d_M_wish_62 (Or.inr ⟨q, hq, rfl, Or.inl ⟨Or.inr ⟨h33, h43⟩, rfl, rfl⟩⟩)
set_option maxHeartbeats 4000000 in
set_option maxRecDepth 100000 in
theorem l_M_report {p : Program} {l : Launch} {e : Env} {s : State} {m : MethodId} {args : Array Value} {below : List Frame} {meth : Method} {c : Code} {Q : State → Prop} {D : va_G} {cs : Nat → ClassId} {ad : Nat → Nat} {A : Nat → Prop} {cells slots : Nat} {st mt : Nat → Nat → Int32} {ov : Nat → Int64} {q : Nat} (hq : q < 8) {p1 : Int32} (C : Cx p s m args meth c D cs ad A b_M_report 5 "TwinRegisterModel") (hcs : cells ≤ 0 ∧ slots ≤ 0)
    (kx : Wg p l e ({ frames := 2, cells := 0, slots := 0, locals := 46 } : Room) s m args below meth c Q D cs ad A 5 cells slots 153 [(0, .ref (ad 50)), (1, .int (nI q)), (2, .int p1), (3, .int 1), (4, .int (nI 12))] [] st (rpM mt q 12) ov) : ∀ n i : Nat, i + n = 12 → Wg p l e ({ frames := 2, cells := 0, slots := 0, locals := 46 } : Room) s m args below meth c Q D cs ad A 5 cells slots 90 [(0, .ref (ad 50)), (1, .int (nI q)), (2, .int p1), (3, .int 1), (4, .int (nI i))] [] st (rpM mt q i) ov := by
  intro n
  induction n with
  | zero =>
    intro i hi
    have hi9 : 12 = i := by omega
    subst hi9
    refine w_iload C 4 d_M_report_90 rfl ?_
    refine w_bipush (v := 12) C d_M_report_92 rfl ?_
    refine w_icmp_ge_t C 153 d_M_report_94 (by decide) (nI_le (a := 12) (b := 12) (Nat.le_refl _) (by decide)) ?_
    exact w_lv [0, 1, 2, 3, 4] rfl kx
  | succ n ih =>
    intro i hi
    have hi2 : i < 12 := by omega
    refine w_iload C 4 d_M_report_90 rfl ?_
    refine w_bipush (v := 12) C d_M_report_92 rfl ?_
    refine w_icmp_ge_f C 153 d_M_report_94 (by decide) (nI_ge (b := 12) hi2 (by decide)) ?_
    refine w_iload_n C 3 d_M_report_97 rfl rfl ?_
    refine w_if_eq_f C 153 d_M_report_98 (by decide) (by decide) ?_
    refine w_aload_n C 0 d_M_report_101 rfl rfl ?_
    refine g_M_reported C m_570 d_M_report_102 ?_
    refine w_bipush (v := 12) C d_M_report_105 rfl ?_
    refine w_iload_n C 1 d_M_report_107 rfl rfl ?_
    refine w_imul C d_M_report_108 ?_
    refine w_iload C 4 d_M_report_109 rfl ?_
    refine w_iadd C d_M_report_111 ?_
    refine w_topi (y := (nI (12 * q + i))) (ix12 _ _) ?_
    refine w_aload_n C 0 d_M_report_112 rfl rfl ?_
    refine g_M_draft C m_576 d_M_report_113 ?_
    refine w_iload C 4 d_M_report_116 rfl ?_
    refine ia_MA C 8 (by omega) (by omega) rfl rfl (show _ < 12 by omega) d_M_report_118 ?_
    refine w_if_le C 134 d_M_report_119 (by decide) (fun h119 => ?_) (fun h119 => ?_)
    · skip
      refine w_aload_n C 0 d_M_report_134 rfl rfl ?_
      refine g_M_reported C m_570 d_M_report_135 ?_
      refine w_bipush (v := 12) C d_M_report_138 rfl ?_
      refine w_iload_n C 1 d_M_report_140 rfl rfl ?_
      refine w_imul C d_M_report_141 ?_
      refine w_iload C 4 d_M_report_142 rfl ?_
      refine w_iadd C d_M_report_144 ?_
      refine w_topi (y := (nI (12 * q + i))) (ix12 _ _) ?_
      refine ia_MA C 2 (by omega) (by omega) rfl rfl (show _ < 96 by omega) d_M_report_145 ?_
      refine is_MA C 2 (by omega) (by omega) rfl rfl (show _ < 96 by omega) d_M_report_146 ?_
      refine w_iinc (lv2 := [(4, .int (nI (i + 1))), (0, .ref (ad 50)), (1, .int (nI q)), (2, .int p1), (3, .int 1)]) C 4 d_M_report_147 rfl (nI_1 _) (by decide) rfl ?_
      refine w_goto C 90 d_M_report_150 (by decide) ?_
      refine w_mt (mt2 := rpM mt q (i + 1)) ((show rpM mt q (i + 1) = _ from rpS_t h119).symm) ?_
      exact w_lv [1, 2, 3, 4, 0] rfl (ih (i + 1) (by omega))
    · skip
      refine w_aload_n C 0 d_M_report_122 rfl rfl ?_
      refine g_M_draft C m_576 d_M_report_123 ?_
      refine w_iload C 4 d_M_report_126 rfl ?_
      refine ia_MA C 8 (by omega) (by omega) rfl rfl (show _ < 12 by omega) d_M_report_128 ?_
      refine w_iconst (v := 1) C d_M_report_129 rfl ?_
      refine w_isub C d_M_report_130 ?_
      refine w_goto C 146 d_M_report_131 (by decide) ?_
      refine is_MA C 2 (by omega) (by omega) rfl rfl (show _ < 96 by omega) d_M_report_146 ?_
      refine w_iinc (lv2 := [(4, .int (nI (i + 1))), (0, .ref (ad 50)), (1, .int (nI q)), (2, .int p1), (3, .int 1)]) C 4 d_M_report_147 rfl (nI_1 _) (by decide) rfl ?_
      refine w_goto C 90 d_M_report_150 (by decide) ?_
      refine w_mt (mt2 := rpM mt q (i + 1)) ((show rpM mt q (i + 1) = _ from rpS_f h119).symm) ?_
      exact w_lv [1, 2, 3, 4, 0] rfl (ih (i + 1) (by omega))
set_option maxHeartbeats 4000000 in
set_option maxRecDepth 100000 in
theorem c_M_report {l : Launch} {D : va_G} {cs : Nat → ClassId} {ad : Nat → Nat} {st mt : Nat → Nat → Int32} {ov : Nat → Int64} {p0 p1 : Int32} : gM l y_M_report b_M_report 5 (some .int) ({ frames := 2, cells := 0, slots := 0, locals := 46 } : Room) 0 0 [.ref (ad 50), .int p0, .int p1] D cs ad st mt ov (QMi D cs ad st ov (fun r u => (inb p0 0 7 = false ∧ u = thr mt 1 ∧ r = 0) ∨ (∃ q, q < 8 ∧ p0 = nI q ∧ ((¬ rng p1 1 (thr mt 0 7 q + 1) ∧ u = thr (thr mt 0) 2 ∧ r = 0) ∨ (rng p1 1 (thr mt 0 7 q + 1) ∧ ¬ thr mt 0 6 q = 0 ∧ u = thr (thr mt 0) 3 ∧ r = 0) ∨ (rng p1 1 (thr mt 0 7 q + 1) ∧ thr mt 0 6 q = 0 ∧ p1 ≤ (thr (thr mt 0) 0) 7 q ∧ u = emM (up2 (thr (thr mt 0) 0) 7 q ((thr (thr mt 0) 0) 7 q + 0)) 12 ∧ r = -1) ∨ (rng p1 1 (thr mt 0 7 q + 1) ∧ thr mt 0 6 q = 0 ∧ ¬ p1 ≤ (thr (thr mt 0) 0) 7 q ∧ u = emM (blM (rpM (thr (thr mt 0) 0) q 12) q) 12 ∧ r = mnM (dgM u q 12) 12))))) := by
  refine gM_of (own := "TwinRegisterModel") (by decide +kernel) rfl (Nat.le_of_ble_eq_true rfl) ?_
  intro p e s m args below meth c C hr
  refine w_lv (lv2 := [(0, .ref (ad 50)), (1, .int p0), (2, .int p1)]) [0, 1, 2] rfl ?_
  refine w_aload_n C 0 d_M_report_0 rfl rfl ?_
  refine w_iload_n C 1 d_M_report_1 rfl rfl ?_
  refine w_callMi C (w_runS C (c_M_isDevice ) m_662 m_663 m_41 m_664 ⟨rfl, rfl⟩ hd_M_isDevice rfl ⟨Nat.le_of_ble_eq_true rfl, Nat.le_of_ble_eq_true rfl⟩ rfl (Nat.le_of_ble_eq_true rfl) d_M_report_2 ⟨Nat.le_of_ble_eq_true rfl, Nat.le_of_ble_eq_true rfl⟩) (fun r2 u2 h2 => ?_)
  obtain ⟨rfl, h2⟩ := h2; have h2 := h2.symm; subst h2
  refine w_ifb_eq C 12 d_M_report_5 (by decide) (fun h5 => ?_) (fun h5 => ?_)
  · skip
    refine w_iconst (v := 1) C d_M_report_12 rfl ?_
    refine p_M_thrown C m_568 d_M_report_13 ?_
    refine w_mt (mt2 := (thr mt 1)) rfl ?_
    refine w_aload_n C 0 d_M_report_16 rfl rfl ?_
    refine g_M_thrown C m_568 d_M_report_17 ?_
    refine w_topi (y := 1) rfl ?_
    refine w_if_ne_t C 62 d_M_report_20 (by decide) (by decide) ?_
    refine w_aload_n C 0 d_M_report_62 rfl rfl ?_
    refine g_M_thrown C m_568 d_M_report_63 ?_
    refine w_topi (y := 1) rfl ?_
    refine w_if_le_f C 71 d_M_report_66 (by decide) (by decide) ?_
    refine w_iconst (v := 0) C d_M_report_69 rfl ?_
    exact w_iretM C hr d_M_report_70 (Or.inl ⟨h5, rfl, rfl⟩)
  · skip
    obtain ⟨q, hq, rfl⟩ := inb_R (n := 7) (by decide) h5
    refine w_iconst (v := 0) C d_M_report_8 rfl ?_
    refine w_goto C 13 d_M_report_9 (by decide) ?_
    refine p_M_thrown C m_568 d_M_report_13 ?_
    refine w_mt (mt2 := (thr mt 0)) rfl ?_
    refine w_aload_n C 0 d_M_report_16 rfl rfl ?_
    refine g_M_thrown C m_568 d_M_report_17 ?_
    refine w_topi (y := 0) rfl ?_
    refine w_if_ne_f C 62 d_M_report_20 (by decide) (by decide) ?_
    refine w_aload_n C 0 d_M_report_23 rfl rfl ?_
    refine w_iload_n C 2 d_M_report_24 rfl rfl ?_
    refine w_iconst (v := 1) C d_M_report_25 rfl ?_
    refine w_icmp_lt C 41 d_M_report_26 (by decide) (fun h26 => ?_) (fun h26 => ?_)
    · skip
      refine w_iconst (v := 2) C d_M_report_41 rfl ?_
      refine w_goto C 59 d_M_report_42 (by decide) ?_
      refine p_M_thrown C m_568 d_M_report_59 ?_
      refine w_mt (mt2 := (thr (thr mt 0) 2)) rfl ?_
      refine w_aload_n C 0 d_M_report_62 rfl rfl ?_
      refine g_M_thrown C m_568 d_M_report_63 ?_
      refine w_topi (y := 2) rfl ?_
      refine w_if_le_f C 71 d_M_report_66 (by decide) (by decide) ?_
      refine w_iconst (v := 0) C d_M_report_69 rfl ?_
      exact w_iretM C hr d_M_report_70 (Or.inr ⟨q, hq, rfl, Or.inl ⟨rng_n (Or.inl h26), rfl, rfl⟩⟩)
    · skip
      refine w_iload_n C 2 d_M_report_29 rfl rfl ?_
      refine w_aload_n C 0 d_M_report_30 rfl rfl ?_
      refine g_M_latest C m_575 d_M_report_31 ?_
      refine w_iload_n C 1 d_M_report_34 rfl rfl ?_
      refine ia_MA C 7 (by omega) (by omega) rfl rfl (show _ < 8 by omega) d_M_report_35 ?_
      refine w_iconst (v := 1) C d_M_report_36 rfl ?_
      refine w_iadd C d_M_report_37 ?_
      refine w_icmp_le C 45 d_M_report_38 (by decide) (fun h38 => ?_) (fun h38 => ?_)
      · skip
        refine w_aload_n C 0 d_M_report_45 rfl rfl ?_
        refine g_M_isAsleep C m_574 d_M_report_46 ?_
        refine w_iload_n C 1 d_M_report_49 rfl rfl ?_
        refine ia_MZ (pl := 56) C rfl (by omega) d_M_report_50 ?_
        refine w_if_eq C 58 d_M_report_51 (by decide) (fun h51 => ?_) (fun h51 => ?_)
        · skip
          refine w_iconst (v := 0) C d_M_report_58 rfl ?_
          refine p_M_thrown C m_568 d_M_report_59 ?_
          refine w_mt (mt2 := (thr (thr mt 0) 0)) rfl ?_
          refine w_aload_n C 0 d_M_report_62 rfl rfl ?_
          refine g_M_thrown C m_568 d_M_report_63 ?_
          refine w_topi (y := 0) rfl ?_
          refine w_if_le_t C 71 d_M_report_66 (by decide) (by decide) ?_
          refine w_iload_n C 2 d_M_report_71 rfl rfl ?_
          refine w_aload_n C 0 d_M_report_72 rfl rfl ?_
          refine g_M_latest C m_575 d_M_report_73 ?_
          refine w_iload_n C 1 d_M_report_76 rfl rfl ?_
          refine ia_MA C 7 (by omega) (by omega) rfl rfl (show _ < 8 by omega) d_M_report_77 ?_
          refine w_icmp_le C 85 d_M_report_78 (by decide) (fun h78 => ?_) (fun h78 => ?_)
          · skip
            refine w_iconst (v := 0) C d_M_report_85 rfl ?_
            refine w_istore_n (lv2 := [(3, .int 0), (0, .ref (ad 50)), (1, .int (nI q)), (2, .int p1)]) C d_M_report_86 rfl (by decide) rfl ?_
            refine w_iconst (v := 0) C d_M_report_87 rfl ?_
            refine w_istore (lv2 := [(4, .int 0), (3, .int 0), (0, .ref (ad 50)), (1, .int (nI q)), (2, .int p1)]) C d_M_report_88 (by decide) rfl ?_
            refine w_iload C 0 d_M_report_90 rfl ?_
            refine w_bipush (v := 12) C d_M_report_92 rfl ?_
            refine w_icmp_ge_f C 153 d_M_report_94 (by decide) (by decide) ?_
            refine w_iload_n C 1 d_M_report_97 rfl rfl ?_
            refine w_if_eq_t C 153 d_M_report_98 (by decide) (by decide) ?_
            refine w_aload_n C 2 d_M_report_153 rfl rfl ?_
            refine g_M_latest C m_575 d_M_report_154 ?_
            refine w_iload_n C 3 d_M_report_157 rfl rfl ?_
            refine w_dup2 C d_M_report_158 rfl rfl ?_
            refine ia_MA C 7 (by omega) (by omega) rfl rfl (show _ < 8 by omega) d_M_report_159 ?_
            refine w_iload_n C 1 d_M_report_160 rfl rfl ?_
            refine w_if_eq_t C 168 d_M_report_161 (by decide) (by decide) ?_
            refine w_iconst (v := 0) C d_M_report_168 rfl ?_
            refine w_iadd C d_M_report_169 ?_
            refine is_MA C 7 (by omega) (by omega) rfl rfl (show _ < 8 by omega) d_M_report_170 ?_
            refine w_aload_n C 2 d_M_report_171 rfl rfl ?_
            refine w_callMv C (w_runV C (c_M_empties ) (by omega) e_M rfl rfl m_669 m_671 m_25 m_41 m_672 ⟨rfl, rfl⟩ hd_M_empties rfl ⟨Nat.le_of_ble_eq_true rfl, Nat.le_of_ble_eq_true rfl⟩ rfl (Nat.le_of_ble_eq_true rfl) d_M_report_172 ⟨Nat.le_of_ble_eq_true rfl, Nat.le_of_ble_eq_true rfl⟩) (fun u172 h172 => ?_)
            subst h172
            refine w_iload_n C 1 d_M_report_175 rfl rfl ?_
            refine w_if_eq_t C 190 d_M_report_176 (by decide) (by decide) ?_
            refine w_iconst (v := (-1)) C d_M_report_190 rfl ?_
            exact w_iretM C hr d_M_report_191 (Or.inr ⟨q, hq, rfl, Or.inr (Or.inr (Or.inl ⟨⟨h26, h38⟩, h51, h78, rfl, rfl⟩))⟩)
          · skip
            refine w_iconst (v := 1) C d_M_report_81 rfl ?_
            refine w_goto C 86 d_M_report_82 (by decide) ?_
            refine w_istore_n (lv2 := [(3, .int 1), (0, .ref (ad 50)), (1, .int (nI q)), (2, .int p1)]) C d_M_report_86 rfl (by decide) rfl ?_
            refine w_iconst (v := 0) C d_M_report_87 rfl ?_
            refine w_istore (lv2 := [(4, .int 0), (3, .int 1), (0, .ref (ad 50)), (1, .int (nI q)), (2, .int p1)]) C d_M_report_88 (by decide) rfl ?_
            refine w_lv (lv2 := [(0, .ref (ad 50)), (1, .int (nI q)), (2, .int p1), (3, .int 1), (4, .int (nI 0))]) [2, 3, 4, 1, 0] rfl ?_
            refine l_M_report (mt := thr (thr mt 0) 0) hq C ⟨Nat.le_of_ble_eq_true rfl, Nat.le_of_ble_eq_true rfl⟩ ?_ 12 0 rfl
            refine w_aload_n C 0 d_M_report_153 rfl rfl ?_
            refine g_M_latest C m_575 d_M_report_154 ?_
            refine w_iload_n C 1 d_M_report_157 rfl rfl ?_
            refine w_dup2 C d_M_report_158 rfl rfl ?_
            refine ia_MA C 7 (by omega) (by omega) rfl rfl (show _ < 8 by omega) d_M_report_159 ?_
            refine w_iload_n C 3 d_M_report_160 rfl rfl ?_
            refine w_if_eq_f C 168 d_M_report_161 (by decide) (by decide) ?_
            refine w_iconst (v := 1) C d_M_report_164 rfl ?_
            refine w_goto C 169 d_M_report_165 (by decide) ?_
            refine w_iadd C d_M_report_169 ?_
            refine is_MA C 7 (by omega) (by omega) rfl rfl (show _ < 8 by omega) d_M_report_170 ?_
            refine w_aload_n C 0 d_M_report_171 rfl rfl ?_
            refine w_callMv C (w_runV C (c_M_empties ) (by omega) e_M rfl rfl m_669 m_671 m_25 m_41 m_672 ⟨rfl, rfl⟩ hd_M_empties rfl ⟨Nat.le_of_ble_eq_true rfl, Nat.le_of_ble_eq_true rfl⟩ rfl (Nat.le_of_ble_eq_true rfl) d_M_report_172 ⟨Nat.le_of_ble_eq_true rfl, Nat.le_of_ble_eq_true rfl⟩) (fun u172 h172 => ?_)
            subst h172
            refine w_iload_n C 3 d_M_report_175 rfl rfl ?_
            refine w_if_eq_f C 190 d_M_report_176 (by decide) (by decide) ?_
            refine w_aload_n C 0 d_M_report_179 rfl rfl ?_
            refine w_iload_n C 1 d_M_report_180 rfl rfl ?_
            refine w_callMi C (w_runV C (c_M_differing (by omega)) (by omega) e_M rfl rfl m_677 m_679 m_26 m_41 m_680 ⟨rfl, rfl⟩ hd_M_differing rfl ⟨Nat.le_of_ble_eq_true rfl, Nat.le_of_ble_eq_true rfl⟩ rfl (Nat.le_of_ble_eq_true rfl) d_M_report_181 ⟨Nat.le_of_ble_eq_true rfl, Nat.le_of_ble_eq_true rfl⟩) (fun r181 u181 h181 => ?_)
            obtain ⟨rfl, h181⟩ := h181; have h181 := h181.symm; subst h181
            refine w_callMi C (w_runS C (c_M_manyOf ) m_685 m_686 m_41 m_687 ⟨rfl, rfl⟩ hd_M_manyOf rfl ⟨Nat.le_of_ble_eq_true rfl, Nat.le_of_ble_eq_true rfl⟩ rfl (Nat.le_of_ble_eq_true rfl) d_M_report_184 ⟨Nat.le_of_ble_eq_true rfl, Nat.le_of_ble_eq_true rfl⟩) (fun r184 u184 h184 => ?_)
            obtain ⟨rfl, h184⟩ := h184; have h184 := h184.symm; subst h184
            refine w_goto C 191 d_M_report_187 (by decide) ?_
            exact w_iretM C hr d_M_report_191 (Or.inr ⟨q, hq, rfl, Or.inr (Or.inr (Or.inr ⟨⟨h26, h38⟩, h51, h78, rfl, rfl⟩))⟩)
        · skip
          refine w_iconst (v := 3) C d_M_report_54 rfl ?_
          refine w_goto C 59 d_M_report_55 (by decide) ?_
          refine p_M_thrown C m_568 d_M_report_59 ?_
          refine w_mt (mt2 := (thr (thr mt 0) 3)) rfl ?_
          refine w_aload_n C 0 d_M_report_62 rfl rfl ?_
          refine g_M_thrown C m_568 d_M_report_63 ?_
          refine w_topi (y := 3) rfl ?_
          refine w_if_le_f C 71 d_M_report_66 (by decide) (by decide) ?_
          refine w_iconst (v := 0) C d_M_report_69 rfl ?_
          exact w_iretM C hr d_M_report_70 (Or.inr ⟨q, hq, rfl, Or.inr (Or.inl ⟨⟨h26, h38⟩, h51, rfl, rfl⟩)⟩)
      · skip
        refine w_iconst (v := 2) C d_M_report_41 rfl ?_
        refine w_goto C 59 d_M_report_42 (by decide) ?_
        refine p_M_thrown C m_568 d_M_report_59 ?_
        refine w_mt (mt2 := (thr (thr mt 0) 2)) rfl ?_
        refine w_aload_n C 0 d_M_report_62 rfl rfl ?_
        refine g_M_thrown C m_568 d_M_report_63 ?_
        refine w_topi (y := 2) rfl ?_
        refine w_if_le_f C 71 d_M_report_66 (by decide) (by decide) ?_
        refine w_iconst (v := 0) C d_M_report_69 rfl ?_
        exact w_iretM C hr d_M_report_70 (Or.inr ⟨q, hq, rfl, Or.inl ⟨rng_n (Or.inr h38), rfl, rfl⟩⟩)
set_option maxHeartbeats 4000000 in
set_option maxRecDepth 100000 in
theorem l_M_obey {p : Program} {l : Launch} {e : Env} {s : State} {m : MethodId} {args : Array Value} {below : List Frame} {meth : Method} {c : Code} {Q : State → Prop} {D : va_G} {cs : Nat → ClassId} {ad : Nat → Nat} {A : Nat → Prop} {cells slots : Nat} {st mt : Nat → Nat → Int32} {ov : Nat → Int64} {q : Nat} (hq : q < 8) {w : Int32} (C : Cx p s m args meth c D cs ad A b_M_obey 5 "TwinRegisterModel") (hcs : cells ≤ 0 ∧ slots ≤ 0)
    (kx : Wg p l e ({ frames := 2, cells := 0, slots := 0, locals := 46 } : Room) s m args below meth c Q D cs ad A 5 cells slots 99 [(0, .ref (ad 50)), (1, .int (nI q)), (2, .int w), (3, .int (nI 12))] [] st (obM mt q w 12) ov) : ∀ n i : Nat, i + n = 12 → Wg p l e ({ frames := 2, cells := 0, slots := 0, locals := 46 } : Room) s m args below meth c Q D cs ad A 5 cells slots 46 [(0, .ref (ad 50)), (1, .int (nI q)), (2, .int w), (3, .int (nI i))] [] st (obM mt q w i) ov := by
  intro n
  induction n with
  | zero =>
    intro i hi
    have hi9 : 12 = i := by omega
    subst hi9
    refine w_iload_n C 3 d_M_obey_46 rfl rfl ?_
    refine w_bipush (v := 12) C d_M_obey_47 rfl ?_
    refine w_icmp_ge_t C 99 d_M_obey_49 (by decide) (nI_le (a := 12) (b := 12) (Nat.le_refl _) (by decide)) ?_
    exact w_lv [0, 1, 2, 3] rfl kx
  | succ n ih =>
    intro i hi
    have hi2 : i < 12 := by omega
    refine w_iload_n C 3 d_M_obey_46 rfl rfl ?_
    refine w_bipush (v := 12) C d_M_obey_47 rfl ?_
    refine w_icmp_ge_f C 99 d_M_obey_49 (by decide) (nI_ge (b := 12) hi2 (by decide)) ?_
    refine w_bipush (v := 12) C d_M_obey_52 rfl ?_
    refine w_iload_n C 1 d_M_obey_54 rfl rfl ?_
    refine w_imul C d_M_obey_55 ?_
    refine w_iload_n C 3 d_M_obey_56 rfl rfl ?_
    refine w_iadd C d_M_obey_57 ?_
    refine w_topi (y := (nI (12 * q + i))) (ix12 _ _) ?_
    refine w_istore (lv2 := [(4, .int (nI (12 * q + i))), (0, .ref (ad 50)), (1, .int (nI q)), (2, .int w), (3, .int (nI i))]) C d_M_obey_58 (by decide) rfl ?_
    refine w_aload_n C 1 d_M_obey_60 rfl rfl ?_
    refine g_M_reported C m_570 d_M_obey_61 ?_
    refine w_iload C 0 d_M_obey_64 rfl ?_
    refine w_iload_n C 3 d_M_obey_66 rfl rfl ?_
    refine w_iload_n C 4 d_M_obey_67 rfl rfl ?_
    refine w_ishr C d_M_obey_68 ?_
    refine w_iconst (v := 1) C d_M_obey_69 rfl ?_
    refine w_iand C d_M_obey_70 ?_
    refine w_iconst (v := 1) C d_M_obey_71 rfl ?_
    refine w_icmp_ne C 85 d_M_obey_72 (by decide) (fun h72 => ?_) (fun h72 => ?_)
    · skip
      refine w_aload_n C 1 d_M_obey_85 rfl rfl ?_
      refine g_M_reported C m_570 d_M_obey_86 ?_
      refine w_iload C 0 d_M_obey_89 rfl ?_
      refine ia_MA C 2 (by omega) (by omega) rfl rfl (show _ < 96 by omega) d_M_obey_91 ?_
      refine is_MA C 2 (by omega) (by omega) rfl rfl (show _ < 96 by omega) d_M_obey_92 ?_
      refine w_iinc (lv2 := [(3, .int (nI (i + 1))), (4, .int (nI (12 * q + i))), (0, .ref (ad 50)), (1, .int (nI q)), (2, .int w)]) C 4 d_M_obey_93 rfl (nI_1 _) (by decide) rfl ?_
      refine w_goto C 46 d_M_obey_96 (by decide) ?_
      refine w_mt (mt2 := obM mt q w (i + 1)) ((show obM mt q w (i + 1) = _ from obS_f h72).symm) ?_
      exact w_lv [2, 3, 4, 0] rfl (ih (i + 1) (by omega))
    · skip
      refine w_aload_n C 1 d_M_obey_75 rfl rfl ?_
      refine g_M_wished C m_569 d_M_obey_76 ?_
      refine w_iload C 0 d_M_obey_79 rfl ?_
      refine ia_MA C 1 (by omega) (by omega) rfl rfl (show _ < 96 by omega) d_M_obey_81 ?_
      refine w_goto C 92 d_M_obey_82 (by decide) ?_
      refine is_MA C 2 (by omega) (by omega) rfl rfl (show _ < 96 by omega) d_M_obey_92 ?_
      refine w_iinc (lv2 := [(3, .int (nI (i + 1))), (4, .int (nI (12 * q + i))), (0, .ref (ad 50)), (1, .int (nI q)), (2, .int w)]) C 4 d_M_obey_93 rfl (nI_1 _) (by decide) rfl ?_
      refine w_goto C 46 d_M_obey_96 (by decide) ?_
      refine w_mt (mt2 := obM mt q w (i + 1)) ((show obM mt q w (i + 1) = _ from obS_t h72).symm) ?_
      exact w_lv [2, 3, 4, 0] rfl (ih (i + 1) (by omega))
set_option maxHeartbeats 4000000 in
set_option maxRecDepth 100000 in
theorem c_M_obey {l : Launch} {D : va_G} {cs : Nat → ClassId} {ad : Nat → Nat} {st mt : Nat → Nat → Int32} {ov : Nat → Int64} {p0 : Int32} : gM l y_M_obey b_M_obey 5 (some .int) ({ frames := 2, cells := 0, slots := 0, locals := 46 } : Room) 0 0 [.ref (ad 50), .int p0] D cs ad st mt ov (QMi D cs ad st ov (fun r u => (inb p0 0 7 = false ∧ u = thr mt 1 ∧ r = 0) ∨ (∃ q, q < 8 ∧ p0 = nI q ∧ ((¬ mt 6 q = 0 ∧ u = thr mt 2 ∧ r = 0) ∨ (mt 6 q = 0 ∧ u = blM (obM (thr mt 0) q (dgM (thr mt 0) q 12) 12) q ∧ r = mnM (dgM (thr mt 0) q 12) 12))))) := by
  refine gM_of (own := "TwinRegisterModel") (by decide +kernel) rfl (Nat.le_of_ble_eq_true rfl) ?_
  intro p e s m args below meth c C hr
  refine w_lv (lv2 := [(0, .ref (ad 50)), (1, .int p0)]) [0, 1] rfl ?_
  refine w_aload_n C 0 d_M_obey_0 rfl rfl ?_
  refine w_iload_n C 1 d_M_obey_1 rfl rfl ?_
  refine w_callMi C (w_runS C (c_M_isDevice ) m_662 m_663 m_41 m_664 ⟨rfl, rfl⟩ hd_M_isDevice rfl ⟨Nat.le_of_ble_eq_true rfl, Nat.le_of_ble_eq_true rfl⟩ rfl (Nat.le_of_ble_eq_true rfl) d_M_obey_2 ⟨Nat.le_of_ble_eq_true rfl, Nat.le_of_ble_eq_true rfl⟩) (fun r2 u2 h2 => ?_)
  obtain ⟨rfl, h2⟩ := h2; have h2 := h2.symm; subst h2
  refine w_ifb_ne C 12 d_M_obey_5 (by decide) (fun h5 => ?_) (fun h5 => ?_)
  · skip
    obtain ⟨q, hq, rfl⟩ := inb_R (n := 7) (by decide) h5
    refine w_aload_n C 0 d_M_obey_12 rfl rfl ?_
    refine g_M_isAsleep C m_574 d_M_obey_13 ?_
    refine w_iload_n C 1 d_M_obey_16 rfl rfl ?_
    refine ia_MZ (pl := 56) C rfl (by omega) d_M_obey_17 ?_
    refine w_if_eq C 25 d_M_obey_18 (by decide) (fun h18 => ?_) (fun h18 => ?_)
    · skip
      refine w_iconst (v := 0) C d_M_obey_25 rfl ?_
      refine p_M_thrown C m_568 d_M_obey_26 ?_
      refine w_mt (mt2 := (thr mt 0)) rfl ?_
      refine w_aload_n C 0 d_M_obey_29 rfl rfl ?_
      refine g_M_thrown C m_568 d_M_obey_30 ?_
      refine w_topi (y := 0) rfl ?_
      refine w_if_le_t C 38 d_M_obey_33 (by decide) (by decide) ?_
      refine w_aload_n C 0 d_M_obey_38 rfl rfl ?_
      refine w_iload_n C 1 d_M_obey_39 rfl rfl ?_
      refine w_callMi C (w_runV C (c_M_differing (by omega)) (by omega) e_M rfl rfl m_677 m_679 m_26 m_41 m_680 ⟨rfl, rfl⟩ hd_M_differing rfl ⟨Nat.le_of_ble_eq_true rfl, Nat.le_of_ble_eq_true rfl⟩ rfl (Nat.le_of_ble_eq_true rfl) d_M_obey_40 ⟨Nat.le_of_ble_eq_true rfl, Nat.le_of_ble_eq_true rfl⟩) (fun r40 u40 h40 => ?_)
      obtain ⟨rfl, h40⟩ := h40; have h40 := h40.symm; subst h40
      refine w_istore_n (lv2 := [(2, .int _), (0, .ref (ad 50)), (1, .int (nI q))]) C d_M_obey_43 rfl (by decide) rfl ?_
      refine w_iconst (v := 0) C d_M_obey_44 rfl ?_
      refine w_istore_n (lv2 := [(3, .int 0), (2, .int _), (0, .ref (ad 50)), (1, .int (nI q))]) C d_M_obey_45 rfl (by decide) rfl ?_
      refine w_lv (lv2 := [(0, .ref (ad 50)), (1, .int (nI q)), (2, .int (dgM (thr mt 0) q 12)), (3, .int (nI 0))]) [2, 3, 1, 0] rfl ?_
      refine l_M_obey (mt := thr mt 0) hq C ⟨Nat.le_of_ble_eq_true rfl, Nat.le_of_ble_eq_true rfl⟩ ?_ 12 0 rfl
      refine w_aload_n C 0 d_M_obey_99 rfl rfl ?_
      refine g_M_latest C m_575 d_M_obey_100 ?_
      refine w_iload_n C 1 d_M_obey_103 rfl rfl ?_
      refine w_dup2 C d_M_obey_104 rfl rfl ?_
      refine ia_MA C 7 (by omega) (by omega) rfl rfl (show _ < 8 by omega) d_M_obey_105 ?_
      refine w_iconst (v := 1) C d_M_obey_106 rfl ?_
      refine w_iadd C d_M_obey_107 ?_
      refine is_MA C 7 (by omega) (by omega) rfl rfl (show _ < 8 by omega) d_M_obey_108 ?_
      refine w_iload_n C 2 d_M_obey_109 rfl rfl ?_
      refine w_callMi C (w_runS C (c_M_manyOf ) m_685 m_686 m_41 m_687 ⟨rfl, rfl⟩ hd_M_manyOf rfl ⟨Nat.le_of_ble_eq_true rfl, Nat.le_of_ble_eq_true rfl⟩ rfl (Nat.le_of_ble_eq_true rfl) d_M_obey_110 ⟨Nat.le_of_ble_eq_true rfl, Nat.le_of_ble_eq_true rfl⟩) (fun r110 u110 h110 => ?_)
      obtain ⟨rfl, h110⟩ := h110; have h110 := h110.symm; subst h110
      exact w_iretM C hr d_M_obey_113 (Or.inr ⟨q, hq, rfl, Or.inr ⟨h18, rfl, rfl⟩⟩)
    · skip
      refine w_iconst (v := 2) C d_M_obey_21 rfl ?_
      refine w_goto C 26 d_M_obey_22 (by decide) ?_
      refine p_M_thrown C m_568 d_M_obey_26 ?_
      refine w_mt (mt2 := (thr mt 2)) rfl ?_
      refine w_aload_n C 0 d_M_obey_29 rfl rfl ?_
      refine g_M_thrown C m_568 d_M_obey_30 ?_
      refine w_topi (y := 2) rfl ?_
      refine w_if_le_f C 38 d_M_obey_33 (by decide) (by decide) ?_
      refine w_iconst (v := 0) C d_M_obey_36 rfl ?_
      exact w_iretM C hr d_M_obey_37 (Or.inr ⟨q, hq, rfl, Or.inl ⟨h18, rfl, rfl⟩⟩)
  · skip
    refine w_iconst (v := 1) C d_M_obey_8 rfl ?_
    refine w_goto C 26 d_M_obey_9 (by decide) ?_
    refine p_M_thrown C m_568 d_M_obey_26 ?_
    refine w_mt (mt2 := (thr mt 1)) rfl ?_
    refine w_aload_n C 0 d_M_obey_29 rfl rfl ?_
    refine g_M_thrown C m_568 d_M_obey_30 ?_
    refine w_topi (y := 1) rfl ?_
    refine w_if_le_f C 38 d_M_obey_33 (by decide) (by decide) ?_
    refine w_iconst (v := 0) C d_M_obey_36 rfl ?_
    exact w_iretM C hr d_M_obey_37 (Or.inl ⟨h5, rfl, rfl⟩)
set_option maxHeartbeats 4000000 in
set_option maxRecDepth 100000 in
theorem c_M_refuse {l : Launch} {D : va_G} {cs : Nat → ClassId} {ad : Nat → Nat} {st mt : Nat → Nat → Int32} {ov : Nat → Int64} {p0 p1 p2 : Int32} : gM l y_M_refuse b_M_refuse 4 (some .int) ({ frames := 2, cells := 0, slots := 0, locals := 46 } : Room) 0 0 [.ref (ad 50), .int p0, .int p1, .int p2] D cs ad st mt ov (QMi D cs ad st ov (fun r u => ((inb p0 0 7 = false ∨ inb p1 0 11 = false) ∧ u = thr mt 1 ∧ r = 0) ∨ (∃ q k, q < 8 ∧ k < 12 ∧ p0 = nI q ∧ p1 = nI k ∧ ((inb p2 1 9 = false ∧ u = thr mt 2 ∧ r = 0) ∨ (inb p2 1 9 = true ∧ (¬ thr mt 0 6 q = 0 ∨ difM (thr mt 0) q k = false) ∧ u = thr (thr mt 0) 3 ∧ r = 0) ∨ (inb p2 1 9 = true ∧ thr mt 0 6 q = 0 ∧ difM (thr mt 0) q k = true ∧ u = up2 (thr (thr mt 0) 0) 3 (12 * q + k) p2 ∧ r = mnM (dgM u q 12) 12))))) := by
  refine gM_of (own := "TwinRegisterModel") (by decide +kernel) rfl (Nat.le_of_ble_eq_true rfl) ?_
  intro p e s m args below meth c C hr
  refine w_lv (lv2 := [(0, .ref (ad 50)), (1, .int p0), (2, .int p1), (3, .int p2)]) [0, 1, 2, 3] rfl ?_
  refine w_aload_n C 0 d_M_refuse_0 rfl rfl ?_
  refine w_iload_n C 1 d_M_refuse_1 rfl rfl ?_
  refine w_callMi C (w_runS C (c_M_isDevice ) m_662 m_663 m_41 m_664 ⟨rfl, rfl⟩ hd_M_isDevice rfl ⟨Nat.le_of_ble_eq_true rfl, Nat.le_of_ble_eq_true rfl⟩ rfl (Nat.le_of_ble_eq_true rfl) d_M_refuse_2 ⟨Nat.le_of_ble_eq_true rfl, Nat.le_of_ble_eq_true rfl⟩) (fun r2 u2 h2 => ?_)
  obtain ⟨rfl, h2⟩ := h2; have h2 := h2.symm; subst h2
  refine w_ifb_eq C 15 d_M_refuse_5 (by decide) (fun h5 => ?_) (fun h5 => ?_)
  · skip
    refine w_iconst (v := 1) C d_M_refuse_15 rfl ?_
    refine w_goto C 34 d_M_refuse_16 (by decide) ?_
    refine p_M_thrown C m_568 d_M_refuse_34 ?_
    refine w_mt (mt2 := (thr mt 1)) rfl ?_
    refine w_aload_n C 0 d_M_refuse_37 rfl rfl ?_
    refine g_M_thrown C m_568 d_M_refuse_38 ?_
    refine w_topi (y := 1) rfl ?_
    refine w_if_ne_t C 71 d_M_refuse_41 (by decide) (by decide) ?_
    refine w_aload_n C 0 d_M_refuse_71 rfl rfl ?_
    refine g_M_thrown C m_568 d_M_refuse_72 ?_
    refine w_topi (y := 1) rfl ?_
    refine w_if_le_f C 80 d_M_refuse_75 (by decide) (by decide) ?_
    refine w_iconst (v := 0) C d_M_refuse_78 rfl ?_
    exact w_iretM C hr d_M_refuse_79 (Or.inl ⟨Or.inl h5, rfl, rfl⟩)
  · skip
    obtain ⟨q, hq, rfl⟩ := inb_R (n := 7) (by decide) h5
    refine w_iload_n C 2 d_M_refuse_8 rfl rfl ?_
    refine w_callMi C (w_runS C (c_M_isLeaf ) m_644 m_645 m_41 m_646 ⟨rfl, rfl⟩ hd_M_isLeaf rfl ⟨Nat.le_of_ble_eq_true rfl, Nat.le_of_ble_eq_true rfl⟩ rfl (Nat.le_of_ble_eq_true rfl) d_M_refuse_9 ⟨Nat.le_of_ble_eq_true rfl, Nat.le_of_ble_eq_true rfl⟩) (fun r9 u9 h9 => ?_)
    obtain ⟨rfl, h9⟩ := h9; have h9 := h9.symm; subst h9
    refine w_ifb_ne C 19 d_M_refuse_12 (by decide) (fun h12 => ?_) (fun h12 => ?_)
    · skip
      obtain ⟨k, hk, rfl⟩ := inb_R (n := 11) (by decide) h12
      refine w_iload_n C 3 d_M_refuse_19 rfl rfl ?_
      refine w_iconst (v := 1) C d_M_refuse_20 rfl ?_
      refine w_bipush (v := 9) C d_M_refuse_21 rfl ?_
      refine w_callMi C (w_runS C (c_M_in ) m_647 m_648 m_41 m_649 ⟨rfl, rfl⟩ hd_M_in rfl ⟨Nat.le_of_ble_eq_true rfl, Nat.le_of_ble_eq_true rfl⟩ rfl (Nat.le_of_ble_eq_true rfl) d_M_refuse_23 ⟨Nat.le_of_ble_eq_true rfl, Nat.le_of_ble_eq_true rfl⟩) (fun r23 u23 h23 => ?_)
      obtain ⟨rfl, h23⟩ := h23; have h23 := h23.symm; subst h23
      refine w_ifb_ne C 33 d_M_refuse_26 (by decide) (fun h26 => ?_) (fun h26 => ?_)
      · skip
        refine w_iconst (v := 0) C d_M_refuse_33 rfl ?_
        refine p_M_thrown C m_568 d_M_refuse_34 ?_
        refine w_mt (mt2 := (thr mt 0)) rfl ?_
        refine w_aload_n C 0 d_M_refuse_37 rfl rfl ?_
        refine g_M_thrown C m_568 d_M_refuse_38 ?_
        refine w_topi (y := 0) rfl ?_
        refine w_if_ne_f C 71 d_M_refuse_41 (by decide) (by decide) ?_
        refine w_aload_n C 0 d_M_refuse_44 rfl rfl ?_
        refine w_aload_n C 0 d_M_refuse_45 rfl rfl ?_
        refine g_M_isAsleep C m_574 d_M_refuse_46 ?_
        refine w_iload_n C 1 d_M_refuse_49 rfl rfl ?_
        refine ia_MZ (pl := 56) C rfl (by omega) d_M_refuse_50 ?_
        refine w_if_ne C 63 d_M_refuse_51 (by decide) (fun h51 => ?_) (fun h51 => ?_)
        · skip
          refine w_iconst (v := 3) C d_M_refuse_63 rfl ?_
          refine w_goto C 68 d_M_refuse_64 (by decide) ?_
          refine p_M_thrown C m_568 d_M_refuse_68 ?_
          refine w_mt (mt2 := (thr (thr mt 0) 3)) rfl ?_
          refine w_aload_n C 0 d_M_refuse_71 rfl rfl ?_
          refine g_M_thrown C m_568 d_M_refuse_72 ?_
          refine w_topi (y := 3) rfl ?_
          refine w_if_le_f C 80 d_M_refuse_75 (by decide) (by decide) ?_
          refine w_iconst (v := 0) C d_M_refuse_78 rfl ?_
          exact w_iretM C hr d_M_refuse_79 (Or.inr ⟨q, k, hq, hk, rfl, rfl, Or.inr (Or.inl ⟨h26, Or.inl h51, rfl, rfl⟩)⟩)
        · skip
          refine w_aload_n C 0 d_M_refuse_54 rfl rfl ?_
          refine w_iload_n C 1 d_M_refuse_55 rfl rfl ?_
          refine w_iload_n C 2 d_M_refuse_56 rfl rfl ?_
          refine w_callMi C (w_runV C (c_M_differs (by omega) (by omega)) (by omega) e_M rfl rfl m_681 m_683 m_27 m_41 m_684 ⟨rfl, rfl⟩ hd_M_differs rfl ⟨Nat.le_of_ble_eq_true rfl, Nat.le_of_ble_eq_true rfl⟩ rfl (Nat.le_of_ble_eq_true rfl) d_M_refuse_57 ⟨Nat.le_of_ble_eq_true rfl, Nat.le_of_ble_eq_true rfl⟩) (fun r57 u57 h57 => ?_)
          obtain ⟨rfl, h57⟩ := h57; have h57 := h57.symm; subst h57
          refine w_ifb_ne C 67 d_M_refuse_60 (by decide) (fun h60 => ?_) (fun h60 => ?_)
          · skip
            refine w_iconst (v := 0) C d_M_refuse_67 rfl ?_
            refine p_M_thrown C m_568 d_M_refuse_68 ?_
            refine w_mt (mt2 := (thr (thr mt 0) 0)) rfl ?_
            refine w_aload_n C 0 d_M_refuse_71 rfl rfl ?_
            refine g_M_thrown C m_568 d_M_refuse_72 ?_
            refine w_topi (y := 0) rfl ?_
            refine w_if_le_t C 80 d_M_refuse_75 (by decide) (by decide) ?_
            refine w_aload_n C 0 d_M_refuse_80 rfl rfl ?_
            refine g_M_reason C m_571 d_M_refuse_81 ?_
            refine w_bipush (v := 12) C d_M_refuse_84 rfl ?_
            refine w_iload_n C 1 d_M_refuse_86 rfl rfl ?_
            refine w_imul C d_M_refuse_87 ?_
            refine w_iload_n C 2 d_M_refuse_88 rfl rfl ?_
            refine w_iadd C d_M_refuse_89 ?_
            refine w_topi (y := (nI (12 * q + k))) (ix12 _ _) ?_
            refine w_iload_n C 3 d_M_refuse_90 rfl rfl ?_
            refine is_MA C 3 (by omega) (by omega) rfl rfl (show _ < 96 by omega) d_M_refuse_91 ?_
            refine w_aload_n C 0 d_M_refuse_92 rfl rfl ?_
            refine w_iload_n C 1 d_M_refuse_93 rfl rfl ?_
            refine w_callMi C (w_runV C (c_M_differing (by omega)) (by omega) e_M rfl rfl m_677 m_679 m_26 m_41 m_680 ⟨rfl, rfl⟩ hd_M_differing rfl ⟨Nat.le_of_ble_eq_true rfl, Nat.le_of_ble_eq_true rfl⟩ rfl (Nat.le_of_ble_eq_true rfl) d_M_refuse_94 ⟨Nat.le_of_ble_eq_true rfl, Nat.le_of_ble_eq_true rfl⟩) (fun r94 u94 h94 => ?_)
            obtain ⟨rfl, h94⟩ := h94; have h94 := h94.symm; subst h94
            refine w_callMi C (w_runS C (c_M_manyOf ) m_685 m_686 m_41 m_687 ⟨rfl, rfl⟩ hd_M_manyOf rfl ⟨Nat.le_of_ble_eq_true rfl, Nat.le_of_ble_eq_true rfl⟩ rfl (Nat.le_of_ble_eq_true rfl) d_M_refuse_97 ⟨Nat.le_of_ble_eq_true rfl, Nat.le_of_ble_eq_true rfl⟩) (fun r97 u97 h97 => ?_)
            obtain ⟨rfl, h97⟩ := h97; have h97 := h97.symm; subst h97
            exact w_iretM C hr d_M_refuse_100 (Or.inr ⟨q, k, hq, hk, rfl, rfl, Or.inr (Or.inr ⟨h26, h51, h60, rfl, rfl⟩)⟩)
          · skip
            refine w_iconst (v := 3) C d_M_refuse_63 rfl ?_
            refine w_goto C 68 d_M_refuse_64 (by decide) ?_
            refine p_M_thrown C m_568 d_M_refuse_68 ?_
            refine w_mt (mt2 := (thr (thr mt 0) 3)) rfl ?_
            refine w_aload_n C 0 d_M_refuse_71 rfl rfl ?_
            refine g_M_thrown C m_568 d_M_refuse_72 ?_
            refine w_topi (y := 3) rfl ?_
            refine w_if_le_f C 80 d_M_refuse_75 (by decide) (by decide) ?_
            refine w_iconst (v := 0) C d_M_refuse_78 rfl ?_
            exact w_iretM C hr d_M_refuse_79 (Or.inr ⟨q, k, hq, hk, rfl, rfl, Or.inr (Or.inl ⟨h26, Or.inr h60, rfl, rfl⟩)⟩)
      · skip
        refine w_iconst (v := 2) C d_M_refuse_29 rfl ?_
        refine w_goto C 34 d_M_refuse_30 (by decide) ?_
        refine p_M_thrown C m_568 d_M_refuse_34 ?_
        refine w_mt (mt2 := (thr mt 2)) rfl ?_
        refine w_aload_n C 0 d_M_refuse_37 rfl rfl ?_
        refine g_M_thrown C m_568 d_M_refuse_38 ?_
        refine w_topi (y := 2) rfl ?_
        refine w_if_ne_t C 71 d_M_refuse_41 (by decide) (by decide) ?_
        refine w_aload_n C 0 d_M_refuse_71 rfl rfl ?_
        refine g_M_thrown C m_568 d_M_refuse_72 ?_
        refine w_topi (y := 2) rfl ?_
        refine w_if_le_f C 80 d_M_refuse_75 (by decide) (by decide) ?_
        refine w_iconst (v := 0) C d_M_refuse_78 rfl ?_
        exact w_iretM C hr d_M_refuse_79 (Or.inr ⟨q, k, hq, hk, rfl, rfl, Or.inl ⟨h26, rfl, rfl⟩⟩)
    · skip
      refine w_iconst (v := 1) C d_M_refuse_15 rfl ?_
      refine w_goto C 34 d_M_refuse_16 (by decide) ?_
      refine p_M_thrown C m_568 d_M_refuse_34 ?_
      refine w_mt (mt2 := (thr mt 1)) rfl ?_
      refine w_aload_n C 0 d_M_refuse_37 rfl rfl ?_
      refine g_M_thrown C m_568 d_M_refuse_38 ?_
      refine w_topi (y := 1) rfl ?_
      refine w_if_ne_t C 71 d_M_refuse_41 (by decide) (by decide) ?_
      refine w_aload_n C 0 d_M_refuse_71 rfl rfl ?_
      refine g_M_thrown C m_568 d_M_refuse_72 ?_
      refine w_topi (y := 1) rfl ?_
      refine w_if_le_f C 80 d_M_refuse_75 (by decide) (by decide) ?_
      refine w_iconst (v := 0) C d_M_refuse_78 rfl ?_
      exact w_iretM C hr d_M_refuse_79 (Or.inl ⟨Or.inr h12, rfl, rfl⟩)
set_option maxHeartbeats 4000000 in
set_option maxRecDepth 100000 in
theorem c_M_sleep {l : Launch} {D : va_G} {cs : Nat → ClassId} {ad : Nat → Nat} {st mt : Nat → Nat → Int32} {ov : Nat → Int64} {p0 : Int32} : gM l y_M_sleep b_M_sleep 3 (some .boolean) ({ frames := 2, cells := 0, slots := 0, locals := 42 } : Room) 0 0 [.ref (ad 50), .int p0] D cs ad st mt ov (QMi D cs ad st ov (fun r u => (inb p0 0 7 = false ∧ u = thr mt 1 ∧ r = 0) ∨ (∃ q, q < 8 ∧ p0 = nI q ∧ ((thr mt 0 6 q = 0 ∧ u = up2 (up2 (thr mt 0) 5 q (thr mt 0 4 q)) 6 q 1 ∧ r = 1) ∨ (¬ thr mt 0 6 q = 0 ∧ u = up2 (up2 (thr mt 0) 5 q (thr mt 0 5 q)) 6 q 1 ∧ r = 0))))) := by
  refine gM_of (own := "TwinRegisterModel") (by decide +kernel) rfl (Nat.le_of_ble_eq_true rfl) ?_
  intro p e s m args below meth c C hr
  refine w_lv (lv2 := [(0, .ref (ad 50)), (1, .int p0)]) [0, 1] rfl ?_
  refine w_aload_n C 0 d_M_sleep_0 rfl rfl ?_
  refine w_iload_n C 1 d_M_sleep_1 rfl rfl ?_
  refine w_callMi C (w_runS C (c_M_isDevice ) m_662 m_663 m_41 m_664 ⟨rfl, rfl⟩ hd_M_isDevice rfl ⟨Nat.le_of_ble_eq_true rfl, Nat.le_of_ble_eq_true rfl⟩ rfl (Nat.le_of_ble_eq_true rfl) d_M_sleep_2 ⟨Nat.le_of_ble_eq_true rfl, Nat.le_of_ble_eq_true rfl⟩) (fun r2 u2 h2 => ?_)
  obtain ⟨rfl, h2⟩ := h2; have h2 := h2.symm; subst h2
  refine w_ifb_eq C 12 d_M_sleep_5 (by decide) (fun h5 => ?_) (fun h5 => ?_)
  · skip
    refine w_iconst (v := 1) C d_M_sleep_12 rfl ?_
    refine p_M_thrown C m_568 d_M_sleep_13 ?_
    refine w_mt (mt2 := (thr mt 1)) rfl ?_
    refine w_aload_n C 0 d_M_sleep_16 rfl rfl ?_
    refine g_M_thrown C m_568 d_M_sleep_17 ?_
    refine w_topi (y := 1) rfl ?_
    refine w_if_le_f C 25 d_M_sleep_20 (by decide) (by decide) ?_
    refine w_iconst (v := 0) C d_M_sleep_23 rfl ?_
    exact w_zretM C hr (by first | exact Or.inl rfl | exact Or.inr rfl | exact b2i_01 _) d_M_sleep_24 (Or.inl ⟨h5, rfl, rfl⟩)
  · skip
    obtain ⟨q, hq, rfl⟩ := inb_R (n := 7) (by decide) h5
    refine w_iconst (v := 0) C d_M_sleep_8 rfl ?_
    refine w_goto C 13 d_M_sleep_9 (by decide) ?_
    refine p_M_thrown C m_568 d_M_sleep_13 ?_
    refine w_mt (mt2 := (thr mt 0)) rfl ?_
    refine w_aload_n C 0 d_M_sleep_16 rfl rfl ?_
    refine g_M_thrown C m_568 d_M_sleep_17 ?_
    refine w_topi (y := 0) rfl ?_
    refine w_if_le_t C 25 d_M_sleep_20 (by decide) (by decide) ?_
    refine w_aload_n C 0 d_M_sleep_25 rfl rfl ?_
    refine g_M_isAsleep C m_574 d_M_sleep_26 ?_
    refine w_iload_n C 1 d_M_sleep_29 rfl rfl ?_
    refine ia_MZ (pl := 56) C rfl (by omega) d_M_sleep_30 ?_
    refine w_if_ne C 38 d_M_sleep_31 (by decide) (fun h31 => ?_) (fun h31 => ?_)
    · skip
      refine w_iconst (v := 0) C d_M_sleep_38 rfl ?_
      refine w_istore_n (lv2 := [(2, .int 0), (0, .ref (ad 50)), (1, .int (nI q))]) C d_M_sleep_39 rfl (by decide) rfl ?_
      refine w_aload_n C 1 d_M_sleep_40 rfl rfl ?_
      refine g_M_heard C m_573 d_M_sleep_41 ?_
      refine w_iload_n C 2 d_M_sleep_44 rfl rfl ?_
      refine w_iload_n C 0 d_M_sleep_45 rfl rfl ?_
      refine w_if_eq_t C 58 d_M_sleep_46 (by decide) (by decide) ?_
      refine w_aload_n C 1 d_M_sleep_58 rfl rfl ?_
      refine g_M_heard C m_573 d_M_sleep_59 ?_
      refine w_iload_n C 2 d_M_sleep_62 rfl rfl ?_
      refine ia_MA C 5 (by omega) (by omega) rfl rfl (show _ < 8 by omega) d_M_sleep_63 ?_
      refine is_MA C 5 (by omega) (by omega) rfl rfl (show _ < 8 by omega) d_M_sleep_64 ?_
      refine w_aload_n C 1 d_M_sleep_65 rfl rfl ?_
      refine g_M_isAsleep C m_574 d_M_sleep_66 ?_
      refine w_iload_n C 2 d_M_sleep_69 rfl rfl ?_
      refine w_iconst (v := 1) C d_M_sleep_70 rfl ?_
      refine is_MZ (pl := 56) C (by first | exact Or.inl rfl | exact Or.inr rfl) rfl (by omega) d_M_sleep_71 ?_
      refine w_iload_n C 0 d_M_sleep_72 rfl rfl ?_
      exact w_zretM C hr (by first | exact Or.inl rfl | exact Or.inr rfl | exact b2i_01 _) d_M_sleep_73 (Or.inr ⟨q, hq, rfl, Or.inr ⟨h31, rfl, rfl⟩⟩)
    · skip
      refine w_iconst (v := 1) C d_M_sleep_34 rfl ?_
      refine w_goto C 39 d_M_sleep_35 (by decide) ?_
      refine w_istore_n (lv2 := [(2, .int 1), (0, .ref (ad 50)), (1, .int (nI q))]) C d_M_sleep_39 rfl (by decide) rfl ?_
      refine w_aload_n C 1 d_M_sleep_40 rfl rfl ?_
      refine g_M_heard C m_573 d_M_sleep_41 ?_
      refine w_iload_n C 2 d_M_sleep_44 rfl rfl ?_
      refine w_iload_n C 0 d_M_sleep_45 rfl rfl ?_
      refine w_if_eq_f C 58 d_M_sleep_46 (by decide) (by decide) ?_
      refine w_aload_n C 1 d_M_sleep_49 rfl rfl ?_
      refine g_M_version C m_572 d_M_sleep_50 ?_
      refine w_iload_n C 2 d_M_sleep_53 rfl rfl ?_
      refine ia_MA C 4 (by omega) (by omega) rfl rfl (show _ < 8 by omega) d_M_sleep_54 ?_
      refine w_goto C 64 d_M_sleep_55 (by decide) ?_
      refine is_MA C 5 (by omega) (by omega) rfl rfl (show _ < 8 by omega) d_M_sleep_64 ?_
      refine w_aload_n C 1 d_M_sleep_65 rfl rfl ?_
      refine g_M_isAsleep C m_574 d_M_sleep_66 ?_
      refine w_iload_n C 2 d_M_sleep_69 rfl rfl ?_
      refine w_iconst (v := 1) C d_M_sleep_70 rfl ?_
      refine is_MZ (pl := 56) C (by first | exact Or.inl rfl | exact Or.inr rfl) rfl (by omega) d_M_sleep_71 ?_
      refine w_iload_n C 0 d_M_sleep_72 rfl rfl ?_
      exact w_zretM C hr (by first | exact Or.inl rfl | exact Or.inr rfl | exact b2i_01 _) d_M_sleep_73 (Or.inr ⟨q, hq, rfl, Or.inl ⟨h31, rfl, rfl⟩⟩)
set_option maxHeartbeats 4000000 in
set_option maxRecDepth 100000 in
theorem c_M_wake {l : Launch} {D : va_G} {cs : Nat → ClassId} {ad : Nat → Nat} {st mt : Nat → Nat → Int32} {ov : Nat → Int64} {p0 : Int32} : gM l y_M_wake b_M_wake 3 (some .int) ({ frames := 2, cells := 0, slots := 0, locals := 42 } : Room) 0 0 [.ref (ad 50), .int p0] D cs ad st mt ov (QMi D cs ad st ov (fun r u => (inb p0 0 7 = false ∧ u = thr mt 1 ∧ r = 0) ∨ (∃ q, q < 8 ∧ p0 = nI q ∧ u = up2 (thr mt 0) 6 q 0 ∧ r = thr mt 0 4 q - heM (thr mt 0) q))) := by
  refine gM_of (own := "TwinRegisterModel") (by decide +kernel) rfl (Nat.le_of_ble_eq_true rfl) ?_
  intro p e s m args below meth c C hr
  refine w_lv (lv2 := [(0, .ref (ad 50)), (1, .int p0)]) [0, 1] rfl ?_
  refine w_aload_n C 0 d_M_wake_0 rfl rfl ?_
  refine w_iload_n C 1 d_M_wake_1 rfl rfl ?_
  refine w_callMi C (w_runS C (c_M_isDevice ) m_662 m_663 m_41 m_664 ⟨rfl, rfl⟩ hd_M_isDevice rfl ⟨Nat.le_of_ble_eq_true rfl, Nat.le_of_ble_eq_true rfl⟩ rfl (Nat.le_of_ble_eq_true rfl) d_M_wake_2 ⟨Nat.le_of_ble_eq_true rfl, Nat.le_of_ble_eq_true rfl⟩) (fun r2 u2 h2 => ?_)
  obtain ⟨rfl, h2⟩ := h2; have h2 := h2.symm; subst h2
  refine w_ifb_eq C 12 d_M_wake_5 (by decide) (fun h5 => ?_) (fun h5 => ?_)
  · skip
    refine w_iconst (v := 1) C d_M_wake_12 rfl ?_
    refine p_M_thrown C m_568 d_M_wake_13 ?_
    refine w_mt (mt2 := (thr mt 1)) rfl ?_
    refine w_aload_n C 0 d_M_wake_16 rfl rfl ?_
    refine g_M_thrown C m_568 d_M_wake_17 ?_
    refine w_topi (y := 1) rfl ?_
    refine w_if_le_f C 25 d_M_wake_20 (by decide) (by decide) ?_
    refine w_iconst (v := 0) C d_M_wake_23 rfl ?_
    exact w_iretM C hr d_M_wake_24 (Or.inl ⟨h5, rfl, rfl⟩)
  · skip
    obtain ⟨q, hq, rfl⟩ := inb_R (n := 7) (by decide) h5
    refine w_iconst (v := 0) C d_M_wake_8 rfl ?_
    refine w_goto C 13 d_M_wake_9 (by decide) ?_
    refine p_M_thrown C m_568 d_M_wake_13 ?_
    refine w_mt (mt2 := (thr mt 0)) rfl ?_
    refine w_aload_n C 0 d_M_wake_16 rfl rfl ?_
    refine g_M_thrown C m_568 d_M_wake_17 ?_
    refine w_topi (y := 0) rfl ?_
    refine w_if_le_t C 25 d_M_wake_20 (by decide) (by decide) ?_
    refine w_aload_n C 0 d_M_wake_25 rfl rfl ?_
    refine g_M_version C m_572 d_M_wake_26 ?_
    refine w_iload_n C 1 d_M_wake_29 rfl rfl ?_
    refine ia_MA C 4 (by omega) (by omega) rfl rfl (show _ < 8 by omega) d_M_wake_30 ?_
    refine w_aload_n C 0 d_M_wake_31 rfl rfl ?_
    refine w_iload_n C 1 d_M_wake_32 rfl rfl ?_
    refine w_callMi C (w_runV C (c_M_heardOf (by omega)) (by omega) e_M rfl rfl m_704 m_706 m_28 m_41 m_707 ⟨rfl, rfl⟩ hd_M_heardOf rfl ⟨Nat.le_of_ble_eq_true rfl, Nat.le_of_ble_eq_true rfl⟩ rfl (Nat.le_of_ble_eq_true rfl) d_M_wake_33 ⟨Nat.le_of_ble_eq_true rfl, Nat.le_of_ble_eq_true rfl⟩) (fun r33 u33 h33 => ?_)
    obtain ⟨rfl, h33⟩ := h33; have h33 := h33.symm; subst h33
    refine w_isub C d_M_wake_36 ?_
    refine w_istore_n (lv2 := [(2, .int _), (0, .ref (ad 50)), (1, .int (nI q))]) C d_M_wake_37 rfl (by decide) rfl ?_
    refine w_aload_n C 1 d_M_wake_38 rfl rfl ?_
    refine g_M_isAsleep C m_574 d_M_wake_39 ?_
    refine w_iload_n C 2 d_M_wake_42 rfl rfl ?_
    refine w_iconst (v := 0) C d_M_wake_43 rfl ?_
    refine is_MZ (pl := 56) C (by first | exact Or.inl rfl | exact Or.inr rfl) rfl (by omega) d_M_wake_44 ?_
    refine w_iload_n C 0 d_M_wake_45 rfl rfl ?_
    exact w_iretM C hr d_M_wake_46 (Or.inr ⟨q, hq, rfl, rfl, rfl⟩)
set_option maxHeartbeats 4000000 in
set_option maxRecDepth 100000 in
theorem c_M_setGroup {l : Launch} {D : va_G} {cs : Nat → ClassId} {ad : Nat → Nat} {st mt : Nat → Nat → Int32} {ov : Nat → Int64} {p0 p1 p2 p3 : Int32} : gM l y_M_setGroup b_M_setGroup 5 (some .int) ({ frames := 2, cells := 0, slots := 0, locals := 46 } : Room) 0 0 [.ref (ad 50), .int p0, .int p1, .int p2, .int p3] D cs ad st mt ov (QMi D cs ad st ov (fun r u => ((inb p0 0 3 = false ∨ inb p1 0 11 = false) ∧ u = thr mt 1 ∧ r = 0) ∨ (∃ g k, g < 4 ∧ k < 12 ∧ p0 = nI g ∧ p1 = nI k ∧ ((¬ (inb p2 0 99 = true ∧ inb p3 p2 99 = true) ∧ u = thr mt 2 ∧ r = 0) ∨ (inb p2 0 99 = true ∧ inb p3 p2 99 = true ∧ u = sgr (thr mt 0) g (nI k) p2 p3 ∧ r = mnM (mbM u g k 8) 12))))) := by
  refine gM_of (own := "TwinRegisterModel") (by decide +kernel) rfl (Nat.le_of_ble_eq_true rfl) ?_
  intro p e s m args below meth c C hr
  refine w_lv (lv2 := [(0, .ref (ad 50)), (1, .int p0), (2, .int p1), (3, .int p2), (4, .int p3)]) [0, 1, 2, 3, 4] rfl ?_
  refine w_aload_n C 0 d_M_setGroup_0 rfl rfl ?_
  refine w_iload_n C 1 d_M_setGroup_1 rfl rfl ?_
  refine w_callMi C (w_runS C (c_M_isGroup ) m_712 m_713 m_41 m_714 ⟨rfl, rfl⟩ hd_M_isGroup rfl ⟨Nat.le_of_ble_eq_true rfl, Nat.le_of_ble_eq_true rfl⟩ rfl (Nat.le_of_ble_eq_true rfl) d_M_setGroup_2 ⟨Nat.le_of_ble_eq_true rfl, Nat.le_of_ble_eq_true rfl⟩) (fun r2 u2 h2 => ?_)
  obtain ⟨rfl, h2⟩ := h2; have h2 := h2.symm; subst h2
  refine w_ifb_eq C 15 d_M_setGroup_5 (by decide) (fun h5 => ?_) (fun h5 => ?_)
  · skip
    refine w_iconst (v := 1) C d_M_setGroup_15 rfl ?_
    refine w_goto C 45 d_M_setGroup_16 (by decide) ?_
    refine p_M_thrown C m_568 d_M_setGroup_45 ?_
    refine w_mt (mt2 := (thr mt 1)) rfl ?_
    refine w_aload_n C 0 d_M_setGroup_48 rfl rfl ?_
    refine g_M_thrown C m_568 d_M_setGroup_49 ?_
    refine w_topi (y := 1) rfl ?_
    refine w_if_le_f C 57 d_M_setGroup_52 (by decide) (by decide) ?_
    refine w_iconst (v := 0) C d_M_setGroup_55 rfl ?_
    exact w_iretM C hr d_M_setGroup_56 (Or.inl ⟨Or.inl h5, rfl, rfl⟩)
  · skip
    obtain ⟨g, hg, rfl⟩ := inb_R (n := 3) (by decide) h5
    refine w_iload_n C 2 d_M_setGroup_8 rfl rfl ?_
    refine w_callMi C (w_runS C (c_M_isLeaf ) m_644 m_645 m_41 m_646 ⟨rfl, rfl⟩ hd_M_isLeaf rfl ⟨Nat.le_of_ble_eq_true rfl, Nat.le_of_ble_eq_true rfl⟩ rfl (Nat.le_of_ble_eq_true rfl) d_M_setGroup_9 ⟨Nat.le_of_ble_eq_true rfl, Nat.le_of_ble_eq_true rfl⟩) (fun r9 u9 h9 => ?_)
    obtain ⟨rfl, h9⟩ := h9; have h9 := h9.symm; subst h9
    refine w_ifb_ne C 19 d_M_setGroup_12 (by decide) (fun h12 => ?_) (fun h12 => ?_)
    · skip
      obtain ⟨k, hk, rfl⟩ := inb_R (n := 11) (by decide) h12
      refine w_iload_n C 3 d_M_setGroup_19 rfl rfl ?_
      refine w_iconst (v := 0) C d_M_setGroup_20 rfl ?_
      refine w_bipush (v := 99) C d_M_setGroup_21 rfl ?_
      refine w_callMi C (w_runS C (c_M_in ) m_647 m_648 m_41 m_649 ⟨rfl, rfl⟩ hd_M_in rfl ⟨Nat.le_of_ble_eq_true rfl, Nat.le_of_ble_eq_true rfl⟩ rfl (Nat.le_of_ble_eq_true rfl) d_M_setGroup_23 ⟨Nat.le_of_ble_eq_true rfl, Nat.le_of_ble_eq_true rfl⟩) (fun r23 u23 h23 => ?_)
      obtain ⟨rfl, h23⟩ := h23; have h23 := h23.symm; subst h23
      refine w_ifb_eq C 44 d_M_setGroup_26 (by decide) (fun h26 => ?_) (fun h26 => ?_)
      · skip
        refine w_iconst (v := 2) C d_M_setGroup_44 rfl ?_
        refine p_M_thrown C m_568 d_M_setGroup_45 ?_
        refine w_mt (mt2 := (thr mt 2)) rfl ?_
        refine w_aload_n C 0 d_M_setGroup_48 rfl rfl ?_
        refine g_M_thrown C m_568 d_M_setGroup_49 ?_
        refine w_topi (y := 2) rfl ?_
        refine w_if_le_f C 57 d_M_setGroup_52 (by decide) (by decide) ?_
        refine w_iconst (v := 0) C d_M_setGroup_55 rfl ?_
        exact w_iretM C hr d_M_setGroup_56 (Or.inr ⟨g, k, hg, hk, rfl, rfl, Or.inl ⟨fun z => Bool.false_ne_true (h26.symm.trans z.1), rfl, rfl⟩⟩)
      · skip
        refine w_iload C 4 d_M_setGroup_29 rfl ?_
        refine w_iload_n C 3 d_M_setGroup_31 rfl rfl ?_
        refine w_bipush (v := 99) C d_M_setGroup_32 rfl ?_
        refine w_callMi C (w_runS C (c_M_in ) m_647 m_648 m_41 m_649 ⟨rfl, rfl⟩ hd_M_in rfl ⟨Nat.le_of_ble_eq_true rfl, Nat.le_of_ble_eq_true rfl⟩ rfl (Nat.le_of_ble_eq_true rfl) d_M_setGroup_34 ⟨Nat.le_of_ble_eq_true rfl, Nat.le_of_ble_eq_true rfl⟩) (fun r34 u34 h34 => ?_)
        obtain ⟨rfl, h34⟩ := h34; have h34 := h34.symm; subst h34
        refine w_ifb_eq C 44 d_M_setGroup_37 (by decide) (fun h37 => ?_) (fun h37 => ?_)
        · skip
          refine w_iconst (v := 2) C d_M_setGroup_44 rfl ?_
          refine p_M_thrown C m_568 d_M_setGroup_45 ?_
          refine w_mt (mt2 := (thr mt 2)) rfl ?_
          refine w_aload_n C 0 d_M_setGroup_48 rfl rfl ?_
          refine g_M_thrown C m_568 d_M_setGroup_49 ?_
          refine w_topi (y := 2) rfl ?_
          refine w_if_le_f C 57 d_M_setGroup_52 (by decide) (by decide) ?_
          refine w_iconst (v := 0) C d_M_setGroup_55 rfl ?_
          exact w_iretM C hr d_M_setGroup_56 (Or.inr ⟨g, k, hg, hk, rfl, rfl, Or.inl ⟨fun z => Bool.false_ne_true (h37.symm.trans z.2), rfl, rfl⟩⟩)
        · skip
          refine w_iconst (v := 0) C d_M_setGroup_40 rfl ?_
          refine w_goto C 45 d_M_setGroup_41 (by decide) ?_
          refine p_M_thrown C m_568 d_M_setGroup_45 ?_
          refine w_mt (mt2 := (thr mt 0)) rfl ?_
          refine w_aload_n C 0 d_M_setGroup_48 rfl rfl ?_
          refine g_M_thrown C m_568 d_M_setGroup_49 ?_
          refine w_topi (y := 0) rfl ?_
          refine w_if_le_t C 57 d_M_setGroup_52 (by decide) (by decide) ?_
          refine w_aload_n C 0 d_M_setGroup_57 rfl rfl ?_
          refine g_M_groupLeaf C m_577 d_M_setGroup_58 ?_
          refine w_iload_n C 1 d_M_setGroup_61 rfl rfl ?_
          refine w_iload_n C 2 d_M_setGroup_62 rfl rfl ?_
          refine is_MA C 9 (by omega) (by omega) rfl rfl (show _ < 4 by omega) d_M_setGroup_63 ?_
          refine w_aload_n C 0 d_M_setGroup_64 rfl rfl ?_
          refine g_M_low C m_578 d_M_setGroup_65 ?_
          refine w_iload_n C 1 d_M_setGroup_68 rfl rfl ?_
          refine w_iload_n C 3 d_M_setGroup_69 rfl rfl ?_
          refine is_MA C 10 (by omega) (by omega) rfl rfl (show _ < 4 by omega) d_M_setGroup_70 ?_
          refine w_aload_n C 0 d_M_setGroup_71 rfl rfl ?_
          refine g_M_high C m_579 d_M_setGroup_72 ?_
          refine w_iload_n C 1 d_M_setGroup_75 rfl rfl ?_
          refine w_iload C 4 d_M_setGroup_76 rfl ?_
          refine is_MA C 11 (by omega) (by omega) rfl rfl (show _ < 4 by omega) d_M_setGroup_78 ?_
          have hgl : sgr (thr mt 0) g (nI k) p2 p3 9 g = nI k := by simp [sgr, up2_at]
          refine w_mt (mt2 := sgr (thr mt 0) g (nI k) p2 p3) rfl ?_
          refine w_aload_n C 0 d_M_setGroup_79 rfl rfl ?_
          refine w_iload_n C 1 d_M_setGroup_80 rfl rfl ?_
          refine w_callMi C (w_runV C (c_M_membersOf hg hk hgl) (by omega) e_M rfl rfl m_715 m_717 m_29 m_41 m_718 ⟨rfl, rfl⟩ hd_M_membersOf rfl ⟨Nat.le_of_ble_eq_true rfl, Nat.le_of_ble_eq_true rfl⟩ rfl (Nat.le_of_ble_eq_true rfl) d_M_setGroup_81 ⟨Nat.le_of_ble_eq_true rfl, Nat.le_of_ble_eq_true rfl⟩) (fun r9 u9 h9 => ?_)
          obtain ⟨rfl, h9⟩ := h9
          have h9 := h9.symm
          subst h9
          refine w_callMi C (w_runS C (c_M_manyOf ) m_685 m_686 m_41 m_687 ⟨rfl, rfl⟩ hd_M_manyOf rfl ⟨Nat.le_of_ble_eq_true rfl, Nat.le_of_ble_eq_true rfl⟩ rfl (Nat.le_of_ble_eq_true rfl) d_M_setGroup_84 ⟨Nat.le_of_ble_eq_true rfl, Nat.le_of_ble_eq_true rfl⟩) (fun r84 u84 h84 => ?_)
          obtain ⟨rfl, h84⟩ := h84; have h84 := h84.symm; subst h84
          exact w_iretM C hr d_M_setGroup_87 (Or.inr ⟨g, k, hg, hk, rfl, rfl, Or.inr ⟨h26, h37, rfl, rfl⟩⟩)
    · skip
      refine w_iconst (v := 1) C d_M_setGroup_15 rfl ?_
      refine w_goto C 45 d_M_setGroup_16 (by decide) ?_
      refine p_M_thrown C m_568 d_M_setGroup_45 ?_
      refine w_mt (mt2 := (thr mt 1)) rfl ?_
      refine w_aload_n C 0 d_M_setGroup_48 rfl rfl ?_
      refine g_M_thrown C m_568 d_M_setGroup_49 ?_
      refine w_topi (y := 1) rfl ?_
      refine w_if_le_f C 57 d_M_setGroup_52 (by decide) (by decide) ?_
      refine w_iconst (v := 0) C d_M_setGroup_55 rfl ?_
      exact w_iretM C hr d_M_setGroup_56 (Or.inl ⟨Or.inr h12, rfl, rfl⟩)
set_option maxHeartbeats 4000000 in
set_option maxRecDepth 100000 in
theorem c_M_addJob {l : Launch} {D : va_G} {cs : Nat → ClassId} {ad : Nat → Nat} {st mt : Nat → Nat → Int32} {ov : Nat → Int64} {p0 p1 p2 p3 p4 : Int32} {jc : Nat} (hjc : jc ≤ 8) (hj0 : mt 0 12 = nI jc) : gM l y_M_addJob b_M_addJob 7 (some .int) ({ frames := 2, cells := 0, slots := 0, locals := 42 } : Room) 0 0 [.ref (ad 50), .int p0, .int p1, .int p2, .int p3, .int p4] D cs ad st mt ov (QMi D cs ad st ov (fun r u => ((inb p0 0 3 = false ∨ inb p1 0 11 = false) ∧ u = thr mt 1 ∧ r = 0) ∨ (∃ g k, g < 4 ∧ k < 12 ∧ p0 = nI g ∧ p1 = nI k ∧ ((¬ (inb p2 0 99 = true ∧ inb p3 1 8 = true ∧ inb p4 1 8 = true) ∧ u = thr mt 2 ∧ r = 0) ∨ ((inb p2 0 99 = true ∧ inb p3 1 8 = true ∧ inb p4 1 8 = true) ∧ jc = 8 ∧ u = thr mt 3 ∧ r = 0) ∨ ((inb p2 0 99 = true ∧ inb p3 1 8 = true ∧ inb p4 1 8 = true) ∧ jc < 8 ∧ u = icM (ajM (thr mt 0) jc (nI g) (nI k) p2 p3 p4) ∧ r = u 0 12 - 1))))) := by
  refine gM_of (own := "TwinRegisterModel") (by decide +kernel) rfl (Nat.le_of_ble_eq_true rfl) ?_
  intro p e s m args below meth c C hr
  refine w_lv (lv2 := [(0, .ref (ad 50)), (1, .int p0), (2, .int p1), (3, .int p2), (4, .int p3), (5, .int p4)]) [0, 1, 2, 3, 4, 5] rfl ?_
  refine w_iload_n C 3 d_M_addJob_0 rfl rfl ?_
  refine w_iconst (v := 0) C d_M_addJob_1 rfl ?_
  refine w_bipush (v := 99) C d_M_addJob_2 rfl ?_
  refine w_callMi C (w_runS C (c_M_in ) m_647 m_648 m_41 m_649 ⟨rfl, rfl⟩ hd_M_in rfl ⟨Nat.le_of_ble_eq_true rfl, Nat.le_of_ble_eq_true rfl⟩ rfl (Nat.le_of_ble_eq_true rfl) d_M_addJob_4 ⟨Nat.le_of_ble_eq_true rfl, Nat.le_of_ble_eq_true rfl⟩) (fun r4 u4 h4 => ?_)
  obtain ⟨rfl, h4⟩ := h4; have h4 := h4.symm; subst h4
  refine w_ifb_eq C 36 d_M_addJob_7 (by decide) (fun h7 => ?_) (fun h7 => ?_)
  · skip
    refine w_iconst (v := 0) C d_M_addJob_36 rfl ?_
    refine w_istore (lv2 := [(6, .int 0), (0, .ref (ad 50)), (1, .int p0), (2, .int p1), (3, .int p2), (4, .int p3), (5, .int p4)]) C d_M_addJob_37 (by decide) rfl ?_
    refine w_aload_n C 1 d_M_addJob_39 rfl rfl ?_
    refine w_iload_n C 2 d_M_addJob_40 rfl rfl ?_
    refine w_callMi C (w_runS C (c_M_isGroup ) m_712 m_713 m_41 m_714 ⟨rfl, rfl⟩ hd_M_isGroup rfl ⟨Nat.le_of_ble_eq_true rfl, Nat.le_of_ble_eq_true rfl⟩ rfl (Nat.le_of_ble_eq_true rfl) d_M_addJob_41 ⟨Nat.le_of_ble_eq_true rfl, Nat.le_of_ble_eq_true rfl⟩) (fun r41 u41 h41 => ?_)
    obtain ⟨rfl, h41⟩ := h41; have h41 := h41.symm; subst h41
    refine w_ifb_eq C 54 d_M_addJob_44 (by decide) (fun h44 => ?_) (fun h44 => ?_)
    · skip
      refine w_iconst (v := 1) C d_M_addJob_54 rfl ?_
      refine w_goto C 81 d_M_addJob_55 (by decide) ?_
      refine p_M_thrown C m_568 d_M_addJob_81 ?_
      refine w_mt (mt2 := (thr mt 1)) rfl ?_
      refine w_aload_n C 1 d_M_addJob_84 rfl rfl ?_
      refine g_M_thrown C m_568 d_M_addJob_85 ?_
      refine w_topi (y := 1) rfl ?_
      refine w_if_le_f C 93 d_M_addJob_88 (by decide) (by decide) ?_
      refine w_iconst (v := 0) C d_M_addJob_91 rfl ?_
      exact w_iretM C hr d_M_addJob_92 (Or.inl ⟨Or.inl h44, rfl, rfl⟩)
    · skip
      obtain ⟨g, hg, rfl⟩ := inb_R (n := 3) (by decide) h44
      refine w_iload_n C 3 d_M_addJob_47 rfl rfl ?_
      refine w_callMi C (w_runS C (c_M_isLeaf ) m_644 m_645 m_41 m_646 ⟨rfl, rfl⟩ hd_M_isLeaf rfl ⟨Nat.le_of_ble_eq_true rfl, Nat.le_of_ble_eq_true rfl⟩ rfl (Nat.le_of_ble_eq_true rfl) d_M_addJob_48 ⟨Nat.le_of_ble_eq_true rfl, Nat.le_of_ble_eq_true rfl⟩) (fun r48 u48 h48 => ?_)
      obtain ⟨rfl, h48⟩ := h48; have h48 := h48.symm; subst h48
      refine w_ifb_ne C 58 d_M_addJob_51 (by decide) (fun h51 => ?_) (fun h51 => ?_)
      · skip
        obtain ⟨k, hk, rfl⟩ := inb_R (n := 11) (by decide) h51
        refine w_iload C 0 d_M_addJob_58 rfl ?_
        refine w_if_ne_f C 67 d_M_addJob_60 (by decide) (by decide) ?_
        refine w_iconst (v := 2) C d_M_addJob_63 rfl ?_
        refine w_goto C 81 d_M_addJob_64 (by decide) ?_
        refine p_M_thrown C m_568 d_M_addJob_81 ?_
        refine w_mt (mt2 := (thr mt 2)) rfl ?_
        refine w_aload_n C 1 d_M_addJob_84 rfl rfl ?_
        refine g_M_thrown C m_568 d_M_addJob_85 ?_
        refine w_topi (y := 2) rfl ?_
        refine w_if_le_f C 93 d_M_addJob_88 (by decide) (by decide) ?_
        refine w_iconst (v := 0) C d_M_addJob_91 rfl ?_
        exact w_iretM C hr d_M_addJob_92 (Or.inr ⟨g, k, hg, hk, rfl, rfl, Or.inl ⟨fun z => Bool.false_ne_true (h7.symm.trans z.1), rfl, rfl⟩⟩)
      · skip
        refine w_iconst (v := 1) C d_M_addJob_54 rfl ?_
        refine w_goto C 81 d_M_addJob_55 (by decide) ?_
        refine p_M_thrown C m_568 d_M_addJob_81 ?_
        refine w_mt (mt2 := (thr mt 1)) rfl ?_
        refine w_aload_n C 1 d_M_addJob_84 rfl rfl ?_
        refine g_M_thrown C m_568 d_M_addJob_85 ?_
        refine w_topi (y := 1) rfl ?_
        refine w_if_le_f C 93 d_M_addJob_88 (by decide) (by decide) ?_
        refine w_iconst (v := 0) C d_M_addJob_91 rfl ?_
        exact w_iretM C hr d_M_addJob_92 (Or.inl ⟨Or.inr h51, rfl, rfl⟩)
  · skip
    refine w_iload C 4 d_M_addJob_10 rfl ?_
    refine w_iconst (v := 1) C d_M_addJob_12 rfl ?_
    refine w_bipush (v := 8) C d_M_addJob_13 rfl ?_
    refine w_callMi C (w_runS C (c_M_in ) m_647 m_648 m_41 m_649 ⟨rfl, rfl⟩ hd_M_in rfl ⟨Nat.le_of_ble_eq_true rfl, Nat.le_of_ble_eq_true rfl⟩ rfl (Nat.le_of_ble_eq_true rfl) d_M_addJob_15 ⟨Nat.le_of_ble_eq_true rfl, Nat.le_of_ble_eq_true rfl⟩) (fun r15 u15 h15 => ?_)
    obtain ⟨rfl, h15⟩ := h15; have h15 := h15.symm; subst h15
    refine w_ifb_eq C 36 d_M_addJob_18 (by decide) (fun h18 => ?_) (fun h18 => ?_)
    · skip
      refine w_iconst (v := 0) C d_M_addJob_36 rfl ?_
      refine w_istore (lv2 := [(6, .int 0), (0, .ref (ad 50)), (1, .int p0), (2, .int p1), (3, .int p2), (4, .int p3), (5, .int p4)]) C d_M_addJob_37 (by decide) rfl ?_
      refine w_aload_n C 1 d_M_addJob_39 rfl rfl ?_
      refine w_iload_n C 2 d_M_addJob_40 rfl rfl ?_
      refine w_callMi C (w_runS C (c_M_isGroup ) m_712 m_713 m_41 m_714 ⟨rfl, rfl⟩ hd_M_isGroup rfl ⟨Nat.le_of_ble_eq_true rfl, Nat.le_of_ble_eq_true rfl⟩ rfl (Nat.le_of_ble_eq_true rfl) d_M_addJob_41 ⟨Nat.le_of_ble_eq_true rfl, Nat.le_of_ble_eq_true rfl⟩) (fun r41 u41 h41 => ?_)
      obtain ⟨rfl, h41⟩ := h41; have h41 := h41.symm; subst h41
      refine w_ifb_eq C 54 d_M_addJob_44 (by decide) (fun h44 => ?_) (fun h44 => ?_)
      · skip
        refine w_iconst (v := 1) C d_M_addJob_54 rfl ?_
        refine w_goto C 81 d_M_addJob_55 (by decide) ?_
        refine p_M_thrown C m_568 d_M_addJob_81 ?_
        refine w_mt (mt2 := (thr mt 1)) rfl ?_
        refine w_aload_n C 1 d_M_addJob_84 rfl rfl ?_
        refine g_M_thrown C m_568 d_M_addJob_85 ?_
        refine w_topi (y := 1) rfl ?_
        refine w_if_le_f C 93 d_M_addJob_88 (by decide) (by decide) ?_
        refine w_iconst (v := 0) C d_M_addJob_91 rfl ?_
        exact w_iretM C hr d_M_addJob_92 (Or.inl ⟨Or.inl h44, rfl, rfl⟩)
      · skip
        obtain ⟨g, hg, rfl⟩ := inb_R (n := 3) (by decide) h44
        refine w_iload_n C 3 d_M_addJob_47 rfl rfl ?_
        refine w_callMi C (w_runS C (c_M_isLeaf ) m_644 m_645 m_41 m_646 ⟨rfl, rfl⟩ hd_M_isLeaf rfl ⟨Nat.le_of_ble_eq_true rfl, Nat.le_of_ble_eq_true rfl⟩ rfl (Nat.le_of_ble_eq_true rfl) d_M_addJob_48 ⟨Nat.le_of_ble_eq_true rfl, Nat.le_of_ble_eq_true rfl⟩) (fun r48 u48 h48 => ?_)
        obtain ⟨rfl, h48⟩ := h48; have h48 := h48.symm; subst h48
        refine w_ifb_ne C 58 d_M_addJob_51 (by decide) (fun h51 => ?_) (fun h51 => ?_)
        · skip
          obtain ⟨k, hk, rfl⟩ := inb_R (n := 11) (by decide) h51
          refine w_iload C 0 d_M_addJob_58 rfl ?_
          refine w_if_ne_f C 67 d_M_addJob_60 (by decide) (by decide) ?_
          refine w_iconst (v := 2) C d_M_addJob_63 rfl ?_
          refine w_goto C 81 d_M_addJob_64 (by decide) ?_
          refine p_M_thrown C m_568 d_M_addJob_81 ?_
          refine w_mt (mt2 := (thr mt 2)) rfl ?_
          refine w_aload_n C 1 d_M_addJob_84 rfl rfl ?_
          refine g_M_thrown C m_568 d_M_addJob_85 ?_
          refine w_topi (y := 2) rfl ?_
          refine w_if_le_f C 93 d_M_addJob_88 (by decide) (by decide) ?_
          refine w_iconst (v := 0) C d_M_addJob_91 rfl ?_
          exact w_iretM C hr d_M_addJob_92 (Or.inr ⟨g, k, hg, hk, rfl, rfl, Or.inl ⟨fun z => Bool.false_ne_true (h18.symm.trans z.2.1), rfl, rfl⟩⟩)
        · skip
          refine w_iconst (v := 1) C d_M_addJob_54 rfl ?_
          refine w_goto C 81 d_M_addJob_55 (by decide) ?_
          refine p_M_thrown C m_568 d_M_addJob_81 ?_
          refine w_mt (mt2 := (thr mt 1)) rfl ?_
          refine w_aload_n C 1 d_M_addJob_84 rfl rfl ?_
          refine g_M_thrown C m_568 d_M_addJob_85 ?_
          refine w_topi (y := 1) rfl ?_
          refine w_if_le_f C 93 d_M_addJob_88 (by decide) (by decide) ?_
          refine w_iconst (v := 0) C d_M_addJob_91 rfl ?_
          exact w_iretM C hr d_M_addJob_92 (Or.inl ⟨Or.inr h51, rfl, rfl⟩)
    · skip
      refine w_iload C 5 d_M_addJob_21 rfl ?_
      refine w_iconst (v := 1) C d_M_addJob_23 rfl ?_
      refine w_bipush (v := 8) C d_M_addJob_24 rfl ?_
      refine w_callMi C (w_runS C (c_M_in ) m_647 m_648 m_41 m_649 ⟨rfl, rfl⟩ hd_M_in rfl ⟨Nat.le_of_ble_eq_true rfl, Nat.le_of_ble_eq_true rfl⟩ rfl (Nat.le_of_ble_eq_true rfl) d_M_addJob_26 ⟨Nat.le_of_ble_eq_true rfl, Nat.le_of_ble_eq_true rfl⟩) (fun r26 u26 h26 => ?_)
      obtain ⟨rfl, h26⟩ := h26; have h26 := h26.symm; subst h26
      refine w_ifb_eq C 36 d_M_addJob_29 (by decide) (fun h29 => ?_) (fun h29 => ?_)
      · skip
        refine w_iconst (v := 0) C d_M_addJob_36 rfl ?_
        refine w_istore (lv2 := [(6, .int 0), (0, .ref (ad 50)), (1, .int p0), (2, .int p1), (3, .int p2), (4, .int p3), (5, .int p4)]) C d_M_addJob_37 (by decide) rfl ?_
        refine w_aload_n C 1 d_M_addJob_39 rfl rfl ?_
        refine w_iload_n C 2 d_M_addJob_40 rfl rfl ?_
        refine w_callMi C (w_runS C (c_M_isGroup ) m_712 m_713 m_41 m_714 ⟨rfl, rfl⟩ hd_M_isGroup rfl ⟨Nat.le_of_ble_eq_true rfl, Nat.le_of_ble_eq_true rfl⟩ rfl (Nat.le_of_ble_eq_true rfl) d_M_addJob_41 ⟨Nat.le_of_ble_eq_true rfl, Nat.le_of_ble_eq_true rfl⟩) (fun r41 u41 h41 => ?_)
        obtain ⟨rfl, h41⟩ := h41; have h41 := h41.symm; subst h41
        refine w_ifb_eq C 54 d_M_addJob_44 (by decide) (fun h44 => ?_) (fun h44 => ?_)
        · skip
          refine w_iconst (v := 1) C d_M_addJob_54 rfl ?_
          refine w_goto C 81 d_M_addJob_55 (by decide) ?_
          refine p_M_thrown C m_568 d_M_addJob_81 ?_
          refine w_mt (mt2 := (thr mt 1)) rfl ?_
          refine w_aload_n C 1 d_M_addJob_84 rfl rfl ?_
          refine g_M_thrown C m_568 d_M_addJob_85 ?_
          refine w_topi (y := 1) rfl ?_
          refine w_if_le_f C 93 d_M_addJob_88 (by decide) (by decide) ?_
          refine w_iconst (v := 0) C d_M_addJob_91 rfl ?_
          exact w_iretM C hr d_M_addJob_92 (Or.inl ⟨Or.inl h44, rfl, rfl⟩)
        · skip
          obtain ⟨g, hg, rfl⟩ := inb_R (n := 3) (by decide) h44
          refine w_iload_n C 3 d_M_addJob_47 rfl rfl ?_
          refine w_callMi C (w_runS C (c_M_isLeaf ) m_644 m_645 m_41 m_646 ⟨rfl, rfl⟩ hd_M_isLeaf rfl ⟨Nat.le_of_ble_eq_true rfl, Nat.le_of_ble_eq_true rfl⟩ rfl (Nat.le_of_ble_eq_true rfl) d_M_addJob_48 ⟨Nat.le_of_ble_eq_true rfl, Nat.le_of_ble_eq_true rfl⟩) (fun r48 u48 h48 => ?_)
          obtain ⟨rfl, h48⟩ := h48; have h48 := h48.symm; subst h48
          refine w_ifb_ne C 58 d_M_addJob_51 (by decide) (fun h51 => ?_) (fun h51 => ?_)
          · skip
            obtain ⟨k, hk, rfl⟩ := inb_R (n := 11) (by decide) h51
            refine w_iload C 0 d_M_addJob_58 rfl ?_
            refine w_if_ne_f C 67 d_M_addJob_60 (by decide) (by decide) ?_
            refine w_iconst (v := 2) C d_M_addJob_63 rfl ?_
            refine w_goto C 81 d_M_addJob_64 (by decide) ?_
            refine p_M_thrown C m_568 d_M_addJob_81 ?_
            refine w_mt (mt2 := (thr mt 2)) rfl ?_
            refine w_aload_n C 1 d_M_addJob_84 rfl rfl ?_
            refine g_M_thrown C m_568 d_M_addJob_85 ?_
            refine w_topi (y := 2) rfl ?_
            refine w_if_le_f C 93 d_M_addJob_88 (by decide) (by decide) ?_
            refine w_iconst (v := 0) C d_M_addJob_91 rfl ?_
            exact w_iretM C hr d_M_addJob_92 (Or.inr ⟨g, k, hg, hk, rfl, rfl, Or.inl ⟨fun z => Bool.false_ne_true (h29.symm.trans z.2.2), rfl, rfl⟩⟩)
          · skip
            refine w_iconst (v := 1) C d_M_addJob_54 rfl ?_
            refine w_goto C 81 d_M_addJob_55 (by decide) ?_
            refine p_M_thrown C m_568 d_M_addJob_81 ?_
            refine w_mt (mt2 := (thr mt 1)) rfl ?_
            refine w_aload_n C 1 d_M_addJob_84 rfl rfl ?_
            refine g_M_thrown C m_568 d_M_addJob_85 ?_
            refine w_topi (y := 1) rfl ?_
            refine w_if_le_f C 93 d_M_addJob_88 (by decide) (by decide) ?_
            refine w_iconst (v := 0) C d_M_addJob_91 rfl ?_
            exact w_iretM C hr d_M_addJob_92 (Or.inl ⟨Or.inr h51, rfl, rfl⟩)
      · skip
        refine w_iconst (v := 1) C d_M_addJob_32 rfl ?_
        refine w_goto C 37 d_M_addJob_33 (by decide) ?_
        refine w_istore (lv2 := [(6, .int 1), (0, .ref (ad 50)), (1, .int p0), (2, .int p1), (3, .int p2), (4, .int p3), (5, .int p4)]) C d_M_addJob_37 (by decide) rfl ?_
        refine w_aload_n C 1 d_M_addJob_39 rfl rfl ?_
        refine w_iload_n C 2 d_M_addJob_40 rfl rfl ?_
        refine w_callMi C (w_runS C (c_M_isGroup ) m_712 m_713 m_41 m_714 ⟨rfl, rfl⟩ hd_M_isGroup rfl ⟨Nat.le_of_ble_eq_true rfl, Nat.le_of_ble_eq_true rfl⟩ rfl (Nat.le_of_ble_eq_true rfl) d_M_addJob_41 ⟨Nat.le_of_ble_eq_true rfl, Nat.le_of_ble_eq_true rfl⟩) (fun r41 u41 h41 => ?_)
        obtain ⟨rfl, h41⟩ := h41; have h41 := h41.symm; subst h41
        refine w_ifb_eq C 54 d_M_addJob_44 (by decide) (fun h44 => ?_) (fun h44 => ?_)
        · skip
          refine w_iconst (v := 1) C d_M_addJob_54 rfl ?_
          refine w_goto C 81 d_M_addJob_55 (by decide) ?_
          refine p_M_thrown C m_568 d_M_addJob_81 ?_
          refine w_mt (mt2 := (thr mt 1)) rfl ?_
          refine w_aload_n C 1 d_M_addJob_84 rfl rfl ?_
          refine g_M_thrown C m_568 d_M_addJob_85 ?_
          refine w_topi (y := 1) rfl ?_
          refine w_if_le_f C 93 d_M_addJob_88 (by decide) (by decide) ?_
          refine w_iconst (v := 0) C d_M_addJob_91 rfl ?_
          exact w_iretM C hr d_M_addJob_92 (Or.inl ⟨Or.inl h44, rfl, rfl⟩)
        · skip
          obtain ⟨g, hg, rfl⟩ := inb_R (n := 3) (by decide) h44
          refine w_iload_n C 3 d_M_addJob_47 rfl rfl ?_
          refine w_callMi C (w_runS C (c_M_isLeaf ) m_644 m_645 m_41 m_646 ⟨rfl, rfl⟩ hd_M_isLeaf rfl ⟨Nat.le_of_ble_eq_true rfl, Nat.le_of_ble_eq_true rfl⟩ rfl (Nat.le_of_ble_eq_true rfl) d_M_addJob_48 ⟨Nat.le_of_ble_eq_true rfl, Nat.le_of_ble_eq_true rfl⟩) (fun r48 u48 h48 => ?_)
          obtain ⟨rfl, h48⟩ := h48; have h48 := h48.symm; subst h48
          refine w_ifb_ne C 58 d_M_addJob_51 (by decide) (fun h51 => ?_) (fun h51 => ?_)
          · skip
            obtain ⟨k, hk, rfl⟩ := inb_R (n := 11) (by decide) h51
            refine w_iload C 0 d_M_addJob_58 rfl ?_
            refine w_if_ne_t C 67 d_M_addJob_60 (by decide) (by decide) ?_
            refine w_aload_n C 1 d_M_addJob_67 rfl rfl ?_
            refine g_M_jobs C m_580 d_M_addJob_68 ?_
            refine w_topi (y := (nI jc)) (hj0) ?_
            refine w_bipush (v := 8) C d_M_addJob_71 rfl ?_
            refine w_icmp_ne C 80 d_M_addJob_73 (by decide) (fun h73 => ?_) (fun h73 => ?_)
            · skip
              have hjc8 : jc < 8 := by rcases Nat.lt_or_ge jc 8 with z | z <;> first | exact z | exact absurd (show nI jc = nI 8 by rw [show jc = 8 by omega]) h73
              refine w_iconst (v := 0) C d_M_addJob_80 rfl ?_
              refine p_M_thrown C m_568 d_M_addJob_81 ?_
              refine w_mt (mt2 := (thr mt 0)) rfl ?_
              refine w_aload_n C 1 d_M_addJob_84 rfl rfl ?_
              refine g_M_thrown C m_568 d_M_addJob_85 ?_
              refine w_topi (y := 0) rfl ?_
              refine w_if_le_t C 93 d_M_addJob_88 (by decide) (by decide) ?_
              refine w_aload_n C 1 d_M_addJob_93 rfl rfl ?_
              refine g_M_group C m_581 d_M_addJob_94 ?_
              refine w_aload_n C 1 d_M_addJob_97 rfl rfl ?_
              refine g_M_jobs C m_580 d_M_addJob_98 ?_
              refine w_topi (y := (nI jc)) (hj0) ?_
              refine w_iload_n C 2 d_M_addJob_101 rfl rfl ?_
              refine is_MA C 12 (by omega) (by omega) rfl rfl (show _ < 8 by omega) d_M_addJob_102 ?_
              refine w_aload_n C 1 d_M_addJob_103 rfl rfl ?_
              refine g_M_leaf C m_582 d_M_addJob_104 ?_
              refine w_aload_n C 1 d_M_addJob_107 rfl rfl ?_
              refine g_M_jobs C m_580 d_M_addJob_108 ?_
              refine w_topi (y := (nI jc)) (hj0) ?_
              refine w_iload_n C 3 d_M_addJob_111 rfl rfl ?_
              refine is_MA C 13 (by omega) (by omega) rfl rfl (show _ < 8 by omega) d_M_addJob_112 ?_
              refine w_aload_n C 1 d_M_addJob_113 rfl rfl ?_
              refine g_M_value C m_583 d_M_addJob_114 ?_
              refine w_aload_n C 1 d_M_addJob_117 rfl rfl ?_
              refine g_M_jobs C m_580 d_M_addJob_118 ?_
              refine w_topi (y := (nI jc)) (hj0) ?_
              refine w_iload_n C 4 d_M_addJob_121 rfl rfl ?_
              refine is_MA C 14 (by omega) (by omega) rfl rfl (show _ < 8 by omega) d_M_addJob_122 ?_
              refine w_aload_n C 1 d_M_addJob_123 rfl rfl ?_
              refine g_M_rate C m_584 d_M_addJob_124 ?_
              refine w_aload_n C 1 d_M_addJob_127 rfl rfl ?_
              refine g_M_jobs C m_580 d_M_addJob_128 ?_
              refine w_topi (y := (nI jc)) (hj0) ?_
              refine w_iload C 5 d_M_addJob_131 rfl ?_
              refine is_MA C 15 (by omega) (by omega) rfl rfl (show _ < 8 by omega) d_M_addJob_133 ?_
              refine w_aload_n C 1 d_M_addJob_134 rfl rfl ?_
              refine g_M_bound C m_585 d_M_addJob_135 ?_
              refine w_aload_n C 1 d_M_addJob_138 rfl rfl ?_
              refine g_M_jobs C m_580 d_M_addJob_139 ?_
              refine w_topi (y := (nI jc)) (hj0) ?_
              refine w_iload C 6 d_M_addJob_142 rfl ?_
              refine is_MA C 16 (by omega) (by omega) rfl rfl (show _ < 8 by omega) d_M_addJob_144 ?_
              refine w_aload_n C 1 d_M_addJob_145 rfl rfl ?_
              refine g_M_state C m_586 d_M_addJob_146 ?_
              refine w_aload_n C 1 d_M_addJob_149 rfl rfl ?_
              refine g_M_jobs C m_580 d_M_addJob_150 ?_
              refine w_topi (y := (nI jc)) (hj0) ?_
              refine w_iconst (v := 0) C d_M_addJob_153 rfl ?_
              refine is_MA C 17 (by omega) (by omega) rfl rfl (show _ < 8 by omega) d_M_addJob_154 ?_
              refine w_aload_n C 1 d_M_addJob_155 rfl rfl ?_
              refine w_dup C d_M_addJob_156 rfl ?_
              refine g_M_jobs C m_580 d_M_addJob_157 ?_
              refine w_iconst (v := 1) C d_M_addJob_160 rfl ?_
              refine w_iadd C d_M_addJob_161 ?_
              refine p_M_jobs C m_580 d_M_addJob_162 ?_
              refine w_aload_n C 1 d_M_addJob_165 rfl rfl ?_
              refine g_M_jobs C m_580 d_M_addJob_166 ?_
              refine w_iconst (v := 1) C d_M_addJob_169 rfl ?_
              refine w_isub C d_M_addJob_170 ?_
              exact w_iretM C hr d_M_addJob_171 (Or.inr ⟨g, k, hg, hk, rfl, rfl, Or.inr (Or.inr ⟨⟨h7, h18, h29⟩, hjc8, rfl, rfl⟩)⟩)
            · skip
              refine w_iconst (v := 3) C d_M_addJob_76 rfl ?_
              refine w_goto C 81 d_M_addJob_77 (by decide) ?_
              refine p_M_thrown C m_568 d_M_addJob_81 ?_
              refine w_mt (mt2 := (thr mt 3)) rfl ?_
              refine w_aload_n C 1 d_M_addJob_84 rfl rfl ?_
              refine g_M_thrown C m_568 d_M_addJob_85 ?_
              refine w_topi (y := 3) rfl ?_
              refine w_if_le_f C 93 d_M_addJob_88 (by decide) (by decide) ?_
              refine w_iconst (v := 0) C d_M_addJob_91 rfl ?_
              exact w_iretM C hr d_M_addJob_92 (Or.inr ⟨g, k, hg, hk, rfl, rfl, Or.inr (Or.inl ⟨⟨h7, h18, h29⟩, (nI_eq (by omega) (by decide)).mp (show nI jc = nI 8 from h73), rfl, rfl⟩)⟩)
          · skip
            refine w_iconst (v := 1) C d_M_addJob_54 rfl ?_
            refine w_goto C 81 d_M_addJob_55 (by decide) ?_
            refine p_M_thrown C m_568 d_M_addJob_81 ?_
            refine w_mt (mt2 := (thr mt 1)) rfl ?_
            refine w_aload_n C 1 d_M_addJob_84 rfl rfl ?_
            refine g_M_thrown C m_568 d_M_addJob_85 ?_
            refine w_topi (y := 1) rfl ?_
            refine w_if_le_f C 93 d_M_addJob_88 (by decide) (by decide) ?_
            refine w_iconst (v := 0) C d_M_addJob_91 rfl ?_
            exact w_iretM C hr d_M_addJob_92 (Or.inl ⟨Or.inr h51, rfl, rfl⟩)
set_option maxHeartbeats 4000000 in
set_option maxRecDepth 100000 in
theorem c_M_isJob {l : Launch} {D : va_G} {cs : Nat → ClassId} {ad : Nat → Nat} {st mt : Nat → Nat → Int32} {ov : Nat → Int64} {p0 : Int32} {jc : Nat} (hjc : jc ≤ 8) (hj0 : mt 0 12 = nI jc) : gM l y_M_isJob b_M_isJob 2 (some .boolean) ({ frames := 1, cells := 0, slots := 0, locals := 22 } : Room) 0 0 [.ref (ad 50), .int p0] D cs ad st mt ov (QMi D cs ad st ov (fun r u => r = b2i (ijb p0 jc) ∧ u = mt)) := by
  refine gM_of (own := "TwinRegisterModel") (by decide +kernel) rfl (Nat.le_of_ble_eq_true rfl) ?_
  intro p e s m args below meth c C hr
  refine w_lv (lv2 := [(0, .ref (ad 50)), (1, .int p0)]) [0, 1] rfl ?_
  refine w_iload_n C 1 d_M_isJob_0 rfl rfl ?_
  refine w_iconst (v := 0) C d_M_isJob_1 rfl ?_
  refine w_aload_n C 0 d_M_isJob_2 rfl rfl ?_
  refine g_M_jobs C m_580 d_M_isJob_3 ?_
  refine w_topi (y := (nI jc)) (hj0) ?_
  refine w_iconst (v := 1) C d_M_isJob_6 rfl ?_
  refine w_isub C d_M_isJob_7 ?_
  refine w_callMi C (w_runS C (c_M_in ) m_647 m_648 m_41 m_649 ⟨rfl, rfl⟩ hd_M_in rfl ⟨Nat.le_of_ble_eq_true rfl, Nat.le_of_ble_eq_true rfl⟩ rfl (Nat.le_of_ble_eq_true rfl) d_M_isJob_8 ⟨Nat.le_of_ble_eq_true rfl, Nat.le_of_ble_eq_true rfl⟩) (fun r8 u8 h8 => ?_)
  obtain ⟨rfl, h8⟩ := h8; have h8 := h8.symm; subst h8
  exact w_zretM C hr (by first | exact Or.inl rfl | exact Or.inr rfl | exact b2i_01 _) d_M_isJob_11 (⟨rfl, rfl⟩)
set_option maxHeartbeats 4000000 in
set_option maxRecDepth 100000 in
theorem c_M_cancel {l : Launch} {D : va_G} {cs : Nat → ClassId} {ad : Nat → Nat} {st mt : Nat → Nat → Int32} {ov : Nat → Int64} {p0 : Int32} {jc : Nat} (hjc : jc ≤ 8) (hj0 : mt 0 12 = nI jc) : gM l y_M_cancel b_M_cancel 2 (some .int) ({ frames := 2, cells := 0, slots := 0, locals := 43 } : Room) 0 0 [.ref (ad 50), .int p0] D cs ad st mt ov (QMi D cs ad st ov (fun r u => (¬ inR p0 jc ∧ u = thr mt 1 ∧ r = 0) ∨ (∃ j, j < jc ∧ p0 = nI j ∧ ((¬ mt 17 j = 0 ∧ u = thr mt 2 ∧ r = 0) ∨ (mt 17 j = 0 ∧ u = up2 (thr mt 0) 17 j 2 ∧ r = mnM (opM u j) 12))))) := by
  refine gM_of (own := "TwinRegisterModel") (by decide +kernel) rfl (Nat.le_of_ble_eq_true rfl) ?_
  intro p e s m args below meth c C hr
  refine w_lv (lv2 := [(0, .ref (ad 50)), (1, .int p0)]) [0, 1] rfl ?_
  refine w_aload_n C 0 d_M_cancel_0 rfl rfl ?_
  refine w_aload_n C 0 d_M_cancel_1 rfl rfl ?_
  refine w_iload_n C 1 d_M_cancel_2 rfl rfl ?_
  refine w_callMi C (w_runV C (c_M_isJob hjc hj0) (by omega) e_M rfl rfl m_739 m_741 m_32 m_41 m_742 ⟨rfl, rfl⟩ hd_M_isJob rfl ⟨Nat.le_of_ble_eq_true rfl, Nat.le_of_ble_eq_true rfl⟩ rfl (Nat.le_of_ble_eq_true rfl) d_M_cancel_3 ⟨Nat.le_of_ble_eq_true rfl, Nat.le_of_ble_eq_true rfl⟩) (fun r9 u9 h9 => ?_)
  obtain ⟨rfl, h9⟩ := h9
  have h9 := h9.symm
  subst h9
  refine w_ifb_ne C 13 d_M_cancel_6 (by decide) (fun h6 => ?_) (fun h6 => ?_)
  · skip
    obtain ⟨j, hj, rfl⟩ := ijb_t hjc h6
    have hj8 : j < 8 := by omega
    refine w_aload_n C 0 d_M_cancel_13 rfl rfl ?_
    refine g_M_state C m_586 d_M_cancel_14 ?_
    refine w_iload_n C 1 d_M_cancel_17 rfl rfl ?_
    refine ia_MA C 17 (by omega) (by omega) rfl rfl (show _ < 8 by omega) d_M_cancel_18 ?_
    refine w_if_ne C 26 d_M_cancel_19 (by decide) (fun h19 => ?_) (fun h19 => ?_)
    · skip
      refine w_iconst (v := 2) C d_M_cancel_26 rfl ?_
      refine p_M_thrown C m_568 d_M_cancel_27 ?_
      refine w_mt (mt2 := (thr mt 2)) rfl ?_
      refine w_aload_n C 0 d_M_cancel_30 rfl rfl ?_
      refine g_M_thrown C m_568 d_M_cancel_31 ?_
      refine w_topi (y := 2) rfl ?_
      refine w_if_le_f C 39 d_M_cancel_34 (by decide) (by decide) ?_
      refine w_iconst (v := 0) C d_M_cancel_37 rfl ?_
      exact w_iretM C hr d_M_cancel_38 (Or.inr ⟨j, hj, rfl, Or.inl ⟨h19, rfl, rfl⟩⟩)
    · skip
      refine w_iconst (v := 0) C d_M_cancel_22 rfl ?_
      refine w_goto C 27 d_M_cancel_23 (by decide) ?_
      refine p_M_thrown C m_568 d_M_cancel_27 ?_
      refine w_mt (mt2 := (thr mt 0)) rfl ?_
      refine w_aload_n C 0 d_M_cancel_30 rfl rfl ?_
      refine g_M_thrown C m_568 d_M_cancel_31 ?_
      refine w_topi (y := 0) rfl ?_
      refine w_if_le_t C 39 d_M_cancel_34 (by decide) (by decide) ?_
      refine w_aload_n C 0 d_M_cancel_39 rfl rfl ?_
      refine g_M_state C m_586 d_M_cancel_40 ?_
      refine w_iload_n C 1 d_M_cancel_43 rfl rfl ?_
      refine w_iconst (v := 2) C d_M_cancel_44 rfl ?_
      refine is_MA C 17 (by omega) (by omega) rfl rfl (show _ < 8 by omega) d_M_cancel_45 ?_
      refine w_aload_n C 0 d_M_cancel_46 rfl rfl ?_
      refine g_M_started C m_587 d_M_cancel_47 ?_
      refine w_iload_n C 1 d_M_cancel_50 rfl rfl ?_
      refine ia_MA C 18 (by omega) (by omega) rfl rfl (show _ < 8 by omega) d_M_cancel_51 ?_
      refine w_aload_n C 0 d_M_cancel_52 rfl rfl ?_
      refine g_M_done C m_588 d_M_cancel_53 ?_
      refine w_iload_n C 1 d_M_cancel_56 rfl rfl ?_
      refine ia_MA C 19 (by omega) (by omega) rfl rfl (show _ < 8 by omega) d_M_cancel_57 ?_
      refine w_iconst (v := (-1)) C d_M_cancel_58 rfl ?_
      refine w_ixor C d_M_cancel_59 ?_
      refine w_iand C d_M_cancel_60 ?_
      refine w_aload_n C 0 d_M_cancel_61 rfl rfl ?_
      refine g_M_failed C m_589 d_M_cancel_62 ?_
      refine w_iload_n C 1 d_M_cancel_65 rfl rfl ?_
      refine ia_MA C 20 (by omega) (by omega) rfl rfl (show _ < 8 by omega) d_M_cancel_66 ?_
      refine w_iconst (v := (-1)) C d_M_cancel_67 rfl ?_
      refine w_ixor C d_M_cancel_68 ?_
      refine w_iand C d_M_cancel_69 ?_
      refine w_callMi C (w_runS C (c_M_manyOf ) m_685 m_686 m_41 m_687 ⟨rfl, rfl⟩ hd_M_manyOf rfl ⟨Nat.le_of_ble_eq_true rfl, Nat.le_of_ble_eq_true rfl⟩ rfl (Nat.le_of_ble_eq_true rfl) d_M_cancel_70 ⟨Nat.le_of_ble_eq_true rfl, Nat.le_of_ble_eq_true rfl⟩) (fun r70 u70 h70 => ?_)
      obtain ⟨rfl, h70⟩ := h70; have h70 := h70.symm; subst h70
      exact w_iretM C hr d_M_cancel_73 (Or.inr ⟨j, hj, rfl, Or.inr ⟨h19, rfl, rfl⟩⟩)
  · skip
    refine w_iconst (v := 1) C d_M_cancel_9 rfl ?_
    refine w_goto C 27 d_M_cancel_10 (by decide) ?_
    refine p_M_thrown C m_568 d_M_cancel_27 ?_
    refine w_mt (mt2 := (thr mt 1)) rfl ?_
    refine w_aload_n C 0 d_M_cancel_30 rfl rfl ?_
    refine g_M_thrown C m_568 d_M_cancel_31 ?_
    refine w_topi (y := 1) rfl ?_
    refine w_if_le_f C 39 d_M_cancel_34 (by decide) (by decide) ?_
    refine w_iconst (v := 0) C d_M_cancel_37 rfl ?_
    exact w_iretM C hr d_M_cancel_38 (Or.inl ⟨ijb_f hjc h6, rfl, rfl⟩)
set_option maxHeartbeats 4000000 in
set_option maxRecDepth 100000 in
theorem c_M_asks {l : Launch} {D : va_G} {cs : Nat → ClassId} {ad : Nat → Nat} {st mt : Nat → Nat → Int32} {ov : Nat → Int64} {p0 : Int32} : gM l y_M_asks b_M_asks 2 (some .boolean) ({ frames := 2, cells := 0, slots := 0, locals := 42 } : Room) 0 0 [.ref (ad 50), .int p0] D cs ad st mt ov (QMi D cs ad st ov (fun r u => r = b2i (inb p0 0 7) ∧ u = thr mt (bif inb p0 0 7 then 0 else 1))) := by
  refine gM_of (own := "TwinRegisterModel") (by decide +kernel) rfl (Nat.le_of_ble_eq_true rfl) ?_
  intro p e s m args below meth c C hr
  refine w_lv (lv2 := [(0, .ref (ad 50)), (1, .int p0)]) [0, 1] rfl ?_
  refine w_aload_n C 0 d_M_asks_0 rfl rfl ?_
  refine w_iload_n C 1 d_M_asks_1 rfl rfl ?_
  refine w_callMi C (w_runS C (c_M_isDevice ) m_662 m_663 m_41 m_664 ⟨rfl, rfl⟩ hd_M_isDevice rfl ⟨Nat.le_of_ble_eq_true rfl, Nat.le_of_ble_eq_true rfl⟩ rfl (Nat.le_of_ble_eq_true rfl) d_M_asks_2 ⟨Nat.le_of_ble_eq_true rfl, Nat.le_of_ble_eq_true rfl⟩) (fun r2 u2 h2 => ?_)
  obtain ⟨rfl, h2⟩ := h2; have h2 := h2.symm; subst h2
  refine w_ifb_eq C 12 d_M_asks_5 (by decide) (fun h5 => ?_) (fun h5 => ?_)
  · skip
    refine w_iconst (v := 1) C d_M_asks_12 rfl ?_
    refine p_M_thrown C m_568 d_M_asks_13 ?_
    refine w_mt (mt2 := (thr mt 1)) rfl ?_
    refine w_aload_n C 0 d_M_asks_16 rfl rfl ?_
    refine g_M_thrown C m_568 d_M_asks_17 ?_
    refine w_topi (y := 1) rfl ?_
    refine w_if_ne_t C 27 d_M_asks_20 (by decide) (by decide) ?_
    refine w_iconst (v := 0) C d_M_asks_27 rfl ?_
    exact w_zretM C hr (by first | exact Or.inl rfl | exact Or.inr rfl | exact b2i_01 _) d_M_asks_28 (⟨by rw [h5]; rfl, by rw [h5]; rfl⟩)
  · skip
    refine w_iconst (v := 0) C d_M_asks_8 rfl ?_
    refine w_goto C 13 d_M_asks_9 (by decide) ?_
    refine p_M_thrown C m_568 d_M_asks_13 ?_
    refine w_mt (mt2 := (thr mt 0)) rfl ?_
    refine w_aload_n C 0 d_M_asks_16 rfl rfl ?_
    refine g_M_thrown C m_568 d_M_asks_17 ?_
    refine w_topi (y := 0) rfl ?_
    refine w_if_ne_f C 27 d_M_asks_20 (by decide) (by decide) ?_
    refine w_iconst (v := 1) C d_M_asks_23 rfl ?_
    refine w_goto C 28 d_M_asks_24 (by decide) ?_
    exact w_zretM C hr (by first | exact Or.inl rfl | exact Or.inr rfl | exact b2i_01 _) d_M_asks_28 (⟨by rw [h5]; rfl, by rw [h5]; rfl⟩)
set_option maxHeartbeats 4000000 in
set_option maxRecDepth 100000 in
theorem c_M_asksLeaf {l : Launch} {D : va_G} {cs : Nat → ClassId} {ad : Nat → Nat} {st mt : Nat → Nat → Int32} {ov : Nat → Int64} {p0 p1 : Int32} : gM l y_M_asksLeaf b_M_asksLeaf 3 (some .boolean) ({ frames := 2, cells := 0, slots := 0, locals := 42 } : Room) 0 0 [.ref (ad 50), .int p0, .int p1] D cs ad st mt ov (QMi D cs ad st ov (fun r u => r = b2i (inb p0 0 7 && inb p1 0 11) ∧ u = thr mt (bif inb p0 0 7 && inb p1 0 11 then 0 else 1))) := by
  refine gM_of (own := "TwinRegisterModel") (by decide +kernel) rfl (Nat.le_of_ble_eq_true rfl) ?_
  intro p e s m args below meth c C hr
  refine w_lv (lv2 := [(0, .ref (ad 50)), (1, .int p0), (2, .int p1)]) [0, 1, 2] rfl ?_
  refine w_aload_n C 0 d_M_asksLeaf_0 rfl rfl ?_
  refine w_iload_n C 1 d_M_asksLeaf_1 rfl rfl ?_
  refine w_callMi C (w_runS C (c_M_isDevice ) m_662 m_663 m_41 m_664 ⟨rfl, rfl⟩ hd_M_isDevice rfl ⟨Nat.le_of_ble_eq_true rfl, Nat.le_of_ble_eq_true rfl⟩ rfl (Nat.le_of_ble_eq_true rfl) d_M_asksLeaf_2 ⟨Nat.le_of_ble_eq_true rfl, Nat.le_of_ble_eq_true rfl⟩) (fun r2 u2 h2 => ?_)
  obtain ⟨rfl, h2⟩ := h2; have h2 := h2.symm; subst h2
  refine w_ifb_eq C 19 d_M_asksLeaf_5 (by decide) (fun h5 => ?_) (fun h5 => ?_)
  · skip
    refine w_iconst (v := 1) C d_M_asksLeaf_19 rfl ?_
    refine p_M_thrown C m_568 d_M_asksLeaf_20 ?_
    refine w_mt (mt2 := (thr mt 1)) rfl ?_
    refine w_aload_n C 0 d_M_asksLeaf_23 rfl rfl ?_
    refine g_M_thrown C m_568 d_M_asksLeaf_24 ?_
    refine w_topi (y := 1) rfl ?_
    refine w_if_ne_t C 34 d_M_asksLeaf_27 (by decide) (by decide) ?_
    refine w_iconst (v := 0) C d_M_asksLeaf_34 rfl ?_
    exact w_zretM C hr (by first | exact Or.inl rfl | exact Or.inr rfl | exact b2i_01 _) d_M_asksLeaf_35 (⟨by rw [h5]; rfl, by rw [h5]; rfl⟩)
  · skip
    refine w_iload_n C 2 d_M_asksLeaf_8 rfl rfl ?_
    refine w_callMi C (w_runS C (c_M_isLeaf ) m_644 m_645 m_41 m_646 ⟨rfl, rfl⟩ hd_M_isLeaf rfl ⟨Nat.le_of_ble_eq_true rfl, Nat.le_of_ble_eq_true rfl⟩ rfl (Nat.le_of_ble_eq_true rfl) d_M_asksLeaf_9 ⟨Nat.le_of_ble_eq_true rfl, Nat.le_of_ble_eq_true rfl⟩) (fun r9 u9 h9 => ?_)
    obtain ⟨rfl, h9⟩ := h9; have h9 := h9.symm; subst h9
    refine w_ifb_eq C 19 d_M_asksLeaf_12 (by decide) (fun h12 => ?_) (fun h12 => ?_)
    · skip
      refine w_iconst (v := 1) C d_M_asksLeaf_19 rfl ?_
      refine p_M_thrown C m_568 d_M_asksLeaf_20 ?_
      refine w_mt (mt2 := (thr mt 1)) rfl ?_
      refine w_aload_n C 0 d_M_asksLeaf_23 rfl rfl ?_
      refine g_M_thrown C m_568 d_M_asksLeaf_24 ?_
      refine w_topi (y := 1) rfl ?_
      refine w_if_ne_t C 34 d_M_asksLeaf_27 (by decide) (by decide) ?_
      refine w_iconst (v := 0) C d_M_asksLeaf_34 rfl ?_
      exact w_zretM C hr (by first | exact Or.inl rfl | exact Or.inr rfl | exact b2i_01 _) d_M_asksLeaf_35 (⟨by rw [h5, h12]; rfl, by rw [h5, h12]; rfl⟩)
    · skip
      refine w_iconst (v := 0) C d_M_asksLeaf_15 rfl ?_
      refine w_goto C 20 d_M_asksLeaf_16 (by decide) ?_
      refine p_M_thrown C m_568 d_M_asksLeaf_20 ?_
      refine w_mt (mt2 := (thr mt 0)) rfl ?_
      refine w_aload_n C 0 d_M_asksLeaf_23 rfl rfl ?_
      refine g_M_thrown C m_568 d_M_asksLeaf_24 ?_
      refine w_topi (y := 0) rfl ?_
      refine w_if_ne_f C 34 d_M_asksLeaf_27 (by decide) (by decide) ?_
      refine w_iconst (v := 1) C d_M_asksLeaf_30 rfl ?_
      refine w_goto C 35 d_M_asksLeaf_31 (by decide) ?_
      exact w_zretM C hr (by first | exact Or.inl rfl | exact Or.inr rfl | exact b2i_01 _) d_M_asksLeaf_35 (⟨by rw [h5, h12]; rfl, by rw [h5, h12]; rfl⟩)
set_option maxHeartbeats 4000000 in
set_option maxRecDepth 100000 in
theorem c_M_version {l : Launch} {D : va_G} {cs : Nat → ClassId} {ad : Nat → Nat} {st mt : Nat → Nat → Int32} {ov : Nat → Int64} {p0 : Int32} : gM l y_M_version b_M_version 2 (some .int) ({ frames := 3, cells := 0, slots := 0, locals := 63 } : Room) 0 0 [.ref (ad 50), .int p0] D cs ad st mt ov (QMi D cs ad st ov (fun r u => (inb p0 0 7 = false ∧ u = thr mt 1 ∧ r = 0) ∨ (∃ q, q < 8 ∧ p0 = nI q ∧ u = thr mt 0 ∧ r = thr mt 0 4 q))) := by
  refine gM_of (own := "TwinRegisterModel") (by decide +kernel) rfl (Nat.le_of_ble_eq_true rfl) ?_
  intro p e s m args below meth c C hr
  refine w_lv (lv2 := [(0, .ref (ad 50)), (1, .int p0)]) [0, 1] rfl ?_
  refine w_aload_n C 0 d_M_version_0 rfl rfl ?_
  refine w_iload_n C 1 d_M_version_1 rfl rfl ?_
  refine w_callMi C (w_runV C (c_M_asks) (by omega) e_M rfl rfl m_747 m_749 m_33 m_41 m_750 ⟨rfl, rfl⟩ hd_M_asks rfl ⟨Nat.le_of_ble_eq_true rfl, Nat.le_of_ble_eq_true rfl⟩ rfl (Nat.le_of_ble_eq_true rfl) d_M_version_2 ⟨Nat.le_of_ble_eq_true rfl, Nat.le_of_ble_eq_true rfl⟩) (fun r9 u9 h9 => ?_)
  obtain ⟨rfl, h9⟩ := h9
  have h9 := h9.symm
  subst h9
  refine w_ifb_eq C 17 d_M_version_5 (by decide) (fun h5 => ?_) (fun h5 => ?_)
  · skip
    refine w_mt (mt2 := thr mt 1) (by rw [h5]; rfl) ?_
    refine w_iconst (v := 0) C d_M_version_17 rfl ?_
    exact w_iretM C hr d_M_version_18 (Or.inl ⟨h5, rfl, rfl⟩)
  · skip
    refine w_mt (mt2 := thr mt 0) (by rw [h5]; rfl) ?_
    obtain ⟨q, hq, rfl⟩ := inb_R (n := 7) (by decide) h5
    refine w_aload_n C 0 d_M_version_8 rfl rfl ?_
    refine g_M_version C m_572 d_M_version_9 ?_
    refine w_iload_n C 1 d_M_version_12 rfl rfl ?_
    refine ia_MA C 4 (by omega) (by omega) rfl rfl (show _ < 8 by omega) d_M_version_13 ?_
    refine w_goto C 18 d_M_version_14 (by decide) ?_
    exact w_iretM C hr d_M_version_18 (Or.inr ⟨q, hq, rfl, rfl, rfl⟩)
set_option maxHeartbeats 4000000 in
set_option maxRecDepth 100000 in
theorem c_M_heard {l : Launch} {D : va_G} {cs : Nat → ClassId} {ad : Nat → Nat} {st mt : Nat → Nat → Int32} {ov : Nat → Int64} {p0 : Int32} : gM l y_M_heard b_M_heard 2 (some .int) ({ frames := 3, cells := 0, slots := 0, locals := 63 } : Room) 0 0 [.ref (ad 50), .int p0] D cs ad st mt ov (QMi D cs ad st ov (fun r u => (inb p0 0 7 = false ∧ u = thr mt 1 ∧ r = 0) ∨ (∃ q, q < 8 ∧ p0 = nI q ∧ u = thr mt 0 ∧ r = heM (thr mt 0) q))) := by
  refine gM_of (own := "TwinRegisterModel") (by decide +kernel) rfl (Nat.le_of_ble_eq_true rfl) ?_
  intro p e s m args below meth c C hr
  refine w_lv (lv2 := [(0, .ref (ad 50)), (1, .int p0)]) [0, 1] rfl ?_
  refine w_aload_n C 0 d_M_heard_0 rfl rfl ?_
  refine w_iload_n C 1 d_M_heard_1 rfl rfl ?_
  refine w_callMi C (w_runV C (c_M_asks) (by omega) e_M rfl rfl m_747 m_749 m_33 m_41 m_750 ⟨rfl, rfl⟩ hd_M_asks rfl ⟨Nat.le_of_ble_eq_true rfl, Nat.le_of_ble_eq_true rfl⟩ rfl (Nat.le_of_ble_eq_true rfl) d_M_heard_2 ⟨Nat.le_of_ble_eq_true rfl, Nat.le_of_ble_eq_true rfl⟩) (fun r9 u9 h9 => ?_)
  obtain ⟨rfl, h9⟩ := h9
  have h9 := h9.symm
  subst h9
  refine w_ifb_eq C 16 d_M_heard_5 (by decide) (fun h5 => ?_) (fun h5 => ?_)
  · skip
    refine w_mt (mt2 := thr mt 1) (by rw [h5]; rfl) ?_
    refine w_iconst (v := 0) C d_M_heard_16 rfl ?_
    exact w_iretM C hr d_M_heard_17 (Or.inl ⟨h5, rfl, rfl⟩)
  · skip
    refine w_mt (mt2 := thr mt 0) (by rw [h5]; rfl) ?_
    obtain ⟨q, hq, rfl⟩ := inb_R (n := 7) (by decide) h5
    refine w_aload_n C 0 d_M_heard_8 rfl rfl ?_
    refine w_iload_n C 1 d_M_heard_9 rfl rfl ?_
    refine w_callMi C (w_runV C (c_M_heardOf (by omega)) (by omega) e_M rfl rfl m_704 m_706 m_28 m_41 m_707 ⟨rfl, rfl⟩ hd_M_heardOf rfl ⟨Nat.le_of_ble_eq_true rfl, Nat.le_of_ble_eq_true rfl⟩ rfl (Nat.le_of_ble_eq_true rfl) d_M_heard_10 ⟨Nat.le_of_ble_eq_true rfl, Nat.le_of_ble_eq_true rfl⟩) (fun r10 u10 h10 => ?_)
    obtain ⟨rfl, h10⟩ := h10; have h10 := h10.symm; subst h10
    refine w_goto C 17 d_M_heard_13 (by decide) ?_
    exact w_iretM C hr d_M_heard_17 (Or.inr ⟨q, hq, rfl, rfl, rfl⟩)
set_option maxHeartbeats 4000000 in
set_option maxRecDepth 100000 in
theorem c_M_wished {l : Launch} {D : va_G} {cs : Nat → ClassId} {ad : Nat → Nat} {st mt : Nat → Nat → Int32} {ov : Nat → Int64} {p0 p1 : Int32} : gM l y_M_wished b_M_wished 3 (some .int) ({ frames := 3, cells := 0, slots := 0, locals := 64 } : Room) 0 0 [.ref (ad 50), .int p0, .int p1] D cs ad st mt ov (QMi D cs ad st ov (fun r u => ((inb p0 0 7 && inb p1 0 11) = false ∧ u = thr mt 1 ∧ r = 0) ∨ (∃ q k, q < 8 ∧ k < 12 ∧ p0 = nI q ∧ p1 = nI k ∧ u = thr mt 0 ∧ r = thr mt 0 1 (12 * q + k) - 1))) := by
  refine gM_of (own := "TwinRegisterModel") (by decide +kernel) rfl (Nat.le_of_ble_eq_true rfl) ?_
  intro p e s m args below meth c C hr
  refine w_lv (lv2 := [(0, .ref (ad 50)), (1, .int p0), (2, .int p1)]) [0, 1, 2] rfl ?_
  refine w_aload_n C 0 d_M_wished_0 rfl rfl ?_
  refine w_iload_n C 1 d_M_wished_1 rfl rfl ?_
  refine w_iload_n C 2 d_M_wished_2 rfl rfl ?_
  refine w_callMi C (w_runV C (c_M_asksLeaf) (by omega) e_M rfl rfl m_759 m_761 m_34 m_41 m_762 ⟨rfl, rfl⟩ hd_M_asksLeaf rfl ⟨Nat.le_of_ble_eq_true rfl, Nat.le_of_ble_eq_true rfl⟩ rfl (Nat.le_of_ble_eq_true rfl) d_M_wished_3 ⟨Nat.le_of_ble_eq_true rfl, Nat.le_of_ble_eq_true rfl⟩) (fun r9 u9 h9 => ?_)
  obtain ⟨rfl, h9⟩ := h9
  have h9 := h9.symm
  subst h9
  refine w_ifb_eq C 25 d_M_wished_6 (by decide) (fun h6 => ?_) (fun h6 => ?_)
  · skip
    refine w_mt (mt2 := thr mt 1) (by rw [h6]; rfl) ?_
    refine w_iconst (v := 0) C d_M_wished_25 rfl ?_
    exact w_iretM C hr d_M_wished_26 (Or.inl ⟨h6, rfl, rfl⟩)
  · skip
    refine w_mt (mt2 := thr mt 0) (by rw [h6]; rfl) ?_
    obtain ⟨h6a, h6b⟩ := Bool.and_eq_true_iff.mp h6
    obtain ⟨q, hq, rfl⟩ := inb_R (n := 7) (by decide) h6a
    obtain ⟨k, hk, rfl⟩ := inb_R (n := 11) (by decide) h6b
    refine w_aload_n C 0 d_M_wished_9 rfl rfl ?_
    refine g_M_wished C m_569 d_M_wished_10 ?_
    refine w_bipush (v := 12) C d_M_wished_13 rfl ?_
    refine w_iload_n C 1 d_M_wished_15 rfl rfl ?_
    refine w_imul C d_M_wished_16 ?_
    refine w_iload_n C 2 d_M_wished_17 rfl rfl ?_
    refine w_iadd C d_M_wished_18 ?_
    refine w_topi (y := (nI (12 * q + k))) (ix12 _ _) ?_
    refine ia_MA C 1 (by omega) (by omega) rfl rfl (show _ < 96 by omega) d_M_wished_19 ?_
    refine w_iconst (v := 1) C d_M_wished_20 rfl ?_
    refine w_isub C d_M_wished_21 ?_
    refine w_goto C 26 d_M_wished_22 (by decide) ?_
    exact w_iretM C hr d_M_wished_26 (Or.inr ⟨q, k, hq, hk, rfl, rfl, rfl, rfl⟩)
set_option maxHeartbeats 4000000 in
set_option maxRecDepth 100000 in
theorem c_M_reported {l : Launch} {D : va_G} {cs : Nat → ClassId} {ad : Nat → Nat} {st mt : Nat → Nat → Int32} {ov : Nat → Int64} {p0 p1 : Int32} : gM l y_M_reported b_M_reported 3 (some .int) ({ frames := 3, cells := 0, slots := 0, locals := 64 } : Room) 0 0 [.ref (ad 50), .int p0, .int p1] D cs ad st mt ov (QMi D cs ad st ov (fun r u => ((inb p0 0 7 && inb p1 0 11) = false ∧ u = thr mt 1 ∧ r = 0) ∨ (∃ q k, q < 8 ∧ k < 12 ∧ p0 = nI q ∧ p1 = nI k ∧ u = thr mt 0 ∧ r = thr mt 0 2 (12 * q + k) - 1))) := by
  refine gM_of (own := "TwinRegisterModel") (by decide +kernel) rfl (Nat.le_of_ble_eq_true rfl) ?_
  intro p e s m args below meth c C hr
  refine w_lv (lv2 := [(0, .ref (ad 50)), (1, .int p0), (2, .int p1)]) [0, 1, 2] rfl ?_
  refine w_aload_n C 0 d_M_reported_0 rfl rfl ?_
  refine w_iload_n C 1 d_M_reported_1 rfl rfl ?_
  refine w_iload_n C 2 d_M_reported_2 rfl rfl ?_
  refine w_callMi C (w_runV C (c_M_asksLeaf) (by omega) e_M rfl rfl m_759 m_761 m_34 m_41 m_762 ⟨rfl, rfl⟩ hd_M_asksLeaf rfl ⟨Nat.le_of_ble_eq_true rfl, Nat.le_of_ble_eq_true rfl⟩ rfl (Nat.le_of_ble_eq_true rfl) d_M_reported_3 ⟨Nat.le_of_ble_eq_true rfl, Nat.le_of_ble_eq_true rfl⟩) (fun r9 u9 h9 => ?_)
  obtain ⟨rfl, h9⟩ := h9
  have h9 := h9.symm
  subst h9
  refine w_ifb_eq C 25 d_M_reported_6 (by decide) (fun h6 => ?_) (fun h6 => ?_)
  · skip
    refine w_mt (mt2 := thr mt 1) (by rw [h6]; rfl) ?_
    refine w_iconst (v := 0) C d_M_reported_25 rfl ?_
    exact w_iretM C hr d_M_reported_26 (Or.inl ⟨h6, rfl, rfl⟩)
  · skip
    refine w_mt (mt2 := thr mt 0) (by rw [h6]; rfl) ?_
    obtain ⟨h6a, h6b⟩ := Bool.and_eq_true_iff.mp h6
    obtain ⟨q, hq, rfl⟩ := inb_R (n := 7) (by decide) h6a
    obtain ⟨k, hk, rfl⟩ := inb_R (n := 11) (by decide) h6b
    refine w_aload_n C 0 d_M_reported_9 rfl rfl ?_
    refine g_M_reported C m_570 d_M_reported_10 ?_
    refine w_bipush (v := 12) C d_M_reported_13 rfl ?_
    refine w_iload_n C 1 d_M_reported_15 rfl rfl ?_
    refine w_imul C d_M_reported_16 ?_
    refine w_iload_n C 2 d_M_reported_17 rfl rfl ?_
    refine w_iadd C d_M_reported_18 ?_
    refine w_topi (y := (nI (12 * q + k))) (ix12 _ _) ?_
    refine ia_MA C 2 (by omega) (by omega) rfl rfl (show _ < 96 by omega) d_M_reported_19 ?_
    refine w_iconst (v := 1) C d_M_reported_20 rfl ?_
    refine w_isub C d_M_reported_21 ?_
    refine w_goto C 26 d_M_reported_22 (by decide) ?_
    exact w_iretM C hr d_M_reported_26 (Or.inr ⟨q, k, hq, hk, rfl, rfl, rfl, rfl⟩)
set_option maxHeartbeats 4000000 in
set_option maxRecDepth 100000 in
theorem c_M_why {l : Launch} {D : va_G} {cs : Nat → ClassId} {ad : Nat → Nat} {st mt : Nat → Nat → Int32} {ov : Nat → Int64} {p0 p1 : Int32} : gM l y_M_why b_M_why 3 (some .int) ({ frames := 3, cells := 0, slots := 0, locals := 64 } : Room) 0 0 [.ref (ad 50), .int p0, .int p1] D cs ad st mt ov (QMi D cs ad st ov (fun r u => ((inb p0 0 7 && inb p1 0 11) = false ∧ u = thr mt 1 ∧ r = 0) ∨ (∃ q k, q < 8 ∧ k < 12 ∧ p0 = nI q ∧ p1 = nI k ∧ u = thr mt 0 ∧ r = thr mt 0 3 (12 * q + k)))) := by
  refine gM_of (own := "TwinRegisterModel") (by decide +kernel) rfl (Nat.le_of_ble_eq_true rfl) ?_
  intro p e s m args below meth c C hr
  refine w_lv (lv2 := [(0, .ref (ad 50)), (1, .int p0), (2, .int p1)]) [0, 1, 2] rfl ?_
  refine w_aload_n C 0 d_M_why_0 rfl rfl ?_
  refine w_iload_n C 1 d_M_why_1 rfl rfl ?_
  refine w_iload_n C 2 d_M_why_2 rfl rfl ?_
  refine w_callMi C (w_runV C (c_M_asksLeaf) (by omega) e_M rfl rfl m_759 m_761 m_34 m_41 m_762 ⟨rfl, rfl⟩ hd_M_asksLeaf rfl ⟨Nat.le_of_ble_eq_true rfl, Nat.le_of_ble_eq_true rfl⟩ rfl (Nat.le_of_ble_eq_true rfl) d_M_why_3 ⟨Nat.le_of_ble_eq_true rfl, Nat.le_of_ble_eq_true rfl⟩) (fun r9 u9 h9 => ?_)
  obtain ⟨rfl, h9⟩ := h9
  have h9 := h9.symm
  subst h9
  refine w_ifb_eq C 23 d_M_why_6 (by decide) (fun h6 => ?_) (fun h6 => ?_)
  · skip
    refine w_mt (mt2 := thr mt 1) (by rw [h6]; rfl) ?_
    refine w_iconst (v := 0) C d_M_why_23 rfl ?_
    exact w_iretM C hr d_M_why_24 (Or.inl ⟨h6, rfl, rfl⟩)
  · skip
    refine w_mt (mt2 := thr mt 0) (by rw [h6]; rfl) ?_
    obtain ⟨h6a, h6b⟩ := Bool.and_eq_true_iff.mp h6
    obtain ⟨q, hq, rfl⟩ := inb_R (n := 7) (by decide) h6a
    obtain ⟨k, hk, rfl⟩ := inb_R (n := 11) (by decide) h6b
    refine w_aload_n C 0 d_M_why_9 rfl rfl ?_
    refine g_M_reason C m_571 d_M_why_10 ?_
    refine w_bipush (v := 12) C d_M_why_13 rfl ?_
    refine w_iload_n C 1 d_M_why_15 rfl rfl ?_
    refine w_imul C d_M_why_16 ?_
    refine w_iload_n C 2 d_M_why_17 rfl rfl ?_
    refine w_iadd C d_M_why_18 ?_
    refine w_topi (y := (nI (12 * q + k))) (ix12 _ _) ?_
    refine ia_MA C 3 (by omega) (by omega) rfl rfl (show _ < 96 by omega) d_M_why_19 ?_
    refine w_goto C 24 d_M_why_20 (by decide) ?_
    exact w_iretM C hr d_M_why_24 (Or.inr ⟨q, k, hq, hk, rfl, rfl, rfl, rfl⟩)
set_option maxHeartbeats 4000000 in
set_option maxRecDepth 100000 in
theorem c_M_differences {l : Launch} {D : va_G} {cs : Nat → ClassId} {ad : Nat → Nat} {st mt : Nat → Nat → Int32} {ov : Nat → Int64} {p0 : Int32} : gM l y_M_differences b_M_differences 2 (some .int) ({ frames := 3, cells := 0, slots := 0, locals := 63 } : Room) 0 0 [.ref (ad 50), .int p0] D cs ad st mt ov (QMi D cs ad st ov (fun r u => (inb p0 0 7 = false ∧ u = thr mt 1 ∧ r = 0) ∨ (∃ q, q < 8 ∧ p0 = nI q ∧ u = thr mt 0 ∧ r = dgM (thr mt 0) q 12))) := by
  refine gM_of (own := "TwinRegisterModel") (by decide +kernel) rfl (Nat.le_of_ble_eq_true rfl) ?_
  intro p e s m args below meth c C hr
  refine w_lv (lv2 := [(0, .ref (ad 50)), (1, .int p0)]) [0, 1] rfl ?_
  refine w_aload_n C 0 d_M_differences_0 rfl rfl ?_
  refine w_iload_n C 1 d_M_differences_1 rfl rfl ?_
  refine w_callMi C (w_runV C (c_M_asks) (by omega) e_M rfl rfl m_747 m_749 m_33 m_41 m_750 ⟨rfl, rfl⟩ hd_M_asks rfl ⟨Nat.le_of_ble_eq_true rfl, Nat.le_of_ble_eq_true rfl⟩ rfl (Nat.le_of_ble_eq_true rfl) d_M_differences_2 ⟨Nat.le_of_ble_eq_true rfl, Nat.le_of_ble_eq_true rfl⟩) (fun r9 u9 h9 => ?_)
  obtain ⟨rfl, h9⟩ := h9
  have h9 := h9.symm
  subst h9
  refine w_ifb_eq C 16 d_M_differences_5 (by decide) (fun h5 => ?_) (fun h5 => ?_)
  · skip
    refine w_mt (mt2 := thr mt 1) (by rw [h5]; rfl) ?_
    refine w_iconst (v := 0) C d_M_differences_16 rfl ?_
    exact w_iretM C hr d_M_differences_17 (Or.inl ⟨h5, rfl, rfl⟩)
  · skip
    refine w_mt (mt2 := thr mt 0) (by rw [h5]; rfl) ?_
    obtain ⟨q, hq, rfl⟩ := inb_R (n := 7) (by decide) h5
    refine w_aload_n C 0 d_M_differences_8 rfl rfl ?_
    refine w_iload_n C 1 d_M_differences_9 rfl rfl ?_
    refine w_callMi C (w_runV C (c_M_differing (by omega)) (by omega) e_M rfl rfl m_677 m_679 m_26 m_41 m_680 ⟨rfl, rfl⟩ hd_M_differing rfl ⟨Nat.le_of_ble_eq_true rfl, Nat.le_of_ble_eq_true rfl⟩ rfl (Nat.le_of_ble_eq_true rfl) d_M_differences_10 ⟨Nat.le_of_ble_eq_true rfl, Nat.le_of_ble_eq_true rfl⟩) (fun r10 u10 h10 => ?_)
    obtain ⟨rfl, h10⟩ := h10; have h10 := h10.symm; subst h10
    refine w_goto C 17 d_M_differences_13 (by decide) ?_
    exact w_iretM C hr d_M_differences_17 (Or.inr ⟨q, hq, rfl, rfl, rfl⟩)
set_option maxHeartbeats 4000000 in
set_option maxRecDepth 100000 in
theorem c_M_differencesAnew {l : Launch} {D : va_G} {cs : Nat → ClassId} {ad : Nat → Nat} {st mt : Nat → Nat → Int32} {ov : Nat → Int64} {p0 : Int32} : gM l y_M_differencesAnew b_M_differencesAnew 2 (some .int) ({ frames := 3, cells := 0, slots := 0, locals := 63 } : Room) 0 0 [.ref (ad 50), .int p0] D cs ad st mt ov (QMi D cs ad st ov (fun r u => (inb p0 0 7 = false ∧ u = thr mt 1 ∧ r = 0) ∨ (∃ q, q < 8 ∧ p0 = nI q ∧ u = thr mt 0 ∧ r = dgM (thr mt 0) q 12))) := by
  refine gM_of (own := "TwinRegisterModel") (by decide +kernel) rfl (Nat.le_of_ble_eq_true rfl) ?_
  intro p e s m args below meth c C hr
  refine w_lv (lv2 := [(0, .ref (ad 50)), (1, .int p0)]) [0, 1] rfl ?_
  refine w_aload_n C 0 d_M_differencesAnew_0 rfl rfl ?_
  refine w_iload_n C 1 d_M_differencesAnew_1 rfl rfl ?_
  refine w_callMi C (w_runV C (c_M_asks) (by omega) e_M rfl rfl m_747 m_749 m_33 m_41 m_750 ⟨rfl, rfl⟩ hd_M_asks rfl ⟨Nat.le_of_ble_eq_true rfl, Nat.le_of_ble_eq_true rfl⟩ rfl (Nat.le_of_ble_eq_true rfl) d_M_differencesAnew_2 ⟨Nat.le_of_ble_eq_true rfl, Nat.le_of_ble_eq_true rfl⟩) (fun r9 u9 h9 => ?_)
  obtain ⟨rfl, h9⟩ := h9
  have h9 := h9.symm
  subst h9
  refine w_ifb_eq C 16 d_M_differencesAnew_5 (by decide) (fun h5 => ?_) (fun h5 => ?_)
  · skip
    refine w_mt (mt2 := thr mt 1) (by rw [h5]; rfl) ?_
    refine w_iconst (v := 0) C d_M_differencesAnew_16 rfl ?_
    exact w_iretM C hr d_M_differencesAnew_17 (Or.inl ⟨h5, rfl, rfl⟩)
  · skip
    refine w_mt (mt2 := thr mt 0) (by rw [h5]; rfl) ?_
    obtain ⟨q, hq, rfl⟩ := inb_R (n := 7) (by decide) h5
    refine w_aload_n C 0 d_M_differencesAnew_8 rfl rfl ?_
    refine w_iload_n C 1 d_M_differencesAnew_9 rfl rfl ?_
    refine w_callMi C (w_runV C (c_M_differing (by omega)) (by omega) e_M rfl rfl m_677 m_679 m_26 m_41 m_680 ⟨rfl, rfl⟩ hd_M_differing rfl ⟨Nat.le_of_ble_eq_true rfl, Nat.le_of_ble_eq_true rfl⟩ rfl (Nat.le_of_ble_eq_true rfl) d_M_differencesAnew_10 ⟨Nat.le_of_ble_eq_true rfl, Nat.le_of_ble_eq_true rfl⟩) (fun r10 u10 h10 => ?_)
    obtain ⟨rfl, h10⟩ := h10; have h10 := h10.symm; subst h10
    refine w_goto C 17 d_M_differencesAnew_13 (by decide) ?_
    exact w_iretM C hr d_M_differencesAnew_17 (Or.inr ⟨q, hq, rfl, rfl, rfl⟩)
set_option maxHeartbeats 4000000 in
set_option maxRecDepth 100000 in
theorem c_M_members {l : Launch} {D : va_G} {cs : Nat → ClassId} {ad : Nat → Nat} {st mt : Nat → Nat → Int32} {ov : Nat → Int64} {p0 : Int32} (hs : okM (thr mt 0)) : gM l y_M_members b_M_members 2 (some .int) ({ frames := 2, cells := 0, slots := 0, locals := 46 } : Room) 0 0 [.ref (ad 50), .int p0] D cs ad st mt ov (QMi D cs ad st ov (fun r u => (inb p0 0 3 = false ∧ u = thr mt 1 ∧ r = 0) ∨ (∃ g, g < 4 ∧ p0 = nI g ∧ u = thr mt 0 ∧ r = mbM (thr mt 0) g (tn (thr mt 0 9 g)) 8))) := by
  refine gM_of (own := "TwinRegisterModel") (by decide +kernel) rfl (Nat.le_of_ble_eq_true rfl) ?_
  intro p e s m args below meth c C hr
  refine w_lv (lv2 := [(0, .ref (ad 50)), (1, .int p0)]) [0, 1] rfl ?_
  refine w_aload_n C 0 d_M_members_0 rfl rfl ?_
  refine w_iload_n C 1 d_M_members_1 rfl rfl ?_
  refine w_callMi C (w_runS C (c_M_isGroup ) m_712 m_713 m_41 m_714 ⟨rfl, rfl⟩ hd_M_isGroup rfl ⟨Nat.le_of_ble_eq_true rfl, Nat.le_of_ble_eq_true rfl⟩ rfl (Nat.le_of_ble_eq_true rfl) d_M_members_2 ⟨Nat.le_of_ble_eq_true rfl, Nat.le_of_ble_eq_true rfl⟩) (fun r2 u2 h2 => ?_)
  obtain ⟨rfl, h2⟩ := h2; have h2 := h2.symm; subst h2
  refine w_ifb_eq C 12 d_M_members_5 (by decide) (fun h5 => ?_) (fun h5 => ?_)
  · skip
    refine w_iconst (v := 1) C d_M_members_12 rfl ?_
    refine p_M_thrown C m_568 d_M_members_13 ?_
    refine w_mt (mt2 := (thr mt 1)) rfl ?_
    refine w_aload_n C 0 d_M_members_16 rfl rfl ?_
    refine g_M_thrown C m_568 d_M_members_17 ?_
    refine w_topi (y := 1) rfl ?_
    refine w_if_le_f C 27 d_M_members_20 (by decide) (by decide) ?_
    refine w_iconst (v := 0) C d_M_members_23 rfl ?_
    refine w_goto C 32 d_M_members_24 (by decide) ?_
    exact w_iretM C hr d_M_members_32 (Or.inl ⟨h5, rfl, rfl⟩)
  · skip
    obtain ⟨g, hg, rfl⟩ := inb_R (n := 3) (by decide) h5
    refine w_iconst (v := 0) C d_M_members_8 rfl ?_
    refine w_goto C 13 d_M_members_9 (by decide) ?_
    refine p_M_thrown C m_568 d_M_members_13 ?_
    refine w_mt (mt2 := (thr mt 0)) rfl ?_
    refine w_aload_n C 0 d_M_members_16 rfl rfl ?_
    refine g_M_thrown C m_568 d_M_members_17 ?_
    refine w_topi (y := 0) rfl ?_
    refine w_if_le_t C 27 d_M_members_20 (by decide) (by decide) ?_
    have e1 := inR_tn (by decide) (hs.1 g hg)
    refine w_aload_n C 0 d_M_members_27 rfl rfl ?_
    refine w_iload_n C 1 d_M_members_28 rfl rfl ?_
    refine w_callMi C (w_runV C (c_M_membersOf hg e1.2 e1.1) (by omega) e_M rfl rfl m_715 m_717 m_29 m_41 m_718 ⟨rfl, rfl⟩ hd_M_membersOf rfl ⟨Nat.le_of_ble_eq_true rfl, Nat.le_of_ble_eq_true rfl⟩ rfl (Nat.le_of_ble_eq_true rfl) d_M_members_29 ⟨Nat.le_of_ble_eq_true rfl, Nat.le_of_ble_eq_true rfl⟩) (fun r9 u9 h9 => ?_)
    obtain ⟨rfl, h9⟩ := h9
    have h9 := h9.symm
    subst h9
    exact w_iretM C hr d_M_members_32 (Or.inr ⟨g, hg, rfl, rfl, rfl⟩)
set_option maxHeartbeats 4000000 in
set_option maxRecDepth 100000 in
theorem c_M_jobs {l : Launch} {D : va_G} {cs : Nat → ClassId} {ad : Nat → Nat} {st mt : Nat → Nat → Int32} {ov : Nat → Int64}  : gM l y_M_jobs b_M_jobs 1 (some .int) ({ frames := 0, cells := 0, slots := 0, locals := 0 } : Room) 0 0 [.ref (ad 50)] D cs ad st mt ov (QMi D cs ad st ov (fun r u => u = thr mt 0 ∧ r = thr mt 0 0 12)) := by
  refine gM_of (own := "TwinRegisterModel") (by decide +kernel) rfl (Nat.le_of_ble_eq_true rfl) ?_
  intro p e s m args below meth c C hr
  refine w_lv (lv2 := [(0, .ref (ad 50))]) [0] rfl ?_
  refine w_aload_n C 0 d_M_jobs_0 rfl rfl ?_
  refine w_iconst (v := 0) C d_M_jobs_1 rfl ?_
  refine p_M_thrown C m_568 d_M_jobs_2 ?_
  refine w_mt (mt2 := (thr mt 0)) rfl ?_
  refine w_aload_n C 0 d_M_jobs_5 rfl rfl ?_
  refine g_M_jobs C m_580 d_M_jobs_6 ?_
  exact w_iretM C hr d_M_jobs_9 (⟨rfl, rfl⟩)
set_option maxHeartbeats 4000000 in
set_option maxRecDepth 100000 in
theorem c_M_state {l : Launch} {D : va_G} {cs : Nat → ClassId} {ad : Nat → Nat} {st mt : Nat → Nat → Int32} {ov : Nat → Int64} {p0 : Int32} {jc : Nat} (hjc : jc ≤ 8) (hj0 : mt 0 12 = nI jc) : gM l y_M_state b_M_state 2 (some .int) ({ frames := 2, cells := 0, slots := 0, locals := 43 } : Room) 0 0 [.ref (ad 50), .int p0] D cs ad st mt ov (QMi D cs ad st ov (fun r u => (¬ inR p0 jc ∧ u = thr mt 1 ∧ r = 0) ∨ (∃ j, j < jc ∧ p0 = nI j ∧ u = thr mt 0 ∧ r = thr mt 0 17 j))) := by
  refine gM_of (own := "TwinRegisterModel") (by decide +kernel) rfl (Nat.le_of_ble_eq_true rfl) ?_
  intro p e s m args below meth c C hr
  refine w_lv (lv2 := [(0, .ref (ad 50)), (1, .int p0)]) [0, 1] rfl ?_
  refine w_aload_n C 0 d_M_state_0 rfl rfl ?_
  refine w_aload_n C 0 d_M_state_1 rfl rfl ?_
  refine w_iload_n C 1 d_M_state_2 rfl rfl ?_
  refine w_callMi C (w_runV C (c_M_isJob hjc hj0) (by omega) e_M rfl rfl m_739 m_741 m_32 m_41 m_742 ⟨rfl, rfl⟩ hd_M_isJob rfl ⟨Nat.le_of_ble_eq_true rfl, Nat.le_of_ble_eq_true rfl⟩ rfl (Nat.le_of_ble_eq_true rfl) d_M_state_3 ⟨Nat.le_of_ble_eq_true rfl, Nat.le_of_ble_eq_true rfl⟩) (fun r9 u9 h9 => ?_)
  obtain ⟨rfl, h9⟩ := h9
  have h9 := h9.symm
  subst h9
  refine w_ifb_eq C 13 d_M_state_6 (by decide) (fun h6 => ?_) (fun h6 => ?_)
  · skip
    refine w_iconst (v := 1) C d_M_state_13 rfl ?_
    refine p_M_thrown C m_568 d_M_state_14 ?_
    refine w_mt (mt2 := (thr mt 1)) rfl ?_
    refine w_aload_n C 0 d_M_state_17 rfl rfl ?_
    refine g_M_thrown C m_568 d_M_state_18 ?_
    refine w_topi (y := 1) rfl ?_
    refine w_if_le_f C 28 d_M_state_21 (by decide) (by decide) ?_
    refine w_iconst (v := 0) C d_M_state_24 rfl ?_
    refine w_goto C 34 d_M_state_25 (by decide) ?_
    exact w_iretM C hr d_M_state_34 (Or.inl ⟨ijb_f hjc h6, rfl, rfl⟩)
  · skip
    obtain ⟨j, hj, rfl⟩ := ijb_t hjc h6
    have hj8 : j < 8 := by omega
    refine w_iconst (v := 0) C d_M_state_9 rfl ?_
    refine w_goto C 14 d_M_state_10 (by decide) ?_
    refine p_M_thrown C m_568 d_M_state_14 ?_
    refine w_mt (mt2 := (thr mt 0)) rfl ?_
    refine w_aload_n C 0 d_M_state_17 rfl rfl ?_
    refine g_M_thrown C m_568 d_M_state_18 ?_
    refine w_topi (y := 0) rfl ?_
    refine w_if_le_t C 28 d_M_state_21 (by decide) (by decide) ?_
    refine w_aload_n C 0 d_M_state_28 rfl rfl ?_
    refine g_M_state C m_586 d_M_state_29 ?_
    refine w_iload_n C 1 d_M_state_32 rfl rfl ?_
    refine ia_MA C 17 (by omega) (by omega) rfl rfl (show _ < 8 by omega) d_M_state_33 ?_
    exact w_iretM C hr d_M_state_34 (Or.inr ⟨j, hj, rfl, rfl, rfl⟩)
set_option maxHeartbeats 4000000 in
set_option maxRecDepth 100000 in
theorem c_M_devices {l : Launch} {D : va_G} {cs : Nat → ClassId} {ad : Nat → Nat} {st mt : Nat → Nat → Int32} {ov : Nat → Int64} {p0 p1 : Int32} {jc : Nat} (hjc : jc ≤ 8) (hj0 : mt 0 12 = nI jc) : gM l y_M_devices b_M_devices 3 (some .int) ({ frames := 2, cells := 0, slots := 0, locals := 43 } : Room) 0 0 [.ref (ad 50), .int p0, .int p1] D cs ad st mt ov (QMi D cs ad st ov (fun r u => (¬ inR p0 jc ∧ u = thr mt 1 ∧ r = 0) ∨ (∃ j, j < jc ∧ p0 = nI j ∧ ((inb p1 0 2 = false ∧ u = thr mt 2 ∧ r = 0) ∨ (inb p1 0 2 = true ∧ u = thr mt 0 ∧ r = (if p1 = 0 then thr mt 0 18 j else if p1 = 1 then thr mt 0 19 j else thr mt 0 20 j)))))) := by
  refine gM_of (own := "TwinRegisterModel") (by decide +kernel) rfl (Nat.le_of_ble_eq_true rfl) ?_
  intro p e s m args below meth c C hr
  refine w_lv (lv2 := [(0, .ref (ad 50)), (1, .int p0), (2, .int p1)]) [0, 1, 2] rfl ?_
  refine w_aload_n C 0 d_M_devices_0 rfl rfl ?_
  refine w_aload_n C 0 d_M_devices_1 rfl rfl ?_
  refine w_iload_n C 1 d_M_devices_2 rfl rfl ?_
  refine w_callMi C (w_runV C (c_M_isJob hjc hj0) (by omega) e_M rfl rfl m_739 m_741 m_32 m_41 m_742 ⟨rfl, rfl⟩ hd_M_isJob rfl ⟨Nat.le_of_ble_eq_true rfl, Nat.le_of_ble_eq_true rfl⟩ rfl (Nat.le_of_ble_eq_true rfl) d_M_devices_3 ⟨Nat.le_of_ble_eq_true rfl, Nat.le_of_ble_eq_true rfl⟩) (fun r9 u9 h9 => ?_)
  obtain ⟨rfl, h9⟩ := h9
  have h9 := h9.symm
  subst h9
  refine w_ifb_ne C 13 d_M_devices_6 (by decide) (fun h6 => ?_) (fun h6 => ?_)
  · skip
    obtain ⟨j, hj, rfl⟩ := ijb_t hjc h6
    have hj8 : j < 8 := by omega
    refine w_iload_n C 2 d_M_devices_13 rfl rfl ?_
    refine w_iconst (v := 0) C d_M_devices_14 rfl ?_
    refine w_iconst (v := 2) C d_M_devices_15 rfl ?_
    refine w_callMi C (w_runS C (c_M_in ) m_647 m_648 m_41 m_649 ⟨rfl, rfl⟩ hd_M_in rfl ⟨Nat.le_of_ble_eq_true rfl, Nat.le_of_ble_eq_true rfl⟩ rfl (Nat.le_of_ble_eq_true rfl) d_M_devices_16 ⟨Nat.le_of_ble_eq_true rfl, Nat.le_of_ble_eq_true rfl⟩) (fun r16 u16 h16 => ?_)
    obtain ⟨rfl, h16⟩ := h16; have h16 := h16.symm; subst h16
    refine w_ifb_eq C 26 d_M_devices_19 (by decide) (fun h19 => ?_) (fun h19 => ?_)
    · skip
      refine w_iconst (v := 2) C d_M_devices_26 rfl ?_
      refine p_M_thrown C m_568 d_M_devices_27 ?_
      refine w_mt (mt2 := (thr mt 2)) rfl ?_
      refine w_aload_n C 0 d_M_devices_30 rfl rfl ?_
      refine g_M_thrown C m_568 d_M_devices_31 ?_
      refine w_topi (y := 2) rfl ?_
      refine w_if_le_f C 41 d_M_devices_34 (by decide) (by decide) ?_
      refine w_iconst (v := 0) C d_M_devices_37 rfl ?_
      refine w_goto C 74 d_M_devices_38 (by decide) ?_
      exact w_iretM C hr d_M_devices_74 (Or.inr ⟨j, hj, rfl, Or.inl ⟨h19, rfl, rfl⟩⟩)
    · skip
      refine w_iconst (v := 0) C d_M_devices_22 rfl ?_
      refine w_goto C 27 d_M_devices_23 (by decide) ?_
      refine p_M_thrown C m_568 d_M_devices_27 ?_
      refine w_mt (mt2 := (thr mt 0)) rfl ?_
      refine w_aload_n C 0 d_M_devices_30 rfl rfl ?_
      refine g_M_thrown C m_568 d_M_devices_31 ?_
      refine w_topi (y := 0) rfl ?_
      refine w_if_le_t C 41 d_M_devices_34 (by decide) (by decide) ?_
      refine w_iload_n C 2 d_M_devices_41 rfl rfl ?_
      refine w_if_ne C 54 d_M_devices_42 (by decide) (fun h42 => ?_) (fun h42 => ?_)
      · skip
        refine w_iload_n C 2 d_M_devices_54 rfl rfl ?_
        refine w_iconst (v := 1) C d_M_devices_55 rfl ?_
        refine w_icmp_ne C 68 d_M_devices_56 (by decide) (fun h56 => ?_) (fun h56 => ?_)
        · skip
          refine w_aload_n C 0 d_M_devices_68 rfl rfl ?_
          refine g_M_failed C m_589 d_M_devices_69 ?_
          refine w_iload_n C 1 d_M_devices_72 rfl rfl ?_
          refine ia_MA C 20 (by omega) (by omega) rfl rfl (show _ < 8 by omega) d_M_devices_73 ?_
          exact w_iretM C hr d_M_devices_74 (Or.inr ⟨j, hj, rfl, Or.inr ⟨h19, rfl, by rw [if_neg h42, if_neg h56]⟩⟩)
        · skip
          refine w_aload_n C 0 d_M_devices_59 rfl rfl ?_
          refine g_M_done C m_588 d_M_devices_60 ?_
          refine w_iload_n C 1 d_M_devices_63 rfl rfl ?_
          refine ia_MA C 19 (by omega) (by omega) rfl rfl (show _ < 8 by omega) d_M_devices_64 ?_
          refine w_goto C 74 d_M_devices_65 (by decide) ?_
          exact w_iretM C hr d_M_devices_74 (Or.inr ⟨j, hj, rfl, Or.inr ⟨h19, rfl, by rw [if_neg h42, if_pos h56]⟩⟩)
      · skip
        refine w_aload_n C 0 d_M_devices_45 rfl rfl ?_
        refine g_M_started C m_587 d_M_devices_46 ?_
        refine w_iload_n C 1 d_M_devices_49 rfl rfl ?_
        refine ia_MA C 18 (by omega) (by omega) rfl rfl (show _ < 8 by omega) d_M_devices_50 ?_
        refine w_goto C 74 d_M_devices_51 (by decide) ?_
        exact w_iretM C hr d_M_devices_74 (Or.inr ⟨j, hj, rfl, Or.inr ⟨h19, rfl, by rw [if_pos h42]⟩⟩)
  · skip
    refine w_iconst (v := 1) C d_M_devices_9 rfl ?_
    refine w_goto C 27 d_M_devices_10 (by decide) ?_
    refine p_M_thrown C m_568 d_M_devices_27 ?_
    refine w_mt (mt2 := (thr mt 1)) rfl ?_
    refine w_aload_n C 0 d_M_devices_30 rfl rfl ?_
    refine g_M_thrown C m_568 d_M_devices_31 ?_
    refine w_topi (y := 1) rfl ?_
    refine w_if_le_f C 41 d_M_devices_34 (by decide) (by decide) ?_
    refine w_iconst (v := 0) C d_M_devices_37 rfl ?_
    refine w_goto C 74 d_M_devices_38 (by decide) ?_
    exact w_iretM C hr d_M_devices_74 (Or.inl ⟨ijb_f hjc h6, rfl, rfl⟩)
