/-! ===== what the public methods do ===== -/
def okV (v : Int32) : Prop := v = -1 ∨ (¬ v < 0 ∧ v ≤ 99)
def obyS (q i : Nat) (a : St × Int32) : St × Int32 := bif difA a.1 q i then (takeR a.1 q i (a.1 (4 + 4 * q + 1) i), a.2 + 1) else a
def obyF (st : St) (q : Nat) : Nat → St × Int32
  | 0 => (st, 0)
  | i + 1 => obyS q i (obyF st q i)
theorem obyS_t {q i : Nat} {a : St × Int32} (h : difA a.1 q i = true) : obyS q i a = (takeR a.1 q i (a.1 (4 + 4 * q + 1) i), a.2 + 1) := by unfold obyS; rw [h]; rfl
theorem obyS_f {q i : Nat} {a : St × Int32} (h : difA a.1 q i = false) : obyS q i a = a := by unfold obyS; rw [h]; rfl
def dfaS (st : St) (q i : Nat) (a : Int32) : Int32 := bif unl st q i then a ||| bitI i else a
def dfaF (st : St) (q : Nat) : Nat → Int32
  | 0 => 0
  | i + 1 => dfaS st q i (dfaF st q i)
theorem dfaS_t {st : St} {q i : Nat} {a : Int32} (h : unl st q i = true) : dfaS st q i a = a ||| bitI i := by unfold dfaS; rw [h]; rfl
theorem dfaS_f {st : St} {q i : Nat} {a : Int32} (h : unl st q i = false) : dfaS st q i a = a := by unfold dfaS; rw [h]; rfl
def drpF (st : St) (k : Nat) : Nat → St
  | 0 => st
  | i + 1 => asgF (drpF st k i) (4 * k + i) (-1)
def setF (st : St) (g : Nat) (a b c : Int32) : St := up2 (up2 (up2 st (37 + g) 0 a) (37 + g) 1 b) (37 + g) 2 c
def adjF (st : St) (j : Nat) (a b c d e : Int32) : St := up2 (up2 (up2 (up2 (up2 st (42 + j) 0 a) (42 + j) 1 b) (42 + j) 2 c) (42 + j) 3 d) (42 + j) 4 e
def incJ (st : St) : St := up2 st 0 4 (st 0 4 + 1)
def goodJ (a b c : Int32) : Prop := (¬ a < 0 ∧ a ≤ 99) ∧ (¬ b < 1 ∧ b ≤ 8) ∧ (¬ c < 1 ∧ c ≤ 8)
def rng (v a b : Int32) : Prop := ¬ v < a ∧ v ≤ b
theorem rng_n {v a b : Int32} (h : v < a ∨ ¬ v ≤ b) : ¬ rng v a b := fun g => h.elim g.1 (fun h2 => h2 g.2)

set_option maxHeartbeats 4000000 in
set_option maxRecDepth 100000 in
theorem c_T_put {l : Launch} {D : va_G} {cs : Nat → ClassId} {ad : Nat → Nat} {st mt : Nat → Nat → Int32} {ov : Nat → Int64} {p0 p1 : Int32} (hl : l.stackTraces = false) : gX l y_T_put b_T_put 3 (some .int) ({ frames := 7, cells := 2, slots := 12, locals := 122 } : Room) 2 12 [.ref (ad 0), .int p0, .int p1] D cs ad st mt ov (QTi D cs ad mt ov (fun r u => ∃ k, k < 12 ∧ p0 = nI k ∧ okV p1 ∧ u = asgF st k p1 ∧ r = bcI (u 1 1))) (fun E => (E = xO ∧ ¬ inR p0 12) ∨ (E = xA ∧ inR p0 12 ∧ ¬ okV p1)) := by
  refine gX_of (own := "TwinRegister") (by decide +kernel) rfl (Nat.le_of_ble_eq_true rfl) ?_
  intro p e s m args below meth c C hr ht9
  refine w_lv (lv2 := [(0, .ref (ad 0)), (1, .int p0), (2, .int p1)]) [0, 1, 2] rfl ?_
  refine w_iload_n C 1 d_T_put_0 rfl rfl ?_
  refine w_xcallTv C (w_runSX C (c_T_requireLeaf hl) m_196 m_197 m_24 m_198 ⟨rfl, rfl⟩ hd_T_requireLeaf rfl ⟨Nat.le_of_ble_eq_true rfl, Nat.le_of_ble_eq_true rfl⟩ rfl (Nat.le_of_ble_eq_true rfl) d_T_put_1 ⟨Nat.le_of_ble_eq_true rfl, Nat.le_of_ble_eq_true rfl⟩) ht9 (fun E h => Or.inl h) ⟨Nat.le_of_ble_eq_true rfl, Nat.le_of_ble_eq_true rfl⟩ (fun u9 h9 => ?_)
  obtain ⟨h9, k, hk, rfl⟩ := h9
  have h9 := h9.symm
  subst h9
  refine w_iload_n C 2 d_T_put_4 rfl rfl ?_
  refine w_iconst (v := (-1)) C d_T_put_5 rfl ?_
  refine w_icmp_eq C 16 d_T_put_6 (by decide) (fun h6 => ?_) (fun h6 => ?_)
  · skip
    refine w_aload_n C 0 d_T_put_16 rfl rfl ?_
    refine g_T_draft C m_158 d_T_put_17 ?_
    refine w_iload_n C 1 d_T_put_20 rfl rfl ?_
    refine w_iload_n C 2 d_T_put_21 rfl rfl ?_
    refine w_callTv C (w_runVN C (c_F_assign (by omega)) (by omega) e_F rfl rfl m_286 m_288 m_1 m_25 m_289 ⟨rfl, rfl⟩ hd_F_assign rfl ⟨Nat.le_of_ble_eq_true rfl, Nat.le_of_ble_eq_true rfl⟩ rfl (Nat.le_of_ble_eq_true rfl) d_T_put_22 ⟨Nat.le_of_ble_eq_true rfl, Nat.le_of_ble_eq_true rfl⟩) (fun u22 h22 => ?_)
    subst h22
    refine w_aload_n C 0 d_T_put_25 rfl rfl ?_
    refine g_T_draft C m_158 d_T_put_26 ?_
    refine w_callTi C (w_runVN C (c_F_count ) (by omega) e_F rfl rfl m_290 m_292 m_2 m_25 m_293 ⟨rfl, rfl⟩ hd_F_count rfl ⟨Nat.le_of_ble_eq_true rfl, Nat.le_of_ble_eq_true rfl⟩ rfl (Nat.le_of_ble_eq_true rfl) d_T_put_29 ⟨Nat.le_of_ble_eq_true rfl, Nat.le_of_ble_eq_true rfl⟩) (fun r29 u29 h29 => ?_)
    obtain ⟨rfl, h29⟩ := h29; have h29 := h29.symm; subst h29
    refine w_widen (k2 := 2) (n2 := 12) (Nat.le_of_ble_eq_true rfl) (Nat.le_of_ble_eq_true rfl) ?_
    exact wx_iretT C hr d_T_put_32 (⟨k, hk, rfl, Or.inl h6, rfl, rfl⟩)
  · skip
    refine w_iload_n C 2 d_T_put_9 rfl rfl ?_
    refine w_iconst (v := 0) C d_T_put_10 rfl ?_
    refine w_bipush (v := 99) C d_T_put_11 rfl ?_
    refine w_xcallTv C (w_runSX C (c_T_requireInRange hl) m_267 m_268 m_24 m_269 ⟨rfl, rfl⟩ hd_T_requireInRange rfl ⟨Nat.le_of_ble_eq_true rfl, Nat.le_of_ble_eq_true rfl⟩ rfl (Nat.le_of_ble_eq_true rfl) d_T_put_13 ⟨Nat.le_of_ble_eq_true rfl, Nat.le_of_ble_eq_true rfl⟩) ht9 (fun E h => Or.inr ⟨h.1, inR_nI hk, fun g => g.elim h6 (rng_n h.2)⟩) ⟨Nat.le_of_ble_eq_true rfl, Nat.le_of_ble_eq_true rfl⟩ (fun u9 h9 => ?_)
    obtain ⟨h9, r13⟩ := h9
    have h9 := h9.symm
    subst h9
    refine w_aload_n C 0 d_T_put_16 rfl rfl ?_
    refine g_T_draft C m_158 d_T_put_17 ?_
    refine w_iload_n C 1 d_T_put_20 rfl rfl ?_
    refine w_iload_n C 2 d_T_put_21 rfl rfl ?_
    refine w_callTv C (w_runVN C (c_F_assign (by omega)) (by omega) e_F rfl rfl m_286 m_288 m_1 m_25 m_289 ⟨rfl, rfl⟩ hd_F_assign rfl ⟨Nat.le_of_ble_eq_true rfl, Nat.le_of_ble_eq_true rfl⟩ rfl (Nat.le_of_ble_eq_true rfl) d_T_put_22 ⟨Nat.le_of_ble_eq_true rfl, Nat.le_of_ble_eq_true rfl⟩) (fun u22 h22 => ?_)
    subst h22
    refine w_aload_n C 0 d_T_put_25 rfl rfl ?_
    refine g_T_draft C m_158 d_T_put_26 ?_
    refine w_callTi C (w_runVN C (c_F_count ) (by omega) e_F rfl rfl m_290 m_292 m_2 m_25 m_293 ⟨rfl, rfl⟩ hd_F_count rfl ⟨Nat.le_of_ble_eq_true rfl, Nat.le_of_ble_eq_true rfl⟩ rfl (Nat.le_of_ble_eq_true rfl) d_T_put_29 ⟨Nat.le_of_ble_eq_true rfl, Nat.le_of_ble_eq_true rfl⟩) (fun r29 u29 h29 => ?_)
    obtain ⟨rfl, h29⟩ := h29; have h29 := h29.symm; subst h29
    refine w_widen (k2 := 2) (n2 := 12) (Nat.le_of_ble_eq_true rfl) (Nat.le_of_ble_eq_true rfl) ?_
    exact wx_iretT C hr d_T_put_32 (⟨k, hk, rfl, Or.inr r13, rfl, rfl⟩)
set_option maxHeartbeats 4000000 in
set_option maxRecDepth 100000 in
theorem l_T_drop {p : Program} {l : Launch} {e : Env} {s : State} {m : MethodId} {args : Array Value} {below : List Frame} {meth : Method} {c : Code} {Q : State → Prop} {D : va_G} {cs : Nat → ClassId} {ad : Nat → Nat} {A : Nat → Prop} {cells slots : Nat} {st mt : Nat → Nat → Int32} {ov : Nat → Int64} {k : Nat} (hk : k < 3) (C : Cx p s m args meth c D cs ad A b_T_drop 4 "TwinRegister") (hcs : cells ≤ 1 ∧ slots ≤ 6)
    (kx : Wg p l e ({ frames := 6, cells := 1, slots := 6, locals := 100 } : Room) s m args below meth c Q D cs ad A 4 cells slots 47 [(0, .ref (ad 0)), (1, .int (nI k)), (2, .int (nI (4 * k))), (3, .int (nI (4 * k + 4)))] [] (drpF st k 4) mt ov) : ∀ n i : Nat, i + n = 4 → Wg p l e ({ frames := 6, cells := 1, slots := 6, locals := 100 } : Room) s m args below meth c Q D cs ad A 4 cells slots 25 [(0, .ref (ad 0)), (1, .int (nI k)), (2, .int (nI (4 * k))), (3, .int (nI (4 * k + i)))] [] (drpF st k i) mt ov := by
  intro n
  induction n with
  | zero =>
    intro i hi
    have hi9 : 4 = i := by omega
    subst hi9
    refine w_iload_n C 3 d_T_drop_25 rfl rfl ?_
    refine w_iload_n C 2 d_T_drop_26 rfl rfl ?_
    refine w_iconst (v := 4) C d_T_drop_27 rfl ?_
    refine w_iadd C d_T_drop_28 ?_
    refine w_topi (y := (nI (4 * k + 4))) (nI_add (4 * k) 4) ?_
    refine w_icmp_ge_t C 47 d_T_drop_29 (by decide) (nI_le (a := 4 * k + 4) (b := 4 * k + 4) (Nat.le_refl _) (by omega)) ?_
    exact w_lv [0, 1, 2, 3] rfl kx
  | succ n ih =>
    intro i hi
    have hi2 : i < 4 := by omega
    refine w_iload_n C 3 d_T_drop_25 rfl rfl ?_
    refine w_iload_n C 2 d_T_drop_26 rfl rfl ?_
    refine w_iconst (v := 4) C d_T_drop_27 rfl ?_
    refine w_iadd C d_T_drop_28 ?_
    refine w_topi (y := (nI (4 * k + 4))) (nI_add (4 * k) 4) ?_
    refine w_icmp_ge_f C 47 d_T_drop_29 (by decide) (nI_ge (a := 4 * k + i) (b := 4 * k + 4) (by omega) (by omega)) ?_
    refine w_aload_n C 0 d_T_drop_32 rfl rfl ?_
    refine g_T_draft C m_158 d_T_drop_33 ?_
    refine w_iload_n C 3 d_T_drop_36 rfl rfl ?_
    refine w_iconst (v := (-1)) C d_T_drop_37 rfl ?_
    refine w_callTv C (w_runVN C (c_F_assign (by omega)) (by omega) e_F rfl rfl m_286 m_288 m_1 m_25 m_289 ⟨rfl, rfl⟩ hd_F_assign rfl ⟨Nat.le_of_ble_eq_true rfl, Nat.le_of_ble_eq_true rfl⟩ rfl (Nat.le_of_ble_eq_true rfl) d_T_drop_38 hcs) (fun u38 h38 => ?_)
    subst h38
    refine w_iinc (lv2 := [(3, .int (nI ((4 * k + i) + 1))), (0, .ref (ad 0)), (1, .int (nI k)), (2, .int (nI (4 * k)))]) C 3 d_T_drop_41 rfl (nI_1 _) (by decide) rfl ?_
    refine w_goto C 25 d_T_drop_44 (by decide) ?_
    refine w_st (st2 := drpF st k (i + 1)) (rfl) ?_
    exact w_lv [1, 2, 3, 0] rfl (ih (i + 1) (by omega))
set_option maxHeartbeats 4000000 in
set_option maxRecDepth 100000 in
theorem c_T_drop {l : Launch} {D : va_G} {cs : Nat → ClassId} {ad : Nat → Nat} {st mt : Nat → Nat → Int32} {ov : Nat → Int64} {p0 : Int32} (hl : l.stackTraces = false) : gX l y_T_drop b_T_drop 4 (some .int) ({ frames := 6, cells := 1, slots := 6, locals := 100 } : Room) 1 6 [.ref (ad 0), .int p0] D cs ad st mt ov (QTi D cs ad mt ov (fun r u => ∃ k, k < 3 ∧ p0 = nI k ∧ u = drpF st k 4 ∧ r = bcI (u 1 1))) (fun E => E = xO ∧ ¬ inR p0 3) := by
  refine gX_of (own := "TwinRegister") (by decide +kernel) rfl (Nat.le_of_ble_eq_true rfl) ?_
  intro p e s m args below meth c C hr ht9
  refine w_lv (lv2 := [(0, .ref (ad 0)), (1, .int p0)]) [0, 1] rfl ?_
  refine w_iload_n C 1 d_T_drop_0 rfl rfl ?_
  refine w_if_lt C 9 d_T_drop_1 (by decide) (fun h1 => ?_) (fun h1 => ?_)
  · skip
    exact w_throwS (names := ["java/lang/RuntimeException", "java/lang/Exception"]) (text := "there is no such section") C hl ht9 (by decide +kernel) hfit m_199 m_32 (by decide +kernel) hat_O d_T_drop_9 d_T_drop_12 d_T_drop_13 d_T_drop_15 d_T_drop_18 ⟨by decide, Nat.le_of_ble_eq_true rfl, Nat.le_of_ble_eq_true rfl, Nat.le_of_ble_eq_true rfl⟩ ⟨Nat.le_of_ble_eq_true rfl, Nat.le_of_ble_eq_true rfl⟩ (⟨rfl, inR_no0 (by decide) h1⟩)
  · skip
    refine w_iload_n C 1 d_T_drop_4 rfl rfl ?_
    refine w_iconst (v := 3) C d_T_drop_5 rfl ?_
    refine w_icmp_lt C 19 d_T_drop_6 (by decide) (fun h6 => ?_) (fun h6 => ?_)
    · skip
      obtain ⟨k, hk, rfl⟩ := inR_lt (n := 3) (by decide) h1 h6
      refine w_iload_n C 1 d_T_drop_19 rfl rfl ?_
      refine w_iconst (v := 4) C d_T_drop_20 rfl ?_
      refine w_imul C d_T_drop_21 ?_
      refine w_topi (y := (nI (4 * k))) ((pk_mul k 4).trans (by rw [Nat.mul_comm])) ?_
      refine w_istore_n (lv2 := [(2, .int (nI (4 * k))), (0, .ref (ad 0)), (1, .int (nI k))]) C d_T_drop_22 rfl (by decide) rfl ?_
      refine w_iload_n C 0 d_T_drop_23 rfl rfl ?_
      refine w_istore_n (lv2 := [(3, .int (nI (4 * k))), (2, .int (nI (4 * k))), (0, .ref (ad 0)), (1, .int (nI k))]) C d_T_drop_24 rfl (by decide) rfl ?_
      refine w_lv (lv2 := [(0, .ref (ad 0)), (1, .int (nI k)), (2, .int (nI (4 * k))), (3, .int (nI (4 * k + 0)))]) [2, 3, 1, 0] rfl ?_
      refine l_T_drop hk C ⟨Nat.le_of_ble_eq_true rfl, Nat.le_of_ble_eq_true rfl⟩ ?_ 4 0 rfl
      refine w_aload_n C 0 d_T_drop_47 rfl rfl ?_
      refine g_T_draft C m_158 d_T_drop_48 ?_
      refine w_callTi C (w_runVN C (c_F_count ) (by omega) e_F rfl rfl m_290 m_292 m_2 m_25 m_293 ⟨rfl, rfl⟩ hd_F_count rfl ⟨Nat.le_of_ble_eq_true rfl, Nat.le_of_ble_eq_true rfl⟩ rfl (Nat.le_of_ble_eq_true rfl) d_T_drop_51 ⟨Nat.le_of_ble_eq_true rfl, Nat.le_of_ble_eq_true rfl⟩) (fun r51 u51 h51 => ?_)
      obtain ⟨rfl, h51⟩ := h51; have h51 := h51.symm; subst h51
      refine w_widen (k2 := 1) (n2 := 6) (Nat.le_of_ble_eq_true rfl) (Nat.le_of_ble_eq_true rfl) ?_
      exact wx_iretT C hr d_T_drop_54 (⟨k, hk, rfl, rfl, rfl⟩)
    · skip
      exact w_throwS (names := ["java/lang/RuntimeException", "java/lang/Exception"]) (text := "there is no such section") C hl ht9 (by decide +kernel) hfit m_199 m_32 (by decide +kernel) hat_O d_T_drop_9 d_T_drop_12 d_T_drop_13 d_T_drop_15 d_T_drop_18 ⟨by decide, Nat.le_of_ble_eq_true rfl, Nat.le_of_ble_eq_true rfl, Nat.le_of_ble_eq_true rfl⟩ ⟨Nat.le_of_ble_eq_true rfl, Nat.le_of_ble_eq_true rfl⟩ (⟨rfl, inR_no2 (n := 3) (by decide) h6⟩)
set_option maxHeartbeats 4000000 in
set_option maxRecDepth 100000 in
theorem c_T_wish {l : Launch} {D : va_G} {cs : Nat → ClassId} {ad : Nat → Nat} {st mt : Nat → Nat → Int32} {ov : Nat → Int64} {p0 p1 : Int32} (hl : l.stackTraces = false) : gX l y_T_wish b_T_wish 4 (some .int) ({ frames := 7, cells := 3, slots := 18, locals := 121 } : Room) 3 18 [.ref (ad 0), .int p0, .int p1] D cs ad st mt ov (QTi D cs ad mt ov (fun r u => ∃ q, q < 8 ∧ p0 = nI q ∧ ¬ bcI (st 1 1) = 0 ∧ (p1 = -1 ∨ p1 = st (4 + 4 * q) 4) ∧ u = empF (bmpV (merW st q 12) q) ∧ r = u (4 + 4 * q) 4)) (fun E => (E = xO ∧ ¬ inR p0 8) ∨ (E = xS ∧ ∃ q, q < 8 ∧ p0 = nI q ∧ (bcI (st 1 1) = 0 ∨ (¬ p1 = -1 ∧ ¬ p1 = st (4 + 4 * q) 4)))) := by
  refine gX_of (own := "TwinRegister") (by decide +kernel) rfl (Nat.le_of_ble_eq_true rfl) ?_
  intro p e s m args below meth c C hr ht9
  refine w_lv (lv2 := [(0, .ref (ad 0)), (1, .int p0), (2, .int p1)]) [0, 1, 2] rfl ?_
  refine w_aload_n C 0 d_T_wish_0 rfl rfl ?_
  refine w_iload_n C 1 d_T_wish_1 rfl rfl ?_
  refine w_xcallTq C (w_runVX C (c_T_deviceAt hl) (by omega) e_T rfl rfl m_319 m_321 m_3 m_24 m_322 ⟨rfl, rfl⟩ hd_T_deviceAt rfl ⟨Nat.le_of_ble_eq_true rfl, Nat.le_of_ble_eq_true rfl⟩ rfl (Nat.le_of_ble_eq_true rfl) d_T_wish_2 ⟨Nat.le_of_ble_eq_true rfl, Nat.le_of_ble_eq_true rfl⟩) ht9 (fun E h => Or.inl h) ⟨Nat.le_of_ble_eq_true rfl, Nat.le_of_ble_eq_true rfl⟩ (fun u9 h9 => ?_)
  obtain ⟨q, hq, rfl, rfl⟩ := h9
  refine w_astore_n (lv2 := [(3, .ref (ad (4 + 4 * q))), (0, .ref (ad 0)), (1, .int (nI q)), (2, .int p1)]) C d_T_wish_5 rfl (by decide) rfl ?_
  refine w_aload_n C 1 d_T_wish_6 rfl rfl ?_
  refine g_T_draft C m_158 d_T_wish_7 ?_
  refine w_callTi C (w_runVN C (c_F_count ) (by omega) e_F rfl rfl m_290 m_292 m_2 m_25 m_293 ⟨rfl, rfl⟩ hd_F_count rfl ⟨Nat.le_of_ble_eq_true rfl, Nat.le_of_ble_eq_true rfl⟩ rfl (Nat.le_of_ble_eq_true rfl) d_T_wish_10 ⟨Nat.le_of_ble_eq_true rfl, Nat.le_of_ble_eq_true rfl⟩) (fun r10 u10 h10 => ?_)
  obtain ⟨rfl, h10⟩ := h10; have h10 := h10.symm; subst h10
  refine w_if_ne C 26 d_T_wish_13 (by decide) (fun h13 => ?_) (fun h13 => ?_)
  · skip
    refine w_iload_n C 3 d_T_wish_26 rfl rfl ?_
    refine w_iconst (v := (-1)) C d_T_wish_27 rfl ?_
    refine w_icmp_eq C 49 d_T_wish_28 (by decide) (fun h28 => ?_) (fun h28 => ?_)
    · skip
      refine w_aload_n C 1 d_T_wish_49 rfl rfl ?_
      refine w_aload_n C 0 d_T_wish_50 rfl rfl ?_
      refine w_callTv C (w_runV C (c_T_mergeWish hq) (by omega) e_T rfl rfl m_341 m_343 m_4 m_24 m_344 ⟨rfl, rfl⟩ hd_T_mergeWish rfl ⟨Nat.le_of_ble_eq_true rfl, Nat.le_of_ble_eq_true rfl⟩ rfl (Nat.le_of_ble_eq_true rfl) d_T_wish_51 ⟨Nat.le_of_ble_eq_true rfl, Nat.le_of_ble_eq_true rfl⟩) (fun u51 h51 => ?_)
      subst h51
      refine w_aload_n C 0 d_T_wish_54 rfl rfl ?_
      refine w_dup C d_T_wish_55 rfl ?_
      refine gN_D_latestVersion C (by omega) m_75 d_T_wish_56 ?_
      refine w_iconst (v := 1) C d_T_wish_59 rfl ?_
      refine w_iadd C d_T_wish_60 ?_
      refine pN_D_latestVersion C (by omega) m_75 d_T_wish_61 ?_
      refine w_aload_n C 1 d_T_wish_64 rfl rfl ?_
      refine g_T_draft C m_158 d_T_wish_65 ?_
      refine w_callTv C (w_runVN C (c_F_empty ) (by omega) e_F rfl rfl m_361 m_363 m_9 m_25 m_364 ⟨rfl, rfl⟩ hd_F_empty rfl ⟨Nat.le_of_ble_eq_true rfl, Nat.le_of_ble_eq_true rfl⟩ rfl (Nat.le_of_ble_eq_true rfl) d_T_wish_68 ⟨Nat.le_of_ble_eq_true rfl, Nat.le_of_ble_eq_true rfl⟩) (fun u68 h68 => ?_)
      subst h68
      refine w_aload_n C 0 d_T_wish_71 rfl rfl ?_
      refine gN_D_latestVersion C (by omega) m_75 d_T_wish_72 ?_
      refine w_widen (k2 := 3) (n2 := 18) (Nat.le_of_ble_eq_true rfl) (Nat.le_of_ble_eq_true rfl) ?_
      exact wx_iretT C hr d_T_wish_75 (⟨q, hq, rfl, h13, Or.inl h28, rfl, rfl⟩)
    · skip
      refine w_iload_n C 3 d_T_wish_31 rfl rfl ?_
      refine w_aload_n C 0 d_T_wish_32 rfl rfl ?_
      refine gN_D_latestVersion C (by omega) m_75 d_T_wish_33 ?_
      refine w_icmp_eq C 49 d_T_wish_36 (by decide) (fun h36 => ?_) (fun h36 => ?_)
      · skip
        refine w_aload_n C 1 d_T_wish_49 rfl rfl ?_
        refine w_aload_n C 0 d_T_wish_50 rfl rfl ?_
        refine w_callTv C (w_runV C (c_T_mergeWish hq) (by omega) e_T rfl rfl m_341 m_343 m_4 m_24 m_344 ⟨rfl, rfl⟩ hd_T_mergeWish rfl ⟨Nat.le_of_ble_eq_true rfl, Nat.le_of_ble_eq_true rfl⟩ rfl (Nat.le_of_ble_eq_true rfl) d_T_wish_51 ⟨Nat.le_of_ble_eq_true rfl, Nat.le_of_ble_eq_true rfl⟩) (fun u51 h51 => ?_)
        subst h51
        refine w_aload_n C 0 d_T_wish_54 rfl rfl ?_
        refine w_dup C d_T_wish_55 rfl ?_
        refine gN_D_latestVersion C (by omega) m_75 d_T_wish_56 ?_
        refine w_iconst (v := 1) C d_T_wish_59 rfl ?_
        refine w_iadd C d_T_wish_60 ?_
        refine pN_D_latestVersion C (by omega) m_75 d_T_wish_61 ?_
        refine w_aload_n C 1 d_T_wish_64 rfl rfl ?_
        refine g_T_draft C m_158 d_T_wish_65 ?_
        refine w_callTv C (w_runVN C (c_F_empty ) (by omega) e_F rfl rfl m_361 m_363 m_9 m_25 m_364 ⟨rfl, rfl⟩ hd_F_empty rfl ⟨Nat.le_of_ble_eq_true rfl, Nat.le_of_ble_eq_true rfl⟩ rfl (Nat.le_of_ble_eq_true rfl) d_T_wish_68 ⟨Nat.le_of_ble_eq_true rfl, Nat.le_of_ble_eq_true rfl⟩) (fun u68 h68 => ?_)
        subst h68
        refine w_aload_n C 0 d_T_wish_71 rfl rfl ?_
        refine gN_D_latestVersion C (by omega) m_75 d_T_wish_72 ?_
        refine w_widen (k2 := 3) (n2 := 18) (Nat.le_of_ble_eq_true rfl) (Nat.le_of_ble_eq_true rfl) ?_
        exact wx_iretT C hr d_T_wish_75 (⟨q, hq, rfl, h13, Or.inr h36, rfl, rfl⟩)
      · skip
        exact w_throwS (names := ["java/lang/RuntimeException", "java/lang/Exception"]) (text := "the version is another one") C hl ht9 (by decide +kernel) hfit m_324 m_35 (by decide +kernel) hat_S d_T_wish_39 d_T_wish_42 d_T_wish_43 d_T_wish_45 d_T_wish_48 ⟨by decide, Nat.le_of_ble_eq_true rfl, Nat.le_of_ble_eq_true rfl, Nat.le_of_ble_eq_true rfl⟩ ⟨Nat.le_of_ble_eq_true rfl, Nat.le_of_ble_eq_true rfl⟩ (Or.inr ⟨rfl, q, hq, rfl, Or.inr ⟨h28, h36⟩⟩)
  · skip
    exact w_throwS (names := ["java/lang/RuntimeException", "java/lang/Exception"]) (text := "the draft has no leaves") C hl ht9 (by decide +kernel) hfit m_324 m_35 (by decide +kernel) hat_S d_T_wish_16 d_T_wish_19 d_T_wish_20 d_T_wish_22 d_T_wish_25 ⟨by decide, Nat.le_of_ble_eq_true rfl, Nat.le_of_ble_eq_true rfl, Nat.le_of_ble_eq_true rfl⟩ ⟨Nat.le_of_ble_eq_true rfl, Nat.le_of_ble_eq_true rfl⟩ (Or.inr ⟨rfl, q, hq, rfl, Or.inl h13⟩)
set_option maxHeartbeats 4000000 in
set_option maxRecDepth 100000 in
theorem c_T_report {l : Launch} {D : va_G} {cs : Nat → ClassId} {ad : Nat → Nat} {st mt : Nat → Nat → Int32} {ov : Nat → Int64} {p0 p1 : Int32} (hl : l.stackTraces = false) : gX l y_T_report b_T_report 5 (some .int) ({ frames := 7, cells := 3, slots := 18, locals := 122 } : Room) 3 18 [.ref (ad 0), .int p0, .int p1] D cs ad st mt ov (QTi D cs ad mt ov (fun r u => ∃ q, q < 8 ∧ p0 = nI q ∧ rng p1 1 (st (4 + 4 * q) 6 + 1) ∧ st (4 + 4 * q) 7 = 0 ∧ ((¬ st (4 + 4 * q) 6 < p1 ∧ u = empF st ∧ r = -1) ∨ (st (4 + 4 * q) 6 < p1 ∧ u = empF (up2 (merR st q 12) (4 + 4 * q) 6 p1) ∧ r = bcI (u (4 + 4 * q) 3))))) (fun E => (E = xO ∧ ¬ inR p0 8) ∨ (E = xA ∧ ∃ q, q < 8 ∧ p0 = nI q ∧ ¬ rng p1 1 (st (4 + 4 * q) 6 + 1)) ∨ (E = xS ∧ ∃ q, q < 8 ∧ p0 = nI q ∧ rng p1 1 (st (4 + 4 * q) 6 + 1) ∧ ¬ st (4 + 4 * q) 7 = 0)) := by
  refine gX_of (own := "TwinRegister") (by decide +kernel) rfl (Nat.le_of_ble_eq_true rfl) ?_
  intro p e s m args below meth c C hr ht9
  refine w_lv (lv2 := [(0, .ref (ad 0)), (1, .int p0), (2, .int p1)]) [0, 1, 2] rfl ?_
  refine w_aload_n C 0 d_T_report_0 rfl rfl ?_
  refine w_iload_n C 1 d_T_report_1 rfl rfl ?_
  refine w_xcallTq C (w_runVX C (c_T_deviceAt hl) (by omega) e_T rfl rfl m_319 m_321 m_3 m_24 m_322 ⟨rfl, rfl⟩ hd_T_deviceAt rfl ⟨Nat.le_of_ble_eq_true rfl, Nat.le_of_ble_eq_true rfl⟩ rfl (Nat.le_of_ble_eq_true rfl) d_T_report_2 ⟨Nat.le_of_ble_eq_true rfl, Nat.le_of_ble_eq_true rfl⟩) ht9 (fun E h => Or.inl h) ⟨Nat.le_of_ble_eq_true rfl, Nat.le_of_ble_eq_true rfl⟩ (fun u9 h9 => ?_)
  obtain ⟨q, hq, rfl, rfl⟩ := h9
  refine w_astore_n (lv2 := [(3, .ref (ad (4 + 4 * q))), (0, .ref (ad 0)), (1, .int (nI q)), (2, .int p1)]) C d_T_report_5 rfl (by decide) rfl ?_
  refine w_iload_n C 3 d_T_report_6 rfl rfl ?_
  refine w_iconst (v := 1) C d_T_report_7 rfl ?_
  refine w_aload_n C 0 d_T_report_8 rfl rfl ?_
  refine gN_D_latestReport C (by omega) m_79 d_T_report_9 ?_
  refine w_iconst (v := 1) C d_T_report_12 rfl ?_
  refine w_iadd C d_T_report_13 ?_
  refine w_xcallTv C (w_runSX C (c_T_requireInRange hl) m_267 m_268 m_24 m_269 ⟨rfl, rfl⟩ hd_T_requireInRange rfl ⟨Nat.le_of_ble_eq_true rfl, Nat.le_of_ble_eq_true rfl⟩ rfl (Nat.le_of_ble_eq_true rfl) d_T_report_14 ⟨Nat.le_of_ble_eq_true rfl, Nat.le_of_ble_eq_true rfl⟩) ht9 (fun E h => Or.inr (Or.inl ⟨h.1, q, hq, rfl, rng_n h.2⟩)) ⟨Nat.le_of_ble_eq_true rfl, Nat.le_of_ble_eq_true rfl⟩ (fun u9 h9 => ?_)
  obtain ⟨h9, r14⟩ := h9
  have h9 := h9.symm
  subst h9
  refine w_aload_n C 0 d_T_report_17 rfl rfl ?_
  refine w_xcallTv C (w_runSX C (c_T_requireAwake (by omega) hl) m_372 m_373 m_24 m_374 ⟨rfl, rfl⟩ hd_T_requireAwake rfl ⟨Nat.le_of_ble_eq_true rfl, Nat.le_of_ble_eq_true rfl⟩ rfl (Nat.le_of_ble_eq_true rfl) d_T_report_18 ⟨Nat.le_of_ble_eq_true rfl, Nat.le_of_ble_eq_true rfl⟩) ht9 (fun E h => Or.inr (Or.inr ⟨h.1, q, hq, rfl, r14, h.2⟩)) ⟨Nat.le_of_ble_eq_true rfl, Nat.le_of_ble_eq_true rfl⟩ (fun u9 h9 => ?_)
  obtain ⟨h9, haw⟩ := h9
  have h9 := h9.symm
  subst h9
  refine w_iload_n C 3 d_T_report_21 rfl rfl ?_
  refine w_aload_n C 0 d_T_report_22 rfl rfl ?_
  refine gN_D_latestReport C (by omega) m_79 d_T_report_23 ?_
  refine w_icmp_gt C 33 d_T_report_26 (by decide) (fun h26 => ?_) (fun h26 => ?_)
  · skip
    refine w_iconst (v := 0) C d_T_report_33 rfl ?_
    refine w_istore (lv2 := [(4, .int 0), (3, .ref (ad (4 + 4 * q))), (0, .ref (ad 0)), (1, .int (nI q)), (2, .int p1)]) C d_T_report_34 (by decide) rfl ?_
    refine w_iload C 0 d_T_report_36 rfl ?_
    refine w_if_ne_f C 51 d_T_report_38 (by decide) (by decide) ?_
    refine w_aload_n C 2 d_T_report_41 rfl rfl ?_
    refine w_aload_n C 1 d_T_report_42 rfl rfl ?_
    refine w_callTv C (w_runV C (c_T_mergeReport hq) (by omega) e_T rfl rfl m_376 m_378 m_10 m_24 m_379 ⟨rfl, rfl⟩ hd_T_mergeReport rfl ⟨Nat.le_of_ble_eq_true rfl, Nat.le_of_ble_eq_true rfl⟩ rfl (Nat.le_of_ble_eq_true rfl) d_T_report_43 ⟨Nat.le_of_ble_eq_true rfl, Nat.le_of_ble_eq_true rfl⟩) (fun u43 h43 => ?_)
    subst h43
    refine w_aload_n C 1 d_T_report_46 rfl rfl ?_
    refine w_iload_n C 4 d_T_report_47 rfl rfl ?_
    refine pN_D_latestReport C (by omega) m_79 d_T_report_48 ?_
    refine w_aload_n C 2 d_T_report_51 rfl rfl ?_
    refine g_T_draft C m_158 d_T_report_52 ?_
    refine w_callTv C (w_runVN C (c_F_empty ) (by omega) e_F rfl rfl m_361 m_363 m_9 m_25 m_364 ⟨rfl, rfl⟩ hd_F_empty rfl ⟨Nat.le_of_ble_eq_true rfl, Nat.le_of_ble_eq_true rfl⟩ rfl (Nat.le_of_ble_eq_true rfl) d_T_report_55 ⟨Nat.le_of_ble_eq_true rfl, Nat.le_of_ble_eq_true rfl⟩) (fun u55 h55 => ?_)
    subst h55
    refine w_iload C 0 d_T_report_58 rfl ?_
    refine w_if_eq_t C 67 d_T_report_60 (by decide) (by decide) ?_
    refine w_aload_n C 1 d_T_report_67 rfl rfl ?_
    refine gN_D_differing C (by omega) m_74 d_T_report_68 ?_
    refine w_callTi C (w_runS C (c_I_bitCount ) m_384 m_295 m_34 m_296 ⟨rfl, rfl⟩ hd_I_bitCount rfl ⟨Nat.le_of_ble_eq_true rfl, Nat.le_of_ble_eq_true rfl⟩ rfl (Nat.le_of_ble_eq_true rfl) d_T_report_71 ⟨Nat.le_of_ble_eq_true rfl, Nat.le_of_ble_eq_true rfl⟩) (fun r71 u71 h71 => ?_)
    obtain ⟨rfl, h71⟩ := h71; have h71 := h71.symm; subst h71
    refine w_widen (k2 := 3) (n2 := 18) (Nat.le_of_ble_eq_true rfl) (Nat.le_of_ble_eq_true rfl) ?_
    exact wx_iretT C hr d_T_report_74 (⟨q, hq, rfl, r14, haw, Or.inr ⟨h26, rfl, rfl⟩⟩)
  · skip
    refine w_iconst (v := 1) C d_T_report_29 rfl ?_
    refine w_goto C 34 d_T_report_30 (by decide) ?_
    refine w_istore (lv2 := [(4, .int 1), (3, .ref (ad (4 + 4 * q))), (0, .ref (ad 0)), (1, .int (nI q)), (2, .int p1)]) C d_T_report_34 (by decide) rfl ?_
    refine w_iload C 0 d_T_report_36 rfl ?_
    refine w_if_ne_t C 51 d_T_report_38 (by decide) (by decide) ?_
    refine w_aload_n C 2 d_T_report_51 rfl rfl ?_
    refine g_T_draft C m_158 d_T_report_52 ?_
    refine w_callTv C (w_runVN C (c_F_empty ) (by omega) e_F rfl rfl m_361 m_363 m_9 m_25 m_364 ⟨rfl, rfl⟩ hd_F_empty rfl ⟨Nat.le_of_ble_eq_true rfl, Nat.le_of_ble_eq_true rfl⟩ rfl (Nat.le_of_ble_eq_true rfl) d_T_report_55 ⟨Nat.le_of_ble_eq_true rfl, Nat.le_of_ble_eq_true rfl⟩) (fun u55 h55 => ?_)
    subst h55
    refine w_iload C 0 d_T_report_58 rfl ?_
    refine w_if_eq_f C 67 d_T_report_60 (by decide) (by decide) ?_
    refine w_iconst (v := (-1)) C d_T_report_63 rfl ?_
    refine w_goto C 74 d_T_report_64 (by decide) ?_
    refine w_widen (k2 := 3) (n2 := 18) (Nat.le_of_ble_eq_true rfl) (Nat.le_of_ble_eq_true rfl) ?_
    exact wx_iretT C hr d_T_report_74 (⟨q, hq, rfl, r14, haw, Or.inl ⟨h26, rfl, rfl⟩⟩)
set_option maxHeartbeats 4000000 in
set_option maxRecDepth 100000 in
theorem l_T_obey {p : Program} {l : Launch} {e : Env} {s : State} {m : MethodId} {args : Array Value} {below : List Frame} {meth : Method} {c : Code} {Q : State → Prop} {D : va_G} {cs : Nat → ClassId} {ad : Nat → Nat} {A : Nat → Prop} {cells slots : Nat} {st mt : Nat → Nat → Int32} {ov : Nat → Int64} {q : Nat} (hq : q < 8) (C : Cx p s m args meth c D cs ad A b_T_obey 5 "TwinRegister") (hcs : cells ≤ 2 ∧ slots ≤ 12)
    (kx : Wg p l e ({ frames := 7, cells := 2, slots := 12, locals := 121 } : Room) s m args below meth c Q D cs ad A 5 cells slots 53 [(0, .ref (ad 0)), (1, .int (nI q)), (2, .ref (ad (4 + 4 * q))), (3, .int (obyF st q 12).2)] [] ((obyF st q 12).1) mt ov) : ∀ n i : Nat, i + n = 12 → Wg p l e ({ frames := 7, cells := 2, slots := 12, locals := 121 } : Room) s m args below meth c Q D cs ad A 5 cells slots 15 [(0, .ref (ad 0)), (1, .int (nI q)), (2, .ref (ad (4 + 4 * q))), (3, .int (obyF st q i).2), (4, .int (nI i))] [] ((obyF st q i).1) mt ov := by
  intro n
  induction n with
  | zero =>
    intro i hi
    have hi9 : 12 = i := by omega
    subst hi9
    refine w_iload C 4 d_T_obey_15 rfl ?_
    refine w_bipush (v := 12) C d_T_obey_17 rfl ?_
    refine w_icmp_ge_t C 53 d_T_obey_19 (by decide) (nI_le (a := 12) (b := 12) (Nat.le_refl _) (by decide)) ?_
    exact w_lv [0, 1, 2, 3] rfl kx
  | succ n ih =>
    intro i hi
    have hi2 : i < 12 := by omega
    refine w_iload C 4 d_T_obey_15 rfl ?_
    refine w_bipush (v := 12) C d_T_obey_17 rfl ?_
    refine w_icmp_ge_f C 53 d_T_obey_19 (by decide) (nI_ge (b := 12) hi2 (by decide)) ?_
    refine w_aload_n C 2 d_T_obey_22 rfl rfl ?_
    refine w_iload C 4 d_T_obey_23 rfl ?_
    refine w_callTi C (w_runVN C (c_D_differsAt (by omega) (by omega)) (by omega) (e_D (by omega)) rfl rfl m_404 m_406 m_12 m_26 m_407 ⟨rfl, rfl⟩ hd_D_differsAt rfl ⟨Nat.le_of_ble_eq_true rfl, Nat.le_of_ble_eq_true rfl⟩ rfl (Nat.le_of_ble_eq_true rfl) d_T_obey_25 hcs) (fun r25 u25 h25 => ?_)
    obtain ⟨rfl, h25⟩ := h25; have h25 := h25.symm; subst h25
    refine w_ifb_eq C 47 d_T_obey_28 (by decide) (fun h28 => ?_) (fun h28 => ?_)
    · skip
      refine w_iinc (lv2 := [(4, .int (nI (i + 1))), (0, .ref (ad 0)), (1, .int (nI q)), (2, .ref (ad (4 + 4 * q))), (3, .int (obyF st q i).2)]) C 4 d_T_obey_47 rfl (nI_1 _) (by decide) rfl ?_
      refine w_goto C 15 d_T_obey_50 (by decide) ?_
      have ih9 := ih (i + 1) (by omega)
      rw [show obyF st q (i + 1) = _ from obyS_f h28] at ih9
      exact w_lv [1, 2, 3, 4, 0] rfl ih9
    · skip
      refine w_aload_n C 2 d_T_obey_31 rfl rfl ?_
      refine w_iload C 4 d_T_obey_32 rfl ?_
      refine w_aload_n C 2 d_T_obey_34 rfl rfl ?_
      refine gN_D_wishedValues C (by omega) m_67 d_T_obey_35 ?_
      refine w_iload C 4 d_T_obey_38 rfl ?_
      refine ia_DV C (by omega) (by omega) rfl (by omega) d_T_obey_40 ?_
      refine w_callTv C (w_runVN C (c_D_takeReport (by omega) (by omega)) (by omega) (e_D (by omega)) rfl rfl m_380 m_382 m_11 m_26 m_383 ⟨rfl, rfl⟩ hd_D_takeReport rfl ⟨Nat.le_of_ble_eq_true rfl, Nat.le_of_ble_eq_true rfl⟩ rfl (Nat.le_of_ble_eq_true rfl) d_T_obey_41 hcs) (fun u41 h41 => ?_)
      subst h41
      refine w_iinc (lv2 := [(3, .int ((obyF st q i).2 + 1)), (0, .ref (ad 0)), (1, .int (nI q)), (2, .ref (ad (4 + 4 * q))), (4, .int (nI i))]) C 3 d_T_obey_44 rfl rfl (by decide) rfl ?_
      refine w_iinc (lv2 := [(4, .int (nI (i + 1))), (3, .int ((obyF st q i).2 + 1)), (0, .ref (ad 0)), (1, .int (nI q)), (2, .ref (ad (4 + 4 * q)))]) C 4 d_T_obey_47 rfl (nI_1 _) (by decide) rfl ?_
      refine w_goto C 15 d_T_obey_50 (by decide) ?_
      have ih9 := ih (i + 1) (by omega)
      rw [show obyF st q (i + 1) = _ from obyS_t h28] at ih9
      exact w_lv [2, 3, 4, 1, 0] rfl ih9
set_option maxHeartbeats 4000000 in
set_option maxRecDepth 100000 in
theorem c_T_obey {l : Launch} {D : va_G} {cs : Nat → ClassId} {ad : Nat → Nat} {st mt : Nat → Nat → Int32} {ov : Nat → Int64} {p0 : Int32} (hl : l.stackTraces = false) : gX l y_T_obey b_T_obey 5 (some .int) ({ frames := 7, cells := 2, slots := 12, locals := 121 } : Room) 2 12 [.ref (ad 0), .int p0] D cs ad st mt ov (QTi D cs ad mt ov (fun r u => ∃ q, q < 8 ∧ p0 = nI q ∧ st (4 + 4 * q) 7 = 0 ∧ u = up2 (obyF st q 12).1 (4 + 4 * q) 6 ((obyF st q 12).1 (4 + 4 * q) 6 + 1) ∧ r = (obyF st q 12).2)) (fun E => (E = xO ∧ ¬ inR p0 8) ∨ (E = xS ∧ ∃ q, q < 8 ∧ p0 = nI q ∧ ¬ st (4 + 4 * q) 7 = 0)) := by
  refine gX_of (own := "TwinRegister") (by decide +kernel) rfl (Nat.le_of_ble_eq_true rfl) ?_
  intro p e s m args below meth c C hr ht9
  refine w_lv (lv2 := [(0, .ref (ad 0)), (1, .int p0)]) [0, 1] rfl ?_
  refine w_aload_n C 0 d_T_obey_0 rfl rfl ?_
  refine w_iload_n C 1 d_T_obey_1 rfl rfl ?_
  refine w_xcallTq C (w_runVX C (c_T_deviceAt hl) (by omega) e_T rfl rfl m_319 m_321 m_3 m_24 m_322 ⟨rfl, rfl⟩ hd_T_deviceAt rfl ⟨Nat.le_of_ble_eq_true rfl, Nat.le_of_ble_eq_true rfl⟩ rfl (Nat.le_of_ble_eq_true rfl) d_T_obey_2 ⟨Nat.le_of_ble_eq_true rfl, Nat.le_of_ble_eq_true rfl⟩) ht9 (fun E h => Or.inl h) ⟨Nat.le_of_ble_eq_true rfl, Nat.le_of_ble_eq_true rfl⟩ (fun u9 h9 => ?_)
  obtain ⟨q, hq, rfl, rfl⟩ := h9
  refine w_astore_n (lv2 := [(2, .ref (ad (4 + 4 * q))), (0, .ref (ad 0)), (1, .int (nI q))]) C d_T_obey_5 rfl (by decide) rfl ?_
  refine w_aload_n C 0 d_T_obey_6 rfl rfl ?_
  refine w_xcallTv C (w_runSX C (c_T_requireAwake (by omega) hl) m_372 m_373 m_24 m_374 ⟨rfl, rfl⟩ hd_T_requireAwake rfl ⟨Nat.le_of_ble_eq_true rfl, Nat.le_of_ble_eq_true rfl⟩ rfl (Nat.le_of_ble_eq_true rfl) d_T_obey_7 ⟨Nat.le_of_ble_eq_true rfl, Nat.le_of_ble_eq_true rfl⟩) ht9 (fun E h => Or.inr ⟨h.1, q, hq, rfl, h.2⟩) ⟨Nat.le_of_ble_eq_true rfl, Nat.le_of_ble_eq_true rfl⟩ (fun u9 h9 => ?_)
  obtain ⟨h9, haw⟩ := h9
  have h9 := h9.symm
  subst h9
  refine w_iconst (v := 0) C d_T_obey_10 rfl ?_
  refine w_istore_n (lv2 := [(3, .int 0), (2, .ref (ad (4 + 4 * q))), (0, .ref (ad 0)), (1, .int (nI q))]) C d_T_obey_11 rfl (by decide) rfl ?_
  refine w_iconst (v := 0) C d_T_obey_12 rfl ?_
  refine w_istore (lv2 := [(4, .int 0), (3, .int 0), (2, .ref (ad (4 + 4 * q))), (0, .ref (ad 0)), (1, .int (nI q))]) C d_T_obey_13 (by decide) rfl ?_
  refine w_lv (lv2 := [(0, .ref (ad 0)), (1, .int (nI q)), (2, .ref (ad (4 + 4 * q))), (3, .int (obyF st q 0).2), (4, .int (nI 0))]) [3, 4, 2, 1, 0] rfl ?_
  refine l_T_obey hq C ⟨Nat.le_of_ble_eq_true rfl, Nat.le_of_ble_eq_true rfl⟩ ?_ 12 0 rfl
  refine w_aload_n C 2 d_T_obey_53 rfl rfl ?_
  refine w_dup C d_T_obey_54 rfl ?_
  refine gN_D_latestReport C (by omega) m_79 d_T_obey_55 ?_
  refine w_iconst (v := 1) C d_T_obey_58 rfl ?_
  refine w_iadd C d_T_obey_59 ?_
  refine pN_D_latestReport C (by omega) m_79 d_T_obey_60 ?_
  refine w_iload_n C 3 d_T_obey_63 rfl rfl ?_
  refine w_widen (k2 := 2) (n2 := 12) (Nat.le_of_ble_eq_true rfl) (Nat.le_of_ble_eq_true rfl) ?_
  exact wx_iretT C hr d_T_obey_64 (⟨q, hq, rfl, haw, rfl, rfl⟩)
set_option maxHeartbeats 4000000 in
set_option maxRecDepth 100000 in
theorem c_T_refuse {l : Launch} {D : va_G} {cs : Nat → ClassId} {ad : Nat → Nat} {st mt : Nat → Nat → Int32} {ov : Nat → Int64} {p0 p1 p2 : Int32} (hl : l.stackTraces = false) : gX l y_T_refuse b_T_refuse 5 (some .int) ({ frames := 7, cells := 5, slots := 30, locals := 122 } : Room) 5 30 [.ref (ad 0), .int p0, .int p1, .int p2] D cs ad st mt ov (QTi D cs ad mt ov (fun r u => ∃ q k, q < 8 ∧ k < 12 ∧ p0 = nI q ∧ p1 = nI k ∧ rng p2 1 9 ∧ st (4 + 4 * q) 7 = 0 ∧ difA st q k = true ∧ u = takeF st q k p2 ∧ r = bcI (u (4 + 4 * q) 3))) (fun E => (E = xO ∧ (¬ inR p0 8 ∨ ¬ inR p1 12)) ∨ (E = xA ∧ inR p0 8 ∧ inR p1 12 ∧ ¬ rng p2 1 9) ∨ (E = xS ∧ ∃ q k, q < 8 ∧ k < 12 ∧ p0 = nI q ∧ p1 = nI k ∧ rng p2 1 9 ∧ (¬ st (4 + 4 * q) 7 = 0 ∨ difA st q k = false))) := by
  refine gX_of (own := "TwinRegister") (by decide +kernel) rfl (Nat.le_of_ble_eq_true rfl) ?_
  intro p e s m args below meth c C hr ht9
  refine w_lv (lv2 := [(0, .ref (ad 0)), (1, .int p0), (2, .int p1), (3, .int p2)]) [0, 1, 2, 3] rfl ?_
  refine w_aload_n C 0 d_T_refuse_0 rfl rfl ?_
  refine w_iload_n C 1 d_T_refuse_1 rfl rfl ?_
  refine w_xcallTq C (w_runVX C (c_T_deviceAt hl) (by omega) e_T rfl rfl m_319 m_321 m_3 m_24 m_322 ⟨rfl, rfl⟩ hd_T_deviceAt rfl ⟨Nat.le_of_ble_eq_true rfl, Nat.le_of_ble_eq_true rfl⟩ rfl (Nat.le_of_ble_eq_true rfl) d_T_refuse_2 ⟨Nat.le_of_ble_eq_true rfl, Nat.le_of_ble_eq_true rfl⟩) ht9 (fun E h => Or.inl ⟨h.1, Or.inl h.2⟩) ⟨Nat.le_of_ble_eq_true rfl, Nat.le_of_ble_eq_true rfl⟩ (fun u9 h9 => ?_)
  obtain ⟨q, hq, rfl, rfl⟩ := h9
  refine w_astore (lv2 := [(4, .ref (ad (4 + 4 * q))), (0, .ref (ad 0)), (1, .int (nI q)), (2, .int p1), (3, .int p2)]) C d_T_refuse_5 (by decide) rfl ?_
  refine w_iload_n C 3 d_T_refuse_7 rfl rfl ?_
  refine w_xcallTv C (w_runSX C (c_T_requireLeaf hl) m_196 m_197 m_24 m_198 ⟨rfl, rfl⟩ hd_T_requireLeaf rfl ⟨Nat.le_of_ble_eq_true rfl, Nat.le_of_ble_eq_true rfl⟩ rfl (Nat.le_of_ble_eq_true rfl) d_T_refuse_8 ⟨Nat.le_of_ble_eq_true rfl, Nat.le_of_ble_eq_true rfl⟩) ht9 (fun E h => Or.inl ⟨h.1, Or.inr h.2⟩) ⟨Nat.le_of_ble_eq_true rfl, Nat.le_of_ble_eq_true rfl⟩ (fun u9 h9 => ?_)
  obtain ⟨h9, k, hk, rfl⟩ := h9
  have h9 := h9.symm
  subst h9
  refine w_iload_n C 4 d_T_refuse_11 rfl rfl ?_
  refine w_iconst (v := 1) C d_T_refuse_12 rfl ?_
  refine w_bipush (v := 9) C d_T_refuse_13 rfl ?_
  refine w_xcallTv C (w_runSX C (c_T_requireInRange hl) m_267 m_268 m_24 m_269 ⟨rfl, rfl⟩ hd_T_requireInRange rfl ⟨Nat.le_of_ble_eq_true rfl, Nat.le_of_ble_eq_true rfl⟩ rfl (Nat.le_of_ble_eq_true rfl) d_T_refuse_15 ⟨Nat.le_of_ble_eq_true rfl, Nat.le_of_ble_eq_true rfl⟩) ht9 (fun E h => Or.inr (Or.inl ⟨h.1, inR_nI hq, inR_nI hk, rng_n h.2⟩)) ⟨Nat.le_of_ble_eq_true rfl, Nat.le_of_ble_eq_true rfl⟩ (fun u9 h9 => ?_)
  obtain ⟨h9, r15⟩ := h9
  have h9 := h9.symm
  subst h9
  refine w_aload C 0 d_T_refuse_18 rfl ?_
  refine w_xcallTv C (w_runSX C (c_T_requireAwake (by omega) hl) m_372 m_373 m_24 m_374 ⟨rfl, rfl⟩ hd_T_requireAwake rfl ⟨Nat.le_of_ble_eq_true rfl, Nat.le_of_ble_eq_true rfl⟩ rfl (Nat.le_of_ble_eq_true rfl) d_T_refuse_20 ⟨Nat.le_of_ble_eq_true rfl, Nat.le_of_ble_eq_true rfl⟩) ht9 (fun E h => Or.inr (Or.inr ⟨h.1, q, k, hq, hk, rfl, rfl, r15, Or.inl h.2⟩)) ⟨Nat.le_of_ble_eq_true rfl, Nat.le_of_ble_eq_true rfl⟩ (fun u9 h9 => ?_)
  obtain ⟨h9, haw⟩ := h9
  have h9 := h9.symm
  subst h9
  refine w_aload C 0 d_T_refuse_23 rfl ?_
  refine w_iload_n C 3 d_T_refuse_25 rfl rfl ?_
  refine w_callTi C (w_runVN C (c_D_differsAt (by omega) (by omega)) (by omega) (e_D (by omega)) rfl rfl m_404 m_406 m_12 m_26 m_407 ⟨rfl, rfl⟩ hd_D_differsAt rfl ⟨Nat.le_of_ble_eq_true rfl, Nat.le_of_ble_eq_true rfl⟩ rfl (Nat.le_of_ble_eq_true rfl) d_T_refuse_26 ⟨Nat.le_of_ble_eq_true rfl, Nat.le_of_ble_eq_true rfl⟩) (fun r26 u26 h26 => ?_)
  obtain ⟨rfl, h26⟩ := h26; have h26 := h26.symm; subst h26
  refine w_ifb_ne C 42 d_T_refuse_29 (by decide) (fun h29 => ?_) (fun h29 => ?_)
  · skip
    refine w_aload C 0 d_T_refuse_42 rfl ?_
    refine w_iload_n C 3 d_T_refuse_44 rfl rfl ?_
    refine w_iload_n C 4 d_T_refuse_45 rfl rfl ?_
    refine w_callTv C (w_runVN C (c_D_takeRefusal (by omega) (by omega)) (by omega) (e_D (by omega)) rfl rfl m_416 m_418 m_13 m_26 m_419 ⟨rfl, rfl⟩ hd_D_takeRefusal rfl ⟨Nat.le_of_ble_eq_true rfl, Nat.le_of_ble_eq_true rfl⟩ rfl (Nat.le_of_ble_eq_true rfl) d_T_refuse_46 ⟨Nat.le_of_ble_eq_true rfl, Nat.le_of_ble_eq_true rfl⟩) (fun u46 h46 => ?_)
    subst h46
    refine w_aload C 0 d_T_refuse_49 rfl ?_
    refine gN_D_differing C (by omega) m_74 d_T_refuse_51 ?_
    refine w_callTi C (w_runS C (c_I_bitCount ) m_384 m_295 m_34 m_296 ⟨rfl, rfl⟩ hd_I_bitCount rfl ⟨Nat.le_of_ble_eq_true rfl, Nat.le_of_ble_eq_true rfl⟩ rfl (Nat.le_of_ble_eq_true rfl) d_T_refuse_54 ⟨Nat.le_of_ble_eq_true rfl, Nat.le_of_ble_eq_true rfl⟩) (fun r54 u54 h54 => ?_)
    obtain ⟨rfl, h54⟩ := h54; have h54 := h54.symm; subst h54
    refine w_widen (k2 := 5) (n2 := 30) (Nat.le_of_ble_eq_true rfl) (Nat.le_of_ble_eq_true rfl) ?_
    exact wx_iretT C hr d_T_refuse_57 (⟨q, k, hq, hk, rfl, rfl, r15, haw, h29, rfl, rfl⟩)
  · skip
    exact w_throwS (names := ["java/lang/RuntimeException", "java/lang/Exception"]) (text := "the leaf does not differ") C hl ht9 (by decide +kernel) hfit m_324 m_35 (by decide +kernel) hat_S d_T_refuse_32 d_T_refuse_35 d_T_refuse_36 d_T_refuse_38 d_T_refuse_41 ⟨by decide, Nat.le_of_ble_eq_true rfl, Nat.le_of_ble_eq_true rfl, Nat.le_of_ble_eq_true rfl⟩ ⟨Nat.le_of_ble_eq_true rfl, Nat.le_of_ble_eq_true rfl⟩ (Or.inr (Or.inr ⟨rfl, q, k, hq, hk, rfl, rfl, r15, Or.inr h29⟩))
set_option maxHeartbeats 4000000 in
set_option maxRecDepth 100000 in
theorem c_T_sleep {l : Launch} {D : va_G} {cs : Nat → ClassId} {ad : Nat → Nat} {st mt : Nat → Nat → Int32} {ov : Nat → Int64} {p0 : Int32} (hl : l.stackTraces = false) : gX l y_T_sleep b_T_sleep 4 (some .boolean) ({ frames := 7, cells := 1, slots := 6, locals := 121 } : Room) 1 6 [.ref (ad 0), .int p0] D cs ad st mt ov (QTi D cs ad mt ov (fun r u => ∃ q, q < 8 ∧ p0 = nI q ∧ ((st (4 + 4 * q) 7 = 0 ∧ r = 1 ∧ u = up2 (up2 st (4 + 4 * q) 7 1) (4 + 4 * q) 5 (up2 st (4 + 4 * q) 7 1 (4 + 4 * q) 4)) ∨ (¬ st (4 + 4 * q) 7 = 0 ∧ r = 0 ∧ u = st)))) (fun E => E = xO ∧ ¬ inR p0 8) := by
  refine gX_of (own := "TwinRegister") (by decide +kernel) rfl (Nat.le_of_ble_eq_true rfl) ?_
  intro p e s m args below meth c C hr ht9
  refine w_lv (lv2 := [(0, .ref (ad 0)), (1, .int p0)]) [0, 1] rfl ?_
  refine w_aload_n C 0 d_T_sleep_0 rfl rfl ?_
  refine w_iload_n C 1 d_T_sleep_1 rfl rfl ?_
  refine w_xcallTq C (w_runVX C (c_T_deviceAt hl) (by omega) e_T rfl rfl m_319 m_321 m_3 m_24 m_322 ⟨rfl, rfl⟩ hd_T_deviceAt rfl ⟨Nat.le_of_ble_eq_true rfl, Nat.le_of_ble_eq_true rfl⟩ rfl (Nat.le_of_ble_eq_true rfl) d_T_sleep_2 ⟨Nat.le_of_ble_eq_true rfl, Nat.le_of_ble_eq_true rfl⟩) ht9 (fun E h => h) ⟨Nat.le_of_ble_eq_true rfl, Nat.le_of_ble_eq_true rfl⟩ (fun u9 h9 => ?_)
  obtain ⟨q, hq, rfl, rfl⟩ := h9
  refine w_astore_n (lv2 := [(2, .ref (ad (4 + 4 * q))), (0, .ref (ad 0)), (1, .int (nI q))]) C d_T_sleep_5 rfl (by decide) rfl ?_
  refine w_aload_n C 0 d_T_sleep_6 rfl rfl ?_
  refine gN_D_asleep C (by omega) m_81 d_T_sleep_7 ?_
  refine w_if_ne C 17 d_T_sleep_10 (by decide) (fun h10 => ?_) (fun h10 => ?_)
  · skip
    refine w_iconst (v := 0) C d_T_sleep_17 rfl ?_
    refine w_istore_n (lv2 := [(3, .int 0), (2, .ref (ad (4 + 4 * q))), (0, .ref (ad 0)), (1, .int (nI q))]) C d_T_sleep_18 rfl (by decide) rfl ?_
    refine w_iload_n C 0 d_T_sleep_19 rfl rfl ?_
    refine w_if_eq_t C 36 d_T_sleep_20 (by decide) (by decide) ?_
    refine w_iload_n C 0 d_T_sleep_36 rfl rfl ?_
    refine w_widen (k2 := 1) (n2 := 6) (Nat.le_of_ble_eq_true rfl) (Nat.le_of_ble_eq_true rfl) ?_
    exact wx_zretT C hr (by first | exact Or.inl rfl | exact Or.inr rfl | exact b2i_01 _) d_T_sleep_37 (⟨q, hq, rfl, Or.inr ⟨h10, rfl, rfl⟩⟩)
  · skip
    refine w_iconst (v := 1) C d_T_sleep_13 rfl ?_
    refine w_goto C 18 d_T_sleep_14 (by decide) ?_
    refine w_istore_n (lv2 := [(3, .int 1), (2, .ref (ad (4 + 4 * q))), (0, .ref (ad 0)), (1, .int (nI q))]) C d_T_sleep_18 rfl (by decide) rfl ?_
    refine w_iload_n C 0 d_T_sleep_19 rfl rfl ?_
    refine w_if_eq_f C 36 d_T_sleep_20 (by decide) (by decide) ?_
    refine w_aload_n C 1 d_T_sleep_23 rfl rfl ?_
    refine w_iconst (v := 1) C d_T_sleep_24 rfl ?_
    refine pN_D_asleep C (by omega) (by first | exact Or.inl rfl | exact Or.inr rfl) m_81 d_T_sleep_25 ?_
    refine w_aload_n C 1 d_T_sleep_28 rfl rfl ?_
    refine w_aload_n C 1 d_T_sleep_29 rfl rfl ?_
    refine gN_D_latestVersion C (by omega) m_75 d_T_sleep_30 ?_
    refine pN_D_versionBeforeSleep C (by omega) m_78 d_T_sleep_33 ?_
    refine w_iload_n C 0 d_T_sleep_36 rfl rfl ?_
    refine w_widen (k2 := 1) (n2 := 6) (Nat.le_of_ble_eq_true rfl) (Nat.le_of_ble_eq_true rfl) ?_
    exact wx_zretT C hr (by first | exact Or.inl rfl | exact Or.inr rfl | exact b2i_01 _) d_T_sleep_37 (⟨q, hq, rfl, Or.inl ⟨h10, rfl, rfl⟩⟩)
set_option maxHeartbeats 4000000 in
set_option maxRecDepth 100000 in
theorem c_T_wake {l : Launch} {D : va_G} {cs : Nat → ClassId} {ad : Nat → Nat} {st mt : Nat → Nat → Int32} {ov : Nat → Int64} {p0 : Int32} (hl : l.stackTraces = false) : gX l y_T_wake b_T_wake 4 (some .int) ({ frames := 7, cells := 1, slots := 6, locals := 121 } : Room) 1 6 [.ref (ad 0), .int p0] D cs ad st mt ov (QTi D cs ad mt ov (fun r u => ∃ q, q < 8 ∧ p0 = nI q ∧ u = up2 st (4 + 4 * q) 7 0 ∧ r = st (4 + 4 * q) 4 - hearV st q)) (fun E => E = xO ∧ ¬ inR p0 8) := by
  refine gX_of (own := "TwinRegister") (by decide +kernel) rfl (Nat.le_of_ble_eq_true rfl) ?_
  intro p e s m args below meth c C hr ht9
  refine w_lv (lv2 := [(0, .ref (ad 0)), (1, .int p0)]) [0, 1] rfl ?_
  refine w_aload_n C 0 d_T_wake_0 rfl rfl ?_
  refine w_iload_n C 1 d_T_wake_1 rfl rfl ?_
  refine w_xcallTq C (w_runVX C (c_T_deviceAt hl) (by omega) e_T rfl rfl m_319 m_321 m_3 m_24 m_322 ⟨rfl, rfl⟩ hd_T_deviceAt rfl ⟨Nat.le_of_ble_eq_true rfl, Nat.le_of_ble_eq_true rfl⟩ rfl (Nat.le_of_ble_eq_true rfl) d_T_wake_2 ⟨Nat.le_of_ble_eq_true rfl, Nat.le_of_ble_eq_true rfl⟩) ht9 (fun E h => h) ⟨Nat.le_of_ble_eq_true rfl, Nat.le_of_ble_eq_true rfl⟩ (fun u9 h9 => ?_)
  obtain ⟨q, hq, rfl, rfl⟩ := h9
  refine w_astore_n (lv2 := [(2, .ref (ad (4 + 4 * q))), (0, .ref (ad 0)), (1, .int (nI q))]) C d_T_wake_5 rfl (by decide) rfl ?_
  refine w_aload_n C 0 d_T_wake_6 rfl rfl ?_
  refine gN_D_latestVersion C (by omega) m_75 d_T_wake_7 ?_
  refine w_aload_n C 0 d_T_wake_10 rfl rfl ?_
  refine w_callTi C (w_runVN C (c_D_heardVersion (by omega)) (by omega) (e_D (by omega)) rfl rfl m_434 m_436 m_14 m_26 m_437 ⟨rfl, rfl⟩ hd_D_heardVersion rfl ⟨Nat.le_of_ble_eq_true rfl, Nat.le_of_ble_eq_true rfl⟩ rfl (Nat.le_of_ble_eq_true rfl) d_T_wake_11 ⟨Nat.le_of_ble_eq_true rfl, Nat.le_of_ble_eq_true rfl⟩) (fun r11 u11 h11 => ?_)
  obtain ⟨rfl, h11⟩ := h11; have h11 := h11.symm; subst h11
  refine w_isub C d_T_wake_14 ?_
  refine w_istore_n (lv2 := [(3, .int _), (2, .ref (ad (4 + 4 * q))), (0, .ref (ad 0)), (1, .int (nI q))]) C d_T_wake_15 rfl (by decide) rfl ?_
  refine w_aload_n C 1 d_T_wake_16 rfl rfl ?_
  refine w_iconst (v := 0) C d_T_wake_17 rfl ?_
  refine pN_D_asleep C (by omega) (by first | exact Or.inl rfl | exact Or.inr rfl) m_81 d_T_wake_18 ?_
  refine w_iload_n C 0 d_T_wake_21 rfl rfl ?_
  refine w_widen (k2 := 1) (n2 := 6) (Nat.le_of_ble_eq_true rfl) (Nat.le_of_ble_eq_true rfl) ?_
  exact wx_iretT C hr d_T_wake_22 (⟨q, hq, rfl, rfl, rfl⟩)
set_option maxHeartbeats 4000000 in
set_option maxRecDepth 100000 in
theorem c_T_setGroup {l : Launch} {D : va_G} {cs : Nat → ClassId} {ad : Nat → Nat} {st mt : Nat → Nat → Int32} {ov : Nat → Int64} {p0 p1 p2 p3 : Int32} (hl : l.stackTraces = false) : gX l y_T_setGroup b_T_setGroup 6 (some .int) ({ frames := 8, cells := 4, slots := 24, locals := 141 } : Room) 4 24 [.ref (ad 0), .int p0, .int p1, .int p2, .int p3] D cs ad st mt ov (QTi D cs ad mt ov (fun r u => ∃ g k, g < 4 ∧ k < 12 ∧ p0 = nI g ∧ p1 = nI k ∧ rng p2 0 99 ∧ rng p3 p2 99 ∧ u = setF st g (nI k) p2 p3 ∧ r = bcI (memF u g k 8))) (fun E => (E = xO ∧ (¬ inR p0 4 ∨ ¬ inR p1 12)) ∨ (E = xA ∧ inR p0 4 ∧ inR p1 12 ∧ ¬ (rng p2 0 99 ∧ rng p3 p2 99))) := by
  refine gX_of (own := "TwinRegister") (by decide +kernel) rfl (Nat.le_of_ble_eq_true rfl) ?_
  intro p e s m args below meth c C hr ht9
  refine w_lv (lv2 := [(0, .ref (ad 0)), (1, .int p0), (2, .int p1), (3, .int p2), (4, .int p3)]) [0, 1, 2, 3, 4] rfl ?_
  refine w_aload_n C 0 d_T_setGroup_0 rfl rfl ?_
  refine w_iload_n C 1 d_T_setGroup_1 rfl rfl ?_
  refine w_xcallTq C (w_runVX C (c_T_groupAt hl) (by omega) e_T rfl rfl m_448 m_450 m_15 m_24 m_451 ⟨rfl, rfl⟩ hd_T_groupAt rfl ⟨Nat.le_of_ble_eq_true rfl, Nat.le_of_ble_eq_true rfl⟩ rfl (Nat.le_of_ble_eq_true rfl) d_T_setGroup_2 ⟨Nat.le_of_ble_eq_true rfl, Nat.le_of_ble_eq_true rfl⟩) ht9 (fun E h => Or.inl ⟨h.1, Or.inl h.2⟩) ⟨Nat.le_of_ble_eq_true rfl, Nat.le_of_ble_eq_true rfl⟩ (fun u9 h9 => ?_)
  obtain ⟨g, hg, rfl, rfl⟩ := h9
  refine w_astore (lv2 := [(5, .ref (ad (37 + g))), (0, .ref (ad 0)), (1, .int (nI g)), (2, .int p1), (3, .int p2), (4, .int p3)]) C d_T_setGroup_5 (by decide) rfl ?_
  refine w_iload_n C 3 d_T_setGroup_7 rfl rfl ?_
  refine w_xcallTv C (w_runSX C (c_T_requireLeaf hl) m_196 m_197 m_24 m_198 ⟨rfl, rfl⟩ hd_T_requireLeaf rfl ⟨Nat.le_of_ble_eq_true rfl, Nat.le_of_ble_eq_true rfl⟩ rfl (Nat.le_of_ble_eq_true rfl) d_T_setGroup_8 ⟨Nat.le_of_ble_eq_true rfl, Nat.le_of_ble_eq_true rfl⟩) ht9 (fun E h => Or.inl ⟨h.1, Or.inr h.2⟩) ⟨Nat.le_of_ble_eq_true rfl, Nat.le_of_ble_eq_true rfl⟩ (fun u9 h9 => ?_)
  obtain ⟨h9, k, hk, rfl⟩ := h9
  have h9 := h9.symm
  subst h9
  refine w_iload_n C 4 d_T_setGroup_11 rfl rfl ?_
  refine w_iconst (v := 0) C d_T_setGroup_12 rfl ?_
  refine w_bipush (v := 99) C d_T_setGroup_13 rfl ?_
  refine w_xcallTv C (w_runSX C (c_T_requireInRange hl) m_267 m_268 m_24 m_269 ⟨rfl, rfl⟩ hd_T_requireInRange rfl ⟨Nat.le_of_ble_eq_true rfl, Nat.le_of_ble_eq_true rfl⟩ rfl (Nat.le_of_ble_eq_true rfl) d_T_setGroup_15 ⟨Nat.le_of_ble_eq_true rfl, Nat.le_of_ble_eq_true rfl⟩) ht9 (fun E h => Or.inr ⟨h.1, inR_nI hg, inR_nI hk, fun z => rng_n h.2 z.1⟩) ⟨Nat.le_of_ble_eq_true rfl, Nat.le_of_ble_eq_true rfl⟩ (fun u9 h9 => ?_)
  obtain ⟨h9, r15⟩ := h9
  have h9 := h9.symm
  subst h9
  refine w_iload C 5 d_T_setGroup_18 rfl ?_
  refine w_iload_n C 4 d_T_setGroup_20 rfl rfl ?_
  refine w_bipush (v := 99) C d_T_setGroup_21 rfl ?_
  refine w_xcallTv C (w_runSX C (c_T_requireInRange hl) m_267 m_268 m_24 m_269 ⟨rfl, rfl⟩ hd_T_requireInRange rfl ⟨Nat.le_of_ble_eq_true rfl, Nat.le_of_ble_eq_true rfl⟩ rfl (Nat.le_of_ble_eq_true rfl) d_T_setGroup_23 ⟨Nat.le_of_ble_eq_true rfl, Nat.le_of_ble_eq_true rfl⟩) ht9 (fun E h => Or.inr ⟨h.1, inR_nI hg, inR_nI hk, fun z => rng_n h.2 z.2⟩) ⟨Nat.le_of_ble_eq_true rfl, Nat.le_of_ble_eq_true rfl⟩ (fun u9 h9 => ?_)
  obtain ⟨h9, r23⟩ := h9
  have h9 := h9.symm
  subst h9
  refine w_aload C 0 d_T_setGroup_26 rfl ?_
  refine w_iload_n C 3 d_T_setGroup_28 rfl rfl ?_
  refine pN_G_leaf C (by omega) m_107 d_T_setGroup_29 ?_
  refine w_aload C 0 d_T_setGroup_32 rfl ?_
  refine w_iload_n C 4 d_T_setGroup_34 rfl rfl ?_
  refine pN_G_low C (by omega) m_109 d_T_setGroup_35 ?_
  refine w_aload C 0 d_T_setGroup_38 rfl ?_
  refine w_iload C 5 d_T_setGroup_40 rfl ?_
  refine pN_G_high C (by omega) m_111 d_T_setGroup_42 ?_
  have hgl : setF st g (nI k) p2 p3 (37 + g) 0 = nI k := by simp [setF, up2_at]
  refine w_st (st2 := setF st g (nI k) p2 p3) rfl ?_
  refine w_aload_n C 1 d_T_setGroup_45 rfl rfl ?_
  refine w_aload C 0 d_T_setGroup_46 rfl ?_
  refine w_callTi C (w_runV C (c_T_membersOf (k := k) hg hk hgl) (by omega) e_T rfl rfl m_456 m_458 m_16 m_24 m_459 ⟨rfl, rfl⟩ hd_T_membersOf rfl ⟨Nat.le_of_ble_eq_true rfl, Nat.le_of_ble_eq_true rfl⟩ rfl (Nat.le_of_ble_eq_true rfl) d_T_setGroup_48 ⟨Nat.le_of_ble_eq_true rfl, Nat.le_of_ble_eq_true rfl⟩) (fun r9 u9 h9 => ?_)
  obtain ⟨rfl, h9⟩ := h9
  have h9 := h9.symm
  subst h9
  refine w_callTi C (w_runS C (c_I_bitCount ) m_384 m_295 m_34 m_296 ⟨rfl, rfl⟩ hd_I_bitCount rfl ⟨Nat.le_of_ble_eq_true rfl, Nat.le_of_ble_eq_true rfl⟩ rfl (Nat.le_of_ble_eq_true rfl) d_T_setGroup_51 ⟨Nat.le_of_ble_eq_true rfl, Nat.le_of_ble_eq_true rfl⟩) (fun r51 u51 h51 => ?_)
  obtain ⟨rfl, h51⟩ := h51; have h51 := h51.symm; subst h51
  refine w_widen (k2 := 4) (n2 := 24) (Nat.le_of_ble_eq_true rfl) (Nat.le_of_ble_eq_true rfl) ?_
  exact wx_iretT C hr d_T_setGroup_54 (⟨g, k, hg, hk, rfl, rfl, r15, r23, rfl, rfl⟩)
set_option maxHeartbeats 4000000 in
set_option maxRecDepth 100000 in
theorem c_T_addJob {l : Launch} {D : va_G} {cs : Nat → ClassId} {ad : Nat → Nat} {st mt : Nat → Nat → Int32} {ov : Nat → Int64} {p0 p1 p2 p3 p4 : Int32} {jc : Nat} (hjc : jc ≤ 8) (hj0 : st 0 4 = nI jc) (hl : l.stackTraces = false) : gX l y_T_addJob b_T_addJob 7 (some .int) ({ frames := 7, cells := 6, slots := 36, locals := 122 } : Room) 6 36 [.ref (ad 0), .int p0, .int p1, .int p2, .int p3, .int p4] D cs ad st mt ov (QTi D cs ad mt ov (fun r u => ∃ g k, g < 4 ∧ k < 12 ∧ jc < 8 ∧ p0 = nI g ∧ p1 = nI k ∧ goodJ p2 p3 p4 ∧ u = incJ (adjF st jc (nI g) (nI k) p2 p3 p4) ∧ r = u 0 4 - 1)) (fun E => (E = xO ∧ (¬ inR p0 4 ∨ ¬ inR p1 12)) ∨ (E = xA ∧ inR p0 4 ∧ inR p1 12 ∧ ¬ goodJ p2 p3 p4) ∨ (E = xS ∧ inR p0 4 ∧ inR p1 12 ∧ goodJ p2 p3 p4 ∧ jc = 8)) := by
  refine gX_of (own := "TwinRegister") (by decide +kernel) rfl (Nat.le_of_ble_eq_true rfl) ?_
  intro p e s m args below meth c C hr ht9
  refine w_lv (lv2 := [(0, .ref (ad 0)), (1, .int p0), (2, .int p1), (3, .int p2), (4, .int p3), (5, .int p4)]) [0, 1, 2, 3, 4, 5] rfl ?_
  refine w_iload_n C 1 d_T_addJob_0 rfl rfl ?_
  refine w_xcallTv C (w_runSX C (c_T_requireGroup hl) m_452 m_453 m_24 m_454 ⟨rfl, rfl⟩ hd_T_requireGroup rfl ⟨Nat.le_of_ble_eq_true rfl, Nat.le_of_ble_eq_true rfl⟩ rfl (Nat.le_of_ble_eq_true rfl) d_T_addJob_1 ⟨Nat.le_of_ble_eq_true rfl, Nat.le_of_ble_eq_true rfl⟩) ht9 (fun E h => Or.inl ⟨h.1, Or.inl h.2⟩) ⟨Nat.le_of_ble_eq_true rfl, Nat.le_of_ble_eq_true rfl⟩ (fun u9 h9 => ?_)
  obtain ⟨h9, g, hg, rfl⟩ := h9
  have h9 := h9.symm
  subst h9
  refine w_iload_n C 2 d_T_addJob_4 rfl rfl ?_
  refine w_xcallTv C (w_runSX C (c_T_requireLeaf hl) m_196 m_197 m_24 m_198 ⟨rfl, rfl⟩ hd_T_requireLeaf rfl ⟨Nat.le_of_ble_eq_true rfl, Nat.le_of_ble_eq_true rfl⟩ rfl (Nat.le_of_ble_eq_true rfl) d_T_addJob_5 ⟨Nat.le_of_ble_eq_true rfl, Nat.le_of_ble_eq_true rfl⟩) ht9 (fun E h => Or.inl ⟨h.1, Or.inr h.2⟩) ⟨Nat.le_of_ble_eq_true rfl, Nat.le_of_ble_eq_true rfl⟩ (fun u9 h9 => ?_)
  obtain ⟨h9, k, hk, rfl⟩ := h9
  have h9 := h9.symm
  subst h9
  refine w_iload_n C 3 d_T_addJob_8 rfl rfl ?_
  refine w_iconst (v := 0) C d_T_addJob_9 rfl ?_
  refine w_bipush (v := 99) C d_T_addJob_10 rfl ?_
  refine w_xcallTv C (w_runSX C (c_T_requireInRange hl) m_267 m_268 m_24 m_269 ⟨rfl, rfl⟩ hd_T_requireInRange rfl ⟨Nat.le_of_ble_eq_true rfl, Nat.le_of_ble_eq_true rfl⟩ rfl (Nat.le_of_ble_eq_true rfl) d_T_addJob_12 ⟨Nat.le_of_ble_eq_true rfl, Nat.le_of_ble_eq_true rfl⟩) ht9 (fun E h => Or.inr (Or.inl ⟨h.1, inR_nI hg, inR_nI hk, fun z => rng_n h.2 z.1⟩)) ⟨Nat.le_of_ble_eq_true rfl, Nat.le_of_ble_eq_true rfl⟩ (fun u9 h9 => ?_)
  obtain ⟨h9, r12⟩ := h9
  have h9 := h9.symm
  subst h9
  refine w_iload C 4 d_T_addJob_15 rfl ?_
  refine w_iconst (v := 1) C d_T_addJob_17 rfl ?_
  refine w_bipush (v := 8) C d_T_addJob_18 rfl ?_
  refine w_xcallTv C (w_runSX C (c_T_requireInRange hl) m_267 m_268 m_24 m_269 ⟨rfl, rfl⟩ hd_T_requireInRange rfl ⟨Nat.le_of_ble_eq_true rfl, Nat.le_of_ble_eq_true rfl⟩ rfl (Nat.le_of_ble_eq_true rfl) d_T_addJob_20 ⟨Nat.le_of_ble_eq_true rfl, Nat.le_of_ble_eq_true rfl⟩) ht9 (fun E h => Or.inr (Or.inl ⟨h.1, inR_nI hg, inR_nI hk, fun z => rng_n h.2 z.2.1⟩)) ⟨Nat.le_of_ble_eq_true rfl, Nat.le_of_ble_eq_true rfl⟩ (fun u9 h9 => ?_)
  obtain ⟨h9, r20⟩ := h9
  have h9 := h9.symm
  subst h9
  refine w_iload C 5 d_T_addJob_23 rfl ?_
  refine w_iconst (v := 1) C d_T_addJob_25 rfl ?_
  refine w_bipush (v := 8) C d_T_addJob_26 rfl ?_
  refine w_xcallTv C (w_runSX C (c_T_requireInRange hl) m_267 m_268 m_24 m_269 ⟨rfl, rfl⟩ hd_T_requireInRange rfl ⟨Nat.le_of_ble_eq_true rfl, Nat.le_of_ble_eq_true rfl⟩ rfl (Nat.le_of_ble_eq_true rfl) d_T_addJob_28 ⟨Nat.le_of_ble_eq_true rfl, Nat.le_of_ble_eq_true rfl⟩) ht9 (fun E h => Or.inr (Or.inl ⟨h.1, inR_nI hg, inR_nI hk, fun z => rng_n h.2 z.2.2⟩)) ⟨Nat.le_of_ble_eq_true rfl, Nat.le_of_ble_eq_true rfl⟩ (fun u9 h9 => ?_)
  obtain ⟨h9, r28⟩ := h9
  have h9 := h9.symm
  subst h9
  refine w_aload_n C 0 d_T_addJob_31 rfl rfl ?_
  refine g_T_jobCount C m_162 d_T_addJob_32 ?_
  refine w_topi (y := (nI jc)) (hj0) ?_
  refine w_bipush (v := 8) C d_T_addJob_35 rfl ?_
  refine w_icmp_lt C 50 d_T_addJob_37 (by decide) (fun h37 => ?_) (fun h37 => ?_)
  · skip
    have hjc8 : jc < 8 := (nI_ltI (a := jc) (b := 8) (by omega) (by decide)).mp h37
    refine w_aload_n C 0 d_T_addJob_50 rfl rfl ?_
    refine g_T_jobRows C m_161 d_T_addJob_51 ?_
    refine w_aload_n C 0 d_T_addJob_54 rfl rfl ?_
    refine g_T_jobCount C m_162 d_T_addJob_55 ?_
    refine w_topi (y := (nI jc)) (hj0) ?_
    refine aa_JR C rfl (by omega) d_T_addJob_58 ?_
    refine w_astore (lv2 := [(6, .ref (ad (42 + jc))), (0, .ref (ad 0)), (1, .int (nI g)), (2, .int (nI k)), (3, .int p2), (4, .int p3), (5, .int p4)]) C d_T_addJob_59 (by decide) rfl ?_
    refine w_aload C 0 d_T_addJob_61 rfl ?_
    refine w_iload_n C 2 d_T_addJob_63 rfl rfl ?_
    refine pN_J_group C (by omega) m_126 d_T_addJob_64 ?_
    refine w_aload C 0 d_T_addJob_67 rfl ?_
    refine w_iload_n C 3 d_T_addJob_69 rfl rfl ?_
    refine pN_J_leaf C (by omega) m_127 d_T_addJob_70 ?_
    refine w_aload C 0 d_T_addJob_73 rfl ?_
    refine w_iload_n C 4 d_T_addJob_75 rfl rfl ?_
    refine pN_J_value C (by omega) m_128 d_T_addJob_76 ?_
    refine w_aload C 0 d_T_addJob_79 rfl ?_
    refine w_iload C 5 d_T_addJob_81 rfl ?_
    refine pN_J_rate C (by omega) m_129 d_T_addJob_83 ?_
    refine w_aload C 0 d_T_addJob_86 rfl ?_
    refine w_iload C 6 d_T_addJob_88 rfl ?_
    refine pN_J_bound C (by omega) m_130 d_T_addJob_90 ?_
    refine w_aload_n C 1 d_T_addJob_93 rfl rfl ?_
    refine w_dup C d_T_addJob_94 rfl ?_
    refine g_T_jobCount C m_162 d_T_addJob_95 ?_
    refine w_iconst (v := 1) C d_T_addJob_98 rfl ?_
    refine w_iadd C d_T_addJob_99 ?_
    refine p_T_jobCount C m_162 d_T_addJob_100 ?_
    refine w_aload_n C 1 d_T_addJob_103 rfl rfl ?_
    refine g_T_jobCount C m_162 d_T_addJob_104 ?_
    refine w_iconst (v := 1) C d_T_addJob_107 rfl ?_
    refine w_isub C d_T_addJob_108 ?_
    refine w_widen (k2 := 6) (n2 := 36) (Nat.le_of_ble_eq_true rfl) (Nat.le_of_ble_eq_true rfl) ?_
    exact wx_iretT C hr d_T_addJob_109 (⟨g, k, hg, hk, hjc8, rfl, rfl, ⟨r12, r20, r28⟩, rfl, rfl⟩)
  · skip
    exact w_throwS (names := ["java/lang/RuntimeException", "java/lang/Exception"]) (text := "there are as many jobs as there can be") C hl ht9 (by decide +kernel) hfit m_324 m_35 (by decide +kernel) hat_S d_T_addJob_40 d_T_addJob_43 d_T_addJob_44 d_T_addJob_46 d_T_addJob_49 ⟨by decide, Nat.le_of_ble_eq_true rfl, Nat.le_of_ble_eq_true rfl, Nat.le_of_ble_eq_true rfl⟩ ⟨Nat.le_of_ble_eq_true rfl, Nat.le_of_ble_eq_true rfl⟩ (Or.inr (Or.inr ⟨rfl, inR_nI hg, inR_nI hk, ⟨r12, r20, r28⟩, by rcases Nat.lt_or_ge jc 8 with z | z <;> first | exact absurd (nI_lt (a := jc) (b := 8) z (by decide)) h37 | omega⟩))
set_option maxHeartbeats 4000000 in
set_option maxRecDepth 100000 in
theorem c_T_cancel {l : Launch} {D : va_G} {cs : Nat → ClassId} {ad : Nat → Nat} {st mt : Nat → Nat → Int32} {ov : Nat → Int64} {p0 : Int32} {jc : Nat} (hjc : jc ≤ 8) (hj0 : st 0 4 = nI jc) (hl : l.stackTraces = false) : gX l y_T_cancel b_T_cancel 3 (some .int) ({ frames := 7, cells := 2, slots := 12, locals := 121 } : Room) 2 12 [.ref (ad 0), .int p0] D cs ad st mt ov (QTi D cs ad mt ov (fun r u => ∃ j, j < jc ∧ p0 = nI j ∧ st (42 + j) 5 = 0 ∧ u = up2 st (42 + j) 5 2 ∧ r = bcI (opnJ u j))) (fun E => (E = xO ∧ ¬ inR p0 jc) ∨ (E = xS ∧ ∃ j, j < jc ∧ p0 = nI j ∧ ¬ st (42 + j) 5 = 0)) := by
  refine gX_of (own := "TwinRegister") (by decide +kernel) rfl (Nat.le_of_ble_eq_true rfl) ?_
  intro p e s m args below meth c C hr ht9
  refine w_lv (lv2 := [(0, .ref (ad 0)), (1, .int p0)]) [0, 1] rfl ?_
  refine w_aload_n C 0 d_T_cancel_0 rfl rfl ?_
  refine w_iload_n C 1 d_T_cancel_1 rfl rfl ?_
  refine w_xcallTq C (w_runVX C (c_T_jobAt hjc hj0 hl) (by omega) e_T rfl rfl m_506 m_508 m_22 m_24 m_509 ⟨rfl, rfl⟩ hd_T_jobAt rfl ⟨Nat.le_of_ble_eq_true rfl, Nat.le_of_ble_eq_true rfl⟩ rfl (Nat.le_of_ble_eq_true rfl) d_T_cancel_2 ⟨Nat.le_of_ble_eq_true rfl, Nat.le_of_ble_eq_true rfl⟩) ht9 (fun E h => Or.inl h) ⟨Nat.le_of_ble_eq_true rfl, Nat.le_of_ble_eq_true rfl⟩ (fun u9 h9 => ?_)
  obtain ⟨j, hj, rfl, rfl⟩ := h9
  have hj8 : j < 8 := by omega
  refine w_astore_n (lv2 := [(2, .ref (ad (42 + j))), (0, .ref (ad 0)), (1, .int (nI j))]) C d_T_cancel_5 rfl (by decide) rfl ?_
  refine w_aload_n C 0 d_T_cancel_6 rfl rfl ?_
  refine gN_J_condition C (by omega) m_132 d_T_cancel_7 ?_
  refine w_if_eq C 23 d_T_cancel_10 (by decide) (fun h10 => ?_) (fun h10 => ?_)
  · skip
    refine w_aload_n C 0 d_T_cancel_23 rfl rfl ?_
    refine w_iconst (v := 2) C d_T_cancel_24 rfl ?_
    refine pN_J_condition C (by omega) m_132 d_T_cancel_25 ?_
    refine w_aload_n C 0 d_T_cancel_28 rfl rfl ?_
    refine w_callTi C (w_runVN C (c_J_open (by omega)) (by omega) (e_J (by omega)) rfl rfl m_488 m_490 m_20 m_28 m_491 ⟨rfl, rfl⟩ hd_J_open rfl ⟨Nat.le_of_ble_eq_true rfl, Nat.le_of_ble_eq_true rfl⟩ rfl (Nat.le_of_ble_eq_true rfl) d_T_cancel_29 ⟨Nat.le_of_ble_eq_true rfl, Nat.le_of_ble_eq_true rfl⟩) (fun r29 u29 h29 => ?_)
    obtain ⟨rfl, h29⟩ := h29; have h29 := h29.symm; subst h29
    refine w_callTi C (w_runS C (c_I_bitCount ) m_384 m_295 m_34 m_296 ⟨rfl, rfl⟩ hd_I_bitCount rfl ⟨Nat.le_of_ble_eq_true rfl, Nat.le_of_ble_eq_true rfl⟩ rfl (Nat.le_of_ble_eq_true rfl) d_T_cancel_32 ⟨Nat.le_of_ble_eq_true rfl, Nat.le_of_ble_eq_true rfl⟩) (fun r32 u32 h32 => ?_)
    obtain ⟨rfl, h32⟩ := h32; have h32 := h32.symm; subst h32
    refine w_widen (k2 := 2) (n2 := 12) (Nat.le_of_ble_eq_true rfl) (Nat.le_of_ble_eq_true rfl) ?_
    exact wx_iretT C hr d_T_cancel_35 (⟨j, hj, rfl, h10, rfl, rfl⟩)
  · skip
    exact w_throwS (names := ["java/lang/RuntimeException", "java/lang/Exception"]) (text := "the job is not running") C hl ht9 (by decide +kernel) hfit m_324 m_35 (by decide +kernel) hat_S d_T_cancel_13 d_T_cancel_16 d_T_cancel_17 d_T_cancel_19 d_T_cancel_22 ⟨by decide, Nat.le_of_ble_eq_true rfl, Nat.le_of_ble_eq_true rfl, Nat.le_of_ble_eq_true rfl⟩ ⟨Nat.le_of_ble_eq_true rfl, Nat.le_of_ble_eq_true rfl⟩ (Or.inr ⟨rfl, j, hj, rfl, h10⟩)
set_option maxHeartbeats 4000000 in
set_option maxRecDepth 100000 in
theorem c_T_version {l : Launch} {D : va_G} {cs : Nat → ClassId} {ad : Nat → Nat} {st mt : Nat → Nat → Int32} {ov : Nat → Int64} {p0 : Int32} (hl : l.stackTraces = false) : gX l y_T_version b_T_version 2 (some .int) ({ frames := 7, cells := 1, slots := 6, locals := 121 } : Room) 1 6 [.ref (ad 0), .int p0] D cs ad st mt ov (QTi D cs ad mt ov (fun r u => ∃ q, q < 8 ∧ p0 = nI q ∧ u = st ∧ r = st (4 + 4 * q) 4)) (fun E => E = xO ∧ ¬ inR p0 8) := by
  refine gX_of (own := "TwinRegister") (by decide +kernel) rfl (Nat.le_of_ble_eq_true rfl) ?_
  intro p e s m args below meth c C hr ht9
  refine w_lv (lv2 := [(0, .ref (ad 0)), (1, .int p0)]) [0, 1] rfl ?_
  refine w_aload_n C 0 d_T_version_0 rfl rfl ?_
  refine w_iload_n C 1 d_T_version_1 rfl rfl ?_
  refine w_xcallTq C (w_runVX C (c_T_deviceAt hl) (by omega) e_T rfl rfl m_319 m_321 m_3 m_24 m_322 ⟨rfl, rfl⟩ hd_T_deviceAt rfl ⟨Nat.le_of_ble_eq_true rfl, Nat.le_of_ble_eq_true rfl⟩ rfl (Nat.le_of_ble_eq_true rfl) d_T_version_2 ⟨Nat.le_of_ble_eq_true rfl, Nat.le_of_ble_eq_true rfl⟩) ht9 (fun E h => h) ⟨Nat.le_of_ble_eq_true rfl, Nat.le_of_ble_eq_true rfl⟩ (fun u9 h9 => ?_)
  obtain ⟨q, hq, rfl, rfl⟩ := h9
  refine gN_D_latestVersion C (by omega) m_75 d_T_version_5 ?_
  refine w_widen (k2 := 1) (n2 := 6) (Nat.le_of_ble_eq_true rfl) (Nat.le_of_ble_eq_true rfl) ?_
  exact wx_iretT C hr d_T_version_8 (⟨q, hq, rfl, rfl, rfl⟩)
set_option maxHeartbeats 4000000 in
set_option maxRecDepth 100000 in
theorem c_T_heard {l : Launch} {D : va_G} {cs : Nat → ClassId} {ad : Nat → Nat} {st mt : Nat → Nat → Int32} {ov : Nat → Int64} {p0 : Int32} (hl : l.stackTraces = false) : gX l y_T_heard b_T_heard 2 (some .int) ({ frames := 7, cells := 1, slots := 6, locals := 121 } : Room) 1 6 [.ref (ad 0), .int p0] D cs ad st mt ov (QTi D cs ad mt ov (fun r u => ∃ q, q < 8 ∧ p0 = nI q ∧ u = st ∧ r = hearV st q)) (fun E => E = xO ∧ ¬ inR p0 8) := by
  refine gX_of (own := "TwinRegister") (by decide +kernel) rfl (Nat.le_of_ble_eq_true rfl) ?_
  intro p e s m args below meth c C hr ht9
  refine w_lv (lv2 := [(0, .ref (ad 0)), (1, .int p0)]) [0, 1] rfl ?_
  refine w_aload_n C 0 d_T_heard_0 rfl rfl ?_
  refine w_iload_n C 1 d_T_heard_1 rfl rfl ?_
  refine w_xcallTq C (w_runVX C (c_T_deviceAt hl) (by omega) e_T rfl rfl m_319 m_321 m_3 m_24 m_322 ⟨rfl, rfl⟩ hd_T_deviceAt rfl ⟨Nat.le_of_ble_eq_true rfl, Nat.le_of_ble_eq_true rfl⟩ rfl (Nat.le_of_ble_eq_true rfl) d_T_heard_2 ⟨Nat.le_of_ble_eq_true rfl, Nat.le_of_ble_eq_true rfl⟩) ht9 (fun E h => h) ⟨Nat.le_of_ble_eq_true rfl, Nat.le_of_ble_eq_true rfl⟩ (fun u9 h9 => ?_)
  obtain ⟨q, hq, rfl, rfl⟩ := h9
  refine w_callTi C (w_runVN C (c_D_heardVersion (by omega)) (by omega) (e_D (by omega)) rfl rfl m_434 m_436 m_14 m_26 m_437 ⟨rfl, rfl⟩ hd_D_heardVersion rfl ⟨Nat.le_of_ble_eq_true rfl, Nat.le_of_ble_eq_true rfl⟩ rfl (Nat.le_of_ble_eq_true rfl) d_T_heard_5 ⟨Nat.le_of_ble_eq_true rfl, Nat.le_of_ble_eq_true rfl⟩) (fun r5 u5 h5 => ?_)
  obtain ⟨rfl, h5⟩ := h5; have h5 := h5.symm; subst h5
  refine w_widen (k2 := 1) (n2 := 6) (Nat.le_of_ble_eq_true rfl) (Nat.le_of_ble_eq_true rfl) ?_
  exact wx_iretT C hr d_T_heard_8 (⟨q, hq, rfl, rfl, rfl⟩)
set_option maxHeartbeats 4000000 in
set_option maxRecDepth 100000 in
theorem c_T_wished {l : Launch} {D : va_G} {cs : Nat → ClassId} {ad : Nat → Nat} {st mt : Nat → Nat → Int32} {ov : Nat → Int64} {p0 p1 : Int32} (hl : l.stackTraces = false) : gX l y_T_wished b_T_wished 4 (some .int) ({ frames := 7, cells := 2, slots := 12, locals := 121 } : Room) 2 12 [.ref (ad 0), .int p0, .int p1] D cs ad st mt ov (QTi D cs ad mt ov (fun r u => ∃ q k, q < 8 ∧ k < 12 ∧ p0 = nI q ∧ p1 = nI k ∧ u = st ∧ r = st (4 + 4 * q + 1) k)) (fun E => E = xO ∧ (¬ inR p0 8 ∨ ¬ inR p1 12)) := by
  refine gX_of (own := "TwinRegister") (by decide +kernel) rfl (Nat.le_of_ble_eq_true rfl) ?_
  intro p e s m args below meth c C hr ht9
  refine w_lv (lv2 := [(0, .ref (ad 0)), (1, .int p0), (2, .int p1)]) [0, 1, 2] rfl ?_
  refine w_aload_n C 0 d_T_wished_0 rfl rfl ?_
  refine w_iload_n C 1 d_T_wished_1 rfl rfl ?_
  refine w_xcallTq C (w_runVX C (c_T_deviceAt hl) (by omega) e_T rfl rfl m_319 m_321 m_3 m_24 m_322 ⟨rfl, rfl⟩ hd_T_deviceAt rfl ⟨Nat.le_of_ble_eq_true rfl, Nat.le_of_ble_eq_true rfl⟩ rfl (Nat.le_of_ble_eq_true rfl) d_T_wished_2 ⟨Nat.le_of_ble_eq_true rfl, Nat.le_of_ble_eq_true rfl⟩) ht9 (fun E h => ⟨h.1, Or.inl h.2⟩) ⟨Nat.le_of_ble_eq_true rfl, Nat.le_of_ble_eq_true rfl⟩ (fun u9 h9 => ?_)
  obtain ⟨q, hq, rfl, rfl⟩ := h9
  refine w_astore_n (lv2 := [(3, .ref (ad (4 + 4 * q))), (0, .ref (ad 0)), (1, .int (nI q)), (2, .int p1)]) C d_T_wished_5 rfl (by decide) rfl ?_
  refine w_iload_n C 3 d_T_wished_6 rfl rfl ?_
  refine w_xcallTv C (w_runSX C (c_T_requireLeaf hl) m_196 m_197 m_24 m_198 ⟨rfl, rfl⟩ hd_T_requireLeaf rfl ⟨Nat.le_of_ble_eq_true rfl, Nat.le_of_ble_eq_true rfl⟩ rfl (Nat.le_of_ble_eq_true rfl) d_T_wished_7 ⟨Nat.le_of_ble_eq_true rfl, Nat.le_of_ble_eq_true rfl⟩) ht9 (fun E h => ⟨h.1, Or.inr h.2⟩) ⟨Nat.le_of_ble_eq_true rfl, Nat.le_of_ble_eq_true rfl⟩ (fun u9 h9 => ?_)
  obtain ⟨h9, k, hk, rfl⟩ := h9
  have h9 := h9.symm
  subst h9
  refine w_aload_n C 0 d_T_wished_10 rfl rfl ?_
  refine gN_D_wishedValues C (by omega) m_67 d_T_wished_11 ?_
  refine w_iload_n C 3 d_T_wished_14 rfl rfl ?_
  refine ia_DV C (by omega) (by omega) rfl (by omega) d_T_wished_15 ?_
  refine w_widen (k2 := 2) (n2 := 12) (Nat.le_of_ble_eq_true rfl) (Nat.le_of_ble_eq_true rfl) ?_
  exact wx_iretT C hr d_T_wished_16 (⟨q, k, hq, hk, rfl, rfl, rfl, rfl⟩)
set_option maxHeartbeats 4000000 in
set_option maxRecDepth 100000 in
theorem c_T_reported {l : Launch} {D : va_G} {cs : Nat → ClassId} {ad : Nat → Nat} {st mt : Nat → Nat → Int32} {ov : Nat → Int64} {p0 p1 : Int32} (hl : l.stackTraces = false) : gX l y_T_reported b_T_reported 4 (some .int) ({ frames := 7, cells := 2, slots := 12, locals := 121 } : Room) 2 12 [.ref (ad 0), .int p0, .int p1] D cs ad st mt ov (QTi D cs ad mt ov (fun r u => ∃ q k, q < 8 ∧ k < 12 ∧ p0 = nI q ∧ p1 = nI k ∧ u = st ∧ r = st (4 + 4 * q + 2) k)) (fun E => E = xO ∧ (¬ inR p0 8 ∨ ¬ inR p1 12)) := by
  refine gX_of (own := "TwinRegister") (by decide +kernel) rfl (Nat.le_of_ble_eq_true rfl) ?_
  intro p e s m args below meth c C hr ht9
  refine w_lv (lv2 := [(0, .ref (ad 0)), (1, .int p0), (2, .int p1)]) [0, 1, 2] rfl ?_
  refine w_aload_n C 0 d_T_reported_0 rfl rfl ?_
  refine w_iload_n C 1 d_T_reported_1 rfl rfl ?_
  refine w_xcallTq C (w_runVX C (c_T_deviceAt hl) (by omega) e_T rfl rfl m_319 m_321 m_3 m_24 m_322 ⟨rfl, rfl⟩ hd_T_deviceAt rfl ⟨Nat.le_of_ble_eq_true rfl, Nat.le_of_ble_eq_true rfl⟩ rfl (Nat.le_of_ble_eq_true rfl) d_T_reported_2 ⟨Nat.le_of_ble_eq_true rfl, Nat.le_of_ble_eq_true rfl⟩) ht9 (fun E h => ⟨h.1, Or.inl h.2⟩) ⟨Nat.le_of_ble_eq_true rfl, Nat.le_of_ble_eq_true rfl⟩ (fun u9 h9 => ?_)
  obtain ⟨q, hq, rfl, rfl⟩ := h9
  refine w_astore_n (lv2 := [(3, .ref (ad (4 + 4 * q))), (0, .ref (ad 0)), (1, .int (nI q)), (2, .int p1)]) C d_T_reported_5 rfl (by decide) rfl ?_
  refine w_iload_n C 3 d_T_reported_6 rfl rfl ?_
  refine w_xcallTv C (w_runSX C (c_T_requireLeaf hl) m_196 m_197 m_24 m_198 ⟨rfl, rfl⟩ hd_T_requireLeaf rfl ⟨Nat.le_of_ble_eq_true rfl, Nat.le_of_ble_eq_true rfl⟩ rfl (Nat.le_of_ble_eq_true rfl) d_T_reported_7 ⟨Nat.le_of_ble_eq_true rfl, Nat.le_of_ble_eq_true rfl⟩) ht9 (fun E h => ⟨h.1, Or.inr h.2⟩) ⟨Nat.le_of_ble_eq_true rfl, Nat.le_of_ble_eq_true rfl⟩ (fun u9 h9 => ?_)
  obtain ⟨h9, k, hk, rfl⟩ := h9
  have h9 := h9.symm
  subst h9
  refine w_aload_n C 0 d_T_reported_10 rfl rfl ?_
  refine gN_D_reportedValues C (by omega) m_70 d_T_reported_11 ?_
  refine w_iload_n C 3 d_T_reported_14 rfl rfl ?_
  refine ia_DV C (by omega) (by omega) rfl (by omega) d_T_reported_15 ?_
  refine w_widen (k2 := 2) (n2 := 12) (Nat.le_of_ble_eq_true rfl) (Nat.le_of_ble_eq_true rfl) ?_
  exact wx_iretT C hr d_T_reported_16 (⟨q, k, hq, hk, rfl, rfl, rfl, rfl⟩)
set_option maxHeartbeats 4000000 in
set_option maxRecDepth 100000 in
theorem c_T_why {l : Launch} {D : va_G} {cs : Nat → ClassId} {ad : Nat → Nat} {st mt : Nat → Nat → Int32} {ov : Nat → Int64} {p0 p1 : Int32} (hl : l.stackTraces = false) : gX l y_T_why b_T_why 4 (some .int) ({ frames := 7, cells := 2, slots := 12, locals := 121 } : Room) 2 12 [.ref (ad 0), .int p0, .int p1] D cs ad st mt ov (QTi D cs ad mt ov (fun r u => ∃ q k, q < 8 ∧ k < 12 ∧ p0 = nI q ∧ p1 = nI k ∧ u = st ∧ r = st (4 + 4 * q + 3) k)) (fun E => E = xO ∧ (¬ inR p0 8 ∨ ¬ inR p1 12)) := by
  refine gX_of (own := "TwinRegister") (by decide +kernel) rfl (Nat.le_of_ble_eq_true rfl) ?_
  intro p e s m args below meth c C hr ht9
  refine w_lv (lv2 := [(0, .ref (ad 0)), (1, .int p0), (2, .int p1)]) [0, 1, 2] rfl ?_
  refine w_aload_n C 0 d_T_why_0 rfl rfl ?_
  refine w_iload_n C 1 d_T_why_1 rfl rfl ?_
  refine w_xcallTq C (w_runVX C (c_T_deviceAt hl) (by omega) e_T rfl rfl m_319 m_321 m_3 m_24 m_322 ⟨rfl, rfl⟩ hd_T_deviceAt rfl ⟨Nat.le_of_ble_eq_true rfl, Nat.le_of_ble_eq_true rfl⟩ rfl (Nat.le_of_ble_eq_true rfl) d_T_why_2 ⟨Nat.le_of_ble_eq_true rfl, Nat.le_of_ble_eq_true rfl⟩) ht9 (fun E h => ⟨h.1, Or.inl h.2⟩) ⟨Nat.le_of_ble_eq_true rfl, Nat.le_of_ble_eq_true rfl⟩ (fun u9 h9 => ?_)
  obtain ⟨q, hq, rfl, rfl⟩ := h9
  refine w_astore_n (lv2 := [(3, .ref (ad (4 + 4 * q))), (0, .ref (ad 0)), (1, .int (nI q)), (2, .int p1)]) C d_T_why_5 rfl (by decide) rfl ?_
  refine w_iload_n C 3 d_T_why_6 rfl rfl ?_
  refine w_xcallTv C (w_runSX C (c_T_requireLeaf hl) m_196 m_197 m_24 m_198 ⟨rfl, rfl⟩ hd_T_requireLeaf rfl ⟨Nat.le_of_ble_eq_true rfl, Nat.le_of_ble_eq_true rfl⟩ rfl (Nat.le_of_ble_eq_true rfl) d_T_why_7 ⟨Nat.le_of_ble_eq_true rfl, Nat.le_of_ble_eq_true rfl⟩) ht9 (fun E h => ⟨h.1, Or.inr h.2⟩) ⟨Nat.le_of_ble_eq_true rfl, Nat.le_of_ble_eq_true rfl⟩ (fun u9 h9 => ?_)
  obtain ⟨h9, k, hk, rfl⟩ := h9
  have h9 := h9.symm
  subst h9
  refine w_aload_n C 0 d_T_why_10 rfl rfl ?_
  refine gN_D_reasons C (by omega) m_72 d_T_why_11 ?_
  refine w_iload_n C 3 d_T_why_14 rfl rfl ?_
  refine ia_DV C (by omega) (by omega) rfl (by omega) d_T_why_15 ?_
  refine w_widen (k2 := 2) (n2 := 12) (Nat.le_of_ble_eq_true rfl) (Nat.le_of_ble_eq_true rfl) ?_
  exact wx_iretT C hr d_T_why_16 (⟨q, k, hq, hk, rfl, rfl, rfl, rfl⟩)
set_option maxHeartbeats 4000000 in
set_option maxRecDepth 100000 in
theorem c_T_differences {l : Launch} {D : va_G} {cs : Nat → ClassId} {ad : Nat → Nat} {st mt : Nat → Nat → Int32} {ov : Nat → Int64} {p0 : Int32} (hl : l.stackTraces = false) : gX l y_T_differences b_T_differences 2 (some .int) ({ frames := 7, cells := 1, slots := 6, locals := 121 } : Room) 1 6 [.ref (ad 0), .int p0] D cs ad st mt ov (QTi D cs ad mt ov (fun r u => ∃ q, q < 8 ∧ p0 = nI q ∧ u = st ∧ r = st (4 + 4 * q) 3)) (fun E => E = xO ∧ ¬ inR p0 8) := by
  refine gX_of (own := "TwinRegister") (by decide +kernel) rfl (Nat.le_of_ble_eq_true rfl) ?_
  intro p e s m args below meth c C hr ht9
  refine w_lv (lv2 := [(0, .ref (ad 0)), (1, .int p0)]) [0, 1] rfl ?_
  refine w_aload_n C 0 d_T_differences_0 rfl rfl ?_
  refine w_iload_n C 1 d_T_differences_1 rfl rfl ?_
  refine w_xcallTq C (w_runVX C (c_T_deviceAt hl) (by omega) e_T rfl rfl m_319 m_321 m_3 m_24 m_322 ⟨rfl, rfl⟩ hd_T_deviceAt rfl ⟨Nat.le_of_ble_eq_true rfl, Nat.le_of_ble_eq_true rfl⟩ rfl (Nat.le_of_ble_eq_true rfl) d_T_differences_2 ⟨Nat.le_of_ble_eq_true rfl, Nat.le_of_ble_eq_true rfl⟩) ht9 (fun E h => h) ⟨Nat.le_of_ble_eq_true rfl, Nat.le_of_ble_eq_true rfl⟩ (fun u9 h9 => ?_)
  obtain ⟨q, hq, rfl, rfl⟩ := h9
  refine gN_D_differing C (by omega) m_74 d_T_differences_5 ?_
  refine w_widen (k2 := 1) (n2 := 6) (Nat.le_of_ble_eq_true rfl) (Nat.le_of_ble_eq_true rfl) ?_
  exact wx_iretT C hr d_T_differences_8 (⟨q, hq, rfl, rfl, rfl⟩)
set_option maxHeartbeats 4000000 in
set_option maxRecDepth 100000 in
theorem l_T_differencesAnew {p : Program} {l : Launch} {e : Env} {s : State} {m : MethodId} {args : Array Value} {below : List Frame} {meth : Method} {c : Code} {Q : State → Prop} {D : va_G} {cs : Nat → ClassId} {ad : Nat → Nat} {A : Nat → Prop} {cells slots : Nat} {st mt : Nat → Nat → Int32} {ov : Nat → Int64} {q : Nat} (hq : q < 8) (C : Cx p s m args meth c D cs ad A b_T_differencesAnew 5 "TwinRegister") (hcs : cells ≤ 1 ∧ slots ≤ 6)
    (kx : Wg p l e ({ frames := 7, cells := 1, slots := 6, locals := 121 } : Room) s m args below meth c Q D cs ad A 5 cells slots 40 [(0, .ref (ad 0)), (1, .int (nI q)), (2, .ref (ad (4 + 4 * q))), (3, .int (dfaF st q 12))] [] st mt ov) : ∀ n i : Nat, i + n = 12 → Wg p l e ({ frames := 7, cells := 1, slots := 6, locals := 121 } : Room) s m args below meth c Q D cs ad A 5 cells slots 11 [(0, .ref (ad 0)), (1, .int (nI q)), (2, .ref (ad (4 + 4 * q))), (3, .int (dfaF st q i)), (4, .int (nI i))] [] st mt ov := by
  intro n
  induction n with
  | zero =>
    intro i hi
    have hi9 : 12 = i := by omega
    subst hi9
    refine w_iload C 4 d_T_differencesAnew_11 rfl ?_
    refine w_bipush (v := 12) C d_T_differencesAnew_13 rfl ?_
    refine w_icmp_ge_t C 40 d_T_differencesAnew_15 (by decide) (nI_le (a := 12) (b := 12) (Nat.le_refl _) (by decide)) ?_
    exact w_lv [0, 1, 2, 3] rfl kx
  | succ n ih =>
    intro i hi
    have hi2 : i < 12 := by omega
    refine w_iload C 4 d_T_differencesAnew_11 rfl ?_
    refine w_bipush (v := 12) C d_T_differencesAnew_13 rfl ?_
    refine w_icmp_ge_f C 40 d_T_differencesAnew_15 (by decide) (nI_ge (b := 12) hi2 (by decide)) ?_
    refine w_aload_n C 2 d_T_differencesAnew_18 rfl rfl ?_
    refine w_iload C 4 d_T_differencesAnew_19 rfl ?_
    refine w_callTi C (w_runVN C (c_D_comparesUnlike (by omega) (by omega)) (by omega) (e_D (by omega)) rfl rfl m_541 m_359 m_8 m_26 m_360 ⟨rfl, rfl⟩ hd_D_comparesUnlike rfl ⟨Nat.le_of_ble_eq_true rfl, Nat.le_of_ble_eq_true rfl⟩ rfl (Nat.le_of_ble_eq_true rfl) d_T_differencesAnew_21 hcs) (fun r21 u21 h21 => ?_)
    obtain ⟨rfl, h21⟩ := h21; have h21 := h21.symm; subst h21
    refine w_ifb_eq C 34 d_T_differencesAnew_24 (by decide) (fun h24 => ?_) (fun h24 => ?_)
    · skip
      refine w_iinc (lv2 := [(4, .int (nI (i + 1))), (0, .ref (ad 0)), (1, .int (nI q)), (2, .ref (ad (4 + 4 * q))), (3, .int (dfaF st q i))]) C 4 d_T_differencesAnew_34 rfl (nI_1 _) (by decide) rfl ?_
      refine w_goto C 11 d_T_differencesAnew_37 (by decide) ?_
      have ih9 := ih (i + 1) (by omega)
      rw [show dfaF st q (i + 1) = _ from dfaS_f h24] at ih9
      exact w_lv [1, 2, 3, 4, 0] rfl ih9
    · skip
      refine w_iload_n C 3 d_T_differencesAnew_27 rfl rfl ?_
      refine w_iconst (v := 1) C d_T_differencesAnew_28 rfl ?_
      refine w_iload C 4 d_T_differencesAnew_29 rfl ?_
      refine w_ishl C d_T_differencesAnew_31 ?_
      refine w_ior C d_T_differencesAnew_32 ?_
      refine w_istore_n (lv2 := [(3, .int _), (0, .ref (ad 0)), (1, .int (nI q)), (2, .ref (ad (4 + 4 * q))), (4, .int (nI i))]) C d_T_differencesAnew_33 rfl (by decide) rfl ?_
      refine w_iinc (lv2 := [(4, .int (nI (i + 1))), (3, .int _), (0, .ref (ad 0)), (1, .int (nI q)), (2, .ref (ad (4 + 4 * q)))]) C 4 d_T_differencesAnew_34 rfl (nI_1 _) (by decide) rfl ?_
      refine w_goto C 11 d_T_differencesAnew_37 (by decide) ?_
      have ih9 := ih (i + 1) (by omega)
      rw [show dfaF st q (i + 1) = _ from dfaS_t h24] at ih9
      exact w_lv [2, 3, 4, 1, 0] rfl ih9
set_option maxHeartbeats 4000000 in
set_option maxRecDepth 100000 in
theorem c_T_differencesAnew {l : Launch} {D : va_G} {cs : Nat → ClassId} {ad : Nat → Nat} {st mt : Nat → Nat → Int32} {ov : Nat → Int64} {p0 : Int32} (hl : l.stackTraces = false) : gX l y_T_differencesAnew b_T_differencesAnew 5 (some .int) ({ frames := 7, cells := 1, slots := 6, locals := 121 } : Room) 1 6 [.ref (ad 0), .int p0] D cs ad st mt ov (QTi D cs ad mt ov (fun r u => ∃ q, q < 8 ∧ p0 = nI q ∧ u = st ∧ r = dfaF st q 12)) (fun E => E = xO ∧ ¬ inR p0 8) := by
  refine gX_of (own := "TwinRegister") (by decide +kernel) rfl (Nat.le_of_ble_eq_true rfl) ?_
  intro p e s m args below meth c C hr ht9
  refine w_lv (lv2 := [(0, .ref (ad 0)), (1, .int p0)]) [0, 1] rfl ?_
  refine w_aload_n C 0 d_T_differencesAnew_0 rfl rfl ?_
  refine w_iload_n C 1 d_T_differencesAnew_1 rfl rfl ?_
  refine w_xcallTq C (w_runVX C (c_T_deviceAt hl) (by omega) e_T rfl rfl m_319 m_321 m_3 m_24 m_322 ⟨rfl, rfl⟩ hd_T_deviceAt rfl ⟨Nat.le_of_ble_eq_true rfl, Nat.le_of_ble_eq_true rfl⟩ rfl (Nat.le_of_ble_eq_true rfl) d_T_differencesAnew_2 ⟨Nat.le_of_ble_eq_true rfl, Nat.le_of_ble_eq_true rfl⟩) ht9 (fun E h => h) ⟨Nat.le_of_ble_eq_true rfl, Nat.le_of_ble_eq_true rfl⟩ (fun u9 h9 => ?_)
  obtain ⟨q, hq, rfl, rfl⟩ := h9
  refine w_astore_n (lv2 := [(2, .ref (ad (4 + 4 * q))), (0, .ref (ad 0)), (1, .int (nI q))]) C d_T_differencesAnew_5 rfl (by decide) rfl ?_
  refine w_iconst (v := 0) C d_T_differencesAnew_6 rfl ?_
  refine w_istore_n (lv2 := [(3, .int 0), (2, .ref (ad (4 + 4 * q))), (0, .ref (ad 0)), (1, .int (nI q))]) C d_T_differencesAnew_7 rfl (by decide) rfl ?_
  refine w_iconst (v := 0) C d_T_differencesAnew_8 rfl ?_
  refine w_istore (lv2 := [(4, .int 0), (3, .int 0), (2, .ref (ad (4 + 4 * q))), (0, .ref (ad 0)), (1, .int (nI q))]) C d_T_differencesAnew_9 (by decide) rfl ?_
  refine w_lv (lv2 := [(0, .ref (ad 0)), (1, .int (nI q)), (2, .ref (ad (4 + 4 * q))), (3, .int (dfaF st q 0)), (4, .int (nI 0))]) [3, 4, 2, 1, 0] rfl ?_
  refine l_T_differencesAnew hq C ⟨Nat.le_of_ble_eq_true rfl, Nat.le_of_ble_eq_true rfl⟩ ?_ 12 0 rfl
  refine w_iload_n C 3 d_T_differencesAnew_40 rfl rfl ?_
  refine w_widen (k2 := 1) (n2 := 6) (Nat.le_of_ble_eq_true rfl) (Nat.le_of_ble_eq_true rfl) ?_
  exact wx_iretT C hr d_T_differencesAnew_41 (⟨q, hq, rfl, rfl, rfl⟩)
set_option maxHeartbeats 4000000 in
set_option maxRecDepth 100000 in
theorem c_T_members {l : Launch} {D : va_G} {cs : Nat → ClassId} {ad : Nat → Nat} {st mt : Nat → Nat → Int32} {ov : Nat → Int64} {p0 : Int32} (hs : okS st) (hl : l.stackTraces = false) : gX l y_T_members b_T_members 2 (some .int) ({ frames := 8, cells := 1, slots := 6, locals := 141 } : Room) 1 6 [.ref (ad 0), .int p0] D cs ad st mt ov (QTi D cs ad mt ov (fun r u => ∃ g, g < 4 ∧ p0 = nI g ∧ u = st ∧ r = memF st g (tn (st (37 + g) 0)) 8)) (fun E => E = xO ∧ ¬ inR p0 4) := by
  refine gX_of (own := "TwinRegister") (by decide +kernel) rfl (Nat.le_of_ble_eq_true rfl) ?_
  intro p e s m args below meth c C hr ht9
  refine w_lv (lv2 := [(0, .ref (ad 0)), (1, .int p0)]) [0, 1] rfl ?_
  refine w_aload_n C 0 d_T_members_0 rfl rfl ?_
  refine w_aload_n C 0 d_T_members_1 rfl rfl ?_
  refine w_iload_n C 1 d_T_members_2 rfl rfl ?_
  refine w_xcallTq C (w_runVX C (c_T_groupAt hl) (by omega) e_T rfl rfl m_448 m_450 m_15 m_24 m_451 ⟨rfl, rfl⟩ hd_T_groupAt rfl ⟨Nat.le_of_ble_eq_true rfl, Nat.le_of_ble_eq_true rfl⟩ rfl (Nat.le_of_ble_eq_true rfl) d_T_members_3 ⟨Nat.le_of_ble_eq_true rfl, Nat.le_of_ble_eq_true rfl⟩) ht9 (fun E h => h) ⟨Nat.le_of_ble_eq_true rfl, Nat.le_of_ble_eq_true rfl⟩ (fun u9 h9 => ?_)
  obtain ⟨g, hg, rfl, rfl⟩ := h9
  have e1 := inR_tn (by decide) (hs.1 g hg)
  refine w_callTi C (w_runV C (c_T_membersOf hg e1.2 e1.1) (by omega) e_T rfl rfl m_456 m_458 m_16 m_24 m_459 ⟨rfl, rfl⟩ hd_T_membersOf rfl ⟨Nat.le_of_ble_eq_true rfl, Nat.le_of_ble_eq_true rfl⟩ rfl (Nat.le_of_ble_eq_true rfl) d_T_members_6 ⟨Nat.le_of_ble_eq_true rfl, Nat.le_of_ble_eq_true rfl⟩) (fun r9 u9 h9 => ?_)
  obtain ⟨rfl, h9⟩ := h9
  have h9 := h9.symm
  subst h9
  refine w_widen (k2 := 1) (n2 := 6) (Nat.le_of_ble_eq_true rfl) (Nat.le_of_ble_eq_true rfl) ?_
  exact wx_iretT C hr d_T_members_9 (⟨g, hg, rfl, rfl, rfl⟩)
set_option maxHeartbeats 4000000 in
set_option maxRecDepth 100000 in
theorem c_T_jobs {l : Launch} {D : va_G} {cs : Nat → ClassId} {ad : Nat → Nat} {st mt : Nat → Nat → Int32} {ov : Nat → Int64}  : gM l y_T_jobs b_T_jobs 1 (some .int) ({ frames := 0, cells := 0, slots := 0, locals := 0 } : Room) 0 0 [.ref (ad 0)] D cs ad st mt ov (QTi D cs ad mt ov (fun r u => r = st 0 4 ∧ u = st)) := by
  refine gM_of (own := "TwinRegister") (by decide +kernel) rfl (Nat.le_of_ble_eq_true rfl) ?_
  intro p e s m args below meth c C hr
  refine w_lv (lv2 := [(0, .ref (ad 0))]) [0] rfl ?_
  refine w_aload_n C 0 d_T_jobs_0 rfl rfl ?_
  refine g_T_jobCount C m_162 d_T_jobs_1 ?_
  exact w_iretT C hr d_T_jobs_4 (⟨rfl, rfl⟩)
set_option maxHeartbeats 4000000 in
set_option maxRecDepth 100000 in
theorem c_T_state {l : Launch} {D : va_G} {cs : Nat → ClassId} {ad : Nat → Nat} {st mt : Nat → Nat → Int32} {ov : Nat → Int64} {p0 : Int32} {jc : Nat} (hjc : jc ≤ 8) (hj0 : st 0 4 = nI jc) (hl : l.stackTraces = false) : gX l y_T_state b_T_state 2 (some .int) ({ frames := 7, cells := 1, slots := 6, locals := 121 } : Room) 1 6 [.ref (ad 0), .int p0] D cs ad st mt ov (QTi D cs ad mt ov (fun r u => ∃ j, j < jc ∧ p0 = nI j ∧ u = st ∧ r = st (42 + j) 5)) (fun E => E = xO ∧ ¬ inR p0 jc) := by
  refine gX_of (own := "TwinRegister") (by decide +kernel) rfl (Nat.le_of_ble_eq_true rfl) ?_
  intro p e s m args below meth c C hr ht9
  refine w_lv (lv2 := [(0, .ref (ad 0)), (1, .int p0)]) [0, 1] rfl ?_
  refine w_aload_n C 0 d_T_state_0 rfl rfl ?_
  refine w_iload_n C 1 d_T_state_1 rfl rfl ?_
  refine w_xcallTq C (w_runVX C (c_T_jobAt hjc hj0 hl) (by omega) e_T rfl rfl m_506 m_508 m_22 m_24 m_509 ⟨rfl, rfl⟩ hd_T_jobAt rfl ⟨Nat.le_of_ble_eq_true rfl, Nat.le_of_ble_eq_true rfl⟩ rfl (Nat.le_of_ble_eq_true rfl) d_T_state_2 ⟨Nat.le_of_ble_eq_true rfl, Nat.le_of_ble_eq_true rfl⟩) ht9 (fun E h => h) ⟨Nat.le_of_ble_eq_true rfl, Nat.le_of_ble_eq_true rfl⟩ (fun u9 h9 => ?_)
  obtain ⟨j, hj, rfl, rfl⟩ := h9
  have hj8 : j < 8 := by omega
  refine gN_J_condition C (by omega) m_132 d_T_state_5 ?_
  refine w_widen (k2 := 1) (n2 := 6) (Nat.le_of_ble_eq_true rfl) (Nat.le_of_ble_eq_true rfl) ?_
  exact wx_iretT C hr d_T_state_8 (⟨j, hj, rfl, rfl, rfl⟩)
set_option maxHeartbeats 4000000 in
set_option maxRecDepth 100000 in
theorem c_T_devices {l : Launch} {D : va_G} {cs : Nat → ClassId} {ad : Nat → Nat} {st mt : Nat → Nat → Int32} {ov : Nat → Int64} {p0 p1 : Int32} {jc : Nat} (hjc : jc ≤ 8) (hj0 : st 0 4 = nI jc) (hl : l.stackTraces = false) : gX l y_T_devices b_T_devices 4 (some .int) ({ frames := 7, cells := 2, slots := 12, locals := 122 } : Room) 2 12 [.ref (ad 0), .int p0, .int p1] D cs ad st mt ov (QTi D cs ad mt ov (fun r u => ∃ j, j < jc ∧ p0 = nI j ∧ rng p1 0 2 ∧ u = st ∧ r = (if p1 = 0 then st (42 + j) 6 else if p1 = 1 then st (42 + j) 7 else st (42 + j) 8))) (fun E => (E = xO ∧ ¬ inR p0 jc) ∨ (E = xA ∧ inR p0 jc ∧ ¬ rng p1 0 2)) := by
  refine gX_of (own := "TwinRegister") (by decide +kernel) rfl (Nat.le_of_ble_eq_true rfl) ?_
  intro p e s m args below meth c C hr ht9
  refine w_lv (lv2 := [(0, .ref (ad 0)), (1, .int p0), (2, .int p1)]) [0, 1, 2] rfl ?_
  refine w_aload_n C 0 d_T_devices_0 rfl rfl ?_
  refine w_iload_n C 1 d_T_devices_1 rfl rfl ?_
  refine w_xcallTq C (w_runVX C (c_T_jobAt hjc hj0 hl) (by omega) e_T rfl rfl m_506 m_508 m_22 m_24 m_509 ⟨rfl, rfl⟩ hd_T_jobAt rfl ⟨Nat.le_of_ble_eq_true rfl, Nat.le_of_ble_eq_true rfl⟩ rfl (Nat.le_of_ble_eq_true rfl) d_T_devices_2 ⟨Nat.le_of_ble_eq_true rfl, Nat.le_of_ble_eq_true rfl⟩) ht9 (fun E h => Or.inl h) ⟨Nat.le_of_ble_eq_true rfl, Nat.le_of_ble_eq_true rfl⟩ (fun u9 h9 => ?_)
  obtain ⟨j, hj, rfl, rfl⟩ := h9
  have hj8 : j < 8 := by omega
  refine w_astore_n (lv2 := [(3, .ref (ad (42 + j))), (0, .ref (ad 0)), (1, .int (nI j)), (2, .int p1)]) C d_T_devices_5 rfl (by decide) rfl ?_
  refine w_iload_n C 3 d_T_devices_6 rfl rfl ?_
  refine w_iconst (v := 0) C d_T_devices_7 rfl ?_
  refine w_iconst (v := 2) C d_T_devices_8 rfl ?_
  refine w_xcallTv C (w_runSX C (c_T_requireInRange hl) m_267 m_268 m_24 m_269 ⟨rfl, rfl⟩ hd_T_requireInRange rfl ⟨Nat.le_of_ble_eq_true rfl, Nat.le_of_ble_eq_true rfl⟩ rfl (Nat.le_of_ble_eq_true rfl) d_T_devices_9 ⟨Nat.le_of_ble_eq_true rfl, Nat.le_of_ble_eq_true rfl⟩) ht9 (fun E h => Or.inr ⟨h.1, inR_nI hj, rng_n h.2⟩) ⟨Nat.le_of_ble_eq_true rfl, Nat.le_of_ble_eq_true rfl⟩ (fun u9 h9 => ?_)
  obtain ⟨h9, r9⟩ := h9
  have h9 := h9.symm
  subst h9
  refine w_iload_n C 3 d_T_devices_12 rfl rfl ?_
  refine w_if_ne C 21 d_T_devices_13 (by decide) (fun h13 => ?_) (fun h13 => ?_)
  · skip
    refine w_iload_n C 3 d_T_devices_21 rfl rfl ?_
    refine w_iconst (v := 1) C d_T_devices_22 rfl ?_
    refine w_icmp_ne C 33 d_T_devices_23 (by decide) (fun h23 => ?_) (fun h23 => ?_)
    · skip
      refine w_aload_n C 0 d_T_devices_33 rfl rfl ?_
      refine gN_J_failed C (by omega) m_138 d_T_devices_34 ?_
      refine w_widen (k2 := 2) (n2 := 12) (Nat.le_of_ble_eq_true rfl) (Nat.le_of_ble_eq_true rfl) ?_
      exact wx_iretT C hr d_T_devices_37 (⟨j, hj, rfl, r9, rfl, by rw [if_neg h13]; first | (rw [if_neg h23]; done) | rw [if_pos h23]⟩)
    · skip
      refine w_aload_n C 0 d_T_devices_26 rfl rfl ?_
      refine gN_J_done C (by omega) m_136 d_T_devices_27 ?_
      refine w_goto C 37 d_T_devices_30 (by decide) ?_
      refine w_widen (k2 := 2) (n2 := 12) (Nat.le_of_ble_eq_true rfl) (Nat.le_of_ble_eq_true rfl) ?_
      exact wx_iretT C hr d_T_devices_37 (⟨j, hj, rfl, r9, rfl, by rw [if_neg h13]; first | (rw [if_neg h23]; done) | rw [if_pos h23]⟩)
  · skip
    refine w_aload_n C 0 d_T_devices_16 rfl rfl ?_
    refine gN_J_started C (by omega) m_134 d_T_devices_17 ?_
    refine w_widen (k2 := 2) (n2 := 12) (Nat.le_of_ble_eq_true rfl) (Nat.le_of_ble_eq_true rfl) ?_
    exact wx_iretT C hr d_T_devices_20 (⟨j, hj, rfl, r9, rfl, by rw [if_pos h13]⟩)
