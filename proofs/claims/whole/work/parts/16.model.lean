/-! ===== the reference: what its methods do to its memory ===== -/
theorem ix12 (i k : Nat) : (12 : Int32) * nI i + nI k = nI (12 * i + k) := by rw [show (12 : Int32) = nI 12 from rfl, pk_mul, nI_add]
def inb (v a b : Int32) : Bool := !decide (v < a) && !decide (b < v)
theorem inb_t {v a b : Int32} (h : inb v a b = true) : ¬ v < a ∧ ¬ b < v := by
  unfold inb at h
  by_cases h1 : v < a <;> by_cases h2 : b < v <;> simp_all
theorem inb_f {v a b : Int32} (h : inb v a b = false) : v < a ∨ b < v := by
  unfold inb at h
  by_cases h1 : v < a <;> by_cases h2 : b < v <;> simp_all
theorem inb_R {v : Int32} {n : Nat} (hn : n + 1 < 2 ^ 31) (h : inb v 0 (nI n) = true) : inR v (n + 1) := by
  obtain ⟨h1, h2⟩ := inb_t h
  obtain ⟨j, hj, rfl⟩ := nI_of h1
  have h3 : ¬ n < j := fun z => h2 ((nI_ltI (by omega) hj).mpr z)
  exact ⟨j, by omega, rfl⟩
theorem inb_nR {v : Int32} {n : Nat} (hn : n + 1 < 2 ^ 31) (h : inb v 0 (nI n) = false) : ¬ inR v (n + 1) := by
  rintro ⟨k, hk, rfl⟩
  rcases inb_f h with h1 | h1
  · exact nI_pos (by omega) h1
  · have := (nI_ltI (by omega) (by omega)).mp h1
    omega
def thr (a : St) (c : Int32) : St := up2 a 0 0 c
def difM (a : St) (q k : Nat) : Bool := !decide (a 1 (12 * q + k) ≤ 0) && (!decide (a 2 (12 * q + k) = a 1 (12 * q + k)) && decide (a 3 (12 * q + k) = 0))
def dgS (a : St) (q i : Nat) (x : Int32) : Int32 := x ||| (bif difM a q i then bitI i else 0)
def dgM (a : St) (q : Nat) : Nat → Int32
  | 0 => 0
  | i + 1 => dgS a q i (dgM a q i)
theorem dgS_t {a : St} {q i : Nat} {x : Int32} (h : difM a q i = true) : dgS a q i x = x ||| bitI i := by unfold dgS; rw [h]; rfl
theorem dgS_f {a : St} {q i : Nat} {x : Int32} (h : difM a q i = false) : dgS a q i x = x ||| 0 := by unfold dgS; rw [h]; rfl
def mnS (x : Int32) (i : Nat) (n : Int32) : Int32 := n + (x >>> (nI i &&& 31) &&& 1)
def mnM (x : Int32) : Nat → Int32
  | 0 => 0
  | i + 1 => mnS x i (mnM x i)
def drS (a : St) (i : Nat) (n : Int32) : Int32 := n + (bif decide (a 8 i ≤ 0) then 0 else 1)
def drM (a : St) : Nat → Int32
  | 0 => 0
  | i + 1 => drS a i (drM a i)
theorem drS_t {a : St} {i : Nat} {n : Int32} (h : a 8 i ≤ 0) : drS a i n = n + 0 := by unfold drS; rw [bt h]
theorem drS_f {a : St} {i : Nat} {n : Int32} (h : ¬ a 8 i ≤ 0) : drS a i n = n + 1 := by unfold drS; rw [bf h]
def emM (a : St) : Nat → St
  | 0 => a
  | i + 1 => up2 (emM a i) 8 i 0
def wiM (a : St) (q k : Nat) (v : Int32) : St := up2 (up2 a 1 (12 * q + k) v) 3 (12 * q + k) 0
def wlS (q i : Nat) (b : St) : St := bif decide (b 8 i ≤ 0) then b else wiM b q i (b 8 i - 1)
def wlM (a : St) (q : Nat) : Nat → St
  | 0 => a
  | i + 1 => wlS q i (wlM a q i)
def rpS (q i : Nat) (b : St) : St := up2 b 2 (12 * q + i) (bif decide (b 8 i ≤ 0) then b 2 (12 * q + i) else b 8 i - 1)
def rpM (a : St) (q : Nat) : Nat → St
  | 0 => a
  | i + 1 => rpS q i (rpM a q i)
theorem rpS_t {q i : Nat} {b : St} (h : b 8 i ≤ 0) : rpS q i b = up2 b 2 (12 * q + i) (b 2 (12 * q + i)) := by unfold rpS; rw [bt h]
theorem rpS_f {q i : Nat} {b : St} (h : ¬ b 8 i ≤ 0) : rpS q i b = up2 b 2 (12 * q + i) (b 8 i - 1) := by unfold rpS; rw [bf h]
def obS (q i : Nat) (w : Int32) (b : St) : St := up2 b 2 (12 * q + i) (bif decide (w >>> (nI i &&& 31) &&& 1 = 1) then b 1 (12 * q + i) else b 2 (12 * q + i))
def obM (a : St) (q : Nat) (w : Int32) : Nat → St
  | 0 => a
  | i + 1 => obS q i w (obM a q w i)
theorem obS_t {q i : Nat} {w : Int32} {b : St} (h : w >>> (nI i &&& 31) &&& 1 = 1) : obS q i w b = up2 b 2 (12 * q + i) (b 1 (12 * q + i)) := by unfold obS; rw [bt h]
theorem obS_f {q i : Nat} {w : Int32} {b : St} (h : ¬ w >>> (nI i &&& 31) &&& 1 = 1) : obS q i w b = up2 b 2 (12 * q + i) (b 2 (12 * q + i)) := by unfold obS; rw [bf h]
def mbS (a : St) (g k i : Nat) (x : Int32) : Int32 := x ||| (bif inb (a 2 (12 * i + k) - 1) (a 10 g) (a 11 g) then bitI i else 0)
def mbM (a : St) (g k : Nat) : Nat → Int32
  | 0 => 0
  | i + 1 => mbS a g k i (mbM a g k i)
theorem mbS_t {a : St} {g k i : Nat} {x : Int32} (h : inb (a 2 (12 * i + k) - 1) (a 10 g) (a 11 g) = true) : mbS a g k i x = x ||| bitI i := by unfold mbS; rw [h]; rfl
theorem mbS_f {a : St} {g k i : Nat} {x : Int32} (h : inb (a 2 (12 * i + k) - 1) (a 10 g) (a 11 g) = false) : mbS a g k i x = x ||| 0 := by unfold mbS; rw [h]; rfl
def heM (a : St) (q : Nat) : Int32 := if a 6 q = 0 then a 4 q else a 5 q
def opM (b : St) (j : Nat) : Int32 := b 18 j &&& (b 19 j ^^^ (-1)) &&& (b 20 j ^^^ (-1))
def lkS (i j k : Nat) (b : St) : St :=
  bif decide (opM b j >>> (nI i &&& 31) &&& 1 = 1) then
    (bif decide (b 2 (12 * i + k) = b 14 j + 1) then up2 b 19 j (b 19 j ||| bitI i)
     else bif decide (b 1 (12 * i + k) = b 14 j + 1) && !decide (b 3 (12 * i + k) ≤ 0) then up2 b 20 j (b 20 j ||| bitI i) else b)
  else b
def lkM (a : St) (j k : Nat) : Nat → St
  | 0 => a
  | i + 1 => lkS i j k (lkM a j k i)
theorem lkS_o {i j k x : Nat} {b : St} (h : x ≠ 19) (h2 : x ≠ 20) : lkS i j k b x = b x := by
  unfold lkS
  cases decide (opM b j >>> (nI i &&& 31) &&& 1 = 1) <;> cases decide (b 2 (12 * i + k) = b 14 j + 1) <;> cases (decide (b 1 (12 * i + k) = b 14 j + 1) && !decide (b 3 (12 * i + k) ≤ 0)) <;> simp only [cond_true, cond_false, up2_out _ _ h, up2_out _ _ h2]
theorem lkM_o {a : St} {j k x : Nat} (h : x ≠ 19) (h2 : x ≠ 20) : ∀ i, lkM a j k i x = a x
  | 0 => rfl
  | i + 1 => (lkS_o h h2).trans (lkM_o h h2 i)
def ssM (i j k : Nat) (b : St) : St := up2 (wiM (up2 b 18 j (b 18 j ||| bitI i)) i k (up2 b 18 j (b 18 j ||| bitI i) 14 j + 1)) 4 i (wiM (up2 b 18 j (b 18 j ||| bitI i)) i k (up2 b 18 j (b 18 j ||| bitI i) 14 j + 1) 4 i + 1)
def sgM (i j k : Nat) (w : Int32) (a : St × Int32) : St × Int32 := bif !decide (a.1 15 j ≤ a.2) && !decide (¬ w >>> (nI i &&& 31) &&& 1 = 1) then (ssM i j k a.1, a.2 + 1) else a
def stM (a : St) (j k : Nat) (w : Int32) : Nat → St × Int32
  | 0 => (a, 0)
  | i + 1 => sgM i j k w (stM a j k w i)
theorem ssM_o {i j k x : Nat} {b : St} (h : x ≠ 18) (h1 : x ≠ 1) (h3 : x ≠ 3) (h4 : x ≠ 4) : ssM i j k b x = b x := by
  unfold ssM wiM
  rw [up2_out _ _ h4, up2_out _ _ h3, up2_out _ _ h1, up2_out _ _ h]
theorem stM_o {a : St} {j k x : Nat} {w : Int32} (h : x ≠ 18) (h1 : x ≠ 1) (h3 : x ≠ 3) (h4 : x ≠ 4) : ∀ i, (stM a j k w i).1 x = a x
  | 0 => rfl
  | i + 1 => by
    have ih := stM_o (a := a) (j := j) (k := k) (w := w) h h1 h3 h4 i
    show (sgM i j k w (stM a j k w i)).1 x = _
    generalize stM a j k w i = b at ih ⊢
    unfold sgM
    cases (!decide (b.1 15 j ≤ b.2) && !decide (¬ w >>> (nI i &&& 31) &&& 1 = 1))
    · exact ih
    · exact (ssM_o h h1 h3 h4).trans ih
theorem stM_stop {a : St} {j k i : Nat} {w : Int32} (h : (stM a j k w i).1 15 j ≤ (stM a j k w i).2) : ∀ n, stM a j k w (i + n) = stM a j k w i
  | 0 => rfl
  | n + 1 => by
    have ih := stM_stop h n
    show sgM (i + n) j k w (stM a j k w (i + n)) = _
    rw [ih]
    unfold sgM
    rw [decide_eq_true h]
    rfl
def okM (a : St) : Prop := (∀ g, g < 4 → inR (a 9 g) 12) ∧ (∀ j, j < 8 → inR (a 12 j) 4 ∧ inR (a 13 j) 12) ∧ ∃ jc, jc ≤ 8 ∧ a 0 12 = nI jc
theorem okM_of {a b : St} (h : okM a) (h9 : b 9 = a 9) (h12 : b 12 = a 12) (h13 : b 13 = a 13) (h0 : b 0 12 = a 0 12) : okM b := by
  refine ⟨?_, ?_, ?_⟩
  · rw [h9]; exact h.1
  · rw [h12, h13]; exact h.2.1
  · rw [h0]; exact h.2.2
def lkA (a : St) (j : Nat) : St := lkM a j (tn (a 13 j)) 8
def stA (a : St) (j : Nat) : St × Int32 := stM a j (tn (a 13 j)) (mbM a (tn (a 12 j)) (tn (a 9 (tn (a 12 j)))) 8 &&& (a 18 j ^^^ (-1))) 8
def avM (a : St) (j : Nat) : St × Int32 := bif decide (mnM (lkA a j 20 j) 12 < lkA a j 16 j) then stA (lkA a j) j else (up2 (lkA a j) 17 j 1, 0)
def wvS (i : Nat) (a : St × Int32) : St × Int32 := bif decide (a.1 17 i = 0) then (bif decide (mnM (lkA a.1 i 20 i) 12 < lkA a.1 i 16 i) then ((stA (lkA a.1 i) i).1, a.2 + (stA (lkA a.1 i) i).2) else (up2 (lkA a.1 i) 17 i 1, a.2)) else a
theorem wvS_f {i : Nat} {a : St × Int32} (h : ¬ a.1 17 i = 0) : wvS i a = a := by unfold wvS; rw [decide_eq_false h]; rfl
theorem wvS_t {i : Nat} {a : St × Int32} (h : a.1 17 i = 0) (h2 : mnM (lkA a.1 i 20 i) 12 < lkA a.1 i 16 i) : wvS i a = ((stA (lkA a.1 i) i).1, a.2 + (stA (lkA a.1 i) i).2) := by
  unfold wvS
  rw [decide_eq_true h, decide_eq_true h2, cond_true, cond_true]
theorem wvS_u {i : Nat} {a : St × Int32} (h : a.1 17 i = 0) (h2 : ¬ mnM (lkA a.1 i 20 i) 12 < lkA a.1 i 16 i) : wvS i a = (up2 (lkA a.1 i) 17 i 1, a.2) := by
  unfold wvS
  rw [decide_eq_true h, decide_eq_false h2, cond_true, cond_false]
def wvM (a : St) : Nat → St × Int32
  | 0 => (a, 0)
  | i + 1 => wvS i (wvM a i)
theorem lkA_ok {a : St} {j : Nat} (h : okM a) : okM (lkA a j) := okM_of h (lkM_o (by decide) (by decide) 8) (lkM_o (by decide) (by decide) 8) (lkM_o (by decide) (by decide) 8) (congrFun (lkM_o (by decide) (by decide) 8) 12)
theorem stA_o {a : St} {j x : Nat} (h : x ≠ 18) (h1 : x ≠ 1) (h3 : x ≠ 3) (h4 : x ≠ 4) : (stA a j).1 x = a x := by
  unfold stA
  exact stM_o h h1 h3 h4 8
theorem stA_ok {a : St} {j : Nat} (h : okM a) : okM (stA a j).1 := okM_of h (stA_o (by decide) (by decide) (by decide) (by decide)) (stA_o (by decide) (by decide) (by decide) (by decide)) (stA_o (by decide) (by decide) (by decide) (by decide)) (congrFun (stA_o (by decide) (by decide) (by decide) (by decide)) 12)
theorem wvM_ok {a : St} (h : okM a) : ∀ i, okM (wvM a i).1
  | 0 => h
  | i + 1 => by
    have ih := wvM_ok h i
    show okM (wvS i (wvM a i)).1
    generalize wvM a i = b at ih ⊢
    unfold wvS
    cases decide (b.1 17 i = 0)
    · exact ih
    · cases decide (mnM (lkA b.1 i 20 i) 12 < lkA b.1 i 16 i)
      · simp only [cond_true, cond_false]
        exact okM_of (lkA_ok (j := i) ih) (up2_out _ _ (by decide)) (up2_out _ _ (by decide)) (up2_out _ _ (by decide)) (congrFun (up2_out _ _ (by decide)) 12)
      · simp only [cond_true]
        exact stA_ok (lkA_ok ih)
theorem wvM_0 {a : St} : ∀ i, (wvM a i).1 0 = a 0
  | 0 => rfl
  | i + 1 => by
    have ih := wvM_0 (a := a) i
    show (wvS i (wvM a i)).1 0 = _
    generalize wvM a i = b at ih ⊢
    unfold wvS
    cases decide (b.1 17 i = 0)
    · exact ih
    · cases decide (mnM (lkA b.1 i 20 i) 12 < lkA b.1 i 16 i)
      · simp only [cond_true, cond_false]
        exact (up2_out (lkA b.1 i) (i := 17) (k := i) 1 (show 0 ≠ 17 by decide)).trans ((lkM_o (by decide) (by decide) 8).trans ih)
      · simp only [cond_true]
        exact (stA_o (by decide) (by decide) (by decide) (by decide)).trans ((lkM_o (by decide) (by decide) 8).trans ih)

set_option maxHeartbeats 4000000 in
set_option maxRecDepth 100000 in
theorem c_M_thrown {l : Launch} {D : va_G} {cs : Nat → ClassId} {ad : Nat → Nat} {st mt : Nat → Nat → Int32} {ov : Nat → Int64}  : gM l y_M_thrown b_M_thrown 1 (some .int) ({ frames := 0, cells := 0, slots := 0, locals := 0 } : Room) 0 0 [.ref (ad 50)] D cs ad st mt ov (QMi D cs ad st ov (fun r u => r = mt 0 0 ∧ u = mt)) := by
  refine gM_of (own := "TwinRegisterModel") (by decide +kernel) rfl (Nat.le_of_ble_eq_true rfl) ?_
  intro p e s m args below meth c C hr
  refine w_lv (lv2 := [(0, .ref (ad 50))]) [0] rfl ?_
  refine w_aload_n C 0 d_M_thrown_0 rfl rfl ?_
  refine g_M_thrown C m_568 d_M_thrown_1 ?_
  exact w_iretM C hr d_M_thrown_4 (⟨rfl, rfl⟩)
set_option maxHeartbeats 4000000 in
set_option maxRecDepth 100000 in
theorem c_M_in {l : Launch} {D : va_G} {cs : Nat → ClassId} {ad : Nat → Nat} {st mt : Nat → Nat → Int32} {ov : Nat → Int64} {p0 p1 p2 : Int32} : gM l y_M_in b_M_in 3 (some .boolean) ({ frames := 0, cells := 0, slots := 0, locals := 0 } : Room) 0 0 [.int p0, .int p1, .int p2] D cs ad st mt ov (QMi D cs ad st ov (fun r u => r = b2i (inb p0 p1 p2) ∧ u = mt)) := by
  refine gM_of (own := "TwinRegisterModel") (by decide +kernel) rfl (Nat.le_of_ble_eq_true rfl) ?_
  intro p e s m args below meth c C hr
  refine w_lv (lv2 := [(0, .int p0), (1, .int p1), (2, .int p2)]) [0, 1, 2] rfl ?_
  refine w_iload_n C 0 d_M_in_0 rfl rfl ?_
  refine w_iload_n C 1 d_M_in_1 rfl rfl ?_
  refine w_icmp_lt C 14 d_M_in_2 (by decide) (fun h2 => ?_) (fun h2 => ?_)
  · skip
    refine w_iconst (v := 0) C d_M_in_14 rfl ?_
    exact w_zretM C hr (by first | exact Or.inl rfl | exact Or.inr rfl | exact b2i_01 _) d_M_in_15 (⟨by simp [inb, b2i, h2], rfl⟩)
  · skip
    refine w_iload_n C 0 d_M_in_5 rfl rfl ?_
    refine w_iload_n C 2 d_M_in_6 rfl rfl ?_
    refine w_icmp_gt C 14 d_M_in_7 (by decide) (fun h7 => ?_) (fun h7 => ?_)
    · skip
      refine w_iconst (v := 0) C d_M_in_14 rfl ?_
      exact w_zretM C hr (by first | exact Or.inl rfl | exact Or.inr rfl | exact b2i_01 _) d_M_in_15 (⟨by simp [inb, b2i, h2, h7], rfl⟩)
    · skip
      refine w_iconst (v := 1) C d_M_in_10 rfl ?_
      refine w_goto C 15 d_M_in_11 (by decide) ?_
      exact w_zretM C hr (by first | exact Or.inl rfl | exact Or.inr rfl | exact b2i_01 _) d_M_in_15 (⟨by simp [inb, b2i, h2, h7], rfl⟩)
set_option maxHeartbeats 4000000 in
set_option maxRecDepth 100000 in
theorem c_M_isDevice {l : Launch} {D : va_G} {cs : Nat → ClassId} {ad : Nat → Nat} {st mt : Nat → Nat → Int32} {ov : Nat → Int64} {p0 : Int32} : gM l y_M_isDevice b_M_isDevice 1 (some .boolean) ({ frames := 1, cells := 0, slots := 0, locals := 22 } : Room) 0 0 [.int p0] D cs ad st mt ov (QMi D cs ad st ov (fun r u => r = b2i (inb p0 0 7) ∧ u = mt)) := by
  refine gM_of (own := "TwinRegisterModel") (by decide +kernel) rfl (Nat.le_of_ble_eq_true rfl) ?_
  intro p e s m args below meth c C hr
  refine w_lv (lv2 := [(0, .int p0)]) [0] rfl ?_
  refine w_iload_n C 0 d_M_isDevice_0 rfl rfl ?_
  refine w_iconst (v := 0) C d_M_isDevice_1 rfl ?_
  refine w_bipush (v := 7) C d_M_isDevice_2 rfl ?_
  refine w_callMi C (w_runS C (c_M_in ) m_647 m_648 m_41 m_649 ⟨rfl, rfl⟩ hd_M_in rfl ⟨Nat.le_of_ble_eq_true rfl, Nat.le_of_ble_eq_true rfl⟩ rfl (Nat.le_of_ble_eq_true rfl) d_M_isDevice_4 ⟨Nat.le_of_ble_eq_true rfl, Nat.le_of_ble_eq_true rfl⟩) (fun r4 u4 h4 => ?_)
  obtain ⟨rfl, h4⟩ := h4; have h4 := h4.symm; subst h4
  exact w_zretM C hr (by first | exact Or.inl rfl | exact Or.inr rfl | exact b2i_01 _) d_M_isDevice_7 (⟨rfl, rfl⟩)
set_option maxHeartbeats 4000000 in
set_option maxRecDepth 100000 in
theorem c_M_isLeaf {l : Launch} {D : va_G} {cs : Nat → ClassId} {ad : Nat → Nat} {st mt : Nat → Nat → Int32} {ov : Nat → Int64} {p0 : Int32} : gM l y_M_isLeaf b_M_isLeaf 1 (some .boolean) ({ frames := 1, cells := 0, slots := 0, locals := 22 } : Room) 0 0 [.int p0] D cs ad st mt ov (QMi D cs ad st ov (fun r u => r = b2i (inb p0 0 11) ∧ u = mt)) := by
  refine gM_of (own := "TwinRegisterModel") (by decide +kernel) rfl (Nat.le_of_ble_eq_true rfl) ?_
  intro p e s m args below meth c C hr
  refine w_lv (lv2 := [(0, .int p0)]) [0] rfl ?_
  refine w_iload_n C 0 d_M_isLeaf_0 rfl rfl ?_
  refine w_iconst (v := 0) C d_M_isLeaf_1 rfl ?_
  refine w_bipush (v := 11) C d_M_isLeaf_2 rfl ?_
  refine w_callMi C (w_runS C (c_M_in ) m_647 m_648 m_41 m_649 ⟨rfl, rfl⟩ hd_M_in rfl ⟨Nat.le_of_ble_eq_true rfl, Nat.le_of_ble_eq_true rfl⟩ rfl (Nat.le_of_ble_eq_true rfl) d_M_isLeaf_4 ⟨Nat.le_of_ble_eq_true rfl, Nat.le_of_ble_eq_true rfl⟩) (fun r4 u4 h4 => ?_)
  obtain ⟨rfl, h4⟩ := h4; have h4 := h4.symm; subst h4
  exact w_zretM C hr (by first | exact Or.inl rfl | exact Or.inr rfl | exact b2i_01 _) d_M_isLeaf_7 (⟨rfl, rfl⟩)
set_option maxHeartbeats 4000000 in
set_option maxRecDepth 100000 in
theorem c_M_isGroup {l : Launch} {D : va_G} {cs : Nat → ClassId} {ad : Nat → Nat} {st mt : Nat → Nat → Int32} {ov : Nat → Int64} {p0 : Int32} : gM l y_M_isGroup b_M_isGroup 1 (some .boolean) ({ frames := 1, cells := 0, slots := 0, locals := 22 } : Room) 0 0 [.int p0] D cs ad st mt ov (QMi D cs ad st ov (fun r u => r = b2i (inb p0 0 3) ∧ u = mt)) := by
  refine gM_of (own := "TwinRegisterModel") (by decide +kernel) rfl (Nat.le_of_ble_eq_true rfl) ?_
  intro p e s m args below meth c C hr
  refine w_lv (lv2 := [(0, .int p0)]) [0] rfl ?_
  refine w_iload_n C 0 d_M_isGroup_0 rfl rfl ?_
  refine w_iconst (v := 0) C d_M_isGroup_1 rfl ?_
  refine w_iconst (v := 3) C d_M_isGroup_2 rfl ?_
  refine w_callMi C (w_runS C (c_M_in ) m_647 m_648 m_41 m_649 ⟨rfl, rfl⟩ hd_M_in rfl ⟨Nat.le_of_ble_eq_true rfl, Nat.le_of_ble_eq_true rfl⟩ rfl (Nat.le_of_ble_eq_true rfl) d_M_isGroup_3 ⟨Nat.le_of_ble_eq_true rfl, Nat.le_of_ble_eq_true rfl⟩) (fun r3 u3 h3 => ?_)
  obtain ⟨rfl, h3⟩ := h3; have h3 := h3.symm; subst h3
  exact w_zretM C hr (by first | exact Or.inl rfl | exact Or.inr rfl | exact b2i_01 _) d_M_isGroup_6 (⟨rfl, rfl⟩)
set_option maxHeartbeats 4000000 in
set_option maxRecDepth 100000 in
theorem l_M_manyOf {p : Program} {l : Launch} {e : Env} {s : State} {m : MethodId} {args : Array Value} {below : List Frame} {meth : Method} {c : Code} {Q : State → Prop} {D : va_G} {cs : Nat → ClassId} {ad : Nat → Nat} {A : Nat → Prop} {cells slots : Nat} {st mt : Nat → Nat → Int32} {ov : Nat → Int64} {x : Int32} (C : Cx p s m args meth c D cs ad A b_M_manyOf 3 "TwinRegisterModel") (hcs : cells ≤ 0 ∧ slots ≤ 0)
    (kx : Wg p l e ({ frames := 0, cells := 0, slots := 0, locals := 0 } : Room) s m args below meth c Q D cs ad A 3 cells slots 24 [(0, .int x), (1, .int (mnM x 12)), (2, .int (nI 12))] [] st mt ov) : ∀ n i : Nat, i + n = 12 → Wg p l e ({ frames := 0, cells := 0, slots := 0, locals := 0 } : Room) s m args below meth c Q D cs ad A 3 cells slots 4 [(0, .int x), (1, .int (mnM x i)), (2, .int (nI i))] [] st mt ov := by
  intro n
  induction n with
  | zero =>
    intro i hi
    have hi9 : 12 = i := by omega
    subst hi9
    refine w_iload_n C 2 d_M_manyOf_4 rfl rfl ?_
    refine w_bipush (v := 12) C d_M_manyOf_5 rfl ?_
    refine w_icmp_ge_t C 24 d_M_manyOf_7 (by decide) (nI_le (a := 12) (b := 12) (Nat.le_refl _) (by decide)) ?_
    exact w_lv [0, 1, 2] rfl kx
  | succ n ih =>
    intro i hi
    have hi2 : i < 12 := by omega
    refine w_iload_n C 2 d_M_manyOf_4 rfl rfl ?_
    refine w_bipush (v := 12) C d_M_manyOf_5 rfl ?_
    refine w_icmp_ge_f C 24 d_M_manyOf_7 (by decide) (nI_ge (b := 12) hi2 (by decide)) ?_
    refine w_iload_n C 1 d_M_manyOf_10 rfl rfl ?_
    refine w_iload_n C 0 d_M_manyOf_11 rfl rfl ?_
    refine w_iload_n C 2 d_M_manyOf_12 rfl rfl ?_
    refine w_ishr C d_M_manyOf_13 ?_
    refine w_iconst (v := 1) C d_M_manyOf_14 rfl ?_
    refine w_iand C d_M_manyOf_15 ?_
    refine w_iadd C d_M_manyOf_16 ?_
    refine w_istore_n (lv2 := [(1, .int _), (0, .int x), (2, .int (nI i))]) C d_M_manyOf_17 rfl (by decide) rfl ?_
    refine w_iinc (lv2 := [(2, .int (nI (i + 1))), (1, .int _), (0, .int x)]) C 2 d_M_manyOf_18 rfl (nI_1 _) (by decide) rfl ?_
    refine w_goto C 4 d_M_manyOf_21 (by decide) ?_
    have ih9 := ih (i + 1) (by omega)
    rw [show mnM x (i + 1) = _ from rfl] at ih9
    exact w_lv [2, 1, 0] rfl ih9
set_option maxHeartbeats 4000000 in
set_option maxRecDepth 100000 in
theorem c_M_manyOf {l : Launch} {D : va_G} {cs : Nat → ClassId} {ad : Nat → Nat} {st mt : Nat → Nat → Int32} {ov : Nat → Int64} {x : Int32} : gM l y_M_manyOf b_M_manyOf 3 (some .int) ({ frames := 0, cells := 0, slots := 0, locals := 0 } : Room) 0 0 [.int x] D cs ad st mt ov (QMi D cs ad st ov (fun r u => r = mnM x 12 ∧ u = mt)) := by
  refine gM_of (own := "TwinRegisterModel") (by decide +kernel) rfl (Nat.le_of_ble_eq_true rfl) ?_
  intro p e s m args below meth c C hr
  refine w_lv (lv2 := [(0, .int x)]) [0] rfl ?_
  refine w_iconst (v := 0) C d_M_manyOf_0 rfl ?_
  refine w_istore_n (lv2 := [(1, .int 0), (0, .int x)]) C d_M_manyOf_1 rfl (by decide) rfl ?_
  refine w_iconst (v := 0) C d_M_manyOf_2 rfl ?_
  refine w_istore_n (lv2 := [(2, .int 0), (1, .int 0), (0, .int x)]) C d_M_manyOf_3 rfl (by decide) rfl ?_
  refine w_lv (lv2 := [(0, .int x), (1, .int (mnM x 0)), (2, .int (nI 0))]) [2, 1, 0] rfl ?_
  refine l_M_manyOf C ⟨Nat.le_of_ble_eq_true rfl, Nat.le_of_ble_eq_true rfl⟩ ?_ 12 0 rfl
  refine w_iload_n C 1 d_M_manyOf_24 rfl rfl ?_
  exact w_iretM C hr d_M_manyOf_25 (⟨rfl, rfl⟩)
set_option maxHeartbeats 4000000 in
set_option maxRecDepth 100000 in
theorem l_M_drafted {p : Program} {l : Launch} {e : Env} {s : State} {m : MethodId} {args : Array Value} {below : List Frame} {meth : Method} {c : Code} {Q : State → Prop} {D : va_G} {cs : Nat → ClassId} {ad : Nat → Nat} {A : Nat → Prop} {cells slots : Nat} {st mt : Nat → Nat → Int32} {ov : Nat → Int64} (C : Cx p s m args meth c D cs ad A b_M_drafted 3 "TwinRegisterModel") (hcs : cells ≤ 0 ∧ slots ≤ 0)
    (kx : Wg p l e ({ frames := 0, cells := 0, slots := 0, locals := 0 } : Room) s m args below meth c Q D cs ad A 3 cells slots 33 [(0, .ref (ad 50)), (1, .int (drM mt 12)), (2, .int (nI 12))] [] st mt ov) : ∀ n i : Nat, i + n = 12 → Wg p l e ({ frames := 0, cells := 0, slots := 0, locals := 0 } : Room) s m args below meth c Q D cs ad A 3 cells slots 4 [(0, .ref (ad 50)), (1, .int (drM mt i)), (2, .int (nI i))] [] st mt ov := by
  intro n
  induction n with
  | zero =>
    intro i hi
    have hi9 : 12 = i := by omega
    subst hi9
    refine w_iload_n C 2 d_M_drafted_4 rfl rfl ?_
    refine w_bipush (v := 12) C d_M_drafted_5 rfl ?_
    refine w_icmp_ge_t C 33 d_M_drafted_7 (by decide) (nI_le (a := 12) (b := 12) (Nat.le_refl _) (by decide)) ?_
    exact w_lv [0, 1, 2] rfl kx
  | succ n ih =>
    intro i hi
    have hi2 : i < 12 := by omega
    refine w_iload_n C 2 d_M_drafted_4 rfl rfl ?_
    refine w_bipush (v := 12) C d_M_drafted_5 rfl ?_
    refine w_icmp_ge_f C 33 d_M_drafted_7 (by decide) (nI_ge (b := 12) hi2 (by decide)) ?_
    refine w_iload_n C 1 d_M_drafted_10 rfl rfl ?_
    refine w_aload_n C 0 d_M_drafted_11 rfl rfl ?_
    refine g_M_draft C m_576 d_M_drafted_12 ?_
    refine w_iload_n C 2 d_M_drafted_15 rfl rfl ?_
    refine ia_MA C 8 (by omega) (by omega) rfl rfl (show _ < 12 by omega) d_M_drafted_16 ?_
    refine w_if_le C 24 d_M_drafted_17 (by decide) (fun h17 => ?_) (fun h17 => ?_)
    · skip
      refine w_iconst (v := 0) C d_M_drafted_24 rfl ?_
      refine w_iadd C d_M_drafted_25 ?_
      refine w_istore_n (lv2 := [(1, .int _), (0, .ref (ad 50)), (2, .int (nI i))]) C d_M_drafted_26 rfl (by decide) rfl ?_
      refine w_iinc (lv2 := [(2, .int (nI (i + 1))), (1, .int _), (0, .ref (ad 50))]) C 2 d_M_drafted_27 rfl (nI_1 _) (by decide) rfl ?_
      refine w_goto C 4 d_M_drafted_30 (by decide) ?_
      have ih9 := ih (i + 1) (by omega)
      rw [show drM mt (i + 1) = _ from drS_t h17] at ih9
      exact w_lv [2, 1, 0] rfl ih9
    · skip
      refine w_iconst (v := 1) C d_M_drafted_20 rfl ?_
      refine w_goto C 25 d_M_drafted_21 (by decide) ?_
      refine w_iadd C d_M_drafted_25 ?_
      refine w_istore_n (lv2 := [(1, .int _), (0, .ref (ad 50)), (2, .int (nI i))]) C d_M_drafted_26 rfl (by decide) rfl ?_
      refine w_iinc (lv2 := [(2, .int (nI (i + 1))), (1, .int _), (0, .ref (ad 50))]) C 2 d_M_drafted_27 rfl (nI_1 _) (by decide) rfl ?_
      refine w_goto C 4 d_M_drafted_30 (by decide) ?_
      have ih9 := ih (i + 1) (by omega)
      rw [show drM mt (i + 1) = _ from drS_f h17] at ih9
      exact w_lv [2, 1, 0] rfl ih9
set_option maxHeartbeats 4000000 in
set_option maxRecDepth 100000 in
theorem c_M_drafted {l : Launch} {D : va_G} {cs : Nat → ClassId} {ad : Nat → Nat} {st mt : Nat → Nat → Int32} {ov : Nat → Int64}  : gM l y_M_drafted b_M_drafted 3 (some .int) ({ frames := 0, cells := 0, slots := 0, locals := 0 } : Room) 0 0 [.ref (ad 50)] D cs ad st mt ov (QMi D cs ad st ov (fun r u => r = drM mt 12 ∧ u = mt)) := by
  refine gM_of (own := "TwinRegisterModel") (by decide +kernel) rfl (Nat.le_of_ble_eq_true rfl) ?_
  intro p e s m args below meth c C hr
  refine w_lv (lv2 := [(0, .ref (ad 50))]) [0] rfl ?_
  refine w_iconst (v := 0) C d_M_drafted_0 rfl ?_
  refine w_istore_n (lv2 := [(1, .int 0), (0, .ref (ad 50))]) C d_M_drafted_1 rfl (by decide) rfl ?_
  refine w_iconst (v := 0) C d_M_drafted_2 rfl ?_
  refine w_istore_n (lv2 := [(2, .int 0), (1, .int 0), (0, .ref (ad 50))]) C d_M_drafted_3 rfl (by decide) rfl ?_
  refine w_lv (lv2 := [(0, .ref (ad 50)), (1, .int (drM mt 0)), (2, .int (nI 0))]) [2, 1, 0] rfl ?_
  refine l_M_drafted C ⟨Nat.le_of_ble_eq_true rfl, Nat.le_of_ble_eq_true rfl⟩ ?_ 12 0 rfl
  refine w_iload_n C 1 d_M_drafted_33 rfl rfl ?_
  exact w_iretM C hr d_M_drafted_34 (⟨rfl, rfl⟩)
set_option maxHeartbeats 4000000 in
set_option maxRecDepth 100000 in
theorem l_M_empties {p : Program} {l : Launch} {e : Env} {s : State} {m : MethodId} {args : Array Value} {below : List Frame} {meth : Method} {c : Code} {Q : State → Prop} {D : va_G} {cs : Nat → ClassId} {ad : Nat → Nat} {A : Nat → Prop} {cells slots : Nat} {st mt : Nat → Nat → Int32} {ov : Nat → Int64} (C : Cx p s m args meth c D cs ad A b_M_empties 2 "TwinRegisterModel") (hcs : cells ≤ 0 ∧ slots ≤ 0)
    (kx : Wg p l e ({ frames := 0, cells := 0, slots := 0, locals := 0 } : Room) s m args below meth c Q D cs ad A 2 cells slots 21 [(0, .ref (ad 50)), (1, .int (nI 12))] [] st (emM mt 12) ov) : ∀ n i : Nat, i + n = 12 → Wg p l e ({ frames := 0, cells := 0, slots := 0, locals := 0 } : Room) s m args below meth c Q D cs ad A 2 cells slots 2 [(0, .ref (ad 50)), (1, .int (nI i))] [] st (emM mt i) ov := by
  intro n
  induction n with
  | zero =>
    intro i hi
    have hi9 : 12 = i := by omega
    subst hi9
    refine w_iload_n C 1 d_M_empties_2 rfl rfl ?_
    refine w_bipush (v := 12) C d_M_empties_3 rfl ?_
    refine w_icmp_ge_t C 21 d_M_empties_5 (by decide) (nI_le (a := 12) (b := 12) (Nat.le_refl _) (by decide)) ?_
    exact w_lv [0, 1] rfl kx
  | succ n ih =>
    intro i hi
    have hi2 : i < 12 := by omega
    refine w_iload_n C 1 d_M_empties_2 rfl rfl ?_
    refine w_bipush (v := 12) C d_M_empties_3 rfl ?_
    refine w_icmp_ge_f C 21 d_M_empties_5 (by decide) (nI_ge (b := 12) hi2 (by decide)) ?_
    refine w_aload_n C 0 d_M_empties_8 rfl rfl ?_
    refine g_M_draft C m_576 d_M_empties_9 ?_
    refine w_iload_n C 1 d_M_empties_12 rfl rfl ?_
    refine w_iconst (v := 0) C d_M_empties_13 rfl ?_
    refine is_MA C 8 (by omega) (by omega) rfl rfl (show _ < 12 by omega) d_M_empties_14 ?_
    refine w_iinc (lv2 := [(1, .int (nI (i + 1))), (0, .ref (ad 50))]) C 1 d_M_empties_15 rfl (nI_1 _) (by decide) rfl ?_
    refine w_goto C 2 d_M_empties_18 (by decide) ?_
    refine w_mt (mt2 := emM mt (i + 1)) (rfl) ?_
    exact w_lv [1, 0] rfl (ih (i + 1) (by omega))
set_option maxHeartbeats 4000000 in
set_option maxRecDepth 100000 in
theorem c_M_empties {l : Launch} {D : va_G} {cs : Nat → ClassId} {ad : Nat → Nat} {st mt : Nat → Nat → Int32} {ov : Nat → Int64}  : gM l y_M_empties b_M_empties 2 none ({ frames := 0, cells := 0, slots := 0, locals := 0 } : Room) 0 0 [.ref (ad 50)] D cs ad st mt ov (QMv D cs ad st ov (fun u => u = emM mt 12)) := by
  refine gM_of (own := "TwinRegisterModel") (by decide +kernel) rfl (Nat.le_of_ble_eq_true rfl) ?_
  intro p e s m args below meth c C hr
  refine w_lv (lv2 := [(0, .ref (ad 50))]) [0] rfl ?_
  refine w_iconst (v := 0) C d_M_empties_0 rfl ?_
  refine w_istore_n (lv2 := [(1, .int 0), (0, .ref (ad 50))]) C d_M_empties_1 rfl (by decide) rfl ?_
  refine w_lv (lv2 := [(0, .ref (ad 50)), (1, .int (nI 0))]) [1, 0] rfl ?_
  refine l_M_empties C ⟨Nat.le_of_ble_eq_true rfl, Nat.le_of_ble_eq_true rfl⟩ ?_ 12 0 rfl
  exact w_vretM C hr d_M_empties_21 (rfl)
set_option maxHeartbeats 4000000 in
set_option maxRecDepth 100000 in
theorem c_M_differs {l : Launch} {D : va_G} {cs : Nat → ClassId} {ad : Nat → Nat} {st mt : Nat → Nat → Int32} {ov : Nat → Int64} {q k : Nat} (hq : q < 8) (hk : k < 12) : gM l y_M_differs b_M_differs 4 (some .boolean) ({ frames := 0, cells := 0, slots := 0, locals := 0 } : Room) 0 0 [.ref (ad 50), .int (nI q), .int (nI k)] D cs ad st mt ov (QMi D cs ad st ov (fun r u => r = b2i (difM mt q k) ∧ u = mt)) := by
  refine gM_of (own := "TwinRegisterModel") (by decide +kernel) rfl (Nat.le_of_ble_eq_true rfl) ?_
  intro p e s m args below meth c C hr
  refine w_lv (lv2 := [(0, .ref (ad 50)), (1, .int (nI q)), (2, .int (nI k))]) [0, 1, 2] rfl ?_
  refine w_bipush (v := 12) C d_M_differs_0 rfl ?_
  refine w_iload_n C 1 d_M_differs_2 rfl rfl ?_
  refine w_imul C d_M_differs_3 ?_
  refine w_iload_n C 2 d_M_differs_4 rfl rfl ?_
  refine w_iadd C d_M_differs_5 ?_
  refine w_topi (y := (nI (12 * q + k))) (ix12 _ _) ?_
  refine w_istore_n (lv2 := [(3, .int (nI (12 * q + k))), (0, .ref (ad 50)), (1, .int (nI q)), (2, .int (nI k))]) C d_M_differs_6 rfl (by decide) rfl ?_
  refine w_aload_n C 1 d_M_differs_7 rfl rfl ?_
  refine g_M_wished C m_569 d_M_differs_8 ?_
  refine w_iload_n C 0 d_M_differs_11 rfl rfl ?_
  refine ia_MA C 1 (by omega) (by omega) rfl rfl (show _ < 96 by omega) d_M_differs_12 ?_
  refine w_if_le C 44 d_M_differs_13 (by decide) (fun h13 => ?_) (fun h13 => ?_)
  · skip
    refine w_iconst (v := 0) C d_M_differs_44 rfl ?_
    exact w_zretM C hr (by first | exact Or.inl rfl | exact Or.inr rfl | exact b2i_01 _) d_M_differs_45 (⟨by simp [difM, b2i, h13], rfl⟩)
  · skip
    refine w_aload_n C 1 d_M_differs_16 rfl rfl ?_
    refine g_M_reported C m_570 d_M_differs_17 ?_
    refine w_iload_n C 0 d_M_differs_20 rfl rfl ?_
    refine ia_MA C 2 (by omega) (by omega) rfl rfl (show _ < 96 by omega) d_M_differs_21 ?_
    refine w_aload_n C 1 d_M_differs_22 rfl rfl ?_
    refine g_M_wished C m_569 d_M_differs_23 ?_
    refine w_iload_n C 0 d_M_differs_26 rfl rfl ?_
    refine ia_MA C 1 (by omega) (by omega) rfl rfl (show _ < 96 by omega) d_M_differs_27 ?_
    refine w_icmp_eq C 44 d_M_differs_28 (by decide) (fun h28 => ?_) (fun h28 => ?_)
    · skip
      refine w_iconst (v := 0) C d_M_differs_44 rfl ?_
      exact w_zretM C hr (by first | exact Or.inl rfl | exact Or.inr rfl | exact b2i_01 _) d_M_differs_45 (⟨by simp [difM, b2i, h13, h28], rfl⟩)
    · skip
      refine w_aload_n C 1 d_M_differs_31 rfl rfl ?_
      refine g_M_reason C m_571 d_M_differs_32 ?_
      refine w_iload_n C 0 d_M_differs_35 rfl rfl ?_
      refine ia_MA C 3 (by omega) (by omega) rfl rfl (show _ < 96 by omega) d_M_differs_36 ?_
      refine w_if_ne C 44 d_M_differs_37 (by decide) (fun h37 => ?_) (fun h37 => ?_)
      · skip
        refine w_iconst (v := 0) C d_M_differs_44 rfl ?_
        exact w_zretM C hr (by first | exact Or.inl rfl | exact Or.inr rfl | exact b2i_01 _) d_M_differs_45 (⟨by simp [difM, b2i, h13, h28, h37], rfl⟩)
      · skip
        refine w_iconst (v := 1) C d_M_differs_40 rfl ?_
        refine w_goto C 45 d_M_differs_41 (by decide) ?_
        exact w_zretM C hr (by first | exact Or.inl rfl | exact Or.inr rfl | exact b2i_01 _) d_M_differs_45 (⟨by simp [difM, b2i, h13, h28, h37], rfl⟩)
set_option maxHeartbeats 4000000 in
set_option maxRecDepth 100000 in
theorem l_M_differing {p : Program} {l : Launch} {e : Env} {s : State} {m : MethodId} {args : Array Value} {below : List Frame} {meth : Method} {c : Code} {Q : State → Prop} {D : va_G} {cs : Nat → ClassId} {ad : Nat → Nat} {A : Nat → Prop} {cells slots : Nat} {st mt : Nat → Nat → Int32} {ov : Nat → Int64} {q : Nat} (hq : q < 8) (C : Cx p s m args meth c D cs ad A b_M_differing 4 "TwinRegisterModel") (hcs : cells ≤ 0 ∧ slots ≤ 0)
    (kx : Wg p l e ({ frames := 1, cells := 0, slots := 0, locals := 23 } : Room) s m args below meth c Q D cs ad A 4 cells slots 35 [(0, .ref (ad 50)), (1, .int (nI q)), (2, .int (dgM mt q 12)), (3, .int (nI 12))] [] st mt ov) : ∀ n i : Nat, i + n = 12 → Wg p l e ({ frames := 1, cells := 0, slots := 0, locals := 23 } : Room) s m args below meth c Q D cs ad A 4 cells slots 4 [(0, .ref (ad 50)), (1, .int (nI q)), (2, .int (dgM mt q i)), (3, .int (nI i))] [] st mt ov := by
  intro n
  induction n with
  | zero =>
    intro i hi
    have hi9 : 12 = i := by omega
    subst hi9
    refine w_iload_n C 3 d_M_differing_4 rfl rfl ?_
    refine w_bipush (v := 12) C d_M_differing_5 rfl ?_
    refine w_icmp_ge_t C 35 d_M_differing_7 (by decide) (nI_le (a := 12) (b := 12) (Nat.le_refl _) (by decide)) ?_
    exact w_lv [0, 1, 2, 3] rfl kx
  | succ n ih =>
    intro i hi
    have hi2 : i < 12 := by omega
    refine w_iload_n C 3 d_M_differing_4 rfl rfl ?_
    refine w_bipush (v := 12) C d_M_differing_5 rfl ?_
    refine w_icmp_ge_f C 35 d_M_differing_7 (by decide) (nI_ge (b := 12) hi2 (by decide)) ?_
    refine w_iload_n C 2 d_M_differing_10 rfl rfl ?_
    refine w_aload_n C 0 d_M_differing_11 rfl rfl ?_
    refine w_iload_n C 1 d_M_differing_12 rfl rfl ?_
    refine w_iload_n C 3 d_M_differing_13 rfl rfl ?_
    refine w_callMi C (w_runV C (c_M_differs (by omega) (by omega)) (by omega) e_M rfl rfl m_681 m_683 m_27 m_41 m_684 ⟨rfl, rfl⟩ hd_M_differs rfl ⟨Nat.le_of_ble_eq_true rfl, Nat.le_of_ble_eq_true rfl⟩ rfl (Nat.le_of_ble_eq_true rfl) d_M_differing_14 hcs) (fun r14 u14 h14 => ?_)
    obtain ⟨rfl, h14⟩ := h14; have h14 := h14.symm; subst h14
    refine w_ifb_eq C 26 d_M_differing_17 (by decide) (fun h17 => ?_) (fun h17 => ?_)
    · skip
      refine w_iconst (v := 0) C d_M_differing_26 rfl ?_
      refine w_ior C d_M_differing_27 ?_
      refine w_istore_n (lv2 := [(2, .int _), (0, .ref (ad 50)), (1, .int (nI q)), (3, .int (nI i))]) C d_M_differing_28 rfl (by decide) rfl ?_
      refine w_iinc (lv2 := [(3, .int (nI (i + 1))), (2, .int _), (0, .ref (ad 50)), (1, .int (nI q))]) C 3 d_M_differing_29 rfl (nI_1 _) (by decide) rfl ?_
      refine w_goto C 4 d_M_differing_32 (by decide) ?_
      have ih9 := ih (i + 1) (by omega)
      rw [show dgM mt q (i + 1) = _ from dgS_f h17] at ih9
      exact w_lv [2, 3, 1, 0] rfl ih9
    · skip
      refine w_iconst (v := 1) C d_M_differing_20 rfl ?_
      refine w_iload_n C 3 d_M_differing_21 rfl rfl ?_
      refine w_ishl C d_M_differing_22 ?_
      refine w_goto C 27 d_M_differing_23 (by decide) ?_
      refine w_ior C d_M_differing_27 ?_
      refine w_istore_n (lv2 := [(2, .int _), (0, .ref (ad 50)), (1, .int (nI q)), (3, .int (nI i))]) C d_M_differing_28 rfl (by decide) rfl ?_
      refine w_iinc (lv2 := [(3, .int (nI (i + 1))), (2, .int _), (0, .ref (ad 50)), (1, .int (nI q))]) C 3 d_M_differing_29 rfl (nI_1 _) (by decide) rfl ?_
      refine w_goto C 4 d_M_differing_32 (by decide) ?_
      have ih9 := ih (i + 1) (by omega)
      rw [show dgM mt q (i + 1) = _ from dgS_t h17] at ih9
      exact w_lv [2, 3, 1, 0] rfl ih9
set_option maxHeartbeats 4000000 in
set_option maxRecDepth 100000 in
theorem c_M_differing {l : Launch} {D : va_G} {cs : Nat → ClassId} {ad : Nat → Nat} {st mt : Nat → Nat → Int32} {ov : Nat → Int64} {q : Nat} (hq : q < 8) : gM l y_M_differing b_M_differing 4 (some .int) ({ frames := 1, cells := 0, slots := 0, locals := 23 } : Room) 0 0 [.ref (ad 50), .int (nI q)] D cs ad st mt ov (QMi D cs ad st ov (fun r u => r = dgM mt q 12 ∧ u = mt)) := by
  refine gM_of (own := "TwinRegisterModel") (by decide +kernel) rfl (Nat.le_of_ble_eq_true rfl) ?_
  intro p e s m args below meth c C hr
  refine w_lv (lv2 := [(0, .ref (ad 50)), (1, .int (nI q))]) [0, 1] rfl ?_
  refine w_iconst (v := 0) C d_M_differing_0 rfl ?_
  refine w_istore_n (lv2 := [(2, .int 0), (0, .ref (ad 50)), (1, .int (nI q))]) C d_M_differing_1 rfl (by decide) rfl ?_
  refine w_iconst (v := 0) C d_M_differing_2 rfl ?_
  refine w_istore_n (lv2 := [(3, .int 0), (2, .int 0), (0, .ref (ad 50)), (1, .int (nI q))]) C d_M_differing_3 rfl (by decide) rfl ?_
  refine w_lv (lv2 := [(0, .ref (ad 50)), (1, .int (nI q)), (2, .int (dgM mt q 0)), (3, .int (nI 0))]) [2, 3, 1, 0] rfl ?_
  refine l_M_differing hq C ⟨Nat.le_of_ble_eq_true rfl, Nat.le_of_ble_eq_true rfl⟩ ?_ 12 0 rfl
  refine w_iload_n C 2 d_M_differing_35 rfl rfl ?_
  exact w_iretM C hr d_M_differing_36 (⟨rfl, rfl⟩)
set_option maxHeartbeats 4000000 in
set_option maxRecDepth 100000 in
theorem c_M_wishes {l : Launch} {D : va_G} {cs : Nat → ClassId} {ad : Nat → Nat} {st mt : Nat → Nat → Int32} {ov : Nat → Int64} {q k : Nat} (hq : q < 8) (hk : k < 12) {v : Int32} : gM l y_M_wishes b_M_wishes 4 none ({ frames := 0, cells := 0, slots := 0, locals := 0 } : Room) 0 0 [.ref (ad 50), .int (nI q), .int (nI k), .int v] D cs ad st mt ov (QMv D cs ad st ov (fun u => u = wiM mt q k v)) := by
  refine gM_of (own := "TwinRegisterModel") (by decide +kernel) rfl (Nat.le_of_ble_eq_true rfl) ?_
  intro p e s m args below meth c C hr
  refine w_lv (lv2 := [(0, .ref (ad 50)), (1, .int (nI q)), (2, .int (nI k)), (3, .int v)]) [0, 1, 2, 3] rfl ?_
  refine w_aload_n C 0 d_M_wishes_0 rfl rfl ?_
  refine g_M_wished C m_569 d_M_wishes_1 ?_
  refine w_bipush (v := 12) C d_M_wishes_4 rfl ?_
  refine w_iload_n C 1 d_M_wishes_6 rfl rfl ?_
  refine w_imul C d_M_wishes_7 ?_
  refine w_iload_n C 2 d_M_wishes_8 rfl rfl ?_
  refine w_iadd C d_M_wishes_9 ?_
  refine w_topi (y := (nI (12 * q + k))) (ix12 _ _) ?_
  refine w_iload_n C 3 d_M_wishes_10 rfl rfl ?_
  refine is_MA C 1 (by omega) (by omega) rfl rfl (show _ < 96 by omega) d_M_wishes_11 ?_
  refine w_aload_n C 0 d_M_wishes_12 rfl rfl ?_
  refine g_M_reason C m_571 d_M_wishes_13 ?_
  refine w_bipush (v := 12) C d_M_wishes_16 rfl ?_
  refine w_iload_n C 1 d_M_wishes_18 rfl rfl ?_
  refine w_imul C d_M_wishes_19 ?_
  refine w_iload_n C 2 d_M_wishes_20 rfl rfl ?_
  refine w_iadd C d_M_wishes_21 ?_
  refine w_topi (y := (nI (12 * q + k))) (ix12 _ _) ?_
  refine w_iconst (v := 0) C d_M_wishes_22 rfl ?_
  refine is_MA C 3 (by omega) (by omega) rfl rfl (show _ < 96 by omega) d_M_wishes_23 ?_
  exact w_vretM C hr d_M_wishes_24 (rfl)
set_option maxHeartbeats 4000000 in
set_option maxRecDepth 100000 in
theorem c_M_heardOf {l : Launch} {D : va_G} {cs : Nat → ClassId} {ad : Nat → Nat} {st mt : Nat → Nat → Int32} {ov : Nat → Int64} {q : Nat} (hq : q < 8) : gM l y_M_heardOf b_M_heardOf 2 (some .int) ({ frames := 0, cells := 0, slots := 0, locals := 0 } : Room) 0 0 [.ref (ad 50), .int (nI q)] D cs ad st mt ov (QMi D cs ad st ov (fun r u => r = heM mt q ∧ u = mt)) := by
  refine gM_of (own := "TwinRegisterModel") (by decide +kernel) rfl (Nat.le_of_ble_eq_true rfl) ?_
  intro p e s m args below meth c C hr
  refine w_lv (lv2 := [(0, .ref (ad 50)), (1, .int (nI q))]) [0, 1] rfl ?_
  refine w_aload_n C 0 d_M_heardOf_0 rfl rfl ?_
  refine g_M_isAsleep C m_574 d_M_heardOf_1 ?_
  refine w_iload_n C 1 d_M_heardOf_4 rfl rfl ?_
  refine ia_MZ (pl := 56) C rfl (by omega) d_M_heardOf_5 ?_
  refine w_if_eq C 18 d_M_heardOf_6 (by decide) (fun h6 => ?_) (fun h6 => ?_)
  · skip
    refine w_aload_n C 0 d_M_heardOf_18 rfl rfl ?_
    refine g_M_version C m_572 d_M_heardOf_19 ?_
    refine w_iload_n C 1 d_M_heardOf_22 rfl rfl ?_
    refine ia_MA C 4 (by omega) (by omega) rfl rfl (show _ < 8 by omega) d_M_heardOf_23 ?_
    exact w_iretM C hr d_M_heardOf_24 (⟨by simp [heM, h6], rfl⟩)
  · skip
    refine w_aload_n C 0 d_M_heardOf_9 rfl rfl ?_
    refine g_M_heard C m_573 d_M_heardOf_10 ?_
    refine w_iload_n C 1 d_M_heardOf_13 rfl rfl ?_
    refine ia_MA C 5 (by omega) (by omega) rfl rfl (show _ < 8 by omega) d_M_heardOf_14 ?_
    refine w_goto C 24 d_M_heardOf_15 (by decide) ?_
    exact w_iretM C hr d_M_heardOf_24 (⟨by simp [heM, h6], rfl⟩)
set_option maxHeartbeats 4000000 in
set_option maxRecDepth 100000 in
theorem l_M_membersOf {p : Program} {l : Launch} {e : Env} {s : State} {m : MethodId} {args : Array Value} {below : List Frame} {meth : Method} {c : Code} {Q : State → Prop} {D : va_G} {cs : Nat → ClassId} {ad : Nat → Nat} {A : Nat → Prop} {cells slots : Nat} {st mt : Nat → Nat → Int32} {ov : Nat → Int64} {g k : Nat} (hg : g < 4) (hk : k < 12) (hl : mt 9 g = nI k) (C : Cx p s m args meth c D cs ad A b_M_membersOf 5 "TwinRegisterModel") (hcs : cells ≤ 0 ∧ slots ≤ 0)
    (kx : Wg p l e ({ frames := 1, cells := 0, slots := 0, locals := 22 } : Room) s m args below meth c Q D cs ad A 5 cells slots 66 [(0, .ref (ad 50)), (1, .int (nI g)), (2, .int (mbM mt g k 8)), (3, .int (nI 8))] [] st mt ov) : ∀ n i : Nat, i + n = 8 → Wg p l e ({ frames := 1, cells := 0, slots := 0, locals := 22 } : Room) s m args below meth c Q D cs ad A 5 cells slots 4 [(0, .ref (ad 50)), (1, .int (nI g)), (2, .int (mbM mt g k i)), (3, .int (nI i))] [] st mt ov := by
  intro n
  induction n with
  | zero =>
    intro i hi
    have hi9 : 8 = i := by omega
    subst hi9
    refine w_iload_n C 3 d_M_membersOf_4 rfl rfl ?_
    refine w_bipush (v := 8) C d_M_membersOf_5 rfl ?_
    refine w_icmp_ge_t C 66 d_M_membersOf_7 (by decide) (nI_le (a := 8) (b := 8) (Nat.le_refl _) (by decide)) ?_
    exact w_lv [0, 1, 2, 3] rfl kx
  | succ n ih =>
    intro i hi
    have hi2 : i < 8 := by omega
    refine w_iload_n C 3 d_M_membersOf_4 rfl rfl ?_
    refine w_bipush (v := 8) C d_M_membersOf_5 rfl ?_
    refine w_icmp_ge_f C 66 d_M_membersOf_7 (by decide) (nI_ge (b := 8) hi2 (by decide)) ?_
    refine w_aload_n C 0 d_M_membersOf_10 rfl rfl ?_
    refine g_M_reported C m_570 d_M_membersOf_11 ?_
    refine w_bipush (v := 12) C d_M_membersOf_14 rfl ?_
    refine w_iload_n C 3 d_M_membersOf_16 rfl rfl ?_
    refine w_imul C d_M_membersOf_17 ?_
    refine w_aload_n C 0 d_M_membersOf_18 rfl rfl ?_
    refine g_M_groupLeaf C m_577 d_M_membersOf_19 ?_
    refine w_iload_n C 1 d_M_membersOf_22 rfl rfl ?_
    refine ia_MA C 9 (by omega) (by omega) rfl rfl (show _ < 4 by omega) d_M_membersOf_23 ?_
    refine w_iadd C d_M_membersOf_24 ?_
    refine w_topi (y := (nI (12 * i + k))) (by rw [hl]; exact ix12 _ _) ?_
    refine ia_MA C 2 (by omega) (by omega) rfl rfl (show _ < 96 by omega) d_M_membersOf_25 ?_
    refine w_iconst (v := 1) C d_M_membersOf_26 rfl ?_
    refine w_isub C d_M_membersOf_27 ?_
    refine w_istore (lv2 := [(4, .int _), (0, .ref (ad 50)), (1, .int (nI g)), (2, .int (mbM mt g k i)), (3, .int (nI i))]) C d_M_membersOf_28 (by decide) rfl ?_
    refine w_iload_n C 3 d_M_membersOf_30 rfl rfl ?_
    refine w_iload C 0 d_M_membersOf_31 rfl ?_
    refine w_aload_n C 1 d_M_membersOf_33 rfl rfl ?_
    refine g_M_low C m_578 d_M_membersOf_34 ?_
    refine w_iload_n C 2 d_M_membersOf_37 rfl rfl ?_
    refine ia_MA C 10 (by omega) (by omega) rfl rfl (show _ < 4 by omega) d_M_membersOf_38 ?_
    refine w_aload_n C 1 d_M_membersOf_39 rfl rfl ?_
    refine g_M_high C m_579 d_M_membersOf_40 ?_
    refine w_iload_n C 2 d_M_membersOf_43 rfl rfl ?_
    refine ia_MA C 11 (by omega) (by omega) rfl rfl (show _ < 4 by omega) d_M_membersOf_44 ?_
    refine w_callMi C (w_runS C (c_M_in ) m_647 m_648 m_41 m_649 ⟨rfl, rfl⟩ hd_M_in rfl ⟨Nat.le_of_ble_eq_true rfl, Nat.le_of_ble_eq_true rfl⟩ rfl (Nat.le_of_ble_eq_true rfl) d_M_membersOf_45 hcs) (fun r45 u45 h45 => ?_)
    obtain ⟨rfl, h45⟩ := h45; have h45 := h45.symm; subst h45
    refine w_ifb_eq C 57 d_M_membersOf_48 (by decide) (fun h48 => ?_) (fun h48 => ?_)
    · skip
      refine w_iconst (v := 0) C d_M_membersOf_57 rfl ?_
      refine w_ior C d_M_membersOf_58 ?_
      refine w_istore_n (lv2 := [(2, .int _), (4, .int _), (0, .ref (ad 50)), (1, .int (nI g)), (3, .int (nI i))]) C d_M_membersOf_59 rfl (by decide) rfl ?_
      refine w_iinc (lv2 := [(3, .int (nI (i + 1))), (2, .int _), (4, .int _), (0, .ref (ad 50)), (1, .int (nI g))]) C 4 d_M_membersOf_60 rfl (nI_1 _) (by decide) rfl ?_
      refine w_goto C 4 d_M_membersOf_63 (by decide) ?_
      have ih9 := ih (i + 1) (by omega)
      rw [show mbM mt g k (i + 1) = _ from mbS_f h48] at ih9
      exact w_lv [3, 4, 1, 0] rfl ih9
    · skip
      refine w_iconst (v := 1) C d_M_membersOf_51 rfl ?_
      refine w_iload_n C 4 d_M_membersOf_52 rfl rfl ?_
      refine w_ishl C d_M_membersOf_53 ?_
      refine w_goto C 58 d_M_membersOf_54 (by decide) ?_
      refine w_ior C d_M_membersOf_58 ?_
      refine w_istore_n (lv2 := [(2, .int _), (4, .int _), (0, .ref (ad 50)), (1, .int (nI g)), (3, .int (nI i))]) C d_M_membersOf_59 rfl (by decide) rfl ?_
      refine w_iinc (lv2 := [(3, .int (nI (i + 1))), (2, .int _), (4, .int _), (0, .ref (ad 50)), (1, .int (nI g))]) C 4 d_M_membersOf_60 rfl (nI_1 _) (by decide) rfl ?_
      refine w_goto C 4 d_M_membersOf_63 (by decide) ?_
      have ih9 := ih (i + 1) (by omega)
      rw [show mbM mt g k (i + 1) = _ from mbS_t h48] at ih9
      exact w_lv [3, 4, 1, 0] rfl ih9
set_option maxHeartbeats 4000000 in
set_option maxRecDepth 100000 in
theorem c_M_membersOf {l : Launch} {D : va_G} {cs : Nat → ClassId} {ad : Nat → Nat} {st mt : Nat → Nat → Int32} {ov : Nat → Int64} {g k : Nat} (hg : g < 4) (hk : k < 12) (hl : mt 9 g = nI k)  : gM l y_M_membersOf b_M_membersOf 5 (some .int) ({ frames := 1, cells := 0, slots := 0, locals := 22 } : Room) 0 0 [.ref (ad 50), .int (nI g)] D cs ad st mt ov (QMi D cs ad st ov (fun r u => r = mbM mt g k 8 ∧ u = mt)) := by
  refine gM_of (own := "TwinRegisterModel") (by decide +kernel) rfl (Nat.le_of_ble_eq_true rfl) ?_
  intro p e s m args below meth c C hr
  refine w_lv (lv2 := [(0, .ref (ad 50)), (1, .int (nI g))]) [0, 1] rfl ?_
  refine w_iconst (v := 0) C d_M_membersOf_0 rfl ?_
  refine w_istore_n (lv2 := [(2, .int 0), (0, .ref (ad 50)), (1, .int (nI g))]) C d_M_membersOf_1 rfl (by decide) rfl ?_
  refine w_iconst (v := 0) C d_M_membersOf_2 rfl ?_
  refine w_istore_n (lv2 := [(3, .int 0), (2, .int 0), (0, .ref (ad 50)), (1, .int (nI g))]) C d_M_membersOf_3 rfl (by decide) rfl ?_
  refine w_lv (lv2 := [(0, .ref (ad 50)), (1, .int (nI g)), (2, .int (mbM mt g k 0)), (3, .int (nI 0))]) [2, 3, 1, 0] rfl ?_
  refine l_M_membersOf hg hk hl C ⟨Nat.le_of_ble_eq_true rfl, Nat.le_of_ble_eq_true rfl⟩ ?_ 8 0 rfl
  refine w_iload_n C 2 d_M_membersOf_66 rfl rfl ?_
  exact w_iretM C hr d_M_membersOf_67 (⟨rfl, rfl⟩)
set_option maxHeartbeats 4000000 in
set_option maxRecDepth 100000 in
theorem l_M_looks {p : Program} {l : Launch} {e : Env} {s : State} {m : MethodId} {args : Array Value} {below : List Frame} {meth : Method} {c : Code} {Q : State → Prop} {D : va_G} {cs : Nat → ClassId} {ad : Nat → Nat} {A : Nat → Prop} {cells slots : Nat} {st mt : Nat → Nat → Int32} {ov : Nat → Int64} {j k : Nat} (hj : j < 8) (hk : k < 12) (hl : mt 13 j = nI k) (C : Cx p s m args meth c D cs ad A b_M_looks 5 "TwinRegisterModel") (hcs : cells ≤ 0 ∧ slots ≤ 0)
    (kx : Wg p l e ({ frames := 0, cells := 0, slots := 0, locals := 0 } : Room) s m args below meth c Q D cs ad A 5 cells slots 145 [(0, .ref (ad 50)), (1, .int (nI j)), (2, .int (nI 8))] [] st (lkM mt j k 8) ov) : ∀ n i : Nat, i + n = 8 → Wg p l e ({ frames := 0, cells := 0, slots := 0, locals := 0 } : Room) s m args below meth c Q D cs ad A 5 cells slots 2 [(0, .ref (ad 50)), (1, .int (nI j)), (2, .int (nI i))] [] st (lkM mt j k i) ov := by
  intro n
  induction n with
  | zero =>
    intro i hi
    have hi9 : 8 = i := by omega
    subst hi9
    refine w_iload_n C 2 d_M_looks_2 rfl rfl ?_
    refine w_bipush (v := 8) C d_M_looks_3 rfl ?_
    refine w_icmp_ge_t C 145 d_M_looks_5 (by decide) (nI_le (a := 8) (b := 8) (Nat.le_refl _) (by decide)) ?_
    exact w_lv [0, 1, 2] rfl kx
  | succ n ih =>
    intro i hi
    have hi2 : i < 8 := by omega
    have hleaf : lkM mt j k i 13 j = nI k := (congrFun (lkM_o (by decide) (by decide) i) j).trans hl
    refine w_iload_n C 2 d_M_looks_2 rfl rfl ?_
    refine w_bipush (v := 8) C d_M_looks_3 rfl ?_
    refine w_icmp_ge_f C 145 d_M_looks_5 (by decide) (nI_ge (b := 8) hi2 (by decide)) ?_
    refine w_bipush (v := 12) C d_M_looks_8 rfl ?_
    refine w_iload_n C 2 d_M_looks_10 rfl rfl ?_
    refine w_imul C d_M_looks_11 ?_
    refine w_aload_n C 0 d_M_looks_12 rfl rfl ?_
    refine g_M_leaf C m_582 d_M_looks_13 ?_
    refine w_iload_n C 1 d_M_looks_16 rfl rfl ?_
    refine ia_MA C 13 (by omega) (by omega) rfl rfl (show _ < 8 by omega) d_M_looks_17 ?_
    refine w_iadd C d_M_looks_18 ?_
    refine w_topi (y := (nI (12 * i + k))) (by rw [hleaf]; exact ix12 _ _) ?_
    refine w_istore_n (lv2 := [(3, .int (nI (12 * i + k))), (0, .ref (ad 50)), (1, .int (nI j)), (2, .int (nI i))]) C d_M_looks_19 rfl (by decide) rfl ?_
    refine w_aload_n C 1 d_M_looks_20 rfl rfl ?_
    refine g_M_started C m_587 d_M_looks_21 ?_
    refine w_iload_n C 2 d_M_looks_24 rfl rfl ?_
    refine ia_MA C 18 (by omega) (by omega) rfl rfl (show _ < 8 by omega) d_M_looks_25 ?_
    refine w_aload_n C 1 d_M_looks_26 rfl rfl ?_
    refine g_M_done C m_588 d_M_looks_27 ?_
    refine w_iload_n C 2 d_M_looks_30 rfl rfl ?_
    refine ia_MA C 19 (by omega) (by omega) rfl rfl (show _ < 8 by omega) d_M_looks_31 ?_
    refine w_iconst (v := (-1)) C d_M_looks_32 rfl ?_
    refine w_ixor C d_M_looks_33 ?_
    refine w_iand C d_M_looks_34 ?_
    refine w_aload_n C 1 d_M_looks_35 rfl rfl ?_
    refine g_M_failed C m_589 d_M_looks_36 ?_
    refine w_iload_n C 2 d_M_looks_39 rfl rfl ?_
    refine ia_MA C 20 (by omega) (by omega) rfl rfl (show _ < 8 by omega) d_M_looks_40 ?_
    refine w_iconst (v := (-1)) C d_M_looks_41 rfl ?_
    refine w_ixor C d_M_looks_42 ?_
    refine w_iand C d_M_looks_43 ?_
    refine w_iload_n C 3 d_M_looks_44 rfl rfl ?_
    refine w_ishr C d_M_looks_45 ?_
    refine w_iconst (v := 1) C d_M_looks_46 rfl ?_
    refine w_iand C d_M_looks_47 ?_
    refine w_iconst (v := 1) C d_M_looks_48 rfl ?_
    refine w_icmp_ne C 56 d_M_looks_49 (by decide) (fun h49 => ?_) (fun h49 => ?_)
    · skip
      refine w_iconst (v := 0) C d_M_looks_56 rfl ?_
      refine w_istore (lv2 := [(4, .int 0), (3, .int (nI (12 * i + k))), (0, .ref (ad 50)), (1, .int (nI j)), (2, .int (nI i))]) C d_M_looks_57 (by decide) rfl ?_
      refine w_iload C 0 d_M_looks_59 rfl ?_
      refine w_if_eq_t C 96 d_M_looks_61 (by decide) (by decide) ?_
      refine w_iload C 0 d_M_looks_96 rfl ?_
      refine w_if_eq_t C 139 d_M_looks_98 (by decide) (by decide) ?_
      refine w_iinc (lv2 := [(2, .int (nI (i + 1))), (4, .int 0), (3, .int (nI (12 * i + k))), (0, .ref (ad 50)), (1, .int (nI j))]) C 4 d_M_looks_139 rfl (nI_1 _) (by decide) rfl ?_
      refine w_goto C 2 d_M_looks_142 (by decide) ?_
      refine w_mt (mt2 := lkM mt j k (i + 1)) ((show lkM mt j k (i + 1) = _ from bf h49).symm) ?_
      exact w_lv [3, 4, 0] rfl (ih (i + 1) (by omega))
    · skip
      refine w_iconst (v := 1) C d_M_looks_52 rfl ?_
      refine w_goto C 57 d_M_looks_53 (by decide) ?_
      refine w_istore (lv2 := [(4, .int 1), (3, .int (nI (12 * i + k))), (0, .ref (ad 50)), (1, .int (nI j)), (2, .int (nI i))]) C d_M_looks_57 (by decide) rfl ?_
      refine w_iload C 0 d_M_looks_59 rfl ?_
      refine w_if_eq_f C 96 d_M_looks_61 (by decide) (by decide) ?_
      refine w_aload_n C 2 d_M_looks_64 rfl rfl ?_
      refine g_M_reported C m_570 d_M_looks_65 ?_
      refine w_iload_n C 1 d_M_looks_68 rfl rfl ?_
      refine ia_MA C 2 (by omega) (by omega) rfl rfl (show _ < 96 by omega) d_M_looks_69 ?_
      refine w_aload_n C 2 d_M_looks_70 rfl rfl ?_
      refine g_M_value C m_583 d_M_looks_71 ?_
      refine w_iload_n C 3 d_M_looks_74 rfl rfl ?_
      refine ia_MA C 14 (by omega) (by omega) rfl rfl (show _ < 8 by omega) d_M_looks_75 ?_
      refine w_iconst (v := 1) C d_M_looks_76 rfl ?_
      refine w_iadd C d_M_looks_77 ?_
      refine w_icmp_ne C 96 d_M_looks_78 (by decide) (fun h78 => ?_) (fun h78 => ?_)
      · skip
        refine w_iload C 0 d_M_looks_96 rfl ?_
        refine w_if_eq_f C 139 d_M_looks_98 (by decide) (by decide) ?_
        refine w_aload_n C 2 d_M_looks_101 rfl rfl ?_
        refine g_M_wished C m_569 d_M_looks_102 ?_
        refine w_iload_n C 1 d_M_looks_105 rfl rfl ?_
        refine ia_MA C 1 (by omega) (by omega) rfl rfl (show _ < 96 by omega) d_M_looks_106 ?_
        refine w_aload_n C 2 d_M_looks_107 rfl rfl ?_
        refine g_M_value C m_583 d_M_looks_108 ?_
        refine w_iload_n C 3 d_M_looks_111 rfl rfl ?_
        refine ia_MA C 14 (by omega) (by omega) rfl rfl (show _ < 8 by omega) d_M_looks_112 ?_
        refine w_iconst (v := 1) C d_M_looks_113 rfl ?_
        refine w_iadd C d_M_looks_114 ?_
        refine w_icmp_ne C 139 d_M_looks_115 (by decide) (fun h115 => ?_) (fun h115 => ?_)
        · skip
          refine w_iinc (lv2 := [(2, .int (nI (i + 1))), (4, .int 1), (3, .int (nI (12 * i + k))), (0, .ref (ad 50)), (1, .int (nI j))]) C 4 d_M_looks_139 rfl (nI_1 _) (by decide) rfl ?_
          refine w_goto C 2 d_M_looks_142 (by decide) ?_
          refine w_mt (mt2 := lkM mt j k (i + 1)) ((show lkM mt j k (i + 1) = _ from (bt h49).trans ((bf h78).trans (bf_l h115))).symm) ?_
          exact w_lv [3, 4, 0] rfl (ih (i + 1) (by omega))
        · skip
          refine w_aload_n C 2 d_M_looks_118 rfl rfl ?_
          refine g_M_reason C m_571 d_M_looks_119 ?_
          refine w_iload_n C 1 d_M_looks_122 rfl rfl ?_
          refine ia_MA C 3 (by omega) (by omega) rfl rfl (show _ < 96 by omega) d_M_looks_123 ?_
          refine w_if_le C 139 d_M_looks_124 (by decide) (fun h124 => ?_) (fun h124 => ?_)
          · skip
            refine w_iinc (lv2 := [(2, .int (nI (i + 1))), (4, .int 1), (3, .int (nI (12 * i + k))), (0, .ref (ad 50)), (1, .int (nI j))]) C 4 d_M_looks_139 rfl (nI_1 _) (by decide) rfl ?_
            refine w_goto C 2 d_M_looks_142 (by decide) ?_
            refine w_mt (mt2 := lkM mt j k (i + 1)) ((show lkM mt j k (i + 1) = _ from (bt h49).trans ((bf h78).trans (bf_r h124))).symm) ?_
            exact w_lv [3, 4, 0] rfl (ih (i + 1) (by omega))
          · skip
            refine w_aload_n C 2 d_M_looks_127 rfl rfl ?_
            refine g_M_failed C m_589 d_M_looks_128 ?_
            refine w_iload_n C 3 d_M_looks_131 rfl rfl ?_
            refine w_dup2 C d_M_looks_132 rfl rfl ?_
            refine ia_MA C 20 (by omega) (by omega) rfl rfl (show _ < 8 by omega) d_M_looks_133 ?_
            refine w_iconst (v := 1) C d_M_looks_134 rfl ?_
            refine w_iload_n C 4 d_M_looks_135 rfl rfl ?_
            refine w_ishl C d_M_looks_136 ?_
            refine w_ior C d_M_looks_137 ?_
            refine is_MA C 20 (by omega) (by omega) rfl rfl (show _ < 8 by omega) d_M_looks_138 ?_
            refine w_iinc (lv2 := [(2, .int (nI (i + 1))), (4, .int 1), (3, .int (nI (12 * i + k))), (0, .ref (ad 50)), (1, .int (nI j))]) C 4 d_M_looks_139 rfl (nI_1 _) (by decide) rfl ?_
            refine w_goto C 2 d_M_looks_142 (by decide) ?_
            refine w_mt (mt2 := lkM mt j k (i + 1)) ((show lkM mt j k (i + 1) = _ from (bt h49).trans ((bf h78).trans (bt_tf h115 h124))).symm) ?_
            exact w_lv [3, 4, 0] rfl (ih (i + 1) (by omega))
      · skip
        refine w_aload_n C 2 d_M_looks_81 rfl rfl ?_
        refine g_M_done C m_588 d_M_looks_82 ?_
        refine w_iload_n C 3 d_M_looks_85 rfl rfl ?_
        refine w_dup2 C d_M_looks_86 rfl rfl ?_
        refine ia_MA C 19 (by omega) (by omega) rfl rfl (show _ < 8 by omega) d_M_looks_87 ?_
        refine w_iconst (v := 1) C d_M_looks_88 rfl ?_
        refine w_iload_n C 4 d_M_looks_89 rfl rfl ?_
        refine w_ishl C d_M_looks_90 ?_
        refine w_ior C d_M_looks_91 ?_
        refine is_MA C 19 (by omega) (by omega) rfl rfl (show _ < 8 by omega) d_M_looks_92 ?_
        refine w_goto C 139 d_M_looks_93 (by decide) ?_
        refine w_iinc (lv2 := [(2, .int (nI (i + 1))), (4, .int 1), (3, .int (nI (12 * i + k))), (0, .ref (ad 50)), (1, .int (nI j))]) C 4 d_M_looks_139 rfl (nI_1 _) (by decide) rfl ?_
        refine w_goto C 2 d_M_looks_142 (by decide) ?_
        refine w_mt (mt2 := lkM mt j k (i + 1)) ((show lkM mt j k (i + 1) = _ from (bt h49).trans (bt h78)).symm) ?_
        exact w_lv [3, 4, 0] rfl (ih (i + 1) (by omega))
set_option maxHeartbeats 4000000 in
set_option maxRecDepth 100000 in
theorem c_M_looks {l : Launch} {D : va_G} {cs : Nat → ClassId} {ad : Nat → Nat} {st mt : Nat → Nat → Int32} {ov : Nat → Int64} {j k : Nat} (hj : j < 8) (hk : k < 12) (hl : mt 13 j = nI k)  : gM l y_M_looks b_M_looks 5 none ({ frames := 0, cells := 0, slots := 0, locals := 0 } : Room) 0 0 [.ref (ad 50), .int (nI j)] D cs ad st mt ov (QMv D cs ad st ov (fun u => u = lkM mt j k 8)) := by
  refine gM_of (own := "TwinRegisterModel") (by decide +kernel) rfl (Nat.le_of_ble_eq_true rfl) ?_
  intro p e s m args below meth c C hr
  refine w_lv (lv2 := [(0, .ref (ad 50)), (1, .int (nI j))]) [0, 1] rfl ?_
  refine w_iconst (v := 0) C d_M_looks_0 rfl ?_
  refine w_istore_n (lv2 := [(2, .int 0), (0, .ref (ad 50)), (1, .int (nI j))]) C d_M_looks_1 rfl (by decide) rfl ?_
  refine w_lv (lv2 := [(0, .ref (ad 50)), (1, .int (nI j)), (2, .int (nI 0))]) [1, 2, 0] rfl ?_
  refine l_M_looks hj hk hl C ⟨Nat.le_of_ble_eq_true rfl, Nat.le_of_ble_eq_true rfl⟩ ?_ 8 0 rfl
  exact w_vretM C hr d_M_looks_145 (rfl)
set_option maxHeartbeats 4000000 in
set_option maxRecDepth 100000 in
theorem l_M_starts {p : Program} {l : Launch} {e : Env} {s : State} {m : MethodId} {args : Array Value} {below : List Frame} {meth : Method} {c : Code} {Q : State → Prop} {D : va_G} {cs : Nat → ClassId} {ad : Nat → Nat} {A : Nat → Prop} {cells slots : Nat} {st mt : Nat → Nat → Int32} {ov : Nat → Int64} {j k : Nat} (hj : j < 8) (hk : k < 12) (hl : mt 13 j = nI k) {w : Int32} (C : Cx p s m args meth c D cs ad A b_M_starts 5 "TwinRegisterModel") (hcs : cells ≤ 0 ∧ slots ≤ 0)
    (kx : Wg p l e ({ frames := 2, cells := 0, slots := 0, locals := 46 } : Room) s m args below meth c Q D cs ad A 5 cells slots 105 [(0, .ref (ad 50)), (1, .int (nI j)), (2, .int (stM mt j k w 8).2), (3, .int w)] [] st ((stM mt j k w 8).1) ov) : ∀ n i : Nat, i + n = 8 → Wg p l e ({ frames := 2, cells := 0, slots := 0, locals := 46 } : Room) s m args below meth c Q D cs ad A 5 cells slots 25 [(0, .ref (ad 50)), (1, .int (nI j)), (2, .int (stM mt j k w i).2), (3, .int w), (4, .int (nI i))] [] st ((stM mt j k w i).1) ov := by
  intro n
  induction n with
  | zero =>
    intro i hi
    have hi9 : 8 = i := by omega
    subst hi9
    refine w_iload C 4 d_M_starts_25 rfl ?_
    refine w_bipush (v := 8) C d_M_starts_27 rfl ?_
    refine w_icmp_ge_t C 105 d_M_starts_29 (by decide) (nI_le (a := 8) (b := 8) (Nat.le_refl _) (by decide)) ?_
    exact w_lv [0, 1, 2, 3] rfl kx
  | succ n ih =>
    intro i hi
    have hi2 : i < 8 := by omega
    have hleaf : ∀ v : Int32, up2 (stM mt j k w i).1 18 j v 13 j = nI k := fun v => ((congrFun (up2_out (stM mt j k w i).1 v (show 13 ≠ 18 by decide)) j).trans (congrFun (stM_o (by decide) (by decide) (by decide) (by decide) i) j)).trans hl
    refine w_iload C 4 d_M_starts_25 rfl ?_
    refine w_bipush (v := 8) C d_M_starts_27 rfl ?_
    refine w_icmp_ge_f C 105 d_M_starts_29 (by decide) (nI_ge (b := 8) hi2 (by decide)) ?_
    refine w_iload_n C 2 d_M_starts_32 rfl rfl ?_
    refine w_aload_n C 0 d_M_starts_33 rfl rfl ?_
    refine g_M_rate C m_584 d_M_starts_34 ?_
    refine w_iload_n C 1 d_M_starts_37 rfl rfl ?_
    refine ia_MA C 15 (by omega) (by omega) rfl rfl (show _ < 8 by omega) d_M_starts_38 ?_
    refine w_icmp_ge C 105 d_M_starts_39 (by decide) (fun h39 => ?_) (fun h39 => ?_)
    · skip
      have e9 := stM_stop h39 (n + 1)
      rw [hi] at e9
      rw [e9] at kx
      exact w_lv [0, 1, 2, 3] rfl kx
    · skip
      refine w_iload_n C 3 d_M_starts_42 rfl rfl ?_
      refine w_iload C 4 d_M_starts_43 rfl ?_
      refine w_ishr C d_M_starts_45 ?_
      refine w_iconst (v := 1) C d_M_starts_46 rfl ?_
      refine w_iand C d_M_starts_47 ?_
      refine w_iconst (v := 1) C d_M_starts_48 rfl ?_
      refine w_icmp_ne C 99 d_M_starts_49 (by decide) (fun h49 => ?_) (fun h49 => ?_)
      · skip
        refine w_iinc (lv2 := [(4, .int (nI (i + 1))), (0, .ref (ad 50)), (1, .int (nI j)), (2, .int (stM mt j k w i).2), (3, .int w)]) C 4 d_M_starts_99 rfl (nI_1 _) (by decide) rfl ?_
        refine w_goto C 25 d_M_starts_102 (by decide) ?_
        have ih9 := ih (i + 1) (by omega)
        rw [show stM mt j k w (i + 1) = _ from bf_2 h49] at ih9
        exact w_lv [1, 2, 3, 4, 0] rfl ih9
      · skip
        refine w_aload_n C 0 d_M_starts_52 rfl rfl ?_
        refine g_M_started C m_587 d_M_starts_53 ?_
        refine w_iload_n C 1 d_M_starts_56 rfl rfl ?_
        refine w_dup2 C d_M_starts_57 rfl rfl ?_
        refine ia_MA C 18 (by omega) (by omega) rfl rfl (show _ < 8 by omega) d_M_starts_58 ?_
        refine w_iconst (v := 1) C d_M_starts_59 rfl ?_
        refine w_iload C 4 d_M_starts_60 rfl ?_
        refine w_ishl C d_M_starts_62 ?_
        refine w_ior C d_M_starts_63 ?_
        refine is_MA C 18 (by omega) (by omega) rfl rfl (show _ < 8 by omega) d_M_starts_64 ?_
        refine w_aload_n C 0 d_M_starts_65 rfl rfl ?_
        refine w_iload C 4 d_M_starts_66 rfl ?_
        refine w_aload_n C 0 d_M_starts_68 rfl rfl ?_
        refine g_M_leaf C m_582 d_M_starts_69 ?_
        refine w_iload_n C 1 d_M_starts_72 rfl rfl ?_
        refine ia_MA C 13 (by omega) (by omega) rfl rfl (show _ < 8 by omega) d_M_starts_73 ?_
        refine w_topi (y := (nI k)) (hleaf _) ?_
        refine w_aload_n C 0 d_M_starts_74 rfl rfl ?_
        refine g_M_value C m_583 d_M_starts_75 ?_
        refine w_iload_n C 1 d_M_starts_78 rfl rfl ?_
        refine ia_MA C 14 (by omega) (by omega) rfl rfl (show _ < 8 by omega) d_M_starts_79 ?_
        refine w_iconst (v := 1) C d_M_starts_80 rfl ?_
        refine w_iadd C d_M_starts_81 ?_
        refine w_callMv C (w_runV C (c_M_wishes (by omega) (by omega)) (by omega) e_M rfl rfl m_665 m_667 m_24 m_41 m_668 ⟨rfl, rfl⟩ hd_M_wishes rfl ⟨Nat.le_of_ble_eq_true rfl, Nat.le_of_ble_eq_true rfl⟩ rfl (Nat.le_of_ble_eq_true rfl) d_M_starts_82 hcs) (fun u82 h82 => ?_)
        subst h82
        refine w_aload_n C 0 d_M_starts_85 rfl rfl ?_
        refine g_M_version C m_572 d_M_starts_86 ?_
        refine w_iload C 4 d_M_starts_89 rfl ?_
        refine w_dup2 C d_M_starts_91 rfl rfl ?_
        refine ia_MA C 4 (by omega) (by omega) rfl rfl (show _ < 8 by omega) d_M_starts_92 ?_
        refine w_iconst (v := 1) C d_M_starts_93 rfl ?_
        refine w_iadd C d_M_starts_94 ?_
        refine is_MA C 4 (by omega) (by omega) rfl rfl (show _ < 8 by omega) d_M_starts_95 ?_
        refine w_iinc (lv2 := [(2, .int ((stM mt j k w i).2 + 1)), (0, .ref (ad 50)), (1, .int (nI j)), (3, .int w), (4, .int (nI i))]) C 2 d_M_starts_96 rfl rfl (by decide) rfl ?_
        refine w_iinc (lv2 := [(4, .int (nI (i + 1))), (2, .int ((stM mt j k w i).2 + 1)), (0, .ref (ad 50)), (1, .int (nI j)), (3, .int w)]) C 4 d_M_starts_99 rfl (nI_1 _) (by decide) rfl ?_
        refine w_goto C 25 d_M_starts_102 (by decide) ?_
        have ih9 := ih (i + 1) (by omega)
        rw [show stM mt j k w (i + 1) = _ from bt_ff h39 (fun z => z h49)] at ih9
        exact w_lv [2, 3, 1, 4, 0] rfl ih9
set_option maxHeartbeats 4000000 in
set_option maxRecDepth 100000 in
theorem c_M_starts {l : Launch} {D : va_G} {cs : Nat → ClassId} {ad : Nat → Nat} {st mt : Nat → Nat → Int32} {ov : Nat → Int64} {j k : Nat} (hj : j < 8) (hk : k < 12) (hl : mt 13 j = nI k) {g gk : Nat} (hg : g < 4) (hgk : gk < 12) (hg0 : mt 12 j = nI g) (hgl : mt 9 g = nI gk) : gM l y_M_starts b_M_starts 5 (some .int) ({ frames := 2, cells := 0, slots := 0, locals := 46 } : Room) 0 0 [.ref (ad 50), .int (nI j)] D cs ad st mt ov (QMi D cs ad st ov (fun r u => (u, r) = stM mt j k (mbM mt g gk 8 &&& (mt 18 j ^^^ (-1))) 8)) := by
  refine gM_of (own := "TwinRegisterModel") (by decide +kernel) rfl (Nat.le_of_ble_eq_true rfl) ?_
  intro p e s m args below meth c C hr
  refine w_lv (lv2 := [(0, .ref (ad 50)), (1, .int (nI j))]) [0, 1] rfl ?_
  refine w_iconst (v := 0) C d_M_starts_0 rfl ?_
  refine w_istore_n (lv2 := [(2, .int 0), (0, .ref (ad 50)), (1, .int (nI j))]) C d_M_starts_1 rfl (by decide) rfl ?_
  refine w_aload_n C 1 d_M_starts_2 rfl rfl ?_
  refine w_aload_n C 1 d_M_starts_3 rfl rfl ?_
  refine g_M_group C m_581 d_M_starts_4 ?_
  refine w_iload_n C 2 d_M_starts_7 rfl rfl ?_
  refine ia_MA C 12 (by omega) (by omega) rfl rfl (show _ < 8 by omega) d_M_starts_8 ?_
  refine w_topi (y := (nI g)) (hg0) ?_
  refine w_callMi C (w_runV C (c_M_membersOf hg hgk hgl) (by omega) e_M rfl rfl m_715 m_717 m_29 m_41 m_718 ⟨rfl, rfl⟩ hd_M_membersOf rfl ⟨Nat.le_of_ble_eq_true rfl, Nat.le_of_ble_eq_true rfl⟩ rfl (Nat.le_of_ble_eq_true rfl) d_M_starts_9 ⟨Nat.le_of_ble_eq_true rfl, Nat.le_of_ble_eq_true rfl⟩) (fun r9 u9 h9 => ?_)
  obtain ⟨rfl, h9⟩ := h9
  have h9 := h9.symm
  subst h9
  refine w_aload_n C 1 d_M_starts_12 rfl rfl ?_
  refine g_M_started C m_587 d_M_starts_13 ?_
  refine w_iload_n C 2 d_M_starts_16 rfl rfl ?_
  refine ia_MA C 18 (by omega) (by omega) rfl rfl (show _ < 8 by omega) d_M_starts_17 ?_
  refine w_iconst (v := (-1)) C d_M_starts_18 rfl ?_
  refine w_ixor C d_M_starts_19 ?_
  refine w_iand C d_M_starts_20 ?_
  refine w_istore_n (lv2 := [(3, .int _), (2, .int 0), (0, .ref (ad 50)), (1, .int (nI j))]) C d_M_starts_21 rfl (by decide) rfl ?_
  refine w_iconst (v := 0) C d_M_starts_22 rfl ?_
  refine w_istore (lv2 := [(4, .int 0), (3, .int _), (2, .int 0), (0, .ref (ad 50)), (1, .int (nI j))]) C d_M_starts_23 (by decide) rfl ?_
  refine w_lv (lv2 := [(0, .ref (ad 50)), (1, .int (nI j)), (2, .int (stM mt j k (mbM mt g gk 8 &&& (mt 18 j ^^^ (-1))) 0).2), (3, .int (mbM mt g gk 8 &&& (mt 18 j ^^^ (-1)))), (4, .int (nI 0))]) [3, 4, 2, 1, 0] rfl ?_
  refine l_M_starts hj hk hl C ⟨Nat.le_of_ble_eq_true rfl, Nat.le_of_ble_eq_true rfl⟩ ?_ 8 0 rfl
  refine w_iload_n C 2 d_M_starts_105 rfl rfl ?_
  exact w_iretM C hr d_M_starts_106 (pr_eta _)
set_option maxHeartbeats 4000000 in
set_option maxRecDepth 100000 in
theorem l_M_wave {p : Program} {l : Launch} {e : Env} {s : State} {m : MethodId} {args : Array Value} {below : List Frame} {meth : Method} {c : Code} {Q : State → Prop} {D : va_G} {cs : Nat → ClassId} {ad : Nat → Nat} {A : Nat → Prop} {cells slots : Nat} {st mt : Nat → Nat → Int32} {ov : Nat → Int64} (hs : okM mt) {jc : Nat} (hjc : jc ≤ 8) (hj0 : mt 0 12 = nI jc) (C : Cx p s m args meth c D cs ad A b_M_wave 3 "TwinRegisterModel") (hcs : cells ≤ 0 ∧ slots ≤ 0)
    (kx : Wg p l e ({ frames := 3, cells := 0, slots := 0, locals := 70 } : Room) s m args below meth c Q D cs ad A 3 cells slots 73 [(0, .ref (ad 50)), (1, .int (wvM mt jc).2)] [] st ((wvM mt jc).1) ov) : ∀ n i : Nat, i + n = jc → Wg p l e ({ frames := 3, cells := 0, slots := 0, locals := 70 } : Room) s m args below meth c Q D cs ad A 3 cells slots 9 [(0, .ref (ad 50)), (1, .int (wvM mt i).2), (2, .int (nI i))] [] st ((wvM mt i).1) ov := by
  intro n
  induction n with
  | zero =>
    intro i hi
    have hi9 : jc = i := by omega
    subst hi9
    refine w_iload_n C 2 d_M_wave_9 rfl rfl ?_
    refine w_aload_n C 0 d_M_wave_10 rfl rfl ?_
    refine g_M_jobs C m_580 d_M_wave_11 ?_
    refine w_topi (y := (nI jc)) ((congrFun (wvM_0 _) 12).trans hj0) ?_
    refine w_icmp_ge_t C 73 d_M_wave_14 (by decide) (nI_le (a := jc) (b := jc) (Nat.le_refl _) (by omega)) ?_
    exact w_lv [0, 1] rfl kx
  | succ n ih =>
    intro i hi
    have hi2 : i < jc := by omega
    have hs1 := wvM_ok hs i
    have e1 := inR_tn (by decide) (hs1.2.1 i (by omega)).2
    have hs2 : okM (lkA (wvM mt i).1 i) := lkA_ok hs1
    have e2 := inR_tn (by decide) (hs2.2.1 i (by omega)).2
    have e3 := inR_tn (by decide) (hs2.2.1 i (by omega)).1
    have e4 := inR_tn (by decide) (hs2.1 _ e3.2)
    refine w_iload_n C 2 d_M_wave_9 rfl rfl ?_
    refine w_aload_n C 0 d_M_wave_10 rfl rfl ?_
    refine g_M_jobs C m_580 d_M_wave_11 ?_
    refine w_topi (y := (nI jc)) ((congrFun (wvM_0 _) 12).trans hj0) ?_
    refine w_icmp_ge_f C 73 d_M_wave_14 (by decide) (nI_ge (b := jc) hi2 (by omega)) ?_
    refine w_aload_n C 0 d_M_wave_17 rfl rfl ?_
    refine g_M_state C m_586 d_M_wave_18 ?_
    refine w_iload_n C 2 d_M_wave_21 rfl rfl ?_
    refine ia_MA C 17 (by omega) (by omega) rfl rfl (show _ < 8 by omega) d_M_wave_22 ?_
    refine w_if_ne C 67 d_M_wave_23 (by decide) (fun h23 => ?_) (fun h23 => ?_)
    · skip
      refine w_iinc (lv2 := [(2, .int (nI (i + 1))), (0, .ref (ad 50)), (1, .int (wvM mt i).2)]) C 2 d_M_wave_67 rfl (nI_1 _) (by decide) rfl ?_
      refine w_goto C 9 d_M_wave_70 (by decide) ?_
      have ih9 := ih (i + 1) (by omega)
      rw [show wvM mt (i + 1) = wvS i (wvM mt i) from rfl, wvS_f h23] at ih9
      try dsimp only at ih9
      exact w_lv [1, 2, 0] rfl ih9
    · skip
      refine w_aload_n C 0 d_M_wave_26 rfl rfl ?_
      refine w_iload_n C 2 d_M_wave_27 rfl rfl ?_
      refine w_callMv C (w_runV C (c_M_looks (j := i) (by omega) e1.2 e1.1) (by omega) e_M rfl rfl m_727 m_729 m_30 m_41 m_730 ⟨rfl, rfl⟩ hd_M_looks rfl ⟨Nat.le_of_ble_eq_true rfl, Nat.le_of_ble_eq_true rfl⟩ rfl (Nat.le_of_ble_eq_true rfl) d_M_wave_28 hcs) (fun u9 h9 => ?_)
      have hu : u9 = lkA (wvM mt i).1 i := h9
      subst hu
      refine w_aload_n C 0 d_M_wave_31 rfl rfl ?_
      refine g_M_failed C m_589 d_M_wave_32 ?_
      refine w_iload_n C 2 d_M_wave_35 rfl rfl ?_
      refine ia_MA C 20 (by omega) (by omega) rfl rfl (show _ < 8 by omega) d_M_wave_36 ?_
      refine w_callMi C (w_runS C (c_M_manyOf ) m_685 m_686 m_41 m_687 ⟨rfl, rfl⟩ hd_M_manyOf rfl ⟨Nat.le_of_ble_eq_true rfl, Nat.le_of_ble_eq_true rfl⟩ rfl (Nat.le_of_ble_eq_true rfl) d_M_wave_37 hcs) (fun r37 u37 h37 => ?_)
      obtain ⟨rfl, h37⟩ := h37; have h37 := h37.symm; subst h37
      refine w_aload_n C 0 d_M_wave_40 rfl rfl ?_
      refine g_M_bound C m_585 d_M_wave_41 ?_
      refine w_iload_n C 2 d_M_wave_44 rfl rfl ?_
      refine ia_MA C 16 (by omega) (by omega) rfl rfl (show _ < 8 by omega) d_M_wave_45 ?_
      refine w_icmp_lt C 59 d_M_wave_46 (by decide) (fun h46 => ?_) (fun h46 => ?_)
      · skip
        refine w_iload_n C 1 d_M_wave_59 rfl rfl ?_
        refine w_aload_n C 0 d_M_wave_60 rfl rfl ?_
        refine w_iload_n C 2 d_M_wave_61 rfl rfl ?_
        refine w_callMi C (w_runV C (c_M_starts (mt := lkA (wvM mt i).1 i) (j := i) (by omega) e2.2 e2.1 e3.2 e4.2 e3.1 e4.1) (by omega) e_M rfl rfl m_731 m_733 m_31 m_41 m_734 ⟨rfl, rfl⟩ hd_M_starts rfl ⟨Nat.le_of_ble_eq_true rfl, Nat.le_of_ble_eq_true rfl⟩ rfl (Nat.le_of_ble_eq_true rfl) d_M_wave_62 hcs) (fun r9 u9 h9 => ?_)
        have hu : (u9, r9) = stA (lkA (wvM mt i).1 i) i := h9
        obtain ⟨hu1, hr9⟩ := pr_inj hu
        rw [hu1, hr9]
        refine w_iadd C d_M_wave_65 ?_
        refine w_istore_n (lv2 := [(1, .int _), (0, .ref (ad 50)), (2, .int (nI i))]) C d_M_wave_66 rfl (by decide) rfl ?_
        refine w_iinc (lv2 := [(2, .int (nI (i + 1))), (1, .int _), (0, .ref (ad 50))]) C 2 d_M_wave_67 rfl (nI_1 _) (by decide) rfl ?_
        refine w_goto C 9 d_M_wave_70 (by decide) ?_
        have ih9 := ih (i + 1) (by omega)
        rw [show wvM mt (i + 1) = wvS i (wvM mt i) from rfl, wvS_t h23 h46] at ih9
        try dsimp only at ih9
        exact w_lv [2, 1, 0] rfl ih9
      · skip
        refine w_aload_n C 0 d_M_wave_49 rfl rfl ?_
        refine g_M_state C m_586 d_M_wave_50 ?_
        refine w_iload_n C 2 d_M_wave_53 rfl rfl ?_
        refine w_iconst (v := 1) C d_M_wave_54 rfl ?_
        refine is_MA C 17 (by omega) (by omega) rfl rfl (show _ < 8 by omega) d_M_wave_55 ?_
        refine w_goto C 67 d_M_wave_56 (by decide) ?_
        refine w_iinc (lv2 := [(2, .int (nI (i + 1))), (0, .ref (ad 50)), (1, .int (wvM mt i).2)]) C 2 d_M_wave_67 rfl (nI_1 _) (by decide) rfl ?_
        refine w_goto C 9 d_M_wave_70 (by decide) ?_
        have ih9 := ih (i + 1) (by omega)
        rw [show wvM mt (i + 1) = wvS i (wvM mt i) from rfl, wvS_u h23 h46] at ih9
        try dsimp only at ih9
        exact w_lv [1, 2, 0] rfl ih9
set_option maxHeartbeats 4000000 in
set_option maxRecDepth 100000 in
theorem c_M_wave {l : Launch} {D : va_G} {cs : Nat → ClassId} {ad : Nat → Nat} {st mt : Nat → Nat → Int32} {ov : Nat → Int64} (hs : okM (thr mt 0)) {jc : Nat} (hjc : jc ≤ 8) (hj0 : thr mt 0 0 12 = nI jc) : gM l y_M_wave b_M_wave 3 (some .int) ({ frames := 3, cells := 0, slots := 0, locals := 70 } : Room) 0 0 [.ref (ad 50)] D cs ad st mt ov (QMi D cs ad st ov (fun r u => (u, r) = wvM (thr mt 0) jc)) := by
  refine gM_of (own := "TwinRegisterModel") (by decide +kernel) rfl (Nat.le_of_ble_eq_true rfl) ?_
  intro p e s m args below meth c C hr
  refine w_lv (lv2 := [(0, .ref (ad 50))]) [0] rfl ?_
  refine w_aload_n C 0 d_M_wave_0 rfl rfl ?_
  refine w_iconst (v := 0) C d_M_wave_1 rfl ?_
  refine p_M_thrown C m_568 d_M_wave_2 ?_
  refine w_iconst (v := 0) C d_M_wave_5 rfl ?_
  refine w_istore_n (lv2 := [(1, .int 0), (0, .ref (ad 50))]) C d_M_wave_6 rfl (by decide) rfl ?_
  refine w_iconst (v := 0) C d_M_wave_7 rfl ?_
  refine w_istore_n (lv2 := [(2, .int 0), (1, .int 0), (0, .ref (ad 50))]) C d_M_wave_8 rfl (by decide) rfl ?_
  refine w_lv (lv2 := [(0, .ref (ad 50)), (1, .int (wvM (thr mt 0) 0).2), (2, .int (nI 0))]) [2, 1, 0] rfl ?_
  refine l_M_wave (mt := thr mt 0) hs hjc hj0 C ⟨Nat.le_of_ble_eq_true rfl, Nat.le_of_ble_eq_true rfl⟩ ?_ jc 0 (Nat.zero_add _)
  refine w_iload_n C 1 d_M_wave_73 rfl rfl ?_
  exact w_iretM C hr d_M_wave_74 (pr_eta _)
