/-! ===== what the shared methods do ===== -/
abbrev St : Type := Nat → Nat → Int32
def merWs (q i : Nat) (a : St) : St := bif hasF a i then takeW a q i (a 2 i) else a
def merW (st : St) (q : Nat) : Nat → St
  | 0 => st
  | i + 1 => merWs q i (merW st q i)
theorem merWs_t {q i : Nat} {a : St} (h : hasF a i = true) : merWs q i a = takeW a q i (a 2 i) := by unfold merWs; rw [h]; rfl
theorem merWs_f {q i : Nat} {a : St} (h : hasF a i = false) : merWs q i a = a := by unfold merWs; rw [h]; rfl
def merRs (q i : Nat) (a : St) : St := bif hasF a i then takeR a q i (a 2 i) else a
def merR (st : St) (q : Nat) : Nat → St
  | 0 => st
  | i + 1 => merRs q i (merR st q i)
theorem merRs_t {q i : Nat} {a : St} (h : hasF a i = true) : merRs q i a = takeR a q i (a 2 i) := by unfold merRs; rw [h]; rfl
theorem merRs_f {q i : Nat} {a : St} (h : hasF a i = false) : merRs q i a = a := by unfold merRs; rw [h]; rfl
def memS (st : St) (g k i : Nat) (a : Int32) : Int32 := bif admG st g i k then a ||| bitI i else a
def memF (st : St) (g k : Nat) : Nat → Int32
  | 0 => 0
  | i + 1 => memS st g k i (memF st g k i)
theorem memS_t {st : St} {g k i : Nat} {a : Int32} (h : admG st g i k = true) : memS st g k i a = a ||| bitI i := by unfold memS; rw [h]; rfl
theorem memS_f {st : St} {g k i : Nat} {a : Int32} (h : admG st g i k = false) : memS st g k i a = a := by unfold memS; rw [h]; rfl
theorem pr_eta {α β : Type} (a : α × β) : (a.1, a.2) = a := by cases a; rfl
theorem pr_inj {α β : Type} {a : α} {b : β} {q : α × β} (h : (a, b) = q) : a = q.1 ∧ b = q.2 := by subst h; exact ⟨rfl, rfl⟩
def judS (a : St) (i j k : Nat) (w : Int32) : St :=
  bif decide (w &&& bitI i = 0) then a
  else bif decide (a (4 + 4 * i + 2) k = a (42 + j) 2) then up2 a (42 + j) 7 (a (42 + j) 7 ||| bitI i)
  else bif decide (a (4 + 4 * i + 1) k = a (42 + j) 2) && !decide (a (4 + 4 * i + 3) k = 0) then up2 a (42 + j) 8 (a (42 + j) 8 ||| bitI i)
  else a
def judF (st : St) (j k : Nat) (w : Int32) : Nat → St
  | 0 => st
  | i + 1 => judS (judF st j k w i) i j k w
def bmpV (a : St) (q : Nat) : St := up2 a (4 + 4 * q) 4 (a (4 + 4 * q) 4 + 1)
def addS (a : St) (j i : Nat) : St := up2 a (42 + j) 6 (a (42 + j) 6 ||| bitI i)
def staS (a : St) (i j k : Nat) : St := addS (bmpV (takeW a i k (a (42 + j) 2)) i) j i
def staG (j k i : Nat) (w : Int32) (a : St × Int32) : St × Int32 := bif !decide (a.1 (42 + j) 3 ≤ a.2) && !decide (w &&& bitI i = 0) then (staS a.1 i j k, a.2 + 1) else a
def staF (st : St) (j k : Nat) (w : Int32) : Nat → St × Int32
  | 0 => (st, 0)
  | i + 1 => staG j k i w (staF st j k w i)
theorem keepD_out {st : St} {q k a : Nat} (h : a ≠ 4 + 4 * q) : keepD st q k a = st a := by unfold keepD; rw [up2_out _ _ h]
theorem takeW_out {st : St} {q k a : Nat} {v : Int32} (h : a ≠ 4 + 4 * q) (h1 : a ≠ 4 + 4 * q + 1) (h3 : a ≠ 4 + 4 * q + 3) : takeW st q k v a = st a := by
  unfold takeW
  rw [keepD_out h, up2_out _ _ h3, up2_out _ _ h1]
theorem takeR_out {st : St} {q k a : Nat} {v : Int32} (h : a ≠ 4 + 4 * q) (h2 : a ≠ 4 + 4 * q + 2) : takeR st q k v a = st a := by
  unfold takeR
  rw [keepD_out h, up2_out _ _ h2]
theorem takeF_out {st : St} {q k a : Nat} {v : Int32} (h : a ≠ 4 + 4 * q) (h2 : a ≠ 4 + 4 * q + 3) : takeF st q k v a = st a := by
  unfold takeF
  rw [keepD_out h, up2_out _ _ h2]
theorem bmpV_out {st : St} {q a : Nat} (h : a ≠ 4 + 4 * q) : bmpV st q a = st a := by unfold bmpV; rw [up2_out _ _ h]
theorem addS_out {st : St} {j i a : Nat} (h : a ≠ 42 + j) : addS st j i a = st a := by unfold addS; rw [up2_out _ _ h]
theorem judS_out {a : St} {i j k b : Nat} {w : Int32} (h : b ≠ 42 + j) : judS a i j k w b = a b := by
  unfold judS
  cases decide (w &&& bitI i = 0) <;> cases decide (a (4 + 4 * i + 2) k = a (42 + j) 2) <;> cases (decide (a (4 + 4 * i + 1) k = a (42 + j) 2) && !decide (a (4 + 4 * i + 3) k = 0)) <;> simp only [cond_true, cond_false, up2_out _ _ h]
theorem judS_in {a : St} {i j k c : Nat} {w : Int32} (h7 : c ≠ 7) (h8 : c ≠ 8) : judS a i j k w (42 + j) c = a (42 + j) c := by
  unfold judS
  cases decide (w &&& bitI i = 0) <;> cases decide (a (4 + 4 * i + 2) k = a (42 + j) 2) <;> cases (decide (a (4 + 4 * i + 1) k = a (42 + j) 2) && !decide (a (4 + 4 * i + 3) k = 0)) <;> simp only [cond_true, cond_false, up2_in, upd, if_neg h7, if_neg h8]
theorem judF_out {st : St} {j k b : Nat} {w : Int32} (h : b ≠ 42 + j) : ∀ i, judF st j k w i b = st b
  | 0 => rfl
  | i + 1 => (judS_out h).trans (judF_out h i)
theorem judF_in {st : St} {j k c : Nat} {w : Int32} (h7 : c ≠ 7) (h8 : c ≠ 8) : ∀ i, judF st j k w i (42 + j) c = st (42 + j) c
  | 0 => rfl
  | i + 1 => (judS_in h7 h8).trans (judF_in h7 h8 i)
theorem staS_in {a : St} {i j k c : Nat} (hi : i < 8) (h6 : c ≠ 6) : staS a i j k (42 + j) c = a (42 + j) c := by
  unfold staS addS
  rw [up2_in]
  unfold upd
  rw [if_neg h6, bmpV_out (by omega), takeW_out (by omega) (by omega) (by omega)]
theorem staF_in {st : St} {j k c : Nat} {w : Int32} (h6 : c ≠ 6) : ∀ i, i ≤ 8 → (staF st j k w i).1 (42 + j) c = st (42 + j) c
  | 0, _ => rfl
  | i + 1, hi => by
    have ih := staF_in (st := st) (k := k) (w := w) (j := j) h6 i (by omega)
    show (staG j k i w (staF st j k w i)).1 (42 + j) c = _
    generalize staF st j k w i = a at ih ⊢
    unfold staG
    cases (!decide (a.1 (42 + j) 3 ≤ a.2) && !decide (w &&& bitI i = 0))
    · exact ih
    · exact (staS_in (by omega) h6).trans ih
theorem staF_stop {st : St} {j k i : Nat} {w : Int32} (h : (staF st j k w i).1 (42 + j) 3 ≤ (staF st j k w i).2) : ∀ n, staF st j k w (i + n) = staF st j k w i
  | 0 => rfl
  | n + 1 => by
    have ih := staF_stop h n
    show staG j k (i + n) w (staF st j k w (i + n)) = _
    rw [ih]
    unfold staG
    simp [h]

set_option maxHeartbeats 4000000 in
set_option maxRecDepth 100000 in
theorem c_T_requireLeaf {l : Launch} {D : va_G} {cs : Nat → ClassId} {ad : Nat → Nat} {st mt : Nat → Nat → Int32} {ov : Nat → Int64} {p0 : Int32} (hl : l.stackTraces = false) : gX l y_T_requireLeaf b_T_requireLeaf 1 none ({ frames := 6, cells := 1, slots := 6, locals := 100 } : Room) 1 6 [.int p0] D cs ad st mt ov (QTv D cs ad mt ov (fun u => u = st ∧ inR p0 12)) (fun E => E = xO ∧ ¬ inR p0 12) := by
  refine gX_of (own := "TwinRegister") (by decide +kernel) rfl (Nat.le_of_ble_eq_true rfl) ?_
  intro p e s m args below meth c C hr ht9
  refine w_lv (lv2 := [(0, .int p0)]) [0] rfl ?_
  refine w_iload_n C 0 d_T_requireLeaf_0 rfl rfl ?_
  refine w_if_lt C 10 d_T_requireLeaf_1 (by decide) (fun h1 => ?_) (fun h1 => ?_)
  · skip
    exact w_throwS (names := ["java/lang/RuntimeException", "java/lang/Exception"]) (text := "there is no such leaf") C hl ht9 (by decide +kernel) hfit m_199 m_32 (by decide +kernel) hat_O d_T_requireLeaf_10 d_T_requireLeaf_13 d_T_requireLeaf_14 d_T_requireLeaf_16 d_T_requireLeaf_19 ⟨by decide, Nat.le_of_ble_eq_true rfl, Nat.le_of_ble_eq_true rfl, Nat.le_of_ble_eq_true rfl⟩ ⟨Nat.le_of_ble_eq_true rfl, Nat.le_of_ble_eq_true rfl⟩ (⟨rfl, inR_no0 (by decide) h1⟩)
  · skip
    refine w_iload_n C 0 d_T_requireLeaf_4 rfl rfl ?_
    refine w_bipush (v := 12) C d_T_requireLeaf_5 rfl ?_
    refine w_icmp_lt C 20 d_T_requireLeaf_7 (by decide) (fun h7 => ?_) (fun h7 => ?_)
    · skip
      refine w_widen (k2 := 1) (n2 := 6) (Nat.le_of_ble_eq_true rfl) (Nat.le_of_ble_eq_true rfl) ?_
      exact wx_vretT C hr d_T_requireLeaf_20 (⟨rfl, inR_lt (n := 12) (by decide) h1 h7⟩)
    · skip
      exact w_throwS (names := ["java/lang/RuntimeException", "java/lang/Exception"]) (text := "there is no such leaf") C hl ht9 (by decide +kernel) hfit m_199 m_32 (by decide +kernel) hat_O d_T_requireLeaf_10 d_T_requireLeaf_13 d_T_requireLeaf_14 d_T_requireLeaf_16 d_T_requireLeaf_19 ⟨by decide, Nat.le_of_ble_eq_true rfl, Nat.le_of_ble_eq_true rfl, Nat.le_of_ble_eq_true rfl⟩ ⟨Nat.le_of_ble_eq_true rfl, Nat.le_of_ble_eq_true rfl⟩ (⟨rfl, inR_no2 (n := 12) (by decide) h7⟩)
set_option maxHeartbeats 4000000 in
set_option maxRecDepth 100000 in
theorem c_T_requireGroup {l : Launch} {D : va_G} {cs : Nat → ClassId} {ad : Nat → Nat} {st mt : Nat → Nat → Int32} {ov : Nat → Int64} {p0 : Int32} (hl : l.stackTraces = false) : gX l y_T_requireGroup b_T_requireGroup 1 none ({ frames := 6, cells := 1, slots := 6, locals := 100 } : Room) 1 6 [.int p0] D cs ad st mt ov (QTv D cs ad mt ov (fun u => u = st ∧ inR p0 4)) (fun E => E = xO ∧ ¬ inR p0 4) := by
  refine gX_of (own := "TwinRegister") (by decide +kernel) rfl (Nat.le_of_ble_eq_true rfl) ?_
  intro p e s m args below meth c C hr ht9
  refine w_lv (lv2 := [(0, .int p0)]) [0] rfl ?_
  refine w_iload_n C 0 d_T_requireGroup_0 rfl rfl ?_
  refine w_if_lt C 9 d_T_requireGroup_1 (by decide) (fun h1 => ?_) (fun h1 => ?_)
  · skip
    exact w_throwS (names := ["java/lang/RuntimeException", "java/lang/Exception"]) (text := "there is no such group") C hl ht9 (by decide +kernel) hfit m_199 m_32 (by decide +kernel) hat_O d_T_requireGroup_9 d_T_requireGroup_12 d_T_requireGroup_13 d_T_requireGroup_15 d_T_requireGroup_18 ⟨by decide, Nat.le_of_ble_eq_true rfl, Nat.le_of_ble_eq_true rfl, Nat.le_of_ble_eq_true rfl⟩ ⟨Nat.le_of_ble_eq_true rfl, Nat.le_of_ble_eq_true rfl⟩ (⟨rfl, inR_no0 (by decide) h1⟩)
  · skip
    refine w_iload_n C 0 d_T_requireGroup_4 rfl rfl ?_
    refine w_iconst (v := 4) C d_T_requireGroup_5 rfl ?_
    refine w_icmp_lt C 19 d_T_requireGroup_6 (by decide) (fun h6 => ?_) (fun h6 => ?_)
    · skip
      refine w_widen (k2 := 1) (n2 := 6) (Nat.le_of_ble_eq_true rfl) (Nat.le_of_ble_eq_true rfl) ?_
      exact wx_vretT C hr d_T_requireGroup_19 (⟨rfl, inR_lt (n := 4) (by decide) h1 h6⟩)
    · skip
      exact w_throwS (names := ["java/lang/RuntimeException", "java/lang/Exception"]) (text := "there is no such group") C hl ht9 (by decide +kernel) hfit m_199 m_32 (by decide +kernel) hat_O d_T_requireGroup_9 d_T_requireGroup_12 d_T_requireGroup_13 d_T_requireGroup_15 d_T_requireGroup_18 ⟨by decide, Nat.le_of_ble_eq_true rfl, Nat.le_of_ble_eq_true rfl, Nat.le_of_ble_eq_true rfl⟩ ⟨Nat.le_of_ble_eq_true rfl, Nat.le_of_ble_eq_true rfl⟩ (⟨rfl, inR_no2 (n := 4) (by decide) h6⟩)
set_option maxHeartbeats 4000000 in
set_option maxRecDepth 100000 in
theorem c_T_requireInRange {l : Launch} {D : va_G} {cs : Nat → ClassId} {ad : Nat → Nat} {st mt : Nat → Nat → Int32} {ov : Nat → Int64} {p0 p1 p2 : Int32} (hl : l.stackTraces = false) : gX l y_T_requireInRange b_T_requireInRange 3 none ({ frames := 6, cells := 1, slots := 6, locals := 100 } : Room) 1 6 [.int p0, .int p1, .int p2] D cs ad st mt ov (QTv D cs ad mt ov (fun u => u = st ∧ (¬ p0 < p1 ∧ p0 ≤ p2))) (fun E => E = xA ∧ (p0 < p1 ∨ ¬ p0 ≤ p2)) := by
  refine gX_of (own := "TwinRegister") (by decide +kernel) rfl (Nat.le_of_ble_eq_true rfl) ?_
  intro p e s m args below meth c C hr ht9
  refine w_lv (lv2 := [(0, .int p0), (1, .int p1), (2, .int p2)]) [0, 1, 2] rfl ?_
  refine w_iload_n C 0 d_T_requireInRange_0 rfl rfl ?_
  refine w_iload_n C 1 d_T_requireInRange_1 rfl rfl ?_
  refine w_icmp_lt C 10 d_T_requireInRange_2 (by decide) (fun h2 => ?_) (fun h2 => ?_)
  · skip
    exact w_throwS (names := ["java/lang/RuntimeException", "java/lang/Exception"]) (text := "a number is out of its range") C hl ht9 (by decide +kernel) hfit m_270 m_33 (by decide +kernel) hat_A d_T_requireInRange_10 d_T_requireInRange_13 d_T_requireInRange_14 d_T_requireInRange_16 d_T_requireInRange_19 ⟨by decide, Nat.le_of_ble_eq_true rfl, Nat.le_of_ble_eq_true rfl, Nat.le_of_ble_eq_true rfl⟩ ⟨Nat.le_of_ble_eq_true rfl, Nat.le_of_ble_eq_true rfl⟩ (⟨rfl, Or.inl h2⟩)
  · skip
    refine w_iload_n C 0 d_T_requireInRange_5 rfl rfl ?_
    refine w_iload_n C 2 d_T_requireInRange_6 rfl rfl ?_
    refine w_icmp_le C 20 d_T_requireInRange_7 (by decide) (fun h7 => ?_) (fun h7 => ?_)
    · skip
      refine w_widen (k2 := 1) (n2 := 6) (Nat.le_of_ble_eq_true rfl) (Nat.le_of_ble_eq_true rfl) ?_
      exact wx_vretT C hr d_T_requireInRange_20 (⟨rfl, h2, h7⟩)
    · skip
      exact w_throwS (names := ["java/lang/RuntimeException", "java/lang/Exception"]) (text := "a number is out of its range") C hl ht9 (by decide +kernel) hfit m_270 m_33 (by decide +kernel) hat_A d_T_requireInRange_10 d_T_requireInRange_13 d_T_requireInRange_14 d_T_requireInRange_16 d_T_requireInRange_19 ⟨by decide, Nat.le_of_ble_eq_true rfl, Nat.le_of_ble_eq_true rfl, Nat.le_of_ble_eq_true rfl⟩ ⟨Nat.le_of_ble_eq_true rfl, Nat.le_of_ble_eq_true rfl⟩ (⟨rfl, Or.inr h7⟩)
set_option maxHeartbeats 4000000 in
set_option maxRecDepth 100000 in
theorem c_T_requireAwake {l : Launch} {D : va_G} {cs : Nat → ClassId} {ad : Nat → Nat} {st mt : Nat → Nat → Int32} {ov : Nat → Int64} {q : Nat} (hq : q < 8) (hl : l.stackTraces = false) : gX l y_T_requireAwake b_T_requireAwake 1 none ({ frames := 6, cells := 1, slots := 6, locals := 100 } : Room) 1 6 [.ref (ad (4 + 4 * q))] D cs ad st mt ov (QTv D cs ad mt ov (fun u => u = st ∧ st (4 + 4 * q) 7 = 0)) (fun E => E = xS ∧ ¬ st (4 + 4 * q) 7 = 0) := by
  refine gX_of (own := "TwinRegister") (by decide +kernel) rfl (Nat.le_of_ble_eq_true rfl) ?_
  intro p e s m args below meth c C hr ht9
  refine w_lv (lv2 := [(0, .ref (ad (4 + 4 * q)))]) [0] rfl ?_
  refine w_aload_n C 0 d_T_requireAwake_0 rfl rfl ?_
  refine gN_D_asleep C (by omega) m_81 d_T_requireAwake_1 ?_
  refine w_if_eq C 17 d_T_requireAwake_4 (by decide) (fun h4 => ?_) (fun h4 => ?_)
  · skip
    refine w_widen (k2 := 1) (n2 := 6) (Nat.le_of_ble_eq_true rfl) (Nat.le_of_ble_eq_true rfl) ?_
    exact wx_vretT C hr d_T_requireAwake_17 (⟨rfl, h4⟩)
  · skip
    exact w_throwS (names := ["java/lang/RuntimeException", "java/lang/Exception"]) (text := "the device is asleep") C hl ht9 (by decide +kernel) hfit m_324 m_35 (by decide +kernel) hat_S d_T_requireAwake_7 d_T_requireAwake_10 d_T_requireAwake_11 d_T_requireAwake_13 d_T_requireAwake_16 ⟨by decide, Nat.le_of_ble_eq_true rfl, Nat.le_of_ble_eq_true rfl, Nat.le_of_ble_eq_true rfl⟩ ⟨Nat.le_of_ble_eq_true rfl, Nat.le_of_ble_eq_true rfl⟩ (⟨rfl, h4⟩)
set_option maxHeartbeats 4000000 in
set_option maxRecDepth 100000 in
theorem c_T_deviceAt {l : Launch} {D : va_G} {cs : Nat → ClassId} {ad : Nat → Nat} {st mt : Nat → Nat → Int32} {ov : Nat → Int64} {p0 : Int32} (hl : l.stackTraces = false) : gX l y_T_deviceAt b_T_deviceAt 2 (some (.object "TwinRegister$Device")) ({ frames := 6, cells := 1, slots := 6, locals := 100 } : Room) 1 6 [.ref (ad 0), .int p0] D cs ad st mt ov (QTq D cs ad st mt ov (fun i => ∃ q, q < 8 ∧ p0 = nI q ∧ i = 4 + 4 * q)) (fun E => E = xO ∧ ¬ inR p0 8) := by
  refine gX_of (own := "TwinRegister") (by decide +kernel) rfl (Nat.le_of_ble_eq_true rfl) ?_
  intro p e s m args below meth c C hr ht9
  refine w_lv (lv2 := [(0, .ref (ad 0)), (1, .int p0)]) [0, 1] rfl ?_
  refine w_iload_n C 1 d_T_deviceAt_0 rfl rfl ?_
  refine w_if_lt C 10 d_T_deviceAt_1 (by decide) (fun h1 => ?_) (fun h1 => ?_)
  · skip
    exact w_throwS (names := ["java/lang/RuntimeException", "java/lang/Exception"]) (text := "there is no such device") C hl ht9 (by decide +kernel) hfit m_199 m_32 (by decide +kernel) hat_O d_T_deviceAt_10 d_T_deviceAt_13 d_T_deviceAt_14 d_T_deviceAt_16 d_T_deviceAt_19 ⟨by decide, Nat.le_of_ble_eq_true rfl, Nat.le_of_ble_eq_true rfl, Nat.le_of_ble_eq_true rfl⟩ ⟨Nat.le_of_ble_eq_true rfl, Nat.le_of_ble_eq_true rfl⟩ (⟨rfl, inR_no0 (by decide) h1⟩)
  · skip
    refine w_iload_n C 1 d_T_deviceAt_4 rfl rfl ?_
    refine w_bipush (v := 8) C d_T_deviceAt_5 rfl ?_
    refine w_icmp_lt C 20 d_T_deviceAt_7 (by decide) (fun h7 => ?_) (fun h7 => ?_)
    · skip
      obtain ⟨q, hkq, rfl⟩ := inR_lt (n := 8) (by decide) h1 h7
      refine w_aload_n C 0 d_T_deviceAt_20 rfl rfl ?_
      refine g_T_deviceRows C m_159 d_T_deviceAt_21 ?_
      refine w_iload_n C 1 d_T_deviceAt_24 rfl rfl ?_
      refine aa_DR C rfl (by omega) d_T_deviceAt_25 ?_
      refine w_widen (k2 := 1) (n2 := 6) (Nat.le_of_ble_eq_true rfl) (Nat.le_of_ble_eq_true rfl) ?_
      exact wx_aretT C hr d_T_deviceAt_26 (⟨q, hkq, rfl, rfl⟩)
    · skip
      exact w_throwS (names := ["java/lang/RuntimeException", "java/lang/Exception"]) (text := "there is no such device") C hl ht9 (by decide +kernel) hfit m_199 m_32 (by decide +kernel) hat_O d_T_deviceAt_10 d_T_deviceAt_13 d_T_deviceAt_14 d_T_deviceAt_16 d_T_deviceAt_19 ⟨by decide, Nat.le_of_ble_eq_true rfl, Nat.le_of_ble_eq_true rfl, Nat.le_of_ble_eq_true rfl⟩ ⟨Nat.le_of_ble_eq_true rfl, Nat.le_of_ble_eq_true rfl⟩ (⟨rfl, inR_no2 (n := 8) (by decide) h7⟩)
set_option maxHeartbeats 4000000 in
set_option maxRecDepth 100000 in
theorem c_T_groupAt {l : Launch} {D : va_G} {cs : Nat → ClassId} {ad : Nat → Nat} {st mt : Nat → Nat → Int32} {ov : Nat → Int64} {p0 : Int32} (hl : l.stackTraces = false) : gX l y_T_groupAt b_T_groupAt 2 (some (.object "TwinRegister$Group")) ({ frames := 7, cells := 1, slots := 6, locals := 120 } : Room) 1 6 [.ref (ad 0), .int p0] D cs ad st mt ov (QTq D cs ad st mt ov (fun i => ∃ g, g < 4 ∧ p0 = nI g ∧ i = 37 + g)) (fun E => E = xO ∧ ¬ inR p0 4) := by
  refine gX_of (own := "TwinRegister") (by decide +kernel) rfl (Nat.le_of_ble_eq_true rfl) ?_
  intro p e s m args below meth c C hr ht9
  refine w_lv (lv2 := [(0, .ref (ad 0)), (1, .int p0)]) [0, 1] rfl ?_
  refine w_iload_n C 1 d_T_groupAt_0 rfl rfl ?_
  refine w_xcallTv C (w_runSX C (c_T_requireGroup hl) m_452 m_453 m_24 m_454 ⟨rfl, rfl⟩ hd_T_requireGroup rfl ⟨Nat.le_of_ble_eq_true rfl, Nat.le_of_ble_eq_true rfl⟩ rfl (Nat.le_of_ble_eq_true rfl) d_T_groupAt_1 ⟨Nat.le_of_ble_eq_true rfl, Nat.le_of_ble_eq_true rfl⟩) ht9 (fun _ h => h) ⟨Nat.le_of_ble_eq_true rfl, Nat.le_of_ble_eq_true rfl⟩ (fun u h => ?_)
  obtain ⟨h, g, hg, rfl⟩ := h; have h := h.symm; subst h
  refine w_lv (lv2 := [(0, .ref (ad 0)), (1, .int (nI g))]) [0, 1] rfl ?_
  refine w_aload_n C 0 d_T_groupAt_4 rfl rfl ?_
  refine g_T_groupRows C m_160 d_T_groupAt_5 ?_
  refine w_iload_n C 1 d_T_groupAt_8 rfl rfl ?_
  refine aa_GR C rfl (by omega) d_T_groupAt_9 ?_
  refine w_widen (k2 := 1) (n2 := 6) (Nat.le_of_ble_eq_true rfl) (Nat.le_of_ble_eq_true rfl) ?_
  exact wx_aretT C hr d_T_groupAt_10 (⟨g, hg, rfl, rfl⟩)
set_option maxHeartbeats 4000000 in
set_option maxRecDepth 100000 in
theorem c_T_jobAt {l : Launch} {D : va_G} {cs : Nat → ClassId} {ad : Nat → Nat} {st mt : Nat → Nat → Int32} {ov : Nat → Int64} {p0 : Int32} {jc : Nat} (hjc : jc ≤ 8) (hj0 : st 0 4 = nI jc) (hl : l.stackTraces = false) : gX l y_T_jobAt b_T_jobAt 2 (some (.object "TwinRegister$Job")) ({ frames := 6, cells := 1, slots := 6, locals := 100 } : Room) 1 6 [.ref (ad 0), .int p0] D cs ad st mt ov (QTq D cs ad st mt ov (fun i => ∃ j, j < jc ∧ p0 = nI j ∧ i = 42 + j)) (fun E => E = xO ∧ ¬ inR p0 jc) := by
  refine gX_of (own := "TwinRegister") (by decide +kernel) rfl (Nat.le_of_ble_eq_true rfl) ?_
  intro p e s m args below meth c C hr ht9
  refine w_lv (lv2 := [(0, .ref (ad 0)), (1, .int p0)]) [0, 1] rfl ?_
  refine w_iload_n C 1 d_T_jobAt_0 rfl rfl ?_
  refine w_if_lt C 12 d_T_jobAt_1 (by decide) (fun h1 => ?_) (fun h1 => ?_)
  · skip
    exact w_throwS (names := ["java/lang/RuntimeException", "java/lang/Exception"]) (text := "there is no such job") C hl ht9 (by decide +kernel) hfit m_199 m_32 (by decide +kernel) hat_O d_T_jobAt_12 d_T_jobAt_15 d_T_jobAt_16 d_T_jobAt_18 d_T_jobAt_21 ⟨by decide, Nat.le_of_ble_eq_true rfl, Nat.le_of_ble_eq_true rfl, Nat.le_of_ble_eq_true rfl⟩ ⟨Nat.le_of_ble_eq_true rfl, Nat.le_of_ble_eq_true rfl⟩ (⟨rfl, inR_no0 (by omega) h1⟩)
  · skip
    refine w_iload_n C 1 d_T_jobAt_4 rfl rfl ?_
    refine w_aload_n C 0 d_T_jobAt_5 rfl rfl ?_
    refine g_T_jobCount C m_162 d_T_jobAt_6 ?_
    refine w_topi (y := (nI jc)) (hj0) ?_
    refine w_icmp_lt C 22 d_T_jobAt_9 (by decide) (fun h9 => ?_) (fun h9 => ?_)
    · skip
      obtain ⟨j, hkj, rfl⟩ := inR_lt (n := jc) (by omega) h1 h9
      refine w_aload_n C 0 d_T_jobAt_22 rfl rfl ?_
      refine g_T_jobRows C m_161 d_T_jobAt_23 ?_
      refine w_iload_n C 1 d_T_jobAt_26 rfl rfl ?_
      refine aa_JR C rfl (by omega) d_T_jobAt_27 ?_
      refine w_widen (k2 := 1) (n2 := 6) (Nat.le_of_ble_eq_true rfl) (Nat.le_of_ble_eq_true rfl) ?_
      exact wx_aretT C hr d_T_jobAt_28 (⟨j, hkj, rfl, rfl⟩)
    · skip
      exact w_throwS (names := ["java/lang/RuntimeException", "java/lang/Exception"]) (text := "there is no such job") C hl ht9 (by decide +kernel) hfit m_199 m_32 (by decide +kernel) hat_O d_T_jobAt_12 d_T_jobAt_15 d_T_jobAt_16 d_T_jobAt_18 d_T_jobAt_21 ⟨by decide, Nat.le_of_ble_eq_true rfl, Nat.le_of_ble_eq_true rfl, Nat.le_of_ble_eq_true rfl⟩ ⟨Nat.le_of_ble_eq_true rfl, Nat.le_of_ble_eq_true rfl⟩ (⟨rfl, inR_no2 (n := jc) (by omega) h9⟩)
set_option maxHeartbeats 4000000 in
set_option maxRecDepth 100000 in
theorem l_T_mergeWish {p : Program} {l : Launch} {e : Env} {s : State} {m : MethodId} {args : Array Value} {below : List Frame} {meth : Method} {c : Code} {Q : State → Prop} {D : va_G} {cs : Nat → ClassId} {ad : Nat → Nat} {A : Nat → Prop} {cells slots : Nat} {st mt : Nat → Nat → Int32} {ov : Nat → Int64} {q : Nat} (hq : q < 8) (C : Cx p s m args meth c D cs ad A b_T_mergeWish 3 "TwinRegister") (hcs : cells ≤ 0 ∧ slots ≤ 0)
    (kx : Wg p l e ({ frames := 3, cells := 0, slots := 0, locals := 64 } : Room) s m args below meth c Q D cs ad A 3 cells slots 39 [(0, .ref (ad 0)), (1, .ref (ad (4 + 4 * q))), (2, .int (nI 12))] [] (merW st q 12) mt ov) : ∀ n i : Nat, i + n = 12 → Wg p l e ({ frames := 3, cells := 0, slots := 0, locals := 64 } : Room) s m args below meth c Q D cs ad A 3 cells slots 2 [(0, .ref (ad 0)), (1, .ref (ad (4 + 4 * q))), (2, .int (nI i))] [] (merW st q i) mt ov := by
  intro n
  induction n with
  | zero =>
    intro i hi
    have hi9 : 12 = i := by omega
    subst hi9
    refine w_iload_n C 2 d_T_mergeWish_2 rfl rfl ?_
    refine w_bipush (v := 12) C d_T_mergeWish_3 rfl ?_
    refine w_icmp_ge_t C 39 d_T_mergeWish_5 (by decide) (nI_le (a := 12) (b := 12) (Nat.le_refl _) (by decide)) ?_
    exact w_lv [0, 1, 2] rfl kx
  | succ n ih =>
    intro i hi
    have hi2 : i < 12 := by omega
    refine w_iload_n C 2 d_T_mergeWish_2 rfl rfl ?_
    refine w_bipush (v := 12) C d_T_mergeWish_3 rfl ?_
    refine w_icmp_ge_f C 39 d_T_mergeWish_5 (by decide) (nI_ge (b := 12) hi2 (by decide)) ?_
    refine w_aload_n C 0 d_T_mergeWish_8 rfl rfl ?_
    refine g_T_draft C m_158 d_T_mergeWish_9 ?_
    refine w_iload_n C 2 d_T_mergeWish_12 rfl rfl ?_
    refine w_callTi C (w_runVN C (c_F_has ) (by omega) e_F rfl rfl m_345 m_347 m_5 m_25 m_348 ⟨rfl, rfl⟩ hd_F_has rfl ⟨Nat.le_of_ble_eq_true rfl, Nat.le_of_ble_eq_true rfl⟩ rfl (Nat.le_of_ble_eq_true rfl) d_T_mergeWish_13 hcs) (fun r13 u13 h13 => ?_)
    obtain ⟨rfl, h13⟩ := h13; have h13 := h13.symm; subst h13
    refine w_ifb_eq C 33 d_T_mergeWish_16 (by decide) (fun h16 => ?_) (fun h16 => ?_)
    · skip
      refine w_iinc (lv2 := [(2, .int (nI (i + 1))), (0, .ref (ad 0)), (1, .ref (ad (4 + 4 * q)))]) C 2 d_T_mergeWish_33 rfl (nI_1 _) (by decide) rfl ?_
      refine w_goto C 2 d_T_mergeWish_36 (by decide) ?_
      refine w_st (st2 := merW st q (i + 1)) ((show merW st q (i + 1) = _ from by first | exact merWs_t h16 | exact merWs_f h16).symm) ?_
      exact w_lv [1, 2, 0] rfl (ih (i + 1) (by omega))
    · skip
      refine w_aload_n C 1 d_T_mergeWish_19 rfl rfl ?_
      refine w_iload_n C 2 d_T_mergeWish_20 rfl rfl ?_
      refine w_aload_n C 0 d_T_mergeWish_21 rfl rfl ?_
      refine g_T_draft C m_158 d_T_mergeWish_22 ?_
      refine gN_F_values C m_51 d_T_mergeWish_25 ?_
      refine w_iload_n C 2 d_T_mergeWish_28 rfl rfl ?_
      refine ia_FV C rfl (by omega) d_T_mergeWish_29 ?_
      refine w_callTv C (w_runVN C (c_D_takeWish (by omega) (by omega)) (by omega) (e_D (by omega)) rfl rfl m_349 m_351 m_6 m_26 m_352 ⟨rfl, rfl⟩ hd_D_takeWish rfl ⟨Nat.le_of_ble_eq_true rfl, Nat.le_of_ble_eq_true rfl⟩ rfl (Nat.le_of_ble_eq_true rfl) d_T_mergeWish_30 hcs) (fun u30 h30 => ?_)
      subst h30
      refine w_iinc (lv2 := [(2, .int (nI (i + 1))), (0, .ref (ad 0)), (1, .ref (ad (4 + 4 * q)))]) C 2 d_T_mergeWish_33 rfl (nI_1 _) (by decide) rfl ?_
      refine w_goto C 2 d_T_mergeWish_36 (by decide) ?_
      refine w_st (st2 := merW st q (i + 1)) ((show merW st q (i + 1) = _ from by first | exact merWs_t h16 | exact merWs_f h16).symm) ?_
      exact w_lv [1, 2, 0] rfl (ih (i + 1) (by omega))
set_option maxHeartbeats 4000000 in
set_option maxRecDepth 100000 in
theorem c_T_mergeWish {l : Launch} {D : va_G} {cs : Nat → ClassId} {ad : Nat → Nat} {st mt : Nat → Nat → Int32} {ov : Nat → Int64} {q : Nat} (hq : q < 8) : gM l y_T_mergeWish b_T_mergeWish 3 none ({ frames := 3, cells := 0, slots := 0, locals := 64 } : Room) 0 0 [.ref (ad 0), .ref (ad (4 + 4 * q))] D cs ad st mt ov (QTv D cs ad mt ov (fun u => u = merW st q 12)) := by
  refine gM_of (own := "TwinRegister") (by decide +kernel) rfl (Nat.le_of_ble_eq_true rfl) ?_
  intro p e s m args below meth c C hr
  refine w_lv (lv2 := [(0, .ref (ad 0)), (1, .ref (ad (4 + 4 * q)))]) [0, 1] rfl ?_
  refine w_iconst (v := 0) C d_T_mergeWish_0 rfl ?_
  refine w_istore_n (lv2 := [(2, .int 0), (0, .ref (ad 0)), (1, .ref (ad (4 + 4 * q)))]) C d_T_mergeWish_1 rfl (by decide) rfl ?_
  refine w_lv (lv2 := [(0, .ref (ad 0)), (1, .ref (ad (4 + 4 * q))), (2, .int (nI 0))]) [1, 2, 0] rfl ?_
  refine l_T_mergeWish hq C ⟨Nat.le_of_ble_eq_true rfl, Nat.le_of_ble_eq_true rfl⟩ ?_ 12 0 rfl
  exact w_vretT C hr d_T_mergeWish_39 (rfl)
set_option maxHeartbeats 4000000 in
set_option maxRecDepth 100000 in
theorem l_T_mergeReport {p : Program} {l : Launch} {e : Env} {s : State} {m : MethodId} {args : Array Value} {below : List Frame} {meth : Method} {c : Code} {Q : State → Prop} {D : va_G} {cs : Nat → ClassId} {ad : Nat → Nat} {A : Nat → Prop} {cells slots : Nat} {st mt : Nat → Nat → Int32} {ov : Nat → Int64} {q : Nat} (hq : q < 8) (C : Cx p s m args meth c D cs ad A b_T_mergeReport 3 "TwinRegister") (hcs : cells ≤ 0 ∧ slots ≤ 0)
    (kx : Wg p l e ({ frames := 3, cells := 0, slots := 0, locals := 64 } : Room) s m args below meth c Q D cs ad A 3 cells slots 39 [(0, .ref (ad 0)), (1, .ref (ad (4 + 4 * q))), (2, .int (nI 12))] [] (merR st q 12) mt ov) : ∀ n i : Nat, i + n = 12 → Wg p l e ({ frames := 3, cells := 0, slots := 0, locals := 64 } : Room) s m args below meth c Q D cs ad A 3 cells slots 2 [(0, .ref (ad 0)), (1, .ref (ad (4 + 4 * q))), (2, .int (nI i))] [] (merR st q i) mt ov := by
  intro n
  induction n with
  | zero =>
    intro i hi
    have hi9 : 12 = i := by omega
    subst hi9
    refine w_iload_n C 2 d_T_mergeReport_2 rfl rfl ?_
    refine w_bipush (v := 12) C d_T_mergeReport_3 rfl ?_
    refine w_icmp_ge_t C 39 d_T_mergeReport_5 (by decide) (nI_le (a := 12) (b := 12) (Nat.le_refl _) (by decide)) ?_
    exact w_lv [0, 1, 2] rfl kx
  | succ n ih =>
    intro i hi
    have hi2 : i < 12 := by omega
    refine w_iload_n C 2 d_T_mergeReport_2 rfl rfl ?_
    refine w_bipush (v := 12) C d_T_mergeReport_3 rfl ?_
    refine w_icmp_ge_f C 39 d_T_mergeReport_5 (by decide) (nI_ge (b := 12) hi2 (by decide)) ?_
    refine w_aload_n C 0 d_T_mergeReport_8 rfl rfl ?_
    refine g_T_draft C m_158 d_T_mergeReport_9 ?_
    refine w_iload_n C 2 d_T_mergeReport_12 rfl rfl ?_
    refine w_callTi C (w_runVN C (c_F_has ) (by omega) e_F rfl rfl m_345 m_347 m_5 m_25 m_348 ⟨rfl, rfl⟩ hd_F_has rfl ⟨Nat.le_of_ble_eq_true rfl, Nat.le_of_ble_eq_true rfl⟩ rfl (Nat.le_of_ble_eq_true rfl) d_T_mergeReport_13 hcs) (fun r13 u13 h13 => ?_)
    obtain ⟨rfl, h13⟩ := h13; have h13 := h13.symm; subst h13
    refine w_ifb_eq C 33 d_T_mergeReport_16 (by decide) (fun h16 => ?_) (fun h16 => ?_)
    · skip
      refine w_iinc (lv2 := [(2, .int (nI (i + 1))), (0, .ref (ad 0)), (1, .ref (ad (4 + 4 * q)))]) C 2 d_T_mergeReport_33 rfl (nI_1 _) (by decide) rfl ?_
      refine w_goto C 2 d_T_mergeReport_36 (by decide) ?_
      refine w_st (st2 := merR st q (i + 1)) ((show merR st q (i + 1) = _ from by first | exact merRs_t h16 | exact merRs_f h16).symm) ?_
      exact w_lv [1, 2, 0] rfl (ih (i + 1) (by omega))
    · skip
      refine w_aload_n C 1 d_T_mergeReport_19 rfl rfl ?_
      refine w_iload_n C 2 d_T_mergeReport_20 rfl rfl ?_
      refine w_aload_n C 0 d_T_mergeReport_21 rfl rfl ?_
      refine g_T_draft C m_158 d_T_mergeReport_22 ?_
      refine gN_F_values C m_51 d_T_mergeReport_25 ?_
      refine w_iload_n C 2 d_T_mergeReport_28 rfl rfl ?_
      refine ia_FV C rfl (by omega) d_T_mergeReport_29 ?_
      refine w_callTv C (w_runVN C (c_D_takeReport (by omega) (by omega)) (by omega) (e_D (by omega)) rfl rfl m_380 m_382 m_11 m_26 m_383 ⟨rfl, rfl⟩ hd_D_takeReport rfl ⟨Nat.le_of_ble_eq_true rfl, Nat.le_of_ble_eq_true rfl⟩ rfl (Nat.le_of_ble_eq_true rfl) d_T_mergeReport_30 hcs) (fun u30 h30 => ?_)
      subst h30
      refine w_iinc (lv2 := [(2, .int (nI (i + 1))), (0, .ref (ad 0)), (1, .ref (ad (4 + 4 * q)))]) C 2 d_T_mergeReport_33 rfl (nI_1 _) (by decide) rfl ?_
      refine w_goto C 2 d_T_mergeReport_36 (by decide) ?_
      refine w_st (st2 := merR st q (i + 1)) ((show merR st q (i + 1) = _ from by first | exact merRs_t h16 | exact merRs_f h16).symm) ?_
      exact w_lv [1, 2, 0] rfl (ih (i + 1) (by omega))
set_option maxHeartbeats 4000000 in
set_option maxRecDepth 100000 in
theorem c_T_mergeReport {l : Launch} {D : va_G} {cs : Nat → ClassId} {ad : Nat → Nat} {st mt : Nat → Nat → Int32} {ov : Nat → Int64} {q : Nat} (hq : q < 8) : gM l y_T_mergeReport b_T_mergeReport 3 none ({ frames := 3, cells := 0, slots := 0, locals := 64 } : Room) 0 0 [.ref (ad 0), .ref (ad (4 + 4 * q))] D cs ad st mt ov (QTv D cs ad mt ov (fun u => u = merR st q 12)) := by
  refine gM_of (own := "TwinRegister") (by decide +kernel) rfl (Nat.le_of_ble_eq_true rfl) ?_
  intro p e s m args below meth c C hr
  refine w_lv (lv2 := [(0, .ref (ad 0)), (1, .ref (ad (4 + 4 * q)))]) [0, 1] rfl ?_
  refine w_iconst (v := 0) C d_T_mergeReport_0 rfl ?_
  refine w_istore_n (lv2 := [(2, .int 0), (0, .ref (ad 0)), (1, .ref (ad (4 + 4 * q)))]) C d_T_mergeReport_1 rfl (by decide) rfl ?_
  refine w_lv (lv2 := [(0, .ref (ad 0)), (1, .ref (ad (4 + 4 * q))), (2, .int (nI 0))]) [1, 2, 0] rfl ?_
  refine l_T_mergeReport hq C ⟨Nat.le_of_ble_eq_true rfl, Nat.le_of_ble_eq_true rfl⟩ ?_ 12 0 rfl
  exact w_vretT C hr d_T_mergeReport_39 (rfl)
set_option maxHeartbeats 4000000 in
set_option maxRecDepth 100000 in
theorem l_T_membersOf {p : Program} {l : Launch} {e : Env} {s : State} {m : MethodId} {args : Array Value} {below : List Frame} {meth : Method} {c : Code} {Q : State → Prop} {D : va_G} {cs : Nat → ClassId} {ad : Nat → Nat} {A : Nat → Prop} {cells slots : Nat} {st mt : Nat → Nat → Int32} {ov : Nat → Int64} {g k : Nat} (hg : g < 4) (hk : k < 12) (hl : st (37 + g) 0 = nI k) (C : Cx p s m args meth c D cs ad A b_T_membersOf 4 "TwinRegister") (hcs : cells ≤ 0 ∧ slots ≤ 0)
    (kx : Wg p l e ({ frames := 1, cells := 0, slots := 0, locals := 22 } : Room) s m args below meth c Q D cs ad A 4 cells slots 35 [(0, .ref (ad 0)), (1, .ref (ad (37 + g))), (2, .int (memF st g k 8)), (3, .int (nI 8))] [] st mt ov) : ∀ n i : Nat, i + n = 8 → Wg p l e ({ frames := 1, cells := 0, slots := 0, locals := 22 } : Room) s m args below meth c Q D cs ad A 4 cells slots 4 [(0, .ref (ad 0)), (1, .ref (ad (37 + g))), (2, .int (memF st g k i)), (3, .int (nI i))] [] st mt ov := by
  intro n
  induction n with
  | zero =>
    intro i hi
    have hi9 : 8 = i := by omega
    subst hi9
    refine w_iload_n C 3 d_T_membersOf_4 rfl rfl ?_
    refine w_bipush (v := 8) C d_T_membersOf_5 rfl ?_
    refine w_icmp_ge_t C 35 d_T_membersOf_7 (by decide) (nI_le (a := 8) (b := 8) (Nat.le_refl _) (by decide)) ?_
    exact w_lv [0, 1, 2, 3] rfl kx
  | succ n ih =>
    intro i hi
    have hi2 : i < 8 := by omega
    refine w_iload_n C 3 d_T_membersOf_4 rfl rfl ?_
    refine w_bipush (v := 8) C d_T_membersOf_5 rfl ?_
    refine w_icmp_ge_f C 35 d_T_membersOf_7 (by decide) (nI_ge (b := 8) hi2 (by decide)) ?_
    refine w_aload_n C 1 d_T_membersOf_10 rfl rfl ?_
    refine w_aload_n C 0 d_T_membersOf_11 rfl rfl ?_
    refine g_T_deviceRows C m_159 d_T_membersOf_12 ?_
    refine w_iload_n C 3 d_T_membersOf_15 rfl rfl ?_
    refine aa_DR C rfl (by omega) d_T_membersOf_16 ?_
    refine w_callTi C (w_runVN C (c_G_admits (k := k) hg (by omega) hk hl) (by omega) (e_G (by omega)) rfl rfl m_460 m_462 m_17 m_27 m_463 ⟨rfl, rfl⟩ hd_G_admits rfl ⟨Nat.le_of_ble_eq_true rfl, Nat.le_of_ble_eq_true rfl⟩ rfl (Nat.le_of_ble_eq_true rfl) d_T_membersOf_17 hcs) (fun r u h => ?_)
    obtain ⟨rfl, h⟩ := h; have h := h.symm; subst h
    refine w_ifb_eq C 29 d_T_membersOf_20 (by decide) (fun h20 => ?_) (fun h20 => ?_)
    · skip
      refine w_iinc (lv2 := [(3, .int (nI (i + 1))), (0, .ref (ad 0)), (1, .ref (ad (37 + g))), (2, .int (memF st g k i))]) C 3 d_T_membersOf_29 rfl (nI_1 _) (by decide) rfl ?_
      refine w_goto C 4 d_T_membersOf_32 (by decide) ?_
      have ih9 := ih (i + 1) (by omega)
      rw [show memF st g k (i + 1) = _ from by first | exact memS_t h20 | exact memS_f h20] at ih9
      exact w_lv [1, 2, 3, 0] rfl ih9
    · skip
      refine w_iload_n C 2 d_T_membersOf_23 rfl rfl ?_
      refine w_iconst (v := 1) C d_T_membersOf_24 rfl ?_
      refine w_iload_n C 3 d_T_membersOf_25 rfl rfl ?_
      refine w_ishl C d_T_membersOf_26 ?_
      refine w_ior C d_T_membersOf_27 ?_
      refine w_istore_n (lv2 := [(2, .int _), (0, .ref (ad 0)), (1, .ref (ad (37 + g))), (3, .int (nI i))]) C d_T_membersOf_28 rfl (by decide) rfl ?_
      refine w_iinc (lv2 := [(3, .int (nI (i + 1))), (2, .int _), (0, .ref (ad 0)), (1, .ref (ad (37 + g)))]) C 3 d_T_membersOf_29 rfl (nI_1 _) (by decide) rfl ?_
      refine w_goto C 4 d_T_membersOf_32 (by decide) ?_
      have ih9 := ih (i + 1) (by omega)
      rw [show memF st g k (i + 1) = _ from by first | exact memS_t h20 | exact memS_f h20] at ih9
      exact w_lv [2, 3, 1, 0] rfl ih9
set_option maxHeartbeats 4000000 in
set_option maxRecDepth 100000 in
theorem c_T_membersOf {l : Launch} {D : va_G} {cs : Nat → ClassId} {ad : Nat → Nat} {st mt : Nat → Nat → Int32} {ov : Nat → Int64} {g k : Nat} (hg : g < 4) (hk : k < 12) (hl : st (37 + g) 0 = nI k) : gM l y_T_membersOf b_T_membersOf 4 (some .int) ({ frames := 1, cells := 0, slots := 0, locals := 22 } : Room) 0 0 [.ref (ad 0), .ref (ad (37 + g))] D cs ad st mt ov (QTi D cs ad mt ov (fun r u => r = memF st g k 8 ∧ u = st)) := by
  refine gM_of (own := "TwinRegister") (by decide +kernel) rfl (Nat.le_of_ble_eq_true rfl) ?_
  intro p e s m args below meth c C hr
  refine w_lv (lv2 := [(0, .ref (ad 0)), (1, .ref (ad (37 + g)))]) [0, 1] rfl ?_
  refine w_iconst (v := 0) C d_T_membersOf_0 rfl ?_
  refine w_istore_n (lv2 := [(2, .int 0), (0, .ref (ad 0)), (1, .ref (ad (37 + g)))]) C d_T_membersOf_1 rfl (by decide) rfl ?_
  refine w_iconst (v := 0) C d_T_membersOf_2 rfl ?_
  refine w_istore_n (lv2 := [(3, .int 0), (2, .int 0), (0, .ref (ad 0)), (1, .ref (ad (37 + g)))]) C d_T_membersOf_3 rfl (by decide) rfl ?_
  refine w_lv (lv2 := [(0, .ref (ad 0)), (1, .ref (ad (37 + g))), (2, .int (memF st g k 0)), (3, .int (nI 0))]) [2, 3, 1, 0] rfl ?_
  refine l_T_membersOf hg hk hl C ⟨Nat.le_of_ble_eq_true rfl, Nat.le_of_ble_eq_true rfl⟩ ?_ 8 0 rfl
  refine w_iload_n C 2 d_T_membersOf_35 rfl rfl ?_
  exact w_iretT C hr d_T_membersOf_36 (⟨rfl, rfl⟩)
