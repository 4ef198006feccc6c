/-! ===== the law's own arrays: what its small methods do ===== -/
theorem ix12 (i k : Nat) : (12 : Int32) * nI i + nI k = nI (12 * i + k) := by rw [show (12 : Int32) = nI 12 from rfl, pk_mul, nI_add]
theorem ush_n (v : Int32) : ∃ j, j < 2 ^ 31 ∧ ush v 1 = nI j := by
  have h := pk_ushr v 1 1 (by decide)
  refine ⟨v.toBitVec.toNat / 2 ^ 1, ?_, ?_⟩
  · have := v.toBitVec.isLt
    omega
  · apply Int32.toBitVec_inj.mp
    apply BitVec.eq_of_toNat_eq
    show (ush v 1).toBitVec.toNat = (BitVec.ofNat 32 _).toNat
    unfold ush
    rw [h, BitVec.toNat_ofNat, Nat.mod_eq_of_lt]
    have := v.toBitVec.isLt
    omega
theorem lowR {v : Int32} {n : Nat} (hn : 0 < n ∧ n < 2 ^ 31) : ∃ k, k < n ∧ ush v 1 - ush v 1 / nI n * nI n = nI k := by
  obtain ⟨j, hj, e⟩ := ush_n v
  rw [e, pk_rem hj hn.1 hn.2]
  exact ⟨j % n, Nat.mod_lt _ hn.1, rfl⟩
def wO (x : Int32) : Int32 := (x &&& 127) - 1
def rO (x : Int32) : Int32 := (x >>> ((7 : Int32) &&& 31) &&& 127) - 1
def difL (x : Int32) : Bool := !decide (wO x < 0) && (!decide (16384 ≤ x) && !decide (wO x = rO x))
def dgS (a : St) (q i : Nat) (x : Int32) : Int32 := bif difL (a 0 (12 * q + i)) then x ||| bitI i else x
def dgL (a : St) (q : Nat) : Nat → Int32
  | 0 => 0
  | i + 1 => dgS a q i (dgL a q i)
theorem dgS_1 {a : St} {q i : Nat} {x : Int32} (h : wO (a 0 (12 * q + i)) < 0) : dgS a q i x = x := by simp [dgS, difL, h]
theorem dgS_2 {a : St} {q i : Nat} {x : Int32} (h : 16384 ≤ a 0 (12 * q + i)) : dgS a q i x = x := by simp [dgS, difL, h]
theorem dgS_3 {a : St} {q i : Nat} {x : Int32} (h : wO (a 0 (12 * q + i)) = rO (a 0 (12 * q + i))) : dgS a q i x = x := by simp [dgS, difL, h]
theorem dgS_4 {a : St} {q i : Nat} {x : Int32} (h : ¬ wO (a 0 (12 * q + i)) < 0) (h2 : ¬ 16384 ≤ a 0 (12 * q + i)) (h3 : ¬ wO (a 0 (12 * q + i)) = rO (a 0 (12 * q + i))) : dgS a q i x = x ||| bitI i := by
  unfold dgS difL
  rw [decide_eq_false h, decide_eq_false h2, decide_eq_false h3]
  rfl
def admL (a : St) (g k i : Nat) : Bool := !decide (rO (a 0 (12 * i + k)) < a 5 g >>> ((4 : Int32) &&& 31) &&& 127) && !decide (a 5 g >>> ((11 : Int32) &&& 31) < rO (a 0 (12 * i + k)))
def mlS (a : St) (g k i : Nat) (x : Int32) : Int32 := bif admL a g k i then x ||| bitI i else x
def mlL (a : St) (g k : Nat) : Nat → Int32
  | 0 => 0
  | i + 1 => mlS a g k i (mlL a g k i)
theorem mlS_1 {a : St} {g k i : Nat} {x : Int32} (h : rO (a 0 (12 * i + k)) < a 5 g >>> ((4 : Int32) &&& 31) &&& 127) : mlS a g k i x = x := by simp [mlS, admL, h]
theorem mlS_2 {a : St} {g k i : Nat} {x : Int32} (h : a 5 g >>> ((11 : Int32) &&& 31) < rO (a 0 (12 * i + k))) : mlS a g k i x = x := by simp [mlS, admL, h]
theorem mlS_3 {a : St} {g k i : Nat} {x : Int32} (h : ¬ rO (a 0 (12 * i + k)) < a 5 g >>> ((4 : Int32) &&& 31) &&& 127) (h2 : ¬ a 5 g >>> ((11 : Int32) &&& 31) < rO (a 0 (12 * i + k))) : mlS a g k i x = x ||| bitI i := by
  unfold mlS admL
  rw [decide_eq_false h, decide_eq_false h2]
  rfl
def drS (a : St) (i : Nat) (n : Int32) : Int32 := n + (bif decide (a 4 i ≤ -2) then 0 else 1)
def drL (a : St) : Nat → Int32
  | 0 => 0
  | i + 1 => drS a i (drL a i)
theorem drS_t {a : St} {i : Nat} {n : Int32} (h : a 4 i ≤ -2) : drS a i n = n + 0 := by unfold drS; rw [bt h]
theorem drS_f {a : St} {i : Nat} {n : Int32} (h : ¬ a 4 i ≤ -2) : drS a i n = n + 1 := by unfold drS; rw [bf h]
def emL (a : St) : Nat → St
  | 0 => a
  | i + 1 => up2 (emL a i) 4 i (-2)
/-! the waves -/
def atL (e : Int32) (x : Nat) : Int32 := e >>> (nI (2 * x) &&& 31) &&& 3
def setE (e : Int32) (x : Nat) (n : Int32) : Int32 := e &&& ((3 : Int32) <<< (nI (2 * x) &&& 31) ^^^ (-1)) ||| n <<< (nI (2 * x) &&& 31)
def jdN (a : St) (k lf x : Nat) (v : Int32) : Int32 :=
  bif decide (atL (a 7 k) x = 1) && decide (rO (a 0 (12 * x + lf)) = v) then 2
  else bif decide (atL (a 7 k) x = 1) && (decide (wO (a 0 (12 * x + lf)) = v) && !decide (a 0 (12 * x + lf) < 16384)) then 3 else atL (a 7 k) x
theorem jdN_2 {a : St} {k lf x : Nat} {v : Int32} (h : atL (a 7 k) x = 1) (h2 : rO (a 0 (12 * x + lf)) = v) : jdN a k lf x v = 2 := by simp [jdN, h, h2]
theorem jdN_3 {a : St} {k lf x : Nat} {v : Int32} (h : atL (a 7 k) x = 1) (h2 : ¬ rO (a 0 (12 * x + lf)) = v) (h3 : wO (a 0 (12 * x + lf)) = v) (h4 : ¬ a 0 (12 * x + lf) < 16384) : jdN a k lf x v = 3 := by
  unfold jdN
  rw [decide_eq_true h, decide_eq_false h2, decide_eq_true h3, decide_eq_false h4]
  rfl
theorem jdN_a {a : St} {k lf x : Nat} {v : Int32} (h : ¬ atL (a 7 k) x = 1) : jdN a k lf x v = atL (a 7 k) x := by simp [jdN, h]
theorem jdN_b {a : St} {k lf x : Nat} {v : Int32} (h2 : ¬ rO (a 0 (12 * x + lf)) = v) (h3 : ¬ wO (a 0 (12 * x + lf)) = v) : jdN a k lf x v = atL (a 7 k) x := by simp [jdN, h2, h3]
theorem jdN_c {a : St} {k lf x : Nat} {v : Int32} (h2 : ¬ rO (a 0 (12 * x + lf)) = v) (h4 : a 0 (12 * x + lf) < 16384) : jdN a k lf x v = atL (a 7 k) x := by simp [jdN, h2, h4]
def jdS (k lf x : Nat) (v : Int32) (s : St × Int32) : St × Int32 := (up2 s.1 7 k (setE (s.1 7 k) x (jdN s.1 k lf x v)), s.2 + (bif decide (jdN s.1 k lf x v = 3) then 1 else 0))
theorem jdS_n {k lf x : Nat} {v n : Int32} {s : St × Int32} (e : jdN s.1 k lf x v = n) (h : n = 3) : jdS k lf x v s = (up2 s.1 7 k (setE (s.1 7 k) x n), s.2 + 1) := by
  unfold jdS
  rw [e, decide_eq_true h]
  rfl
theorem jdS_m {k lf x : Nat} {v n : Int32} {s : St × Int32} (e : jdN s.1 k lf x v = n) (h : ¬ n = 3) : jdS k lf x v s = (up2 s.1 7 k (setE (s.1 7 k) x n), s.2 + 0) := by
  unfold jdS
  rw [e, decide_eq_false h]
  rfl
def jdL (a : St) (k lf : Nat) (v : Int32) : Nat → St × Int32
  | 0 => (a, 0)
  | i + 1 => jdS k lf i v (jdL a k lf v i)
theorem jdL_o {a : St} {k lf x : Nat} {v : Int32} (h : x ≠ 7) : ∀ i, (jdL a k lf v i).1 x = a x
  | 0 => rfl
  | i + 1 => (up2_out (jdL a k lf v i).1 _ h).trans (jdL_o h i)
def swT (a : St) (k lf x : Nat) (v : Int32) : St :=
  up2 (up2 (up2 a 7 k (a 7 k ||| (1 : Int32) <<< (nI (2 * x) &&& 31))) 0 (12 * x + lf) (up2 a 7 k (a 7 k ||| (1 : Int32) <<< (nI (2 * x) &&& 31)) 0 (12 * x + lf) &&& 16256 ||| (v + 1))) 1 x
   (up2 (up2 a 7 k (a 7 k ||| (1 : Int32) <<< (nI (2 * x) &&& 31))) 0 (12 * x + lf) (up2 a 7 k (a 7 k ||| (1 : Int32) <<< (nI (2 * x) &&& 31)) 0 (12 * x + lf) &&& 16256 ||| (v + 1)) 1 x + 1)
theorem swT_o {a : St} {k lf x y : Nat} {v : Int32} (h : y ≠ 7) (h0 : y ≠ 0) (h1 : y ≠ 1) : swT a k lf x v y = a y := by
  unfold swT
  rw [up2_out _ _ h1, up2_out _ _ h0, up2_out _ _ h]
def swC (a : St) (left : Int32) (k g gk x : Nat) : Bool := !decide (left = 0) && (!decide (0 < atL (a 7 k) x) && !decide (mlL a g gk 5 >>> (nI x &&& 31) &&& 1 = 0))
def swS (k lf g gk x : Nat) (v : Int32) (s : St × Int32 × Int32) : St × Int32 × Int32 := bif swC s.1 s.2.1 k g gk x then (swT s.1 k lf x v, s.2.1 + (-1), s.2.2 + 1) else s
theorem swS_1 {k lf g gk x : Nat} {v : Int32} {s : St × Int32 × Int32} (h : s.2.1 = 0) : swS k lf g gk x v s = s := by simp [swS, swC, h]
theorem swS_2 {k lf g gk x : Nat} {v : Int32} {s : St × Int32 × Int32} (h : 0 < atL (s.1 7 k) x) : swS k lf g gk x v s = s := by simp [swS, swC, h]
theorem swS_3 {k lf g gk x : Nat} {v : Int32} {s : St × Int32 × Int32} (h : mlL s.1 g gk 5 >>> (nI x &&& 31) &&& 1 = 0) : swS k lf g gk x v s = s := by simp [swS, swC, h]
theorem swS_4 {k lf g gk x : Nat} {v : Int32} {s : St × Int32 × Int32} (h : ¬ s.2.1 = 0) (h2 : ¬ 0 < atL (s.1 7 k) x) (h3 : ¬ mlL s.1 g gk 5 >>> (nI x &&& 31) &&& 1 = 0) : swS k lf g gk x v s = (swT s.1 k lf x v, s.2.1 + (-1), s.2.2 + 1) := by
  unfold swS swC
  rw [decide_eq_false h, decide_eq_false h2, decide_eq_false h3]
  rfl
def swL (a : St) (left all : Int32) (k lf g gk : Nat) (v : Int32) : Nat → St × Int32 × Int32
  | 0 => (a, left, all)
  | i + 1 => swS k lf g gk i v (swL a left all k lf g gk v i)
theorem swL_o {a : St} {left all : Int32} {k lf g gk y : Nat} {v : Int32} (h : y ≠ 7) (h0 : y ≠ 0) (h1 : y ≠ 1) : ∀ i, (swL a left all k lf g gk v i).1 y = a y
  | 0 => rfl
  | i + 1 => by
    have ih := swL_o (a := a) (left := left) (all := all) (k := k) (lf := lf) (g := g) (gk := gk) (v := v) h h0 h1 i
    show (swS k lf g gk i v (swL a left all k lf g gk v i)).1 y = _
    generalize swL a left all k lf g gk v i = b at ih ⊢
    unfold swS
    cases swC b.1 b.2.1 k g gk i
    · exact ih
    · exact (swT_o h h0 h1).trans ih
def lfO (a : St) (k : Nat) : Nat := tn (a 6 k >>> ((2 : Int32) &&& 31) &&& 15)
def jvO (a : St) (k : Nat) : Int32 := a 6 k >>> ((6 : Int32) &&& 31) &&& 127
def jrO (a : St) (k : Nat) : Int32 := a 6 k >>> ((13 : Int32) &&& 31) &&& 15
def jgO (a : St) (k : Nat) : Nat := tn (a 6 k &&& 3)
def gkO (a : St) (g : Nat) : Nat := tn (a 5 g &&& 15)
def okL (a : St) : Prop := (∀ k, k < 8 → RT (a 6 k >>> ((2 : Int32) &&& 31) &&& 15) 12 ∧ RT (a 6 k &&& 3) 4) ∧ ∀ g, g < 4 → RT (a 5 g &&& 15) 12
theorem okL_of {a b : St} (h : okL a) (h5 : b 5 = a 5) (h6 : b 6 = a 6) : okL b := by
  unfold okL
  rw [h5, h6]
  exact h
def jdA (a : St) (k : Nat) : St × Int32 := jdL a k (lfO a k) (jvO a k) 5
def swA (a : St) (k : Nat) (v all : Int32) (lf : Nat) : St × Int32 × Int32 := swL a (jrO a k) all k lf (jgO a k) (gkO a (jgO a k)) v 5
def wvS (k : Nat) (s : St × Int32) : St × Int32 :=
  bif decide (s.1 8 k ≤ 0) then
    (bif decide ((jdA s.1 k).2 < (jdA s.1 k).1 6 k >>> ((17 : Int32) &&& 31)) then ((swA (jdA s.1 k).1 k (jvO s.1 k) s.2 (lfO s.1 k)).1, (swA (jdA s.1 k).1 k (jvO s.1 k) s.2 (lfO s.1 k)).2.2)
     else (up2 (jdA s.1 k).1 8 k 1, s.2))
  else s
theorem wvS_1 {k : Nat} {s : St × Int32} (h : ¬ s.1 8 k ≤ 0) : wvS k s = s := by unfold wvS; rw [decide_eq_false h]; rfl
theorem wvS_2 {k : Nat} {s : St × Int32} (h : s.1 8 k ≤ 0) (h2 : (jdA s.1 k).2 < (jdA s.1 k).1 6 k >>> ((17 : Int32) &&& 31)) : wvS k s = ((swA (jdA s.1 k).1 k (jvO s.1 k) s.2 (lfO s.1 k)).1, (swA (jdA s.1 k).1 k (jvO s.1 k) s.2 (lfO s.1 k)).2.2) := by
  unfold wvS
  rw [decide_eq_true h, decide_eq_true h2]
  rfl
theorem wvS_3 {k : Nat} {s : St × Int32} (h : s.1 8 k ≤ 0) (h2 : ¬ (jdA s.1 k).2 < (jdA s.1 k).1 6 k >>> ((17 : Int32) &&& 31)) : wvS k s = (up2 (jdA s.1 k).1 8 k 1, s.2) := by
  unfold wvS
  rw [decide_eq_true h, decide_eq_false h2]
  rfl
def wvL (a : St) : Nat → St × Int32
  | 0 => (a, 0)
  | i + 1 => wvS i (wvL a i)
theorem jdA_o {a : St} {k x : Nat} (h : x ≠ 7) : (jdA a k).1 x = a x := jdL_o h 5
theorem swA_o {a : St} {k lf y : Nat} {v all : Int32} (h : y ≠ 7) (h0 : y ≠ 0) (h1 : y ≠ 1) : (swA a k v all lf).1 y = a y := swL_o h h0 h1 5
theorem wvL_o {a : St} {y : Nat} (h : y ≠ 7) (h0 : y ≠ 0) (h1 : y ≠ 1) (h8 : y ≠ 8) : ∀ i, (wvL a i).1 y = a y
  | 0 => rfl
  | i + 1 => by
    have ih := wvL_o (a := a) h h0 h1 h8 i
    show (wvS i (wvL a i)).1 y = _
    generalize wvL a i = b at ih ⊢
    unfold wvS
    cases decide (b.1 8 i ≤ 0)
    · exact ih
    · cases decide ((jdA b.1 i).2 < (jdA b.1 i).1 6 i >>> ((17 : Int32) &&& 31))
      · exact (up2_out _ _ h8).trans ((jdA_o h).trans ih)
      · exact (swA_o h h0 h1).trans ((jdA_o h).trans ih)
theorem wvL_ok {a : St} (h : okL a) (i : Nat) : okL (wvL a i).1 := okL_of h (wvL_o (by decide) (by decide) (by decide) (by decide) i) (wvL_o (by decide) (by decide) (by decide) (by decide) i)
theorem jdA_ok {a : St} {k : Nat} (h : okL a) : okL (jdA a k).1 := okL_of h (jdA_o (by decide)) (jdA_o (by decide))

set_option maxHeartbeats 4000000 in
set_option maxRecDepth 100000 in
theorem c_L_low {l : Launch} {D : va_G} {cs : Nat → ClassId} {ad : Nat → Nat} {st mt : Nat → Nat → Int32} {ov : Nat → Int64} {p0 : Int32} {n : Nat} (hn : 0 < n ∧ n < 2 ^ 31) : gM l y_L_low b_L_low 2 (some .int) ({ frames := 0, cells := 0, slots := 0, locals := 0 } : Room) 0 0 [.int p0, .int (nI n)] D cs ad st mt ov (QMi D cs ad st ov (fun r u => (∃ k, k < n ∧ r = nI k) ∧ u = mt)) := by
  refine gM_of (own := "TwinRegisterLaw") (by decide +kernel) rfl (Nat.le_of_ble_eq_true rfl) ?_
  intro p e s m args below meth c C hr
  refine w_lv (lv2 := [(0, .int p0), (1, .int (nI n))]) [0, 1] rfl ?_
  refine w_iload_n C 0 d_L_low_0 rfl rfl ?_
  refine w_iconst (v := 1) C d_L_low_1 rfl ?_
  refine w_iushr C d_L_low_2 rfl ?_
  refine w_iload_n C 1 d_L_low_3 rfl rfl ?_
  refine w_irem C d_L_low_4 (nI_ne0 hn.1 hn.2) ?_
  exact w_iretM C hr d_L_low_5 (⟨lowR hn, rfl⟩)
set_option maxHeartbeats 4000000 in
set_option maxRecDepth 100000 in
theorem c_L_wishedOf {l : Launch} {D : va_G} {cs : Nat → ClassId} {ad : Nat → Nat} {st mt : Nat → Nat → Int32} {ov : Nat → Int64} {p0 : Int32} : gM l y_L_wishedOf b_L_wishedOf 1 (some .int) ({ frames := 0, cells := 0, slots := 0, locals := 0 } : Room) 0 0 [.int p0] D cs ad st mt ov (QMi D cs ad st ov (fun r u => r = wO p0 ∧ u = mt)) := by
  refine gM_of (own := "TwinRegisterLaw") (by decide +kernel) rfl (Nat.le_of_ble_eq_true rfl) ?_
  intro p e s m args below meth c C hr
  refine w_lv (lv2 := [(0, .int p0)]) [0] rfl ?_
  refine w_iload_n C 0 d_L_wishedOf_0 rfl rfl ?_
  refine w_bipush (v := 127) C d_L_wishedOf_1 rfl ?_
  refine w_iand C d_L_wishedOf_3 ?_
  refine w_iconst (v := 1) C d_L_wishedOf_4 rfl ?_
  refine w_isub C d_L_wishedOf_5 ?_
  exact w_iretM C hr d_L_wishedOf_6 (⟨rfl, rfl⟩)
set_option maxHeartbeats 4000000 in
set_option maxRecDepth 100000 in
theorem c_L_reportedOf {l : Launch} {D : va_G} {cs : Nat → ClassId} {ad : Nat → Nat} {st mt : Nat → Nat → Int32} {ov : Nat → Int64} {p0 : Int32} : gM l y_L_reportedOf b_L_reportedOf 1 (some .int) ({ frames := 0, cells := 0, slots := 0, locals := 0 } : Room) 0 0 [.int p0] D cs ad st mt ov (QMi D cs ad st ov (fun r u => r = rO p0 ∧ u = mt)) := by
  refine gM_of (own := "TwinRegisterLaw") (by decide +kernel) rfl (Nat.le_of_ble_eq_true rfl) ?_
  intro p e s m args below meth c C hr
  refine w_lv (lv2 := [(0, .int p0)]) [0] rfl ?_
  refine w_iload_n C 0 d_L_reportedOf_0 rfl rfl ?_
  refine w_bipush (v := 7) C d_L_reportedOf_1 rfl ?_
  refine w_ishr C d_L_reportedOf_3 ?_
  refine w_bipush (v := 127) C d_L_reportedOf_4 rfl ?_
  refine w_iand C d_L_reportedOf_6 ?_
  refine w_iconst (v := 1) C d_L_reportedOf_7 rfl ?_
  refine w_isub C d_L_reportedOf_8 ?_
  exact w_iretM C hr d_L_reportedOf_9 (⟨rfl, rfl⟩)
set_option maxHeartbeats 4000000 in
set_option maxRecDepth 100000 in
theorem l_L_differing {p : Program} {l : Launch} {e : Env} {s : State} {m : MethodId} {args : Array Value} {below : List Frame} {meth : Method} {c : Code} {Q : State → Prop} {D : va_G} {cs : Nat → ClassId} {ad : Nat → Nat} {A : Nat → Prop} {cells slots : Nat} {st mt : Nat → Nat → Int32} {ov : Nat → Int64} {q : Nat} (hq : q < 5) (C : Cx p s m args meth c D cs ad A b_L_differing 5 "TwinRegisterLaw") (hcs : cells ≤ 0 ∧ slots ≤ 0)
    (kx : Wg p l e ({ frames := 1, cells := 0, slots := 0, locals := 20 } : Room) s m args below meth c Q D cs ad A 5 cells slots 61 [(0, .ref (ad 50)), (1, .int (nI q)), (2, .int (dgL mt q 12)), (3, .int (nI 12))] [] st mt ov) : ∀ n i : Nat, i + n = 12 → Wg p l e ({ frames := 1, cells := 0, slots := 0, locals := 20 } : Room) s m args below meth c Q D cs ad A 5 cells slots 4 [(0, .ref (ad 50)), (1, .int (nI q)), (2, .int (dgL mt q i)), (3, .int (nI i))] [] st mt ov := by
  intro n
  induction n with
  | zero =>
    intro i hi
    have hi9 : 12 = i := by omega
    subst hi9
    refine w_iload_n C 3 d_L_differing_4 rfl rfl ?_
    refine w_bipush (v := 12) C d_L_differing_5 rfl ?_
    refine w_icmp_ge_t C 61 d_L_differing_7 (by decide) (nI_le (a := 12) (b := 12) (Nat.le_refl _) (by decide)) ?_
    exact w_lv [0, 1, 2, 3] rfl kx
  | succ n ih =>
    intro i hi
    have hi2 : i < 12 := by omega
    refine w_iload_n C 3 d_L_differing_4 rfl rfl ?_
    refine w_bipush (v := 12) C d_L_differing_5 rfl ?_
    refine w_icmp_ge_f C 61 d_L_differing_7 (by decide) (nI_ge (b := 12) hi2 (by decide)) ?_
    refine w_aload_n C 0 d_L_differing_10 rfl rfl ?_
    refine w_bipush (v := 12) C d_L_differing_11 rfl ?_
    refine w_iload_n C 1 d_L_differing_13 rfl rfl ?_
    refine w_imul C d_L_differing_14 ?_
    refine w_iload_n C 3 d_L_differing_15 rfl rfl ?_
    refine w_iadd C d_L_differing_16 ?_
    refine w_topi (y := (nI (12 * q + i))) (ix12 _ _) ?_
    refine ia_MA C 0 (by omega) rfl rfl (show _ < 60 by omega) d_L_differing_17 ?_
    refine w_topi (y := (mt 0 (12 * q + i))) (rfl) ?_
    refine w_istore (lv2 := [(4, .int (mt 0 (12 * q + i))), (0, .ref (ad 50)), (1, .int (nI q)), (2, .int (dgL mt q i)), (3, .int (nI i))]) C d_L_differing_18 (by decide) rfl ?_
    refine w_iload C 0 d_L_differing_20 rfl ?_
    refine w_callMi C (w_runS C (c_L_wishedOf ) m_388 m_389 m_23 m_390 ⟨rfl, rfl⟩ hd_L_wishedOf rfl ⟨Nat.le_of_ble_eq_true rfl, Nat.le_of_ble_eq_true rfl⟩ rfl (Nat.le_of_ble_eq_true rfl) d_L_differing_22 hcs) (fun r22 u22 h22 => ?_)
    obtain ⟨rfl, h22⟩ := h22; have h22 := h22.symm; subst h22
    refine w_if_lt C 55 d_L_differing_25 (by decide) (fun h25 => ?_) (fun h25 => ?_)
    · skip
      refine w_iinc (lv2 := [(3, .int (nI (i + 1))), (4, .int (mt 0 (12 * q + i))), (0, .ref (ad 50)), (1, .int (nI q)), (2, .int (dgL mt q i))]) C 4 d_L_differing_55 rfl (nI_1 _) (by decide) rfl ?_
      refine w_goto C 4 d_L_differing_58 (by decide) ?_
      have ih9 := ih (i + 1) (by omega)
      rw [show dgL mt q (i + 1) = _ from dgS_1 h25] at ih9
      exact w_lv [2, 3, 4, 0] rfl ih9
    · skip
      refine w_iload C 0 d_L_differing_28 rfl ?_
      refine w_sipush (v := 16384) C d_L_differing_30 rfl ?_
      refine w_icmp_ge C 55 d_L_differing_33 (by decide) (fun h33 => ?_) (fun h33 => ?_)
      · skip
        refine w_iinc (lv2 := [(3, .int (nI (i + 1))), (4, .int (mt 0 (12 * q + i))), (0, .ref (ad 50)), (1, .int (nI q)), (2, .int (dgL mt q i))]) C 4 d_L_differing_55 rfl (nI_1 _) (by decide) rfl ?_
        refine w_goto C 4 d_L_differing_58 (by decide) ?_
        have ih9 := ih (i + 1) (by omega)
        rw [show dgL mt q (i + 1) = _ from dgS_2 h33] at ih9
        exact w_lv [2, 3, 4, 0] rfl ih9
      · skip
        refine w_iload C 0 d_L_differing_36 rfl ?_
        refine w_callMi C (w_runS C (c_L_wishedOf ) m_388 m_389 m_23 m_390 ⟨rfl, rfl⟩ hd_L_wishedOf rfl ⟨Nat.le_of_ble_eq_true rfl, Nat.le_of_ble_eq_true rfl⟩ rfl (Nat.le_of_ble_eq_true rfl) d_L_differing_38 hcs) (fun r38 u38 h38 => ?_)
        obtain ⟨rfl, h38⟩ := h38; have h38 := h38.symm; subst h38
        refine w_iload C 0 d_L_differing_41 rfl ?_
        refine w_callMi C (w_runS C (c_L_reportedOf ) m_391 m_392 m_23 m_393 ⟨rfl, rfl⟩ hd_L_reportedOf rfl ⟨Nat.le_of_ble_eq_true rfl, Nat.le_of_ble_eq_true rfl⟩ rfl (Nat.le_of_ble_eq_true rfl) d_L_differing_43 hcs) (fun r43 u43 h43 => ?_)
        obtain ⟨rfl, h43⟩ := h43; have h43 := h43.symm; subst h43
        refine w_icmp_eq C 55 d_L_differing_46 (by decide) (fun h46 => ?_) (fun h46 => ?_)
        · skip
          refine w_iinc (lv2 := [(3, .int (nI (i + 1))), (4, .int (mt 0 (12 * q + i))), (0, .ref (ad 50)), (1, .int (nI q)), (2, .int (dgL mt q i))]) C 4 d_L_differing_55 rfl (nI_1 _) (by decide) rfl ?_
          refine w_goto C 4 d_L_differing_58 (by decide) ?_
          have ih9 := ih (i + 1) (by omega)
          rw [show dgL mt q (i + 1) = _ from dgS_3 h46] at ih9
          exact w_lv [2, 3, 4, 0] rfl ih9
        · skip
          refine w_iload_n C 3 d_L_differing_49 rfl rfl ?_
          refine w_iconst (v := 1) C d_L_differing_50 rfl ?_
          refine w_iload_n C 4 d_L_differing_51 rfl rfl ?_
          refine w_ishl C d_L_differing_52 ?_
          refine w_ior C d_L_differing_53 ?_
          refine w_istore_n (lv2 := [(2, .int _), (4, .int (mt 0 (12 * q + i))), (0, .ref (ad 50)), (1, .int (nI q)), (3, .int (nI i))]) C d_L_differing_54 rfl (by decide) rfl ?_
          refine w_iinc (lv2 := [(3, .int (nI (i + 1))), (2, .int _), (4, .int (mt 0 (12 * q + i))), (0, .ref (ad 50)), (1, .int (nI q))]) C 4 d_L_differing_55 rfl (nI_1 _) (by decide) rfl ?_
          refine w_goto C 4 d_L_differing_58 (by decide) ?_
          have ih9 := ih (i + 1) (by omega)
          rw [show dgL mt q (i + 1) = _ from dgS_4 h25 h33 h46] at ih9
          exact w_lv [3, 4, 1, 0] rfl ih9
set_option maxHeartbeats 4000000 in
set_option maxRecDepth 100000 in
theorem c_L_differing {l : Launch} {D : va_G} {cs : Nat → ClassId} {ad : Nat → Nat} {st mt : Nat → Nat → Int32} {ov : Nat → Int64} {q : Nat} (hq : q < 5) : gM l y_L_differing b_L_differing 5 (some .int) ({ frames := 1, cells := 0, slots := 0, locals := 20 } : Room) 0 0 [.ref (ad 50), .int (nI q)] D cs ad st mt ov (QMi D cs ad st ov (fun r u => r = dgL mt q 12 ∧ u = mt)) := by
  refine gM_of (own := "TwinRegisterLaw") (by decide +kernel) rfl (Nat.le_of_ble_eq_true rfl) ?_
  intro p e s m args below meth c C hr
  refine w_lv (lv2 := [(0, .ref (ad 50)), (1, .int (nI q))]) [0, 1] rfl ?_
  refine w_iconst (v := 0) C d_L_differing_0 rfl ?_
  refine w_istore_n (lv2 := [(2, .int 0), (0, .ref (ad 50)), (1, .int (nI q))]) C d_L_differing_1 rfl (by decide) rfl ?_
  refine w_iconst (v := 0) C d_L_differing_2 rfl ?_
  refine w_istore_n (lv2 := [(3, .int 0), (2, .int 0), (0, .ref (ad 50)), (1, .int (nI q))]) C d_L_differing_3 rfl (by decide) rfl ?_
  refine w_lv (lv2 := [(0, .ref (ad 50)), (1, .int (nI q)), (2, .int (dgL mt q 0)), (3, .int (nI 0))]) [2, 3, 1, 0] rfl ?_
  refine l_L_differing hq C ⟨Nat.le_of_ble_eq_true rfl, Nat.le_of_ble_eq_true rfl⟩ ?_ 12 0 rfl
  refine w_iload_n C 2 d_L_differing_61 rfl rfl ?_
  exact w_iretM C hr d_L_differing_62 (⟨rfl, rfl⟩)
set_option maxHeartbeats 4000000 in
set_option maxRecDepth 100000 in
theorem l_L_members {p : Program} {l : Launch} {e : Env} {s : State} {m : MethodId} {args : Array Value} {below : List Frame} {meth : Method} {c : Code} {Q : State → Prop} {D : va_G} {cs : Nat → ClassId} {ad : Nat → Nat} {A : Nat → Prop} {cells slots : Nat} {st mt : Nat → Nat → Int32} {ov : Nat → Int64} {g k : Nat} (hg : g < 4) (hk : k < 12) (hl : mt 5 g &&& 15 = nI k) (C : Cx p s m args meth c D cs ad A b_L_members 6 "TwinRegisterLaw") (hcs : cells ≤ 0 ∧ slots ≤ 0)
    (kx : Wg p l e ({ frames := 1, cells := 0, slots := 0, locals := 20 } : Room) s m args below meth c Q D cs ad A 6 cells slots 67 [(0, .ref (ad 50)), (1, .ref (ad 55)), (2, .int (nI g)), (3, .int (mlL mt g k 5)), (4, .int (nI 5))] [] st mt ov) : ∀ n i : Nat, i + n = 5 → Wg p l e ({ frames := 1, cells := 0, slots := 0, locals := 20 } : Room) s m args below meth c Q D cs ad A 6 cells slots 5 [(0, .ref (ad 50)), (1, .ref (ad 55)), (2, .int (nI g)), (3, .int (mlL mt g k i)), (4, .int (nI i))] [] st mt ov := by
  intro n
  induction n with
  | zero =>
    intro i hi
    have hi9 : 5 = i := by omega
    subst hi9
    refine w_iload C 4 d_L_members_5 rfl ?_
    refine w_iconst (v := 5) C d_L_members_7 rfl ?_
    refine w_icmp_ge_t C 67 d_L_members_8 (by decide) (nI_le (a := 5) (b := 5) (Nat.le_refl _) (by decide)) ?_
    exact w_lv [0, 1, 2, 3, 4] rfl kx
  | succ n ih =>
    intro i hi
    have hi2 : i < 5 := by omega
    refine w_iload C 4 d_L_members_5 rfl ?_
    refine w_iconst (v := 5) C d_L_members_7 rfl ?_
    refine w_icmp_ge_f C 67 d_L_members_8 (by decide) (nI_ge (b := 5) hi2 (by decide)) ?_
    refine w_aload_n C 0 d_L_members_11 rfl rfl ?_
    refine w_bipush (v := 12) C d_L_members_12 rfl ?_
    refine w_iload C 4 d_L_members_14 rfl ?_
    refine w_imul C d_L_members_16 ?_
    refine w_aload_n C 1 d_L_members_17 rfl rfl ?_
    refine w_iload_n C 2 d_L_members_18 rfl rfl ?_
    refine ia_MA C 5 (by omega) rfl rfl (show _ < 4 by omega) d_L_members_19 ?_
    refine w_bipush (v := 15) C d_L_members_20 rfl ?_
    refine w_iand C d_L_members_22 ?_
    refine w_topi (y := (nI k)) (hl) ?_
    refine w_iadd C d_L_members_23 ?_
    refine w_topi (y := (nI (12 * i + k))) (ix12 _ _) ?_
    refine ia_MA C 0 (by omega) rfl rfl (show _ < 60 by omega) d_L_members_24 ?_
    refine w_topi (y := (mt 0 (12 * i + k))) (rfl) ?_
    refine w_callMi C (w_runS C (c_L_reportedOf ) m_391 m_392 m_23 m_393 ⟨rfl, rfl⟩ hd_L_reportedOf rfl ⟨Nat.le_of_ble_eq_true rfl, Nat.le_of_ble_eq_true rfl⟩ rfl (Nat.le_of_ble_eq_true rfl) d_L_members_25 hcs) (fun r25 u25 h25 => ?_)
    obtain ⟨rfl, h25⟩ := h25; have h25 := h25.symm; subst h25
    refine w_istore (lv2 := [(5, .int (rO (mt 0 (12 * i + k)))), (0, .ref (ad 50)), (1, .ref (ad 55)), (2, .int (nI g)), (3, .int (mlL mt g k i)), (4, .int (nI i))]) C d_L_members_28 (by decide) rfl ?_
    refine w_iload C 0 d_L_members_30 rfl ?_
    refine w_aload_n C 2 d_L_members_32 rfl rfl ?_
    refine w_iload_n C 3 d_L_members_33 rfl rfl ?_
    refine ia_MA C 5 (by omega) rfl rfl (show _ < 4 by omega) d_L_members_34 ?_
    refine w_iconst (v := 4) C d_L_members_35 rfl ?_
    refine w_ishr C d_L_members_36 ?_
    refine w_bipush (v := 127) C d_L_members_37 rfl ?_
    refine w_iand C d_L_members_39 ?_
    refine w_icmp_lt C 61 d_L_members_40 (by decide) (fun h40 => ?_) (fun h40 => ?_)
    · skip
      refine w_iinc (lv2 := [(4, .int (nI (i + 1))), (5, .int (rO (mt 0 (12 * i + k)))), (0, .ref (ad 50)), (1, .ref (ad 55)), (2, .int (nI g)), (3, .int (mlL mt g k i))]) C 5 d_L_members_61 rfl (nI_1 _) (by decide) rfl ?_
      refine w_goto C 5 d_L_members_64 (by decide) ?_
      have ih9 := ih (i + 1) (by omega)
      rw [show mlL mt g k (i + 1) = _ from mlS_1 h40] at ih9
      exact w_lv [2, 3, 4, 5, 0] rfl ih9
    · skip
      refine w_iload C 0 d_L_members_43 rfl ?_
      refine w_aload_n C 2 d_L_members_45 rfl rfl ?_
      refine w_iload_n C 3 d_L_members_46 rfl rfl ?_
      refine ia_MA C 5 (by omega) rfl rfl (show _ < 4 by omega) d_L_members_47 ?_
      refine w_bipush (v := 11) C d_L_members_48 rfl ?_
      refine w_ishr C d_L_members_50 ?_
      refine w_icmp_gt C 61 d_L_members_51 (by decide) (fun h51 => ?_) (fun h51 => ?_)
      · skip
        refine w_iinc (lv2 := [(4, .int (nI (i + 1))), (5, .int (rO (mt 0 (12 * i + k)))), (0, .ref (ad 50)), (1, .ref (ad 55)), (2, .int (nI g)), (3, .int (mlL mt g k i))]) C 5 d_L_members_61 rfl (nI_1 _) (by decide) rfl ?_
        refine w_goto C 5 d_L_members_64 (by decide) ?_
        have ih9 := ih (i + 1) (by omega)
        rw [show mlL mt g k (i + 1) = _ from mlS_2 h51] at ih9
        exact w_lv [2, 3, 4, 5, 0] rfl ih9
      · skip
        refine w_iload_n C 4 d_L_members_54 rfl rfl ?_
        refine w_iconst (v := 1) C d_L_members_55 rfl ?_
        refine w_iload C 5 d_L_members_56 rfl ?_
        refine w_ishl C d_L_members_58 ?_
        refine w_ior C d_L_members_59 ?_
        refine w_istore_n (lv2 := [(3, .int _), (5, .int (rO (mt 0 (12 * i + k)))), (0, .ref (ad 50)), (1, .ref (ad 55)), (2, .int (nI g)), (4, .int (nI i))]) C d_L_members_60 rfl (by decide) rfl ?_
        refine w_iinc (lv2 := [(4, .int (nI (i + 1))), (3, .int _), (5, .int (rO (mt 0 (12 * i + k)))), (0, .ref (ad 50)), (1, .ref (ad 55)), (2, .int (nI g))]) C 5 d_L_members_61 rfl (nI_1 _) (by decide) rfl ?_
        refine w_goto C 5 d_L_members_64 (by decide) ?_
        have ih9 := ih (i + 1) (by omega)
        rw [show mlL mt g k (i + 1) = _ from mlS_3 h40 h51] at ih9
        exact w_lv [3, 4, 5, 1, 0] rfl ih9
set_option maxHeartbeats 4000000 in
set_option maxRecDepth 100000 in
theorem c_L_members {l : Launch} {D : va_G} {cs : Nat → ClassId} {ad : Nat → Nat} {st mt : Nat → Nat → Int32} {ov : Nat → Int64} {g k : Nat} (hg : g < 4) (hk : k < 12) (hl : mt 5 g &&& 15 = nI k)  : gM l y_L_members b_L_members 6 (some .int) ({ frames := 1, cells := 0, slots := 0, locals := 20 } : Room) 0 0 [.ref (ad 50), .ref (ad 55), .int (nI g)] D cs ad st mt ov (QMi D cs ad st ov (fun r u => r = mlL mt g k 5 ∧ u = mt)) := by
  refine gM_of (own := "TwinRegisterLaw") (by decide +kernel) rfl (Nat.le_of_ble_eq_true rfl) ?_
  intro p e s m args below meth c C hr
  refine w_lv (lv2 := [(0, .ref (ad 50)), (1, .ref (ad 55)), (2, .int (nI g))]) [0, 1, 2] rfl ?_
  refine w_iconst (v := 0) C d_L_members_0 rfl ?_
  refine w_istore_n (lv2 := [(3, .int 0), (0, .ref (ad 50)), (1, .ref (ad 55)), (2, .int (nI g))]) C d_L_members_1 rfl (by decide) rfl ?_
  refine w_iconst (v := 0) C d_L_members_2 rfl ?_
  refine w_istore (lv2 := [(4, .int 0), (3, .int 0), (0, .ref (ad 50)), (1, .ref (ad 55)), (2, .int (nI g))]) C d_L_members_3 (by decide) rfl ?_
  refine w_lv (lv2 := [(0, .ref (ad 50)), (1, .ref (ad 55)), (2, .int (nI g)), (3, .int (mlL mt g k 0)), (4, .int (nI 0))]) [2, 3, 4, 1, 0] rfl ?_
  refine l_L_members hg hk hl C ⟨Nat.le_of_ble_eq_true rfl, Nat.le_of_ble_eq_true rfl⟩ ?_ 5 0 rfl
  refine w_iload_n C 3 d_L_members_67 rfl rfl ?_
  exact w_iretM C hr d_L_members_68 (⟨rfl, rfl⟩)
set_option maxHeartbeats 4000000 in
set_option maxRecDepth 100000 in
theorem l_L_drafted {p : Program} {l : Launch} {e : Env} {s : State} {m : MethodId} {args : Array Value} {below : List Frame} {meth : Method} {c : Code} {Q : State → Prop} {D : va_G} {cs : Nat → ClassId} {ad : Nat → Nat} {A : Nat → Prop} {cells slots : Nat} {st mt : Nat → Nat → Int32} {ov : Nat → Int64} (C : Cx p s m args meth c D cs ad A b_L_drafted 3 "TwinRegisterLaw") (hcs : cells ≤ 0 ∧ slots ≤ 0)
    (kx : Wg p l e ({ frames := 0, cells := 0, slots := 0, locals := 0 } : Room) s m args below meth c Q D cs ad A 3 cells slots 32 [(0, .ref (ad 54)), (1, .int (drL mt 12)), (2, .int (nI 12))] [] st mt ov) : ∀ n i : Nat, i + n = 12 → Wg p l e ({ frames := 0, cells := 0, slots := 0, locals := 0 } : Room) s m args below meth c Q D cs ad A 3 cells slots 4 [(0, .ref (ad 54)), (1, .int (drL mt i)), (2, .int (nI i))] [] st mt ov := by
  intro n
  induction n with
  | zero =>
    intro i hi
    have hi9 : 12 = i := by omega
    subst hi9
    refine w_iload_n C 2 d_L_drafted_4 rfl rfl ?_
    refine w_bipush (v := 12) C d_L_drafted_5 rfl ?_
    refine w_icmp_ge_t C 32 d_L_drafted_7 (by decide) (nI_le (a := 12) (b := 12) (Nat.le_refl _) (by decide)) ?_
    exact w_lv [0, 1, 2] rfl kx
  | succ n ih =>
    intro i hi
    have hi2 : i < 12 := by omega
    refine w_iload_n C 2 d_L_drafted_4 rfl rfl ?_
    refine w_bipush (v := 12) C d_L_drafted_5 rfl ?_
    refine w_icmp_ge_f C 32 d_L_drafted_7 (by decide) (nI_ge (b := 12) hi2 (by decide)) ?_
    refine w_iload_n C 1 d_L_drafted_10 rfl rfl ?_
    refine w_aload_n C 0 d_L_drafted_11 rfl rfl ?_
    refine w_iload_n C 2 d_L_drafted_12 rfl rfl ?_
    refine ia_MA C 4 (by omega) rfl rfl (show _ < 12 by omega) d_L_drafted_13 ?_
    refine w_bipush (v := -2) C d_L_drafted_14 rfl ?_
    refine w_icmp_le C 23 d_L_drafted_16 (by decide) (fun h16 => ?_) (fun h16 => ?_)
    · skip
      refine w_iconst (v := 0) C d_L_drafted_23 rfl ?_
      refine w_iadd C d_L_drafted_24 ?_
      refine w_istore_n (lv2 := [(1, .int _), (0, .ref (ad 54)), (2, .int (nI i))]) C d_L_drafted_25 rfl (by decide) rfl ?_
      refine w_iinc (lv2 := [(2, .int (nI (i + 1))), (1, .int _), (0, .ref (ad 54))]) C 2 d_L_drafted_26 rfl (nI_1 _) (by decide) rfl ?_
      refine w_goto C 4 d_L_drafted_29 (by decide) ?_
      have ih9 := ih (i + 1) (by omega)
      rw [show drL mt (i + 1) = _ from drS_t h16] at ih9
      exact w_lv [2, 1, 0] rfl ih9
    · skip
      refine w_iconst (v := 1) C d_L_drafted_19 rfl ?_
      refine w_goto C 24 d_L_drafted_20 (by decide) ?_
      refine w_iadd C d_L_drafted_24 ?_
      refine w_istore_n (lv2 := [(1, .int _), (0, .ref (ad 54)), (2, .int (nI i))]) C d_L_drafted_25 rfl (by decide) rfl ?_
      refine w_iinc (lv2 := [(2, .int (nI (i + 1))), (1, .int _), (0, .ref (ad 54))]) C 2 d_L_drafted_26 rfl (nI_1 _) (by decide) rfl ?_
      refine w_goto C 4 d_L_drafted_29 (by decide) ?_
      have ih9 := ih (i + 1) (by omega)
      rw [show drL mt (i + 1) = _ from drS_f h16] at ih9
      exact w_lv [2, 1, 0] rfl ih9
set_option maxHeartbeats 4000000 in
set_option maxRecDepth 100000 in
theorem c_L_drafted {l : Launch} {D : va_G} {cs : Nat → ClassId} {ad : Nat → Nat} {st mt : Nat → Nat → Int32} {ov : Nat → Int64}  : gM l y_L_drafted b_L_drafted 3 (some .int) ({ frames := 0, cells := 0, slots := 0, locals := 0 } : Room) 0 0 [.ref (ad 54)] D cs ad st mt ov (QMi D cs ad st ov (fun r u => r = drL mt 12 ∧ u = mt)) := by
  refine gM_of (own := "TwinRegisterLaw") (by decide +kernel) rfl (Nat.le_of_ble_eq_true rfl) ?_
  intro p e s m args below meth c C hr
  refine w_lv (lv2 := [(0, .ref (ad 54))]) [0] rfl ?_
  refine w_iconst (v := 0) C d_L_drafted_0 rfl ?_
  refine w_istore_n (lv2 := [(1, .int 0), (0, .ref (ad 54))]) C d_L_drafted_1 rfl (by decide) rfl ?_
  refine w_iconst (v := 0) C d_L_drafted_2 rfl ?_
  refine w_istore_n (lv2 := [(2, .int 0), (1, .int 0), (0, .ref (ad 54))]) C d_L_drafted_3 rfl (by decide) rfl ?_
  refine w_lv (lv2 := [(0, .ref (ad 54)), (1, .int (drL mt 0)), (2, .int (nI 0))]) [2, 1, 0] rfl ?_
  refine l_L_drafted C ⟨Nat.le_of_ble_eq_true rfl, Nat.le_of_ble_eq_true rfl⟩ ?_ 12 0 rfl
  refine w_iload_n C 1 d_L_drafted_32 rfl rfl ?_
  exact w_iretM C hr d_L_drafted_33 (⟨rfl, rfl⟩)
set_option maxHeartbeats 4000000 in
set_option maxRecDepth 100000 in
theorem l_L_empty {p : Program} {l : Launch} {e : Env} {s : State} {m : MethodId} {args : Array Value} {below : List Frame} {meth : Method} {c : Code} {Q : State → Prop} {D : va_G} {cs : Nat → ClassId} {ad : Nat → Nat} {A : Nat → Prop} {cells slots : Nat} {st mt : Nat → Nat → Int32} {ov : Nat → Int64} (C : Cx p s m args meth c D cs ad A b_L_empty 2 "TwinRegisterLaw") (hcs : cells ≤ 0 ∧ slots ≤ 0)
    (kx : Wg p l e ({ frames := 0, cells := 0, slots := 0, locals := 0 } : Room) s m args below meth c Q D cs ad A 2 cells slots 19 [(0, .ref (ad 54)), (1, .int (nI 12))] [] st (emL mt 12) ov) : ∀ n i : Nat, i + n = 12 → Wg p l e ({ frames := 0, cells := 0, slots := 0, locals := 0 } : Room) s m args below meth c Q D cs ad A 2 cells slots 2 [(0, .ref (ad 54)), (1, .int (nI i))] [] st (emL mt i) ov := by
  intro n
  induction n with
  | zero =>
    intro i hi
    have hi9 : 12 = i := by omega
    subst hi9
    refine w_iload_n C 1 d_L_empty_2 rfl rfl ?_
    refine w_bipush (v := 12) C d_L_empty_3 rfl ?_
    refine w_icmp_ge_t C 19 d_L_empty_5 (by decide) (nI_le (a := 12) (b := 12) (Nat.le_refl _) (by decide)) ?_
    exact w_lv [0, 1] rfl kx
  | succ n ih =>
    intro i hi
    have hi2 : i < 12 := by omega
    refine w_iload_n C 1 d_L_empty_2 rfl rfl ?_
    refine w_bipush (v := 12) C d_L_empty_3 rfl ?_
    refine w_icmp_ge_f C 19 d_L_empty_5 (by decide) (nI_ge (b := 12) hi2 (by decide)) ?_
    refine w_aload_n C 0 d_L_empty_8 rfl rfl ?_
    refine w_iload_n C 1 d_L_empty_9 rfl rfl ?_
    refine w_bipush (v := -2) C d_L_empty_10 rfl ?_
    refine is_MA C 4 (by omega) rfl rfl (show _ < 12 by omega) d_L_empty_12 ?_
    refine w_iinc (lv2 := [(1, .int (nI (i + 1))), (0, .ref (ad 54))]) C 1 d_L_empty_13 rfl (nI_1 _) (by decide) rfl ?_
    refine w_goto C 2 d_L_empty_16 (by decide) ?_
    refine w_mt (mt2 := emL mt (i + 1)) (rfl) ?_
    exact w_lv [1, 0] rfl (ih (i + 1) (by omega))
set_option maxHeartbeats 4000000 in
set_option maxRecDepth 100000 in
theorem c_L_empty {l : Launch} {D : va_G} {cs : Nat → ClassId} {ad : Nat → Nat} {st mt : Nat → Nat → Int32} {ov : Nat → Int64}  : gM l y_L_empty b_L_empty 2 none ({ frames := 0, cells := 0, slots := 0, locals := 0 } : Room) 0 0 [.ref (ad 54)] D cs ad st mt ov (QMv D cs ad st ov (fun u => u = emL mt 12)) := by
  refine gM_of (own := "TwinRegisterLaw") (by decide +kernel) rfl (Nat.le_of_ble_eq_true rfl) ?_
  intro p e s m args below meth c C hr
  refine w_lv (lv2 := [(0, .ref (ad 54))]) [0] rfl ?_
  refine w_iconst (v := 0) C d_L_empty_0 rfl ?_
  refine w_istore_n (lv2 := [(1, .int 0), (0, .ref (ad 54))]) C d_L_empty_1 rfl (by decide) rfl ?_
  refine w_lv (lv2 := [(0, .ref (ad 54)), (1, .int (nI 0))]) [1, 0] rfl ?_
  refine l_L_empty C ⟨Nat.le_of_ble_eq_true rfl, Nat.le_of_ble_eq_true rfl⟩ ?_ 12 0 rfl
  exact w_vretM C hr d_L_empty_19 (rfl)
set_option maxHeartbeats 4000000 in
set_option maxRecDepth 100000 in
theorem l_L_many {p : Program} {l : Launch} {e : Env} {R : Room} {s : State} {m : MethodId} {args : Array Value} {below : List Frame} {meth : Method} {c : Code} {Q : State → Prop} {D : va_G} {cs : Nat → ClassId} {ad : Nat → Nat} {A : Nat → Prop} {cells slots : Nat} {st mt : Nat → Nat → Int32} {ov : Nat → Int64} (C : Cx p s m args meth c D cs ad A b_L_many 3 "TwinRegisterLaw") {x tot : Int32} (kx : ∀ left : Int32, Wg p l e R s m args below meth c Q D cs ad A 3 cells slots 20 [(0, .int x), (1, .int tot), (2, .int left)] [] st mt ov) : ∀ (f : Nat) (acc left : Int32), kz f left = 0 → acc + kc f left = tot → Wg p l e R s m args below meth c Q D cs ad A 3 cells slots 4 [(0, .int x), (1, .int acc), (2, .int left)] [] st mt ov := by
  intro f
  induction f with
  | zero =>
    intro acc left h e9
    refine w_iload_n C 2 d_L_many_4 rfl rfl ?_
    refine w_if_eq_t C 20 d_L_many_5 (by decide) h ?_
    rw [show acc = tot from (Int32.add_zero acc).symm.trans e9]
    exact kx left
  | succ f ih =>
    intro acc left h e9
    refine w_iload_n C 2 d_L_many_4 rfl rfl ?_
    refine w_if_eq C 20 d_L_many_5 (by decide) (fun h0 => ?_) (fun h0 => ?_)
    · have e8 : kc (f + 1) left = 0 := by rw [kc, decide_eq_true h0]; rfl
      rw [e8] at e9
      rw [show acc = tot from (Int32.add_zero acc).symm.trans e9]
      exact kx left
    · have e8 : kc (f + 1) left = kc f (left &&& (left - 1)) + 1 := by rw [kc, decide_eq_false h0]; rfl
      have e7 : kz (f + 1) left = kz f (left &&& (left - 1)) := by rw [kz, decide_eq_false h0]; rfl
      refine w_iinc (lv2 := [(1, .int (acc + 1)), (0, .int x), (2, .int left)]) C 1 d_L_many_8 rfl rfl (by decide) rfl ?_
      refine w_iload_n C 2 d_L_many_11 rfl rfl ?_
      refine w_iload_n C 2 d_L_many_12 rfl rfl ?_
      refine w_iconst (v := 1) C d_L_many_13 rfl ?_
      refine w_isub C d_L_many_14 ?_
      refine w_iand C d_L_many_15 ?_
      refine w_istore_n (lv2 := [(2, .int (left &&& (left - 1))), (1, .int (acc + 1)), (0, .int x)]) C d_L_many_16 rfl (by decide) rfl ?_
      refine w_goto C 4 d_L_many_17 (by decide) ?_
      refine w_lv [2, 1, 0] rfl (ih (acc + 1) (left &&& (left - 1)) (e7.symm.trans h) ?_)
      rw [← e9, e8, Int32.add_assoc, Int32.add_comm 1]

set_option maxHeartbeats 4000000 in
set_option maxRecDepth 100000 in
theorem c_L_many {l : Launch} {D : va_G} {cs : Nat → ClassId} {ad : Nat → Nat} {st mt : Nat → Nat → Int32} {ov : Nat → Int64} {n : Nat} (hn : n < 4096) : gM l y_L_many b_L_many 3 (some .int) ({ frames := 0, cells := 0, slots := 0, locals := 0 } : Room) 0 0 [.int (nI n)] D cs ad st mt ov (QMi D cs ad st ov (fun r u => r = bcI (nI n) ∧ u = mt)) := by
  refine gM_of (own := "TwinRegisterLaw") (by decide +kernel) rfl (Nat.le_of_ble_eq_true rfl) ?_
  intro p e s m args below meth c C hr
  refine w_lv (lv2 := [(0, .int (nI n))]) [0] rfl ?_
  refine w_iconst (v := 0) C d_L_many_0 rfl ?_
  refine w_istore_n (lv2 := [(1, .int 0), (0, .int (nI n))]) C d_L_many_1 rfl (by decide) rfl ?_
  refine w_iload_n C 1 d_L_many_2 rfl rfl ?_
  refine w_istore_n (lv2 := [(2, .int (nI n)), (1, .int 0), (0, .int (nI n))]) C d_L_many_3 rfl (by decide) rfl ?_
  refine w_lv (lv2 := [(0, .int (nI n)), (1, .int 0), (2, .int (nI n))]) [2, 1, 0] rfl ?_
  refine l_L_many (tot := bcI (nI n)) C (fun left => ?_) 12 0 (nI n) (kz_n hn).1 (by rw [(kz_n hn).2]; exact Int32.zero_add _)
  refine w_iload_n C 1 d_L_many_20 rfl rfl ?_
  exact w_iretM C hr d_L_many_21 (⟨rfl, rfl⟩)
set_option maxHeartbeats 4000000 in
set_option maxRecDepth 100000 in
theorem l_waves1 {p : Program} {l : Launch} {e : Env} {s : State} {m : MethodId} {args : Array Value} {below : List Frame} {meth : Method} {c : Code} {Q : State → Prop} {D : va_G} {cs : Nat → ClassId} {ad : Nat → Nat} {A : Nat → Prop} {cells slots : Nat} {st mt : Nat → Nat → Int32} {ov : Nat → Int64} {k lf : Nat} (hk : k < 8) (hlf : lf < 12) {v al : Int32} (C : Cx p s m args meth c D cs ad A b_L_waves 15 "TwinRegisterLaw") (hcs : cells ≤ 0 ∧ slots ≤ 0)
    (kx : Wg p l e ({ frames := 2, cells := 0, slots := 0, locals := 45 } : Room) s m args below meth c Q D cs ad A 15 cells slots 185 [(0, .ref (ad 50)), (1, .ref (ad 51)), (2, .ref (ad 55)), (3, .ref (ad 56)), (4, .ref (ad 57)), (5, .ref (ad 58)), (6, .ref (ad 59)), (7, .int al), (8, .int (nI k)), (9, .int (nI lf)), (10, .int v), (11, .int (jdL mt k lf v 5).2)] [] st ((jdL mt k lf v 5).1) ov) : ∀ n i : Nat, i + n = 5 → Wg p l e ({ frames := 2, cells := 0, slots := 0, locals := 45 } : Room) s m args below meth c Q D cs ad A 15 cells slots 55 [(0, .ref (ad 50)), (1, .ref (ad 51)), (2, .ref (ad 55)), (3, .ref (ad 56)), (4, .ref (ad 57)), (5, .ref (ad 58)), (6, .ref (ad 59)), (7, .int al), (8, .int (nI k)), (9, .int (nI lf)), (10, .int v), (11, .int (jdL mt k lf v i).2), (12, .int (nI i))] [] st ((jdL mt k lf v i).1) ov := by
  intro n
  induction n with
  | zero =>
    intro i hi
    have hi9 : 5 = i := by omega
    subst hi9
    refine w_iload C 12 d_L_waves_55 rfl ?_
    refine w_iconst (v := 5) C d_L_waves_57 rfl ?_
    refine w_icmp_ge_t C 185 d_L_waves_58 (by decide) (nI_le (a := 5) (b := 5) (Nat.le_refl _) (by decide)) ?_
    exact w_lv [0, 1, 2, 3, 4, 5, 6, 7, 8, 9, 10, 11] rfl kx
  | succ n ih =>
    intro i hi
    have hi2 : i < 5 := by omega
    refine w_iload C 12 d_L_waves_55 rfl ?_
    refine w_iconst (v := 5) C d_L_waves_57 rfl ?_
    refine w_icmp_ge_f C 185 d_L_waves_58 (by decide) (nI_ge (b := 5) hi2 (by decide)) ?_
    refine w_aload_n C 0 d_L_waves_61 rfl rfl ?_
    refine w_bipush (v := 12) C d_L_waves_62 rfl ?_
    refine w_iload C 12 d_L_waves_64 rfl ?_
    refine w_imul C d_L_waves_66 ?_
    refine w_iload C 9 d_L_waves_67 rfl ?_
    refine w_iadd C d_L_waves_69 ?_
    refine w_topi (y := (nI (12 * i + lf))) (ix12 _ _) ?_
    refine ia_MA C 0 (by omega) rfl rfl (show _ < 60 by omega) d_L_waves_70 ?_
    refine w_topi (y := ((jdL mt k lf v i).1 0 (12 * i + lf))) (rfl) ?_
    refine w_istore (lv2 := [(13, .int ((jdL mt k lf v i).1 0 (12 * i + lf))), (0, .ref (ad 50)), (1, .ref (ad 51)), (2, .ref (ad 55)), (3, .ref (ad 56)), (4, .ref (ad 57)), (5, .ref (ad 58)), (6, .ref (ad 59)), (7, .int al), (8, .int (nI k)), (9, .int (nI lf)), (10, .int v), (11, .int (jdL mt k lf v i).2), (12, .int (nI i))]) C d_L_waves_71 (by decide) rfl ?_
    refine w_aload C 5 d_L_waves_73 rfl ?_
    refine w_iload C 9 d_L_waves_75 rfl ?_
    refine ia_MA C 7 (by omega) rfl rfl (show _ < 8 by omega) d_L_waves_77 ?_
    refine w_iconst (v := 2) C d_L_waves_78 rfl ?_
    refine w_iload C 13 d_L_waves_79 rfl ?_
    refine w_imul C d_L_waves_81 ?_
    refine w_topi (y := (nI (2 * i))) (pk_mul 2 i) ?_
    refine w_ishr C d_L_waves_82 ?_
    refine w_iconst (v := 3) C d_L_waves_83 rfl ?_
    refine w_iand C d_L_waves_84 ?_
    refine w_topi (y := (atL ((jdL mt k lf v i).1 7 k) i)) (rfl) ?_
    refine w_istore (lv2 := [(14, .int (atL ((jdL mt k lf v i).1 7 k) i)), (13, .int ((jdL mt k lf v i).1 0 (12 * i + lf))), (0, .ref (ad 50)), (1, .ref (ad 51)), (2, .ref (ad 55)), (3, .ref (ad 56)), (4, .ref (ad 57)), (5, .ref (ad 58)), (6, .ref (ad 59)), (7, .int al), (8, .int (nI k)), (9, .int (nI lf)), (10, .int v), (11, .int (jdL mt k lf v i).2), (12, .int (nI i))]) C d_L_waves_85 (by decide) rfl ?_
    refine w_iload C 0 d_L_waves_87 rfl ?_
    refine w_iconst (v := 1) C d_L_waves_89 rfl ?_
    refine w_icmp_ne C 109 d_L_waves_90 (by decide) (fun h90 => ?_) (fun h90 => ?_)
    · skip
      refine w_iload C 0 d_L_waves_109 rfl ?_
      refine w_iconst (v := 1) C d_L_waves_111 rfl ?_
      refine w_icmp_ne_t C 136 d_L_waves_112 (by decide) h90 ?_
      refine w_aload C 6 d_L_waves_136 rfl ?_
      refine w_iload C 10 d_L_waves_138 rfl ?_
      refine w_aload C 6 d_L_waves_140 rfl ?_
      refine w_iload C 10 d_L_waves_142 rfl ?_
      refine ia_MA C 7 (by omega) rfl rfl (show _ < 8 by omega) d_L_waves_144 ?_
      refine w_iconst (v := 3) C d_L_waves_145 rfl ?_
      refine w_iconst (v := 2) C d_L_waves_146 rfl ?_
      refine w_iload C 14 d_L_waves_147 rfl ?_
      refine w_imul C d_L_waves_149 ?_
      refine w_topi (y := (nI (2 * i))) (pk_mul 2 i) ?_
      refine w_ishl C d_L_waves_150 ?_
      refine w_iconst (v := (-1)) C d_L_waves_151 rfl ?_
      refine w_ixor C d_L_waves_152 ?_
      refine w_iand C d_L_waves_153 ?_
      refine w_iload C 0 d_L_waves_154 rfl ?_
      refine w_iconst (v := 2) C d_L_waves_156 rfl ?_
      refine w_iload C 14 d_L_waves_157 rfl ?_
      refine w_imul C d_L_waves_159 ?_
      refine w_topi (y := (nI (2 * i))) (pk_mul 2 i) ?_
      refine w_ishl C d_L_waves_160 ?_
      refine w_ior C d_L_waves_161 ?_
      refine is_MA C 7 (by omega) rfl rfl (show _ < 8 by omega) d_L_waves_162 ?_
      refine w_iload C 13 d_L_waves_163 rfl ?_
      refine w_iload C 0 d_L_waves_165 rfl ?_
      refine w_iconst (v := 3) C d_L_waves_167 rfl ?_
      refine w_icmp_ne C 175 d_L_waves_168 (by decide) (fun h168 => ?_) (fun h168 => ?_)
      · skip
        refine w_iconst (v := 0) C d_L_waves_175 rfl ?_
        refine w_iadd C d_L_waves_176 ?_
        refine w_istore (lv2 := [(11, .int _), (14, .int (atL ((jdL mt k lf v i).1 7 k) i)), (13, .int ((jdL mt k lf v i).1 0 (12 * i + lf))), (0, .ref (ad 50)), (1, .ref (ad 51)), (2, .ref (ad 55)), (3, .ref (ad 56)), (4, .ref (ad 57)), (5, .ref (ad 58)), (6, .ref (ad 59)), (7, .int al), (8, .int (nI k)), (9, .int (nI lf)), (10, .int v), (12, .int (nI i))]) C d_L_waves_177 (by decide) rfl ?_
        refine w_iinc (lv2 := [(12, .int (nI (i + 1))), (11, .int _), (14, .int (atL ((jdL mt k lf v i).1 7 k) i)), (13, .int ((jdL mt k lf v i).1 0 (12 * i + lf))), (0, .ref (ad 50)), (1, .ref (ad 51)), (2, .ref (ad 55)), (3, .ref (ad 56)), (4, .ref (ad 57)), (5, .ref (ad 58)), (6, .ref (ad 59)), (7, .int al), (8, .int (nI k)), (9, .int (nI lf)), (10, .int v)]) C 14 d_L_waves_179 rfl (nI_1 _) (by decide) rfl ?_
        refine w_goto C 55 d_L_waves_182 (by decide) ?_
        have ih9 := ih (i + 1) (by omega)
        rw [show jdL mt k lf v (i + 1) = jdS k lf i v (jdL mt k lf v i) from rfl, jdS_m (jdN_a h90) h168] at ih9
        try dsimp only at ih9
        exact w_lv [4, 5, 6, 7, 8, 9, 10, 11, 12, 13, 14, 1, 0] rfl ih9
      · skip
        refine w_iconst (v := 1) C d_L_waves_171 rfl ?_
        refine w_goto C 176 d_L_waves_172 (by decide) ?_
        refine w_iadd C d_L_waves_176 ?_
        refine w_istore (lv2 := [(11, .int _), (14, .int (atL ((jdL mt k lf v i).1 7 k) i)), (13, .int ((jdL mt k lf v i).1 0 (12 * i + lf))), (0, .ref (ad 50)), (1, .ref (ad 51)), (2, .ref (ad 55)), (3, .ref (ad 56)), (4, .ref (ad 57)), (5, .ref (ad 58)), (6, .ref (ad 59)), (7, .int al), (8, .int (nI k)), (9, .int (nI lf)), (10, .int v), (12, .int (nI i))]) C d_L_waves_177 (by decide) rfl ?_
        refine w_iinc (lv2 := [(12, .int (nI (i + 1))), (11, .int _), (14, .int (atL ((jdL mt k lf v i).1 7 k) i)), (13, .int ((jdL mt k lf v i).1 0 (12 * i + lf))), (0, .ref (ad 50)), (1, .ref (ad 51)), (2, .ref (ad 55)), (3, .ref (ad 56)), (4, .ref (ad 57)), (5, .ref (ad 58)), (6, .ref (ad 59)), (7, .int al), (8, .int (nI k)), (9, .int (nI lf)), (10, .int v)]) C 14 d_L_waves_179 rfl (nI_1 _) (by decide) rfl ?_
        refine w_goto C 55 d_L_waves_182 (by decide) ?_
        have ih9 := ih (i + 1) (by omega)
        rw [show jdL mt k lf v (i + 1) = jdS k lf i v (jdL mt k lf v i) from rfl, jdS_n (jdN_a h90) h168] at ih9
        try dsimp only at ih9
        exact w_lv [4, 5, 6, 7, 8, 9, 10, 11, 12, 13, 14, 1, 0] rfl ih9
    · skip
      refine w_iload C 1 d_L_waves_93 rfl ?_
      refine w_callMi C (w_runS C (c_L_reportedOf ) m_391 m_392 m_23 m_393 ⟨rfl, rfl⟩ hd_L_reportedOf rfl ⟨Nat.le_of_ble_eq_true rfl, Nat.le_of_ble_eq_true rfl⟩ rfl (Nat.le_of_ble_eq_true rfl) d_L_waves_95 hcs) (fun r95 u95 h95 => ?_)
      obtain ⟨rfl, h95⟩ := h95; have h95 := h95.symm; subst h95
      refine w_iload C 12 d_L_waves_98 rfl ?_
      refine w_icmp_ne C 109 d_L_waves_100 (by decide) (fun h100 => ?_) (fun h100 => ?_)
      · skip
        refine w_iload C 0 d_L_waves_109 rfl ?_
        refine w_iconst (v := 1) C d_L_waves_111 rfl ?_
        refine w_icmp_ne_f C 136 d_L_waves_112 (by decide) h90 ?_
        refine w_iload C 1 d_L_waves_115 rfl ?_
        refine w_callMi C (w_runS C (c_L_wishedOf ) m_388 m_389 m_23 m_390 ⟨rfl, rfl⟩ hd_L_wishedOf rfl ⟨Nat.le_of_ble_eq_true rfl, Nat.le_of_ble_eq_true rfl⟩ rfl (Nat.le_of_ble_eq_true rfl) d_L_waves_117 hcs) (fun r117 u117 h117 => ?_)
        obtain ⟨rfl, h117⟩ := h117; have h117 := h117.symm; subst h117
        refine w_iload C 12 d_L_waves_120 rfl ?_
        refine w_icmp_ne C 136 d_L_waves_122 (by decide) (fun h122 => ?_) (fun h122 => ?_)
        · skip
          refine w_aload C 6 d_L_waves_136 rfl ?_
          refine w_iload C 10 d_L_waves_138 rfl ?_
          refine w_aload C 6 d_L_waves_140 rfl ?_
          refine w_iload C 10 d_L_waves_142 rfl ?_
          refine ia_MA C 7 (by omega) rfl rfl (show _ < 8 by omega) d_L_waves_144 ?_
          refine w_iconst (v := 3) C d_L_waves_145 rfl ?_
          refine w_iconst (v := 2) C d_L_waves_146 rfl ?_
          refine w_iload C 14 d_L_waves_147 rfl ?_
          refine w_imul C d_L_waves_149 ?_
          refine w_topi (y := (nI (2 * i))) (pk_mul 2 i) ?_
          refine w_ishl C d_L_waves_150 ?_
          refine w_iconst (v := (-1)) C d_L_waves_151 rfl ?_
          refine w_ixor C d_L_waves_152 ?_
          refine w_iand C d_L_waves_153 ?_
          refine w_iload C 0 d_L_waves_154 rfl ?_
          refine w_iconst (v := 2) C d_L_waves_156 rfl ?_
          refine w_iload C 14 d_L_waves_157 rfl ?_
          refine w_imul C d_L_waves_159 ?_
          refine w_topi (y := (nI (2 * i))) (pk_mul 2 i) ?_
          refine w_ishl C d_L_waves_160 ?_
          refine w_ior C d_L_waves_161 ?_
          refine is_MA C 7 (by omega) rfl rfl (show _ < 8 by omega) d_L_waves_162 ?_
          refine w_iload C 13 d_L_waves_163 rfl ?_
          refine w_iload C 0 d_L_waves_165 rfl ?_
          refine w_iconst (v := 3) C d_L_waves_167 rfl ?_
          refine w_icmp_ne C 175 d_L_waves_168 (by decide) (fun h168 => ?_) (fun h168 => ?_)
          · skip
            refine w_iconst (v := 0) C d_L_waves_175 rfl ?_
            refine w_iadd C d_L_waves_176 ?_
            refine w_istore (lv2 := [(11, .int _), (14, .int (atL ((jdL mt k lf v i).1 7 k) i)), (13, .int ((jdL mt k lf v i).1 0 (12 * i + lf))), (0, .ref (ad 50)), (1, .ref (ad 51)), (2, .ref (ad 55)), (3, .ref (ad 56)), (4, .ref (ad 57)), (5, .ref (ad 58)), (6, .ref (ad 59)), (7, .int al), (8, .int (nI k)), (9, .int (nI lf)), (10, .int v), (12, .int (nI i))]) C d_L_waves_177 (by decide) rfl ?_
            refine w_iinc (lv2 := [(12, .int (nI (i + 1))), (11, .int _), (14, .int (atL ((jdL mt k lf v i).1 7 k) i)), (13, .int ((jdL mt k lf v i).1 0 (12 * i + lf))), (0, .ref (ad 50)), (1, .ref (ad 51)), (2, .ref (ad 55)), (3, .ref (ad 56)), (4, .ref (ad 57)), (5, .ref (ad 58)), (6, .ref (ad 59)), (7, .int al), (8, .int (nI k)), (9, .int (nI lf)), (10, .int v)]) C 14 d_L_waves_179 rfl (nI_1 _) (by decide) rfl ?_
            refine w_goto C 55 d_L_waves_182 (by decide) ?_
            have ih9 := ih (i + 1) (by omega)
            rw [show jdL mt k lf v (i + 1) = jdS k lf i v (jdL mt k lf v i) from rfl, jdS_m (jdN_b h100 h122) h168] at ih9
            try dsimp only at ih9
            exact w_lv [4, 5, 6, 7, 8, 9, 10, 11, 12, 13, 14, 1, 0] rfl ih9
          · skip
            refine w_iconst (v := 1) C d_L_waves_171 rfl ?_
            refine w_goto C 176 d_L_waves_172 (by decide) ?_
            refine w_iadd C d_L_waves_176 ?_
            refine w_istore (lv2 := [(11, .int _), (14, .int (atL ((jdL mt k lf v i).1 7 k) i)), (13, .int ((jdL mt k lf v i).1 0 (12 * i + lf))), (0, .ref (ad 50)), (1, .ref (ad 51)), (2, .ref (ad 55)), (3, .ref (ad 56)), (4, .ref (ad 57)), (5, .ref (ad 58)), (6, .ref (ad 59)), (7, .int al), (8, .int (nI k)), (9, .int (nI lf)), (10, .int v), (12, .int (nI i))]) C d_L_waves_177 (by decide) rfl ?_
            refine w_iinc (lv2 := [(12, .int (nI (i + 1))), (11, .int _), (14, .int (atL ((jdL mt k lf v i).1 7 k) i)), (13, .int ((jdL mt k lf v i).1 0 (12 * i + lf))), (0, .ref (ad 50)), (1, .ref (ad 51)), (2, .ref (ad 55)), (3, .ref (ad 56)), (4, .ref (ad 57)), (5, .ref (ad 58)), (6, .ref (ad 59)), (7, .int al), (8, .int (nI k)), (9, .int (nI lf)), (10, .int v)]) C 14 d_L_waves_179 rfl (nI_1 _) (by decide) rfl ?_
            refine w_goto C 55 d_L_waves_182 (by decide) ?_
            have ih9 := ih (i + 1) (by omega)
            rw [show jdL mt k lf v (i + 1) = jdS k lf i v (jdL mt k lf v i) from rfl, jdS_n (jdN_b h100 h122) h168] at ih9
            try dsimp only at ih9
            exact w_lv [4, 5, 6, 7, 8, 9, 10, 11, 12, 13, 14, 1, 0] rfl ih9
        · skip
          refine w_iload C 1 d_L_waves_125 rfl ?_
          refine w_sipush (v := 16384) C d_L_waves_127 rfl ?_
          refine w_icmp_lt C 136 d_L_waves_130 (by decide) (fun h130 => ?_) (fun h130 => ?_)
          · skip
            refine w_aload C 6 d_L_waves_136 rfl ?_
            refine w_iload C 10 d_L_waves_138 rfl ?_
            refine w_aload C 6 d_L_waves_140 rfl ?_
            refine w_iload C 10 d_L_waves_142 rfl ?_
            refine ia_MA C 7 (by omega) rfl rfl (show _ < 8 by omega) d_L_waves_144 ?_
            refine w_iconst (v := 3) C d_L_waves_145 rfl ?_
            refine w_iconst (v := 2) C d_L_waves_146 rfl ?_
            refine w_iload C 14 d_L_waves_147 rfl ?_
            refine w_imul C d_L_waves_149 ?_
            refine w_topi (y := (nI (2 * i))) (pk_mul 2 i) ?_
            refine w_ishl C d_L_waves_150 ?_
            refine w_iconst (v := (-1)) C d_L_waves_151 rfl ?_
            refine w_ixor C d_L_waves_152 ?_
            refine w_iand C d_L_waves_153 ?_
            refine w_iload C 0 d_L_waves_154 rfl ?_
            refine w_iconst (v := 2) C d_L_waves_156 rfl ?_
            refine w_iload C 14 d_L_waves_157 rfl ?_
            refine w_imul C d_L_waves_159 ?_
            refine w_topi (y := (nI (2 * i))) (pk_mul 2 i) ?_
            refine w_ishl C d_L_waves_160 ?_
            refine w_ior C d_L_waves_161 ?_
            refine is_MA C 7 (by omega) rfl rfl (show _ < 8 by omega) d_L_waves_162 ?_
            refine w_iload C 13 d_L_waves_163 rfl ?_
            refine w_iload C 0 d_L_waves_165 rfl ?_
            refine w_iconst (v := 3) C d_L_waves_167 rfl ?_
            refine w_icmp_ne C 175 d_L_waves_168 (by decide) (fun h168 => ?_) (fun h168 => ?_)
            · skip
              refine w_iconst (v := 0) C d_L_waves_175 rfl ?_
              refine w_iadd C d_L_waves_176 ?_
              refine w_istore (lv2 := [(11, .int _), (14, .int (atL ((jdL mt k lf v i).1 7 k) i)), (13, .int ((jdL mt k lf v i).1 0 (12 * i + lf))), (0, .ref (ad 50)), (1, .ref (ad 51)), (2, .ref (ad 55)), (3, .ref (ad 56)), (4, .ref (ad 57)), (5, .ref (ad 58)), (6, .ref (ad 59)), (7, .int al), (8, .int (nI k)), (9, .int (nI lf)), (10, .int v), (12, .int (nI i))]) C d_L_waves_177 (by decide) rfl ?_
              refine w_iinc (lv2 := [(12, .int (nI (i + 1))), (11, .int _), (14, .int (atL ((jdL mt k lf v i).1 7 k) i)), (13, .int ((jdL mt k lf v i).1 0 (12 * i + lf))), (0, .ref (ad 50)), (1, .ref (ad 51)), (2, .ref (ad 55)), (3, .ref (ad 56)), (4, .ref (ad 57)), (5, .ref (ad 58)), (6, .ref (ad 59)), (7, .int al), (8, .int (nI k)), (9, .int (nI lf)), (10, .int v)]) C 14 d_L_waves_179 rfl (nI_1 _) (by decide) rfl ?_
              refine w_goto C 55 d_L_waves_182 (by decide) ?_
              have ih9 := ih (i + 1) (by omega)
              rw [show jdL mt k lf v (i + 1) = jdS k lf i v (jdL mt k lf v i) from rfl, jdS_m (jdN_c h100 h130) h168] at ih9
              try dsimp only at ih9
              exact w_lv [4, 5, 6, 7, 8, 9, 10, 11, 12, 13, 14, 1, 0] rfl ih9
            · skip
              refine w_iconst (v := 1) C d_L_waves_171 rfl ?_
              refine w_goto C 176 d_L_waves_172 (by decide) ?_
              refine w_iadd C d_L_waves_176 ?_
              refine w_istore (lv2 := [(11, .int _), (14, .int (atL ((jdL mt k lf v i).1 7 k) i)), (13, .int ((jdL mt k lf v i).1 0 (12 * i + lf))), (0, .ref (ad 50)), (1, .ref (ad 51)), (2, .ref (ad 55)), (3, .ref (ad 56)), (4, .ref (ad 57)), (5, .ref (ad 58)), (6, .ref (ad 59)), (7, .int al), (8, .int (nI k)), (9, .int (nI lf)), (10, .int v), (12, .int (nI i))]) C d_L_waves_177 (by decide) rfl ?_
              refine w_iinc (lv2 := [(12, .int (nI (i + 1))), (11, .int _), (14, .int (atL ((jdL mt k lf v i).1 7 k) i)), (13, .int ((jdL mt k lf v i).1 0 (12 * i + lf))), (0, .ref (ad 50)), (1, .ref (ad 51)), (2, .ref (ad 55)), (3, .ref (ad 56)), (4, .ref (ad 57)), (5, .ref (ad 58)), (6, .ref (ad 59)), (7, .int al), (8, .int (nI k)), (9, .int (nI lf)), (10, .int v)]) C 14 d_L_waves_179 rfl (nI_1 _) (by decide) rfl ?_
              refine w_goto C 55 d_L_waves_182 (by decide) ?_
              have ih9 := ih (i + 1) (by omega)
              rw [show jdL mt k lf v (i + 1) = jdS k lf i v (jdL mt k lf v i) from rfl, jdS_n (jdN_c h100 h130) h168] at ih9
              try dsimp only at ih9
              exact w_lv [4, 5, 6, 7, 8, 9, 10, 11, 12, 13, 14, 1, 0] rfl ih9
          · skip
            refine w_iconst (v := 3) C d_L_waves_133 rfl ?_
            refine w_istore (lv2 := [(14, .int 3), (13, .int ((jdL mt k lf v i).1 0 (12 * i + lf))), (0, .ref (ad 50)), (1, .ref (ad 51)), (2, .ref (ad 55)), (3, .ref (ad 56)), (4, .ref (ad 57)), (5, .ref (ad 58)), (6, .ref (ad 59)), (7, .int al), (8, .int (nI k)), (9, .int (nI lf)), (10, .int v), (11, .int (jdL mt k lf v i).2), (12, .int (nI i))]) C d_L_waves_134 (by decide) rfl ?_
            refine w_aload C 6 d_L_waves_136 rfl ?_
            refine w_iload C 10 d_L_waves_138 rfl ?_
            refine w_aload C 6 d_L_waves_140 rfl ?_
            refine w_iload C 10 d_L_waves_142 rfl ?_
            refine ia_MA C 7 (by omega) rfl rfl (show _ < 8 by omega) d_L_waves_144 ?_
            refine w_iconst (v := 3) C d_L_waves_145 rfl ?_
            refine w_iconst (v := 2) C d_L_waves_146 rfl ?_
            refine w_iload C 14 d_L_waves_147 rfl ?_
            refine w_imul C d_L_waves_149 ?_
            refine w_topi (y := (nI (2 * i))) (pk_mul 2 i) ?_
            refine w_ishl C d_L_waves_150 ?_
            refine w_iconst (v := (-1)) C d_L_waves_151 rfl ?_
            refine w_ixor C d_L_waves_152 ?_
            refine w_iand C d_L_waves_153 ?_
            refine w_iload C 0 d_L_waves_154 rfl ?_
            refine w_iconst (v := 2) C d_L_waves_156 rfl ?_
            refine w_iload C 14 d_L_waves_157 rfl ?_
            refine w_imul C d_L_waves_159 ?_
            refine w_topi (y := (nI (2 * i))) (pk_mul 2 i) ?_
            refine w_ishl C d_L_waves_160 ?_
            refine w_ior C d_L_waves_161 ?_
            refine is_MA C 7 (by omega) rfl rfl (show _ < 8 by omega) d_L_waves_162 ?_
            refine w_iload C 13 d_L_waves_163 rfl ?_
            refine w_iload C 0 d_L_waves_165 rfl ?_
            refine w_iconst (v := 3) C d_L_waves_167 rfl ?_
            refine w_icmp_ne_f C 175 d_L_waves_168 (by decide) (by decide) ?_
            refine w_iconst (v := 1) C d_L_waves_171 rfl ?_
            refine w_goto C 176 d_L_waves_172 (by decide) ?_
            refine w_iadd C d_L_waves_176 ?_
            refine w_istore (lv2 := [(11, .int _), (14, .int 3), (13, .int ((jdL mt k lf v i).1 0 (12 * i + lf))), (0, .ref (ad 50)), (1, .ref (ad 51)), (2, .ref (ad 55)), (3, .ref (ad 56)), (4, .ref (ad 57)), (5, .ref (ad 58)), (6, .ref (ad 59)), (7, .int al), (8, .int (nI k)), (9, .int (nI lf)), (10, .int v), (12, .int (nI i))]) C d_L_waves_177 (by decide) rfl ?_
            refine w_iinc (lv2 := [(12, .int (nI (i + 1))), (11, .int _), (14, .int 3), (13, .int ((jdL mt k lf v i).1 0 (12 * i + lf))), (0, .ref (ad 50)), (1, .ref (ad 51)), (2, .ref (ad 55)), (3, .ref (ad 56)), (4, .ref (ad 57)), (5, .ref (ad 58)), (6, .ref (ad 59)), (7, .int al), (8, .int (nI k)), (9, .int (nI lf)), (10, .int v)]) C 14 d_L_waves_179 rfl (nI_1 _) (by decide) rfl ?_
            refine w_goto C 55 d_L_waves_182 (by decide) ?_
            have ih9 := ih (i + 1) (by omega)
            rw [show jdL mt k lf v (i + 1) = jdS k lf i v (jdL mt k lf v i) from rfl, jdS_n (jdN_3 h90 h100 h122 h130) rfl] at ih9
            try dsimp only at ih9
            exact w_lv [4, 5, 6, 7, 8, 9, 10, 11, 12, 13, 14, 1, 0] rfl ih9
      · skip
        refine w_iconst (v := 2) C d_L_waves_103 rfl ?_
        refine w_istore (lv2 := [(14, .int 2), (13, .int ((jdL mt k lf v i).1 0 (12 * i + lf))), (0, .ref (ad 50)), (1, .ref (ad 51)), (2, .ref (ad 55)), (3, .ref (ad 56)), (4, .ref (ad 57)), (5, .ref (ad 58)), (6, .ref (ad 59)), (7, .int al), (8, .int (nI k)), (9, .int (nI lf)), (10, .int v), (11, .int (jdL mt k lf v i).2), (12, .int (nI i))]) C d_L_waves_104 (by decide) rfl ?_
        refine w_goto C 136 d_L_waves_106 (by decide) ?_
        refine w_aload C 6 d_L_waves_136 rfl ?_
        refine w_iload C 10 d_L_waves_138 rfl ?_
        refine w_aload C 6 d_L_waves_140 rfl ?_
        refine w_iload C 10 d_L_waves_142 rfl ?_
        refine ia_MA C 7 (by omega) rfl rfl (show _ < 8 by omega) d_L_waves_144 ?_
        refine w_iconst (v := 3) C d_L_waves_145 rfl ?_
        refine w_iconst (v := 2) C d_L_waves_146 rfl ?_
        refine w_iload C 14 d_L_waves_147 rfl ?_
        refine w_imul C d_L_waves_149 ?_
        refine w_topi (y := (nI (2 * i))) (pk_mul 2 i) ?_
        refine w_ishl C d_L_waves_150 ?_
        refine w_iconst (v := (-1)) C d_L_waves_151 rfl ?_
        refine w_ixor C d_L_waves_152 ?_
        refine w_iand C d_L_waves_153 ?_
        refine w_iload C 0 d_L_waves_154 rfl ?_
        refine w_iconst (v := 2) C d_L_waves_156 rfl ?_
        refine w_iload C 14 d_L_waves_157 rfl ?_
        refine w_imul C d_L_waves_159 ?_
        refine w_topi (y := (nI (2 * i))) (pk_mul 2 i) ?_
        refine w_ishl C d_L_waves_160 ?_
        refine w_ior C d_L_waves_161 ?_
        refine is_MA C 7 (by omega) rfl rfl (show _ < 8 by omega) d_L_waves_162 ?_
        refine w_iload C 13 d_L_waves_163 rfl ?_
        refine w_iload C 0 d_L_waves_165 rfl ?_
        refine w_iconst (v := 3) C d_L_waves_167 rfl ?_
        refine w_icmp_ne_t C 175 d_L_waves_168 (by decide) (by decide) ?_
        refine w_iconst (v := 0) C d_L_waves_175 rfl ?_
        refine w_iadd C d_L_waves_176 ?_
        refine w_istore (lv2 := [(11, .int _), (14, .int 2), (13, .int ((jdL mt k lf v i).1 0 (12 * i + lf))), (0, .ref (ad 50)), (1, .ref (ad 51)), (2, .ref (ad 55)), (3, .ref (ad 56)), (4, .ref (ad 57)), (5, .ref (ad 58)), (6, .ref (ad 59)), (7, .int al), (8, .int (nI k)), (9, .int (nI lf)), (10, .int v), (12, .int (nI i))]) C d_L_waves_177 (by decide) rfl ?_
        refine w_iinc (lv2 := [(12, .int (nI (i + 1))), (11, .int _), (14, .int 2), (13, .int ((jdL mt k lf v i).1 0 (12 * i + lf))), (0, .ref (ad 50)), (1, .ref (ad 51)), (2, .ref (ad 55)), (3, .ref (ad 56)), (4, .ref (ad 57)), (5, .ref (ad 58)), (6, .ref (ad 59)), (7, .int al), (8, .int (nI k)), (9, .int (nI lf)), (10, .int v)]) C 14 d_L_waves_179 rfl (nI_1 _) (by decide) rfl ?_
        refine w_goto C 55 d_L_waves_182 (by decide) ?_
        have ih9 := ih (i + 1) (by omega)
        rw [show jdL mt k lf v (i + 1) = jdS k lf i v (jdL mt k lf v i) from rfl, jdS_m (jdN_2 h90 h100) (by decide)] at ih9
        try dsimp only at ih9
        exact w_lv [4, 5, 6, 7, 8, 9, 10, 11, 12, 13, 14, 1, 0] rfl ih9
set_option maxHeartbeats 4000000 in
set_option maxRecDepth 100000 in
theorem l_waves2 {p : Program} {l : Launch} {e : Env} {s : State} {m : MethodId} {args : Array Value} {below : List Frame} {meth : Method} {c : Code} {Q : State → Prop} {D : va_G} {cs : Nat → ClassId} {ad : Nat → Nat} {A : Nat → Prop} {cells slots : Nat} {st mt : Nat → Nat → Int32} {ov : Nat → Int64} {k lf g gk : Nat} (hk : k < 8) (hlf : lf < 12) (hg : g < 4) (hgk : gk < 12) (hgj : mt 6 k &&& 3 = nI g) (hg5 : mt 5 g &&& 15 = nI gk) {v lft al : Int32} (C : Cx p s m args meth c D cs ad A b_L_waves 15 "TwinRegisterLaw") (hcs : cells ≤ 0 ∧ slots ≤ 0)
    (kx : Wg p l e ({ frames := 2, cells := 0, slots := 0, locals := 45 } : Room) s m args below meth c Q D cs ad A 15 cells slots 332 [(0, .ref (ad 50)), (1, .ref (ad 51)), (2, .ref (ad 55)), (3, .ref (ad 56)), (4, .ref (ad 57)), (5, .ref (ad 58)), (6, .ref (ad 59)), (7, .int (swL mt lft al k lf g gk v 5).2.2), (8, .int (nI k)), (9, .int (nI lf)), (10, .int v)] [] st ((swL mt lft al k lf g gk v 5).1) ov) : ∀ n i : Nat, i + n = 5 → Wg p l e ({ frames := 2, cells := 0, slots := 0, locals := 45 } : Room) s m args below meth c Q D cs ad A 15 cells slots 221 [(0, .ref (ad 50)), (1, .ref (ad 51)), (2, .ref (ad 55)), (3, .ref (ad 56)), (4, .ref (ad 57)), (5, .ref (ad 58)), (6, .ref (ad 59)), (7, .int (swL mt lft al k lf g gk v i).2.2), (8, .int (nI k)), (9, .int (nI lf)), (10, .int v), (12, .int (swL mt lft al k lf g gk v i).2.1), (13, .int (nI i))] [] st ((swL mt lft al k lf g gk v i).1) ov := by
  intro n
  induction n with
  | zero =>
    intro i hi
    have hi9 : 5 = i := by omega
    subst hi9
    refine w_iload C 12 d_L_waves_221 rfl ?_
    refine w_iconst (v := 5) C d_L_waves_223 rfl ?_
    refine w_icmp_ge_t C 332 d_L_waves_224 (by decide) (nI_le (a := 5) (b := 5) (Nat.le_refl _) (by decide)) ?_
    exact w_lv [0, 1, 2, 3, 4, 5, 6, 7, 8, 9, 10] rfl kx
  | succ n ih =>
    intro i hi
    have hi2 : i < 5 := by omega
    have hgl : (swL mt lft al k lf g gk v i).1 5 g &&& 15 = nI gk := by rw [swL_o (by decide) (by decide) (by decide) i]; exact hg5
    have hgj2 : (swL mt lft al k lf g gk v i).1 6 k &&& 3 = nI g := by rw [swL_o (by decide) (by decide) (by decide) i]; exact hgj
    refine w_iload C 12 d_L_waves_221 rfl ?_
    refine w_iconst (v := 5) C d_L_waves_223 rfl ?_
    refine w_icmp_ge_f C 332 d_L_waves_224 (by decide) (nI_ge (b := 5) hi2 (by decide)) ?_
    refine w_iload C 11 d_L_waves_227 rfl ?_
    refine w_if_eq C 326 d_L_waves_229 (by decide) (fun h229 => ?_) (fun h229 => ?_)
    · skip
      refine w_iinc (lv2 := [(13, .int (nI (i + 1))), (0, .ref (ad 50)), (1, .ref (ad 51)), (2, .ref (ad 55)), (3, .ref (ad 56)), (4, .ref (ad 57)), (5, .ref (ad 58)), (6, .ref (ad 59)), (7, .int (swL mt lft al k lf g gk v i).2.2), (8, .int (nI k)), (9, .int (nI lf)), (10, .int v), (12, .int (swL mt lft al k lf g gk v i).2.1)]) C 12 d_L_waves_326 rfl (nI_1 _) (by decide) rfl ?_
      refine w_goto C 221 d_L_waves_329 (by decide) ?_
      have ih9 := ih (i + 1) (by omega)
      rw [show swL mt lft al k lf g gk v (i + 1) = swS k lf g gk i v (swL mt lft al k lf g gk v i) from rfl, swS_1 h229] at ih9
      try dsimp only at ih9
      exact w_lv [1, 2, 3, 4, 5, 6, 7, 8, 9, 10, 11, 12, 0] rfl ih9
    · skip
      refine w_aload C 4 d_L_waves_232 rfl ?_
      refine w_iload C 8 d_L_waves_234 rfl ?_
      refine ia_MA C 7 (by omega) rfl rfl (show _ < 8 by omega) d_L_waves_236 ?_
      refine w_iconst (v := 2) C d_L_waves_237 rfl ?_
      refine w_iload C 12 d_L_waves_238 rfl ?_
      refine w_imul C d_L_waves_240 ?_
      refine w_topi (y := (nI (2 * i))) (pk_mul 2 i) ?_
      refine w_ishr C d_L_waves_241 ?_
      refine w_iconst (v := 3) C d_L_waves_242 rfl ?_
      refine w_iand C d_L_waves_243 ?_
      refine w_topi (y := (atL ((swL mt lft al k lf g gk v i).1 7 k) i)) (rfl) ?_
      refine w_if_gt C 326 d_L_waves_244 (by decide) (fun h244 => ?_) (fun h244 => ?_)
      · skip
        refine w_iinc (lv2 := [(13, .int (nI (i + 1))), (0, .ref (ad 50)), (1, .ref (ad 51)), (2, .ref (ad 55)), (3, .ref (ad 56)), (4, .ref (ad 57)), (5, .ref (ad 58)), (6, .ref (ad 59)), (7, .int (swL mt lft al k lf g gk v i).2.2), (8, .int (nI k)), (9, .int (nI lf)), (10, .int v), (12, .int (swL mt lft al k lf g gk v i).2.1)]) C 12 d_L_waves_326 rfl (nI_1 _) (by decide) rfl ?_
        refine w_goto C 221 d_L_waves_329 (by decide) ?_
        have ih9 := ih (i + 1) (by omega)
        rw [show swL mt lft al k lf g gk v (i + 1) = swS k lf g gk i v (swL mt lft al k lf g gk v i) from rfl, swS_2 h244] at ih9
        try dsimp only at ih9
        exact w_lv [1, 2, 3, 4, 5, 6, 7, 8, 9, 10, 11, 12, 0] rfl ih9
      · skip
        refine w_aload_n C 0 d_L_waves_247 rfl rfl ?_
        refine w_aload_n C 2 d_L_waves_248 rfl rfl ?_
        refine w_aload_n C 3 d_L_waves_249 rfl rfl ?_
        refine w_iload C 8 d_L_waves_250 rfl ?_
        refine ia_MA C 6 (by omega) rfl rfl (show _ < 8 by omega) d_L_waves_252 ?_
        refine w_iconst (v := 3) C d_L_waves_253 rfl ?_
        refine w_iand C d_L_waves_254 ?_
        refine w_topi (y := (nI g)) (hgj2) ?_
        refine w_callMi C (w_runS C (c_L_members (k := gk) hg hgk hgl) m_464 m_465 m_23 m_466 ⟨rfl, rfl⟩ hd_L_members rfl ⟨Nat.le_of_ble_eq_true rfl, Nat.le_of_ble_eq_true rfl⟩ rfl (Nat.le_of_ble_eq_true rfl) d_L_waves_255 hcs) (fun r9 u9 h9 => ?_)
        obtain ⟨rfl, h9⟩ := h9
        have h9 := h9.symm
        subst h9
        refine w_iload C 12 d_L_waves_258 rfl ?_
        refine w_ishr C d_L_waves_260 ?_
        refine w_iconst (v := 1) C d_L_waves_261 rfl ?_
        refine w_iand C d_L_waves_262 ?_
        refine w_if_ne C 269 d_L_waves_263 (by decide) (fun h263 => ?_) (fun h263 => ?_)
        · skip
          refine w_aload C 4 d_L_waves_269 rfl ?_
          refine w_iload C 8 d_L_waves_271 rfl ?_
          refine w_dup2 C d_L_waves_273 rfl rfl ?_
          refine ia_MA C 7 (by omega) rfl rfl (show _ < 8 by omega) d_L_waves_274 ?_
          refine w_iconst (v := 1) C d_L_waves_275 rfl ?_
          refine w_iconst (v := 2) C d_L_waves_276 rfl ?_
          refine w_iload C 12 d_L_waves_277 rfl ?_
          refine w_imul C d_L_waves_279 ?_
          refine w_topi (y := (nI (2 * i))) (pk_mul 2 i) ?_
          refine w_ishl C d_L_waves_280 ?_
          refine w_ior C d_L_waves_281 ?_
          refine is_MA C 7 (by omega) rfl rfl (show _ < 8 by omega) d_L_waves_282 ?_
          refine w_aload_n C 0 d_L_waves_283 rfl rfl ?_
          refine w_bipush (v := 12) C d_L_waves_284 rfl ?_
          refine w_iload C 12 d_L_waves_286 rfl ?_
          refine w_imul C d_L_waves_288 ?_
          refine w_iload C 9 d_L_waves_289 rfl ?_
          refine w_iadd C d_L_waves_291 ?_
          refine w_topi (y := (nI (12 * i + lf))) (ix12 _ _) ?_
          refine w_aload_n C 0 d_L_waves_292 rfl rfl ?_
          refine w_bipush (v := 12) C d_L_waves_293 rfl ?_
          refine w_iload C 12 d_L_waves_295 rfl ?_
          refine w_imul C d_L_waves_297 ?_
          refine w_iload C 9 d_L_waves_298 rfl ?_
          refine w_iadd C d_L_waves_300 ?_
          refine w_topi (y := (nI (12 * i + lf))) (ix12 _ _) ?_
          refine ia_MA C 0 (by omega) rfl rfl (show _ < 60 by omega) d_L_waves_301 ?_
          refine w_sipush (v := 16256) C d_L_waves_302 rfl ?_
          refine w_iand C d_L_waves_305 ?_
          refine w_iload C 10 d_L_waves_306 rfl ?_
          refine w_iconst (v := 1) C d_L_waves_308 rfl ?_
          refine w_iadd C d_L_waves_309 ?_
          refine w_ior C d_L_waves_310 ?_
          refine is_MA C 0 (by omega) rfl rfl (show _ < 60 by omega) d_L_waves_311 ?_
          refine w_aload_n C 1 d_L_waves_312 rfl rfl ?_
          refine w_iload C 12 d_L_waves_313 rfl ?_
          refine w_dup2 C d_L_waves_315 rfl rfl ?_
          refine ia_MA C 1 (by omega) rfl rfl (show _ < 5 by omega) d_L_waves_316 ?_
          refine w_iconst (v := 1) C d_L_waves_317 rfl ?_
          refine w_iadd C d_L_waves_318 ?_
          refine is_MA C 1 (by omega) rfl rfl (show _ < 5 by omega) d_L_waves_319 ?_
          refine w_iinc (lv2 := [(12, .int ((swL mt lft al k lf g gk v i).2.1 + -1)), (0, .ref (ad 50)), (1, .ref (ad 51)), (2, .ref (ad 55)), (3, .ref (ad 56)), (4, .ref (ad 57)), (5, .ref (ad 58)), (6, .ref (ad 59)), (7, .int (swL mt lft al k lf g gk v i).2.2), (8, .int (nI k)), (9, .int (nI lf)), (10, .int v), (13, .int (nI i))]) C 11 d_L_waves_320 rfl rfl (by decide) rfl ?_
          refine w_iinc (lv2 := [(7, .int ((swL mt lft al k lf g gk v i).2.2 + 1)), (12, .int ((swL mt lft al k lf g gk v i).2.1 + -1)), (0, .ref (ad 50)), (1, .ref (ad 51)), (2, .ref (ad 55)), (3, .ref (ad 56)), (4, .ref (ad 57)), (5, .ref (ad 58)), (6, .ref (ad 59)), (8, .int (nI k)), (9, .int (nI lf)), (10, .int v), (13, .int (nI i))]) C 8 d_L_waves_323 rfl rfl (by decide) rfl ?_
          refine w_iinc (lv2 := [(13, .int (nI (i + 1))), (7, .int ((swL mt lft al k lf g gk v i).2.2 + 1)), (12, .int ((swL mt lft al k lf g gk v i).2.1 + -1)), (0, .ref (ad 50)), (1, .ref (ad 51)), (2, .ref (ad 55)), (3, .ref (ad 56)), (4, .ref (ad 57)), (5, .ref (ad 58)), (6, .ref (ad 59)), (8, .int (nI k)), (9, .int (nI lf)), (10, .int v)]) C 12 d_L_waves_326 rfl (nI_1 _) (by decide) rfl ?_
          refine w_goto C 221 d_L_waves_329 (by decide) ?_
          have ih9 := ih (i + 1) (by omega)
          rw [show swL mt lft al k lf g gk v (i + 1) = swS k lf g gk i v (swL mt lft al k lf g gk v i) from rfl, swS_4 h229 h244 h263] at ih9
          try dsimp only at ih9
          exact w_lv [3, 4, 5, 6, 7, 8, 9, 1, 10, 11, 12, 2, 0] rfl ih9
        · skip
          refine w_goto C 326 d_L_waves_266 (by decide) ?_
          refine w_iinc (lv2 := [(13, .int (nI (i + 1))), (0, .ref (ad 50)), (1, .ref (ad 51)), (2, .ref (ad 55)), (3, .ref (ad 56)), (4, .ref (ad 57)), (5, .ref (ad 58)), (6, .ref (ad 59)), (7, .int (swL mt lft al k lf g gk v i).2.2), (8, .int (nI k)), (9, .int (nI lf)), (10, .int v), (12, .int (swL mt lft al k lf g gk v i).2.1)]) C 12 d_L_waves_326 rfl (nI_1 _) (by decide) rfl ?_
          refine w_goto C 221 d_L_waves_329 (by decide) ?_
          have ih9 := ih (i + 1) (by omega)
          rw [show swL mt lft al k lf g gk v (i + 1) = swS k lf g gk i v (swL mt lft al k lf g gk v i) from rfl, swS_3 h263] at ih9
          try dsimp only at ih9
          exact w_lv [1, 2, 3, 4, 5, 6, 7, 8, 9, 10, 11, 12, 0] rfl ih9
set_option maxHeartbeats 4000000 in
set_option maxRecDepth 100000 in
theorem l_waves0 {p : Program} {l : Launch} {e : Env} {s : State} {m : MethodId} {args : Array Value} {below : List Frame} {meth : Method} {c : Code} {Q : State → Prop} {D : va_G} {cs : Nat → ClassId} {ad : Nat → Nat} {A : Nat → Prop} {cells slots : Nat} {st mt : Nat → Nat → Int32} {ov : Nat → Int64} (hs : okL mt) {jc : Nat} (hjc : jc ≤ 8) (hj0 : mt 9 0 = nI jc) (C : Cx p s m args meth c D cs ad A b_L_waves 15 "TwinRegisterLaw") (hcs : cells ≤ 0 ∧ slots ≤ 0)
    (kx : Wg p l e ({ frames := 2, cells := 0, slots := 0, locals := 45 } : Room) s m args below meth c Q D cs ad A 15 cells slots 338 [(0, .ref (ad 50)), (1, .ref (ad 51)), (2, .ref (ad 55)), (3, .ref (ad 56)), (4, .ref (ad 57)), (5, .ref (ad 58)), (6, .ref (ad 59)), (7, .int (wvL mt jc).2)] [] st ((wvL mt jc).1) ov) : ∀ n i : Nat, i + n = jc → Wg p l e ({ frames := 2, cells := 0, slots := 0, locals := 45 } : Room) s m args below meth c Q D cs ad A 15 cells slots 6 [(0, .ref (ad 50)), (1, .ref (ad 51)), (2, .ref (ad 55)), (3, .ref (ad 56)), (4, .ref (ad 57)), (5, .ref (ad 58)), (6, .ref (ad 59)), (7, .int (wvL mt i).2), (8, .int (nI i))] [] st ((wvL mt i).1) ov := by
  intro n
  induction n with
  | zero =>
    intro i hi
    have hi9 : jc = i := by omega
    subst hi9
    refine w_iload C 8 d_L_waves_6 rfl ?_
    refine w_aload C 6 d_L_waves_8 rfl ?_
    refine w_iconst (v := 0) C d_L_waves_10 rfl ?_
    refine ia_MA C 9 (by omega) rfl (show (0 : Int32) = nI 0 from rfl) (show 0 < 1 by decide) d_L_waves_11 ?_
    refine w_topi (y := (nI jc)) ((congrFun (wvL_o (by decide) (by decide) (by decide) (by decide) _) 0).trans hj0) ?_
    refine w_icmp_ge_t C 338 d_L_waves_12 (by decide) (nI_le (a := jc) (b := jc) (Nat.le_refl _) (by omega)) ?_
    exact w_lv [0, 1, 2, 3, 4, 5, 6, 7] rfl kx
  | succ n ih =>
    intro i hi
    have hi2 : i < jc := by omega
    have hs1 := wvL_ok hs i
    have e1 := (hs1.1 i (by omega)).1
    have hs2 := jdA_ok (k := i) hs1
    have e2 := (hs2.1 i (by omega)).2
    have e3 := hs2.2 _ e2.2
    refine w_iload C 8 d_L_waves_6 rfl ?_
    refine w_aload C 6 d_L_waves_8 rfl ?_
    refine w_iconst (v := 0) C d_L_waves_10 rfl ?_
    refine ia_MA C 9 (by omega) rfl (show (0 : Int32) = nI 0 from rfl) (show 0 < 1 by decide) d_L_waves_11 ?_
    refine w_topi (y := (nI jc)) ((congrFun (wvL_o (by decide) (by decide) (by decide) (by decide) _) 0).trans hj0) ?_
    refine w_icmp_ge_f C 338 d_L_waves_12 (by decide) (nI_ge (b := jc) hi2 (by omega)) ?_
    refine w_aload C 5 d_L_waves_15 rfl ?_
    refine w_iload C 8 d_L_waves_17 rfl ?_
    refine ia_MA C 8 (by omega) rfl rfl (show _ < 8 by omega) d_L_waves_19 ?_
    refine w_if_le C 26 d_L_waves_20 (by decide) (fun h20 => ?_) (fun h20 => ?_)
    · skip
      refine w_aload_n C 3 d_L_waves_26 rfl rfl ?_
      refine w_iload C 8 d_L_waves_27 rfl ?_
      refine ia_MA C 6 (by omega) rfl rfl (show _ < 8 by omega) d_L_waves_29 ?_
      refine w_iconst (v := 2) C d_L_waves_30 rfl ?_
      refine w_ishr C d_L_waves_31 ?_
      refine w_bipush (v := 15) C d_L_waves_32 rfl ?_
      refine w_iand C d_L_waves_34 ?_
      refine w_topi (y := (nI (lfO (wvL mt i).1 i))) (e1.1) ?_
      refine w_istore (lv2 := [(9, .int (nI (lfO (wvL mt i).1 i))), (0, .ref (ad 50)), (1, .ref (ad 51)), (2, .ref (ad 55)), (3, .ref (ad 56)), (4, .ref (ad 57)), (5, .ref (ad 58)), (6, .ref (ad 59)), (7, .int (wvL mt i).2), (8, .int (nI i))]) C d_L_waves_35 (by decide) rfl ?_
      refine w_aload_n C 4 d_L_waves_37 rfl rfl ?_
      refine w_iload C 9 d_L_waves_38 rfl ?_
      refine ia_MA C 6 (by omega) rfl rfl (show _ < 8 by omega) d_L_waves_40 ?_
      refine w_bipush (v := 6) C d_L_waves_41 rfl ?_
      refine w_ishr C d_L_waves_43 ?_
      refine w_bipush (v := 127) C d_L_waves_44 rfl ?_
      refine w_iand C d_L_waves_46 ?_
      refine w_topi (y := (jvO (wvL mt i).1 i)) (rfl) ?_
      refine w_istore (lv2 := [(10, .int (jvO (wvL mt i).1 i)), (9, .int (nI (lfO (wvL mt i).1 i))), (0, .ref (ad 50)), (1, .ref (ad 51)), (2, .ref (ad 55)), (3, .ref (ad 56)), (4, .ref (ad 57)), (5, .ref (ad 58)), (6, .ref (ad 59)), (7, .int (wvL mt i).2), (8, .int (nI i))]) C d_L_waves_47 (by decide) rfl ?_
      refine w_iconst (v := 0) C d_L_waves_49 rfl ?_
      refine w_istore (lv2 := [(11, .int 0), (10, .int (jvO (wvL mt i).1 i)), (9, .int (nI (lfO (wvL mt i).1 i))), (0, .ref (ad 50)), (1, .ref (ad 51)), (2, .ref (ad 55)), (3, .ref (ad 56)), (4, .ref (ad 57)), (5, .ref (ad 58)), (6, .ref (ad 59)), (7, .int (wvL mt i).2), (8, .int (nI i))]) C d_L_waves_50 (by decide) rfl ?_
      refine w_iconst (v := 0) C d_L_waves_52 rfl ?_
      refine w_istore (lv2 := [(12, .int 0), (11, .int 0), (10, .int (jvO (wvL mt i).1 i)), (9, .int (nI (lfO (wvL mt i).1 i))), (0, .ref (ad 50)), (1, .ref (ad 51)), (2, .ref (ad 55)), (3, .ref (ad 56)), (4, .ref (ad 57)), (5, .ref (ad 58)), (6, .ref (ad 59)), (7, .int (wvL mt i).2), (8, .int (nI i))]) C d_L_waves_53 (by decide) rfl ?_
      refine w_lv (lv2 := [(0, .ref (ad 50)), (1, .ref (ad 51)), (2, .ref (ad 55)), (3, .ref (ad 56)), (4, .ref (ad 57)), (5, .ref (ad 58)), (6, .ref (ad 59)), (7, .int (wvL mt i).2), (8, .int (nI i)), (9, .int (nI (lfO (wvL mt i).1 i))), (10, .int (jvO (wvL mt i).1 i)), (11, .int (jdL (wvL mt i).1 i (lfO (wvL mt i).1 i) (jvO (wvL mt i).1 i) 0).2), (12, .int (nI 0))]) [4, 5, 6, 7, 8, 9, 10, 11, 12, 3, 2, 1, 0] rfl ?_
      refine l_waves1 (k := i) (lf := (lfO (wvL mt i).1 i)) (v := (jvO (wvL mt i).1 i)) (al := (wvL mt i).2) (by omega) e1.2 C hcs ?_ 5 0 rfl
      refine w_mt (mt2 := (jdA (wvL mt i).1 i).1) rfl ?_
      refine w_iload C 11 d_L_waves_185 rfl ?_
      refine w_aload_n C 3 d_L_waves_187 rfl rfl ?_
      refine w_iload C 8 d_L_waves_188 rfl ?_
      refine ia_MA C 6 (by omega) rfl rfl (show _ < 8 by omega) d_L_waves_190 ?_
      refine w_bipush (v := 17) C d_L_waves_191 rfl ?_
      refine w_ishr C d_L_waves_193 ?_
      refine w_icmp_lt C 206 d_L_waves_194 (by decide) (fun h194 => ?_) (fun h194 => ?_)
      · skip
        refine w_aload_n C 3 d_L_waves_206 rfl rfl ?_
        refine w_iload C 8 d_L_waves_207 rfl ?_
        refine ia_MA C 6 (by omega) rfl rfl (show _ < 8 by omega) d_L_waves_209 ?_
        refine w_bipush (v := 13) C d_L_waves_210 rfl ?_
        refine w_ishr C d_L_waves_212 ?_
        refine w_bipush (v := 15) C d_L_waves_213 rfl ?_
        refine w_iand C d_L_waves_215 ?_
        refine w_topi (y := (jrO (jdA (wvL mt i).1 i).1 i)) (rfl) ?_
        refine w_istore (lv2 := [(12, .int (jrO (jdA (wvL mt i).1 i).1 i)), (0, .ref (ad 50)), (1, .ref (ad 51)), (2, .ref (ad 55)), (3, .ref (ad 56)), (4, .ref (ad 57)), (5, .ref (ad 58)), (6, .ref (ad 59)), (7, .int (wvL mt i).2), (8, .int (nI i)), (9, .int (nI (lfO (wvL mt i).1 i))), (10, .int (jvO (wvL mt i).1 i)), (11, .int (jdA (wvL mt i).1 i).2)]) C d_L_waves_216 (by decide) rfl ?_
        refine w_iconst (v := 0) C d_L_waves_218 rfl ?_
        refine w_istore (lv2 := [(13, .int 0), (12, .int (jrO (jdA (wvL mt i).1 i).1 i)), (0, .ref (ad 50)), (1, .ref (ad 51)), (2, .ref (ad 55)), (3, .ref (ad 56)), (4, .ref (ad 57)), (5, .ref (ad 58)), (6, .ref (ad 59)), (7, .int (wvL mt i).2), (8, .int (nI i)), (9, .int (nI (lfO (wvL mt i).1 i))), (10, .int (jvO (wvL mt i).1 i)), (11, .int (jdA (wvL mt i).1 i).2)]) C d_L_waves_219 (by decide) rfl ?_
        refine w_lv (lv2 := [(0, .ref (ad 50)), (1, .ref (ad 51)), (2, .ref (ad 55)), (3, .ref (ad 56)), (4, .ref (ad 57)), (5, .ref (ad 58)), (6, .ref (ad 59)), (7, .int (swL (jdA (wvL mt i).1 i).1 (jrO (jdA (wvL mt i).1 i).1 i) (wvL mt i).2 i (lfO (wvL mt i).1 i) (jgO (jdA (wvL mt i).1 i).1 i) (gkO (jdA (wvL mt i).1 i).1 (jgO (jdA (wvL mt i).1 i).1 i)) (jvO (wvL mt i).1 i) 0).2.2), (8, .int (nI i)), (9, .int (nI (lfO (wvL mt i).1 i))), (10, .int (jvO (wvL mt i).1 i)), (12, .int (swL (jdA (wvL mt i).1 i).1 (jrO (jdA (wvL mt i).1 i).1 i) (wvL mt i).2 i (lfO (wvL mt i).1 i) (jgO (jdA (wvL mt i).1 i).1 i) (gkO (jdA (wvL mt i).1 i).1 (jgO (jdA (wvL mt i).1 i).1 i)) (jvO (wvL mt i).1 i) 0).2.1), (13, .int (nI 0))]) [2, 3, 4, 5, 6, 7, 8, 9, 10, 11, 12, 1, 0] rfl ?_
        refine l_waves2 (k := i) (lf := (lfO (wvL mt i).1 i)) (g := (jgO (jdA (wvL mt i).1 i).1 i)) (gk := (gkO (jdA (wvL mt i).1 i).1 (jgO (jdA (wvL mt i).1 i).1 i))) (v := (jvO (wvL mt i).1 i)) (lft := jrO (jdA (wvL mt i).1 i).1 i) (al := (wvL mt i).2) (by omega) e1.2 e2.2 e3.2 e2.1 e3.1 C hcs ?_ 5 0 rfl
        refine w_iinc (lv2 := [(8, .int (nI (i + 1))), (0, .ref (ad 50)), (1, .ref (ad 51)), (2, .ref (ad 55)), (3, .ref (ad 56)), (4, .ref (ad 57)), (5, .ref (ad 58)), (6, .ref (ad 59)), (7, .int (swA (jdA (wvL mt i).1 i).1 i (jvO (wvL mt i).1 i) (wvL mt i).2 (lfO (wvL mt i).1 i)).2.2), (9, .int (nI (lfO (wvL mt i).1 i))), (10, .int (jvO (wvL mt i).1 i))]) C 8 d_L_waves_332 rfl (nI_1 _) (by decide) rfl ?_
        refine w_goto C 6 d_L_waves_335 (by decide) ?_
        have ih9 := ih (i + 1) (by omega)
        rw [show wvL mt (i + 1) = wvS i (wvL mt i) from rfl, wvS_2 h20 h194] at ih9
        try dsimp only at ih9
        exact w_lv [1, 2, 3, 4, 5, 6, 7, 8, 0] rfl ih9
      · skip
        refine w_aload C 5 d_L_waves_197 rfl ?_
        refine w_iload C 8 d_L_waves_199 rfl ?_
        refine w_iconst (v := 1) C d_L_waves_201 rfl ?_
        refine is_MA C 8 (by omega) rfl rfl (show _ < 8 by omega) d_L_waves_202 ?_
        refine w_goto C 332 d_L_waves_203 (by decide) ?_
        refine w_iinc (lv2 := [(8, .int (nI (i + 1))), (0, .ref (ad 50)), (1, .ref (ad 51)), (2, .ref (ad 55)), (3, .ref (ad 56)), (4, .ref (ad 57)), (5, .ref (ad 58)), (6, .ref (ad 59)), (7, .int (wvL mt i).2), (9, .int (nI (lfO (wvL mt i).1 i))), (10, .int (jvO (wvL mt i).1 i)), (11, .int (jdA (wvL mt i).1 i).2)]) C 8 d_L_waves_332 rfl (nI_1 _) (by decide) rfl ?_
        refine w_goto C 6 d_L_waves_335 (by decide) ?_
        have ih9 := ih (i + 1) (by omega)
        rw [show wvL mt (i + 1) = wvS i (wvL mt i) from rfl, wvS_3 h20 h194] at ih9
        try dsimp only at ih9
        exact w_lv [1, 2, 3, 4, 5, 6, 7, 8, 0] rfl ih9
    · skip
      refine w_goto C 332 d_L_waves_23 (by decide) ?_
      refine w_iinc (lv2 := [(8, .int (nI (i + 1))), (0, .ref (ad 50)), (1, .ref (ad 51)), (2, .ref (ad 55)), (3, .ref (ad 56)), (4, .ref (ad 57)), (5, .ref (ad 58)), (6, .ref (ad 59)), (7, .int (wvL mt i).2)]) C 8 d_L_waves_332 rfl (nI_1 _) (by decide) rfl ?_
      refine w_goto C 6 d_L_waves_335 (by decide) ?_
      have ih9 := ih (i + 1) (by omega)
      rw [show wvL mt (i + 1) = wvS i (wvL mt i) from rfl, wvS_1 h20] at ih9
      try dsimp only at ih9
      exact w_lv [1, 2, 3, 4, 5, 6, 7, 8, 0] rfl ih9
set_option maxHeartbeats 4000000 in
set_option maxRecDepth 100000 in
theorem c_L_waves {l : Launch} {D : va_G} {cs : Nat → ClassId} {ad : Nat → Nat} {st mt : Nat → Nat → Int32} {ov : Nat → Int64} (hs : okL mt) {jc : Nat} (hjc : jc ≤ 8) (hj0 : mt 9 0 = nI jc) : gM l y_L_waves b_L_waves 15 (some .int) ({ frames := 2, cells := 0, slots := 0, locals := 45 } : Room) 0 0 [.ref (ad 50), .ref (ad 51), .ref (ad 55), .ref (ad 56), .ref (ad 57), .ref (ad 58), .ref (ad 59)] D cs ad st mt ov (QMi D cs ad st ov (fun r u => (u, r) = wvL mt jc)) := by
  refine gM_of (own := "TwinRegisterLaw") (by decide +kernel) rfl (Nat.le_of_ble_eq_true rfl) ?_
  intro p e s m args below meth c C hr
  refine w_lv (lv2 := [(0, .ref (ad 50)), (1, .ref (ad 51)), (2, .ref (ad 55)), (3, .ref (ad 56)), (4, .ref (ad 57)), (5, .ref (ad 58)), (6, .ref (ad 59))]) [0, 1, 2, 3, 4, 5, 6] rfl ?_
  refine w_iconst (v := 0) C d_L_waves_0 rfl ?_
  refine w_istore (lv2 := [(7, .int 0), (0, .ref (ad 50)), (1, .ref (ad 51)), (2, .ref (ad 55)), (3, .ref (ad 56)), (4, .ref (ad 57)), (5, .ref (ad 58)), (6, .ref (ad 59))]) C d_L_waves_1 (by decide) rfl ?_
  refine w_iconst (v := 0) C d_L_waves_3 rfl ?_
  refine w_istore (lv2 := [(8, .int 0), (7, .int 0), (0, .ref (ad 50)), (1, .ref (ad 51)), (2, .ref (ad 55)), (3, .ref (ad 56)), (4, .ref (ad 57)), (5, .ref (ad 58)), (6, .ref (ad 59))]) C d_L_waves_4 (by decide) rfl ?_
  refine w_lv (lv2 := [(0, .ref (ad 50)), (1, .ref (ad 51)), (2, .ref (ad 55)), (3, .ref (ad 56)), (4, .ref (ad 57)), (5, .ref (ad 58)), (6, .ref (ad 59)), (7, .int (wvL mt 0).2), (8, .int (nI 0))]) [2, 3, 4, 5, 6, 7, 8, 1, 0] rfl ?_
  refine l_waves0 hs hjc hj0 C ⟨Nat.le_of_ble_eq_true rfl, Nat.le_of_ble_eq_true rfl⟩ ?_ jc 0 (Nat.zero_add _)
  refine w_iload C 7 d_L_waves_338 rfl ?_
  exact w_iretM C hr d_L_waves_340 (pr_eta _)
