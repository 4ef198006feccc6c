/-! ===== the reference: what its methods do to its memory ===== -/
def inb (v a b : Int32) : Bool := !decide (v < a) && !decide (b < v)
theorem inb_t {v a b : Int32} (h : inb v a b = true) : ¬ v < a ∧ ¬ b < v := by
  unfold inb at h
  by_cases h1 : v < a <;> by_cases h2 : b < v <;> simp_all
theorem inb_f {v a b : Int32} (h : inb v a b = false) : v < a ∨ b < v := by
  unfold inb at h
  by_cases h1 : v < a <;> by_cases h2 : b < v <;> simp_all
theorem inb_R {v : Int32} {n : Nat} (hn : n + 1 < 2 ^ 31) (h : inb v 0 (nI n) = true) : inR v (n + 1) := by
  obtain ⟨h1, h2⟩ := inb_t h
  obtain ⟨j, hj, rfl⟩ := nI_of h1
  have h3 : ¬ n < j := fun z => h2 ((nI_ltI (by omega) hj).mpr z)
  exact ⟨j, by omega, rfl⟩
theorem inb_nR {v : Int32} {n : Nat} (hn : n + 1 < 2 ^ 31) (h : inb v 0 (nI n) = false) : ¬ inR v (n + 1) := by
  rintro ⟨k, hk, rfl⟩
  rcases inb_f h with h1 | h1
  · exact nI_pos (by omega) h1
  · have := (nI_ltI (by omega) (by omega)).mp h1
    omega
def thr (a : St) (c : Int32) : St := up2 a 0 0 c
def difM (a : St) (q k : Nat) : Bool := !decide (a 1 (12 * q + k) ≤ 0) && (!decide (a 2 (12 * q + k) = a 1 (12 * q + k)) && decide (a 3 (12 * q + k) = 0))
def dgSR (a : St) (q i : Nat) (x : Int32) : Int32 := x ||| (bif difM a q i then bitI i else 0)
def dgM (a : St) (q : Nat) : Nat → Int32
  | 0 => 0
  | i + 1 => dgSR a q i (dgM a q i)
theorem dgS_t {a : St} {q i : Nat} {x : Int32} (h : difM a q i = true) : dgSR a q i x = x ||| bitI i := by unfold dgSR; rw [h]; rfl
theorem dgS_f {a : St} {q i : Nat} {x : Int32} (h : difM a q i = false) : dgSR a q i x = x ||| 0 := by unfold dgSR; rw [h]; rfl
def mnS (x : Int32) (i : Nat) (n : Int32) : Int32 := n + (x >>> (nI i &&& 31) &&& 1)
def mnM (x : Int32) : Nat → Int32
  | 0 => 0
  | i + 1 => mnS x i (mnM x i)
def drSR (a : St) (i : Nat) (n : Int32) : Int32 := n + (bif decide (a 8 i ≤ 0) then 0 else 1)
def drM (a : St) : Nat → Int32
  | 0 => 0
  | i + 1 => drSR a i (drM a i)
theorem drS_tR {a : St} {i : Nat} {n : Int32} (h : a 8 i ≤ 0) : drSR a i n = n + 0 := by unfold drSR; rw [bt h]
theorem drS_fR {a : St} {i : Nat} {n : Int32} (h : ¬ a 8 i ≤ 0) : drSR a i n = n + 1 := by unfold drSR; rw [bf h]
def emM (a : St) : Nat → St
  | 0 => a
  | i + 1 => up2 (emM a i) 8 i 0
def wiM (a : St) (q k : Nat) (v : Int32) : St := up2 (up2 a 1 (12 * q + k) v) 3 (12 * q + k) 0
def wlS (q i : Nat) (b : St) : St := bif decide (b 8 i ≤ 0) then b else wiM b q i (b 8 i - 1)
def wlM (a : St) (q : Nat) : Nat → St
  | 0 => a
  | i + 1 => wlS q i (wlM a q i)
def rpS (q i : Nat) (b : St) : St := up2 b 2 (12 * q + i) (bif decide (b 8 i ≤ 0) then b 2 (12 * q + i) else b 8 i - 1)
def rpM (a : St) (q : Nat) : Nat → St
  | 0 => a
  | i + 1 => rpS q i (rpM a q i)
theorem rpS_t {q i : Nat} {b : St} (h : b 8 i ≤ 0) : rpS q i b = up2 b 2 (12 * q + i) (b 2 (12 * q + i)) := by unfold rpS; rw [bt h]
theorem rpS_f {q i : Nat} {b : St} (h : ¬ b 8 i ≤ 0) : rpS q i b = up2 b 2 (12 * q + i) (b 8 i - 1) := by unfold rpS; rw [bf h]
def obS (q i : Nat) (w : Int32) (b : St) : St := up2 b 2 (12 * q + i) (bif decide (w >>> (nI i &&& 31) &&& 1 = 1) then b 1 (12 * q + i) else b 2 (12 * q + i))
def obM (a : St) (q : Nat) (w : Int32) : Nat → St
  | 0 => a
  | i + 1 => obS q i w (obM a q w i)
theorem obS_t {q i : Nat} {w : Int32} {b : St} (h : w >>> (nI i &&& 31) &&& 1 = 1) : obS q i w b = up2 b 2 (12 * q + i) (b 1 (12 * q + i)) := by unfold obS; rw [bt h]
theorem obS_f {q i : Nat} {w : Int32} {b : St} (h : ¬ w >>> (nI i &&& 31) &&& 1 = 1) : obS q i w b = up2 b 2 (12 * q + i) (b 2 (12 * q + i)) := by unfold obS; rw [bf h]
def mbS (a : St) (g k i : Nat) (x : Int32) : Int32 := x ||| (bif inb (a 2 (12 * i + k) - 1) (a 10 g) (a 11 g) then bitI i else 0)
def mbM (a : St) (g k : Nat) : Nat → Int32
  | 0 => 0
  | i + 1 => mbS a g k i (mbM a g k i)
theorem mbS_t {a : St} {g k i : Nat} {x : Int32} (h : inb (a 2 (12 * i + k) - 1) (a 10 g) (a 11 g) = true) : mbS a g k i x = x ||| bitI i := by unfold mbS; rw [h]; rfl
theorem mbS_f {a : St} {g k i : Nat} {x : Int32} (h : inb (a 2 (12 * i + k) - 1) (a 10 g) (a 11 g) = false) : mbS a g k i x = x ||| 0 := by unfold mbS; rw [h]; rfl
def heM (a : St) (q : Nat) : Int32 := if a 6 q = 0 then a 4 q else a 5 q
def opM (b : St) (j : Nat) : Int32 := b 18 j &&& (b 19 j ^^^ (-1)) &&& (b 20 j ^^^ (-1))
def lkS (i j k : Nat) (b : St) : St :=
  bif decide (opM b j >>> (nI i &&& 31) &&& 1 = 1) then
    (bif decide (b 2 (12 * i + k) = b 14 j + 1) then up2 b 19 j (b 19 j ||| bitI i)
     else bif decide (b 1 (12 * i + k) = b 14 j + 1) && !decide (b 3 (12 * i + k) ≤ 0) then up2 b 20 j (b 20 j ||| bitI i) else b)
  else b
def lkM (a : St) (j k : Nat) : Nat → St
  | 0 => a
  | i + 1 => lkS i j k (lkM a j k i)
theorem lkS_o {i j k x : Nat} {b : St} (h : x ≠ 19) (h2 : x ≠ 20) : lkS i j k b x = b x := by
  unfold lkS
  cases decide (opM b j >>> (nI i &&& 31) &&& 1 = 1) <;> cases decide (b 2 (12 * i + k) = b 14 j + 1) <;> cases (decide (b 1 (12 * i + k) = b 14 j + 1) && !decide (b 3 (12 * i + k) ≤ 0)) <;> simp only [cond_true, cond_false, up2_out _ _ h, up2_out _ _ h2]
theorem lkM_o {a : St} {j k x : Nat} (h : x ≠ 19) (h2 : x ≠ 20) : ∀ i, lkM a j k i x = a x
  | 0 => rfl
  | i + 1 => (lkS_o h h2).trans (lkM_o h h2 i)
def ssM (i j k : Nat) (b : St) : St := up2 (wiM (up2 b 18 j (b 18 j ||| bitI i)) i k (up2 b 18 j (b 18 j ||| bitI i) 14 j + 1)) 4 i (wiM (up2 b 18 j (b 18 j ||| bitI i)) i k (up2 b 18 j (b 18 j ||| bitI i) 14 j + 1) 4 i + 1)
def sgM (i j k : Nat) (w : Int32) (a : St × Int32) : St × Int32 := bif !decide (a.1 15 j ≤ a.2) && !decide (¬ w >>> (nI i &&& 31) &&& 1 = 1) then (ssM i j k a.1, a.2 + 1) else a
def stM (a : St) (j k : Nat) (w : Int32) : Nat → St × Int32
  | 0 => (a, 0)
  | i + 1 => sgM i j k w (stM a j k w i)
theorem ssM_o {i j k x : Nat} {b : St} (h : x ≠ 18) (h1 : x ≠ 1) (h3 : x ≠ 3) (h4 : x ≠ 4) : ssM i j k b x = b x := by
  unfold ssM wiM
  rw [up2_out _ _ h4, up2_out _ _ h3, up2_out _ _ h1, up2_out _ _ h]
theorem stM_o {a : St} {j k x : Nat} {w : Int32} (h : x ≠ 18) (h1 : x ≠ 1) (h3 : x ≠ 3) (h4 : x ≠ 4) : ∀ i, (stM a j k w i).1 x = a x
  | 0 => rfl
  | i + 1 => by
    have ih := stM_o (a := a) (j := j) (k := k) (w := w) h h1 h3 h4 i
    show (sgM i j k w (stM a j k w i)).1 x = _
    generalize stM a j k w i = b at ih ⊢
    unfold sgM
    cases (!decide (b.1 15 j ≤ b.2) && !decide (¬ w >>> (nI i &&& 31) &&& 1 = 1))
    · exact ih
    · exact (ssM_o h h1 h3 h4).trans ih
theorem stM_stop {a : St} {j k i : Nat} {w : Int32} (h : (stM a j k w i).1 15 j ≤ (stM a j k w i).2) : ∀ n, stM a j k w (i + n) = stM a j k w i
  | 0 => rfl
  | n + 1 => by
    have ih := stM_stop h n
    show sgM (i + n) j k w (stM a j k w (i + n)) = _
    rw [ih]
    unfold sgM
    rw [decide_eq_true h]
    rfl
def okM (a : St) : Prop := (∀ g, g < 4 → inR (a 9 g) 12) ∧ (∀ j, j < 8 → inR (a 12 j) 4 ∧ inR (a 13 j) 12) ∧ ∃ jc, jc ≤ 8 ∧ a 0 12 = nI jc
theorem okM_of {a b : St} (h : okM a) (h9 : b 9 = a 9) (h12 : b 12 = a 12) (h13 : b 13 = a 13) (h0 : b 0 12 = a 0 12) : okM b := by
  refine ⟨?_, ?_, ?_⟩
  · rw [h9]; exact h.1
  · rw [h12, h13]; exact h.2.1
  · rw [h0]; exact h.2.2
def lkA (a : St) (j : Nat) : St := lkM a j (tn (a 13 j)) 8
def stA (a : St) (j : Nat) : St × Int32 := stM a j (tn (a 13 j)) (mbM a (tn (a 12 j)) (tn (a 9 (tn (a 12 j)))) 8 &&& (a 18 j ^^^ (-1))) 8
def avM (a : St) (j : Nat) : St × Int32 := bif decide (mnM (lkA a j 20 j) 12 < lkA a j 16 j) then stA (lkA a j) j else (up2 (lkA a j) 17 j 1, 0)
def wvSR (i : Nat) (a : St × Int32) : St × Int32 := bif decide (a.1 17 i = 0) then (bif decide (mnM (lkA a.1 i 20 i) 12 < lkA a.1 i 16 i) then ((stA (lkA a.1 i) i).1, a.2 + (stA (lkA a.1 i) i).2) else (up2 (lkA a.1 i) 17 i 1, a.2)) else a
theorem wvS_f {i : Nat} {a : St × Int32} (h : ¬ a.1 17 i = 0) : wvSR i a = a := by unfold wvSR; rw [decide_eq_false h]; rfl
theorem wvS_t {i : Nat} {a : St × Int32} (h : a.1 17 i = 0) (h2 : mnM (lkA a.1 i 20 i) 12 < lkA a.1 i 16 i) : wvSR i a = ((stA (lkA a.1 i) i).1, a.2 + (stA (lkA a.1 i) i).2) := by
  unfold wvSR
  rw [decide_eq_true h, decide_eq_true h2, cond_true, cond_true]
theorem wvS_u {i : Nat} {a : St × Int32} (h : a.1 17 i = 0) (h2 : ¬ mnM (lkA a.1 i 20 i) 12 < lkA a.1 i 16 i) : wvSR i a = (up2 (lkA a.1 i) 17 i 1, a.2) := by
  unfold wvSR
  rw [decide_eq_true h, decide_eq_false h2, cond_true, cond_false]
def wvM (a : St) : Nat → St × Int32
  | 0 => (a, 0)
  | i + 1 => wvSR i (wvM a i)
theorem lkA_ok {a : St} {j : Nat} (h : okM a) : okM (lkA a j) := okM_of h (lkM_o (by decide) (by decide) 8) (lkM_o (by decide) (by decide) 8) (lkM_o (by decide) (by decide) 8) (congrFun (lkM_o (by decide) (by decide) 8) 12)
theorem stA_o {a : St} {j x : Nat} (h : x ≠ 18) (h1 : x ≠ 1) (h3 : x ≠ 3) (h4 : x ≠ 4) : (stA a j).1 x = a x := by
  unfold stA
  exact stM_o h h1 h3 h4 8
theorem stA_ok {a : St} {j : Nat} (h : okM a) : okM (stA a j).1 := okM_of h (stA_o (by decide) (by decide) (by decide) (by decide)) (stA_o (by decide) (by decide) (by decide) (by decide)) (stA_o (by decide) (by decide) (by decide) (by decide)) (congrFun (stA_o (by decide) (by decide) (by decide) (by decide)) 12)
theorem wvM_ok {a : St} (h : okM a) : ∀ i, okM (wvM a i).1
  | 0 => h
  | i + 1 => by
    have ih := wvM_ok h i
    show okM (wvSR i (wvM a i)).1
    generalize wvM a i = b at ih ⊢
    unfold wvSR
    cases decide (b.1 17 i = 0)
    · exact ih
    · cases decide (mnM (lkA b.1 i 20 i) 12 < lkA b.1 i 16 i)
      · simp only [cond_true, cond_false]
        exact okM_of (lkA_ok (j := i) ih) (up2_out _ _ (by decide)) (up2_out _ _ (by decide)) (up2_out _ _ (by decide)) (congrFun (up2_out _ _ (by decide)) 12)
      · simp only [cond_true]
        exact stA_ok (lkA_ok ih)
theorem wvM_0 {a : St} : ∀ i, (wvM a i).1 0 = a 0
  | 0 => rfl
  | i + 1 => by
    have ih := wvM_0 (a := a) i
    show (wvSR i (wvM a i)).1 0 = _
    generalize wvM a i = b at ih ⊢
    unfold wvSR
    cases decide (b.1 17 i = 0)
    · exact ih
    · cases decide (mnM (lkA b.1 i 20 i) 12 < lkA b.1 i 16 i)
      · simp only [cond_true, cond_false]
        exact (up2_out (lkA b.1 i) (i := 17) (k := i) 1 (show 0 ≠ 17 by decide)).trans ((lkM_o (by decide) (by decide) 8).trans ih)
      · simp only [cond_true]
        exact (stA_o (by decide) (by decide) (by decide) (by decide)).trans ((lkM_o (by decide) (by decide) 8).trans ih)
def sgr (a : St) (g : Nat) (x y z : Int32) : St := up2 (up2 (up2 a 9 g x) 10 g y) 11 g z
def ajM (a : St) (j : Nat) (x0 x1 x2 x3 x4 : Int32) : St := up2 (up2 (up2 (up2 (up2 (up2 a 12 j x0) 13 j x1) 14 j x2) 15 j x3) 16 j x4) 17 j 0
def icM (a : St) : St := up2 a 0 12 (a 0 12 + 1)
theorem wlS_t {q i : Nat} {b : St} (h : b 8 i ≤ 0) : wlS q i b = b := by unfold wlS; rw [bt h]
theorem wlS_f {q i : Nat} {b : St} (h : ¬ b 8 i ≤ 0) : wlS q i b = wiM b q i (b 8 i - 1) := by unfold wlS; rw [bf h]


