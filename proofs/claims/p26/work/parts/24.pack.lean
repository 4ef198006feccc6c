/-! ===== a leaf as one number ===== -/
theorem bi_n {n : Nat} (h : n < 2 ^ 32) (i : Nat) : bi (nI n) i = n.testBit i := by
  show (nI n).toBitVec.toNat.testBit i = n.testBit i
  rw [pk_tn h]
theorem tb_hi {a i : Nat} (h : a < 128) (hi : 7 ≤ i) : a.testBit i = false :=
  Nat.testBit_lt_two_pow (Nat.lt_of_lt_of_le h (show 2 ^ 7 ≤ 2 ^ i from Nat.pow_le_pow_right (by decide) hi))
theorem tb3 {a b c : Nat} (ha : a < 128) (hb : b < 128) (i : Nat) : (a + 128 * b + 16384 * c).testBit i = if i < 7 then a.testBit i else if i < 14 then b.testBit (i - 7) else c.testBit (i - 14) := by
  have e : a + 128 * b + 16384 * c = 2 ^ 7 * (2 ^ 7 * c + b) + a := by omega
  rw [e, Nat.testBit_two_pow_mul_add _ (show a < 2 ^ 7 from ha)]
  by_cases h : i < 7
  · rw [if_pos h, if_pos h]
  · rw [if_neg h, if_neg h, Nat.testBit_two_pow_mul_add _ (show b < 2 ^ 7 from hb)]
    by_cases h2 : i < 14
    · rw [if_pos h2, if_pos (by omega)]
    · rw [if_neg h2, if_neg (by omega), show i - 7 - 7 = i - 14 by omega]
theorem mk_16256 : ∀ i, i < 32 → bi 16256 i = (decide (7 ≤ i) && decide (i < 14)) := by decide +kernel
theorem mk_16257 : ∀ i, i < 32 → bi (-16257) i = !(decide (7 ≤ i) && decide (i < 14)) := by decide +kernel
theorem pk_wish {a a2 b c : Nat} (ha : a < 128) (ha2 : a2 < 128) (hb : b < 128) (hc : c < 10) : nI (a + 128 * b + 16384 * c) &&& 16256 ||| nI a2 = nI (a2 + 128 * b + 16384 * 0) := by
  apply bi_ext
  intro i hi
  rw [bi_or, bi_and, bi_n (by omega), bi_n (by omega), bi_n (by omega), mk_16256 i hi, tb3 ha hb, tb3 ha2 hb]
  by_cases h1 : i < 7
  · rw [if_pos h1, if_pos h1, decide_eq_false (show ¬ 7 ≤ i by omega)]
    simp
  · rw [if_neg h1, if_neg h1, tb_hi ha2 (by omega), decide_eq_true (show 7 ≤ i by omega)]
    by_cases h2 : i < 14
    · rw [if_pos h2, if_pos h2, decide_eq_true h2]
      simp
    · rw [if_neg h2, if_neg h2, decide_eq_false h2]
      simp
theorem pk_rep {a b b2 c : Nat} (ha : a < 128) (hb : b < 128) (hb2 : b2 < 128) (hc : c < 10) : nI (a + 128 * b + 16384 * c) &&& (-16257) ||| nI b2 <<< ((7 : Int32) &&& 31) = nI (a + 128 * b2 + 16384 * c) := by
  rw [pk_shlN ((7 : Int32) &&& 31) 7 (by decide) (by omega), show b2 * 2 ^ 7 = 0 + 128 * b2 + 16384 * 0 by omega]
  apply bi_ext
  intro i hi
  rw [bi_or, bi_and, bi_n (by omega), bi_n (by omega), bi_n (by omega), mk_16257 i hi, tb3 ha hb, tb3 (by omega) hb2, tb3 ha hb2]
  by_cases h1 : i < 7
  · rw [if_pos h1, if_pos h1, if_pos h1, decide_eq_false (show ¬ 7 ≤ i by omega)]
    simp
  · rw [if_neg h1, if_neg h1, if_neg h1, decide_eq_true (show 7 ≤ i by omega)]
    by_cases h2 : i < 14
    · rw [if_pos h2, if_pos h2, if_pos h2, decide_eq_true h2]
      simp
    · rw [if_neg h2, if_neg h2, if_neg h2, decide_eq_false h2]
      simp
/-- a leaf of a device: what is wished, what is reported, why it was refused, and the law's one number for all -/
def LfR (w r s x : Int32) : Prop := ∃ a b c : Nat, a < 101 ∧ b < 101 ∧ c < 10 ∧ w + 1 = nI a ∧ r + 1 = nI b ∧ s = nI c ∧ x = nI (a + 128 * b + 16384 * c)
theorem of_inc {w : Int32} {a : Nat} (h : w + 1 = nI a) : nI a - 1 = w := by rw [← h, inc_dec]
theorem vR_of {v : Int32} (h : vR v) : ∃ a : Nat, a < 101 ∧ v + 1 = nI a := by
  rcases h with rfl | ⟨n, hn, rfl⟩
  · exact ⟨0, by decide, by decide⟩
  · exact ⟨n + 1, by omega, nI_1 n⟩
theorem vR_to {v : Int32} {a : Nat} (ha : a < 101) (h : v + 1 = nI a) : vR v := by
  cases a with
  | zero =>
    left
    have := of_inc h
    rw [← this]
    decide
  | succ n =>
    right
    refine ⟨n, by omega, ?_⟩
    rw [← of_inc h, nI_pred]
theorem LfR_w {w r s x : Int32} (h : LfR w r s x) : wO x = w := by
  obtain ⟨a, b, c, ha, hb, hc, e1, e2, e3, rfl⟩ := h
  unfold wO
  rw [pk_andN (by omega) 7 (by decide), show (a + 128 * b + 16384 * c) % 2 ^ 7 = a by omega]
  exact of_inc e1
theorem LfR_r {w r s x : Int32} (h : LfR w r s x) : rO x = r := by
  obtain ⟨a, b, c, ha, hb, hc, e1, e2, e3, rfl⟩ := h
  unfold rO
  rw [pk_shrN (by omega) _ 7 (by decide), pk_andN (by omega) 7 (by decide), show (a + 128 * b + 16384 * c) / 2 ^ 7 % 2 ^ 7 = b by omega]
  exact of_inc e2
theorem LfR_s {w r s x : Int32} (h : LfR w r s x) : x >>> ((14 : Int32) &&& 31) = s := by
  obtain ⟨a, b, c, ha, hb, hc, e1, e2, e3, rfl⟩ := h
  rw [pk_shrN (by omega) _ 14 (by decide), show (a + 128 * b + 16384 * c) / 2 ^ 14 = c by omega, e3]
theorem LfR_ref {w r s x : Int32} (h : LfR w r s x) : x < 16384 ↔ s = 0 := by
  obtain ⟨a, b, c, ha, hb, hc, e1, e2, e3, rfl⟩ := h
  rw [e3, show (16384 : Int32) = nI 16384 from rfl, nI_ltI (by omega) (by omega), show (0 : Int32) = nI 0 from rfl, nI_eq (by omega) (by omega)]
  omega
theorem LfR_nref {w r s x : Int32} (h : LfR w r s x) : 16384 ≤ x ↔ ¬ s = 0 := by
  obtain ⟨a, b, c, ha, hb, hc, e1, e2, e3, rfl⟩ := h
  rw [e3, show (16384 : Int32) = nI 16384 from rfl, nI_leI (by omega) (by omega), show (0 : Int32) = nI 0 from rfl, nI_eq (by omega) (by omega)]
  omega
theorem LfR_neg {w r s x : Int32} (h : LfR w r s x) : wO x < 0 ↔ w = -1 := by
  rw [LfR_w h]
  obtain ⟨a, b, c, ha, hb, hc, e1, e2, e3, rfl⟩ := h
  rcases vR_to ha e1 with rfl | ⟨n, hn, rfl⟩
  · exact ⟨fun _ => rfl, fun _ => by decide⟩
  · exact ⟨fun z => absurd z (nI_pos (by omega)), fun z => absurd (show nI n < 0 by rw [z]; decide) (nI_pos (by omega))⟩
theorem LfR_wish {w r s x v : Int32} (hv : vR v) (h : LfR w r s x) : LfR v r 0 (x &&& 16256 ||| (v + 1)) := by
  obtain ⟨a, b, c, ha, hb, hc, e1, e2, e3, rfl⟩ := h
  obtain ⟨a2, h2, e4⟩ := vR_of hv
  refine ⟨a2, b, 0, h2, hb, by decide, e4, e2, rfl, ?_⟩
  rw [e4, pk_wish (by omega) (by omega) (by omega) hc]
theorem LfR_rep {w r s x v : Int32} (hv : vR v) (h : LfR w r s x) : LfR w v s (x &&& (-16257) ||| (v + 1) <<< ((7 : Int32) &&& 31)) := by
  obtain ⟨a, b, c, ha, hb, hc, e1, e2, e3, rfl⟩ := h
  obtain ⟨b2, h2, e4⟩ := vR_of hv
  refine ⟨a, b2, c, ha, h2, hc, e1, e4, e3, ?_⟩
  rw [e4, pk_rep (by omega) (by omega) (by omega) hc]
theorem LfR_oby {w r x : Int32} (h : LfR w r 0 x) : LfR w w 0 ((x &&& 127) * 129) := by
  obtain ⟨a, b, c, ha, hb, hc, e1, e2, e3, rfl⟩ := h
  refine ⟨a, a, 0, ha, ha, by decide, e1, e1, rfl, ?_⟩
  rw [pk_andN (by omega) 7 (by decide), show (a + 128 * b + 16384 * c) % 2 ^ 7 = a by omega, show (129 : Int32) = nI 129 from rfl, pk_mul]
  congr 1
  omega
theorem LfR_fuse {w r x : Int32} {n : Nat} (hn : n < 10) (h : LfR w r 0 x) : LfR w r (nI n) (x + 16384 * nI n) := by
  obtain ⟨a, b, c, ha, hb, hc, e1, e2, e3, rfl⟩ := h
  have hc0 : c = 0 := ((nI_eq (by omega) (by omega)).mp (show nI 0 = nI c from e3)).symm
  refine ⟨a, b, n, ha, hb, hn, e1, e2, rfl, ?_⟩
  rw [show (16384 : Int32) = nI 16384 from rfl, pk_mul, nI_add]
  congr 1
  omega
theorem LfR_0 : LfR (-1) (-1) 0 0 := ⟨0, 0, 0, by decide, by decide, by decide, by decide, by decide, rfl, rfl⟩
theorem difL_eq {w r s x : Int32} (h : LfR w r s x) : difL x = (!decide (w = -1) && (!decide (r = w) && decide (s = 0))) := by
  have e2 : decide (16384 ≤ x) = !decide (s = 0) := by
    by_cases z : s = 0
    · rw [decide_eq_true z, decide_eq_false (fun y => (LfR_nref h).mp y z)]
      rfl
    · rw [decide_eq_false z, decide_eq_true ((LfR_nref h).mpr z)]
      rfl
  have e3 : decide (wO x < 0) = decide (w = -1) := decide_eq_decide.mpr (LfR_neg h)
  have e4 : decide (w = r) = decide (r = w) := decide_eq_decide.mpr eq_comm
  unfold difL
  rw [e3, e2, LfR_w h, LfR_r h, e4, Bool.not_not, Bool.and_comm (decide (s = 0))]
/-! ===== two bits for each device of a job ===== -/
theorem mk_3 : ∀ i, i < 32 → bi 3 i = decide (i < 2) := by decide +kernel
theorem bi_shl (n : Nat) (hn : n < 32) (x : Int32) {i : Nat} (hi : i < 32) : bi (x <<< (nI n &&& 31)) i = (decide (n ≤ i) && bi x (i - n)) := by
  unfold bi
  rw [Int32.toBitVec_shiftLeft]
  show (x.toBitVec <<< ((nI n &&& 31).toBitVec.smod 32)).getLsbD i = _
  rw [BitVec.shiftLeft_eq', bi_sl n hn, BitVec.getLsbD_shiftLeft]
  by_cases h : i < n
  · simp [hi, h, show ¬ n ≤ i by omega]
  · simp [hi, h, show n ≤ i by omega]
def cd (l h : Bool) : Int32 := bif h then (bif l then 3 else 2) else (bif l then 1 else 0)
theorem cd_bi : ∀ l h : Bool, ∀ i, i < 32 → bi (cd l h) i = (decide (i = 0) && l || decide (i = 1) && h) := by decide +kernel
theorem atL_eq {e : Int32} {x : Nat} (hx : x < 5) : atL e x = cd (bi e (2 * x)) (bi e (2 * x + 1)) := by
  apply bi_ext
  intro i hi
  unfold atL
  rw [bi_and, bi_sshr (2 * x) (by omega) e hi, mk_3 i hi, cd_bi _ _ i hi]
  by_cases h0 : i = 0
  · subst h0
    rw [if_pos (by omega)]
    simp
  · by_cases h1 : i = 1
    · subst h1
      rw [if_pos (by omega)]
      simp
    · rw [decide_eq_false (show ¬ i < 2 by omega), decide_eq_false h0, decide_eq_false h1]
      simp
theorem setE_bi {e : Int32} {x : Nat} (hx : x < 5) (l h : Bool) {i : Nat} (hi : i < 32) : bi (setE e x (cd l h)) i = if i = 2 * x then l else if i = 2 * x + 1 then h else bi e i := by
  unfold setE
  rw [bi_or, bi_and, bi_xor, bi_m1 i hi, bi_shl _ (by omega) _ hi, bi_shl _ (by omega) _ hi, mk_3 _ (by omega), cd_bi _ _ _ (by omega)]
  by_cases h0 : i = 2 * x
  · subst h0
    simp
  · by_cases h1 : i = 2 * x + 1
    · subst h1
      simp [show 2 * x + 1 - 2 * x = 1 by omega]
    · rw [if_neg h0, if_neg h1]
      by_cases h2 : 2 * x ≤ i
      · simp [h2, show ¬ i - 2 * x = 0 by omega, show ¬ i - 2 * x = 1 by omega, show ¬ i - 2 * x < 2 by omega]
      · simp [h2]
theorem setE_same {e : Int32} {x : Nat} (hx : x < 5) : setE e x (atL e x) = e := by
  apply bi_ext
  intro i hi
  rw [atL_eq hx, setE_bi hx _ _ hi]
  by_cases h0 : i = 2 * x
  · rw [if_pos h0, h0]
  · by_cases h1 : i = 2 * x + 1
    · rw [if_neg h0, if_pos h1, h1]
    · rw [if_neg h0, if_neg h1]
theorem orE_bi {e : Int32} {x : Nat} (hx : x < 5) {i : Nat} (hi : i < 32) : bi (e ||| (1 : Int32) <<< (nI (2 * x) &&& 31)) i = (decide (i = 2 * x) || bi e i) := by
  rw [bi_or, bi_shl _ (by omega) _ hi, bi_1 _ (by omega)]
  by_cases h0 : i = 2 * x
  · subst h0
    simp
  · by_cases h2 : 2 * x ≤ i
    · simp [h2, h0, show ¬ i - 2 * x = 0 by omega]
    · simp [h2, h0]
/-- started, done, failed, and the law's number for all three -/
def ER (S Dn Fl E : Int32) : Prop := (lim S 5 ∧ lim Dn 5 ∧ lim Fl 5) ∧ ∀ x, x < 5 → bi E (2 * x) = (bi S x && !bi Dn x) ∧ bi E (2 * x + 1) = (bi Dn x || bi Fl x) ∧ (bi Dn x = true → bi S x = true) ∧ (bi Fl x = true → bi S x = true) ∧ (bi Dn x && bi Fl x) = false
theorem ER_at {S Dn Fl E : Int32} (h : ER S Dn Fl E) {x : Nat} (hx : x < 5) : atL E x = cd (bi S x && !bi Dn x) (bi Dn x || bi Fl x) := by
  rw [atL_eq hx, (h.2 x hx).1, (h.2 x hx).2.1]
theorem ER_0 : ER 0 0 0 0 := ⟨⟨lim_0 5, lim_0 5, lim_0 5⟩, fun x _ => by simp [bi_0]⟩
theorem bitx {k i : Nat} (hk : k < 5) (hi : i < 5) : bi (bitI k) i = decide (i = k) := bi_bit k (by omega) i (by omega)
theorem ER_start {S Dn Fl E : Int32} (h : ER S Dn Fl E) {x : Nat} (hx : x < 5) (hs : bi S x = false) : ER (S ||| bitI x) Dn Fl (E ||| (1 : Int32) <<< (nI (2 * x) &&& 31)) := by
  refine ⟨⟨lim_or hx h.1.1, h.1.2⟩, fun y hy => ?_⟩
  obtain ⟨g1, g2, g3, g4, g5⟩ := h.2 y hy
  rw [orE_bi hx (by omega), orE_bi hx (by omega), bi_or, bitx hx hy, g1, g2]
  by_cases e : y = x
  · subst e
    rw [hs] at g3 g4 ⊢
    cases hd : bi Dn y
    · cases hf : bi Fl y
      · simp
      · exact absurd (g4 hf) (by decide)
    · exact absurd (g3 hd) (by decide)
  · rw [decide_eq_false e, decide_eq_false (show ¬ 2 * y = 2 * x by omega), decide_eq_false (show ¬ 2 * y + 1 = 2 * x by omega)]
    simp only [Bool.or_false, Bool.false_or]
    exact ⟨trivial, trivial, g3, g4, g5⟩
theorem ER_done {S Dn Fl E : Int32} (h : ER S Dn Fl E) {x : Nat} (hx : x < 5) (hs : bi S x = true) (hf : bi Fl x = false) : ER S (Dn ||| bitI x) Fl (setE E x 2) := by
  refine ⟨⟨h.1.1, lim_or hx h.1.2.1, h.1.2.2⟩, fun y hy => ?_⟩
  obtain ⟨g1, g2, g3, g4, g5⟩ := h.2 y hy
  rw [show (2 : Int32) = cd false true from rfl, setE_bi hx _ _ (by omega), setE_bi hx _ _ (by omega), bi_or, bitx hx hy, g1, g2]
  by_cases e : y = x
  · subst e
    rw [hs, hf]
    simp
  · rw [if_neg (by omega), if_neg (by omega), if_neg (by omega), if_neg (by omega), decide_eq_false e]
    simp only [Bool.or_false]
    exact ⟨trivial, trivial, g3, g4, g5⟩
theorem ER_fail {S Dn Fl E : Int32} (h : ER S Dn Fl E) {x : Nat} (hx : x < 5) (hs : bi S x = true) (hd : bi Dn x = false) : ER S Dn (Fl ||| bitI x) (setE E x 3) := by
  refine ⟨⟨h.1.1, h.1.2.1, lim_or hx h.1.2.2⟩, fun y hy => ?_⟩
  obtain ⟨g1, g2, g3, g4, g5⟩ := h.2 y hy
  rw [show (3 : Int32) = cd true true from rfl, setE_bi hx _ _ (by omega), setE_bi hx _ _ (by omega), bi_or, bitx hx hy, g1, g2]
  by_cases e : y = x
  · subst e
    rw [hs, hd]
    simp
  · rw [if_neg (by omega), if_neg (by omega), if_neg (by omega), if_neg (by omega), decide_eq_false e]
    simp only [Bool.or_false]
    exact ⟨trivial, trivial, g3, g4, g5⟩
