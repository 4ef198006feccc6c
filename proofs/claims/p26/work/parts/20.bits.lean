/-! ===== bits (the family of kit/laws/BITS, under names of this claim), masks ===== -/
def bi (x : Int32) (i : Nat) : Bool := x.toBitVec.getLsbD i
theorem bi_ext {x y : Int32} (h : ∀ i, i < 32 → bi x i = bi y i) : x = y := Int32.toBitVec_inj.mp (BitVec.eq_of_getLsbD_eq (fun i hi => h i hi))
theorem bi_or (x y : Int32) (i : Nat) : bi (x ||| y) i = (bi x i || bi y i) := by unfold bi; rw [Int32.toBitVec_or, BitVec.getLsbD_or]
theorem bi_and (x y : Int32) (i : Nat) : bi (x &&& y) i = (bi x i && bi y i) := by unfold bi; rw [Int32.toBitVec_and, BitVec.getLsbD_and]
theorem bi_xor (x y : Int32) (i : Nat) : bi (x ^^^ y) i = (bi x i ^^ bi y i) := by unfold bi; rw [Int32.toBitVec_xor, BitVec.getLsbD_xor]
theorem bi_m1 : ∀ i, i < 32 → bi (-1) i = true := by decide +kernel
theorem bi_0 (i : Nat) : bi 0 i = false := BitVec.getLsbD_zero
theorem bi_1 : ∀ i, i < 32 → bi 1 i = decide (i = 0) := by decide +kernel
theorem bi_sl : ∀ n, n < 32 → ((nI n &&& 31).toBitVec.smod 32).toNat = n := by decide +kernel
theorem bi_sshr (n : Nat) (hn : n < 32) (x : Int32) {i : Nat} (hi : i < 32) : bi (x >>> (nI n &&& 31)) i = if n + i < 32 then bi x (n + i) else bi x 31 := by
  unfold bi
  rw [Int32.toBitVec_shiftRight]
  show (x.toBitVec.sshiftRight ((nI n &&& 31).toBitVec.smod 32).toNat).getLsbD i = _
  rw [bi_sl n hn, BitVec.getLsbD_sshiftRight, BitVec.msb_eq_getLsbD_last]
  simp [hi]
theorem bi_bit : ∀ k, k < 32 → ∀ i, i < 32 → bi (bitI k) i = decide (i = k) := by decide +kernel
theorem and_bit {x : Int32} {k : Nat} (hk : k < 32) : x &&& bitI k = 0 ↔ bi x k = false := by
  constructor
  · intro h
    have h1 : bi (x &&& bitI k) k = false := by rw [h]; exact bi_0 k
    rw [bi_and, bi_bit k hk k hk, decide_eq_true rfl, Bool.and_true] at h1
    exact h1
  · intro h
    apply bi_ext
    intro i hi
    rw [bi_and, bi_bit k hk i hi, bi_0]
    by_cases e : i = k
    · rw [e, h]; rfl
    · rw [decide_eq_false e, Bool.and_false]
theorem shr_1 {x : Int32} {k : Nat} (hk : k < 32) : x >>> (nI k &&& 31) &&& 1 = b2i (bi x k) := by
  apply bi_ext
  intro i hi
  rw [bi_and, bi_sshr k hk x hi, bi_1 i hi]
  by_cases e : i = 0
  · subst e
    rw [if_pos (by omega), Nat.add_zero, decide_eq_true rfl, Bool.and_true]
    cases bi x k
    · exact (bi_0 0).symm
    · exact ((bi_1 0 (by omega)).trans (decide_eq_true rfl)).symm
  · rw [decide_eq_false e, Bool.and_false]
    cases bi x k
    · exact (bi_0 i).symm
    · exact ((bi_1 i hi).trans (decide_eq_false e)).symm
theorem shr_t {x : Int32} {k : Nat} (hk : k < 32) : (x >>> (nI k &&& 31) &&& 1 = 1) ↔ ¬ (x &&& bitI k = 0) := by
  rw [shr_1 hk, and_bit hk]
  cases bi x k <;> simp [b2i]
/-- no bits from w on -/
def lim (x : Int32) (w : Nat) : Prop := ∀ i, w ≤ i → i < 32 → bi x i = false
theorem lim_0 (w : Nat) : lim 0 w := fun i _ _ => bi_0 i
theorem lim_mono {x : Int32} {w v : Nat} (h : lim x w) (hv : w ≤ v) : lim x v := fun i h1 h2 => h i (by omega) h2
theorem lim_or {x : Int32} {k w : Nat} (hk : k < w) (h : lim x w) : lim (x ||| bitI k) w := by
  intro i h1 h2
  rw [bi_or, h i h1 h2, bi_bit k (by omega) i h2, decide_eq_false (by omega)]
  rfl
theorem lim_and {x y : Int32} {w : Nat} (h : lim x w) : lim (x &&& y) w := by
  intro i h1 h2
  rw [bi_and, h i h1 h2]
  rfl
theorem lim_n {x : Int32} (h : lim x 12) : ∃ n, n < 4096 ∧ x = nI n := by
  have e : x &&& 4095 = x := by
    apply bi_ext
    intro i hi
    rw [bi_and]
    rcases Nat.lt_or_ge i 12 with h1 | h1
    · rw [(by decide +kernel : ∀ i, i < 12 → bi 4095 i = true) i h1, Bool.and_true]
    · rw [h i h1 hi]; rfl
  have h2 := pk_and x (m := 4095) 12 (by decide)
  rw [e] at h2
  exact ⟨_, Nat.mod_lt _ (by decide), h2⟩
theorem cnt_all : ∀ a : Fin 64, ∀ b : Fin 64, bcI (nI (64 * a.val + b.val)) = mnM (nI (64 * a.val + b.val)) 12 := by decide +kernel
theorem cnt {x : Int32} (h : lim x 12) : mnM x 12 = bcI x := by
  obtain ⟨n, hn, rfl⟩ := lim_n h
  have h1 := cnt_all ⟨n / 64, by omega⟩ ⟨n % 64, by omega⟩
  have h2 : 64 * (n / 64) + n % 64 = n := by omega
  dsimp only at h1
  rw [h2] at h1
  exact h1.symm
/-- the mask of a set of places -/
def mskS (p : Nat → Bool) (i : Nat) (x : Int32) : Int32 := x ||| (bif p i then bitI i else 0)
def mskF (p : Nat → Bool) : Nat → Int32
  | 0 => 0
  | i + 1 => mskS p i (mskF p i)
theorem mskS_bi {p : Nat → Bool} {k : Nat} {x : Int32} (hk : k < 32) {i : Nat} (hi : i < 32) : bi (mskS p k x) i = (bi x i || (decide (i = k) && p k)) := by
  unfold mskS
  rw [bi_or]
  cases p k
  · simp [bi_0]
  · rw [cond_true, bi_bit k hk i hi, Bool.and_true]
theorem mskF_bi {p : Nat → Bool} : ∀ n, n ≤ 32 → ∀ i, i < 32 → bi (mskF p n) i = (decide (i < n) && p i)
  | 0, _, i, _ => by rw [show mskF p 0 = 0 from rfl, bi_0]; simp
  | n + 1, hn, i, hi => by
    rw [show mskF p (n + 1) = mskS p n (mskF p n) from rfl, mskS_bi (by omega) hi, mskF_bi n (by omega) i hi]
    by_cases e : i = n
    · subst e
      simp
    · have e2 : decide (i < n + 1) = decide (i < n) := by
        by_cases h : i < n
        · rw [decide_eq_true h, decide_eq_true (by omega)]
        · rw [decide_eq_false h, decide_eq_false (by omega)]
      rw [decide_eq_false e, e2, Bool.false_and, Bool.or_false]
theorem mskF_cong {p p2 : Nat → Bool} : ∀ n, (∀ i, i < n → p i = p2 i) → mskF p n = mskF p2 n
  | 0, _ => rfl
  | n + 1, h => by
    show mskS p n (mskF p n) = mskS p2 n (mskF p2 n)
    rw [mskF_cong n (fun i hi => h i (by omega))]
    unfold mskS
    rw [h n (by omega)]
theorem mskF_lim (p : Nat → Bool) {n w : Nat} (hw : n ≤ w) (hn : n ≤ 32) : lim (mskF p n) w := by
  intro i h1 h2
  rw [mskF_bi n hn i h2, decide_eq_false (by omega)]
  rfl
theorem mskF_set {p p2 : Nat → Bool} {n k : Nat} (hn : n ≤ 32) (hk : k < n) (h : ∀ i, i < n → i ≠ k → p2 i = p i) : mskF p2 n = bif p2 k then mskF p n ||| bitI k else mskF p n &&& (bitI k ^^^ (-1)) := by
  apply bi_ext
  intro i hi
  rw [mskF_bi n hn i hi]
  cases hp : p2 k
  · rw [cond_false, bi_and, bi_xor, bi_m1 i hi, mskF_bi n hn i hi, bi_bit k (by omega) i hi]
    by_cases e : i = k
    · subst e
      simp [hp]
    · by_cases h2 : i < n
      · simp [e, h2, h i h2 e]
      · simp [h2]
  · rw [cond_true, bi_or, mskF_bi n hn i hi, bi_bit k (by omega) i hi]
    by_cases e : i = k
    · subst e
      simp [hp, hk]
    · by_cases h2 : i < n
      · simp [e, h2, h i h2 e]
      · simp [h2, e]
theorem mskF_test {p : Nat → Bool} {n k : Nat} (hn : n ≤ 32) (hk : k < n) : (!decide (mskF p n &&& bitI k = 0)) = p k := by
  have h1 := and_bit (x := mskF p n) (k := k) (by omega)
  rw [mskF_bi n hn k (by omega), decide_eq_true hk, Bool.true_and] at h1
  cases hp : p k
  · rw [decide_eq_true (h1.mpr hp)]; rfl
  · rw [decide_eq_false (fun z => Bool.false_ne_true ((h1.mp z).symm.trans hp))]; rfl
