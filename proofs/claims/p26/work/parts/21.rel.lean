/-! ===== the class's memory beside the reference's ===== -/
def vR (v : Int32) : Prop := v = -1 ∨ ∃ n : Nat, n < 100 ∧ v = nI n
def rR (v : Int32) : Prop := ∃ n : Nat, n < 10 ∧ v = nI n
theorem vR_inc {v : Int32} (h : vR v) : (v + 1 ≤ 0) ↔ v = -1 := by
  rcases h with rfl | ⟨n, hn, rfl⟩
  · exact ⟨fun _ => rfl, fun _ => by decide⟩
  · rw [nI_1]
    constructor
    · intro z
      exact absurd z (nI_nle (by omega) (by omega))
    · intro z
      exact absurd (show nI n < 0 by rw [z]; decide) (nI_pos (by omega))
theorem inc_inj {a b : Int32} : a + 1 = b + 1 ↔ a = b := by
  constructor
  · intro h
    have h2 : a + 1 - 1 = b + 1 - 1 := by rw [h]
    rwa [Int32.add_sub_cancel, Int32.add_sub_cancel] at h2
  · rintro rfl
    rfl
theorem inc_dec (a : Int32) : a + 1 - 1 = a := Int32.add_sub_cancel a 1
theorem rR_0 {v : Int32} (h : rR v) : v ≤ 0 ↔ v = 0 := by
  obtain ⟨n, hn, rfl⟩ := h
  constructor
  · intro z
    rcases Nat.eq_zero_or_pos n with e | e
    · subst e; rfl
    · exact absurd z (nI_nle e (by omega))
  · intro z
    rw [z]
    decide
def DevA (st mt : St) (q : Nat) : Prop :=
  (∀ k, k < 12 → mt 1 (12 * q + k) = st (4 + 4 * q + 1) k + 1 ∧ mt 2 (12 * q + k) = st (4 + 4 * q + 2) k + 1 ∧ mt 3 (12 * q + k) = st (4 + 4 * q + 3) k ∧ vR (st (4 + 4 * q + 1) k) ∧ vR (st (4 + 4 * q + 2) k) ∧ rR (st (4 + 4 * q + 3) k)) ∧
  (mt 4 q = st (4 + 4 * q) 4 ∧ mt 5 q = st (4 + 4 * q) 5 ∧ mt 7 q = st (4 + 4 * q) 6 ∧ mt 6 q = st (4 + 4 * q) 7 ∧ (st (4 + 4 * q) 7 = 0 ∨ st (4 + 4 * q) 7 = 1))
def DevR (st mt : St) (q : Nat) : Prop := DevA st mt q ∧ st (4 + 4 * q) 3 = mskF (unl st q) 12
def RelD (st mt : St) : Prop := ∀ q, q < 8 → DevR st mt q
def RelF (st mt : St) : Prop := (∀ k, k < 12 → mt 8 k = (bif hasF st k then st 2 k + 2 else 0) ∧ (hasF st k = true → vR (st 2 k))) ∧ lim (st 1 1) 12
def RelG (st mt : St) : Prop := ∀ g, g < 4 → mt 9 g = st (37 + g) 0 ∧ mt 10 g = st (37 + g) 1 ∧ mt 11 g = st (37 + g) 2 ∧ inR (st (37 + g) 0) 12
def JobR (st mt : St) (j : Nat) : Prop := (mt 12 j = st (42 + j) 0 ∧ mt 13 j = st (42 + j) 1 ∧ mt 14 j = st (42 + j) 2 ∧ mt 15 j = st (42 + j) 3 ∧ mt 16 j = st (42 + j) 4 ∧ mt 17 j = st (42 + j) 5 ∧ mt 18 j = st (42 + j) 6 ∧ mt 19 j = st (42 + j) 7 ∧ mt 20 j = st (42 + j) 8) ∧ (inR (st (42 + j) 0) 4 ∧ inR (st (42 + j) 1) 12 ∧ vR (st (42 + j) 2)) ∧ (lim (st (42 + j) 6) 8 ∧ lim (st (42 + j) 7) 8 ∧ lim (st (42 + j) 8) 8)
def RelJ (st mt : St) : Prop := (∀ j, j < 8 → JobR st mt j) ∧ ∃ jc : Nat, jc ≤ 8 ∧ st 0 4 = nI jc ∧ mt 0 12 = nI jc ∧ ∀ j, jc ≤ j → j < 8 → st (42 + j) 5 = 0
def Rel (st mt : St) : Prop := RelD st mt ∧ RelF st mt ∧ RelG st mt ∧ RelJ st mt
/-! the parts see their own cells alone -/
theorem DevA_cong {st mt st2 mt2 : St} {q : Nat} (h : DevA st mt q) (h0 : ∀ i, 3 < i → i < 8 → st2 (4 + 4 * q) i = st (4 + 4 * q) i) (h1 : st2 (4 + 4 * q + 1) = st (4 + 4 * q + 1)) (h2 : st2 (4 + 4 * q + 2) = st (4 + 4 * q + 2)) (h3 : st2 (4 + 4 * q + 3) = st (4 + 4 * q + 3))
    (m1 : ∀ k, k < 12 → mt2 1 (12 * q + k) = mt 1 (12 * q + k)) (m2 : ∀ k, k < 12 → mt2 2 (12 * q + k) = mt 2 (12 * q + k)) (m3 : ∀ k, k < 12 → mt2 3 (12 * q + k) = mt 3 (12 * q + k)) (m4 : ∀ a, 3 < a → a < 8 → mt2 a q = mt a q) : DevA st2 mt2 q := by
  refine ⟨fun k hk => ?_, ?_⟩
  · rw [h1, h2, h3, m1 k hk, m2 k hk, m3 k hk]
    exact h.1 k hk
  · rw [h0 4 (by omega) (by omega), h0 5 (by omega) (by omega), h0 6 (by omega) (by omega), h0 7 (by omega) (by omega), m4 4 (by omega) (by omega), m4 5 (by omega) (by omega), m4 6 (by omega) (by omega), m4 7 (by omega) (by omega)]
    exact h.2
theorem unl_cong {st st2 : St} {q : Nat} (h1 : st2 (4 + 4 * q + 1) = st (4 + 4 * q + 1)) (h2 : st2 (4 + 4 * q + 2) = st (4 + 4 * q + 2)) (h3 : st2 (4 + 4 * q + 3) = st (4 + 4 * q + 3)) (k : Nat) : unl st2 q k = unl st q k := by
  unfold unl
  rw [h1, h2, h3]
theorem DevR_cong {st mt st2 mt2 : St} {q : Nat} (h : DevR st mt q) (h0 : ∀ i, 2 < i → i < 8 → st2 (4 + 4 * q) i = st (4 + 4 * q) i) (h1 : st2 (4 + 4 * q + 1) = st (4 + 4 * q + 1)) (h2 : st2 (4 + 4 * q + 2) = st (4 + 4 * q + 2)) (h3 : st2 (4 + 4 * q + 3) = st (4 + 4 * q + 3))
    (m1 : ∀ k, k < 12 → mt2 1 (12 * q + k) = mt 1 (12 * q + k)) (m2 : ∀ k, k < 12 → mt2 2 (12 * q + k) = mt 2 (12 * q + k)) (m3 : ∀ k, k < 12 → mt2 3 (12 * q + k) = mt 3 (12 * q + k)) (m4 : ∀ a, 3 < a → a < 8 → mt2 a q = mt a q) : DevR st2 mt2 q := by
  refine ⟨DevA_cong h.1 (fun i a b => h0 i (by omega) b) h1 h2 h3 m1 m2 m3 m4, ?_⟩
  rw [h0 3 (by omega) (by omega), h.2]
  exact mskF_cong 12 (fun k _ => (unl_cong h1 h2 h3 k).symm)
theorem RelD_cong {st mt st2 mt2 : St} (h : RelD st mt) (hs : ∀ i, 3 < i → i < 36 → st2 i = st i) (hm : ∀ a, 0 < a → a < 8 → mt2 a = mt a) : RelD st2 mt2 := by
  intro q hq
  exact DevR_cong (h q hq) (fun i _ _ => by rw [hs _ (by omega) (by omega)]) (hs _ (by omega) (by omega)) (hs _ (by omega) (by omega)) (hs _ (by omega) (by omega)) (fun k _ => by rw [hm 1 (by omega) (by omega)]) (fun k _ => by rw [hm 2 (by omega) (by omega)]) (fun k _ => by rw [hm 3 (by omega) (by omega)]) (fun a h1 h2 => by rw [hm a (by omega) h2])
theorem RelF_cong {st mt st2 mt2 : St} (h : RelF st mt) (h1 : st2 1 = st 1) (h2 : st2 2 = st 2) (hm : mt2 8 = mt 8) : RelF st2 mt2 := by
  have e : ∀ k, hasF st2 k = hasF st k := fun k => by unfold hasF; rw [h1]
  refine ⟨fun k hk => ?_, by rw [h1]; exact h.2⟩
  rw [e, h2, hm]
  exact h.1 k hk
theorem RelG_cong {st mt st2 mt2 : St} (h : RelG st mt) (hs : ∀ i, 36 < i → i < 41 → st2 i = st i) (hm : ∀ a, 8 < a → a < 12 → mt2 a = mt a) : RelG st2 mt2 := by
  intro g hg
  rw [hs _ (by omega) (by omega), hm 9 (by omega) (by omega), hm 10 (by omega) (by omega), hm 11 (by omega) (by omega)]
  exact h g hg
theorem JobR_cong {st mt st2 mt2 : St} {j : Nat} (h : JobR st mt j) (hs : ∀ i, i < 9 → st2 (42 + j) i = st (42 + j) i) (hm : ∀ a, 11 < a → a < 21 → mt2 a j = mt a j) : JobR st2 mt2 j := by
  unfold JobR
  rw [hs 0 (by omega), hs 1 (by omega), hs 2 (by omega), hs 3 (by omega), hs 4 (by omega), hs 5 (by omega), hs 6 (by omega), hs 7 (by omega), hs 8 (by omega), hm 12 (by omega) (by omega), hm 13 (by omega) (by omega), hm 14 (by omega) (by omega), hm 15 (by omega) (by omega), hm 16 (by omega) (by omega), hm 17 (by omega) (by omega), hm 18 (by omega) (by omega), hm 19 (by omega) (by omega), hm 20 (by omega) (by omega)]
  exact h
theorem RelJ_cong {st mt st2 mt2 : St} (h : RelJ st mt) (hs : ∀ i, 41 < i → i < 50 → st2 i = st i) (hm : ∀ a, 11 < a → a < 21 → mt2 a = mt a) (h0 : st2 0 4 = st 0 4) (m0 : mt2 0 12 = mt 0 12) : RelJ st2 mt2 := by
  refine ⟨fun j hj => JobR_cong (h.1 j hj) (fun i _ => by rw [hs _ (by omega) (by omega)]) (fun a h1 h2 => by rw [hm a h1 h2]), ?_⟩
  obtain ⟨jc, h1, h2, h3, h4⟩ := h.2
  exact ⟨jc, h1, by rw [h0]; exact h2, by rw [m0]; exact h3, fun j h5 h6 => by rw [hs _ (by omega) (by omega)]; exact h4 j h5 h6⟩
theorem thr_out {a : St} {c : Int32} {x : Nat} (h : x ≠ 0) : thr a c x = a x := up2_out a c h
theorem thr_12 (a : St) (c : Int32) : thr a c 0 12 = a 0 12 := by simp [thr, up2_at]
theorem thr_0 (a : St) (c : Int32) : thr a c 0 0 = c := by simp [thr, up2_at]
theorem Rel_thr {st mt : St} {c : Int32} (h : Rel st mt) : Rel st (thr mt c) :=
  ⟨RelD_cong h.1 (fun _ _ _ => rfl) (fun a h1 _ => thr_out (by omega)), RelF_cong h.2.1 rfl rfl (thr_out (by omega)), RelG_cong h.2.2.1 (fun _ _ _ => rfl) (fun a h1 _ => thr_out (by omega)), RelJ_cong h.2.2.2 (fun _ _ _ => rfl) (fun a h1 _ => thr_out (by omega)) rfl (thr_12 mt c)⟩
theorem Rel_okS {st mt : St} (h : Rel st mt) : okS st := by
  obtain ⟨jc, h1, h2, -⟩ := h.2.2.2.2
  exact ⟨fun g hg => (h.2.2.1 g hg).2.2.2, fun j hj => ⟨(h.2.2.2.1 j hj).2.1.1, (h.2.2.2.1 j hj).2.1.2.1⟩, jc, h1, h2⟩
theorem Rel_okM {st mt : St} (h : Rel st mt) : okM mt := by
  obtain ⟨jc, h1, -, h2, -⟩ := h.2.2.2.2
  refine ⟨fun g hg => ?_, fun j hj => ?_, jc, h1, h2⟩
  · rw [(h.2.2.1 g hg).1]
    exact (h.2.2.1 g hg).2.2.2
  · have h3 := h.2.2.2.1 j hj
    rw [h3.1.1, h3.1.2.1]
    exact ⟨h3.2.1.1, h3.2.1.2.1⟩
/-! ===== one leaf of one device changes ===== -/
theorem keepD_in {st : St} {q k i : Nat} (h : i ≠ 3) : keepD st q k (4 + 4 * q) i = st (4 + 4 * q) i := by
  unfold keepD
  rw [up2_in]
  unfold upd
  rw [if_neg h]
theorem keepD_3 {st : St} {q k : Nat} : keepD st q k (4 + 4 * q) 3 = bif unl st q k then st (4 + 4 * q) 3 ||| bitI k else st (4 + 4 * q) 3 &&& (bitI k ^^^ (-1)) := by
  unfold keepD
  rw [up2_in]
  unfold upd
  rw [if_pos rfl]
/-- a device whose numbers agree, and whose mask is right but for the leaf k, is right when the leaf's difference is kept -/
theorem DevR_keep {st mt : St} {q k : Nat} (hk : k < 12) (h : DevA st mt q) (p : Nat → Bool) (hp : st (4 + 4 * q) 3 = mskF p 12) (ho : ∀ i, i < 12 → i ≠ k → unl st q i = p i) : DevR (keepD st q k) mt q := by
  have o1 : keepD st q k (4 + 4 * q + 1) = st (4 + 4 * q + 1) := keepD_out (by omega)
  have o2 : keepD st q k (4 + 4 * q + 2) = st (4 + 4 * q + 2) := keepD_out (by omega)
  have o3 : keepD st q k (4 + 4 * q + 3) = st (4 + 4 * q + 3) := keepD_out (by omega)
  refine ⟨DevA_cong h (fun i h1 _ => keepD_in (by omega)) o1 o2 o3 (fun _ _ => rfl) (fun _ _ => rfl) (fun _ _ => rfl) (fun _ _ _ => rfl), ?_⟩
  rw [keepD_3, hp, mskF_cong 12 (fun i _ => unl_cong o1 o2 o3 i), mskF_set (p := p) (by omega) hk ho]
theorem DevR_off {st mt : St} {q r k : Nat} (hr : r ≠ q) (h : DevR st mt r) : DevR (keepD st q k) mt r :=
  DevR_cong h (fun i _ _ => by rw [keepD_out (by omega)]) (keepD_out (by omega)) (keepD_out (by omega)) (keepD_out (by omega)) (fun _ _ => rfl) (fun _ _ => rfl) (fun _ _ => rfl) (fun _ _ _ => rfl)
theorem RelD_wish {st mt : St} {q k : Nat} {v : Int32} (hq : q < 8) (hk : k < 12) (hv : vR v) (h : RelD st mt) : RelD (takeW st q k v) (wiM mt q k (v + 1)) := by
  intro r hr
  unfold takeW
  by_cases e : r = q
  · subst e
    have h0 := h r hr
    refine DevR_keep hk ?_ (unl st r) ?_ ?_
    · refine ⟨fun i hi => ?_, ?_⟩
      · have h1 := h0.1.1 i hi
        unfold wiM
        simp only [up2_at]
        by_cases e : i = k
        · subst e
          refine ⟨by simp, ?_, by simp, by simpa using hv, ?_, by simpa using ⟨0, by decide, rfl⟩⟩
          · simpa using h1.2.1
          · simpa using h1.2.2.2.2.1
        · have n1 : ¬ 12 * r + i = 12 * r + k := by omega
          simpa [e, n1] using h1
      · have h1 := h0.1.2
        unfold wiM
        simp only [up2_at]
        simpa using h1
    · rw [up2_out _ _ (by omega), up2_out _ _ (by omega)]
      exact h0.2
    · intro i _ hik
      unfold unl
      simp only [up2_at]
      simp [hik]
  · refine DevR_off e ?_
    refine DevR_cong (h r hr) (fun i _ _ => by rw [up2_out _ _ (by omega), up2_out _ _ (by omega)]) (by rw [up2_out _ _ (by omega), up2_out _ _ (by omega)]) (by rw [up2_out _ _ (by omega), up2_out _ _ (by omega)]) (by rw [up2_out _ _ (by omega), up2_out _ _ (by omega)]) (fun i hi => ?_) (fun i hi => ?_) (fun i hi => ?_) (fun a _ _ => ?_) <;> unfold wiM <;> simp only [up2_at]
    · have n1 : ¬ 12 * r + i = 12 * q + k := by omega
      simp [n1]
    · simp
    · have n1 : ¬ 12 * r + i = 12 * q + k := by omega
      simp [n1]
    · have n1 : ¬ a = 3 := by omega
      have n2 : ¬ a = 1 := by omega
      simp [n1, n2]
theorem RelD_rep {st mt : St} {q k : Nat} {v : Int32} (hq : q < 8) (hk : k < 12) (hv : vR v) (h : RelD st mt) : RelD (takeR st q k v) (up2 mt 2 (12 * q + k) (v + 1)) := by
  intro r hr
  unfold takeR
  by_cases e : r = q
  · subst e
    have h0 := h r hr
    refine DevR_keep hk ?_ (unl st r) ?_ ?_
    · refine ⟨fun i hi => ?_, ?_⟩
      · have h1 := h0.1.1 i hi
        simp only [up2_at]
        by_cases e : i = k
        · subst e
          refine ⟨?_, by simp, ?_, ?_, by simpa using hv, ?_⟩
          · simpa using h1.1
          · simpa using h1.2.2.1
          · simpa using h1.2.2.2.1
          · simpa using h1.2.2.2.2.2
        · have n1 : ¬ 12 * r + i = 12 * r + k := by omega
          simpa [e, n1] using h1
      · have h1 := h0.1.2
        simp only [up2_at]
        simpa using h1
    · rw [up2_out _ _ (by omega)]
      exact h0.2
    · intro i _ hik
      unfold unl
      simp only [up2_at]
      simp [hik]
  · refine DevR_off e ?_
    refine DevR_cong (h r hr) (fun i _ _ => by rw [up2_out _ _ (by omega)]) (by rw [up2_out _ _ (by omega)]) (by rw [up2_out _ _ (by omega)]) (by rw [up2_out _ _ (by omega)]) (fun i hi => ?_) (fun i hi => ?_) (fun i hi => ?_) (fun a _ _ => ?_) <;> simp only [up2_at]
    · simp
    · have n1 : ¬ 12 * r + i = 12 * q + k := by omega
      simp [n1]
    · simp
    · have n1 : ¬ a = 2 := by omega
      simp [n1]
theorem RelD_ref {st mt : St} {q k : Nat} {v : Int32} (hq : q < 8) (hk : k < 12) (hv : rR v) (h : RelD st mt) : RelD (takeF st q k v) (up2 mt 3 (12 * q + k) v) := by
  intro r hr
  unfold takeF
  by_cases e : r = q
  · subst e
    have h0 := h r hr
    refine DevR_keep hk ?_ (unl st r) ?_ ?_
    · refine ⟨fun i hi => ?_, ?_⟩
      · have h1 := h0.1.1 i hi
        simp only [up2_at]
        by_cases e : i = k
        · subst e
          refine ⟨?_, ?_, by simp, ?_, ?_, by simpa using hv⟩
          · simpa using h1.1
          · simpa using h1.2.1
          · simpa using h1.2.2.2.1
          · simpa using h1.2.2.2.2.1
        · have n1 : ¬ 12 * r + i = 12 * r + k := by omega
          simpa [e, n1] using h1
      · have h1 := h0.1.2
        simp only [up2_at]
        simpa using h1
    · rw [up2_out _ _ (by omega)]
      exact h0.2
    · intro i _ hik
      unfold unl
      simp only [up2_at]
      simp [hik]
  · refine DevR_off e ?_
    refine DevR_cong (h r hr) (fun i _ _ => by rw [up2_out _ _ (by omega)]) (by rw [up2_out _ _ (by omega)]) (by rw [up2_out _ _ (by omega)]) (by rw [up2_out _ _ (by omega)]) (fun i hi => ?_) (fun i hi => ?_) (fun i hi => ?_) (fun a _ _ => ?_) <;> simp only [up2_at]
    · simp
    · simp
    · have n1 : ¬ 12 * r + i = 12 * q + k := by omega
      simp [n1]
    · have n1 : ¬ a = 3 := by omega
      simp [n1]
/-- one of a device's own numbers: place i of its cell, the reference's row a -/
theorem RelD_num {st mt : St} {q i a : Nat} {v : Int32} (hq : q < 8) (hia : (i = 4 ∧ a = 4) ∨ (i = 5 ∧ a = 5) ∨ (i = 6 ∧ a = 7) ∨ (i = 7 ∧ a = 6)) (h7 : i = 7 → v = 0 ∨ v = 1) (h : RelD st mt) : RelD (up2 st (4 + 4 * q) i v) (up2 mt a q v) := by
  intro r hr
  have h0 := h r hr
  have n3 : i ≠ 3 := by omega
  have o1 : up2 st (4 + 4 * q) i v (4 + 4 * r + 1) = st (4 + 4 * r + 1) := up2_out _ _ (by omega)
  have o2 : up2 st (4 + 4 * q) i v (4 + 4 * r + 2) = st (4 + 4 * r + 2) := up2_out _ _ (by omega)
  have o3 : up2 st (4 + 4 * q) i v (4 + 4 * r + 3) = st (4 + 4 * r + 3) := up2_out _ _ (by omega)
  refine ⟨⟨fun k hk => ?_, ?_⟩, ?_⟩
  · have h1 := h0.1.1 k hk
    rw [o1, o2, o3, up2_out mt v (show 1 ≠ a by omega), up2_out mt v (show 2 ≠ a by omega), up2_out mt v (show 3 ≠ a by omega)]
    exact h1
  · have h1 := h0.1.2
    simp only [up2_at]
    by_cases e : r = q
    · subst e
      rcases hia with ⟨rfl, rfl⟩ | ⟨rfl, rfl⟩ | ⟨rfl, rfl⟩ | ⟨rfl, rfl⟩
      · simp [h1]
      · simp [h1]
      · simp [h1]
      · simp [h1]
        exact h7 rfl
    · have n1 : ¬ 4 * r = 4 * q := by omega
      simp [n1, e, h1]
  · rw [mskF_cong 12 (fun k _ => unl_cong o1 o2 o3 k), ← h0.2, up2_at, if_neg (by omega)]
/-! the other parts beside these -/
theorem Rel_D {st mt st2 mt2 : St} (h : Rel st mt) (hd : RelD st2 mt2) (hs : ∀ i, (i < 4 ∨ 35 < i) → st2 i = st i) (hm : ∀ a, (a = 0 ∨ 7 < a) → mt2 a = mt a) : Rel st2 mt2 :=
  ⟨hd, RelF_cong h.2.1 (hs 1 (by omega)) (hs 2 (by omega)) (hm 8 (by omega)), RelG_cong h.2.2.1 (fun i _ _ => hs i (by omega)) (fun a _ _ => hm a (by omega)), RelJ_cong h.2.2.2 (fun i _ _ => hs i (by omega)) (fun a _ _ => hm a (by omega)) (by rw [hs 0 (by omega)]) (by rw [hm 0 (by omega)])⟩
theorem takeW_far {st : St} {q k i : Nat} {v : Int32} (hq : q < 8) (h : i < 4 ∨ 35 < i) : takeW st q k v i = st i := takeW_out (by omega) (by omega) (by omega)
theorem wiM_far {mt : St} {q k a : Nat} {v : Int32} (h : a = 0 ∨ 7 < a) : wiM mt q k v a = mt a := by
  unfold wiM
  rw [up2_out _ _ (by omega), up2_out _ _ (by omega)]
theorem Rel_wish {st mt : St} {q k : Nat} {v : Int32} (hq : q < 8) (hk : k < 12) (hv : vR v) (h : Rel st mt) : Rel (takeW st q k v) (wiM mt q k (v + 1)) :=
  Rel_D h (RelD_wish hq hk hv h.1) (fun i hi => takeW_far hq hi) (fun a ha => wiM_far ha)
theorem Rel_rep {st mt : St} {q k : Nat} {v : Int32} (hq : q < 8) (hk : k < 12) (hv : vR v) (h : Rel st mt) : Rel (takeR st q k v) (up2 mt 2 (12 * q + k) (v + 1)) :=
  Rel_D h (RelD_rep hq hk hv h.1) (fun i hi => takeR_out (by omega) (by omega)) (fun a ha => up2_out _ _ (by omega))
theorem Rel_ref {st mt : St} {q k : Nat} {v : Int32} (hq : q < 8) (hk : k < 12) (hv : rR v) (h : Rel st mt) : Rel (takeF st q k v) (up2 mt 3 (12 * q + k) v) :=
  Rel_D h (RelD_ref hq hk hv h.1) (fun i hi => takeF_out (by omega) (by omega)) (fun a ha => up2_out _ _ (by omega))
theorem Rel_num {st mt : St} {q i a : Nat} {v : Int32} (hq : q < 8) (hia : (i = 4 ∧ a = 4) ∨ (i = 5 ∧ a = 5) ∨ (i = 6 ∧ a = 7) ∨ (i = 7 ∧ a = 6)) (h7 : i = 7 → v = 0 ∨ v = 1) (h : Rel st mt) : Rel (up2 st (4 + 4 * q) i v) (up2 mt a q v) :=
  Rel_D h (RelD_num hq hia h7 h.1) (fun i hi => up2_out _ _ (by omega)) (fun a ha => up2_out _ _ (by omega))
