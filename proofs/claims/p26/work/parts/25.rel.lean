/-! ===== the class's memory beside the law's arrays ===== -/
def PD (st mt : St) : Prop := ∀ q, q < 5 → ∀ k, k < 12 → LfR (st (4 + 4 * q + 1) k) (st (4 + 4 * q + 2) k) (st (4 + 4 * q + 3) k) (mt 0 (12 * q + k))
def PVq (B : Nat) (st mt : St) (q : Nat) : Prop := (mt 1 q = st (4 + 4 * q) 4 ∧ mt 2 q = (if st (4 + 4 * q) 7 = 0 then -1 else st (4 + 4 * q) 5) ∧ mt 3 q = st (4 + 4 * q) 6) ∧ (∃ n, n ≤ B ∧ st (4 + 4 * q) 4 = nI n) ∧ (∃ n, n ≤ B ∧ st (4 + 4 * q) 6 = nI n) ∧ (¬ st (4 + 4 * q) 7 = 0 → ∃ n, n ≤ B ∧ st (4 + 4 * q) 5 = nI n)
def PV (B : Nat) (st mt : St) : Prop := ∀ q, q < 5 → PVq B st mt q
def PF (st mt : St) : Prop := ∀ k, k < 12 → mt 4 k = bif hasF st k then st 2 k else -2
def GrR (a b c x : Int32) : Prop := ∃ k lo hi : Nat, k < 12 ∧ lo < 100 ∧ hi < 100 ∧ a = nI k ∧ b = nI lo ∧ c = nI hi ∧ x = nI (k + 16 * lo + 2048 * hi)
def PG (st mt : St) : Prop := ∀ g, g < 4 → GrR (st (37 + g) 0) (st (37 + g) 1) (st (37 + g) 2) (mt 5 g)
def JbR (a b c d e x : Int32) : Prop := ∃ g k v r w : Nat, g < 4 ∧ k < 12 ∧ v < 100 ∧ r < 9 ∧ w < 9 ∧ a = nI g ∧ b = nI k ∧ c = nI v ∧ d = nI r ∧ e = nI w ∧ x = nI (g + 4 * k + 64 * v + 8192 * r + 131072 * w)
def PJj (st mt : St) (j : Nat) : Prop := JbR (st (42 + j) 0) (st (42 + j) 1) (st (42 + j) 2) (st (42 + j) 3) (st (42 + j) 4) (mt 6 j) ∧ ER (st (42 + j) 6) (st (42 + j) 7) (st (42 + j) 8) (mt 7 j) ∧ mt 8 j = st (42 + j) 5 ∧ (st (42 + j) 5 = 0 ∨ st (42 + j) 5 = 1 ∨ st (42 + j) 5 = 2)
def PJ (st mt : St) : Prop := ∀ j, j < 8 → PJj st mt j
def PN (st mt : St) : Prop := ∃ jc, jc ≤ 8 ∧ st 0 4 = nI jc ∧ mt 9 0 = nI jc
def PZ (st : St) : Prop := ∀ q, 5 ≤ q → q < 8 → (∀ k, k < 12 → st (4 + 4 * q + 1) k = -1 ∧ st (4 + 4 * q + 2) k = -1 ∧ st (4 + 4 * q + 3) k = 0) ∧ st (4 + 4 * q) 4 = 0
def RP (B : Nat) (st mt : St) : Prop := (∃ at2 : St, Rel st at2) ∧ PD st mt ∧ PV B st mt ∧ PF st mt ∧ PG st mt ∧ PJ st mt ∧ PN st mt ∧ PZ st
/-! each part sees its own cells alone -/
theorem PD_c {st mt st2 mt2 : St} (h : PD st mt) (hs : ∀ i, 3 < i → i < 24 → i % 4 ≠ 0 → st2 i = st i) (hm : mt2 0 = mt 0) : PD st2 mt2 := by
  intro q hq k hk
  rw [hs _ (by omega) (by omega) (by omega), hs _ (by omega) (by omega) (by omega), hs _ (by omega) (by omega) (by omega), hm]
  exact h q hq k hk
theorem PVq_c {B : Nat} {st mt st2 mt2 : St} {q : Nat} (h : PVq B st mt q) (hs : ∀ i, 3 < i → i < 8 → st2 (4 + 4 * q) i = st (4 + 4 * q) i) (hm : ∀ a, 0 < a → a < 4 → mt2 a q = mt a q) : PVq B st2 mt2 q := by
  unfold PVq
  rw [hs 4 (by omega) (by omega), hs 5 (by omega) (by omega), hs 6 (by omega) (by omega), hs 7 (by omega) (by omega), hm 1 (by omega) (by omega), hm 2 (by omega) (by omega), hm 3 (by omega) (by omega)]
  exact h
theorem PVq_w {B B2 : Nat} {st mt : St} {q : Nat} (h : PVq B st mt q) (hB : B ≤ B2) : PVq B2 st mt q := by
  obtain ⟨h1, ⟨n, hn, e⟩, ⟨n2, hn2, e2⟩, h3⟩ := h
  refine ⟨h1, ⟨n, by omega, e⟩, ⟨n2, by omega, e2⟩, fun z => ?_⟩
  obtain ⟨n3, hn3, e3⟩ := h3 z
  exact ⟨n3, by omega, e3⟩
theorem PV_c {B : Nat} {st mt st2 mt2 : St} (h : PV B st mt) (hs : ∀ q, q < 5 → ∀ i, 3 < i → i < 8 → st2 (4 + 4 * q) i = st (4 + 4 * q) i) (hm : ∀ a, 0 < a → a < 4 → mt2 a = mt a) : PV B st2 mt2 :=
  fun q hq => PVq_c (h q hq) (hs q hq) (fun a h1 h2 => by rw [hm a h1 h2])
theorem PF_c {st mt st2 mt2 : St} (h : PF st mt) (h1 : st2 1 = st 1) (h2 : st2 2 = st 2) (hm : mt2 4 = mt 4) : PF st2 mt2 := by
  intro k hk
  have e : hasF st2 k = hasF st k := by unfold hasF; rw [h1]
  rw [e, h2, hm]
  exact h k hk
theorem PG_c {st mt st2 mt2 : St} (h : PG st mt) (hs : ∀ i, 36 < i → i < 41 → st2 i = st i) (hm : mt2 5 = mt 5) : PG st2 mt2 := by
  intro g hg
  rw [hs _ (by omega) (by omega), hm]
  exact h g hg
theorem PJj_c {st mt st2 mt2 : St} {j : Nat} (h : PJj st mt j) (hs : st2 (42 + j) = st (42 + j)) (hm : ∀ a, 5 < a → a < 9 → mt2 a j = mt a j) : PJj st2 mt2 j := by
  unfold PJj
  rw [hs, hm 6 (by omega) (by omega), hm 7 (by omega) (by omega), hm 8 (by omega) (by omega)]
  exact h
theorem PJ_c {st mt st2 mt2 : St} (h : PJ st mt) (hs : ∀ i, 41 < i → i < 50 → st2 i = st i) (hm : ∀ a, 5 < a → a < 9 → mt2 a = mt a) : PJ st2 mt2 :=
  fun j hj => PJj_c (h j hj) (hs _ (by omega) (by omega)) (fun a h1 h2 => by rw [hm a h1 h2])
theorem PN_c {st mt st2 mt2 : St} (h : PN st mt) (hs : st2 0 4 = st 0 4) (hm : mt2 9 = mt 9) : PN st2 mt2 := by
  unfold PN
  rw [hs, hm]
  exact h
theorem PZ_c {st st2 : St} (h : PZ st) (hs : ∀ i, 23 < i → i < 36 → i % 4 ≠ 0 → st2 i = st i) (h4 : ∀ q, 5 ≤ q → q < 8 → st2 (4 + 4 * q) 4 = st (4 + 4 * q) 4) : PZ st2 := by
  intro q h5 h8
  rw [hs _ (by omega) (by omega) (by omega), hs _ (by omega) (by omega) (by omega), hs _ (by omega) (by omega) (by omega), h4 q h5 h8]
  exact h q h5 h8
theorem RP_w {B B2 : Nat} {st mt : St} (h : RP B st mt) (hB : B ≤ B2) : RP B2 st mt := ⟨h.1, h.2.1, fun q hq => PVq_w (h.2.2.1 q hq) hB, h.2.2.2⟩
/-! ===== one leaf of one device ===== -/
theorem takeW_n {st : St} {q k r i : Nat} {v : Int32} (h : i ≠ 3) : takeW st q k v (4 + 4 * r) i = st (4 + 4 * r) i := by
  unfold takeW
  by_cases e : r = q
  · subst e
    rw [keepD_in h, up2_out _ _ (by omega), up2_out _ _ (by omega)]
  · rw [keepD_out (by omega), up2_out _ _ (by omega), up2_out _ _ (by omega)]
theorem takeR_n {st : St} {q k r i : Nat} {v : Int32} (h : i ≠ 3) : takeR st q k v (4 + 4 * r) i = st (4 + 4 * r) i := by
  unfold takeR
  by_cases e : r = q
  · subst e
    rw [keepD_in h, up2_out _ _ (by omega)]
  · rw [keepD_out (by omega), up2_out _ _ (by omega)]
theorem takeF_n {st : St} {q k r i : Nat} {v : Int32} (h : i ≠ 3) : takeF st q k v (4 + 4 * r) i = st (4 + 4 * r) i := by
  unfold takeF
  by_cases e : r = q
  · subst e
    rw [keepD_in h, up2_out _ _ (by omega)]
  · rw [keepD_out (by omega), up2_out _ _ (by omega)]
theorem takeW_1 {st : St} {q k r i : Nat} {v : Int32} : takeW st q k v (4 + 4 * r + 1) i = if r = q ∧ i = k then v else st (4 + 4 * r + 1) i := by
  unfold takeW
  rw [keepD_out (by omega), up2_at, if_neg (by omega), up2_at]
  by_cases h : r = q ∧ i = k
  · rw [if_pos h, if_pos (by omega)]
  · rw [if_neg h, if_neg (by omega)]
theorem takeW_2 {st : St} {q k r : Nat} {v : Int32} : takeW st q k v (4 + 4 * r + 2) = st (4 + 4 * r + 2) := takeW_out (by omega) (by omega) (by omega)
theorem takeW_3 {st : St} {q k r i : Nat} {v : Int32} : takeW st q k v (4 + 4 * r + 3) i = if r = q ∧ i = k then 0 else st (4 + 4 * r + 3) i := by
  unfold takeW
  rw [keepD_out (by omega), up2_at, up2_out _ _ (by omega)]
  by_cases h : r = q ∧ i = k
  · rw [if_pos h, if_pos (by omega)]
  · rw [if_neg h, if_neg (by omega)]
theorem takeR_2 {st : St} {q k r i : Nat} {v : Int32} : takeR st q k v (4 + 4 * r + 2) i = if r = q ∧ i = k then v else st (4 + 4 * r + 2) i := by
  unfold takeR
  rw [keepD_out (by omega), up2_at]
  by_cases h : r = q ∧ i = k
  · rw [if_pos h, if_pos (by omega)]
  · rw [if_neg h, if_neg (by omega)]
theorem takeR_x {st : St} {q k r x : Nat} {v : Int32} (hx : x = 1 ∨ x = 3) : takeR st q k v (4 + 4 * r + x) = st (4 + 4 * r + x) := takeR_out (by omega) (by omega)
theorem takeF_3 {st : St} {q k r i : Nat} {v : Int32} : takeF st q k v (4 + 4 * r + 3) i = if r = q ∧ i = k then v else st (4 + 4 * r + 3) i := by
  unfold takeF
  rw [keepD_out (by omega), up2_at]
  by_cases h : r = q ∧ i = k
  · rw [if_pos h, if_pos (by omega)]
  · rw [if_neg h, if_neg (by omega)]
theorem takeF_x {st : St} {q k r x : Nat} {v : Int32} (hx : x = 1 ∨ x = 2) : takeF st q k v (4 + 4 * r + x) = st (4 + 4 * r + x) := takeF_out (by omega) (by omega)
theorem t_at {mt : St} {q k r i : Nat} {x : Int32} (hk : k < 12) (hi : i < 12) : up2 mt 0 (12 * q + k) x 0 (12 * r + i) = if r = q ∧ i = k then x else mt 0 (12 * r + i) := by
  rw [up2_at]
  by_cases h : r = q ∧ i = k
  · rw [if_pos h, if_pos (by omega)]
  · rw [if_neg h, if_neg (by omega)]
/-- a change of one leaf: what the parts need -/
theorem RP_leaf {B : Nat} {st mt st2 mt2 : St} {q k : Nat} (hq : q < 5) (h : RP B st mt) (hr : ∃ at2 : St, Rel st2 at2) (hd : PD st2 mt2) (hn : ∀ r i, i ≠ 3 → st2 (4 + 4 * r) i = st (4 + 4 * r) i) (hf : ∀ i, (i < 4 + 4 * q ∨ 4 + 4 * q + 3 < i) → st2 i = st i) (hm : ∀ a, 0 < a → mt2 a = mt a) : RP B st2 mt2 := by
  obtain ⟨-, -, h3, h4, h5, h6, h7, h8⟩ := h
  exact ⟨hr, hd, PV_c h3 (fun r _ i h1 h2 => hn r i (by omega)) (fun a h1 _ => hm a h1), PF_c h4 (hf 1 (by omega)) (hf 2 (by omega)) (hm 4 (by omega)), PG_c h5 (fun i h1 h2 => hf i (by omega)) (hm 5 (by omega)), PJ_c h6 (fun i h1 h2 => hf i (by omega)) (fun a h1 _ => hm a (by omega)), PN_c h7 (by rw [hf 0 (by omega)]) (hm 9 (by omega)), PZ_c h8 (fun i h1 h2 _ => hf i (by omega)) (fun r h1 h2 => hn r 4 (by omega))⟩
theorem RP_wish {B : Nat} {st mt : St} {q k : Nat} {v : Int32} (hq : q < 5) (hk : k < 12) (hv : vR v) (h : RP B st mt) : RP B (takeW st q k v) (up2 mt 0 (12 * q + k) (mt 0 (12 * q + k) &&& 16256 ||| (v + 1))) := by
  obtain ⟨at2, hR⟩ := h.1
  refine RP_leaf (k := k) hq h ⟨_, Rel_wish (by omega) hk hv hR⟩ (fun r hr i hi => ?_) (fun r i hi => takeW_n hi) (fun i hi => takeW_out (by omega) (by omega) (by omega)) (fun a ha => up2_out _ _ (by omega))
  rw [takeW_1, takeW_2, takeW_3, t_at hk hi]
  by_cases e : r = q ∧ i = k
  · rw [if_pos e, if_pos e, if_pos e, e.1, e.2]
    exact LfR_wish hv (h.2.1 q hq k hk)
  · rw [if_neg e, if_neg e, if_neg e]
    exact h.2.1 r hr i hi
theorem RP_rep {B : Nat} {st mt : St} {q k : Nat} {v : Int32} (hq : q < 5) (hk : k < 12) (hv : vR v) (h : RP B st mt) : RP B (takeR st q k v) (up2 mt 0 (12 * q + k) (mt 0 (12 * q + k) &&& (-16257) ||| (v + 1) <<< ((7 : Int32) &&& 31))) := by
  obtain ⟨at2, hR⟩ := h.1
  refine RP_leaf (k := k) hq h ⟨_, Rel_rep (by omega) hk hv hR⟩ (fun r hr i hi => ?_) (fun r i hi => takeR_n hi) (fun i hi => takeR_out (by omega) (by omega)) (fun a ha => up2_out _ _ (by omega))
  rw [takeR_x (x := 1) (by omega), takeR_x (x := 3) (by omega), takeR_2, t_at hk hi]
  by_cases e : r = q ∧ i = k
  · rw [if_pos e, if_pos e, e.1, e.2]
    exact LfR_rep hv (h.2.1 q hq k hk)
  · rw [if_neg e, if_neg e]
    exact h.2.1 r hr i hi
theorem RP_oby {B : Nat} {st mt : St} {q k : Nat} (hq : q < 5) (hk : k < 12) (h0 : st (4 + 4 * q + 3) k = 0) (h : RP B st mt) : RP B (takeR st q k (st (4 + 4 * q + 1) k)) (up2 mt 0 (12 * q + k) ((mt 0 (12 * q + k) &&& 127) * 129)) := by
  obtain ⟨at2, hR⟩ := h.1
  refine RP_leaf (k := k) hq h ⟨_, Rel_rep (by omega) hk ((hR.1 q (by omega)).1.1 k hk).2.2.2.1 hR⟩ (fun r hr i hi => ?_) (fun r i hi => takeR_n hi) (fun i hi => takeR_out (by omega) (by omega)) (fun a ha => up2_out _ _ (by omega))
  rw [takeR_x (x := 1) (by omega), takeR_x (x := 3) (by omega), takeR_2, t_at hk hi]
  by_cases e : r = q ∧ i = k
  · rw [if_pos e, if_pos e, e.1, e.2, h0]
    have h1 := h.2.1 q hq k hk
    rw [h0] at h1
    exact LfR_oby h1
  · rw [if_neg e, if_neg e]
    exact h.2.1 r hr i hi
theorem RP_fuse {B : Nat} {st mt : St} {q k n : Nat} (hq : q < 5) (hk : k < 12) (hn : n < 10) (h0 : st (4 + 4 * q + 3) k = 0) (h : RP B st mt) : RP B (takeF st q k (nI n)) (up2 mt 0 (12 * q + k) (mt 0 (12 * q + k) + 16384 * nI n)) := by
  obtain ⟨at2, hR⟩ := h.1
  refine RP_leaf (k := k) hq h ⟨_, Rel_ref (by omega) hk ⟨n, hn, rfl⟩ hR⟩ (fun r hr i hi => ?_) (fun r i hi => takeF_n hi) (fun i hi => takeF_out (by omega) (by omega)) (fun a ha => up2_out _ _ (by omega))
  rw [takeF_x (x := 1) (by omega), takeF_x (x := 2) (by omega), takeF_3, t_at hk hi]
  by_cases e : r = q ∧ i = k
  · rw [if_pos e, if_pos e, e.1, e.2]
    have h1 := h.2.1 q hq k hk
    rw [h0] at h1
    exact LfR_fuse hn h1
  · rw [if_neg e, if_neg e]
    exact h.2.1 r hr i hi
/-! ===== a device's own numbers ===== -/
theorem RP_num {B B2 : Nat} {st mt st2 mt2 : St} {q : Nat} (hq : q < 5) (hB : B ≤ B2) (h : RP B st mt) (hr : ∃ at2 : St, Rel st2 at2) (hv : PVq B2 st2 mt2 q) (ho : ∀ i, i ≠ 4 + 4 * q → st2 i = st i) (hm : ∀ a, (a = 0 ∨ 3 < a) → mt2 a = mt a) (hm2 : ∀ r a, r ≠ q → mt2 a r = mt a r) : RP B2 st2 mt2 := by
  obtain ⟨-, h2, h3, h4, h5, h6, h7, h8⟩ := h
  refine ⟨hr, PD_c h2 (fun i _ _ _ => ho i (by omega)) (hm 0 (by omega)), fun r hr => ?_, PF_c h4 (ho 1 (by omega)) (ho 2 (by omega)) (hm 4 (by omega)), PG_c h5 (fun i _ _ => ho i (by omega)) (hm 5 (by omega)), PJ_c h6 (fun i _ _ => ho i (by omega)) (fun a _ _ => hm a (by omega)), PN_c h7 (by rw [ho 0 (by omega)]) (hm 9 (by omega)), PZ_c h8 (fun i _ _ _ => ho i (by omega)) (fun r _ _ => by rw [ho _ (by omega)])⟩
  by_cases e : r = q
  · subst e
    exact hv
  · exact PVq_c (PVq_w (h3 r hr) hB) (fun i _ _ => by rw [ho _ (by omega)]) (fun a _ _ => hm2 r a e)
theorem up2_r {mt : St} {a q r b : Nat} {v : Int32} (h : r ≠ q) : up2 mt a q v b r = mt b r := by rw [up2_at, if_neg (by omega)]
theorem RP_bmp {B : Nat} {st mt : St} {q : Nat} (hq : q < 5) (h : RP B st mt) : RP (B + 1) (bmpV st q) (up2 mt 1 q (mt 1 q + 1)) := by
  obtain ⟨at2, hR⟩ := h.1
  obtain ⟨⟨e1, e2, e3⟩, ⟨n, hn, e4⟩, ⟨n2, hn2, e5⟩, h6⟩ := h.2.2.1 q hq
  refine RP_num hq (by omega) h ⟨_, Rel_num (q := q) (i := 4) (a := 4) (by omega) (Or.inl ⟨rfl, rfl⟩) (fun z => absurd z (by decide)) hR⟩ ?_ (fun i hi => up2_out _ _ hi) (fun a ha => up2_out _ _ (by omega)) (fun r a hr => up2_r hr)
  unfold PVq bmpV
  simp only [up2_at]
  simp [e1, e2, e3]
  refine ⟨⟨n + 1, by omega, by rw [e4, nI_1]⟩, ⟨n2, by omega, e5⟩, fun z => ?_⟩
  obtain ⟨n3, hn3, e6⟩ := h6 z
  exact ⟨n3, by omega, e6⟩
theorem RP_num6 {B : Nat} {st mt : St} {q : Nat} {v : Int32} (hq : q < 5) (hv : v = st (4 + 4 * q) 6 + 1) (h : RP B st mt) : RP (B + 1) (up2 st (4 + 4 * q) 6 v) (up2 mt 3 q (mt 3 q + 1)) := by
  obtain ⟨at2, hR⟩ := h.1
  obtain ⟨⟨e1, e2, e3⟩, ⟨n, hn, e4⟩, ⟨n2, hn2, e5⟩, h6⟩ := h.2.2.1 q hq
  refine RP_num hq (by omega) h ⟨_, Rel_num (q := q) (i := 6) (a := 7) (by omega) (Or.inr (Or.inr (Or.inl ⟨rfl, rfl⟩))) (fun z => absurd z (by decide)) hR⟩ ?_ (fun i hi => up2_out _ _ hi) (fun a ha => up2_out _ _ (by omega)) (fun r a hr => up2_r hr)
  unfold PVq
  simp only [up2_at]
  simp [e1, e2, e3, hv]
  refine ⟨⟨n, by omega, e4⟩, ⟨n2 + 1, by omega, by rw [e5, nI_1]⟩, fun z => ?_⟩
  obtain ⟨n3, hn3, e6⟩ := h6 z
  exact ⟨n3, by omega, e6⟩
theorem RP_slp {B : Nat} {st mt : St} {q : Nat} (hq : q < 5) (h : RP B st mt) : RP B (up2 (up2 st (4 + 4 * q) 7 1) (4 + 4 * q) 5 (up2 st (4 + 4 * q) 7 1 (4 + 4 * q) 4)) (up2 mt 2 q (mt 1 q)) := by
  obtain ⟨at2, hR⟩ := h.1
  obtain ⟨⟨e1, e2, e3⟩, ⟨n, hn, e4⟩, ⟨n2, hn2, e5⟩, h6⟩ := h.2.2.1 q hq
  have r1 := Rel_num (q := q) (i := 7) (a := 6) (v := 1) (by omega) (Or.inr (Or.inr (Or.inr ⟨rfl, rfl⟩))) (fun _ => Or.inr rfl) hR
  have r2 := Rel_num (q := q) (i := 5) (a := 5) (v := up2 st (4 + 4 * q) 7 1 (4 + 4 * q) 4) (by omega) (Or.inr (Or.inl ⟨rfl, rfl⟩)) (fun z => absurd z (by decide)) r1
  refine RP_num hq (Nat.le_refl _) h ⟨_, r2⟩ ?_ (fun i hi => by rw [up2_out _ _ hi, up2_out _ _ hi]) (fun a ha => up2_out _ _ (by omega)) (fun r a hr => up2_r hr)
  unfold PVq
  simp only [up2_at]
  simp [e1, e3]
  exact ⟨⟨n, hn, e4⟩, ⟨n2, hn2, e5⟩, ⟨n, hn, e4⟩⟩
theorem RP_wak {B : Nat} {st mt : St} {q : Nat} (hq : q < 5) (h : RP B st mt) : RP B (up2 st (4 + 4 * q) 7 0) (up2 mt 2 q (-1)) := by
  obtain ⟨at2, hR⟩ := h.1
  obtain ⟨⟨e1, e2, e3⟩, ⟨n, hn, e4⟩, ⟨n2, hn2, e5⟩, h6⟩ := h.2.2.1 q hq
  refine RP_num hq (Nat.le_refl _) h ⟨_, Rel_num (q := q) (i := 7) (a := 6) (v := 0) (by omega) (Or.inr (Or.inr (Or.inr ⟨rfl, rfl⟩))) (fun _ => Or.inl rfl) hR⟩ ?_ (fun i hi => up2_out _ _ hi) (fun a ha => up2_out _ _ (by omega)) (fun r a hr => up2_r hr)
  unfold PVq
  simp only [up2_at]
  simp [e1, e3]
  exact ⟨⟨n, hn, e4⟩, ⟨n2, hn2, e5⟩⟩
/-! ===== the draft ===== -/
theorem RP_asg {B : Nat} {st mt : St} {k : Nat} {v : Int32} (hk : k < 12) (hv : vR v) (h : RP B st mt) : RP B (asgF st k v) (up2 mt 4 k v) := by
  obtain ⟨⟨at2, hR⟩, h2, h3, h4, h5, h6, h7, h8⟩ := h
  have o : ∀ i, i ≠ 1 → i ≠ 2 → asgF st k v i = st i := fun i h1 h2 => by unfold asgF; rw [up2_out _ _ h1, up2_out _ _ h2]
  have om : ∀ a, a ≠ 4 → up2 mt 4 k v a = mt a := fun a h1 => up2_out _ _ h1
  refine ⟨⟨_, Rel_asg hk hv hR⟩, PD_c h2 (fun i _ _ _ => o i (by omega) (by omega)) (om 0 (by omega)), PV_c h3 (fun q _ i _ _ => by rw [o _ (by omega) (by omega)]) (fun a _ _ => om a (by omega)), fun i hi => ?_, PG_c h5 (fun i _ _ => o i (by omega) (by omega)) (om 5 (by omega)), PJ_c h6 (fun i _ _ => o i (by omega) (by omega)) (fun a _ _ => om a (by omega)), PN_c h7 (by rw [o 0 (by omega) (by omega)]) (om 9 (by omega)), PZ_c h8 (fun i _ _ _ => o i (by omega) (by omega)) (fun q _ _ => by rw [o _ (by omega) (by omega)])⟩
  have e11 : asgF st k v 1 1 = st 1 1 ||| bitI k := by simp [asgF, up2_at]
  have e2 : asgF st k v 2 i = if i = k then v else st 2 i := by simp [asgF, up2_at]
  rw [hasF_bi (by omega), e11, bi_or, bi_bit k (by omega) i (by omega), ← hasF_bi (by omega), e2, up2_at]
  by_cases e : i = k
  · subst e
    simp
  · have h1 := h4 i hi
    simp [e, h1]
theorem emL_out {mt : St} {a : Nat} (h : a ≠ 4) : ∀ i, emL mt i a = mt a
  | 0 => rfl
  | i + 1 => (up2_out (emL mt i) (-2) h).trans (emL_out h i)
theorem emL_4 {mt : St} : ∀ i k, k < i → emL mt i 4 k = -2
  | 0, k, h => absurd h (Nat.not_lt_zero k)
  | i + 1, k, h => by
    show up2 (emL mt i) 4 i (-2) 4 k = -2
    rw [up2_at]
    by_cases e : k = i
    · simp [e]
    · simp [e, emL_4 i k (by omega)]
theorem RP_emp {B : Nat} {st mt : St} (h : RP B st mt) : RP B (empF st) (emL mt 12) := by
  obtain ⟨⟨at2, hR⟩, h2, h3, h4, h5, h6, h7, h8⟩ := h
  have o : ∀ i, i ≠ 1 → empF st i = st i := fun i h1 => up2_out _ _ h1
  have om : ∀ a, a ≠ 4 → emL mt 12 a = mt a := fun a h1 => emL_out h1 12
  refine ⟨⟨_, Rel_emp hR⟩, PD_c h2 (fun i _ _ _ => o i (by omega)) (om 0 (by omega)), PV_c h3 (fun q _ i _ _ => by rw [o _ (by omega)]) (fun a _ _ => om a (by omega)), fun i hi => ?_, PG_c h5 (fun i _ _ => o i (by omega)) (om 5 (by omega)), PJ_c h6 (fun i _ _ => o i (by omega)) (fun a _ _ => om a (by omega)), PN_c h7 (by rw [o 0 (by omega)]) (om 9 (by omega)), PZ_c h8 (fun i _ _ _ => o i (by omega)) (fun q _ _ => by rw [o _ (by omega)])⟩
  have e11 : empF st 1 1 = 0 := by simp [empF, up2_at]
  rw [hasF_bi (by omega), e11, bi_0, emL_4 12 i hi]
  rfl
theorem PF_m2 {st mt : St} (h : PF st mt) (hF : ∀ k, k < 12 → hasF st k = true → vR (st 2 k)) {k : Nat} (hk : k < 12) : mt 4 k ≤ -2 ↔ hasF st k = false := by
  rw [h k hk]
  cases hf : hasF st k
  · rw [cond_false]
    exact ⟨fun _ => rfl, fun _ => by decide⟩
  · rw [cond_true]
    refine ⟨fun z => ?_, fun z => by cases z⟩
    exfalso
    rcases hF k hk hf with e | ⟨n, hn, e⟩
    · rw [e] at z
      exact absurd z (by decide)
    · rw [e, Int32.le_iff_toInt_le, nI_toInt (by omega), show (-2 : Int32).toInt = -2 from rfl] at z
      omega
theorem RP_F {B : Nat} {st mt : St} (h : RP B st mt) : ∀ k, k < 12 → hasF st k = true → vR (st 2 k) := by
  obtain ⟨at2, hR⟩ := h.1
  exact fun k hk => (hR.2.1.1 k hk).2
theorem drL_cnt {B : Nat} {st mt : St} (h : RP B st mt) : ∀ i, i ≤ 12 → drL mt i = mnM (st 1 1) i
  | 0, _ => rfl
  | i + 1, hi => by
    show drS mt i (drL mt i) = mnS (st 1 1) i (mnM (st 1 1) i)
    rw [drL_cnt h i (by omega)]
    unfold mnS
    rw [shr_1 (by omega), ← hasF_bi (by omega)]
    have h1 := PF_m2 h.2.2.2.1 (RP_F h) (show i < 12 by omega)
    cases hf : hasF st i
    · exact drS_t (h1.mpr hf)
    · exact drS_f (fun z => Bool.false_ne_true ((h1.mp z).symm.trans hf))
theorem drL_eq {B : Nat} {st mt : St} (h : RP B st mt) : bcI (st 1 1) = drL mt 12 := by
  obtain ⟨at2, hR⟩ := h.1
  rw [drL_cnt h 12 (Nat.le_refl _), cnt hR.2.1.2]
/-! ===== groups, jobs ===== -/
theorem RP_set {B : Nat} {st mt : St} {g k lo hi : Nat} (hg : g < 4) (hk : k < 12) (hlo : lo < 100) (hhi : hi < 100) (h : RP B st mt) : RP B (setF st g (nI k) (nI lo) (nI hi)) (up2 mt 5 g (nI (k + 16 * lo + 2048 * hi))) := by
  obtain ⟨⟨at2, hR⟩, h2, h3, h4, h5, h6, h7, h8⟩ := h
  have o : ∀ i, i ≠ 37 + g → setF st g (nI k) (nI lo) (nI hi) i = st i := fun i h1 => by unfold setF; rw [up2_out _ _ h1, up2_out _ _ h1, up2_out _ _ h1]
  have om : ∀ a, a ≠ 5 → up2 mt 5 g (nI (k + 16 * lo + 2048 * hi)) a = mt a := fun a h1 => up2_out _ _ h1
  refine ⟨⟨_, Rel_set hg hk hR⟩, PD_c h2 (fun i _ _ _ => o i (by omega)) (om 0 (by omega)), PV_c h3 (fun q _ i _ _ => by rw [o _ (by omega)]) (fun a _ _ => om a (by omega)), PF_c h4 (o 1 (by omega)) (o 2 (by omega)) (om 4 (by omega)), fun r hr => ?_, PJ_c h6 (fun i _ _ => o i (by omega)) (fun a _ _ => om a (by omega)), PN_c h7 (by rw [o 0 (by omega)]) (om 9 (by omega)), PZ_c h8 (fun i _ _ _ => o i (by omega)) (fun q _ _ => by rw [o _ (by omega)])⟩
  by_cases e : r = g
  · subst e
    simp only [setF, up2_at]
    simp
    exact ⟨k, lo, hi, hk, hlo, hhi, rfl, rfl, rfl, rfl⟩
  · rw [o (37 + r) (by omega), up2_r e]
    exact h5 r hr
theorem RP_job {B : Nat} {st mt st2 mt2 : St} {j : Nat} (hj : j < 8) (h : RP B st mt) (hr : ∃ at2 : St, Rel st2 at2) (hJ : PJj st2 mt2 j) (ho : ∀ i, i ≠ 42 + j → st2 i = st i) (hm : ∀ a, (a < 6 ∨ 8 < a) → mt2 a = mt a) (hm2 : ∀ r a, r ≠ j → mt2 a r = mt a r) : RP B st2 mt2 := by
  obtain ⟨-, h2, h3, h4, h5, h6, h7, h8⟩ := h
  refine ⟨hr, PD_c h2 (fun i _ _ _ => ho i (by omega)) (hm 0 (by omega)), PV_c h3 (fun q _ i _ _ => by rw [ho _ (by omega)]) (fun a _ _ => hm a (by omega)), PF_c h4 (ho 1 (by omega)) (ho 2 (by omega)) (hm 4 (by omega)), PG_c h5 (fun i _ _ => ho i (by omega)) (hm 5 (by omega)), fun r hr => ?_, PN_c h7 (by rw [ho 0 (by omega)]) (hm 9 (by omega)), PZ_c h8 (fun i _ _ _ => ho i (by omega)) (fun q _ _ => by rw [ho _ (by omega)])⟩
  by_cases e : r = j
  · subst e
    exact hJ
  · exact PJj_c (h6 r hr) (ho _ (by omega)) (fun a _ _ => hm2 r a e)
theorem RP_cnd {B : Nat} {st mt : St} {j jc : Nat} {v : Int32} (hj : j < jc) (hjc : jc ≤ 8) (hj0 : st 0 4 = nI jc) (hv : v = 1 ∨ v = 2) (h : RP B st mt) : RP B (up2 st (42 + j) 5 v) (up2 mt 8 j v) := by
  obtain ⟨at2, hR⟩ := h.1
  obtain ⟨g1, g2, g3, g4⟩ := h.2.2.2.2.2.1 j (by omega)
  refine RP_job (j := j) (by omega) h ⟨_, Rel_job (j := j) (c := 5) (v := v) (by omega) (by omega) (fun z => by omega) (fun z => by omega) (fun z => by omega) (fun z => by omega) (fun _ => Or.inr ⟨jc, hjc, hj0, hj⟩) hR⟩ ?_ (fun i hi => up2_out _ _ hi) (fun a ha => up2_out _ _ (by omega)) (fun r a hr => up2_r hr)
  unfold PJj
  simp only [up2_at]
  simp
  exact ⟨g1, g2, Or.inr hv⟩
