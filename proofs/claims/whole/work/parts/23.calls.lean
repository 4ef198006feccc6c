/-! ===== call by call: what the law compares ===== -/
theorem nQ {a b : Nat} (ha : a < 12) (hb : b < 12) (h : nI a = nI b) : a = b := (nI_eq (by omega) (by omega)).mp h
def zz (ov : Nat → Int64) (r b : Int32) (w : St × (Nat → Int64)) (u : St) : Prop := u 0 0 = r ∧ (r = 0 → w.2 = vp_updL ov 0 b.toInt64) ∧ Rel w.1 u
theorem zz_thr {st mt : St} {ov : Nat → Int64} {c b : Int32} (h : Rel st mt) (hc : c ≠ 0) : zz ov c b (st, ov) (thr mt c) := ⟨thr_0 mt c, fun z => absurd z hc, Rel_thr h⟩
theorem zz_ok {st mt : St} {ov : Nat → Int64} {v b : Int32} (h : Rel st mt) (h0 : mt 0 0 = 0) (e : v = b) : zz ov 0 b (st, vp_updL ov 0 v.toInt64) mt := ⟨h0, fun _ => by rw [e], h⟩
theorem okV_iff (v : Int32) : okV v ↔ inb v (-1) 99 = true := by
  unfold okV inb
  rw [← Int32.toInt_inj]
  simp only [Int32.lt_iff_toInt_lt, Int32.le_iff_toInt_le, Bool.and_eq_true, Bool.not_eq_true', decide_eq_false_iff_not, show (-1 : Int32).toInt = -1 from rfl, show (99 : Int32).toInt = 99 from rfl, show (0 : Int32).toInt = 0 from rfl]
  omega
theorem rng_iff (v a b : Int32) : rng v a b ↔ inb v a b = true := by
  unfold rng inb
  simp only [Int32.lt_iff_toInt_lt, Int32.le_iff_toInt_le, Bool.and_eq_true, Bool.not_eq_true', decide_eq_false_iff_not]
  omega
theorem rng_R {v : Int32} {a n : Nat} (hn : n + 1 < 2 ^ 31) (ha : a < 2 ^ 31) (h : rng v (nI a) (nI n)) : ∃ j : Nat, a ≤ j ∧ j < n + 1 ∧ v = nI j := by
  obtain ⟨h1, h2⟩ := h
  rw [Int32.lt_iff_toInt_lt, nI_toInt ha] at h1
  have h0 : ¬ v < 0 := by
    rw [Int32.lt_iff_toInt_lt, show (0 : Int32).toInt = 0 from rfl]
    omega
  obtain ⟨j, hj, rfl⟩ := nI_of h0
  rw [nI_toInt hj] at h1
  rw [Int32.le_iff_toInt_le, nI_toInt hj, nI_toInt (by omega)] at h2
  exact ⟨j, by omega, by omega, rfl⟩
theorem okV_R {v : Int32} (h : okV v) : vR v := by
  rcases h with rfl | ⟨h1, h2⟩
  · exact Or.inl rfl
  · obtain ⟨j, -, hj, e⟩ := rng_R (v := v) (a := 0) (n := 99) (by decide) (by decide) ⟨h1, h2⟩
    exact Or.inr ⟨j, hj, e⟩
theorem rng_r {v : Int32} (h : rng v 1 9) : rR v := by
  obtain ⟨j, -, hj, e⟩ := rng_R (v := v) (a := 1) (n := 9) (by decide) (by decide) h
  exact ⟨j, hj, e⟩
theorem rng_v {v : Int32} (h : rng v 0 99) : vR v := by
  obtain ⟨j, -, hj, e⟩ := rng_R (v := v) (a := 0) (n := 99) (by decide) (by decide) h
  exact Or.inr ⟨j, hj, e⟩
theorem no8 {p : Int32} (h : inb p 0 7 = false) : ¬ inR p 8 := inb_nR (n := 7) (by decide) h
theorem no12 {p : Int32} (h : inb p 0 11 = false) : ¬ inR p 12 := inb_nR (n := 11) (by decide) h
theorem no4 {p : Int32} (h : inb p 0 3 = false) : ¬ inR p 4 := inb_nR (n := 3) (by decide) h
theorem no3 {p : Int32} (h : inb p 0 2 = false) : ¬ inR p 3 := inb_nR (n := 2) (by decide) h
theorem no_or {p p1 : Int32} {a b : Nat} (h : ¬ inR p a ∨ ¬ inR p1 b) (h1 : inR p a) (h2 : inR p1 b) : False := h.elim (fun z => z h1) (fun z => z h2)
theorem no_8_12 {p p1 : Int32} (h : (inb p 0 7 && inb p1 0 11) = false) : ¬ inR p 8 ∨ ¬ inR p1 12 := by
  rcases Bool.and_eq_false_iff.mp h with h | h
  · exact Or.inl (no8 h)
  · exact Or.inr (no12 h)
theorem one_ne : (1 : Int32) ≠ 0 := by decide
theorem two_ne : (2 : Int32) ≠ 0 := by decide
theorem three_ne : (3 : Int32) ≠ 0 := by decide
theorem thr_thr (mt : St) (c d : Int32) : thr (thr mt c) d = thr mt d := by
  funext x y
  simp only [thr, up2_at]
  by_cases h : x = 0 ∧ y = 0 <;> simp [h]
theorem up2_0 {b : St} {a k : Nat} {v : Int32} (h : a ≠ 0) : up2 b a k v 0 0 = b 0 0 := by rw [up2_at, if_neg (fun z => h z.1.symm)]
theorem emM_0 {b : St} : emM b 12 0 0 = b 0 0 := congrFun (emM_out (by decide) 12) 0
theorem wlM_0 {b : St} {q : Nat} : ∀ i, wlM b q i 0 0 = b 0 0
  | 0 => rfl
  | i + 1 => by
    have ih := wlM_0 (b := b) (q := q) i
    show wlS q i (wlM b q i) 0 0 = _
    unfold wlS wiM
    cases decide (wlM b q i 8 i ≤ 0)
    · rw [cond_false, up2_0 (by decide), up2_0 (by decide), ih]
    · rw [cond_true, ih]
theorem rpM_0 {b : St} {q : Nat} : ∀ i, rpM b q i 0 0 = b 0 0
  | 0 => rfl
  | i + 1 => by
    have ih := rpM_0 (b := b) (q := q) i
    show rpS q i (rpM b q i) 0 0 = _
    unfold rpS
    rw [up2_0 (by decide), ih]
theorem obM_0 {b : St} {q : Nat} {w : Int32} : ∀ i, obM b q w i 0 0 = b 0 0
  | 0 => rfl
  | i + 1 => by
    have ih := obM_0 (b := b) (q := q) (w := w) i
    show obS q i w (obM b q w i) 0 0 = _
    unfold obS
    rw [up2_0 (by decide), ih]
/-- the mask of a device that keeps Rel counts what the reference counts -/
theorem cntD {st mt : St} {q : Nat} (hq : q < 8) (h : Rel st mt) : bcI (st (4 + 4 * q) 3) = mnM (dgM mt q 12) 12 := (dgM_cnt hq h.1).symm

theorem rpM_7 {b : St} {q : Nat} : ∀ i, rpM b q i 7 q = b 7 q
  | 0 => rfl
  | i + 1 => by
    have ih := rpM_7 (b := b) (q := q) i
    show rpS q i (rpM b q i) 7 q = _
    unfold rpS
    rw [up2_out _ _ (by decide), ih]
theorem nxt {a b : Int32} (h1 : a < b) (h2 : b ≤ a + 1) : a + 1 = b := by
  rw [← Int32.toInt_inj]
  rw [Int32.lt_iff_toInt_lt] at h1
  rw [Int32.le_iff_toInt_le] at h2
  have hb := Int32.toInt_lt b
  have ha := Int32.le_toInt a
  rw [Int32.toInt_add, show (1 : Int32).toInt = 1 from rfl] at h2 ⊢
  rw [Int.bmod_def] at h2 ⊢
  omega
theorem bi_dif {x : Int32} {k : Nat} (hk : k < 32) : bi x k = !decide (x &&& bitI k = 0) := by
  have h := and_bit (x := x) hk
  cases hb : bi x k
  · rw [decide_eq_true (h.mpr hb)]; rfl
  · rw [decide_eq_false (fun z => Bool.false_ne_true ((h.mp z).symm.trans hb))]; rfl

theorem z_put {st mt : St} {ov : Nat → Int64} {p0 p1 : Int32} (h : Rel st mt) {r b : Int32} {w : St × (Nat → Int64)} {u : St} (hL : (fun r u => (r = 0 ∧ ∃ (v : Int32) (s1 : St), (fun (r : Int32) (u : St) => ∃ k, k < 12 ∧ p0 = nI k ∧ okV p1 ∧ u = asgF st k p1 ∧ r = bcI (u 1 1)) v s1 ∧ u = (s1, vp_updL ov 0 v.toInt64)) ∨ (r = 1 ∧ (¬ inR p0 12) ∧ u = (st, ov)) ∨ (r = 2 ∧ (inR p0 12 ∧ ¬ okV p1) ∧ u = (st, ov))) r w) (hM : (fun r u => (inb p0 0 11 = false ∧ u = thr mt 1 ∧ r = 0) ∨ (∃ k, k < 12 ∧ p0 = nI k ∧ ((inb p1 (-1) 99 = false ∧ u = thr mt 2 ∧ r = 0) ∨ (inb p1 (-1) 99 = true ∧ u = up2 (thr mt 0) 8 k (p1 + 2) ∧ r = drM u 12)))) b u) : zz ov r b w u := by
  rcases hL with ⟨rfl, v, s1, ⟨k, hk, rfl, ho, rfl, rfl⟩, rfl⟩ | ⟨rfl, hx, rfl⟩ | ⟨rfl, hx, rfl⟩ <;> rcases hM with ⟨hb, rfl, rfl⟩ | ⟨k2, hk2, e2, ⟨hb, rfl, rfl⟩ | ⟨hb, rfl, rfl⟩⟩
  · exact absurd (inR_nI hk) (no12 hb)
  · rw [(okV_iff p1).mp ho] at hb
    cases hb
  · obtain rfl := nQ hk hk2 e2
    have r1 := Rel_asg hk (okV_R ho) (Rel_thr (c := 0) h)
    exact zz_ok r1 (by rw [up2_0 (by decide), thr_0]) (drM_eq r1.2.1).symm
  · exact zz_thr h one_ne
  · exact absurd ⟨k2, hk2, e2⟩ hx
  · exact absurd ⟨k2, hk2, e2⟩ hx
  · exact absurd hx.1 (no12 hb)
  · exact zz_thr h two_ne
  · exact absurd ((okV_iff p1).mpr hb) hx.2

theorem z_drop {st mt : St} {ov : Nat → Int64} {p0 : Int32} (h : Rel st mt) {r b : Int32} {w : St × (Nat → Int64)} {u : St} (hL : (fun r u => (r = 0 ∧ ∃ (v : Int32) (s1 : St), (fun (r : Int32) (u : St) => ∃ k, k < 3 ∧ p0 = nI k ∧ u = drpF st k 4 ∧ r = bcI (u 1 1)) v s1 ∧ u = (s1, vp_updL ov 0 v.toInt64)) ∨ (r = 1 ∧ (¬ inR p0 3) ∧ u = (st, ov))) r w) (hM : (fun r u => (inb p0 0 2 = false ∧ u = thr mt 1 ∧ r = 0) ∨ (∃ k, k < 3 ∧ p0 = nI k ∧ u = dpM (thr mt 0) k 4 ∧ r = drM u 12)) b u) : zz ov r b w u := by
  rcases hL with ⟨rfl, v, s1, ⟨k, hk, rfl, rfl, rfl⟩, rfl⟩ | ⟨rfl, hx, rfl⟩ <;> rcases hM with ⟨hb, rfl, rfl⟩ | ⟨k2, hk2, e2, rfl, rfl⟩
  · exact absurd (inR_nI hk) (no3 hb)
  · obtain rfl := nQ (by omega) (by omega) e2
    have r : ∀ i, i ≤ 4 → Rel (drpF st k i) (dpM (thr mt 0) k i) ∧ dpM (thr mt 0) k i 0 0 = 0 := by
      intro i
      induction i with
      | zero => exact fun _ => ⟨Rel_thr h, thr_0 mt 0⟩
      | succ i ih =>
        intro hi
        obtain ⟨r1, r2⟩ := ih (by omega)
        exact ⟨Rel_asg (v := -1) (by omega) (Or.inl rfl) r1, (up2_0 (by decide)).trans r2⟩
    obtain ⟨r1, r2⟩ := r 4 (Nat.le_refl _)
    exact zz_ok r1 r2 (drM_eq r1.2.1).symm
  · exact zz_thr h one_ne
  · exact absurd ⟨k2, hk2, e2⟩ hx

theorem z_wish {st mt : St} {ov : Nat → Int64} {p0 p1 : Int32} (h : Rel st mt) {r b : Int32} {w : St × (Nat → Int64)} {u : St} (hL : (fun r u => (r = 0 ∧ ∃ (v : Int32) (s1 : St), (fun (r : Int32) (u : St) => ∃ q, q < 8 ∧ p0 = nI q ∧ ¬ bcI (st 1 1) = 0 ∧ (p1 = -1 ∨ p1 = st (4 + 4 * q) 4) ∧ u = empF (bmpV (merW st q 12) q) ∧ r = u (4 + 4 * q) 4) v s1 ∧ u = (s1, vp_updL ov 0 v.toInt64)) ∨ (r = 1 ∧ (¬ inR p0 8) ∧ u = (st, ov)) ∨ (r = 2 ∧ (∃ q, q < 8 ∧ p0 = nI q ∧ (bcI (st 1 1) = 0 ∨ (¬ p1 = -1 ∧ ¬ p1 = st (4 + 4 * q) 4))) ∧ u = (st, ov))) r w) (hM : (fun r u => (inb p0 0 7 = false ∧ u = thr mt 1 ∧ r = 0) ∨ (∃ q, q < 8 ∧ p0 = nI q ∧ (((drM (thr mt 0) 12 = 0 ∨ (¬ p1 = -1 ∧ ¬ p1 = thr mt 0 4 q)) ∧ u = thr (thr mt 0) 2 ∧ r = 0) ∨ (¬ drM (thr mt 0) 12 = 0 ∧ (p1 = -1 ∨ p1 = thr mt 0 4 q) ∧ u = bvM (emM (wlM (thr (thr mt 0) 0) q 12) 12) q ∧ r = u 4 q)))) b u) : zz ov r b w u := by
  have ht := Rel_thr (c := 0) h
  rcases hL with ⟨rfl, v, s1, ⟨q, hq, rfl, hn, hv, rfl, rfl⟩, rfl⟩ | ⟨rfl, hx, rfl⟩ | ⟨rfl, ⟨q, hq, rfl, hx⟩, rfl⟩ <;> rcases hM with ⟨hb, rfl, rfl⟩ | ⟨q2, hq2, e2, ⟨hb, rfl, rfl⟩ | ⟨hb, hb2, rfl, rfl⟩⟩
  · exact absurd (inR_nI hq) (no8 hb)
  · obtain rfl := nQ (by omega) (by omega) e2
    rw [drM_eq ht.2.1, ((ht.1 q hq).1.2).1] at hb
    rcases hb with hb | hb
    · exact absurd hb hn
    · rcases hv with hv | hv
      · exact absurd hv hb.1
      · exact absurd hv hb.2
  · obtain rfl := nQ (by omega) (by omega) e2
    rw [thr_thr]
    have r1 := merW_rel hq ht 12 (Nat.le_refl _)
    have r2 : wlM (thr mt 0) q 12 0 0 = 0 := (wlM_0 12).trans (thr_0 mt 0)
    generalize merW st q 12 = a at r1 ⊢
    generalize wlM (thr mt 0) q 12 = b at r1 r2 ⊢
    have r3 := Rel_num (v := a (4 + 4 * q) 4 + 1) hq (Or.inl ⟨rfl, rfl⟩) (fun z => absurd z (by decide)) r1
    have r4 := Rel_num (v := emM b 12 4 q + 1) hq (Or.inl ⟨rfl, rfl⟩) (fun z => absurd z (by decide)) (Rel_emp r1)
    have e4 : emM b 12 4 q = a (4 + 4 * q) 4 := by rw [emM_out (by decide)]; exact ((r1.1 q hq).1.2).1
    have e5 : up2 (empF a) (4 + 4 * q) 4 (emM b 12 4 q + 1) = empF (bmpV a q) := by
      rw [e4]
      funext x y
      simp only [empF, bmpV, up2_at]
      by_cases h1 : x = 1 ∧ y = 1
      · have n1 : ¬ x = 4 + 4 * q := by omega
        simp [h1.1, h1.2]
      · simp [h1]
    rw [e5] at r4
    exact zz_ok r4 ((up2_0 (by decide)).trans (emM_0.trans r2)) ((r4.1 q hq).1.2.1).symm
  · exact zz_thr h one_ne
  · exact absurd ⟨q2, hq2, e2⟩ hx
  · exact absurd ⟨q2, hq2, e2⟩ hx
  · exact absurd (inR_nI hq) (no8 hb)
  · rw [thr_thr]
    exact zz_thr h two_ne
  · obtain rfl := nQ (by omega) (by omega) e2
    rw [drM_eq ht.2.1] at hb
    rw [((ht.1 q hq).1.2).1] at hb2
    rcases hx with hx | hx
    · exact absurd hx hb
    · rcases hb2 with hv | hv
      · exact absurd hv hx.1
      · exact absurd hv hx.2

theorem z_report {st mt : St} {ov : Nat → Int64} {p0 p1 : Int32} (h : Rel st mt) {r b : Int32} {w : St × (Nat → Int64)} {u : St} (hL : (fun r u => (r = 0 ∧ ∃ (v : Int32) (s1 : St), (fun (r : Int32) (u : St) => ∃ q, q < 8 ∧ p0 = nI q ∧ rng p1 1 (st (4 + 4 * q) 6 + 1) ∧ st (4 + 4 * q) 7 = 0 ∧ ((¬ st (4 + 4 * q) 6 < p1 ∧ u = empF st ∧ r = -1) ∨ (st (4 + 4 * q) 6 < p1 ∧ u = empF (up2 (merR st q 12) (4 + 4 * q) 6 p1) ∧ r = bcI (u (4 + 4 * q) 3)))) v s1 ∧ u = (s1, vp_updL ov 0 v.toInt64)) ∨ (r = 1 ∧ (¬ inR p0 8) ∧ u = (st, ov)) ∨ (r = 2 ∧ (∃ q, q < 8 ∧ p0 = nI q ∧ ¬ rng p1 1 (st (4 + 4 * q) 6 + 1)) ∧ u = (st, ov)) ∨ (r = 3 ∧ (∃ q, q < 8 ∧ p0 = nI q ∧ rng p1 1 (st (4 + 4 * q) 6 + 1) ∧ ¬ st (4 + 4 * q) 7 = 0) ∧ u = (st, ov))) r w) (hM : (fun r u => (inb p0 0 7 = false ∧ u = thr mt 1 ∧ r = 0) ∨ (∃ q, q < 8 ∧ p0 = nI q ∧ ((¬ rng p1 1 (thr mt 0 7 q + 1) ∧ u = thr (thr mt 0) 2 ∧ r = 0) ∨ (rng p1 1 (thr mt 0 7 q + 1) ∧ ¬ thr mt 0 6 q = 0 ∧ u = thr (thr mt 0) 3 ∧ r = 0) ∨ (rng p1 1 (thr mt 0 7 q + 1) ∧ thr mt 0 6 q = 0 ∧ p1 ≤ (thr (thr mt 0) 0) 7 q ∧ u = emM (up2 (thr (thr mt 0) 0) 7 q ((thr (thr mt 0) 0) 7 q + 0)) 12 ∧ r = -1) ∨ (rng p1 1 (thr mt 0 7 q + 1) ∧ thr mt 0 6 q = 0 ∧ ¬ p1 ≤ (thr (thr mt 0) 0) 7 q ∧ u = emM (blM (rpM (thr (thr mt 0) 0) q 12) q) 12 ∧ r = mnM (dgM u q 12) 12)))) b u) : zz ov r b w u := by
  have ht := Rel_thr (c := 0) h
  simp only [thr_thr] at hM
  rcases hL with ⟨rfl, v, s1, ⟨q, hq, rfl, hn, hv, hp⟩, rfl⟩ | ⟨rfl, hx, rfl⟩ | ⟨rfl, ⟨q, hq, rfl, hx⟩, rfl⟩ | ⟨rfl, ⟨q, hq, rfl, hx, hx2⟩, rfl⟩ <;> rcases hM with ⟨hb, rfl, rfl⟩ | ⟨q2, hq2, e2, hm⟩
  · exact absurd (inR_nI hq) (no8 hb)
  · obtain rfl := nQ (by omega) (by omega) e2
    obtain ⟨g4, g5, g6, g7, g8⟩ := (ht.1 q hq).1.2
    rw [g6, g7] at hm
    rcases hm with ⟨hb, -, -⟩ | ⟨hb, hb2, -, -⟩ | ⟨hb, hb2, hb3, rfl, rfl⟩ | ⟨hb, hb2, hb3, rfl, rfl⟩
    · exact absurd hn hb
    · exact absurd hv hb2
    · have n1 : ¬ st (4 + 4 * q) 6 < p1 := by
        rw [Int32.lt_iff_toInt_lt]
        rw [Int32.le_iff_toInt_le] at hb3
        omega
      rcases hp with ⟨h1, rfl, rfl⟩ | ⟨h1, rfl, rfl⟩
      · have e : up2 (thr mt 0) 7 q (st (4 + 4 * q) 6 + 0) = thr mt 0 := by
          rw [Int32.add_zero, ← g6, up2_same]
        rw [e]
        exact zz_ok (Rel_emp ht) (emM_0.trans (thr_0 mt 0)) rfl
      · exact absurd h1 n1
    · have n1 : st (4 + 4 * q) 6 < p1 := by
        rw [Int32.lt_iff_toInt_lt]
        rw [Int32.le_iff_toInt_le] at hb3
        omega
      rcases hp with ⟨h1, rfl, rfl⟩ | ⟨h1, rfl, rfl⟩
      · exact absurd n1 h1
      · have r1 := merR_rel hq ht 12 (Nat.le_refl _)
        have r2 : rpM (thr mt 0) q 12 0 0 = 0 := (rpM_0 12).trans (thr_0 mt 0)
        have r7 : rpM (thr mt 0) q 12 7 q = st (4 + 4 * q) 6 := (rpM_7 12).trans g6
        generalize merR st q 12 = a at r1 ⊢
        generalize rpM (thr mt 0) q 12 = b at r1 r2 r7 ⊢
        have ep : b 7 q + 1 = p1 := by
          rw [r7]
          exact nxt n1 hn.2
        have r3 : Rel (empF (up2 a (4 + 4 * q) 6 p1)) (emM (blM b q) 12) := by
          unfold blM
          rw [ep]
          exact Rel_emp (Rel_num hq (Or.inr (Or.inr (Or.inl ⟨rfl, rfl⟩))) (fun z => absurd z (by decide)) r1)
        exact zz_ok r3 (emM_0.trans ((up2_0 (by decide)).trans r2)) (cntD hq r3)
  · exact zz_thr h one_ne
  · exact absurd ⟨q2, hq2, e2⟩ hx
  · exact absurd (inR_nI hq) (no8 hb)
  · obtain rfl := nQ (by omega) (by omega) e2
    obtain ⟨g4, g5, g6, g7, g8⟩ := (ht.1 q hq).1.2
    rw [g6, g7] at hm
    rcases hm with ⟨hb, rfl, rfl⟩ | ⟨hb, hb2, -, -⟩ | ⟨hb, hb2, hb3, -, -⟩ | ⟨hb, hb2, hb3, -, -⟩
    · exact zz_thr h two_ne
    · exact absurd hb hx
    · exact absurd hb hx
    · exact absurd hb hx
  · exact absurd (inR_nI hq) (no8 hb)
  · obtain rfl := nQ (by omega) (by omega) e2
    obtain ⟨g4, g5, g6, g7, g8⟩ := (ht.1 q hq).1.2
    rw [g6, g7] at hm
    rcases hm with ⟨hb, -, -⟩ | ⟨hb, hb2, rfl, rfl⟩ | ⟨hb, hb2, hb3, -, -⟩ | ⟨hb, hb2, hb3, -, -⟩
    · exact absurd hx hb
    · exact zz_thr h three_ne
    · exact absurd hb2 hx2
    · exact absurd hb2 hx2

theorem z_obey {st mt : St} {ov : Nat → Int64} {p0 : Int32} (h : Rel st mt) {r b : Int32} {w : St × (Nat → Int64)} {u : St} (hL : (fun r u => (r = 0 ∧ ∃ (v : Int32) (s1 : St), (fun (r : Int32) (u : St) => ∃ q, q < 8 ∧ p0 = nI q ∧ st (4 + 4 * q) 7 = 0 ∧ u = up2 (obyF st q 12).1 (4 + 4 * q) 6 ((obyF st q 12).1 (4 + 4 * q) 6 + 1) ∧ r = (obyF st q 12).2) v s1 ∧ u = (s1, vp_updL ov 0 v.toInt64)) ∨ (r = 1 ∧ (¬ inR p0 8) ∧ u = (st, ov)) ∨ (r = 2 ∧ (∃ q, q < 8 ∧ p0 = nI q ∧ ¬ st (4 + 4 * q) 7 = 0) ∧ u = (st, ov))) r w) (hM : (fun r u => (inb p0 0 7 = false ∧ u = thr mt 1 ∧ r = 0) ∨ (∃ q, q < 8 ∧ p0 = nI q ∧ ((¬ mt 6 q = 0 ∧ u = thr mt 2 ∧ r = 0) ∨ (mt 6 q = 0 ∧ u = blM (obM (thr mt 0) q (dgM (thr mt 0) q 12) 12) q ∧ r = mnM (dgM (thr mt 0) q 12) 12)))) b u) : zz ov r b w u := by
  have ht := Rel_thr (c := 0) h
  rcases hL with ⟨rfl, v, s1, ⟨q, hq, rfl, hn, rfl, rfl⟩, rfl⟩ | ⟨rfl, hx, rfl⟩ | ⟨rfl, ⟨q, hq, rfl, hx⟩, rfl⟩ <;> rcases hM with ⟨hb, rfl, rfl⟩ | ⟨q2, hq2, e2, ⟨hb, rfl, rfl⟩ | ⟨hb, rfl, rfl⟩⟩
  · exact absurd (inR_nI hq) (no8 hb)
  · obtain rfl := nQ (by omega) (by omega) e2
    rw [(h.1 q hq).1.2.2.2.2.1] at hb
    exact absurd hn hb
  · obtain rfl := nQ (by omega) (by omega) e2
    have hw : ∀ k, k < 12 → bi (dgM (thr mt 0) q 12) k = unl st q k := fun k hk => by
      rw [dgM_eq hq ht.1, (ht.1 q hq).2, ← difA_eq hq hk ht.1]
      unfold difA
      rw [(ht.1 q hq).2]
      exact bi_dif (by omega)
    obtain ⟨r1, r2, -⟩ := oby_rel hq ht hw 12 (Nat.le_refl _)
    have r0 : obM (thr mt 0) q (dgM (thr mt 0) q 12) 12 0 0 = 0 := (obM_0 12).trans (thr_0 mt 0)
    have r3 := Rel_num (v := (obyF st q 12).1 (4 + 4 * q) 6 + 1) hq (Or.inr (Or.inr (Or.inl ⟨rfl, rfl⟩))) (fun z => absurd z (by decide)) r1
    unfold blM
    rw [(r1.1 q hq).1.2.2.2.1]
    exact zz_ok r3 ((up2_0 (by decide)).trans r0) r2
  · exact zz_thr h one_ne
  · exact absurd ⟨q2, hq2, e2⟩ hx
  · exact absurd ⟨q2, hq2, e2⟩ hx
  · exact absurd (inR_nI hq) (no8 hb)
  · exact zz_thr h two_ne
  · obtain rfl := nQ (by omega) (by omega) e2
    rw [(h.1 q hq).1.2.2.2.2.1] at hb
    exact absurd hb hx

theorem z_refuse {st mt : St} {ov : Nat → Int64} {p0 p1 p2 : Int32} (h : Rel st mt) {r b : Int32} {w : St × (Nat → Int64)} {u : St} (hL : (fun r u => (r = 0 ∧ ∃ (v : Int32) (s1 : St), (fun (r : Int32) (u : St) => ∃ q k, q < 8 ∧ k < 12 ∧ p0 = nI q ∧ p1 = nI k ∧ rng p2 1 9 ∧ st (4 + 4 * q) 7 = 0 ∧ difA st q k = true ∧ u = takeF st q k p2 ∧ r = bcI (u (4 + 4 * q) 3)) v s1 ∧ u = (s1, vp_updL ov 0 v.toInt64)) ∨ (r = 1 ∧ ((¬ inR p0 8 ∨ ¬ inR p1 12)) ∧ u = (st, ov)) ∨ (r = 2 ∧ (inR p0 8 ∧ inR p1 12 ∧ ¬ rng p2 1 9) ∧ u = (st, ov)) ∨ (r = 3 ∧ (∃ q k, q < 8 ∧ k < 12 ∧ p0 = nI q ∧ p1 = nI k ∧ rng p2 1 9 ∧ (¬ st (4 + 4 * q) 7 = 0 ∨ difA st q k = false)) ∧ u = (st, ov))) r w) (hM : (fun r u => ((inb p0 0 7 = false ∨ inb p1 0 11 = false) ∧ u = thr mt 1 ∧ r = 0) ∨ (∃ q k, q < 8 ∧ k < 12 ∧ p0 = nI q ∧ p1 = nI k ∧ ((inb p2 1 9 = false ∧ u = thr mt 2 ∧ r = 0) ∨ (inb p2 1 9 = true ∧ (¬ thr mt 0 6 q = 0 ∨ difM (thr mt 0) q k = false) ∧ u = thr (thr mt 0) 3 ∧ r = 0) ∨ (inb p2 1 9 = true ∧ thr mt 0 6 q = 0 ∧ difM (thr mt 0) q k = true ∧ u = up2 (thr (thr mt 0) 0) 3 (12 * q + k) p2 ∧ r = mnM (dgM u q 12) 12)))) b u) : zz ov r b w u := by
  have ht := Rel_thr (c := 0) h
  simp only [thr_thr] at hM
  have hno : (inb p0 0 7 = false ∨ inb p1 0 11 = false) → ¬ inR p0 8 ∨ ¬ inR p1 12 := fun z => z.imp no8 no12
  rcases hL with ⟨rfl, v, s1, ⟨q, k, hq, hk, rfl, rfl, hn, hv, hd, rfl, rfl⟩, rfl⟩ | ⟨rfl, hx, rfl⟩ | ⟨rfl, ⟨hx1, hx2, hx⟩, rfl⟩ | ⟨rfl, ⟨q, k, hq, hk, rfl, rfl, hx, hx2⟩, rfl⟩ <;> rcases hM with ⟨hb, rfl, rfl⟩ | ⟨q2, k2, hq2, hk2, e2, e3, ⟨hb, rfl, rfl⟩ | ⟨hb, hb2, rfl, rfl⟩ | ⟨hb, hb2, hb3, rfl, rfl⟩⟩
  · exact (no_or (hno hb) (inR_nI hq) (inR_nI hk)).elim
  · rw [(rng_iff p2 1 9).mp hn] at hb
    cases hb
  · obtain rfl := nQ (by omega) (by omega) e2
    obtain rfl := nQ (by omega) (by omega) e3
    rw [(ht.1 q hq).1.2.2.2.2.1, dif_eq hq hk ht.1, ← difA_eq hq hk ht.1, hd] at hb2
    rcases hb2 with hb2 | hb2
    · exact absurd hv hb2
    · cases hb2
  · obtain rfl := nQ (by omega) (by omega) e2
    obtain rfl := nQ (by omega) (by omega) e3
    have r1 := Rel_ref hq hk (rng_r hn) ht
    exact zz_ok r1 ((up2_0 (by decide)).trans (thr_0 mt 0)) (cntD hq r1)
  · exact zz_thr h one_ne
  · exact (no_or hx ⟨q2, hq2, e2⟩ ⟨k2, hk2, e3⟩).elim
  · exact (no_or hx ⟨q2, hq2, e2⟩ ⟨k2, hk2, e3⟩).elim
  · exact (no_or hx ⟨q2, hq2, e2⟩ ⟨k2, hk2, e3⟩).elim
  · exact (no_or (hno hb) hx1 hx2).elim
  · exact zz_thr h two_ne
  · exact absurd ((rng_iff p2 1 9).mpr hb) hx
  · exact absurd ((rng_iff p2 1 9).mpr hb) hx
  · exact (no_or (hno hb) (inR_nI hq) (inR_nI hk)).elim
  · rw [(rng_iff p2 1 9).mp hx] at hb
    cases hb
  · exact zz_thr h three_ne
  · obtain rfl := nQ (by omega) (by omega) e2
    obtain rfl := nQ (by omega) (by omega) e3
    rw [(ht.1 q hq).1.2.2.2.2.1] at hb2
    rw [dif_eq hq hk ht.1, ← difA_eq hq hk ht.1] at hb3
    rcases hx2 with hx2 | hx2
    · exact absurd hb2 hx2
    · rw [hx2] at hb3
      cases hb3

theorem z_sleep {st mt : St} {ov : Nat → Int64} {p0 : Int32} (h : Rel st mt) {r b : Int32} {w : St × (Nat → Int64)} {u : St} (hL : (fun r u => (r = 0 ∧ ∃ (v : Int32) (s1 : St), (fun (r : Int32) (u : St) => ∃ q, q < 8 ∧ p0 = nI q ∧ ((st (4 + 4 * q) 7 = 0 ∧ r = 1 ∧ u = up2 (up2 st (4 + 4 * q) 7 1) (4 + 4 * q) 5 (up2 st (4 + 4 * q) 7 1 (4 + 4 * q) 4)) ∨ (¬ st (4 + 4 * q) 7 = 0 ∧ r = 0 ∧ u = st))) v s1 ∧ u = (s1, vp_updL ov 0 v.toInt64)) ∨ (r = 1 ∧ (¬ inR p0 8) ∧ u = (st, ov))) r w) (hM : (fun r u => (inb p0 0 7 = false ∧ u = thr mt 1 ∧ r = 0) ∨ (∃ q, q < 8 ∧ p0 = nI q ∧ ((thr mt 0 6 q = 0 ∧ u = up2 (up2 (thr mt 0) 5 q (thr mt 0 4 q)) 6 q 1 ∧ r = 1) ∨ (¬ thr mt 0 6 q = 0 ∧ u = up2 (up2 (thr mt 0) 5 q (thr mt 0 5 q)) 6 q 1 ∧ r = 0)))) b u) : zz ov r b w u := by
  have ht := Rel_thr (c := 0) h
  rcases hL with ⟨rfl, v, s1, ⟨q, hq, rfl, hp⟩, rfl⟩ | ⟨rfl, hx, rfl⟩ <;> rcases hM with ⟨hb, rfl, rfl⟩ | ⟨q2, hq2, e2, hm⟩
  · exact absurd (inR_nI hq) (no8 hb)
  · obtain rfl := nQ (by omega) (by omega) e2
    obtain ⟨g4, g5, g6, g7, g8⟩ := (ht.1 q hq).1.2
    rcases hm with ⟨hb, rfl, rfl⟩ | ⟨hb, rfl, rfl⟩ <;> rw [g7] at hb <;> rcases hp with ⟨h1, rfl, rfl⟩ | ⟨h1, rfl, hs⟩
    · have r1 := Rel_num (v := 1) hq (Or.inr (Or.inr (Or.inr ⟨rfl, rfl⟩))) (fun _ => Or.inr rfl) (Rel_num (v := thr mt 0 4 q) hq (Or.inr (Or.inl ⟨rfl, rfl⟩)) (fun z => absurd z (by decide)) ht)
      have e : up2 (up2 st (4 + 4 * q) 5 (thr mt 0 4 q)) (4 + 4 * q) 7 1 = up2 (up2 st (4 + 4 * q) 7 1) (4 + 4 * q) 5 (up2 st (4 + 4 * q) 7 1 (4 + 4 * q) 4) := by
        rw [g4]
        funext x y
        simp only [up2_at]
        by_cases h7 : y = 7
        · subst h7
          simp
        · simp [h7]
      rw [e] at r1
      exact zz_ok r1 ((up2_0 (by decide)).trans ((up2_0 (by decide)).trans (thr_0 mt 0))) rfl
    · exact absurd hb h1
    · exact absurd h1 hb
    · have hs := hs.symm
      subst hs
      rw [up2_same]
      have n7 : st (4 + 4 * q) 7 = 1 := g8.resolve_left h1
      have e : up2 (thr mt 0) 6 q 1 = thr mt 0 := by
        have := up2_same (thr mt 0) 6 q
        rwa [g7, n7] at this
      rw [e]
      exact zz_ok ht (thr_0 mt 0) rfl
  · exact zz_thr h one_ne
  · exact absurd ⟨q2, hq2, e2⟩ hx

theorem z_wake {st mt : St} {ov : Nat → Int64} {p0 : Int32} (h : Rel st mt) {r b : Int32} {w : St × (Nat → Int64)} {u : St} (hL : (fun r u => (r = 0 ∧ ∃ (v : Int32) (s1 : St), (fun (r : Int32) (u : St) => ∃ q, q < 8 ∧ p0 = nI q ∧ u = up2 st (4 + 4 * q) 7 0 ∧ r = st (4 + 4 * q) 4 - hearV st q) v s1 ∧ u = (s1, vp_updL ov 0 v.toInt64)) ∨ (r = 1 ∧ (¬ inR p0 8) ∧ u = (st, ov))) r w) (hM : (fun r u => (inb p0 0 7 = false ∧ u = thr mt 1 ∧ r = 0) ∨ (∃ q, q < 8 ∧ p0 = nI q ∧ u = up2 (thr mt 0) 6 q 0 ∧ r = thr mt 0 4 q - heM (thr mt 0) q)) b u) : zz ov r b w u := by
  have ht := Rel_thr (c := 0) h
  rcases hL with ⟨rfl, v, s1, ⟨q, hq, rfl, rfl, rfl⟩, rfl⟩ | ⟨rfl, hx, rfl⟩ <;> rcases hM with ⟨hb, rfl, rfl⟩ | ⟨q2, hq2, e2, rfl, rfl⟩
  · exact absurd (inR_nI hq) (no8 hb)
  · obtain rfl := nQ (by omega) (by omega) e2
    have r1 := Rel_num (v := 0) hq (Or.inr (Or.inr (Or.inr ⟨rfl, rfl⟩))) (fun _ => Or.inl rfl) ht
    exact zz_ok r1 ((up2_0 (by decide)).trans (thr_0 mt 0)) (by rw [hear_eq hq ht.1, (ht.1 q hq).1.2.1])
  · exact zz_thr h one_ne
  · exact absurd ⟨q2, hq2, e2⟩ hx

theorem z_setGroup {st mt : St} {ov : Nat → Int64} {p0 p1 p2 p3 : Int32} (h : Rel st mt) {r b : Int32} {w : St × (Nat → Int64)} {u : St} (hL : (fun r u => (r = 0 ∧ ∃ (v : Int32) (s1 : St), (fun (r : Int32) (u : St) => ∃ g k, g < 4 ∧ k < 12 ∧ p0 = nI g ∧ p1 = nI k ∧ rng p2 0 99 ∧ rng p3 p2 99 ∧ u = setF st g (nI k) p2 p3 ∧ r = bcI (memF u g k 8)) v s1 ∧ u = (s1, vp_updL ov 0 v.toInt64)) ∨ (r = 1 ∧ ((¬ inR p0 4 ∨ ¬ inR p1 12)) ∧ u = (st, ov)) ∨ (r = 2 ∧ (inR p0 4 ∧ inR p1 12 ∧ ¬ (rng p2 0 99 ∧ rng p3 p2 99)) ∧ u = (st, ov))) r w) (hM : (fun r u => ((inb p0 0 3 = false ∨ inb p1 0 11 = false) ∧ u = thr mt 1 ∧ r = 0) ∨ (∃ g k, g < 4 ∧ k < 12 ∧ p0 = nI g ∧ p1 = nI k ∧ ((¬ (inb p2 0 99 = true ∧ inb p3 p2 99 = true) ∧ u = thr mt 2 ∧ r = 0) ∨ (inb p2 0 99 = true ∧ inb p3 p2 99 = true ∧ u = sgr (thr mt 0) g (nI k) p2 p3 ∧ r = mnM (mbM u g k 8) 12)))) b u) : zz ov r b w u := by
  have ht := Rel_thr (c := 0) h
  have hno : (inb p0 0 3 = false ∨ inb p1 0 11 = false) → ¬ inR p0 4 ∨ ¬ inR p1 12 := fun z => z.imp no4 no12
  rcases hL with ⟨rfl, v, s1, ⟨q, k, hq, hk, rfl, rfl, hn, hv, rfl, rfl⟩, rfl⟩ | ⟨rfl, hx, rfl⟩ | ⟨rfl, ⟨hx1, hx2, hx⟩, rfl⟩ <;> rcases hM with ⟨hb, rfl, rfl⟩ | ⟨q2, k2, hq2, hk2, e2, e3, ⟨hb, rfl, rfl⟩ | ⟨hb, hb2, rfl, rfl⟩⟩
  · exact (no_or (hno hb) (inR_nI hq) (inR_nI hk)).elim
  · exact absurd ⟨(rng_iff p2 0 99).mp hn, (rng_iff p3 p2 99).mp hv⟩ hb
  · obtain rfl := nQ (by omega) (by omega) e2
    obtain rfl := nQ (by omega) (by omega) e3
    have r1 := Rel_set (y := p2) (z := p3) hq hk ht
    refine zz_ok r1 ?_ ?_
    · unfold sgr
      rw [up2_0 (by decide), up2_0 (by decide), up2_0 (by decide), thr_0]
    · rw [← mem_eq hq hk r1.1 r1.2.2.1 8 (Nat.le_refl _)]
      exact (cnt (lim_mono (memF_lim 8 (Nat.le_refl _)) (by decide))).symm
  · exact zz_thr h one_ne
  · exact (no_or hx ⟨q2, hq2, e2⟩ ⟨k2, hk2, e3⟩).elim
  · exact (no_or hx ⟨q2, hq2, e2⟩ ⟨k2, hk2, e3⟩).elim
  · exact (no_or (hno hb) hx1 hx2).elim
  · exact zz_thr h two_ne
  · exact absurd ⟨(rng_iff p2 0 99).mpr hb, (rng_iff p3 p2 99).mpr hb2⟩ hx

theorem z_addJob {st mt : St} {ov : Nat → Int64} {p0 p1 p2 p3 p4 : Int32} {jc : Nat} (hjc : jc ≤ 8) (hj0 : st 0 4 = nI jc) (h : Rel st mt) {r b : Int32} {w : St × (Nat → Int64)} {u : St} (hL : (fun r u => (r = 0 ∧ ∃ (v : Int32) (s1 : St), (fun (r : Int32) (u : St) => ∃ g k, g < 4 ∧ k < 12 ∧ jc < 8 ∧ p0 = nI g ∧ p1 = nI k ∧ goodJ p2 p3 p4 ∧ u = incJ (adjF st jc (nI g) (nI k) p2 p3 p4) ∧ r = u 0 4 - 1) v s1 ∧ u = (s1, vp_updL ov 0 v.toInt64)) ∨ (r = 1 ∧ ((¬ inR p0 4 ∨ ¬ inR p1 12)) ∧ u = (st, ov)) ∨ (r = 2 ∧ (inR p0 4 ∧ inR p1 12 ∧ ¬ goodJ p2 p3 p4) ∧ u = (st, ov)) ∨ (r = 3 ∧ (inR p0 4 ∧ inR p1 12 ∧ goodJ p2 p3 p4 ∧ jc = 8) ∧ u = (st, ov))) r w) (hM : (fun r u => ((inb p0 0 3 = false ∨ inb p1 0 11 = false) ∧ u = thr mt 1 ∧ r = 0) ∨ (∃ g k, g < 4 ∧ k < 12 ∧ p0 = nI g ∧ p1 = nI k ∧ ((¬ (inb p2 0 99 = true ∧ inb p3 1 8 = true ∧ inb p4 1 8 = true) ∧ u = thr mt 2 ∧ r = 0) ∨ ((inb p2 0 99 = true ∧ inb p3 1 8 = true ∧ inb p4 1 8 = true) ∧ jc = 8 ∧ u = thr mt 3 ∧ r = 0) ∨ ((inb p2 0 99 = true ∧ inb p3 1 8 = true ∧ inb p4 1 8 = true) ∧ jc < 8 ∧ u = icM (ajM (thr mt 0) jc (nI g) (nI k) p2 p3 p4) ∧ r = u 0 12 - 1)))) b u) : zz ov r b w u := by
  have ht := Rel_thr (c := 0) h
  have hno : (inb p0 0 3 = false ∨ inb p1 0 11 = false) → ¬ inR p0 4 ∨ ¬ inR p1 12 := fun z => z.imp no4 no12
  have hg : goodJ p2 p3 p4 ↔ (inb p2 0 99 = true ∧ inb p3 1 8 = true ∧ inb p4 1 8 = true) := by
    rw [← rng_iff, ← rng_iff, ← rng_iff]
    exact Iff.rfl
  rw [← hg] at hM
  rcases hL with ⟨rfl, v, s1, ⟨q, k, hq, hk, hjl, rfl, rfl, hn, rfl, rfl⟩, rfl⟩ | ⟨rfl, hx, rfl⟩ | ⟨rfl, ⟨hx1, hx2, hx⟩, rfl⟩ | ⟨rfl, ⟨hx1, hx2, hx, hx3⟩, rfl⟩ <;> rcases hM with ⟨hb, rfl, rfl⟩ | ⟨q2, k2, hq2, hk2, e2, e3, ⟨hb, rfl, rfl⟩ | ⟨hb, hb2, rfl, rfl⟩ | ⟨hb, hb2, rfl, rfl⟩⟩
  · exact (no_or (hno hb) (inR_nI hq) (inR_nI hk)).elim
  · exact absurd hn hb
  · omega
  · obtain rfl := nQ (by omega) (by omega) e2
    obtain rfl := nQ (by omega) (by omega) e3
    have r1 := Rel_add (x := p2) (y := p3) (z := p4) hq hk hjl hj0 (rng_v hn.1) ht
    refine zz_ok r1 ?_ ?_
    · unfold icM ajM
      simp only [up2_at, thr]
      simp
    · obtain ⟨jd, -, g2, g3, -⟩ := r1.2.2.2.2
      rw [g2, g3]
  · exact zz_thr h one_ne
  · exact (no_or hx ⟨q2, hq2, e2⟩ ⟨k2, hk2, e3⟩).elim
  · exact (no_or hx ⟨q2, hq2, e2⟩ ⟨k2, hk2, e3⟩).elim
  · exact (no_or hx ⟨q2, hq2, e2⟩ ⟨k2, hk2, e3⟩).elim
  · exact (no_or (hno hb) hx1 hx2).elim
  · exact zz_thr h two_ne
  · exact absurd hb hx
  · exact absurd hb hx
  · exact (no_or (hno hb) hx1 hx2).elim
  · exact absurd hx hb
  · exact zz_thr h three_ne
  · omega

theorem z_cancel {st mt : St} {ov : Nat → Int64} {p0 : Int32} {jc : Nat} (hjc : jc ≤ 8) (hj0 : st 0 4 = nI jc) (h : Rel st mt) {r b : Int32} {w : St × (Nat → Int64)} {u : St} (hL : (fun r u => (r = 0 ∧ ∃ (v : Int32) (s1 : St), (fun (r : Int32) (u : St) => ∃ j, j < jc ∧ p0 = nI j ∧ st (42 + j) 5 = 0 ∧ u = up2 st (42 + j) 5 2 ∧ r = bcI (opnJ u j)) v s1 ∧ u = (s1, vp_updL ov 0 v.toInt64)) ∨ (r = 1 ∧ (¬ inR p0 jc) ∧ u = (st, ov)) ∨ (r = 2 ∧ (∃ j, j < jc ∧ p0 = nI j ∧ ¬ st (42 + j) 5 = 0) ∧ u = (st, ov))) r w) (hM : (fun r u => (¬ inR p0 jc ∧ u = thr mt 1 ∧ r = 0) ∨ (∃ j, j < jc ∧ p0 = nI j ∧ ((¬ mt 17 j = 0 ∧ u = thr mt 2 ∧ r = 0) ∨ (mt 17 j = 0 ∧ u = up2 (thr mt 0) 17 j 2 ∧ r = mnM (opM u j) 12)))) b u) : zz ov r b w u := by
  have ht := Rel_thr (c := 0) h
  rcases hL with ⟨rfl, v, s1, ⟨j, hj, rfl, hn, rfl, rfl⟩, rfl⟩ | ⟨rfl, hx, rfl⟩ | ⟨rfl, ⟨j, hj, rfl, hx⟩, rfl⟩ <;> rcases hM with ⟨hb, rfl, rfl⟩ | ⟨q2, hq2, e2, ⟨hb, rfl, rfl⟩ | ⟨hb, rfl, rfl⟩⟩
  · exact absurd (inR_nI hj) hb
  · obtain rfl := nQ (by omega) (by omega) e2
    rw [(h.2.2.2.1 j (by omega)).1.2.2.2.2.2.1] at hb
    exact absurd hn hb
  · obtain rfl := nQ (by omega) (by omega) e2
    have r1 := Rel_job (c := 5) (v := 2) (show j < 8 by omega) (by decide) (fun z => by omega) (fun z => by omega) (fun z => by omega) (fun z => by omega) (fun _ => Or.inr ⟨jc, hjc, hj0, hj⟩) ht
    refine zz_ok r1 ((up2_0 (by decide)).trans (thr_0 mt 0)) ?_
    rw [← opM_eq (by omega) r1.2.2.2]
    exact (cnt (lim_mono (by rw [opM_eq (by omega) r1.2.2.2]; exact opn_lim (by omega) r1.2.2.2) (by decide))).symm
  · exact zz_thr h one_ne
  · exact absurd ⟨q2, hq2, e2⟩ hx
  · exact absurd ⟨q2, hq2, e2⟩ hx
  · exact absurd (inR_nI hj) hb
  · exact zz_thr h two_ne
  · obtain rfl := nQ (by omega) (by omega) e2
    rw [(h.2.2.2.1 j (by omega)).1.2.2.2.2.2.1] at hb
    exact absurd hb hx

theorem z_version {st mt : St} {ov : Nat → Int64} {p0 : Int32} (h : Rel st mt) {r b : Int32} {w : St × (Nat → Int64)} {u : St} (hL : (fun r u => (r = 0 ∧ ∃ (v : Int32) (s1 : St), (fun (r : Int32) (u : St) => ∃ q, q < 8 ∧ p0 = nI q ∧ u = st ∧ r = st (4 + 4 * q) 4) v s1 ∧ u = (s1, vp_updL ov 0 v.toInt64)) ∨ (r = 1 ∧ (¬ inR p0 8) ∧ u = (st, ov))) r w) (hM : (fun r u => (inb p0 0 7 = false ∧ u = thr mt 1 ∧ r = 0) ∨ (∃ q, q < 8 ∧ p0 = nI q ∧ u = thr mt 0 ∧ r = thr mt 0 4 q)) b u) : zz ov r b w u := by
  have ht := Rel_thr (c := 0) h
  rcases hL with ⟨rfl, v, s1, ⟨q, hq, rfl, rfl, rfl⟩, rfl⟩ | ⟨rfl, hx, rfl⟩ <;> rcases hM with ⟨hb, rfl, rfl⟩ | ⟨q2, hq2, e2, rfl, rfl⟩
  · exact absurd (inR_nI hq) (no8 hb)
  · obtain rfl := nQ (by omega) (by omega) e2
    exact zz_ok ht (thr_0 mt 0) ((ht.1 q hq).1.2.1.symm)
  · exact zz_thr h one_ne
  · exact absurd ⟨q2, hq2, e2⟩ hx

theorem z_heard {st mt : St} {ov : Nat → Int64} {p0 : Int32} (h : Rel st mt) {r b : Int32} {w : St × (Nat → Int64)} {u : St} (hL : (fun r u => (r = 0 ∧ ∃ (v : Int32) (s1 : St), (fun (r : Int32) (u : St) => ∃ q, q < 8 ∧ p0 = nI q ∧ u = st ∧ r = hearV st q) v s1 ∧ u = (s1, vp_updL ov 0 v.toInt64)) ∨ (r = 1 ∧ (¬ inR p0 8) ∧ u = (st, ov))) r w) (hM : (fun r u => (inb p0 0 7 = false ∧ u = thr mt 1 ∧ r = 0) ∨ (∃ q, q < 8 ∧ p0 = nI q ∧ u = thr mt 0 ∧ r = heM (thr mt 0) q)) b u) : zz ov r b w u := by
  have ht := Rel_thr (c := 0) h
  rcases hL with ⟨rfl, v, s1, ⟨q, hq, rfl, rfl, rfl⟩, rfl⟩ | ⟨rfl, hx, rfl⟩ <;> rcases hM with ⟨hb, rfl, rfl⟩ | ⟨q2, hq2, e2, rfl, rfl⟩
  · exact absurd (inR_nI hq) (no8 hb)
  · obtain rfl := nQ (by omega) (by omega) e2
    exact zz_ok ht (thr_0 mt 0) ((hear_eq hq ht.1).symm)
  · exact zz_thr h one_ne
  · exact absurd ⟨q2, hq2, e2⟩ hx

theorem z_wished {st mt : St} {ov : Nat → Int64} {p0 p1 : Int32} (h : Rel st mt) {r b : Int32} {w : St × (Nat → Int64)} {u : St} (hL : (fun r u => (r = 0 ∧ ∃ (v : Int32) (s1 : St), (fun (r : Int32) (u : St) => ∃ q k, q < 8 ∧ k < 12 ∧ p0 = nI q ∧ p1 = nI k ∧ u = st ∧ r = st (4 + 4 * q + 1) k) v s1 ∧ u = (s1, vp_updL ov 0 v.toInt64)) ∨ (r = 1 ∧ ((¬ inR p0 8 ∨ ¬ inR p1 12)) ∧ u = (st, ov))) r w) (hM : (fun r u => ((inb p0 0 7 && inb p1 0 11) = false ∧ u = thr mt 1 ∧ r = 0) ∨ (∃ q k, q < 8 ∧ k < 12 ∧ p0 = nI q ∧ p1 = nI k ∧ u = thr mt 0 ∧ r = thr mt 0 1 (12 * q + k) - 1)) b u) : zz ov r b w u := by
  have ht := Rel_thr (c := 0) h
  rcases hL with ⟨rfl, v, s1, ⟨q, k, hq, hk, rfl, rfl, rfl, rfl⟩, rfl⟩ | ⟨rfl, hx, rfl⟩ <;> rcases hM with ⟨hb, rfl, rfl⟩ | ⟨q2, k2, hq2, hk2, e2, e3, rfl, rfl⟩
  · exact (no_or (no_8_12 hb) (inR_nI hq) (inR_nI hk)).elim
  · obtain rfl := nQ (by omega) (by omega) e2
    obtain rfl := nQ (by omega) (by omega) e3
    exact zz_ok ht (thr_0 mt 0) (by rw [((ht.1 q hq).1.1 k hk).1, inc_dec])
  · exact zz_thr h one_ne
  · exact (no_or hx ⟨q2, hq2, e2⟩ ⟨k2, hk2, e3⟩).elim

theorem z_reported {st mt : St} {ov : Nat → Int64} {p0 p1 : Int32} (h : Rel st mt) {r b : Int32} {w : St × (Nat → Int64)} {u : St} (hL : (fun r u => (r = 0 ∧ ∃ (v : Int32) (s1 : St), (fun (r : Int32) (u : St) => ∃ q k, q < 8 ∧ k < 12 ∧ p0 = nI q ∧ p1 = nI k ∧ u = st ∧ r = st (4 + 4 * q + 2) k) v s1 ∧ u = (s1, vp_updL ov 0 v.toInt64)) ∨ (r = 1 ∧ ((¬ inR p0 8 ∨ ¬ inR p1 12)) ∧ u = (st, ov))) r w) (hM : (fun r u => ((inb p0 0 7 && inb p1 0 11) = false ∧ u = thr mt 1 ∧ r = 0) ∨ (∃ q k, q < 8 ∧ k < 12 ∧ p0 = nI q ∧ p1 = nI k ∧ u = thr mt 0 ∧ r = thr mt 0 2 (12 * q + k) - 1)) b u) : zz ov r b w u := by
  have ht := Rel_thr (c := 0) h
  rcases hL with ⟨rfl, v, s1, ⟨q, k, hq, hk, rfl, rfl, rfl, rfl⟩, rfl⟩ | ⟨rfl, hx, rfl⟩ <;> rcases hM with ⟨hb, rfl, rfl⟩ | ⟨q2, k2, hq2, hk2, e2, e3, rfl, rfl⟩
  · exact (no_or (no_8_12 hb) (inR_nI hq) (inR_nI hk)).elim
  · obtain rfl := nQ (by omega) (by omega) e2
    obtain rfl := nQ (by omega) (by omega) e3
    exact zz_ok ht (thr_0 mt 0) (by rw [((ht.1 q hq).1.1 k hk).2.1, inc_dec])
  · exact zz_thr h one_ne
  · exact (no_or hx ⟨q2, hq2, e2⟩ ⟨k2, hk2, e3⟩).elim

theorem z_why {st mt : St} {ov : Nat → Int64} {p0 p1 : Int32} (h : Rel st mt) {r b : Int32} {w : St × (Nat → Int64)} {u : St} (hL : (fun r u => (r = 0 ∧ ∃ (v : Int32) (s1 : St), (fun (r : Int32) (u : St) => ∃ q k, q < 8 ∧ k < 12 ∧ p0 = nI q ∧ p1 = nI k ∧ u = st ∧ r = st (4 + 4 * q + 3) k) v s1 ∧ u = (s1, vp_updL ov 0 v.toInt64)) ∨ (r = 1 ∧ ((¬ inR p0 8 ∨ ¬ inR p1 12)) ∧ u = (st, ov))) r w) (hM : (fun r u => ((inb p0 0 7 && inb p1 0 11) = false ∧ u = thr mt 1 ∧ r = 0) ∨ (∃ q k, q < 8 ∧ k < 12 ∧ p0 = nI q ∧ p1 = nI k ∧ u = thr mt 0 ∧ r = thr mt 0 3 (12 * q + k))) b u) : zz ov r b w u := by
  have ht := Rel_thr (c := 0) h
  rcases hL with ⟨rfl, v, s1, ⟨q, k, hq, hk, rfl, rfl, rfl, rfl⟩, rfl⟩ | ⟨rfl, hx, rfl⟩ <;> rcases hM with ⟨hb, rfl, rfl⟩ | ⟨q2, k2, hq2, hk2, e2, e3, rfl, rfl⟩
  · exact (no_or (no_8_12 hb) (inR_nI hq) (inR_nI hk)).elim
  · obtain rfl := nQ (by omega) (by omega) e2
    obtain rfl := nQ (by omega) (by omega) e3
    exact zz_ok ht (thr_0 mt 0) (((ht.1 q hq).1.1 k hk).2.2.1.symm)
  · exact zz_thr h one_ne
  · exact (no_or hx ⟨q2, hq2, e2⟩ ⟨k2, hk2, e3⟩).elim

theorem z_differences {st mt : St} {ov : Nat → Int64} {p0 : Int32} (h : Rel st mt) {r b : Int32} {w : St × (Nat → Int64)} {u : St} (hL : (fun r u => (r = 0 ∧ ∃ (v : Int32) (s1 : St), (fun (r : Int32) (u : St) => ∃ q, q < 8 ∧ p0 = nI q ∧ u = st ∧ r = st (4 + 4 * q) 3) v s1 ∧ u = (s1, vp_updL ov 0 v.toInt64)) ∨ (r = 1 ∧ (¬ inR p0 8) ∧ u = (st, ov))) r w) (hM : (fun r u => (inb p0 0 7 = false ∧ u = thr mt 1 ∧ r = 0) ∨ (∃ q, q < 8 ∧ p0 = nI q ∧ u = thr mt 0 ∧ r = dgM (thr mt 0) q 12)) b u) : zz ov r b w u := by
  have ht := Rel_thr (c := 0) h
  rcases hL with ⟨rfl, v, s1, ⟨q, hq, rfl, rfl, rfl⟩, rfl⟩ | ⟨rfl, hx, rfl⟩ <;> rcases hM with ⟨hb, rfl, rfl⟩ | ⟨q2, hq2, e2, rfl, rfl⟩
  · exact absurd (inR_nI hq) (no8 hb)
  · obtain rfl := nQ (by omega) (by omega) e2
    exact zz_ok ht (thr_0 mt 0) ((dgM_eq hq ht.1).symm)
  · exact zz_thr h one_ne
  · exact absurd ⟨q2, hq2, e2⟩ hx

theorem z_differencesAnew {st mt : St} {ov : Nat → Int64} {p0 : Int32} (h : Rel st mt) {r b : Int32} {w : St × (Nat → Int64)} {u : St} (hL : (fun r u => (r = 0 ∧ ∃ (v : Int32) (s1 : St), (fun (r : Int32) (u : St) => ∃ q, q < 8 ∧ p0 = nI q ∧ u = st ∧ r = dfaF st q 12) v s1 ∧ u = (s1, vp_updL ov 0 v.toInt64)) ∨ (r = 1 ∧ (¬ inR p0 8) ∧ u = (st, ov))) r w) (hM : (fun r u => (inb p0 0 7 = false ∧ u = thr mt 1 ∧ r = 0) ∨ (∃ q, q < 8 ∧ p0 = nI q ∧ u = thr mt 0 ∧ r = dgM (thr mt 0) q 12)) b u) : zz ov r b w u := by
  have ht := Rel_thr (c := 0) h
  rcases hL with ⟨rfl, v, s1, ⟨q, hq, rfl, rfl, rfl⟩, rfl⟩ | ⟨rfl, hx, rfl⟩ <;> rcases hM with ⟨hb, rfl, rfl⟩ | ⟨q2, hq2, e2, rfl, rfl⟩
  · exact absurd (inR_nI hq) (no8 hb)
  · obtain rfl := nQ (by omega) (by omega) e2
    exact zz_ok ht (thr_0 mt 0) ((dfaF_eq hq ht.1).trans (dgM_eq hq ht.1).symm)
  · exact zz_thr h one_ne
  · exact absurd ⟨q2, hq2, e2⟩ hx

theorem z_members {st mt : St} {ov : Nat → Int64} {p0 : Int32} (h : Rel st mt) {r b : Int32} {w : St × (Nat → Int64)} {u : St} (hL : (fun r u => (r = 0 ∧ ∃ (v : Int32) (s1 : St), (fun (r : Int32) (u : St) => ∃ g, g < 4 ∧ p0 = nI g ∧ u = st ∧ r = memF st g (tn (st (37 + g) 0)) 8) v s1 ∧ u = (s1, vp_updL ov 0 v.toInt64)) ∨ (r = 1 ∧ (¬ inR p0 4) ∧ u = (st, ov))) r w) (hM : (fun r u => (inb p0 0 3 = false ∧ u = thr mt 1 ∧ r = 0) ∨ (∃ g, g < 4 ∧ p0 = nI g ∧ u = thr mt 0 ∧ r = mbM (thr mt 0) g (tn (thr mt 0 9 g)) 8)) b u) : zz ov r b w u := by
  have ht := Rel_thr (c := 0) h
  rcases hL with ⟨rfl, v, s1, ⟨q, hq, rfl, rfl, rfl⟩, rfl⟩ | ⟨rfl, hx, rfl⟩ <;> rcases hM with ⟨hb, rfl, rfl⟩ | ⟨q2, hq2, e2, rfl, rfl⟩
  · exact absurd (inR_nI hq) (no4 hb)
  · obtain rfl := nQ (by omega) (by omega) e2
    exact zz_ok ht (thr_0 mt 0) (by
      have e2 := inR_tn (by decide) (ht.2.2.1 q hq).2.2.2
      rw [(ht.2.2.1 q hq).1, mem_eq hq e2.2 ht.1 ht.2.2.1 8 (Nat.le_refl _)])
  · exact zz_thr h one_ne
  · exact absurd ⟨q2, hq2, e2⟩ hx

theorem z_state {st mt : St} {ov : Nat → Int64} {p0 : Int32} {jc : Nat} (hjc : jc ≤ 8) (hj0 : st 0 4 = nI jc) (h : Rel st mt) {r b : Int32} {w : St × (Nat → Int64)} {u : St} (hL : (fun r u => (r = 0 ∧ ∃ (v : Int32) (s1 : St), (fun (r : Int32) (u : St) => ∃ j, j < jc ∧ p0 = nI j ∧ u = st ∧ r = st (42 + j) 5) v s1 ∧ u = (s1, vp_updL ov 0 v.toInt64)) ∨ (r = 1 ∧ (¬ inR p0 jc) ∧ u = (st, ov))) r w) (hM : (fun r u => (¬ inR p0 jc ∧ u = thr mt 1 ∧ r = 0) ∨ (∃ j, j < jc ∧ p0 = nI j ∧ u = thr mt 0 ∧ r = thr mt 0 17 j)) b u) : zz ov r b w u := by
  have ht := Rel_thr (c := 0) h
  rcases hL with ⟨rfl, v, s1, ⟨q, hq, rfl, rfl, rfl⟩, rfl⟩ | ⟨rfl, hx, rfl⟩ <;> rcases hM with ⟨hb, rfl, rfl⟩ | ⟨q2, hq2, e2, rfl, rfl⟩
  · exact absurd (inR_nI hq) (hb)
  · obtain rfl := nQ (by omega) (by omega) e2
    exact zz_ok ht (thr_0 mt 0) ((ht.2.2.2.1 q (by omega)).1.2.2.2.2.2.1.symm)
  · exact zz_thr h one_ne
  · exact absurd ⟨q2, hq2, e2⟩ hx

theorem z_devices {st mt : St} {ov : Nat → Int64} {p0 p1 : Int32} {jc : Nat} (hjc : jc ≤ 8) (hj0 : st 0 4 = nI jc) (h : Rel st mt) {r b : Int32} {w : St × (Nat → Int64)} {u : St} (hL : (fun r u => (r = 0 ∧ ∃ (v : Int32) (s1 : St), (fun (r : Int32) (u : St) => ∃ j, j < jc ∧ p0 = nI j ∧ rng p1 0 2 ∧ u = st ∧ r = (if p1 = 0 then st (42 + j) 6 else if p1 = 1 then st (42 + j) 7 else st (42 + j) 8)) v s1 ∧ u = (s1, vp_updL ov 0 v.toInt64)) ∨ (r = 1 ∧ (¬ inR p0 jc) ∧ u = (st, ov)) ∨ (r = 2 ∧ (inR p0 jc ∧ ¬ rng p1 0 2) ∧ u = (st, ov))) r w) (hM : (fun r u => (¬ inR p0 jc ∧ u = thr mt 1 ∧ r = 0) ∨ (∃ j, j < jc ∧ p0 = nI j ∧ ((inb p1 0 2 = false ∧ u = thr mt 2 ∧ r = 0) ∨ (inb p1 0 2 = true ∧ u = thr mt 0 ∧ r = (if p1 = 0 then thr mt 0 18 j else if p1 = 1 then thr mt 0 19 j else thr mt 0 20 j))))) b u) : zz ov r b w u := by
  have ht := Rel_thr (c := 0) h
  rcases hL with ⟨rfl, v, s1, ⟨j, hj, rfl, hn, rfl, rfl⟩, rfl⟩ | ⟨rfl, hx, rfl⟩ | ⟨rfl, ⟨hx1, hx⟩, rfl⟩ <;> rcases hM with ⟨hb, rfl, rfl⟩ | ⟨q2, hq2, e2, ⟨hb, rfl, rfl⟩ | ⟨hb, rfl, rfl⟩⟩
  · exact absurd (inR_nI hj) hb
  · rw [(rng_iff p1 0 2).mp hn] at hb
    cases hb
  · obtain rfl := nQ (by omega) (by omega) e2
    obtain ⟨-, -, -, -, -, -, a6, a7, a8⟩ := (ht.2.2.2.1 j (by omega)).1
    exact zz_ok ht (thr_0 mt 0) (by rw [a6, a7, a8])
  · exact zz_thr h one_ne
  · exact absurd ⟨q2, hq2, e2⟩ hx
  · exact absurd ⟨q2, hq2, e2⟩ hx
  · exact absurd hx1 hb
  · exact zz_thr h two_ne
  · exact absurd ((rng_iff p1 0 2).mpr hb) hx

theorem z_wave {st mt : St} {ov : Nat → Int64} {jc : Nat} (hjc : jc ≤ 8) (hj0 : st 0 4 = nI jc) (h : Rel st mt) {a b : Int32} {w u : St} (hL : (w, a) = wavF st jc) (hM : (u, b) = wvM (thr mt 0) jc) : a = b ∧ u 0 0 = 0 ∧ Rel w u := by
  obtain ⟨r1, r2⟩ := wav_rel hjc hj0 (Rel_thr (c := 0) h) jc (Nat.le_refl _)
  have r3 : (wvM (thr mt 0) jc).1 0 0 = 0 := by rw [wvM_0 jc, thr_0]
  rw [← hL, ← hM] at r1 r2
  rw [← hM] at r3
  exact ⟨r2, r3, r1⟩
