/-! ===== a job's three sets beside the law's number ===== -/
theorem RP_don {B : Nat} {st mt : St} {j x : Nat} (hj : j < 8) (hx : x < 5) (h : RP B st mt) (hs : bi (st (42 + j) 6) x = true) (hf : bi (st (42 + j) 8) x = false) : RP B (up2 st (42 + j) 7 (st (42 + j) 7 ||| bitI x)) (up2 mt 7 j (setE (mt 7 j) x 2)) := by
  obtain ⟨at2, hR⟩ := h.1
  obtain ⟨g1, g2, g3, g4⟩ := h.2.2.2.2.2.1 j hj
  refine RP_job (j := j) hj h ⟨_, Rel_job (c := 7) hj (by omega) (fun z => by omega) (fun z => by omega) (fun z => by omega) (fun _ => lim_or (by omega) (hR.2.2.2.1 j hj).2.2.2.1) (fun z => by omega) hR⟩ ?_ (fun i hi => up2_out _ _ hi) (fun a ha => up2_out _ _ (by omega)) (fun r a hr => up2_r hr)
  unfold PJj
  simp only [up2_at]
  simp
  exact ⟨g1, ER_done g2 hx hs hf, g3, g4⟩
theorem RP_fai {B : Nat} {st mt : St} {j x : Nat} (hj : j < 8) (hx : x < 5) (h : RP B st mt) (hs : bi (st (42 + j) 6) x = true) (hd : bi (st (42 + j) 7) x = false) : RP B (up2 st (42 + j) 8 (st (42 + j) 8 ||| bitI x)) (up2 mt 7 j (setE (mt 7 j) x 3)) := by
  obtain ⟨at2, hR⟩ := h.1
  obtain ⟨g1, g2, g3, g4⟩ := h.2.2.2.2.2.1 j hj
  refine RP_job (j := j) hj h ⟨_, Rel_job (c := 8) hj (by omega) (fun z => by omega) (fun z => by omega) (fun z => by omega) (fun _ => lim_or (by omega) (hR.2.2.2.1 j hj).2.2.2.2) (fun z => by omega) hR⟩ ?_ (fun i hi => up2_out _ _ hi) (fun a ha => up2_out _ _ (by omega)) (fun r a hr => up2_r hr)
  unfold PJj
  simp only [up2_at]
  simp
  exact ⟨g1, ER_fail g2 hx hs hd, g3, g4⟩
theorem RP_sta {B : Nat} {st mt : St} {j x : Nat} (hj : j < 8) (hx : x < 5) (h : RP B st mt) (hs : bi (st (42 + j) 6) x = false) : RP B (addS st j x) (up2 mt 7 j (mt 7 j ||| (1 : Int32) <<< (nI (2 * x) &&& 31))) := by
  obtain ⟨at2, hR⟩ := h.1
  obtain ⟨g1, g2, g3, g4⟩ := h.2.2.2.2.2.1 j hj
  refine RP_job (j := j) hj h ⟨_, Rel_job (c := 6) hj (by omega) (fun z => by omega) (fun z => by omega) (fun z => by omega) (fun _ => lim_or (by omega) (hR.2.2.2.1 j hj).2.2.1) (fun z => by omega) hR⟩ ?_ (fun i hi => up2_out _ _ hi) (fun a ha => up2_out _ _ (by omega)) (fun r a hr => up2_r hr)
  unfold PJj addS
  simp only [up2_at]
  simp
  exact ⟨g1, ER_start g2 hx hs, g3, g4⟩
/-! ===== judging those that are started ===== -/
theorem judS_skip {a : St} {i j k : Nat} {w : Int32} (hi : i < 32) (h : bi w i = false) : judS a i j k w = a := bt ((and_bit hi).mpr h)
theorem judF_8 {st : St} {j k : Nat} {w : Int32} (h : lim w 5) : judF st j k w 8 = judF st j k w 5 := by
  show judS (judS (judS (judF st j k w 5) 5 j k w) 6 j k w) 7 j k w = _
  rw [judS_skip (by omega) (h 7 (by omega) (by omega)), judS_skip (by omega) (h 6 (by omega) (by omega)), judS_skip (by omega) (h 5 (by omega) (by omega))]
theorem up2_same2 {b : St} {i k : Nat} {v : Int32} (h : v = b i k) : up2 b i k v = b := by rw [h, up2_same]
theorem count_step {n : Int32} {p : Bool} (h : decide (n = 3) = p) (m : Int32) : m + (bif decide (n = 3) then 1 else 0) = m + b2i p := by
  rw [h]
  cases p <;> rfl
theorem jud_q {B : Nat} {st mt : St} {j k : Nat} {v : Int32} (hj : j < 8) (hk : k < 12) (hv : st (42 + j) 2 = v) (h : RP B st mt) :
    ∀ i, i ≤ 5 → RP B (judF st j k (opnJ st j) i) (jdL mt j k v i).1 ∧ (jdL mt j k v i).2 = mnM (judF st j k (opnJ st j) i (42 + j) 8) i ∧ ∀ n, i ≤ n → n < 5 → bi (opnJ (judF st j k (opnJ st j) i) j) n = bi (opnJ st j) n
  | 0, _ => ⟨h, rfl, fun n _ _ => rfl⟩
  | i + 1, hi => by
    obtain ⟨ih, ihc, ihb⟩ := jud_q hj hk hv h i (by omega)
    have hv2 : judF st j k (opnJ st j) i (42 + j) 2 = v := (judF_in (by decide) (by decide) i).trans hv
    have hb0 := ihb i (Nat.le_refl _) (by omega)
    show RP B (judS (judF st j k (opnJ st j) i) i j k (opnJ st j)) (jdS j k i v (jdL mt j k v i)).1 ∧ (jdS j k i v (jdL mt j k v i)).2 = mnM (judS (judF st j k (opnJ st j) i) i j k (opnJ st j) (42 + j) 8) (i + 1) ∧ ∀ n, i + 1 ≤ n → n < 5 → bi (opnJ (judS (judF st j k (opnJ st j) i) i j k (opnJ st j)) j) n = bi (opnJ st j) n
    generalize judF st j k (opnJ st j) i = a at ih ihc ihb hv2 hb0 ⊢
    generalize jdL mt j k v i = b at ih ihc ⊢
    generalize opnJ st j = w at ihb hb0 ⊢
    have hJ := ih.2.2.2.2.2.1 j hj
    have hE := hJ.2.1
    have q1 := ER_1 hE (show i < 5 by omega)
    have q3 := ER_3 hE (show i < 5 by omega)
    rw [opn_bi a j (by omega)] at hb0
    have hL := ih.2.1 i (by omega) k hk
    have later : ∀ n, i + 1 ≤ n → n < 5 → bi (bitI i) n = false := fun n h1 h2 => by rw [bi_bit i (by omega) n (by omega), decide_eq_false (by omega)]
    have below : ∀ n, n < i → bi (bitI i) n = false := fun n h1 => by rw [bi_bit i (by omega) n (by omega), decide_eq_false (by omega)]
    have self : bi (bitI i) i = true := by rw [bi_bit i (by omega) i (by omega), decide_eq_true rfl]
    have ms : ∀ x : Int32, mnM x (i + 1) = mnM x i + b2i (bi x i) := fun x => by
      show mnS x i (mnM x i) = _
      unfold mnS
      rw [shr_1 (by omega)]
    have same : jdN b.1 j k i v = atL (b.1 7 j) i → (jdS j k i v b).1 = b.1 ∧ (jdS j k i v b).2 = mnM (a (42 + j) 8) (i + 1) := by
      intro e
      unfold jdS
      rw [e]
      refine ⟨up2_same2 (setE_same (by omega)), ?_⟩
      dsimp only
      rw [count_step q3, ihc, ms]
    cases ho : bi w i
    · rw [judS_skip (by omega) ho]
      rw [ho] at hb0
      have e1 : ¬ atL (b.1 7 j) i = 1 := by
        intro z
        rw [decide_eq_true z, hb0] at q1
        exact absurd q1 (by decide)
      obtain ⟨s1, s2⟩ := same (jdN_a e1)
      rw [s1]
      exact ⟨ih, s2, fun n h1 h2 => ihb n (by omega) h2⟩
    · rw [ho] at hb0
      have e1 : atL (b.1 7 j) i = 1 := by
        rw [hb0] at q1
        exact of_decide_eq_true q1
      have hw : ¬ w &&& bitI i = 0 := fun z => by
        have := (and_bit (x := w) (k := i) (by omega)).mp z
        rw [ho] at this
        exact absurd this (by decide)
      have hS : bi (a (42 + j) 6) i = true := by
        revert hb0
        cases bi (a (42 + j) 6) i <;> simp
      have hD : bi (a (42 + j) 7) i = false := by
        revert hb0
        cases bi (a (42 + j) 7) i <;> simp
      have hF : bi (a (42 + j) 8) i = false := by
        revert hb0
        cases bi (a (42 + j) 8) i <;> simp
      by_cases c2 : a (4 + 4 * i + 2) k = v
      · have eN : jdN b.1 j k i v = 2 := jdN_2 e1 (by rw [LfR_r hL]; exact c2)
        rw [show judS a i j k w = up2 a (42 + j) 7 (a (42 + j) 7 ||| bitI i) from (bf hw).trans (bt (by rw [hv2]; exact c2)), jdS_m eN (by decide)]
        refine ⟨RP_don hj (by omega) ih hS hF, ?_, fun n h1 h2 => ?_⟩
        · dsimp only
          rw [ihc, show up2 a (42 + j) 7 (a (42 + j) 7 ||| bitI i) (42 + j) 8 = a (42 + j) 8 by simp [up2_at], ms, hF]
          rfl
        · rw [← ihb n (by omega) h2, opn_bi _ _ (by omega), opn_bi _ _ (by omega)]
          simp only [up2_at]
          simp [bi_or, later n h1 h2]
      · have c2' : ¬ rO (b.1 0 (12 * i + k)) = v := by rw [LfR_r hL]; exact c2
        by_cases c3 : a (4 + 4 * i + 1) k = v
        · by_cases c4 : a (4 + 4 * i + 3) k = 0
          · rw [show judS a i j k w = a from (bf hw).trans ((bf (by rw [hv2]; exact c2)).trans (bf_r c4))]
            obtain ⟨s1, s2⟩ := same (jdN_c c2' ((LfR_ref hL).mpr c4))
            rw [s1]
            exact ⟨ih, s2, fun n h1 h2 => ihb n (by omega) h2⟩
          · have eN : jdN b.1 j k i v = 3 := jdN_3 e1 c2' (by rw [LfR_w hL]; exact c3) (fun z => c4 ((LfR_ref hL).mp z))
            rw [show judS a i j k w = up2 a (42 + j) 8 (a (42 + j) 8 ||| bitI i) from (bf hw).trans ((bf (by rw [hv2]; exact c2)).trans (bt_tf (by rw [hv2]; exact c3) c4)), jdS_n eN rfl]
            refine ⟨RP_fai hj (by omega) ih hS hD, ?_, fun n h1 h2 => ?_⟩
            · dsimp only
              rw [ihc, show up2 a (42 + j) 8 (a (42 + j) 8 ||| bitI i) (42 + j) 8 = a (42 + j) 8 ||| bitI i by simp [up2_at], ms, bi_or, self, Bool.or_true, mnM_cong (x := a (42 + j) 8 ||| bitI i) (y := a (42 + j) 8) i (by omega) (fun n hn => by rw [bi_or, below n hn, Bool.or_false])]
              rfl
            · rw [← ihb n (by omega) h2, opn_bi _ _ (by omega), opn_bi _ _ (by omega)]
              simp only [up2_at]
              simp [bi_or, later n h1 h2]
        · rw [show judS a i j k w = a from (bf hw).trans ((bf (by rw [hv2]; exact c2)).trans (bf_l (by rw [hv2]; exact c3)))]
          obtain ⟨s1, s2⟩ := same (jdN_b c2' (by rw [LfR_w hL]; exact c3))
          rw [s1]
          exact ⟨ih, s2, fun n h1 h2 => ihb n (by omega) h2⟩
theorem opn_5 {B : Nat} {st mt : St} {j : Nat} (hj : j < 8) (h : RP B st mt) : lim (opnJ st j) 5 := by
  unfold opnJ
  exact lim_and (lim_and (h.2.2.2.2.2.1 j hj).2.1.1.1)
theorem jb_nums {B : Nat} {st mt : St} {j : Nat} (hj : j < 8) (h : RP B st mt) : lfO mt j = tn (st (42 + j) 1) ∧ jvO mt j = st (42 + j) 2 ∧ jrO mt j = st (42 + j) 3 ∧ jgO mt j = tn (st (42 + j) 0) ∧ mt 6 j >>> ((17 : Int32) &&& 31) = st (42 + j) 4 ∧ tn (st (42 + j) 1) < 12 ∧ tn (st (42 + j) 0) < 4 ∧ vR (st (42 + j) 2) := by
  have hJ := (h.2.2.2.2.2.1 j hj).1
  obtain ⟨e1, e2, e3, e4, e5⟩ := JbR_l hJ
  obtain ⟨g, k, v, r, w, hg, hk, hv, hr, hw, f1, f2, f3, f4, f5, f6⟩ := hJ
  unfold lfO jvO jrO jgO
  rw [e1, e2, e3, e4, e5, f1, f2, tn_nI (by omega), tn_nI (by omega)]
  exact ⟨rfl, rfl, rfl, rfl, rfl, hk, hg, Or.inr ⟨v, hv, f3⟩⟩
theorem judA_q {B : Nat} {st mt : St} {j : Nat} (hj : j < 8) (h : RP B st mt) : RP B (judA st j) (jdA mt j).1 ∧ (jdA mt j).2 = bcI (judA st j (42 + j) 8) := by
  obtain ⟨e1, e2, e3, e4, e5, e6, e7, e8⟩ := jb_nums hj h
  unfold judA jdA
  rw [e1, e2, judF_8 (opn_5 hj h)]
  obtain ⟨r1, r2, -⟩ := jud_q (v := st (42 + j) 2) hj e6 rfl h 5 (Nat.le_refl _)
  refine ⟨r1, ?_⟩
  rw [r2, cnt5 (r1.2.2.2.2.2.1 j hj).2.1.1.2.2]
/-! ===== starting more ===== -/
theorem swT_eq (b : St) (k lf x : Nat) (v : Int32) : swT b k lf x v = up2 (up2 (up2 b 0 (12 * x + lf) (b 0 (12 * x + lf) &&& 16256 ||| (v + 1))) 1 x (up2 b 0 (12 * x + lf) (b 0 (12 * x + lf) &&& 16256 ||| (v + 1)) 1 x + 1)) 7 k (up2 (up2 b 0 (12 * x + lf) (b 0 (12 * x + lf) &&& 16256 ||| (v + 1))) 1 x (up2 b 0 (12 * x + lf) (b 0 (12 * x + lf) &&& 16256 ||| (v + 1)) 1 x + 1) 7 k ||| (1 : Int32) <<< (nI (2 * x) &&& 31)) := by
  funext y z
  unfold swT
  simp only [up2_at]
  by_cases h7 : y = 7
  · subst h7
    simp
  · by_cases h1 : y = 1
    · subst h1
      simp
    · by_cases h0 : y = 0
      · subst h0
        simp
      · simp [h7, h1, h0]
theorem adm_sta {a : St} {i j k g q l : Nat} (hg : g < 4) (hi : i < 8) (hq : q < 8) : admG (staS a i j k) g q l = admG a g q l := by
  unfold admG staS
  have o : ∀ y, (∃ r, r < 8 ∧ y = 4 + 4 * r + 2) ∨ (36 < y ∧ y < 41) → addS (bmpV (takeW a i k (a (42 + j) 2)) i) j i y = a y := by
    intro y hy
    rw [addS_out (by omega), bmpV_out (by omega), takeW_out (by omega) (by omega) (by omega)]
  rw [o _ (Or.inl ⟨q, hq, rfl⟩), o _ (Or.inr (by omega))]
theorem memF_cong {a b : St} {g k : Nat} : ∀ n, (∀ q, q < n → admG a g q k = admG b g q k) → memF a g k n = memF b g k n
  | 0, _ => rfl
  | n + 1, h => by
    show memS a g k n (memF a g k n) = memS b g k n (memF b g k n)
    rw [memF_cong n (fun q hq => h q (by omega))]
    unfold memS
    rw [h n (by omega)]
theorem sta_6 {a : St} {i j k : Nat} (hi : i < 8) : staS a i j k (42 + j) 6 = a (42 + j) 6 ||| bitI i := by
  unfold staS addS
  rw [up2_in]
  unfold upd
  rw [if_pos rfl, bmpV_out (by omega), takeW_out (by omega) (by omega) (by omega)]
theorem RP_stS {B : Nat} {a b : St} {i j k : Nat} {v : Int32} (hj : j < 8) (hk : k < 12) (hi : i < 5) (hv : a (42 + j) 2 = v) (hvr : vR v) (hs : bi (a (42 + j) 6) i = false) (h : RP B a b) : RP (B + 1) (staS a i j k) (swT b j k i v) := by
  rw [swT_eq]
  unfold staS
  rw [hv]
  have r1 := RP_wish hi hk hvr h
  have r2 := RP_bmp hi r1
  have e6 : bmpV (takeW a i k v) i (42 + j) 6 = a (42 + j) 6 := by rw [bmpV_out (by omega), takeW_out (by omega) (by omega) (by omega)]
  refine RP_sta hj hi r2 ?_
  rw [e6]
  exact hs
theorem sta_q {B : Nat} {st mt : St} {j k g gk r : Nat} {v al : Int32} (hj : j < 8) (hk : k < 12) (hg : g < 4) (hgk : gk < 12) (hr : r < 9) (hv : st (42 + j) 2 = v) (hvr : vR v) (hr3 : st (42 + j) 3 = nI r) (h : RP B st mt) :
    ∀ i, i ≤ 5 → ∃ n, n ≤ i ∧ n ≤ r ∧ RP (B + i) (staF st j k (memF st g gk 8 &&& (st (42 + j) 6 ^^^ (-1))) i).1 (swL mt (nI r) al j k g gk v i).1 ∧ (staF st j k (memF st g gk 8 &&& (st (42 + j) 6 ^^^ (-1))) i).2 = nI n ∧ (swL mt (nI r) al j k g gk v i).2.1 = nI (r - n) ∧ (swL mt (nI r) al j k g gk v i).2.2 = al + nI n ∧ (∀ m, i ≤ m → m < 5 → bi ((staF st j k (memF st g gk 8 &&& (st (42 + j) 6 ^^^ (-1))) i).1 (42 + j) 6) m = bi (st (42 + j) 6) m) ∧ ∀ q, q < 8 → admG (staF st j k (memF st g gk 8 &&& (st (42 + j) 6 ^^^ (-1))) i).1 g q gk = admG st g q gk
  | 0, _ => ⟨0, Nat.le_refl _, Nat.zero_le _, h, rfl, rfl, (Int32.add_zero al).symm, fun m _ _ => rfl, fun q _ => rfl⟩
  | i + 1, hi => by
    obtain ⟨n, hni, hnr, ih, i2, i3, i4, i5, i6⟩ := sta_q (al := al) hj hk hg hgk hr hv hvr hr3 h i (by omega)
    have f3 := (staF_in (st := st) (j := j) (k := k) (w := memF st g gk 8 &&& (st (42 + j) 6 ^^^ (-1))) (c := 3) (by decide) i (by omega)).trans hr3
    have f2 := (staF_in (st := st) (j := j) (k := k) (w := memF st g gk 8 &&& (st (42 + j) 6 ^^^ (-1))) (c := 2) (by decide) i (by omega)).trans hv
    have hwb : bi (memF st g gk 8 &&& (st (42 + j) 6 ^^^ (-1))) i = (bi (memF st g gk 8) i && !bi (st (42 + j) 6) i) := by
      rw [bi_and, bi_xor, bi_m1 i (by omega)]
      simp
    show ∃ n, n ≤ i + 1 ∧ n ≤ r ∧ RP (B + (i + 1)) (staG j k i (memF st g gk 8 &&& (st (42 + j) 6 ^^^ (-1))) (staF st j k (memF st g gk 8 &&& (st (42 + j) 6 ^^^ (-1))) i)).1 (swS j k g gk i v (swL mt (nI r) al j k g gk v i)).1 ∧ (staG j k i (memF st g gk 8 &&& (st (42 + j) 6 ^^^ (-1))) (staF st j k (memF st g gk 8 &&& (st (42 + j) 6 ^^^ (-1))) i)).2 = nI n ∧ (swS j k g gk i v (swL mt (nI r) al j k g gk v i)).2.1 = nI (r - n) ∧ (swS j k g gk i v (swL mt (nI r) al j k g gk v i)).2.2 = al + nI n ∧ (∀ m, i + 1 ≤ m → m < 5 → bi ((staG j k i (memF st g gk 8 &&& (st (42 + j) 6 ^^^ (-1))) (staF st j k (memF st g gk 8 &&& (st (42 + j) 6 ^^^ (-1))) i)).1 (42 + j) 6) m = bi (st (42 + j) 6) m) ∧ ∀ q, q < 8 → admG (staG j k i (memF st g gk 8 &&& (st (42 + j) 6 ^^^ (-1))) (staF st j k (memF st g gk 8 &&& (st (42 + j) 6 ^^^ (-1))) i)).1 g q gk = admG st g q gk
    generalize staF st j k (memF st g gk 8 &&& (st (42 + j) 6 ^^^ (-1))) i = a at ih i2 i5 i6 f3 f2 ⊢
    generalize swL mt (nI r) al j k g gk v i = b at ih i3 i4 ⊢
    generalize memF st g gk 8 &&& (st (42 + j) 6 ^^^ (-1)) = w at hwb ⊢
    have hS := i5 i (Nat.le_refl _) (by omega)
    have hE := (ih.2.2.2.2.2.1 j hj).2.1
    have qp := ER_p hE (show i < 5 by omega)
    have hm : mlL b.1 g gk 5 = memF st g gk 8 := by rw [← mem_L hg hgk ih]; exact memF_cong 8 i6
    have hmb := shr_1 (x := memF st g gk 8) (show i < 32 by omega)
    have stay : RP (B + (i + 1)) a.1 b.1 := RP_w ih (by omega)
    have no1 : swS j k g gk i v b = b → staG j k i w a = a → ∃ n, n ≤ i + 1 ∧ n ≤ r ∧ RP (B + (i + 1)) (staG j k i w a).1 (swS j k g gk i v b).1 ∧ (staG j k i w a).2 = nI n ∧ (swS j k g gk i v b).2.1 = nI (r - n) ∧ (swS j k g gk i v b).2.2 = al + nI n ∧ (∀ m, i + 1 ≤ m → m < 5 → bi ((staG j k i w a).1 (42 + j) 6) m = bi (st (42 + j) 6) m) ∧ ∀ q, q < 8 → admG (staG j k i w a).1 g q gk = admG st g q gk := by
      intro z1 z2
      rw [z1, z2]
      exact ⟨n, by omega, hnr, stay, i2, i3, i4, fun m h1 h2 => i5 m (by omega) h2, i6⟩
    by_cases c1 : n = r
    · refine no1 (swS_1 (by rw [i3, c1, Nat.sub_self]; rfl)) ?_
      unfold staG
      rw [f3, i2, c1, decide_eq_true (show nI r ≤ nI r from nI_le (Nat.le_refl _) (by omega))]
      rfl
    · have c1' : ¬ nI r ≤ nI n := nI_ge (by omega) (by omega)
      cases hb : bi (st (42 + j) 6) i
      · rw [hb] at hwb hS
        rw [hS] at qp
        have n2 : ¬ 0 < atL (b.1 7 j) i := of_decide_eq_false qp
        cases hmm : bi (memF st g gk 8) i
        · rw [hmm] at hwb hmb
          refine no1 (swS_3 (by rw [hm, hmb]; rfl)) ?_
          unfold staG
          rw [decide_eq_true ((and_bit (x := w) (k := i) (by omega)).mpr hwb)]
          simp
        · rw [hmm] at hwb hmb
          have n3 : ¬ mlL b.1 g gk 5 >>> (nI i &&& 31) &&& 1 = 0 := by rw [hm, hmb]; decide
          have nw : ¬ w &&& bitI i = 0 := fun z => by
            have := (and_bit (x := w) (k := i) (by omega)).mp z
            rw [hwb] at this
            exact absurd this (by decide)
          rw [swS_4 (by rw [i3]; exact nI_ne0 (by omega) (by omega)) n2 n3]
          have eG : staG j k i w a = (staS a.1 i j k, a.2 + 1) := by
            unfold staG
            rw [f3, i2, decide_eq_false c1', decide_eq_false nw]
            rfl
          rw [eG]
          dsimp only
          refine ⟨n + 1, by omega, by omega, RP_stS hj hk (by omega) f2 hvr hS ih, by rw [i2, nI_1], ?_, ?_, fun m h1 h2 => ?_, fun q hq => ?_⟩
          · rw [i3, show r - n = (r - (n + 1)) + 1 by omega, pk_m1]
          · rw [i4, Int32.add_assoc, nI_1]
          · rw [sta_6 (by omega), bi_or, i5 m (by omega) h2, bi_bit i (by omega) m (by omega), decide_eq_false (by omega), Bool.or_false]
          · rw [adm_sta hg (by omega) hq]
            exact i6 q hq
      · rw [hb] at hwb hS
        rw [hS] at qp
        refine no1 (swS_2 (of_decide_eq_true qp)) ?_
        unfold staG
        rw [decide_eq_true ((and_bit (x := w) (k := i) (by omega)).mpr (by rw [hwb]; simp))]
        simp
theorem staG_skip {j k i : Nat} {w : Int32} {a : St × Int32} (hi : i < 32) (h : bi w i = false) : staG j k i w a = a := by
  unfold staG
  rw [decide_eq_true ((and_bit hi).mpr h)]
  simp
theorem staF_8 {st : St} {j k : Nat} {w : Int32} (h : lim w 5) : staF st j k w 8 = staF st j k w 5 := by
  show staG j k 7 w (staG j k 6 w (staG j k 5 w (staF st j k w 5))) = _
  rw [staG_skip (by omega) (h 5 (by omega) (by omega)), staG_skip (by omega) (h 6 (by omega) (by omega)), staG_skip (by omega) (h 7 (by omega) (by omega))]
theorem staA_q {B : Nat} {st mt : St} {j : Nat} {al : Int32} (hj : j < 8) (h : RP B st mt) : RP (B + 5) (staA st j).1 (swA mt j (st (42 + j) 2) al (tn (st (42 + j) 1))).1 ∧ (swA mt j (st (42 + j) 2) al (tn (st (42 + j) 1))).2.2 = al + (staA st j).2 := by
  obtain ⟨e1, e2, e3, e4, e5, e6, e7, e8⟩ := jb_nums hj h
  obtain ⟨g0, k0, v0, r0, w0, hg0, hk0, hv0, hr0, hw0, f1, f2, f3, f4, f5, f6⟩ := (h.2.2.2.2.2.1 j hj).1
  have hG := h.2.2.2.2.1 (tn (st (42 + j) 0)) e7
  obtain ⟨d1, d2, d3⟩ := GrR_l hG
  obtain ⟨k1, lo, hi, hk1, hlo, hhi, c1, c2, c3, c4⟩ := hG
  have eg : gkO mt (tn (st (42 + j) 0)) = k1 := by
    unfold gkO
    rw [d1, c1, tn_nI (by omega)]
  have et : tn (st (37 + tn (st (42 + j) 0)) 0) = k1 := by rw [c1, tn_nI (by omega)]
  unfold staA swA wtgW
  rw [e3, e4, eg, et, f4]
  obtain ⟨n, hn1, hn2, r1, r2, r3, r4, -, -⟩ := sta_q (k := tn (st (42 + j) 1)) (g := tn (st (42 + j) 0)) (gk := k1) (v := st (42 + j) 2) (al := al) hj e6 e7 hk1 hr0 rfl e8 f4 h 5 (Nat.le_refl _)
  have hl : lim (memF st (tn (st (42 + j) 0)) k1 8 &&& (st (42 + j) 6 ^^^ (-1))) 5 := lim_and (by rw [mem_8 e7 hk1 h]; exact lim_5 5 (Nat.le_refl _))
  rw [staF_8 hl]
  exact ⟨r1, by rw [r4, r2]⟩
/-! ===== a wave ===== -/
theorem wav_q {B : Nat} {st mt : St} {jc : Nat} (hjc : jc ≤ 8) (hj0 : st 0 4 = nI jc) (h : RP B st mt) :
    ∀ i, i ≤ jc → RP (B + 5 * i) (wavF st i).1 (wvL mt i).1 ∧ (wavF st i).2 = (wvL mt i).2
  | 0, _ => ⟨h, rfl⟩
  | i + 1, hi => by
    obtain ⟨ih, ihc⟩ := wav_q hjc hj0 h i (by omega)
    have h04 : (wavF st i).1 0 4 = nI jc := (wavF_0 i).trans hj0
    show RP (B + 5 * (i + 1)) (wavS i (wavF st i)).1 (wvS i (wvL mt i)).1 ∧ (wavS i (wavF st i)).2 = (wvS i (wvL mt i)).2
    generalize wavF st i = a at ih ihc h04 ⊢
    generalize wvL mt i = b at ih ihc ⊢
    obtain ⟨-, -, g3, g4⟩ := ih.2.2.2.2.2.1 i (by omega)
    obtain ⟨rj, rjc⟩ := judA_q (j := i) (by omega) ih
    obtain ⟨n1, n2, -, -, -, -, -, -⟩ := jb_nums (j := i) (by omega) ih
    obtain ⟨m1, m2, m3, m4, m5, m6, m7, m8⟩ := jb_nums (j := i) (by omega) rj
    have h04j : judA a.1 i 0 4 = nI jc := by rw [judA_out (by omega)]; exact h04
    have v2 : judA a.1 i (42 + i) 2 = a.1 (42 + i) 2 := judA_in (by decide) (by decide)
    have v1 : judA a.1 i (42 + i) 1 = a.1 (42 + i) 1 := judA_in (by decide) (by decide)
    have rs := staA_q (j := i) (al := b.2) (by omega) rj
    rw [v2, v1] at rs
    by_cases c1 : a.1 (42 + i) 5 = 0
    · have c1' : b.1 8 i ≤ 0 := by rw [g3, c1]; decide
      rw [show wavS i a = ((advF a.1 i).1, a.2 + (advF a.1 i).2) from bt c1]
      by_cases c2 : bcI (judA a.1 i (42 + i) 8) < judA a.1 i (42 + i) 4
      · rw [show advF a.1 i = staA (judA a.1 i) i from bt c2, wvS_2 c1' (by rw [rjc, m5]; exact c2), n1, n2]
        dsimp only
        refine ⟨RP_w rs.1 (show B + 5 * i + 5 ≤ B + 5 * (i + 1) by omega), ?_⟩
        rw [rs.2, ihc]
      · rw [show advF a.1 i = (up2 (judA a.1 i) (42 + i) 5 1, 0) from bf c2, wvS_3 c1' (by rw [rjc, m5]; exact c2)]
        exact ⟨RP_w (RP_cnd (by omega) hjc h04j (Or.inl rfl) rj) (by omega), by dsimp only; rw [ihc]; exact Int32.add_zero _⟩
    · have c1' : ¬ b.1 8 i ≤ 0 := by
        rw [g3]
        rcases g4 with z | z | z
        · exact absurd z c1
        · rw [z]; decide
        · rw [z]; decide
      rw [show wavS i a = a from bf c1, wvS_1 c1']
      exact ⟨RP_w ih (by omega), ihc⟩
