/-! ===== jobs ===== -/
theorem jc_eq {a b : Nat} (ha : a ≤ 8) (hb : b ≤ 8) (h : nI a = nI b) : a = b := (nI_eq (by omega) (by omega)).mp h
theorem Rel_job {st mt : St} {j c : Nat} {v : Int32} (hj : j < 8) (hc : c < 9) (h0 : c = 0 → inR v 4) (h1 : c = 1 → inR v 12) (h2 : c = 2 → vR v) (h6 : 5 < c → lim v 8) (h5 : c = 5 → v = 0 ∨ ∃ jc, jc ≤ 8 ∧ st 0 4 = nI jc ∧ j < jc) (h : Rel st mt) : Rel (up2 st (42 + j) c v) (up2 mt (12 + c) j v) := by
  have o : ∀ i, i ≠ 42 + j → up2 st (42 + j) c v i = st i := fun i h1 => up2_out _ _ h1
  have om : ∀ a, (a < 12 ∨ 20 < a) → up2 mt (12 + c) j v a = mt a := fun a h1 => up2_out _ _ (by omega)
  refine ⟨RelD_cong h.1 (fun i _ _ => o i (by omega)) (fun a _ _ => om a (by omega)), RelF_cong h.2.1 (o 1 (by omega)) (o 2 (by omega)) (om 8 (by omega)), RelG_cong h.2.2.1 (fun i _ _ => o i (by omega)) (fun a _ _ => om a (by omega)), ⟨fun r hr => ?_, ?_⟩⟩
  · have hJ := h.2.2.2.1 r hr
    by_cases e : r = j
    · subst e
      obtain ⟨⟨a0, a1, a2, a3, a4, a5, a6, a7, a8⟩, ⟨b0, b1, b2⟩, ⟨d6, d7, d8⟩⟩ := hJ
      unfold JobR
      simp only [up2_at]
      rcases (by omega : c = 0 ∨ c = 1 ∨ c = 2 ∨ c = 3 ∨ c = 4 ∨ c = 5 ∨ c = 6 ∨ c = 7 ∨ c = 8) with rfl | rfl | rfl | rfl | rfl | rfl | rfl | rfl | rfl <;> simp [a0, a1, a2, a3, a4, a5, a6, a7, a8, b0, b1, b2, d6, d7, d8] <;> first
        | exact h0 rfl
        | exact h1 rfl
        | exact h2 rfl
        | exact h6 (by decide)
    · refine JobR_cong hJ (fun i _ => by rw [o _ (by omega)]) (fun a _ _ => ?_)
      rw [up2_at, if_neg (by omega)]
  · obtain ⟨jc, g1, g2, g3, g4⟩ := h.2.2.2.2
    refine ⟨jc, g1, by rw [o 0 (by omega)]; exact g2, by rw [om 0 (by omega)]; exact g3, fun r hr1 hr2 => ?_⟩
    rw [up2_at]
    by_cases e : 42 + r = 42 + j ∧ 5 = c
    · rw [if_pos e]
      rcases h5 e.2.symm with z | ⟨jd, z1, z2, z3⟩
      · exact z
      · have := jc_eq g1 z1 (g2.symm.trans z2)
        omega
    · rw [if_neg e]
      exact g4 r hr1 hr2
theorem opM_eq {st mt : St} {j : Nat} (hj : j < 8) (h : RelJ st mt) : opM mt j = opnJ st j := by
  obtain ⟨-, -, -, -, -, -, a6, a7, a8⟩ := (h.1 j hj).1
  unfold opM opnJ
  rw [a6, a7, a8]
theorem opn_lim {st mt : St} {j : Nat} (hj : j < 8) (h : RelJ st mt) : lim (opnJ st j) 8 := by
  unfold opnJ
  exact lim_and (lim_and (h.1 j hj).2.2.1)
theorem opM_bi (b : St) (j : Nat) {n : Nat} (hn : n < 32) : bi (opM b j) n = (bi (b 18 j) n && !bi (b 19 j) n && !bi (b 20 j) n) := by
  unfold opM
  rw [bi_and, bi_and, bi_xor, bi_xor, bi_m1 n hn]
  simp
theorem jud_rel {st mt : St} {j k : Nat} {w : Int32} (hj : j < 8) (hk : k < 12) (h : Rel st mt) (hw : opM mt j = w) :
    ∀ i, i ≤ 8 → Rel (judF st j k w i) (lkM mt j k i) ∧ ∀ n, i ≤ n → n < 8 → bi (opM (lkM mt j k i) j) n = bi w n
  | 0, _ => ⟨h, fun n _ _ => by show bi (opM mt j) n = _; rw [hw]⟩
  | i + 1, hi => by
    obtain ⟨ih, ihb⟩ := jud_rel hj hk h hw i (by omega)
    show Rel (judS (judF st j k w i) i j k w) (lkS i j k (lkM mt j k i)) ∧ ∀ n, i + 1 ≤ n → n < 8 → bi (opM (lkS i j k (lkM mt j k i)) j) n = bi w n
    generalize judF st j k w i = a at ih ⊢
    generalize lkM mt j k i = b at ih ihb ⊢
    have hb0 := ihb i (Nat.le_refl _) (by omega)
    have c1 : decide (opM b j >>> (nI i &&& 31) &&& 1 = 1) = !decide (w &&& bitI i = 0) := by
      have h1 := shr_t (x := opM b j) (show i < 32 by omega)
      rw [and_bit (show i < 32 by omega), hb0, ← and_bit (show i < 32 by omega)] at h1
      rw [decide_eq_decide.mpr h1, decide_not]
    obtain ⟨g1, g2, g3, -, -, g6⟩ := (ih.1 i (by omega)).1.1 k hk
    have hJ := ih.2.2.2.1 j hj
    have c2 : decide (b 2 (12 * i + k) = b 14 j + 1) = decide (a (4 + 4 * i + 2) k = a (42 + j) 2) := by
      rw [g2, hJ.1.2.2.1]
      exact decide_eq_decide.mpr inc_inj
    have c3 : decide (b 1 (12 * i + k) = b 14 j + 1) = decide (a (4 + 4 * i + 1) k = a (42 + j) 2) := by
      rw [g1, hJ.1.2.2.1]
      exact decide_eq_decide.mpr inc_inj
    have c4 : decide (b 3 (12 * i + k) ≤ 0) = decide (a (4 + 4 * i + 3) k = 0) := by
      rw [g3]
      exact decide_eq_decide.mpr (rR_0 g6)
    unfold judS lkS
    rw [c1, c2, c3, c4]
    have later : ∀ n, i + 1 ≤ n → n < 8 → bi (bitI i) n = false := fun n h1 h2 => by rw [bi_bit i (by omega) n (by omega), decide_eq_false (by omega)]
    cases decide (w &&& bitI i = 0)
    · simp only [cond_false, Bool.not_false, cond_true]
      cases decide (a (4 + 4 * i + 2) k = a (42 + j) 2)
      · simp only [cond_false]
        cases (decide (a (4 + 4 * i + 1) k = a (42 + j) 2) && !decide (a (4 + 4 * i + 3) k = 0))
        · exact ⟨ih, fun n h1 h2 => ihb n (by omega) h2⟩
        · simp only [cond_true]
          refine ⟨?_, fun n h1 h2 => ?_⟩
          · rw [hJ.1.2.2.2.2.2.2.2.2]
            exact Rel_job (c := 8) hj (by omega) (fun z => by omega) (fun z => by omega) (fun z => by omega) (fun _ => lim_or (by omega) hJ.2.2.2.2) (fun z => by omega) ih
          · rw [← ihb n (by omega) h2, opM_bi _ _ (by omega), opM_bi _ _ (by omega)]
            simp only [up2_at]
            simp [bi_or, later n h1 h2]
      · simp only [cond_true]
        refine ⟨?_, fun n h1 h2 => ?_⟩
        · rw [hJ.1.2.2.2.2.2.2.2.1]
          exact Rel_job (c := 7) hj (by omega) (fun z => by omega) (fun z => by omega) (fun z => by omega) (fun _ => lim_or (by omega) hJ.2.2.2.1) (fun z => by omega) ih
        · rw [← ihb n (by omega) h2, opM_bi _ _ (by omega), opM_bi _ _ (by omega)]
          simp only [up2_at]
          simp [bi_or, later n h1 h2]
    · simp only [cond_true, Bool.not_true, cond_false]
      exact ⟨ih, fun n h1 h2 => ihb n (by omega) h2⟩
theorem ssM_eq (i j k : Nat) (b : St) : ssM i j k b = up2 (up2 (wiM b i k (b 14 j + 1)) 4 i (wiM b i k (b 14 j + 1) 4 i + 1)) 18 j (up2 (wiM b i k (b 14 j + 1)) 4 i (wiM b i k (b 14 j + 1) 4 i + 1) 18 j ||| bitI i) := by
  funext x y
  unfold ssM wiM
  simp only [up2_at]
  by_cases h18 : x = 18
  · subst h18
    simp
  · by_cases h4 : x = 4
    · subst h4
      simp
    · simp [h18, h4]
theorem sta_rel {st mt : St} {j k : Nat} {w : Int32} (hj : j < 8) (hk : k < 12) (h : Rel st mt) :
    ∀ i, i ≤ 8 → Rel (staF st j k w i).1 (stM mt j k w i).1 ∧ (staF st j k w i).2 = (stM mt j k w i).2
  | 0, _ => ⟨h, rfl⟩
  | i + 1, hi => by
    obtain ⟨ih, ihc⟩ := sta_rel (w := w) hj hk h i (by omega)
    show Rel (staG j k i w (staF st j k w i)).1 (sgM i j k w (stM mt j k w i)).1 ∧ (staG j k i w (staF st j k w i)).2 = (sgM i j k w (stM mt j k w i)).2
    generalize staF st j k w i = a at ih ihc ⊢
    generalize stM mt j k w i = b at ih ihc ⊢
    have hJ := ih.2.2.2.1 j hj
    have c1 : decide (¬ w >>> (nI i &&& 31) &&& 1 = 1) = decide (w &&& bitI i = 0) := by
      have h1 := shr_t (x := w) (show i < 32 by omega)
      refine decide_eq_decide.mpr ?_
      rw [h1]
      exact Classical.not_not
    unfold staG sgM
    rw [c1, ← ihc, hJ.1.2.2.2.1]
    cases (!decide (a.1 (42 + j) 3 ≤ a.2) && !decide (w &&& bitI i = 0))
    · exact ⟨ih, ihc⟩
    · simp only [cond_true]
      refine ⟨?_, trivial⟩
      rw [ssM_eq]
      unfold staS
      rw [hJ.1.2.2.1]
      have r1 : Rel (takeW a.1 i k (a.1 (42 + j) 2)) (wiM b.1 i k (a.1 (42 + j) 2 + 1)) := Rel_wish (by omega) hk hJ.2.1.2.2 ih
      have r2 : Rel (bmpV (takeW a.1 i k (a.1 (42 + j) 2)) i) (up2 (wiM b.1 i k (a.1 (42 + j) 2 + 1)) 4 i (wiM b.1 i k (a.1 (42 + j) 2 + 1) 4 i + 1)) := by
        rw [(r1.1 i (by omega)).1.2.1]
        exact Rel_num (i := 4) (a := 4) (by omega) (Or.inl ⟨rfl, rfl⟩) (fun z => absurd z (by decide)) r1
      generalize bmpV (takeW a.1 i k (a.1 (42 + j) 2)) i = a2 at r2 ⊢
      generalize up2 (wiM b.1 i k (a.1 (42 + j) 2 + 1)) 4 i (wiM b.1 i k (a.1 (42 + j) 2 + 1) 4 i + 1) = b2 at r2 ⊢
      have hJ2 := r2.2.2.2.1 j hj
      unfold addS
      rw [hJ2.1.2.2.2.2.2.2.1]
      exact Rel_job (c := 6) hj (by omega) (fun z => by omega) (fun z => by omega) (fun z => by omega) (fun _ => lim_or (by omega) hJ2.2.2.1) (fun z => by omega) r2
theorem judA_rel {st mt : St} {j : Nat} (hj : j < 8) (h : Rel st mt) : Rel (judA st j) (lkA mt j) := by
  have hJ := h.2.2.2.1 j hj
  have e1 := inR_tn (by decide) hJ.2.1.2.1
  unfold judA lkA
  rw [hJ.1.2.1]
  exact (jud_rel hj e1.2 h (opM_eq hj h.2.2.2) 8 (Nat.le_refl _)).1
theorem staA_rel {st mt : St} {j : Nat} (hj : j < 8) (h : Rel st mt) : Rel (staA st j).1 (stA mt j).1 ∧ (staA st j).2 = (stA mt j).2 := by
  have hJ := h.2.2.2.1 j hj
  have e1 := inR_tn (by decide) hJ.2.1.2.1
  have e0 := inR_tn (by decide) hJ.2.1.1
  have hG := h.2.2.1 (tn (st (42 + j) 0)) e0.2
  have e2 := inR_tn (by decide) hG.2.2.2
  have hw : wtgW st j = mbM mt (tn (mt 12 j)) (tn (mt 9 (tn (mt 12 j)))) 8 &&& (mt 18 j ^^^ (-1)) := by
    unfold wtgW
    rw [hJ.1.1, hG.1, hJ.1.2.2.2.2.2.2.1, mem_eq e0.2 e2.2 h.1 h.2.2.1 8 (Nat.le_refl _)]
  unfold staA stA
  rw [hw, hJ.1.2.1]
  exact sta_rel hj e1.2 h 8 (Nat.le_refl _)
theorem wav_rel {st mt : St} {jc : Nat} (hjc : jc ≤ 8) (hj0 : st 0 4 = nI jc) (h : Rel st mt) :
    ∀ i, i ≤ jc → Rel (wavF st i).1 (wvM mt i).1 ∧ (wavF st i).2 = (wvM mt i).2
  | 0, _ => ⟨h, rfl⟩
  | i + 1, hi => by
    obtain ⟨ih, ihc⟩ := wav_rel hjc hj0 h i (by omega)
    have h04 : (wavF st i).1 0 4 = nI jc := (wavF_0 i).trans hj0
    show Rel (wavS i (wavF st i)).1 (wvSR i (wvM mt i)).1 ∧ (wavS i (wavF st i)).2 = (wvSR i (wvM mt i)).2
    generalize wavF st i = a at ih ihc h04 ⊢
    generalize wvM mt i = b at ih ihc ⊢
    have hJ := ih.2.2.2.1 i (by omega)
    have rj := judA_rel (j := i) (by omega) ih
    have h04j : judA a.1 i 0 4 = nI jc := by rw [judA_out (by omega)]; exact h04
    have rs := staA_rel (j := i) (by omega) rj
    unfold wavS wvSR advF
    rw [hJ.1.2.2.2.2.2.1]
    generalize judA a.1 i = a1 at rj rs h04j ⊢
    generalize lkA b.1 i = b1 at rj rs ⊢
    have hJ1 := rj.2.2.2.1 i (by omega)
    rw [hJ1.1.2.2.2.2.1, hJ1.1.2.2.2.2.2.2.2.2, cnt (lim_mono hJ1.2.2.2.2 (by omega))]
    cases decide (a.1 (42 + i) 5 = 0)
    · exact ⟨ih, ihc⟩
    · simp only [cond_true]
      cases decide (bcI (a1 (42 + i) 8) < a1 (42 + i) 4)
      · simp only [cond_false]
        exact ⟨Rel_job (c := 5) (by omega) (by omega) (fun z => by omega) (fun z => by omega) (fun z => by omega) (fun z => by omega) (fun _ => Or.inr ⟨jc, hjc, h04j, by omega⟩) rj, by rw [ihc]; exact Int32.add_zero _⟩
      · simp only [cond_true]
        exact ⟨rs.1, by rw [ihc, rs.2]⟩
/-! ===== a job comes ===== -/
theorem Rel_add {st mt : St} {g k jc : Nat} {x y z : Int32} (hg : g < 4) (hk : k < 12) (hjc : jc < 8) (hj0 : st 0 4 = nI jc) (hx : vR x) (h : Rel st mt) : Rel (incJ (adjF st jc (nI g) (nI k) x y z)) (icM (ajM mt jc (nI g) (nI k) x y z)) := by
  have r0 := Rel_job (c := 0) (v := nI g) hjc (by omega) (fun _ => inR_nI hg) (fun z => by omega) (fun z => by omega) (fun z => by omega) (fun z => by omega) h
  have r1 := Rel_job (c := 1) (v := nI k) hjc (by omega) (fun z => by omega) (fun _ => inR_nI hk) (fun z => by omega) (fun z => by omega) (fun z => by omega) r0
  have r2 := Rel_job (c := 2) (v := x) hjc (by omega) (fun z => by omega) (fun z => by omega) (fun _ => hx) (fun z => by omega) (fun z => by omega) r1
  have r3 := Rel_job (c := 3) (v := y) hjc (by omega) (fun z => by omega) (fun z => by omega) (fun z => by omega) (fun z => by omega) (fun z => by omega) r2
  have r4 := Rel_job (c := 4) (v := z) hjc (by omega) (fun z => by omega) (fun z => by omega) (fun z => by omega) (fun z => by omega) (fun z => by omega) r3
  have r5 := Rel_job (c := 5) (v := 0) hjc (by omega) (fun z => by omega) (fun z => by omega) (fun z => by omega) (fun z => by omega) (fun _ => Or.inl rfl) r4
  have e5 : adjF st jc (nI g) (nI k) x y z (42 + jc) 5 = 0 := by
    obtain ⟨jd, g1, g2, -, g4⟩ := h.2.2.2.2
    have := jc_eq g1 (by omega) (g2.symm.trans hj0)
    simp only [adjF, up2_at]
    simp
    exact g4 jc (by omega) hjc
  have e6 : up2 (adjF st jc (nI g) (nI k) x y z) (42 + jc) 5 0 = adjF st jc (nI g) (nI k) x y z := by
    have := up2_same (adjF st jc (nI g) (nI k) x y z) (42 + jc) 5
    rwa [e5] at this
  have r6 : Rel (adjF st jc (nI g) (nI k) x y z) (ajM mt jc (nI g) (nI k) x y z) := by
    rw [← e6]
    exact r5
  have h04 : adjF st jc (nI g) (nI k) x y z 0 4 = nI jc := by
    simp only [adjF, up2_at]
    have n : ¬ 0 = 42 + jc := by omega
    simp [n]
    exact hj0
  have m04 : ajM mt jc (nI g) (nI k) x y z 0 12 = nI jc := by
    obtain ⟨jd, g1, g2, g3, -⟩ := h.2.2.2.2
    have := jc_eq g1 (by omega) (g2.symm.trans hj0)
    subst this
    simp only [ajM, up2_at]
    simp
    exact g3
  generalize adjF st jc (nI g) (nI k) x y z = a at r6 h04 ⊢
  generalize ajM mt jc (nI g) (nI k) x y z = b at r6 m04 ⊢
  have o : ∀ i, i ≠ 0 → incJ a i = a i := fun i h1 => up2_out _ _ h1
  have om : ∀ i, i ≠ 0 → icM b i = b i := fun i h1 => up2_out _ _ h1
  refine ⟨RelD_cong r6.1 (fun i _ _ => o i (by omega)) (fun i _ _ => om i (by omega)), RelF_cong r6.2.1 (o 1 (by omega)) (o 2 (by omega)) (om 8 (by omega)), RelG_cong r6.2.2.1 (fun i _ _ => o i (by omega)) (fun i _ _ => om i (by omega)), ⟨fun j hj => JobR_cong (r6.2.2.2.1 j hj) (fun i _ => by rw [o _ (by omega)]) (fun i _ _ => by rw [om _ (by omega)]), jc + 1, by omega, ?_, ?_, fun j h1 h2 => ?_⟩⟩
  · simp only [incJ, up2_at]
    simp [h04, nI_1]
  · simp only [icM, up2_at]
    simp [m04, nI_1]
  · obtain ⟨jd, g1, g2, -, g4⟩ := r6.2.2.2.2
    have := jc_eq g1 (by omega) (g2.symm.trans h04)
    rw [o _ (by omega)]
    exact g4 j (by omega) h2
