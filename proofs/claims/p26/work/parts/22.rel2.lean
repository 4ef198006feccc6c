/-! ===== the draft ===== -/
theorem hasF_bi {st : St} {k : Nat} (hk : k < 32) : hasF st k = bi (st 1 1) k := by
  unfold hasF
  have h := and_bit (x := st 1 1) hk
  cases hb : bi (st 1 1) k
  · rw [decide_eq_true (h.mpr hb)]; rfl
  · rw [decide_eq_false (fun z => Bool.false_ne_true ((h.mp z).symm.trans hb))]; rfl
theorem vR_2 {v : Int32} (h : vR v) : ¬ v + 2 ≤ 0 := by
  rcases h with rfl | ⟨n, hn, rfl⟩
  · decide
  · rw [show (2 : Int32) = nI 2 from rfl, nI_add]
    exact nI_nle (by omega) (by omega)
theorem dec_2 (v : Int32) : v + 2 - 1 = v + 1 := by
  rw [show (2 : Int32) = 1 + 1 from rfl, ← Int32.add_assoc, Int32.add_sub_cancel]
theorem RelF_pos {st mt : St} (h : RelF st mt) {k : Nat} (hk : k < 12) : mt 8 k ≤ 0 ↔ hasF st k = false := by
  obtain ⟨h1, h2⟩ := h.1 k hk
  rw [h1]
  cases hf : hasF st k
  · rw [cond_false]
    exact ⟨fun _ => rfl, fun _ => by decide⟩
  · rw [cond_true]
    exact ⟨fun z => absurd z (vR_2 (h2 hf)), fun z => by cases z⟩
theorem drM_cnt {st mt : St} (h : RelF st mt) : ∀ i, i ≤ 12 → drM mt i = mnM (st 1 1) i
  | 0, _ => rfl
  | i + 1, hi => by
    show drSR mt i (drM mt i) = mnS (st 1 1) i (mnM (st 1 1) i)
    rw [drM_cnt h i (by omega)]
    unfold mnS
    rw [shr_1 (by omega), ← hasF_bi (by omega)]
    have h1 := RelF_pos h (show i < 12 by omega)
    cases hf : hasF st i
    · exact drS_tR (h1.mpr hf)
    · exact drS_fR (fun z => Bool.false_ne_true ((h1.mp z).symm.trans hf))
theorem drM_eq {st mt : St} (h : RelF st mt) : drM mt 12 = bcI (st 1 1) := by
  rw [drM_cnt h 12 (Nat.le_refl _), cnt h.2]
theorem RelF_asg {st mt : St} {k : Nat} {v : Int32} (hk : k < 12) (hv : vR v) (h : RelF st mt) : RelF (asgF st k v) (up2 mt 8 k (v + 2)) := by
  have e11 : asgF st k v 1 1 = st 1 1 ||| bitI k := by simp [asgF, up2_at]
  refine ⟨fun i hi => ?_, by rw [e11]; exact lim_or hk h.2⟩
  rw [hasF_bi (by omega), e11, bi_or, bi_bit k (by omega) i (by omega), ← hasF_bi (by omega)]
  have e2 : asgF st k v 2 i = if i = k then v else st 2 i := by simp [asgF, up2_at]
  rw [e2, up2_at]
  by_cases e : i = k
  · subst e
    simp [hv]
  · have h1 := h.1 i hi
    simp [e, h1.1]
    exact h1.2
theorem Rel_asg {st mt : St} {k : Nat} {v : Int32} (hk : k < 12) (hv : vR v) (h : Rel st mt) : Rel (asgF st k v) (up2 mt 8 k (v + 2)) := by
  have o : ∀ i, i ≠ 1 → i ≠ 2 → asgF st k v i = st i := fun i h1 h2 => by unfold asgF; rw [up2_out _ _ h1, up2_out _ _ h2]
  exact ⟨RelD_cong h.1 (fun i _ _ => o i (by omega) (by omega)) (fun a _ _ => up2_out _ _ (by omega)), RelF_asg hk hv h.2.1, RelG_cong h.2.2.1 (fun i _ _ => o i (by omega) (by omega)) (fun a _ _ => up2_out _ _ (by omega)), RelJ_cong h.2.2.2 (fun i _ _ => o i (by omega) (by omega)) (fun a _ _ => up2_out _ _ (by omega)) (by rw [o 0 (by omega) (by omega)]) (by rw [up2_out _ _ (by omega)])⟩
theorem emM_out {mt : St} {a : Nat} (h : a ≠ 8) : ∀ i, emM mt i a = mt a
  | 0 => rfl
  | i + 1 => (up2_out (emM mt i) 0 h).trans (emM_out h i)
theorem emM_8 {mt : St} : ∀ i k, k < i → emM mt i 8 k = 0
  | 0, k, h => absurd h (Nat.not_lt_zero k)
  | i + 1, k, h => by
    show up2 (emM mt i) 8 i 0 8 k = 0
    rw [up2_at]
    by_cases e : k = i
    · simp [e]
    · simp [e, emM_8 i k (by omega)]
theorem Rel_emp {st mt : St} (h : Rel st mt) : Rel (empF st) (emM mt 12) := by
  have o : ∀ i, i ≠ 1 → empF st i = st i := fun i h1 => up2_out _ _ h1
  have e11 : empF st 1 1 = 0 := by simp [empF, up2_at]
  refine ⟨RelD_cong h.1 (fun i _ _ => o i (by omega)) (fun a _ _ => emM_out (by omega) 12), ⟨fun k hk => ?_, by rw [e11]; exact lim_0 12⟩, RelG_cong h.2.2.1 (fun i _ _ => o i (by omega)) (fun a _ _ => emM_out (by omega) 12), RelJ_cong h.2.2.2 (fun i _ _ => o i (by omega)) (fun a _ _ => emM_out (by omega) 12) (by rw [o 0 (by omega)]) (by rw [emM_out (by omega) 12])⟩
  have hf : hasF (empF st) k = false := by rw [hasF_bi (by omega), e11, bi_0]
  rw [hf, emM_8 12 k hk]
  exact ⟨rfl, fun z => by cases z⟩
/-! ===== merging the draft ===== -/
theorem merW_rel {st mt : St} {q : Nat} (hq : q < 8) (h : Rel st mt) : ∀ i, i ≤ 12 → Rel (merW st q i) (wlM mt q i)
  | 0, _ => h
  | i + 1, hi => by
    have ih := merW_rel hq h i (by omega)
    show Rel (merWs q i (merW st q i)) (wlS q i (wlM mt q i))
    generalize merW st q i = a at ih ⊢
    generalize wlM mt q i = b at ih ⊢
    have h1 := RelF_pos ih.2.1 (show i < 12 by omega)
    cases hf : hasF a i
    · rw [merWs_f hf, wlS_t (h1.mpr hf)]
      exact ih
    · rw [merWs_t hf, wlS_f (fun z => Bool.false_ne_true ((h1.mp z).symm.trans hf))]
      have h2 := ih.2.1.1 i (by omega)
      have e : b 8 i - 1 = a 2 i + 1 := by rw [h2.1, hf, cond_true, dec_2]
      rw [e]
      exact Rel_wish hq (by omega) (h2.2 hf) ih
theorem up2_same (b : St) (i k : Nat) : up2 b i k (b i k) = b := by
  funext a c
  rw [up2_at]
  by_cases h : a = i ∧ c = k
  · rw [if_pos h, h.1, h.2]
  · rw [if_neg h]
theorem merR_rel {st mt : St} {q : Nat} (hq : q < 8) (h : Rel st mt) : ∀ i, i ≤ 12 → Rel (merR st q i) (rpM mt q i)
  | 0, _ => h
  | i + 1, hi => by
    have ih := merR_rel hq h i (by omega)
    show Rel (merRs q i (merR st q i)) (rpS q i (rpM mt q i))
    generalize merR st q i = a at ih ⊢
    generalize rpM mt q i = b at ih ⊢
    have h1 := RelF_pos ih.2.1 (show i < 12 by omega)
    cases hf : hasF a i
    · rw [merRs_f hf, rpS_t (h1.mpr hf), up2_same]
      exact ih
    · rw [merRs_t hf, rpS_f (fun z => Bool.false_ne_true ((h1.mp z).symm.trans hf))]
      have h2 := ih.2.1.1 i (by omega)
      have e : b 8 i - 1 = a 2 i + 1 := by rw [h2.1, hf, cond_true, dec_2]
      rw [e]
      exact Rel_rep hq (by omega) (h2.2 hf) ih
/-! ===== differences ===== -/
theorem dif_eq {st mt : St} {q k : Nat} (hq : q < 8) (hk : k < 12) (h : RelD st mt) : difM mt q k = unl st q k := by
  obtain ⟨h1, h2, h3, h4, h5, h6⟩ := (h q hq).1.1 k hk
  unfold difM unl
  rw [h1, h2, h3, decide_eq_decide.mpr (vR_inc h4), decide_eq_decide.mpr (inc_inj (a := st (4 + 4 * q + 2) k) (b := st (4 + 4 * q + 1) k))]
theorem dgM_msk {a : St} {q : Nat} : ∀ n, dgM a q n = mskF (difM a q) n
  | 0 => rfl
  | n + 1 => by
    show dgSR a q n (dgM a q n) = mskS (difM a q) n (mskF (difM a q) n)
    rw [dgM_msk n]
    rfl
theorem dgM_eq {st mt : St} {q : Nat} (hq : q < 8) (h : RelD st mt) : dgM mt q 12 = st (4 + 4 * q) 3 := by
  rw [dgM_msk, (h q hq).2]
  exact mskF_cong 12 (fun k hk => dif_eq hq hk h)
theorem dgM_cnt {st mt : St} {q : Nat} (hq : q < 8) (h : RelD st mt) : mnM (dgM mt q 12) 12 = bcI (st (4 + 4 * q) 3) := by
  rw [dgM_eq hq h]
  refine cnt ?_
  rw [(h q hq).2]
  exact mskF_lim _ (Nat.le_refl _) (by omega)
theorem difA_eq {st mt : St} {q k : Nat} (hq : q < 8) (hk : k < 12) (h : RelD st mt) : difA st q k = unl st q k := by
  unfold difA
  rw [(h q hq).2]
  exact mskF_test (by omega) hk
theorem or_0 (x : Int32) : x ||| 0 = x := by
  apply bi_ext
  intro i _
  rw [bi_or, bi_0, Bool.or_false]
theorem dfaF_msk {st : St} {q : Nat} : ∀ n, dfaF st q n = mskF (unl st q) n
  | 0 => rfl
  | n + 1 => by
    show dfaS st q n (dfaF st q n) = mskS (unl st q) n (mskF (unl st q) n)
    rw [dfaF_msk n]
    unfold dfaS mskS
    cases unl st q n
    · exact (or_0 _).symm
    · rfl
theorem dfaF_eq {st mt : St} {q : Nat} (hq : q < 8) (h : RelD st mt) : dfaF st q 12 = st (4 + 4 * q) 3 := by
  rw [dfaF_msk, (h q hq).2]
theorem hear_eq {st mt : St} {q : Nat} (hq : q < 8) (h : RelD st mt) : heM mt q = hearV st q := by
  obtain ⟨h1, h2, h3, h4, -⟩ := (h q hq).1.2
  unfold heM hearV
  rw [h1, h2, h4]
/-! ===== obeying ===== -/
theorem unl_rep {a : St} {q i k : Nat} {v : Int32} (hik : k ≠ i) : unl (takeR a q i v) q k = unl a q k := by
  unfold takeR
  rw [unl_cong (st2 := keepD (up2 a (4 + 4 * q + 2) i v) q i) (keepD_out (by omega)) (keepD_out (by omega)) (keepD_out (by omega)) k]
  unfold unl
  simp only [up2_at]
  simp [hik]
/-- the class goes leaf by leaf, the reference by the set as it was: what is left to do is the same -/
theorem oby_rel {st mt : St} {q : Nat} {w : Int32} (hq : q < 8) (h : Rel st mt) (hw : ∀ k, k < 12 → bi w k = unl st q k) :
    ∀ i, i ≤ 12 → Rel (obyF st q i).1 (obM mt q w i) ∧ (obyF st q i).2 = mnM w i ∧ ∀ k, i ≤ k → k < 12 → unl (obyF st q i).1 q k = bi w k
  | 0, _ => ⟨h, rfl, fun k _ hk => (hw k hk).symm⟩
  | i + 1, hi => by
    obtain ⟨ih, ihc, ihu⟩ := oby_rel hq h hw i (by omega)
    show Rel (obyS q i (obyF st q i)).1 (obS q i w (obM mt q w i)) ∧ (obyS q i (obyF st q i)).2 = mnS w i (mnM w i) ∧ _
    rw [show obyF st q (i + 1) = obyS q i (obyF st q i) from rfl]
    generalize obyF st q i = a at ih ihc ihu ⊢
    generalize obM mt q w i = b at ih ⊢
    have e1 : difA a.1 q i = bi w i := (difA_eq hq (by omega) ih.1).trans (ihu i (Nat.le_refl _) (by omega))
    have e2 : mnS w i (mnM w i) = mnM w i + b2i (bi w i) := by unfold mnS; rw [shr_1 (by omega)]
    have h3 := shr_t (x := w) (show i < 32 by omega)
    rw [and_bit (show i < 32 by omega)] at h3
    rw [e2]
    cases hb : bi w i
    · rw [obyS_f (e1.trans hb), obS_f (fun z => (h3.mp z) hb), up2_same]
      refine ⟨ih, by rw [ihc]; exact (Int32.add_zero _).symm, fun k h1 h2 => ihu k (by omega) h2⟩
    · rw [obyS_t (e1.trans hb), obS_t (h3.mpr (by rw [hb]; decide))]
      obtain ⟨g1, g2, g3, g4, g5, g6⟩ := (ih.1 q hq).1.1 i (by omega)
      rw [g1]
      refine ⟨Rel_rep hq (by omega) g4 ih, by rw [ihc]; rfl, fun k h1 h2 => ?_⟩
      show unl (takeR a.1 q i (a.1 (4 + 4 * q + 1) i)) q k = bi w k
      rw [unl_rep (by omega)]
      exact ihu k (by omega) h2
/-! ===== groups ===== -/
theorem mem_eq {st mt : St} {g k : Nat} (hg : g < 4) (hk : k < 12) (h : RelD st mt) (hG : RelG st mt) : ∀ i, i ≤ 8 → memF st g k i = mbM mt g k i
  | 0, _ => rfl
  | i + 1, hi => by
    show memS st g k i (memF st g k i) = mbS mt g k i (mbM mt g k i)
    rw [mem_eq hg hk h hG i (by omega)]
    obtain ⟨-, h2, -⟩ := (h i (by omega)).1.1 k hk
    obtain ⟨-, g2, g3, -⟩ := hG g hg
    have e : inb (mt 2 (12 * i + k) - 1) (mt 10 g) (mt 11 g) = admG st g i k := by
      unfold inb admG
      rw [h2, inc_dec, g2, g3]
    unfold memS mbS
    rw [e]
    cases admG st g i k
    · exact (or_0 _).symm
    · rfl
theorem memF_lim {st : St} {g k : Nat} : ∀ i, i ≤ 8 → lim (memF st g k i) 8
  | 0, _ => lim_0 8
  | i + 1, hi => by
    have ih := memF_lim (st := st) (g := g) (k := k) i (by omega)
    show lim (memS st g k i (memF st g k i)) 8
    unfold memS
    cases admG st g i k
    · exact ih
    · exact lim_or (by omega) ih
theorem Rel_set {st mt : St} {g k : Nat} {y z : Int32} (hg : g < 4) (hk : k < 12) (h : Rel st mt) : Rel (setF st g (nI k) y z) (sgr mt g (nI k) y z) := by
  have o : ∀ i, i ≠ 37 + g → setF st g (nI k) y z i = st i := fun i h1 => by unfold setF; rw [up2_out _ _ h1, up2_out _ _ h1, up2_out _ _ h1]
  have om : ∀ a, (a < 9 ∨ 11 < a) → sgr mt g (nI k) y z a = mt a := fun a h1 => by unfold sgr; rw [up2_out _ _ (by omega), up2_out _ _ (by omega), up2_out _ _ (by omega)]
  refine ⟨RelD_cong h.1 (fun i _ _ => o i (by omega)) (fun a _ _ => om a (by omega)), RelF_cong h.2.1 (o 1 (by omega)) (o 2 (by omega)) (om 8 (by omega)), fun r hr => ?_, RelJ_cong h.2.2.2 (fun i _ _ => o i (by omega)) (fun a _ _ => om a (by omega)) (by rw [o 0 (by omega)]) (by rw [om 0 (by omega)])⟩
  by_cases e : r = g
  · subst e
    simp only [setF, sgr, up2_at]
    simp
    exact inR_nI hk
  · rw [o (37 + r) (by omega)]
    have h1 := h.2.2.1 r hr
    simp only [sgr, up2_at]
    simp [e]
    exact h1
