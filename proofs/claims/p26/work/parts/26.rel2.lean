/-! ===== the law's own loops over the draft ===== -/
def wlLs (q i : Nat) (b : St) : St := bif decide (b 4 i ≤ -2) then b else up2 b 0 (12 * q + i) (b 0 (12 * q + i) &&& 16256 ||| (b 4 i + 1))
def wlL (a : St) (q : Nat) : Nat → St
  | 0 => a
  | i + 1 => wlLs q i (wlL a q i)
theorem wlLs_t {q i : Nat} {b : St} (h : b 4 i ≤ -2) : wlLs q i b = b := by unfold wlLs; rw [bt h]
theorem wlLs_f {q i : Nat} {b : St} (h : ¬ b 4 i ≤ -2) : wlLs q i b = up2 b 0 (12 * q + i) (b 0 (12 * q + i) &&& 16256 ||| (b 4 i + 1)) := by unfold wlLs; rw [bf h]
def rpLs (q i : Nat) (b : St) : St := bif decide (b 4 i ≤ -2) then b else up2 b 0 (12 * q + i) (b 0 (12 * q + i) &&& (-16257) ||| (b 4 i + 1) <<< ((7 : Int32) &&& 31))
def rpL (a : St) (q : Nat) : Nat → St
  | 0 => a
  | i + 1 => rpLs q i (rpL a q i)
theorem rpLs_t {q i : Nat} {b : St} (h : b 4 i ≤ -2) : rpLs q i b = b := by unfold rpLs; rw [bt h]
theorem rpLs_f {q i : Nat} {b : St} (h : ¬ b 4 i ≤ -2) : rpLs q i b = up2 b 0 (12 * q + i) (b 0 (12 * q + i) &&& (-16257) ||| (b 4 i + 1) <<< ((7 : Int32) &&& 31)) := by unfold rpLs; rw [bf h]
def obLs (q i : Nat) (w : Int32) (b : St) : St := bif decide (w >>> (nI i &&& 31) &&& 1 = 1) then up2 b 0 (12 * q + i) ((b 0 (12 * q + i) &&& 127) * 129) else b
def obL (a : St) (q : Nat) (w : Int32) : Nat → St
  | 0 => a
  | i + 1 => obLs q i w (obL a q w i)
theorem obLs_t {q i : Nat} {w : Int32} {b : St} (h : w >>> (nI i &&& 31) &&& 1 = 1) : obLs q i w b = up2 b 0 (12 * q + i) ((b 0 (12 * q + i) &&& 127) * 129) := by unfold obLs; rw [bt h]
theorem obLs_f {q i : Nat} {w : Int32} {b : St} (h : ¬ w >>> (nI i &&& 31) &&& 1 = 1) : obLs q i w b = b := by unfold obLs; rw [bf h]
def dpL (a : St) (k : Nat) : Nat → St
  | 0 => a
  | i + 1 => up2 (dpL a k i) 4 (4 * k + i) (-1)
theorem RP_dpL {B : Nat} {st mt : St} {k : Nat} (hk : k < 3) (h : RP B st mt) : ∀ i, i ≤ 4 → RP B (drpF st k i) (dpL mt k i)
  | 0, _ => h
  | i + 1, hi => RP_asg (by omega) (Or.inl rfl) (RP_dpL hk h i (by omega))
theorem RP_merW {B : Nat} {st mt : St} {q : Nat} (hq : q < 5) (h : RP B st mt) : ∀ i, i ≤ 12 → RP B (merW st q i) (wlL mt q i)
  | 0, _ => h
  | i + 1, hi => by
    have ih := RP_merW hq h i (by omega)
    show RP B (merWs q i (merW st q i)) (wlLs q i (wlL mt q i))
    generalize merW st q i = a at ih ⊢
    generalize wlL mt q i = b at ih ⊢
    have h1 := PF_m2 ih.2.2.2.1 (RP_F ih) (show i < 12 by omega)
    cases hf : hasF a i
    · rw [merWs_f hf, wlLs_t (h1.mpr hf)]
      exact ih
    · rw [merWs_t hf, wlLs_f (fun z => Bool.false_ne_true ((h1.mp z).symm.trans hf))]
      have e : b 4 i = a 2 i := by rw [ih.2.2.2.1 i (by omega), hf, cond_true]
      rw [e]
      exact RP_wish hq (by omega) (RP_F ih i (by omega) hf) ih
theorem RP_merR {B : Nat} {st mt : St} {q : Nat} (hq : q < 5) (h : RP B st mt) : ∀ i, i ≤ 12 → RP B (merR st q i) (rpL mt q i)
  | 0, _ => h
  | i + 1, hi => by
    have ih := RP_merR hq h i (by omega)
    show RP B (merRs q i (merR st q i)) (rpLs q i (rpL mt q i))
    generalize merR st q i = a at ih ⊢
    generalize rpL mt q i = b at ih ⊢
    have h1 := PF_m2 ih.2.2.2.1 (RP_F ih) (show i < 12 by omega)
    cases hf : hasF a i
    · rw [merRs_f hf, rpLs_t (h1.mpr hf)]
      exact ih
    · rw [merRs_t hf, rpLs_f (fun z => Bool.false_ne_true ((h1.mp z).symm.trans hf))]
      have e : b 4 i = a 2 i := by rw [ih.2.2.2.1 i (by omega), hf, cond_true]
      rw [e]
      exact RP_rep hq (by omega) (RP_F ih i (by omega) hf) ih
/-! ===== differences ===== -/
theorem dif_q {B : Nat} {st mt : St} {q k : Nat} (hq : q < 5) (hk : k < 12) (h : RP B st mt) : difL (mt 0 (12 * q + k)) = unl st q k := by
  rw [difL_eq (h.2.1 q hq k hk)]
  rfl
theorem dgL_msk {a : St} {q : Nat} : ∀ n, dgL a q n = mskF (fun k => difL (a 0 (12 * q + k))) n
  | 0 => rfl
  | n + 1 => by
    show dgS a q n (dgL a q n) = mskS (fun k => difL (a 0 (12 * q + k))) n (mskF (fun k => difL (a 0 (12 * q + k))) n)
    rw [dgL_msk n]
    unfold dgS mskS
    cases hd : difL (a 0 (12 * q + n)) <;> simp [hd, or_0]
theorem dg_eq {B : Nat} {st mt : St} {q : Nat} (hq : q < 5) (h : RP B st mt) : dgL mt q 12 = st (4 + 4 * q) 3 := by
  obtain ⟨at2, hR⟩ := h.1
  rw [dgL_msk, (hR.1 q (by omega)).2]
  exact mskF_cong 12 (fun k hk => dif_q hq hk h)
theorem d3_lim {B : Nat} {st mt : St} {q : Nat} (hq : q < 8) (h : RP B st mt) : lim (st (4 + 4 * q) 3) 12 := by
  obtain ⟨at2, hR⟩ := h.1
  rw [(hR.1 q hq).2]
  exact mskF_lim _ (Nat.le_refl _) (by omega)
theorem d3_n {B : Nat} {st mt : St} {q : Nat} (hq : q < 8) (h : RP B st mt) : ∃ n, n < 4096 ∧ st (4 + 4 * q) 3 = nI n := lim_n (d3_lim hq h)
theorem dg_n {B : Nat} {st mt : St} {q : Nat} (hq : q < 5) (h : RP B st mt) : ∃ n, n < 4096 ∧ dgL mt q 12 = nI n ∧ st (4 + 4 * q) 3 = nI n := by
  obtain ⟨n, hn, e⟩ := d3_n (q := q) (by omega) h
  exact ⟨n, hn, (dg_eq hq h).trans e, e⟩
theorem dfa_eq {B : Nat} {st mt : St} {q : Nat} (hq : q < 8) (h : RP B st mt) : dfaF st q 12 = st (4 + 4 * q) 3 := by
  obtain ⟨at2, hR⟩ := h.1
  exact dfaF_eq hq hR.1
theorem difA_q {B : Nat} {st mt : St} {q k : Nat} (hq : q < 8) (hk : k < 12) (h : RP B st mt) : difA st q k = unl st q k := by
  obtain ⟨at2, hR⟩ := h.1
  exact difA_eq hq hk hR.1
theorem d3_bi {B : Nat} {st mt : St} {q k : Nat} (hq : q < 8) (hk : k < 12) (h : RP B st mt) : bi (st (4 + 4 * q) 3) k = unl st q k := by
  obtain ⟨at2, hR⟩ := h.1
  rw [(hR.1 q hq).2, mskF_bi 12 (by omega) k (by omega), decide_eq_true hk, Bool.true_and]
theorem unl_z {st : St} {q k : Nat} (h : unl st q k = true) : st (4 + 4 * q + 3) k = 0 := by
  unfold unl at h
  simp only [Bool.and_eq_true, decide_eq_true_eq] at h
  exact h.2.2
theorem RP_obs {B : Nat} {st mt : St} {q : Nat} {w : Int32} (hq : q < 5) (h : RP B st mt) (hw : ∀ k, k < 12 → bi w k = unl st q k) :
    ∀ i, i ≤ 12 → RP B (obyF st q i).1 (obL mt q w i) ∧ (obyF st q i).2 = mnM w i ∧ ∀ k, i ≤ k → k < 12 → unl (obyF st q i).1 q k = bi w k
  | 0, _ => ⟨h, rfl, fun k _ hk => (hw k hk).symm⟩
  | i + 1, hi => by
    obtain ⟨ih, ihc, ihu⟩ := RP_obs hq h hw i (by omega)
    show RP B (obyS q i (obyF st q i)).1 (obLs q i w (obL mt q w i)) ∧ (obyS q i (obyF st q i)).2 = mnS w i (mnM w i) ∧ _
    rw [show obyF st q (i + 1) = obyS q i (obyF st q i) from rfl]
    generalize obyF st q i = a at ih ihc ihu ⊢
    generalize obL mt q w i = b at ih ⊢
    have e0 := ihu i (Nat.le_refl _) (by omega)
    have e1 : difA a.1 q i = bi w i := (difA_q (by omega) (by omega) ih).trans e0
    have e2 : mnS w i (mnM w i) = mnM w i + b2i (bi w i) := by unfold mnS; rw [shr_1 (by omega)]
    have h3 := shr_t (x := w) (show i < 32 by omega)
    rw [and_bit (show i < 32 by omega)] at h3
    rw [e2]
    cases hb : bi w i
    · rw [obyS_f (e1.trans hb), obLs_f (fun z => (h3.mp z) hb)]
      exact ⟨ih, by rw [ihc]; exact (Int32.add_zero _).symm, fun k h1 h2 => ihu k (by omega) h2⟩
    · rw [obyS_t (e1.trans hb), obLs_t (h3.mpr (by rw [hb]; decide))]
      refine ⟨RP_oby hq (by omega) (unl_z (e0.trans hb)) ih, by rw [ihc]; rfl, fun k h1 h2 => ?_⟩
      show unl (takeR a.1 q i (a.1 (4 + 4 * q + 1) i)) q k = bi w k
      rw [unl_rep (by omega)]
      exact ihu k (by omega) h2
/-! ===== members ===== -/
theorem GrR_l {a b c x : Int32} (h : GrR a b c x) : x &&& 15 = a ∧ x >>> ((4 : Int32) &&& 31) &&& 127 = b ∧ x >>> ((11 : Int32) &&& 31) = c := by
  obtain ⟨k, lo, hi, hk, hlo, hhi, rfl, rfl, rfl, rfl⟩ := h
  rw [pk_andN (by omega) 4 (by decide), pk_shrN (by omega) _ 4 (by decide), pk_andN (by omega) 7 (by decide), pk_shrN (by omega) _ 11 (by decide)]
  refine ⟨?_, ?_, ?_⟩ <;> congr 1 <;> omega
theorem adm_q {B : Nat} {st mt : St} {g k i : Nat} (hg : g < 4) (hk : k < 12) (hi : i < 5) (h : RP B st mt) : admG st g i k = admL mt g k i := by
  obtain ⟨e1, e2, e3⟩ := GrR_l (h.2.2.2.2.1 g hg)
  unfold admG admL
  rw [e2, e3, LfR_r (h.2.1 i hi k hk)]
theorem adm_z {B : Nat} {st mt : St} {g k i : Nat} (hg : g < 4) (hk : k < 12) (h5 : 5 ≤ i) (hi : i < 8) (h : RP B st mt) : admG st g i k = false := by
  obtain ⟨k2, lo, hi2, hk2, hlo, hhi, e1, e2, e3, e4⟩ := h.2.2.2.2.1 g hg
  unfold admG
  rw [e2, ((h.2.2.2.2.2.2.2 i h5 hi).1 k hk).2.1, decide_eq_true (show (-1 : Int32) < nI lo by rw [Int32.lt_iff_toInt_lt, nI_toInt (by omega), show (-1 : Int32).toInt = -1 from rfl]; omega)]
  rfl
theorem mem_q {B : Nat} {st mt : St} {g k : Nat} (hg : g < 4) (hk : k < 12) (h : RP B st mt) : ∀ i, i ≤ 5 → memF st g k i = mlL mt g k i
  | 0, _ => rfl
  | i + 1, hi => by
    show memS st g k i (memF st g k i) = mlS mt g k i (mlL mt g k i)
    rw [mem_q hg hk h i (by omega)]
    unfold memS mlS
    rw [adm_q hg hk (by omega) h]
theorem mem_8 {B : Nat} {st mt : St} {g k : Nat} (hg : g < 4) (hk : k < 12) (h : RP B st mt) : memF st g k 8 = memF st g k 5 := by
  show memS st g k 7 (memS st g k 6 (memS st g k 5 (memF st g k 5))) = _
  rw [memS_f (adm_z hg hk (by omega) (by omega) h), memS_f (adm_z hg hk (by omega) (by omega) h), memS_f (adm_z hg hk (by omega) (by omega) h)]
theorem mem_L {B : Nat} {st mt : St} {g k : Nat} (hg : g < 4) (hk : k < 12) (h : RP B st mt) : memF st g k 8 = mlL mt g k 5 := (mem_8 hg hk h).trans (mem_q hg hk h 5 (Nat.le_refl _))
theorem lim_5 {st : St} {g k : Nat} : ∀ i, i ≤ 5 → lim (memF st g k i) 5
  | 0, _ => lim_0 5
  | i + 1, hi => by
    have ih := lim_5 (st := st) (g := g) (k := k) i (by omega)
    show lim (memS st g k i (memF st g k i)) 5
    unfold memS
    cases admG st g i k
    · exact ih
    · exact lim_or (by omega) ih
theorem mem_n {B : Nat} {st mt : St} {g k : Nat} (hg : g < 4) (hk : k < 12) (h : RP B st mt) : ∃ n, n < 4096 ∧ memF st g k 8 = nI n := lim_n (by rw [mem_8 hg hk h]; exact lim_mono (lim_5 5 (Nat.le_refl _)) (by omega))
/-! ===== jobs: what their numbers tell ===== -/
theorem JbR_l {a b c d e x : Int32} (h : JbR a b c d e x) : x >>> ((2 : Int32) &&& 31) &&& 15 = b ∧ x >>> ((6 : Int32) &&& 31) &&& 127 = c ∧ x >>> ((13 : Int32) &&& 31) &&& 15 = d ∧ x &&& 3 = a ∧ x >>> ((17 : Int32) &&& 31) = e := by
  obtain ⟨g, k, v, r, w, hg, hk, hv, hr, hw, rfl, rfl, rfl, rfl, rfl, rfl⟩ := h
  rw [pk_shrN (by omega) _ 2 (by decide), pk_andN (by omega) 4 (by decide), pk_shrN (by omega) _ 6 (by decide), pk_andN (by omega) 7 (by decide), pk_shrN (by omega) _ 13 (by decide), pk_andN (by omega) 4 (by decide), pk_andN (by omega) 2 (by decide), pk_shrN (by omega) _ 17 (by decide)]
  refine ⟨?_, ?_, ?_, ?_, ?_⟩ <;> congr 1 <;> omega
theorem RT_nI {k n : Nat} (hk : k < n) (hn : n < 2 ^ 31) : RT (nI k) n := inR_tn hn (inR_nI hk)
theorem tn_nI {k : Nat} (hk : k < 2 ^ 31) : tn (nI k) = k := nI_clamp hk
theorem RP_okL {B : Nat} {st mt : St} (h : RP B st mt) : okL mt := by
  refine ⟨fun k hk => ?_, fun g hg => ?_⟩
  · have hJ := (h.2.2.2.2.2.1 k hk).1
    obtain ⟨e1, e2, e3, e4, e5⟩ := JbR_l hJ
    obtain ⟨g, k2, v, r, w, hg, hk2, hv, hr, hw, f1, f2, f3, f4, f5, f6⟩ := hJ
    rw [e1, e4, f1, f2]
    exact ⟨RT_nI hk2 (by decide), RT_nI hg (by decide)⟩
  · have hG := h.2.2.2.2.1 g hg
    obtain ⟨e1, e2, e3⟩ := GrR_l hG
    obtain ⟨k, lo, hi, hk, hlo, hhi, f1, f2, f3, f4⟩ := hG
    rw [e1, f1]
    exact RT_nI hk (by decide)
theorem ER_1 {S Dn Fl E : Int32} (h : ER S Dn Fl E) {x : Nat} (hx : x < 5) : decide (atL E x = 1) = (bi S x && !bi Dn x && !bi Fl x) := by
  obtain ⟨g1, g2, g3, g4, g5⟩ := h.2 x hx
  rw [ER_at h hx]
  revert g3 g4 g5
  cases bi S x <;> cases bi Dn x <;> cases bi Fl x <;> decide
theorem ER_2 {S Dn Fl E : Int32} (h : ER S Dn Fl E) {x : Nat} (hx : x < 5) : decide (atL E x = 2) = bi Dn x := by
  obtain ⟨g1, g2, g3, g4, g5⟩ := h.2 x hx
  rw [ER_at h hx]
  revert g3 g4 g5
  cases bi S x <;> cases bi Dn x <;> cases bi Fl x <;> decide
theorem ER_3 {S Dn Fl E : Int32} (h : ER S Dn Fl E) {x : Nat} (hx : x < 5) : decide (atL E x = 3) = bi Fl x := by
  obtain ⟨g1, g2, g3, g4, g5⟩ := h.2 x hx
  rw [ER_at h hx]
  revert g3 g4 g5
  cases bi S x <;> cases bi Dn x <;> cases bi Fl x <;> decide
theorem ER_p {S Dn Fl E : Int32} (h : ER S Dn Fl E) {x : Nat} (hx : x < 5) : decide (0 < atL E x) = bi S x := by
  obtain ⟨g1, g2, g3, g4, g5⟩ := h.2 x hx
  rw [ER_at h hx]
  revert g3 g4 g5
  cases bi S x <;> cases bi Dn x <;> cases bi Fl x <;> decide
theorem opn_bi (b : St) (j : Nat) {n : Nat} (hn : n < 32) : bi (opnJ b j) n = (bi (b (42 + j) 6) n && !bi (b (42 + j) 7) n && !bi (b (42 + j) 8) n) := by
  unfold opnJ
  rw [bi_and, bi_and, bi_xor, bi_xor, bi_m1 n hn]
  simp
theorem msk_of {S : Int32} {p : Nat → Bool} (hS : lim S 5) (hp : ∀ x, x < 5 → p x = bi S x) : mskF p 5 = S := by
  apply bi_ext
  intro i hi
  rw [mskF_bi 5 (by omega) i hi]
  by_cases h : i < 5
  · rw [decide_eq_true h, Bool.true_and, hp i h]
  · rw [decide_eq_false h, Bool.false_and, hS i (by omega) hi]
theorem mnM_cong {x y : Int32} : ∀ n, n ≤ 32 → (∀ i, i < n → bi x i = bi y i) → mnM x n = mnM y n
  | 0, _, _ => rfl
  | n + 1, hn, h => by
    show mnS x n (mnM x n) = mnS y n (mnM y n)
    unfold mnS
    rw [mnM_cong n (by omega) (fun i hi => h i (by omega)), shr_1 (by omega), shr_1 (by omega), h n (by omega)]
theorem mnM_lim {x : Int32} {w : Nat} (h : lim x w) : ∀ d, w + d ≤ 32 → mnM x (w + d) = mnM x w
  | 0, _ => rfl
  | d + 1, hd => by
    show mnS x (w + d) (mnM x (w + d)) = mnM x w
    unfold mnS
    rw [mnM_lim h d (by omega), shr_1 (by omega), h (w + d) (by omega) (by omega)]
    exact Int32.add_zero _
theorem cnt5 {x : Int32} (h : lim x 5) : bcI x = mnM x 5 := by
  rw [← cnt (lim_mono h (show 5 ≤ 12 by omega))]
  exact mnM_lim h 7 (by omega)
