/-! ===== words for the law's two acts ===== -/
theorem okV_R {v : Int32} (h : okV v) : vR v := by
  rcases h with rfl | ⟨h1, h2⟩
  · exact Or.inl rfl
  · obtain ⟨j, hj, rfl⟩ := nI_of2 (M := 99) (n := 99) rfl h1 h2
    exact Or.inr ⟨j, by omega, rfl⟩
theorem okV_nI {n : Nat} (h : n < 100) : okV (nI n) := Or.inr ⟨nI_pos (by omega), nI_le (a := n) (b := 99) (by omega) (by decide)⟩
theorem nokV_100 : ¬ okV 100 := by unfold okV; decide
theorem nokV_m2 : ¬ okV (-2) := by unfold okV; decide
theorem neg2 {n : Nat} (h : n < 200000) : ¬ (-2 : Int32) = nI n := by
  intro z
  exact absurd (show nI n < 0 by rw [← z]; decide) (nI_pos (by omega))
theorem ne1 {n : Nat} (h : n < 200000) : ¬ nI n = -1 := by
  intro z
  exact absurd (show nI n < 0 by rw [z]; decide) (nI_pos (by omega))
theorem m1_le {n : Nat} (h : n < 200000) : (-1 : Int32) ≤ nI n := by
  rw [Int32.le_iff_toInt_le, nI_toInt (by omega), show (-1 : Int32).toInt = -1 from rfl]
  omega
theorem w_far {x y : Int32} {n : Nat} (hn : n < 200000) (hy : y = nI n) (h : ¬ x ≤ nI n) : ¬ x = -1 ∧ ¬ x = y := by
  refine ⟨fun z => h (by rw [z]; exact m1_le hn), fun z => h (by rw [z, hy]; exact nI_le (Nat.le_refl _) (by omega))⟩
theorem w_near {x y : Int32} {n : Nat} (hn : n < 100000) (hy : y = nI n) (hx : x = -1 ∨ ∃ m : Nat, n ≤ m ∧ m < n + 4 ∧ x = nI m) (h : x ≤ nI n) : x = -1 ∨ x = y := by
  rcases hx with z | ⟨m, h1, h2, rfl⟩
  · exact Or.inl z
  · right
    have := (nI_leI (by omega) (by omega)).mp h
    rw [hy, show m = n by omega]
theorem h_slp2 {B : Nat} {st mt : St} {q : Nat} (hq : q < 5) (h : RP B st mt) (h0 : ¬ mt 2 q < 0) : ¬ st (4 + 4 * q) 7 = 0 := h_slp hq h (Int32.not_lt.mp h0)
theorem h_awk2 {B : Nat} {st mt : St} {q : Nat} (hB : B < 100000) (hq : q < 5) (h : RP B st mt) (h0 : mt 2 q < 0) : st (4 + 4 * q) 7 = 0 := h_awk hB hq h (Int32.not_le.mpr h0)
theorem emp_bmp (a : St) (q : Nat) : empF (bmpV a q) = bmpV (empF a) q := by
  funext y z
  unfold empF bmpV
  simp only [up2_at]
  by_cases h1 : y = 1
  · subst h1
    simp [show ¬ 1 = 4 + 4 * q by omega]
  · simp [h1]
theorem emp_num (a : St) (q : Nat) (v : Int32) : empF (up2 a (4 + 4 * q) 6 v) = up2 (empF a) (4 + 4 * q) 6 v := by
  funext y z
  unfold empF
  simp only [up2_at]
  by_cases h1 : y = 1
  · subst h1
    simp [show ¬ 1 = 4 + 4 * q by omega]
  · simp [h1]
theorem rpL_out {mt : St} {q a : Nat} (h : a ≠ 0) : ∀ i, rpL mt q i a = mt a
  | 0 => rfl
  | i + 1 => by
    have ih := rpL_out (mt := mt) (q := q) h i
    show rpLs q i (rpL mt q i) a = mt a
    generalize rpL mt q i = b at ih ⊢
    unfold rpLs
    cases decide (b 4 i ≤ -2)
    · exact (up2_out _ _ h).trans ih
    · exact ih
theorem merR_6 {st : St} {q : Nat} : ∀ i, merR st q i (4 + 4 * q) 6 = st (4 + 4 * q) 6
  | 0 => rfl
  | i + 1 => by
    have ih := merR_6 (st := st) (q := q) i
    show merRs q i (merR st q i) (4 + 4 * q) 6 = _
    generalize merR st q i = a at ih ⊢
    unfold merRs
    cases hasF a i
    · exact ih
    · exact (takeR_n (by decide)).trans ih
theorem emp_6 (a : St) (q : Nat) : empF a (4 + 4 * q) 6 = a (4 + 4 * q) 6 := congrFun (up2_out _ _ (by omega)) 6
theorem rng_rs {k : Nat} (h : k < 9) : rng (nI (1 + k)) 1 9 := ⟨nI_nlt (a := 1 + k) (b := 1) (by omega) (by omega), nI_le (a := 1 + k) (b := 9) (by omega) (by decide)⟩
theorem bit_d {B : Nat} {st mt : St} {q k : Nat} (hq : q < 5) (hk : k < 12) (h : RP B st mt) : dgL mt q 12 >>> (nI k &&& 31) &&& 1 = b2i (difA st q k) := by
  rw [shr_1 (by omega), dg_eq hq h, d3_bi (by omega) hk h, difA_q (by omega) hk h]
theorem bit_f {B : Nat} {st mt : St} {q k : Nat} (hq : q < 5) (hk : k < 12) (h : RP B st mt) (h0 : dgL mt q 12 >>> (nI k &&& 31) &&& 1 = 0) : difA st q k = false := by
  rw [bit_d hq hk h] at h0
  exact b2i_0 h0
theorem bit_t {B : Nat} {st mt : St} {q k : Nat} (hq : q < 5) (hk : k < 12) (h : RP B st mt) (h0 : ¬ dgL mt q 12 >>> (nI k &&& 31) &&& 1 = 0) : difA st q k = true := by
  rw [bit_d hq hk h] at h0
  exact b2i_n h0
theorem rem12 {k : Nat} (h : k < 12) : nI (k + 1) - nI (k + 1) / 12 * 12 = nI ((k + 1) % 12) := pk_rem (a := k + 1) (d := 12) (by omega) (by decide) (by decide)
theorem num_up {x y : Int32} {n m : Nat} (hn : n < 100000) (hm : m < n + 3) (hy : y = nI n) (h1 : nI m ≤ nI (n + 1)) (h2 : ¬ nI m ≤ nI n) : nI m = y + 1 := by
  have a := (nI_leI (by omega) (by omega)).mp h1
  have b : ¬ m ≤ n := fun z => h2 (nI_le z (by omega))
  rw [hy, nI_1, show m = n + 1 by omega]
set_option maxHeartbeats 4000000 in
set_option maxRecDepth 100000 in
theorem l_tdrop {p : Program} {l : Launch} {e : Env} {s : State} {m : MethodId} {args : Array Value} {below : List Frame} {meth : Method} {c : Code} {Q : State → Prop} {D : va_G} {cs : Nat → ClassId} {ad : Nat → Nat} {A : Nat → Prop} {cells slots : Nat} {st mt : Nat → Nat → Int32} {ov : Nat → Int64} {k : Nat} (hk : k < 3) (C : Cx p s m args meth c D cs ad A b_L_talks 13 "TwinRegisterLaw") (hcs : cells ≤ 97 ∧ slots ≤ 582)
    (kx : Wg p l e ({ frames := 9, cells := 97, slots := 582, locals := 171 } : Room) s m args below meth c Q D cs ad A 13 cells slots 190 [(0, .ref (ad 0)), (8, .ref (ad 54)), (11, .int (nI k)), (12, .int (nI (4 * k + 4)))] [] st (dpL mt k 4) ov) : ∀ n i : Nat, i + n = 4 → Wg p l e ({ frames := 9, cells := 97, slots := 582, locals := 171 } : Room) s m args below meth c Q D cs ad A 13 cells slots 167 [(0, .ref (ad 0)), (8, .ref (ad 54)), (11, .int (nI k)), (12, .int (nI (4 * k + i)))] [] st (dpL mt k i) ov := by
  intro n
  induction n with
  | zero =>
    intro i hi
    have hi9 : 4 = i := by omega
    subst hi9
    refine w_iload C 3 d_L_talks_167 rfl ?_
    refine w_iconst (v := 4) C d_L_talks_169 rfl ?_
    refine w_iload C 2 d_L_talks_170 rfl ?_
    refine w_imul C d_L_talks_172 ?_
    refine w_topi (y := (nI (4 * k))) (pk_mul 4 k) ?_
    refine w_iconst (v := 4) C d_L_talks_173 rfl ?_
    refine w_iadd C d_L_talks_174 ?_
    refine w_topi (y := (nI (4 * k + 4))) (nI_add (4 * k) 4) ?_
    refine w_icmp_ge_t C 190 d_L_talks_175 (by decide) (nI_le (a := 4 * k + 4) (b := 4 * k + 4) (Nat.le_refl _) (by omega)) ?_
    exact w_lv [0, 1, 2, 3] rfl kx
  | succ n ih =>
    intro i hi
    have hi2 : i < 4 := by omega
    refine w_iload C 3 d_L_talks_167 rfl ?_
    refine w_iconst (v := 4) C d_L_talks_169 rfl ?_
    refine w_iload C 2 d_L_talks_170 rfl ?_
    refine w_imul C d_L_talks_172 ?_
    refine w_topi (y := (nI (4 * k))) (pk_mul 4 k) ?_
    refine w_iconst (v := 4) C d_L_talks_173 rfl ?_
    refine w_iadd C d_L_talks_174 ?_
    refine w_topi (y := (nI (4 * k + 4))) (nI_add (4 * k) 4) ?_
    refine w_icmp_ge_f C 190 d_L_talks_175 (by decide) (nI_ge (a := 4 * k + i) (b := 4 * k + 4) (by omega) (by omega)) ?_
    refine w_aload C 1 d_L_talks_178 rfl ?_
    refine w_iload C 3 d_L_talks_180 rfl ?_
    refine w_iconst (v := (-1)) C d_L_talks_182 rfl ?_
    refine is_MA C 4 (by omega) rfl rfl (show _ < 12 by omega) d_L_talks_183 ?_
    refine w_iinc (lv2 := [(12, .int (nI ((4 * k + i) + 1))), (0, .ref (ad 0)), (8, .ref (ad 54)), (11, .int (nI k))]) C 3 d_L_talks_184 rfl (nI_1 _) (by decide) rfl ?_
    refine w_goto C 167 d_L_talks_187 (by decide) ?_
    refine w_mt (mt2 := dpL mt k (i + 1)) (rfl) ?_
    exact w_lv [1, 2, 3, 0] rfl (ih (i + 1) (by omega))
set_option maxHeartbeats 4000000 in
set_option maxRecDepth 100000 in
theorem l_twish {p : Program} {l : Launch} {e : Env} {s : State} {m : MethodId} {args : Array Value} {below : List Frame} {meth : Method} {c : Code} {Q : State → Prop} {D : va_G} {cs : Nat → ClassId} {ad : Nat → Nat} {A : Nat → Prop} {cells slots : Nat} {st mt : Nat → Nat → Int32} {ov : Nat → Int64} {q : Nat} (hq : q < 5) {x : Int32} (C : Cx p s m args meth c D cs ad A b_L_talks 13 "TwinRegisterLaw") (hcs : cells ≤ 97 ∧ slots ≤ 582)
    (kx : Wg p l e ({ frames := 9, cells := 97, slots := 582, locals := 171 } : Room) s m args below meth c Q D cs ad A 13 cells slots 433 [(0, .ref (ad 0)), (4, .ref (ad 50)), (5, .ref (ad 51)), (8, .ref (ad 54)), (9, .int (nI q)), (11, .int x), (12, .int (nI 12))] [] st (wlL mt q 12) ov) : ∀ n i : Nat, i + n = 12 → Wg p l e ({ frames := 9, cells := 97, slots := 582, locals := 171 } : Room) s m args below meth c Q D cs ad A 13 cells slots 376 [(0, .ref (ad 0)), (4, .ref (ad 50)), (5, .ref (ad 51)), (8, .ref (ad 54)), (9, .int (nI q)), (11, .int x), (12, .int (nI i))] [] st (wlL mt q i) ov := by
  intro n
  induction n with
  | zero =>
    intro i hi
    have hi9 : 12 = i := by omega
    subst hi9
    refine w_iload C 6 d_L_talks_376 rfl ?_
    refine w_bipush (v := 12) C d_L_talks_378 rfl ?_
    refine w_icmp_ge_t C 433 d_L_talks_380 (by decide) (nI_le (a := 12) (b := 12) (Nat.le_refl _) (by decide)) ?_
    exact w_lv [0, 1, 2, 3, 4, 5, 6] rfl kx
  | succ n ih =>
    intro i hi
    have hi2 : i < 12 := by omega
    refine w_iload C 6 d_L_talks_376 rfl ?_
    refine w_bipush (v := 12) C d_L_talks_378 rfl ?_
    refine w_icmp_ge_f C 433 d_L_talks_380 (by decide) (nI_ge (b := 12) hi2 (by decide)) ?_
    refine w_aload C 3 d_L_talks_383 rfl ?_
    refine w_iload C 6 d_L_talks_385 rfl ?_
    refine ia_MA C 4 (by omega) rfl rfl (show _ < 12 by omega) d_L_talks_387 ?_
    refine w_bipush (v := -2) C d_L_talks_388 rfl ?_
    refine w_icmp_le C 427 d_L_talks_390 (by decide) (fun h390 => ?_) (fun h390 => ?_)
    · skip
      refine w_iinc (lv2 := [(12, .int (nI (i + 1))), (0, .ref (ad 0)), (4, .ref (ad 50)), (5, .ref (ad 51)), (8, .ref (ad 54)), (9, .int (nI q)), (11, .int x)]) C 6 d_L_talks_427 rfl (nI_1 _) (by decide) rfl ?_
      refine w_goto C 376 d_L_talks_430 (by decide) ?_
      refine w_mt (mt2 := wlL mt q (i + 1)) ((show wlL mt q (i + 1) = _ from wlLs_t h390).symm) ?_
      exact w_lv [1, 2, 3, 4, 5, 6, 0] rfl (ih (i + 1) (by omega))
    · skip
      refine w_aload C 1 d_L_talks_393 rfl ?_
      refine w_bipush (v := 12) C d_L_talks_395 rfl ?_
      refine w_iload C 4 d_L_talks_397 rfl ?_
      refine w_imul C d_L_talks_399 ?_
      refine w_iload C 6 d_L_talks_400 rfl ?_
      refine w_iadd C d_L_talks_402 ?_
      refine w_topi (y := (nI (12 * q + i))) (ix12 _ _) ?_
      refine w_aload C 1 d_L_talks_403 rfl ?_
      refine w_bipush (v := 12) C d_L_talks_405 rfl ?_
      refine w_iload C 4 d_L_talks_407 rfl ?_
      refine w_imul C d_L_talks_409 ?_
      refine w_iload C 6 d_L_talks_410 rfl ?_
      refine w_iadd C d_L_talks_412 ?_
      refine w_topi (y := (nI (12 * q + i))) (ix12 _ _) ?_
      refine ia_MA C 0 (by omega) rfl rfl (show _ < 60 by omega) d_L_talks_413 ?_
      refine w_sipush (v := 16256) C d_L_talks_414 rfl ?_
      refine w_iand C d_L_talks_417 ?_
      refine w_aload C 3 d_L_talks_418 rfl ?_
      refine w_iload C 6 d_L_talks_420 rfl ?_
      refine ia_MA C 4 (by omega) rfl rfl (show _ < 12 by omega) d_L_talks_422 ?_
      refine w_iconst (v := 1) C d_L_talks_423 rfl ?_
      refine w_iadd C d_L_talks_424 ?_
      refine w_ior C d_L_talks_425 ?_
      refine is_MA C 0 (by omega) rfl rfl (show _ < 60 by omega) d_L_talks_426 ?_
      refine w_iinc (lv2 := [(12, .int (nI (i + 1))), (0, .ref (ad 0)), (4, .ref (ad 50)), (5, .ref (ad 51)), (8, .ref (ad 54)), (9, .int (nI q)), (11, .int x)]) C 6 d_L_talks_427 rfl (nI_1 _) (by decide) rfl ?_
      refine w_goto C 376 d_L_talks_430 (by decide) ?_
      refine w_mt (mt2 := wlL mt q (i + 1)) ((show wlL mt q (i + 1) = _ from wlLs_f h390).symm) ?_
      exact w_lv [1, 2, 3, 4, 5, 6, 0] rfl (ih (i + 1) (by omega))
set_option maxHeartbeats 4000000 in
set_option maxRecDepth 100000 in
theorem l_trep {p : Program} {l : Launch} {e : Env} {s : State} {m : MethodId} {args : Array Value} {below : List Frame} {meth : Method} {c : Code} {Q : State → Prop} {D : va_G} {cs : Nat → ClassId} {ad : Nat → Nat} {A : Nat → Prop} {cells slots : Nat} {st mt : Nat → Nat → Int32} {ov : Nat → Int64} {q : Nat} (hq : q < 5) {x : Int32} (C : Cx p s m args meth c D cs ad A b_L_talks 13 "TwinRegisterLaw") (hcs : cells ≤ 97 ∧ slots ≤ 582)
    (kx : Wg p l e ({ frames := 9, cells := 97, slots := 582, locals := 171 } : Room) s m args below meth c Q D cs ad A 13 cells slots 700 [(0, .ref (ad 0)), (4, .ref (ad 50)), (7, .ref (ad 53)), (8, .ref (ad 54)), (9, .int (nI q)), (11, .int x), (12, .int (nI 12))] [] st (rpL mt q 12) ov) : ∀ n i : Nat, i + n = 12 → Wg p l e ({ frames := 9, cells := 97, slots := 582, locals := 171 } : Room) s m args below meth c Q D cs ad A 13 cells slots 640 [(0, .ref (ad 0)), (4, .ref (ad 50)), (7, .ref (ad 53)), (8, .ref (ad 54)), (9, .int (nI q)), (11, .int x), (12, .int (nI i))] [] st (rpL mt q i) ov := by
  intro n
  induction n with
  | zero =>
    intro i hi
    have hi9 : 12 = i := by omega
    subst hi9
    refine w_iload C 6 d_L_talks_640 rfl ?_
    refine w_bipush (v := 12) C d_L_talks_642 rfl ?_
    refine w_icmp_ge_t C 700 d_L_talks_644 (by decide) (nI_le (a := 12) (b := 12) (Nat.le_refl _) (by decide)) ?_
    exact w_lv [0, 1, 2, 3, 4, 5, 6] rfl kx
  | succ n ih =>
    intro i hi
    have hi2 : i < 12 := by omega
    refine w_iload C 6 d_L_talks_640 rfl ?_
    refine w_bipush (v := 12) C d_L_talks_642 rfl ?_
    refine w_icmp_ge_f C 700 d_L_talks_644 (by decide) (nI_ge (b := 12) hi2 (by decide)) ?_
    refine w_aload C 3 d_L_talks_647 rfl ?_
    refine w_iload C 6 d_L_talks_649 rfl ?_
    refine ia_MA C 4 (by omega) rfl rfl (show _ < 12 by omega) d_L_talks_651 ?_
    refine w_bipush (v := -2) C d_L_talks_652 rfl ?_
    refine w_icmp_le C 694 d_L_talks_654 (by decide) (fun h654 => ?_) (fun h654 => ?_)
    · skip
      refine w_iinc (lv2 := [(12, .int (nI (i + 1))), (0, .ref (ad 0)), (4, .ref (ad 50)), (7, .ref (ad 53)), (8, .ref (ad 54)), (9, .int (nI q)), (11, .int x)]) C 6 d_L_talks_694 rfl (nI_1 _) (by decide) rfl ?_
      refine w_goto C 640 d_L_talks_697 (by decide) ?_
      refine w_mt (mt2 := rpL mt q (i + 1)) ((show rpL mt q (i + 1) = _ from rpLs_t h654).symm) ?_
      exact w_lv [1, 2, 3, 4, 5, 6, 0] rfl (ih (i + 1) (by omega))
    · skip
      refine w_aload C 1 d_L_talks_657 rfl ?_
      refine w_bipush (v := 12) C d_L_talks_659 rfl ?_
      refine w_iload C 4 d_L_talks_661 rfl ?_
      refine w_imul C d_L_talks_663 ?_
      refine w_iload C 6 d_L_talks_664 rfl ?_
      refine w_iadd C d_L_talks_666 ?_
      refine w_topi (y := (nI (12 * q + i))) (ix12 _ _) ?_
      refine w_aload C 1 d_L_talks_667 rfl ?_
      refine w_bipush (v := 12) C d_L_talks_669 rfl ?_
      refine w_iload C 4 d_L_talks_671 rfl ?_
      refine w_imul C d_L_talks_673 ?_
      refine w_iload C 6 d_L_talks_674 rfl ?_
      refine w_iadd C d_L_talks_676 ?_
      refine w_topi (y := (nI (12 * q + i))) (ix12 _ _) ?_
      refine ia_MA C 0 (by omega) rfl rfl (show _ < 60 by omega) d_L_talks_677 ?_
      refine w_sipush (v := (-16257)) C d_L_talks_678 rfl ?_
      refine w_iand C d_L_talks_681 ?_
      refine w_aload C 3 d_L_talks_682 rfl ?_
      refine w_iload C 6 d_L_talks_684 rfl ?_
      refine ia_MA C 4 (by omega) rfl rfl (show _ < 12 by omega) d_L_talks_686 ?_
      refine w_iconst (v := 1) C d_L_talks_687 rfl ?_
      refine w_iadd C d_L_talks_688 ?_
      refine w_bipush (v := 7) C d_L_talks_689 rfl ?_
      refine w_ishl C d_L_talks_691 ?_
      refine w_ior C d_L_talks_692 ?_
      refine is_MA C 0 (by omega) rfl rfl (show _ < 60 by omega) d_L_talks_693 ?_
      refine w_iinc (lv2 := [(12, .int (nI (i + 1))), (0, .ref (ad 0)), (4, .ref (ad 50)), (7, .ref (ad 53)), (8, .ref (ad 54)), (9, .int (nI q)), (11, .int x)]) C 6 d_L_talks_694 rfl (nI_1 _) (by decide) rfl ?_
      refine w_goto C 640 d_L_talks_697 (by decide) ?_
      refine w_mt (mt2 := rpL mt q (i + 1)) ((show rpL mt q (i + 1) = _ from rpLs_f h654).symm) ?_
      exact w_lv [1, 2, 3, 4, 5, 6, 0] rfl (ih (i + 1) (by omega))
set_option maxHeartbeats 4000000 in
set_option maxRecDepth 100000 in
theorem l_tobey {p : Program} {l : Launch} {e : Env} {s : State} {m : MethodId} {args : Array Value} {below : List Frame} {meth : Method} {c : Code} {Q : State → Prop} {D : va_G} {cs : Nat → ClassId} {ad : Nat → Nat} {A : Nat → Prop} {cells slots : Nat} {st mt : Nat → Nat → Int32} {ov : Nat → Int64} {q w : Nat} (hq : q < 5) (C : Cx p s m args meth c D cs ad A b_L_talks 13 "TwinRegisterLaw") (hcs : cells ≤ 97 ∧ slots ≤ 582)
    (kx : Wg p l e ({ frames := 9, cells := 97, slots := 582, locals := 171 } : Room) s m args below meth c Q D cs ad A 13 cells slots 876 [(0, .ref (ad 0)), (4, .ref (ad 50)), (7, .ref (ad 53)), (9, .int (nI q)), (11, .int (nI w)), (12, .int (nI 12))] [] st (obL mt q (nI w) 12) ov) : ∀ n i : Nat, i + n = 12 → Wg p l e ({ frames := 9, cells := 97, slots := 582, locals := 171 } : Room) s m args below meth c Q D cs ad A 13 cells slots 823 [(0, .ref (ad 0)), (4, .ref (ad 50)), (7, .ref (ad 53)), (9, .int (nI q)), (11, .int (nI w)), (12, .int (nI i))] [] st (obL mt q (nI w) i) ov := by
  intro n
  induction n with
  | zero =>
    intro i hi
    have hi9 : 12 = i := by omega
    subst hi9
    refine w_iload C 5 d_L_talks_823 rfl ?_
    refine w_bipush (v := 12) C d_L_talks_825 rfl ?_
    refine w_icmp_ge_t C 876 d_L_talks_827 (by decide) (nI_le (a := 12) (b := 12) (Nat.le_refl _) (by decide)) ?_
    exact w_lv [0, 1, 2, 3, 4, 5] rfl kx
  | succ n ih =>
    intro i hi
    have hi2 : i < 12 := by omega
    refine w_iload C 5 d_L_talks_823 rfl ?_
    refine w_bipush (v := 12) C d_L_talks_825 rfl ?_
    refine w_icmp_ge_f C 876 d_L_talks_827 (by decide) (nI_ge (b := 12) hi2 (by decide)) ?_
    refine w_iload C 4 d_L_talks_830 rfl ?_
    refine w_iload C 5 d_L_talks_832 rfl ?_
    refine w_ishr C d_L_talks_834 ?_
    refine w_iconst (v := 1) C d_L_talks_835 rfl ?_
    refine w_iand C d_L_talks_836 ?_
    refine w_iconst (v := 1) C d_L_talks_837 rfl ?_
    refine w_icmp_ne C 870 d_L_talks_838 (by decide) (fun h838 => ?_) (fun h838 => ?_)
    · skip
      refine w_iinc (lv2 := [(12, .int (nI (i + 1))), (0, .ref (ad 0)), (4, .ref (ad 50)), (7, .ref (ad 53)), (9, .int (nI q)), (11, .int (nI w))]) C 5 d_L_talks_870 rfl (nI_1 _) (by decide) rfl ?_
      refine w_goto C 823 d_L_talks_873 (by decide) ?_
      refine w_mt (mt2 := obL mt q (nI w) (i + 1)) ((show obL mt q (nI w) (i + 1) = _ from obLs_f h838).symm) ?_
      exact w_lv [1, 2, 3, 4, 5, 0] rfl (ih (i + 1) (by omega))
    · skip
      refine w_aload C 1 d_L_talks_841 rfl ?_
      refine w_bipush (v := 12) C d_L_talks_843 rfl ?_
      refine w_iload C 3 d_L_talks_845 rfl ?_
      refine w_imul C d_L_talks_847 ?_
      refine w_iload C 5 d_L_talks_848 rfl ?_
      refine w_iadd C d_L_talks_850 ?_
      refine w_topi (y := (nI (12 * q + i))) (ix12 _ _) ?_
      refine w_aload C 1 d_L_talks_851 rfl ?_
      refine w_bipush (v := 12) C d_L_talks_853 rfl ?_
      refine w_iload C 3 d_L_talks_855 rfl ?_
      refine w_imul C d_L_talks_857 ?_
      refine w_iload C 5 d_L_talks_858 rfl ?_
      refine w_iadd C d_L_talks_860 ?_
      refine w_topi (y := (nI (12 * q + i))) (ix12 _ _) ?_
      refine ia_MA C 0 (by omega) rfl rfl (show _ < 60 by omega) d_L_talks_861 ?_
      refine w_bipush (v := 127) C d_L_talks_862 rfl ?_
      refine w_iand C d_L_talks_864 ?_
      refine w_sipush (v := 129) C d_L_talks_865 rfl ?_
      refine w_imul C d_L_talks_868 ?_
      refine is_MA C 0 (by omega) rfl rfl (show _ < 60 by omega) d_L_talks_869 ?_
      refine w_iinc (lv2 := [(12, .int (nI (i + 1))), (0, .ref (ad 0)), (4, .ref (ad 50)), (7, .ref (ad 53)), (9, .int (nI q)), (11, .int (nI w))]) C 5 d_L_talks_870 rfl (nI_1 _) (by decide) rfl ?_
      refine w_goto C 823 d_L_talks_873 (by decide) ?_
      refine w_mt (mt2 := obL mt q (nI w) (i + 1)) ((show obL mt q (nI w) (i + 1) = _ from obLs_t h838).symm) ?_
      exact w_lv [1, 2, 3, 4, 5, 0] rfl (ih (i + 1) (by omega))
set_option maxHeartbeats 4000000 in
set_option maxRecDepth 100000 in
theorem l_tref {p : Program} {l : Launch} {e : Env} {s : State} {m : MethodId} {args : Array Value} {below : List Frame} {meth : Method} {c : Code} {Q : State → Prop} {D : va_G} {cs : Nat → ClassId} {ad : Nat → Nat} {A : Nat → Prop} {st mt : Nat → Nat → Int32} {ov : Nat → Int64} {cells slots q : Nat} (hq : q < 5) {x y : Int32} (C : Cx p s m args meth c D cs ad A b_L_talks 13 "TwinRegisterLaw") (hcs : cells ≤ 97 ∧ slots ≤ 582) (kx : ∀ k i : Nat, k < 12 → Wg p l e ({ frames := 9, cells := 97, slots := 582, locals := 171 } : Room) s m args below meth c Q D cs ad A 13 cells slots 981 [(0, .ref (ad 0)), (2, .int y), (4, .ref (ad 50)), (6, .ref (ad 52)), (9, .int (nI q)), (10, .int (nI k)), (11, .int x), (12, .int (nI i))] [] st mt ov) : ∀ n i k : Nat, i + n = 12 → k < 12 → Wg p l e ({ frames := 9, cells := 97, slots := 582, locals := 171 } : Room) s m args below meth c Q D cs ad A 13 cells slots 936 [(0, .ref (ad 0)), (2, .int y), (4, .ref (ad 50)), (6, .ref (ad 52)), (9, .int (nI q)), (10, .int (nI k)), (11, .int x), (12, .int (nI i))] [] st mt ov := by
  intro n
  induction n with
  | zero =>
    intro i k hi hk
    have hi9 : 12 = i := by omega
    subst hi9
    refine w_iload C 7 d_L_talks_936 rfl ?_
    refine w_bipush (v := 12) C d_L_talks_938 rfl ?_
    refine w_icmp_ge_t C 981 d_L_talks_940 (by decide) (nI_le (a := 12) (b := 12) (Nat.le_refl _) (by decide)) ?_
    exact w_lv [0, 1, 2, 3, 4, 5, 6, 7] rfl (kx k 12 hk)
  | succ n ih =>
    intro i k hi hk
    have hi2 : i < 12 := by omega
    refine w_iload C 7 d_L_talks_936 rfl ?_
    refine w_bipush (v := 12) C d_L_talks_938 rfl ?_
    refine w_icmp_ge_f C 981 d_L_talks_940 (by decide) (nI_ge (b := 12) hi2 (by decide)) ?_
    refine w_iload_n C 1 d_L_talks_943 rfl rfl ?_
    refine w_sipush (v := 128) C d_L_talks_944 rfl ?_
    refine w_iand C d_L_talks_947 ?_
    refine w_if_le C 981 d_L_talks_948 (by decide) (fun h948 => ?_) (fun h948 => ?_)
    · skip
      exact w_lv [0, 1, 2, 3, 4, 5, 6, 7] rfl (kx k i hk)
    · skip
      refine w_aload C 2 d_L_talks_951 rfl ?_
      refine w_iload C 4 d_L_talks_953 rfl ?_
      refine w_callMi C (w_runS C (c_L_differing hq) m_385 m_386 m_23 m_387 ⟨rfl, rfl⟩ hd_L_differing rfl ⟨Nat.le_of_ble_eq_true rfl, Nat.le_of_ble_eq_true rfl⟩ rfl (Nat.le_of_ble_eq_true rfl) d_L_talks_955 hcs) (fun r9 u9 h9 => ?_)
      obtain ⟨e1, e2⟩ := h9
      rw [e1, e2]
      refine w_iload C 5 d_L_talks_958 rfl ?_
      refine w_ishr C d_L_talks_960 ?_
      refine w_iconst (v := 1) C d_L_talks_961 rfl ?_
      refine w_iand C d_L_talks_962 ?_
      refine w_if_ne C 981 d_L_talks_963 (by decide) (fun h963 => ?_) (fun h963 => ?_)
      · skip
        exact w_lv [0, 1, 2, 3, 4, 5, 6, 7] rfl (kx k i hk)
      · skip
        refine w_iload C 5 d_L_talks_966 rfl ?_
        refine w_iconst (v := 1) C d_L_talks_968 rfl ?_
        refine w_iadd C d_L_talks_969 ?_
        refine w_topi (y := (nI (k + 1))) (nI_1 k) ?_
        refine w_bipush (v := 12) C d_L_talks_970 rfl ?_
        refine w_irem C d_L_talks_972 (by decide) ?_
        refine w_topi (y := (nI ((k + 1) % 12))) (rem12 hk) ?_
        refine w_istore (lv2 := [(10, .int (nI ((k + 1) % 12))), (0, .ref (ad 0)), (2, .int y), (4, .ref (ad 50)), (6, .ref (ad 52)), (9, .int (nI q)), (11, .int x), (12, .int (nI i))]) C d_L_talks_973 (by decide) rfl ?_
        refine w_iinc (lv2 := [(12, .int (nI (i + 1))), (10, .int (nI ((k + 1) % 12))), (0, .ref (ad 0)), (2, .int y), (4, .ref (ad 50)), (6, .ref (ad 52)), (9, .int (nI q)), (11, .int x)]) C 7 d_L_talks_975 rfl (nI_1 _) (by decide) rfl ?_
        refine w_goto C 936 d_L_talks_978 (by decide) ?_
        exact w_lv [2, 3, 4, 5, 6, 1, 7, 0] rfl (ih (i + 1) ((k + 1) % 12) (by omega) (Nat.mod_lt _ (by decide)))
