/-! ===== what is told is right ===== -/
theorem pS_t {e : Int32} {x : Nat} (h : ¬ atL e x ≤ 0) : pS e x = true := decide_eq_true (Int32.not_le.mp h)
theorem pS_f {e : Int32} {x : Nat} (h : atL e x ≤ 0) : pS e x = false := decide_eq_false (Int32.not_lt.mpr h)
theorem pD_t {e : Int32} {x : Nat} (h : atL e x = 2) : pD e x = true := decide_eq_true h
theorem pD_f {e : Int32} {x : Nat} (h : ¬ atL e x = 2) : pD e x = false := decide_eq_false h
theorem pX_t {e : Int32} {x : Nat} (h : atL e x = 3) : pX e x = true := decide_eq_true h
theorem pX_f {e : Int32} {x : Nat} (h : ¬ atL e x = 3) : pX e x = false := decide_eq_false h
theorem h_slp {B : Nat} {st mt : St} {q : Nat} (hq : q < 5) (h : RP B st mt) (h0 : 0 ≤ mt 2 q) : ¬ st (4 + 4 * q) 7 = 0 := by
  intro z
  rw [(h.2.2.1 q hq).1.2.1, if_pos z] at h0
  exact absurd h0 (by decide)
theorem h_awk {B : Nat} {st mt : St} {q : Nat} (hB : B < 100000) (hq : q < 5) (h : RP B st mt) (h0 : ¬ 0 ≤ mt 2 q) : st (4 + 4 * q) 7 = 0 := by
  by_cases z : st (4 + 4 * q) 7 = 0
  · exact z
  · exfalso
    obtain ⟨n, hn, e⟩ := (h.2.2.1 q hq).2.2.2 z
    apply h0
    rw [(h.2.2.1 q hq).1.2.1, if_neg z, e]
    exact nI_pos' (by omega)
theorem hr_a {B : Nat} {st mt : St} {q : Nat} (hq : q < 5) (h : RP B st mt) (h7 : st (4 + 4 * q) 7 = 0) : hearV st q = mt 1 q := by
  unfold hearV
  rw [if_pos h7, (h.2.2.1 q hq).1.1]
theorem hr_s {B : Nat} {st mt : St} {q : Nat} (hq : q < 5) (h : RP B st mt) (h7 : ¬ st (4 + 4 * q) 7 = 0) : hearV st q = mt 2 q := by
  unfold hearV
  rw [if_neg h7, (h.2.2.1 q hq).1.2.1, if_neg h7]
theorem g_leaf {B : Nat} {st mt : St} {g : Nat} (hg : g < 4) (h : RP B st mt) : ∃ k, k < 12 ∧ mt 5 g &&& 15 = nI k ∧ tn (st (37 + g) 0) = k := by
  have hG := h.2.2.2.2.1 g hg
  obtain ⟨e1, e2, e3⟩ := GrR_l hG
  obtain ⟨k, lo, hi, hk, hlo, hhi, f1, f2, f3, f4⟩ := hG
  exact ⟨k, hk, e1.trans f1, by rw [f1, tn_nI (by omega)]⟩
theorem d3_z {B : Nat} {st mt : St} {q : Nat} (h5 : 5 ≤ q) (hq : q < 8) (h : RP B st mt) : st (4 + 4 * q) 3 = 0 := by
  obtain ⟨at2, hR⟩ := h.1
  rw [(hR.1 q hq).2, mskF_cong (p := unl st q) (p2 := fun _ => false) 12 (fun k hk => ?_)]
  · decide
  · unfold unl
    rw [((h.2.2.2.2.2.2.2 q h5 hq).1 k hk).1]
    rfl
theorem RP_okS {B : Nat} {st mt : St} (h : RP B st mt) : okS st := by
  obtain ⟨at2, hR⟩ := h.1
  exact Rel_okS hR
set_option maxHeartbeats 4000000 in
set_option maxRecDepth 100000 in
theorem l_told1 {p : Program} {l : Launch} {e : Env} {s : State} {m : MethodId} {args : Array Value} {below : List Frame} {meth : Method} {c : Code} {Q : State → Prop} {D : va_G} {cs : Nat → ClassId} {ad : Nat → Nat} {A : Nat → Prop} {st mt : Nat → Nat → Int32} {ov : Nat → Int64} {ca sa : Nat} {B : Nat} (hB : B < 100000) (hRP : RP B st mt) {k : Nat} (hk : k < 5) (C : Cx p s m args meth c D cs ad A b_L_isTold 15 "TwinRegisterLaw") (hl : l.stackTraces = false) (hcs : ca + 6 * 12 ≤ 473 ∧ sa + 36 * 12 ≤ 2838)
    (kx : Wg p l e ({ frames := 9, cells := 473, slots := 2838, locals := 169 } : Room) s m args below meth c Q D cs ad A 15 (ca + 6 * 12) (sa + 36 * 12) 171 [(0, .ref (ad 0)), (1, .ref (ad 50)), (2, .ref (ad 51)), (3, .ref (ad 52)), (4, .ref (ad 55)), (5, .ref (ad 56)), (6, .ref (ad 57)), (7, .ref (ad 58)), (8, .ref (ad 59)), (9, .int (nI k)), (11, .int (nI 12))] [] st mt ov) : ∀ n i : Nat, i + n = 12 → Wg p l e ({ frames := 9, cells := 473, slots := 2838, locals := 169 } : Room) s m args below meth c Q D cs ad A 15 (ca + 6 * i) (sa + 36 * i) 84 [(0, .ref (ad 0)), (1, .ref (ad 50)), (2, .ref (ad 51)), (3, .ref (ad 52)), (4, .ref (ad 55)), (5, .ref (ad 56)), (6, .ref (ad 57)), (7, .ref (ad 58)), (8, .ref (ad 59)), (9, .int (nI k)), (11, .int (nI i))] [] st mt ov := by
  intro n
  induction n with
  | zero =>
    intro i hi
    have hi9 : 12 = i := by omega
    subst hi9
    refine w_iload C 10 d_L_isTold_84 rfl ?_
    refine w_bipush (v := 12) C d_L_isTold_86 rfl ?_
    refine w_icmp_ge_t C 171 d_L_isTold_88 (by decide) (nI_le (a := 12) (b := 12) (Nat.le_refl _) (by decide)) ?_
    exact w_lv [0, 1, 2, 3, 4, 5, 6, 7, 8, 9, 10] rfl kx
  | succ n ih =>
    intro i hi
    have hi2 : i < 12 := by omega
    refine w_iload C 10 d_L_isTold_84 rfl ?_
    refine w_bipush (v := 12) C d_L_isTold_86 rfl ?_
    refine w_icmp_ge_f C 171 d_L_isTold_88 (by decide) (nI_ge (b := 12) hi2 (by decide)) ?_
    refine w_aload_n C 0 d_L_isTold_91 rfl rfl ?_
    refine w_iload C 9 d_L_isTold_92 rfl ?_
    refine w_iload C 10 d_L_isTold_94 rfl ?_
    refine w_callTi C (w_runSW C (c_L_wished hl) m_542 m_543 m_23 m_544 ⟨rfl, rfl⟩ hd_L_wished rfl ⟨Nat.le_of_ble_eq_true rfl, Nat.le_of_ble_eq_true rfl⟩ rfl (Nat.le_of_ble_eq_true rfl) d_L_isTold_96 ⟨(show ca + 6 * i + 2 ≤ 473 by omega), (show sa + 36 * i + 12 ≤ 2838 by omega)⟩) (fun r9 u9 h9 => ?_)
    obtain ⟨e1, e2⟩ := X_wished_k (q := k) (k := i) (by omega) hi2 h9
    rw [e1, e2]
    refine w_aload_n C 1 d_L_isTold_99 rfl rfl ?_
    refine w_bipush (v := 12) C d_L_isTold_100 rfl ?_
    refine w_iload C 9 d_L_isTold_102 rfl ?_
    refine w_imul C d_L_isTold_104 ?_
    refine w_iload C 10 d_L_isTold_105 rfl ?_
    refine w_iadd C d_L_isTold_107 ?_
    refine w_topi (y := (nI (12 * k + i))) (ix12 _ _) ?_
    refine ia_MA C 0 (by omega) rfl rfl (show _ < 60 by omega) d_L_isTold_108 ?_
    refine w_callMi C (w_runS C (c_L_wishedOf ) m_388 m_389 m_23 m_390 ⟨rfl, rfl⟩ hd_L_wishedOf rfl ⟨Nat.le_of_ble_eq_true rfl, Nat.le_of_ble_eq_true rfl⟩ rfl (Nat.le_of_ble_eq_true rfl) d_L_isTold_109 ⟨(show ca + 6 * i + 2 + 0 ≤ 473 by omega), (show sa + 36 * i + 12 + 0 ≤ 2838 by omega)⟩) (fun r109 u109 h109 => ?_)
    obtain ⟨rfl, h109⟩ := h109; have h109 := h109.symm; subst h109
    refine w_icmp_ne_f C 163 d_L_isTold_112 (by decide) (LfR_w (hRP.2.1 k hk i hi2)).symm ?_
    refine w_aload_n C 0 d_L_isTold_115 rfl rfl ?_
    refine w_iload C 9 d_L_isTold_116 rfl ?_
    refine w_iload C 10 d_L_isTold_118 rfl ?_
    refine w_xcatTi C (w_runVX C (c_T_reported hl) (by omega) e_T rfl rfl m_549 m_550 m_551 m_24 m_552 ⟨rfl, rfl⟩ hd_T_reported rfl ⟨Nat.le_of_ble_eq_true rfl, Nat.le_of_ble_eq_true rfl⟩ rfl (Nat.le_of_ble_eq_true rfl) d_L_isTold_120 ⟨(show ca + 6 * i + 2 + 2 ≤ 473 by omega), (show sa + 36 * i + 12 + 12 ≤ 2838 by omega)⟩) (fun E q9 h9 => ?_) (fun r9 u9 h9 => ?_)
    · exact absurd h9.2 (fun z => z.elim (fun y => y (inR_nI (by omega))) (fun y => y (inR_nI (by omega))))
    obtain ⟨q9, k9, hq9, hk9, e9, e7, e2, e1⟩ := h9
    have e8 := nQ (a := k) (by omega) (by omega) e9
    subst e8
    have e6 := nQ (a := i) (by omega) (by omega) e7
    subst e6
    rw [e1, e2]
    refine w_aload_n C 1 d_L_isTold_123 rfl rfl ?_
    refine w_bipush (v := 12) C d_L_isTold_124 rfl ?_
    refine w_iload C 9 d_L_isTold_126 rfl ?_
    refine w_imul C d_L_isTold_128 ?_
    refine w_iload C 10 d_L_isTold_129 rfl ?_
    refine w_iadd C d_L_isTold_131 ?_
    refine w_topi (y := (nI (12 * k + i))) (ix12 _ _) ?_
    refine ia_MA C 0 (by omega) rfl rfl (show _ < 60 by omega) d_L_isTold_132 ?_
    refine w_callMi C (w_runS C (c_L_reportedOf ) m_391 m_392 m_23 m_393 ⟨rfl, rfl⟩ hd_L_reportedOf rfl ⟨Nat.le_of_ble_eq_true rfl, Nat.le_of_ble_eq_true rfl⟩ rfl (Nat.le_of_ble_eq_true rfl) d_L_isTold_133 ⟨(show ca + 6 * i + 2 + 2 + 0 ≤ 473 by omega), (show sa + 36 * i + 12 + 12 + 0 ≤ 2838 by omega)⟩) (fun r133 u133 h133 => ?_)
    obtain ⟨rfl, h133⟩ := h133; have h133 := h133.symm; subst h133
    refine w_icmp_ne_f C 163 d_L_isTold_136 (by decide) (LfR_r (hRP.2.1 k hk i hi2)).symm ?_
    refine w_aload_n C 0 d_L_isTold_139 rfl rfl ?_
    refine w_iload C 9 d_L_isTold_140 rfl ?_
    refine w_iload C 10 d_L_isTold_142 rfl ?_
    refine w_xcatTi C (w_runVX C (c_T_why hl) (by omega) e_T rfl rfl m_553 m_554 m_555 m_24 m_556 ⟨rfl, rfl⟩ hd_T_why rfl ⟨Nat.le_of_ble_eq_true rfl, Nat.le_of_ble_eq_true rfl⟩ rfl (Nat.le_of_ble_eq_true rfl) d_L_isTold_144 ⟨(show ca + 6 * i + 2 + 2 + 2 ≤ 473 by omega), (show sa + 36 * i + 12 + 12 + 12 ≤ 2838 by omega)⟩) (fun E q9 h9 => ?_) (fun r9 u9 h9 => ?_)
    · exact absurd h9.2 (fun z => z.elim (fun y => y (inR_nI (by omega))) (fun y => y (inR_nI (by omega))))
    obtain ⟨q9, k9, hq9, hk9, e9, e7, e2, e1⟩ := h9
    have e8 := nQ (a := k) (by omega) (by omega) e9
    subst e8
    have e6 := nQ (a := i) (by omega) (by omega) e7
    subst e6
    rw [e1, e2]
    refine w_aload_n C 1 d_L_isTold_147 rfl rfl ?_
    refine w_bipush (v := 12) C d_L_isTold_148 rfl ?_
    refine w_iload C 9 d_L_isTold_150 rfl ?_
    refine w_imul C d_L_isTold_152 ?_
    refine w_iload C 10 d_L_isTold_153 rfl ?_
    refine w_iadd C d_L_isTold_155 ?_
    refine w_topi (y := (nI (12 * k + i))) (ix12 _ _) ?_
    refine ia_MA C 0 (by omega) rfl rfl (show _ < 60 by omega) d_L_isTold_156 ?_
    refine w_bipush (v := 14) C d_L_isTold_157 rfl ?_
    refine w_ishr C d_L_isTold_159 ?_
    refine w_icmp_eq_t C 165 d_L_isTold_160 (by decide) (LfR_s (hRP.2.1 k hk i hi2)).symm ?_
    refine w_iinc (lv2 := [(11, .int (nI (i + 1))), (0, .ref (ad 0)), (1, .ref (ad 50)), (2, .ref (ad 51)), (3, .ref (ad 52)), (4, .ref (ad 55)), (5, .ref (ad 56)), (6, .ref (ad 57)), (7, .ref (ad 58)), (8, .ref (ad 59)), (9, .int (nI k))]) C 10 d_L_isTold_165 rfl (nI_1 _) (by decide) rfl ?_
    refine w_goto C 84 d_L_isTold_168 (by decide) ?_
    refine w_widen (k2 := ca + 6 * (i + 1)) (n2 := sa + 36 * (i + 1)) (by omega) (by omega) ?_
    exact w_lv [1, 2, 3, 4, 5, 6, 7, 8, 9, 10, 0] rfl (ih (i + 1) (by omega))
set_option maxHeartbeats 4000000 in
set_option maxRecDepth 100000 in
theorem l_told0 {p : Program} {l : Launch} {e : Env} {s : State} {m : MethodId} {args : Array Value} {below : List Frame} {meth : Method} {c : Code} {Q : State → Prop} {D : va_G} {cs : Nat → ClassId} {ad : Nat → Nat} {A : Nat → Prop} {st mt : Nat → Nat → Int32} {ov : Nat → Int64} {ca sa : Nat} {B : Nat} (hB : B < 100000) (hRP : RP B st mt) (C : Cx p s m args meth c D cs ad A b_L_isTold 15 "TwinRegisterLaw") (hl : l.stackTraces = false) (hcs : ca + 76 * 5 ≤ 473 ∧ sa + 456 * 5 ≤ 2838)
    (kx : Wg p l e ({ frames := 9, cells := 473, slots := 2838, locals := 169 } : Room) s m args below meth c Q D cs ad A 15 (ca + 76 * 5) (sa + 456 * 5) 177 [(0, .ref (ad 0)), (1, .ref (ad 50)), (2, .ref (ad 51)), (3, .ref (ad 52)), (4, .ref (ad 55)), (5, .ref (ad 56)), (6, .ref (ad 57)), (7, .ref (ad 58)), (8, .ref (ad 59)), (9, .int (nI 5))] [] st mt ov) : ∀ n i : Nat, i + n = 5 → Wg p l e ({ frames := 9, cells := 473, slots := 2838, locals := 169 } : Room) s m args below meth c Q D cs ad A 15 (ca + 76 * i) (sa + 456 * i) 3 [(0, .ref (ad 0)), (1, .ref (ad 50)), (2, .ref (ad 51)), (3, .ref (ad 52)), (4, .ref (ad 55)), (5, .ref (ad 56)), (6, .ref (ad 57)), (7, .ref (ad 58)), (8, .ref (ad 59)), (9, .int (nI i))] [] st mt ov := by
  intro n
  induction n with
  | zero =>
    intro i hi
    have hi9 : 5 = i := by omega
    subst hi9
    refine w_iload C 9 d_L_isTold_3 rfl ?_
    refine w_iconst (v := 5) C d_L_isTold_5 rfl ?_
    refine w_icmp_ge_t C 177 d_L_isTold_6 (by decide) (nI_le (a := 5) (b := 5) (Nat.le_refl _) (by decide)) ?_
    exact w_lv [0, 1, 2, 3, 4, 5, 6, 7, 8, 9] rfl kx
  | succ n ih =>
    intro i hi
    have hi2 : i < 5 := by omega
    refine w_iload C 9 d_L_isTold_3 rfl ?_
    refine w_iconst (v := 5) C d_L_isTold_5 rfl ?_
    refine w_icmp_ge_f C 177 d_L_isTold_6 (by decide) (nI_ge (b := 5) hi2 (by decide)) ?_
    refine w_aload_n C 1 d_L_isTold_9 rfl rfl ?_
    refine w_iload C 9 d_L_isTold_10 rfl ?_
    refine w_callMi C (w_runS C (c_L_differing (by omega)) m_385 m_386 m_23 m_387 ⟨rfl, rfl⟩ hd_L_differing rfl ⟨Nat.le_of_ble_eq_true rfl, Nat.le_of_ble_eq_true rfl⟩ rfl (Nat.le_of_ble_eq_true rfl) d_L_isTold_12 ⟨(show ca + 76 * i + 0 ≤ 473 by omega), (show sa + 456 * i + 0 ≤ 2838 by omega)⟩) (fun r12 u12 h12 => ?_)
    obtain ⟨rfl, h12⟩ := h12; have h12 := h12.symm; subst h12
    refine w_istore (lv2 := [(10, .int _), (0, .ref (ad 0)), (1, .ref (ad 50)), (2, .ref (ad 51)), (3, .ref (ad 52)), (4, .ref (ad 55)), (5, .ref (ad 56)), (6, .ref (ad 57)), (7, .ref (ad 58)), (8, .ref (ad 59)), (9, .int (nI i))]) C d_L_isTold_15 (by decide) rfl ?_
    refine w_aload_n C 1 d_L_isTold_17 rfl rfl ?_
    refine w_iload C 10 d_L_isTold_18 rfl ?_
    refine w_callTi C (w_runSW C (c_L_version hl) m_522 m_523 m_23 m_524 ⟨rfl, rfl⟩ hd_L_version rfl ⟨Nat.le_of_ble_eq_true rfl, Nat.le_of_ble_eq_true rfl⟩ rfl (Nat.le_of_ble_eq_true rfl) d_L_isTold_20 ⟨(show ca + 76 * i + 1 ≤ 473 by omega), (show sa + 456 * i + 6 ≤ 2838 by omega)⟩) (fun r9 u9 h9 => ?_)
    obtain ⟨e1, e2⟩ := X_version_k (q := i) (by omega) h9
    rw [e1, e2]
    refine w_aload_n C 3 d_L_isTold_23 rfl rfl ?_
    refine w_iload C 10 d_L_isTold_24 rfl ?_
    refine ia_MA C 1 (by omega) rfl rfl (show _ < 5 by omega) d_L_isTold_26 ?_
    refine w_icmp_ne_f C 79 d_L_isTold_27 (by decide) (hRP.2.2.1 i hi2).1.1.symm ?_
    refine w_aload_n C 1 d_L_isTold_30 rfl rfl ?_
    refine w_iload C 10 d_L_isTold_31 rfl ?_
    refine w_xcatTi C (w_runVX C (c_T_heard hl) (by omega) e_T rfl rfl m_529 m_530 m_531 m_24 m_532 ⟨rfl, rfl⟩ hd_T_heard rfl ⟨Nat.le_of_ble_eq_true rfl, Nat.le_of_ble_eq_true rfl⟩ rfl (Nat.le_of_ble_eq_true rfl) d_L_isTold_33 ⟨(show ca + 76 * i + 1 + 1 ≤ 473 by omega), (show sa + 456 * i + 6 + 6 ≤ 2838 by omega)⟩) (fun E q9 h9 => ?_) (fun r9 u9 h9 => ?_)
    · exact absurd (inR_nI (n := 8) (k := i) (by omega)) h9.2
    obtain ⟨q9, hq9, e9, e2, e1⟩ := h9
    have e8 := nQ (a := i) (by omega) (by omega) e9
    subst e8
    rw [e1, e2]
    refine w_aload_n C 4 d_L_isTold_36 rfl rfl ?_
    refine w_iload C 10 d_L_isTold_37 rfl ?_
    refine ia_MA C 2 (by omega) rfl rfl (show _ < 5 by omega) d_L_isTold_39 ?_
    refine w_if_ge C 50 d_L_isTold_40 (by decide) (fun h40 => ?_) (fun h40 => ?_)
    · skip
      refine w_aload_n C 4 d_L_isTold_50 rfl rfl ?_
      refine w_iload C 10 d_L_isTold_51 rfl ?_
      refine ia_MA C 2 (by omega) rfl rfl (show _ < 5 by omega) d_L_isTold_53 ?_
      refine w_icmp_ne_f C 79 d_L_isTold_54 (by decide) (hr_s hi2 hRP (h_slp hi2 hRP h40)) ?_
      refine w_aload_n C 1 d_L_isTold_57 rfl rfl ?_
      refine w_iload C 10 d_L_isTold_58 rfl ?_
      refine w_xcatTi C (w_runVX C (c_T_differences hl) (by omega) e_T rfl rfl m_533 m_534 m_535 m_24 m_536 ⟨rfl, rfl⟩ hd_T_differences rfl ⟨Nat.le_of_ble_eq_true rfl, Nat.le_of_ble_eq_true rfl⟩ rfl (Nat.le_of_ble_eq_true rfl) d_L_isTold_60 ⟨(show ca + 76 * i + 1 + 1 + 1 ≤ 473 by omega), (show sa + 456 * i + 6 + 6 + 6 ≤ 2838 by omega)⟩) (fun E q9 h9 => ?_) (fun r9 u9 h9 => ?_)
      · exact absurd (inR_nI (n := 8) (k := i) (by omega)) h9.2
      obtain ⟨q9, hq9, e9, e2, e1⟩ := h9
      have e8 := nQ (a := i) (by omega) (by omega) e9
      subst e8
      rw [e1, e2]
      refine w_iload C 0 d_L_isTold_63 rfl ?_
      refine w_icmp_ne_f C 79 d_L_isTold_65 (by decide) (dg_eq hi2 hRP).symm ?_
      refine w_aload_n C 1 d_L_isTold_68 rfl rfl ?_
      refine w_iload C 10 d_L_isTold_69 rfl ?_
      refine w_xcatTi C (w_runVX C (c_T_differencesAnew hl) (by omega) e_T rfl rfl m_537 m_538 m_539 m_24 m_540 ⟨rfl, rfl⟩ hd_T_differencesAnew rfl ⟨Nat.le_of_ble_eq_true rfl, Nat.le_of_ble_eq_true rfl⟩ rfl (Nat.le_of_ble_eq_true rfl) d_L_isTold_71 ⟨(show ca + 76 * i + 1 + 1 + 1 + 1 ≤ 473 by omega), (show sa + 456 * i + 6 + 6 + 6 + 6 ≤ 2838 by omega)⟩) (fun E q9 h9 => ?_) (fun r9 u9 h9 => ?_)
      · exact absurd (inR_nI (n := 8) (k := i) (by omega)) h9.2
      obtain ⟨q9, hq9, e9, e2, e1⟩ := h9
      have e8 := nQ (a := i) (by omega) (by omega) e9
      subst e8
      rw [e1, e2]
      refine w_iload C 0 d_L_isTold_74 rfl ?_
      refine w_icmp_eq_t C 81 d_L_isTold_76 (by decide) ((dfa_eq (by omega) hRP).trans (dg_eq hi2 hRP).symm) ?_
      refine w_iconst (v := 0) C d_L_isTold_81 rfl ?_
      refine w_istore (lv2 := [(11, .int 0), (10, .int _), (0, .ref (ad 0)), (1, .ref (ad 50)), (2, .ref (ad 51)), (3, .ref (ad 52)), (4, .ref (ad 55)), (5, .ref (ad 56)), (6, .ref (ad 57)), (7, .ref (ad 58)), (8, .ref (ad 59)), (9, .int (nI i))]) C d_L_isTold_82 (by decide) rfl ?_
      refine w_lv (lv2 := [(0, .ref (ad 0)), (1, .ref (ad 50)), (2, .ref (ad 51)), (3, .ref (ad 52)), (4, .ref (ad 55)), (5, .ref (ad 56)), (6, .ref (ad 57)), (7, .ref (ad 58)), (8, .ref (ad 59)), (9, .int (nI i)), (11, .int (nI 0))]) [2, 3, 4, 5, 6, 7, 8, 9, 10, 11, 0] rfl ?_
      refine w_widen (k2 := (ca + 76 * i + 1 + 1 + 1 + 1) + 6 * 0) (n2 := (sa + 456 * i + 6 + 6 + 6 + 6) + 36 * 0) (by omega) (by omega) ?_
      refine l_told1 hB hRP hi2 (ca := ca + 76 * i + 1 + 1 + 1 + 1) (sa := sa + 456 * i + 6 + 6 + 6 + 6) C hl ⟨(show (ca + 76 * i + 1 + 1 + 1 + 1) + 6 * 12 ≤ 473 by omega), (show (sa + 456 * i + 6 + 6 + 6 + 6) + 36 * 12 ≤ 2838 by omega)⟩ ?_ 12 0 rfl
      refine w_iinc (lv2 := [(9, .int (nI (i + 1))), (0, .ref (ad 0)), (1, .ref (ad 50)), (2, .ref (ad 51)), (3, .ref (ad 52)), (4, .ref (ad 55)), (5, .ref (ad 56)), (6, .ref (ad 57)), (7, .ref (ad 58)), (8, .ref (ad 59)), (11, .int (nI 12))]) C 9 d_L_isTold_171 rfl (nI_1 _) (by decide) rfl ?_
      refine w_goto C 3 d_L_isTold_174 (by decide) ?_
      refine w_widen (k2 := ca + 76 * (i + 1)) (n2 := sa + 456 * (i + 1)) (by omega) (by omega) ?_
      exact w_lv [1, 2, 3, 4, 5, 6, 7, 8, 9, 0] rfl (ih (i + 1) (by omega))
    · skip
      refine w_aload_n C 3 d_L_isTold_43 rfl rfl ?_
      refine w_iload C 10 d_L_isTold_44 rfl ?_
      refine ia_MA C 1 (by omega) rfl rfl (show _ < 5 by omega) d_L_isTold_46 ?_
      refine w_goto C 54 d_L_isTold_47 (by decide) ?_
      refine w_icmp_ne_f C 79 d_L_isTold_54 (by decide) (hr_a hi2 hRP (h_awk hB hi2 hRP h40)) ?_
      refine w_aload_n C 1 d_L_isTold_57 rfl rfl ?_
      refine w_iload C 10 d_L_isTold_58 rfl ?_
      refine w_xcatTi C (w_runVX C (c_T_differences hl) (by omega) e_T rfl rfl m_533 m_534 m_535 m_24 m_536 ⟨rfl, rfl⟩ hd_T_differences rfl ⟨Nat.le_of_ble_eq_true rfl, Nat.le_of_ble_eq_true rfl⟩ rfl (Nat.le_of_ble_eq_true rfl) d_L_isTold_60 ⟨(show ca + 76 * i + 1 + 1 + 1 ≤ 473 by omega), (show sa + 456 * i + 6 + 6 + 6 ≤ 2838 by omega)⟩) (fun E q9 h9 => ?_) (fun r9 u9 h9 => ?_)
      · exact absurd (inR_nI (n := 8) (k := i) (by omega)) h9.2
      obtain ⟨q9, hq9, e9, e2, e1⟩ := h9
      have e8 := nQ (a := i) (by omega) (by omega) e9
      subst e8
      rw [e1, e2]
      refine w_iload C 0 d_L_isTold_63 rfl ?_
      refine w_icmp_ne_f C 79 d_L_isTold_65 (by decide) (dg_eq hi2 hRP).symm ?_
      refine w_aload_n C 1 d_L_isTold_68 rfl rfl ?_
      refine w_iload C 10 d_L_isTold_69 rfl ?_
      refine w_xcatTi C (w_runVX C (c_T_differencesAnew hl) (by omega) e_T rfl rfl m_537 m_538 m_539 m_24 m_540 ⟨rfl, rfl⟩ hd_T_differencesAnew rfl ⟨Nat.le_of_ble_eq_true rfl, Nat.le_of_ble_eq_true rfl⟩ rfl (Nat.le_of_ble_eq_true rfl) d_L_isTold_71 ⟨(show ca + 76 * i + 1 + 1 + 1 + 1 ≤ 473 by omega), (show sa + 456 * i + 6 + 6 + 6 + 6 ≤ 2838 by omega)⟩) (fun E q9 h9 => ?_) (fun r9 u9 h9 => ?_)
      · exact absurd (inR_nI (n := 8) (k := i) (by omega)) h9.2
      obtain ⟨q9, hq9, e9, e2, e1⟩ := h9
      have e8 := nQ (a := i) (by omega) (by omega) e9
      subst e8
      rw [e1, e2]
      refine w_iload C 0 d_L_isTold_74 rfl ?_
      refine w_icmp_eq_t C 81 d_L_isTold_76 (by decide) ((dfa_eq (by omega) hRP).trans (dg_eq hi2 hRP).symm) ?_
      refine w_iconst (v := 0) C d_L_isTold_81 rfl ?_
      refine w_istore (lv2 := [(11, .int 0), (10, .int _), (0, .ref (ad 0)), (1, .ref (ad 50)), (2, .ref (ad 51)), (3, .ref (ad 52)), (4, .ref (ad 55)), (5, .ref (ad 56)), (6, .ref (ad 57)), (7, .ref (ad 58)), (8, .ref (ad 59)), (9, .int (nI i))]) C d_L_isTold_82 (by decide) rfl ?_
      refine w_lv (lv2 := [(0, .ref (ad 0)), (1, .ref (ad 50)), (2, .ref (ad 51)), (3, .ref (ad 52)), (4, .ref (ad 55)), (5, .ref (ad 56)), (6, .ref (ad 57)), (7, .ref (ad 58)), (8, .ref (ad 59)), (9, .int (nI i)), (11, .int (nI 0))]) [2, 3, 4, 5, 6, 7, 8, 9, 10, 11, 0] rfl ?_
      refine w_widen (k2 := (ca + 76 * i + 1 + 1 + 1 + 1) + 6 * 0) (n2 := (sa + 456 * i + 6 + 6 + 6 + 6) + 36 * 0) (by omega) (by omega) ?_
      refine l_told1 hB hRP hi2 (ca := ca + 76 * i + 1 + 1 + 1 + 1) (sa := sa + 456 * i + 6 + 6 + 6 + 6) C hl ⟨(show (ca + 76 * i + 1 + 1 + 1 + 1) + 6 * 12 ≤ 473 by omega), (show (sa + 456 * i + 6 + 6 + 6 + 6) + 36 * 12 ≤ 2838 by omega)⟩ ?_ 12 0 rfl
      refine w_iinc (lv2 := [(9, .int (nI (i + 1))), (0, .ref (ad 0)), (1, .ref (ad 50)), (2, .ref (ad 51)), (3, .ref (ad 52)), (4, .ref (ad 55)), (5, .ref (ad 56)), (6, .ref (ad 57)), (7, .ref (ad 58)), (8, .ref (ad 59)), (11, .int (nI 12))]) C 9 d_L_isTold_171 rfl (nI_1 _) (by decide) rfl ?_
      refine w_goto C 3 d_L_isTold_174 (by decide) ?_
      refine w_widen (k2 := ca + 76 * (i + 1)) (n2 := sa + 456 * (i + 1)) (by omega) (by omega) ?_
      exact w_lv [1, 2, 3, 4, 5, 6, 7, 8, 9, 0] rfl (ih (i + 1) (by omega))
set_option maxHeartbeats 4000000 in
set_option maxRecDepth 100000 in
theorem l_told2 {p : Program} {l : Launch} {e : Env} {s : State} {m : MethodId} {args : Array Value} {below : List Frame} {meth : Method} {c : Code} {Q : State → Prop} {D : va_G} {cs : Nat → ClassId} {ad : Nat → Nat} {A : Nat → Prop} {st mt : Nat → Nat → Int32} {ov : Nat → Int64} {ca sa : Nat} {B : Nat} (hB : B < 100000) (hRP : RP B st mt) (hs : okS st) (C : Cx p s m args meth c D cs ad A b_L_isTold 15 "TwinRegisterLaw") (hl : l.stackTraces = false) (hcs : ca + 1 * 4 ≤ 473 ∧ sa + 6 * 4 ≤ 2838)
    (kx : Wg p l e ({ frames := 9, cells := 473, slots := 2838, locals := 169 } : Room) s m args below meth c Q D cs ad A 15 (ca + 1 * 4) (sa + 6 * 4) 211 [(0, .ref (ad 0)), (1, .ref (ad 50)), (2, .ref (ad 51)), (3, .ref (ad 52)), (4, .ref (ad 55)), (5, .ref (ad 56)), (6, .ref (ad 57)), (7, .ref (ad 58)), (8, .ref (ad 59)), (9, .int (nI 4))] [] st mt ov) : ∀ n i : Nat, i + n = 4 → Wg p l e ({ frames := 9, cells := 473, slots := 2838, locals := 169 } : Room) s m args below meth c Q D cs ad A 15 (ca + 1 * i) (sa + 6 * i) 180 [(0, .ref (ad 0)), (1, .ref (ad 50)), (2, .ref (ad 51)), (3, .ref (ad 52)), (4, .ref (ad 55)), (5, .ref (ad 56)), (6, .ref (ad 57)), (7, .ref (ad 58)), (8, .ref (ad 59)), (9, .int (nI i))] [] st mt ov := by
  intro n
  induction n with
  | zero =>
    intro i hi
    have hi9 : 4 = i := by omega
    subst hi9
    refine w_iload C 9 d_L_isTold_180 rfl ?_
    refine w_iconst (v := 4) C d_L_isTold_182 rfl ?_
    refine w_icmp_ge_t C 211 d_L_isTold_183 (by decide) (nI_le (a := 4) (b := 4) (Nat.le_refl _) (by decide)) ?_
    exact w_lv [0, 1, 2, 3, 4, 5, 6, 7, 8, 9] rfl kx
  | succ n ih =>
    intro i hi
    have hi2 : i < 4 := by omega
    obtain ⟨gk, hgk, hgl, hgt⟩ := g_leaf hi2 hRP
    have hg := hi2
    refine w_iload C 9 d_L_isTold_180 rfl ?_
    refine w_iconst (v := 4) C d_L_isTold_182 rfl ?_
    refine w_icmp_ge_f C 211 d_L_isTold_183 (by decide) (nI_ge (b := 4) hi2 (by decide)) ?_
    refine w_aload_n C 0 d_L_isTold_186 rfl rfl ?_
    refine w_iload C 9 d_L_isTold_187 rfl ?_
    refine w_xcatTi C (w_runVX C (c_T_members hs hl) (by omega) e_T rfl rfl m_557 m_558 m_559 m_24 m_560 ⟨rfl, rfl⟩ hd_T_members rfl ⟨Nat.le_of_ble_eq_true rfl, Nat.le_of_ble_eq_true rfl⟩ rfl (Nat.le_of_ble_eq_true rfl) d_L_isTold_189 ⟨(show ca + 1 * i + 1 ≤ 473 by omega), (show sa + 6 * i + 6 ≤ 2838 by omega)⟩) (fun E q9 h9 => ?_) (fun r9 u9 h9 => ?_)
    · exact absurd (inR_nI (n := 4) (k := i) (by omega)) h9.2
    obtain ⟨q9, hq9, e9, e2, e1⟩ := h9
    have e8 := nQ (a := i) (by omega) (by omega) e9
    subst e8
    rw [e1, e2]
    refine w_aload_n C 1 d_L_isTold_192 rfl rfl ?_
    refine w_aload C 4 d_L_isTold_193 rfl ?_
    refine w_iload C 9 d_L_isTold_195 rfl ?_
    refine w_callMi C (w_runS C (c_L_members (k := gk) hg hgk hgl) m_464 m_465 m_23 m_466 ⟨rfl, rfl⟩ hd_L_members rfl ⟨Nat.le_of_ble_eq_true rfl, Nat.le_of_ble_eq_true rfl⟩ rfl (Nat.le_of_ble_eq_true rfl) d_L_isTold_197 ⟨(show ca + 1 * i + 1 + 0 ≤ 473 by omega), (show sa + 6 * i + 6 + 0 ≤ 2838 by omega)⟩) (fun r9 u9 h9 => ?_)
    obtain ⟨rfl, h9⟩ := h9
    have h9 := h9.symm
    subst h9
    refine w_icmp_eq_t C 205 d_L_isTold_200 (by decide) (by rw [hgt]; exact mem_L hi2 hgk hRP) ?_
    refine w_iinc (lv2 := [(9, .int (nI (i + 1))), (0, .ref (ad 0)), (1, .ref (ad 50)), (2, .ref (ad 51)), (3, .ref (ad 52)), (4, .ref (ad 55)), (5, .ref (ad 56)), (6, .ref (ad 57)), (7, .ref (ad 58)), (8, .ref (ad 59))]) C 9 d_L_isTold_205 rfl (nI_1 _) (by decide) rfl ?_
    refine w_goto C 180 d_L_isTold_208 (by decide) ?_
    refine w_widen (k2 := ca + 1 * (i + 1)) (n2 := sa + 6 * (i + 1)) (by omega) (by omega) ?_
    exact w_lv [1, 2, 3, 4, 5, 6, 7, 8, 9, 0] rfl (ih (i + 1) (by omega))
set_option maxHeartbeats 4000000 in
set_option maxRecDepth 100000 in
theorem l_told4 {p : Program} {l : Launch} {e : Env} {s : State} {m : MethodId} {args : Array Value} {below : List Frame} {meth : Method} {c : Code} {Q : State → Prop} {D : va_G} {cs : Nat → ClassId} {ad : Nat → Nat} {A : Nat → Prop} {cells slots : Nat} {st mt : Nat → Nat → Int32} {ov : Nat → Int64} {k : Nat} (hk : k < 8) (C : Cx p s m args meth c D cs ad A b_L_isTold 15 "TwinRegisterLaw") (hcs : cells ≤ 473 ∧ slots ≤ 2838)
    (kx : Wg p l e ({ frames := 9, cells := 473, slots := 2838, locals := 169 } : Room) s m args below meth c Q D cs ad A 15 cells slots 317 [(0, .ref (ad 0)), (1, .ref (ad 50)), (2, .ref (ad 51)), (3, .ref (ad 52)), (4, .ref (ad 55)), (5, .ref (ad 56)), (6, .ref (ad 57)), (7, .ref (ad 58)), (8, .ref (ad 59)), (9, .int (nI k)), (10, .int (mskF (pS (mt 7 k)) 5)), (11, .int (mskF (pD (mt 7 k)) 5)), (12, .int (mskF (pX (mt 7 k)) 5))] [] st mt ov) : ∀ n i : Nat, i + n = 5 → Wg p l e ({ frames := 9, cells := 473, slots := 2838, locals := 169 } : Room) s m args below meth c Q D cs ad A 15 cells slots 235 [(0, .ref (ad 0)), (1, .ref (ad 50)), (2, .ref (ad 51)), (3, .ref (ad 52)), (4, .ref (ad 55)), (5, .ref (ad 56)), (6, .ref (ad 57)), (7, .ref (ad 58)), (8, .ref (ad 59)), (9, .int (nI k)), (10, .int (mskF (pS (mt 7 k)) i)), (11, .int (mskF (pD (mt 7 k)) i)), (12, .int (mskF (pX (mt 7 k)) i)), (13, .int (nI i))] [] st mt ov := by
  intro n
  induction n with
  | zero =>
    intro i hi
    have hi9 : 5 = i := by omega
    subst hi9
    refine w_iload C 13 d_L_isTold_235 rfl ?_
    refine w_iconst (v := 5) C d_L_isTold_237 rfl ?_
    refine w_icmp_ge_t C 317 d_L_isTold_238 (by decide) (nI_le (a := 5) (b := 5) (Nat.le_refl _) (by decide)) ?_
    exact w_lv [0, 1, 2, 3, 4, 5, 6, 7, 8, 9, 10, 11, 12] rfl kx
  | succ n ih =>
    intro i hi
    have hi2 : i < 5 := by omega
    refine w_iload C 13 d_L_isTold_235 rfl ?_
    refine w_iconst (v := 5) C d_L_isTold_237 rfl ?_
    refine w_icmp_ge_f C 317 d_L_isTold_238 (by decide) (nI_ge (b := 5) hi2 (by decide)) ?_
    refine w_aload C 6 d_L_isTold_241 rfl ?_
    refine w_iload C 9 d_L_isTold_243 rfl ?_
    refine ia_MA C 7 (by omega) rfl rfl (show _ < 8 by omega) d_L_isTold_245 ?_
    refine w_iconst (v := 2) C d_L_isTold_246 rfl ?_
    refine w_iload C 13 d_L_isTold_247 rfl ?_
    refine w_imul C d_L_isTold_249 ?_
    refine w_topi (y := (nI (2 * i))) (pk_mul 2 i) ?_
    refine w_ishr C d_L_isTold_250 ?_
    refine w_iconst (v := 3) C d_L_isTold_251 rfl ?_
    refine w_iand C d_L_isTold_252 ?_
    refine w_topi (y := (atL (mt 7 k) i)) (rfl) ?_
    refine w_istore (lv2 := [(14, .int (atL (mt 7 k) i)), (0, .ref (ad 0)), (1, .ref (ad 50)), (2, .ref (ad 51)), (3, .ref (ad 52)), (4, .ref (ad 55)), (5, .ref (ad 56)), (6, .ref (ad 57)), (7, .ref (ad 58)), (8, .ref (ad 59)), (9, .int (nI k)), (10, .int (mskF (pS (mt 7 k)) i)), (11, .int (mskF (pD (mt 7 k)) i)), (12, .int (mskF (pX (mt 7 k)) i)), (13, .int (nI i))]) C d_L_isTold_253 (by decide) rfl ?_
    refine w_iload C 11 d_L_isTold_255 rfl ?_
    refine w_iload C 0 d_L_isTold_257 rfl ?_
    refine w_if_le C 269 d_L_isTold_259 (by decide) (fun h259 => ?_) (fun h259 => ?_)
    · skip
      refine w_iconst (v := 0) C d_L_isTold_269 rfl ?_
      refine w_ior C d_L_isTold_270 ?_
      refine w_istore (lv2 := [(10, .int _), (14, .int (atL (mt 7 k) i)), (0, .ref (ad 0)), (1, .ref (ad 50)), (2, .ref (ad 51)), (3, .ref (ad 52)), (4, .ref (ad 55)), (5, .ref (ad 56)), (6, .ref (ad 57)), (7, .ref (ad 58)), (8, .ref (ad 59)), (9, .int (nI k)), (11, .int (mskF (pD (mt 7 k)) i)), (12, .int (mskF (pX (mt 7 k)) i)), (13, .int (nI i))]) C d_L_isTold_271 (by decide) rfl ?_
      refine w_iload C 12 d_L_isTold_273 rfl ?_
      refine w_iload C 1 d_L_isTold_275 rfl ?_
      refine w_iconst (v := 2) C d_L_isTold_277 rfl ?_
      refine w_icmp_ne C 288 d_L_isTold_278 (by decide) (fun h278 => ?_) (fun h278 => ?_)
      · skip
        refine w_iconst (v := 0) C d_L_isTold_288 rfl ?_
        refine w_ior C d_L_isTold_289 ?_
        refine w_istore (lv2 := [(11, .int _), (10, .int _), (14, .int (atL (mt 7 k) i)), (0, .ref (ad 0)), (1, .ref (ad 50)), (2, .ref (ad 51)), (3, .ref (ad 52)), (4, .ref (ad 55)), (5, .ref (ad 56)), (6, .ref (ad 57)), (7, .ref (ad 58)), (8, .ref (ad 59)), (9, .int (nI k)), (12, .int (mskF (pX (mt 7 k)) i)), (13, .int (nI i))]) C d_L_isTold_290 (by decide) rfl ?_
        refine w_iload C 13 d_L_isTold_292 rfl ?_
        refine w_iload C 2 d_L_isTold_294 rfl ?_
        refine w_iconst (v := 3) C d_L_isTold_296 rfl ?_
        refine w_icmp_ne C 307 d_L_isTold_297 (by decide) (fun h297 => ?_) (fun h297 => ?_)
        · skip
          refine w_iconst (v := 0) C d_L_isTold_307 rfl ?_
          refine w_ior C d_L_isTold_308 ?_
          refine w_istore (lv2 := [(12, .int _), (11, .int _), (10, .int _), (14, .int (atL (mt 7 k) i)), (0, .ref (ad 0)), (1, .ref (ad 50)), (2, .ref (ad 51)), (3, .ref (ad 52)), (4, .ref (ad 55)), (5, .ref (ad 56)), (6, .ref (ad 57)), (7, .ref (ad 58)), (8, .ref (ad 59)), (9, .int (nI k)), (13, .int (nI i))]) C d_L_isTold_309 (by decide) rfl ?_
          refine w_iinc (lv2 := [(13, .int (nI (i + 1))), (12, .int _), (11, .int _), (10, .int _), (14, .int (atL (mt 7 k) i)), (0, .ref (ad 0)), (1, .ref (ad 50)), (2, .ref (ad 51)), (3, .ref (ad 52)), (4, .ref (ad 55)), (5, .ref (ad 56)), (6, .ref (ad 57)), (7, .ref (ad 58)), (8, .ref (ad 59)), (9, .int (nI k))]) C 14 d_L_isTold_311 rfl (nI_1 _) (by decide) rfl ?_
          refine w_goto C 235 d_L_isTold_314 (by decide) ?_
          have ih9 := ih (i + 1) (by omega)
          rw [show mskF (pS (mt 7 k)) (i + 1) = _ from mkS_f (pS_f h259), show mskF (pD (mt 7 k)) (i + 1) = _ from mkS_f (pD_f h278), show mskF (pX (mt 7 k)) (i + 1) = _ from mkS_f (pX_f h297)] at ih9
          exact w_lv [5, 6, 7, 8, 9, 10, 11, 12, 13, 14, 3, 2, 1, 0] rfl ih9
        · skip
          refine w_iconst (v := 1) C d_L_isTold_300 rfl ?_
          refine w_iload C 14 d_L_isTold_301 rfl ?_
          refine w_ishl C d_L_isTold_303 ?_
          refine w_goto C 308 d_L_isTold_304 (by decide) ?_
          refine w_ior C d_L_isTold_308 ?_
          refine w_istore (lv2 := [(12, .int _), (11, .int _), (10, .int _), (14, .int (atL (mt 7 k) i)), (0, .ref (ad 0)), (1, .ref (ad 50)), (2, .ref (ad 51)), (3, .ref (ad 52)), (4, .ref (ad 55)), (5, .ref (ad 56)), (6, .ref (ad 57)), (7, .ref (ad 58)), (8, .ref (ad 59)), (9, .int (nI k)), (13, .int (nI i))]) C d_L_isTold_309 (by decide) rfl ?_
          refine w_iinc (lv2 := [(13, .int (nI (i + 1))), (12, .int _), (11, .int _), (10, .int _), (14, .int (atL (mt 7 k) i)), (0, .ref (ad 0)), (1, .ref (ad 50)), (2, .ref (ad 51)), (3, .ref (ad 52)), (4, .ref (ad 55)), (5, .ref (ad 56)), (6, .ref (ad 57)), (7, .ref (ad 58)), (8, .ref (ad 59)), (9, .int (nI k))]) C 14 d_L_isTold_311 rfl (nI_1 _) (by decide) rfl ?_
          refine w_goto C 235 d_L_isTold_314 (by decide) ?_
          have ih9 := ih (i + 1) (by omega)
          rw [show mskF (pS (mt 7 k)) (i + 1) = _ from mkS_f (pS_f h259), show mskF (pD (mt 7 k)) (i + 1) = _ from mkS_f (pD_f h278), show mskF (pX (mt 7 k)) (i + 1) = _ from mkS_t (pX_t h297)] at ih9
          exact w_lv [5, 6, 7, 8, 9, 10, 11, 12, 13, 14, 3, 2, 1, 0] rfl ih9
      · skip
        refine w_iconst (v := 1) C d_L_isTold_281 rfl ?_
        refine w_iload C 14 d_L_isTold_282 rfl ?_
        refine w_ishl C d_L_isTold_284 ?_
        refine w_goto C 289 d_L_isTold_285 (by decide) ?_
        refine w_ior C d_L_isTold_289 ?_
        refine w_istore (lv2 := [(11, .int _), (10, .int _), (14, .int (atL (mt 7 k) i)), (0, .ref (ad 0)), (1, .ref (ad 50)), (2, .ref (ad 51)), (3, .ref (ad 52)), (4, .ref (ad 55)), (5, .ref (ad 56)), (6, .ref (ad 57)), (7, .ref (ad 58)), (8, .ref (ad 59)), (9, .int (nI k)), (12, .int (mskF (pX (mt 7 k)) i)), (13, .int (nI i))]) C d_L_isTold_290 (by decide) rfl ?_
        refine w_iload C 13 d_L_isTold_292 rfl ?_
        refine w_iload C 2 d_L_isTold_294 rfl ?_
        refine w_iconst (v := 3) C d_L_isTold_296 rfl ?_
        refine w_icmp_ne C 307 d_L_isTold_297 (by decide) (fun h297 => ?_) (fun h297 => ?_)
        · skip
          refine w_iconst (v := 0) C d_L_isTold_307 rfl ?_
          refine w_ior C d_L_isTold_308 ?_
          refine w_istore (lv2 := [(12, .int _), (11, .int _), (10, .int _), (14, .int (atL (mt 7 k) i)), (0, .ref (ad 0)), (1, .ref (ad 50)), (2, .ref (ad 51)), (3, .ref (ad 52)), (4, .ref (ad 55)), (5, .ref (ad 56)), (6, .ref (ad 57)), (7, .ref (ad 58)), (8, .ref (ad 59)), (9, .int (nI k)), (13, .int (nI i))]) C d_L_isTold_309 (by decide) rfl ?_
          refine w_iinc (lv2 := [(13, .int (nI (i + 1))), (12, .int _), (11, .int _), (10, .int _), (14, .int (atL (mt 7 k) i)), (0, .ref (ad 0)), (1, .ref (ad 50)), (2, .ref (ad 51)), (3, .ref (ad 52)), (4, .ref (ad 55)), (5, .ref (ad 56)), (6, .ref (ad 57)), (7, .ref (ad 58)), (8, .ref (ad 59)), (9, .int (nI k))]) C 14 d_L_isTold_311 rfl (nI_1 _) (by decide) rfl ?_
          refine w_goto C 235 d_L_isTold_314 (by decide) ?_
          have ih9 := ih (i + 1) (by omega)
          rw [show mskF (pS (mt 7 k)) (i + 1) = _ from mkS_f (pS_f h259), show mskF (pD (mt 7 k)) (i + 1) = _ from mkS_t (pD_t h278), show mskF (pX (mt 7 k)) (i + 1) = _ from mkS_f (pX_f h297)] at ih9
          exact w_lv [5, 6, 7, 8, 9, 10, 11, 12, 13, 14, 3, 2, 1, 0] rfl ih9
        · skip
          refine w_iconst (v := 1) C d_L_isTold_300 rfl ?_
          refine w_iload C 14 d_L_isTold_301 rfl ?_
          refine w_ishl C d_L_isTold_303 ?_
          refine w_goto C 308 d_L_isTold_304 (by decide) ?_
          refine w_ior C d_L_isTold_308 ?_
          refine w_istore (lv2 := [(12, .int _), (11, .int _), (10, .int _), (14, .int (atL (mt 7 k) i)), (0, .ref (ad 0)), (1, .ref (ad 50)), (2, .ref (ad 51)), (3, .ref (ad 52)), (4, .ref (ad 55)), (5, .ref (ad 56)), (6, .ref (ad 57)), (7, .ref (ad 58)), (8, .ref (ad 59)), (9, .int (nI k)), (13, .int (nI i))]) C d_L_isTold_309 (by decide) rfl ?_
          refine w_iinc (lv2 := [(13, .int (nI (i + 1))), (12, .int _), (11, .int _), (10, .int _), (14, .int (atL (mt 7 k) i)), (0, .ref (ad 0)), (1, .ref (ad 50)), (2, .ref (ad 51)), (3, .ref (ad 52)), (4, .ref (ad 55)), (5, .ref (ad 56)), (6, .ref (ad 57)), (7, .ref (ad 58)), (8, .ref (ad 59)), (9, .int (nI k))]) C 14 d_L_isTold_311 rfl (nI_1 _) (by decide) rfl ?_
          refine w_goto C 235 d_L_isTold_314 (by decide) ?_
          have ih9 := ih (i + 1) (by omega)
          rw [show mskF (pS (mt 7 k)) (i + 1) = _ from mkS_f (pS_f h259), show mskF (pD (mt 7 k)) (i + 1) = _ from mkS_t (pD_t h278), show mskF (pX (mt 7 k)) (i + 1) = _ from mkS_t (pX_t h297)] at ih9
          exact w_lv [5, 6, 7, 8, 9, 10, 11, 12, 13, 14, 3, 2, 1, 0] rfl ih9
    · skip
      refine w_iconst (v := 1) C d_L_isTold_262 rfl ?_
      refine w_iload C 14 d_L_isTold_263 rfl ?_
      refine w_ishl C d_L_isTold_265 ?_
      refine w_goto C 270 d_L_isTold_266 (by decide) ?_
      refine w_ior C d_L_isTold_270 ?_
      refine w_istore (lv2 := [(10, .int _), (14, .int (atL (mt 7 k) i)), (0, .ref (ad 0)), (1, .ref (ad 50)), (2, .ref (ad 51)), (3, .ref (ad 52)), (4, .ref (ad 55)), (5, .ref (ad 56)), (6, .ref (ad 57)), (7, .ref (ad 58)), (8, .ref (ad 59)), (9, .int (nI k)), (11, .int (mskF (pD (mt 7 k)) i)), (12, .int (mskF (pX (mt 7 k)) i)), (13, .int (nI i))]) C d_L_isTold_271 (by decide) rfl ?_
      refine w_iload C 12 d_L_isTold_273 rfl ?_
      refine w_iload C 1 d_L_isTold_275 rfl ?_
      refine w_iconst (v := 2) C d_L_isTold_277 rfl ?_
      refine w_icmp_ne C 288 d_L_isTold_278 (by decide) (fun h278 => ?_) (fun h278 => ?_)
      · skip
        refine w_iconst (v := 0) C d_L_isTold_288 rfl ?_
        refine w_ior C d_L_isTold_289 ?_
        refine w_istore (lv2 := [(11, .int _), (10, .int _), (14, .int (atL (mt 7 k) i)), (0, .ref (ad 0)), (1, .ref (ad 50)), (2, .ref (ad 51)), (3, .ref (ad 52)), (4, .ref (ad 55)), (5, .ref (ad 56)), (6, .ref (ad 57)), (7, .ref (ad 58)), (8, .ref (ad 59)), (9, .int (nI k)), (12, .int (mskF (pX (mt 7 k)) i)), (13, .int (nI i))]) C d_L_isTold_290 (by decide) rfl ?_
        refine w_iload C 13 d_L_isTold_292 rfl ?_
        refine w_iload C 2 d_L_isTold_294 rfl ?_
        refine w_iconst (v := 3) C d_L_isTold_296 rfl ?_
        refine w_icmp_ne C 307 d_L_isTold_297 (by decide) (fun h297 => ?_) (fun h297 => ?_)
        · skip
          refine w_iconst (v := 0) C d_L_isTold_307 rfl ?_
          refine w_ior C d_L_isTold_308 ?_
          refine w_istore (lv2 := [(12, .int _), (11, .int _), (10, .int _), (14, .int (atL (mt 7 k) i)), (0, .ref (ad 0)), (1, .ref (ad 50)), (2, .ref (ad 51)), (3, .ref (ad 52)), (4, .ref (ad 55)), (5, .ref (ad 56)), (6, .ref (ad 57)), (7, .ref (ad 58)), (8, .ref (ad 59)), (9, .int (nI k)), (13, .int (nI i))]) C d_L_isTold_309 (by decide) rfl ?_
          refine w_iinc (lv2 := [(13, .int (nI (i + 1))), (12, .int _), (11, .int _), (10, .int _), (14, .int (atL (mt 7 k) i)), (0, .ref (ad 0)), (1, .ref (ad 50)), (2, .ref (ad 51)), (3, .ref (ad 52)), (4, .ref (ad 55)), (5, .ref (ad 56)), (6, .ref (ad 57)), (7, .ref (ad 58)), (8, .ref (ad 59)), (9, .int (nI k))]) C 14 d_L_isTold_311 rfl (nI_1 _) (by decide) rfl ?_
          refine w_goto C 235 d_L_isTold_314 (by decide) ?_
          have ih9 := ih (i + 1) (by omega)
          rw [show mskF (pS (mt 7 k)) (i + 1) = _ from mkS_t (pS_t h259), show mskF (pD (mt 7 k)) (i + 1) = _ from mkS_f (pD_f h278), show mskF (pX (mt 7 k)) (i + 1) = _ from mkS_f (pX_f h297)] at ih9
          exact w_lv [5, 6, 7, 8, 9, 10, 11, 12, 13, 14, 3, 2, 1, 0] rfl ih9
        · skip
          refine w_iconst (v := 1) C d_L_isTold_300 rfl ?_
          refine w_iload C 14 d_L_isTold_301 rfl ?_
          refine w_ishl C d_L_isTold_303 ?_
          refine w_goto C 308 d_L_isTold_304 (by decide) ?_
          refine w_ior C d_L_isTold_308 ?_
          refine w_istore (lv2 := [(12, .int _), (11, .int _), (10, .int _), (14, .int (atL (mt 7 k) i)), (0, .ref (ad 0)), (1, .ref (ad 50)), (2, .ref (ad 51)), (3, .ref (ad 52)), (4, .ref (ad 55)), (5, .ref (ad 56)), (6, .ref (ad 57)), (7, .ref (ad 58)), (8, .ref (ad 59)), (9, .int (nI k)), (13, .int (nI i))]) C d_L_isTold_309 (by decide) rfl ?_
          refine w_iinc (lv2 := [(13, .int (nI (i + 1))), (12, .int _), (11, .int _), (10, .int _), (14, .int (atL (mt 7 k) i)), (0, .ref (ad 0)), (1, .ref (ad 50)), (2, .ref (ad 51)), (3, .ref (ad 52)), (4, .ref (ad 55)), (5, .ref (ad 56)), (6, .ref (ad 57)), (7, .ref (ad 58)), (8, .ref (ad 59)), (9, .int (nI k))]) C 14 d_L_isTold_311 rfl (nI_1 _) (by decide) rfl ?_
          refine w_goto C 235 d_L_isTold_314 (by decide) ?_
          have ih9 := ih (i + 1) (by omega)
          rw [show mskF (pS (mt 7 k)) (i + 1) = _ from mkS_t (pS_t h259), show mskF (pD (mt 7 k)) (i + 1) = _ from mkS_f (pD_f h278), show mskF (pX (mt 7 k)) (i + 1) = _ from mkS_t (pX_t h297)] at ih9
          exact w_lv [5, 6, 7, 8, 9, 10, 11, 12, 13, 14, 3, 2, 1, 0] rfl ih9
      · skip
        refine w_iconst (v := 1) C d_L_isTold_281 rfl ?_
        refine w_iload C 14 d_L_isTold_282 rfl ?_
        refine w_ishl C d_L_isTold_284 ?_
        refine w_goto C 289 d_L_isTold_285 (by decide) ?_
        refine w_ior C d_L_isTold_289 ?_
        refine w_istore (lv2 := [(11, .int _), (10, .int _), (14, .int (atL (mt 7 k) i)), (0, .ref (ad 0)), (1, .ref (ad 50)), (2, .ref (ad 51)), (3, .ref (ad 52)), (4, .ref (ad 55)), (5, .ref (ad 56)), (6, .ref (ad 57)), (7, .ref (ad 58)), (8, .ref (ad 59)), (9, .int (nI k)), (12, .int (mskF (pX (mt 7 k)) i)), (13, .int (nI i))]) C d_L_isTold_290 (by decide) rfl ?_
        refine w_iload C 13 d_L_isTold_292 rfl ?_
        refine w_iload C 2 d_L_isTold_294 rfl ?_
        refine w_iconst (v := 3) C d_L_isTold_296 rfl ?_
        refine w_icmp_ne C 307 d_L_isTold_297 (by decide) (fun h297 => ?_) (fun h297 => ?_)
        · skip
          refine w_iconst (v := 0) C d_L_isTold_307 rfl ?_
          refine w_ior C d_L_isTold_308 ?_
          refine w_istore (lv2 := [(12, .int _), (11, .int _), (10, .int _), (14, .int (atL (mt 7 k) i)), (0, .ref (ad 0)), (1, .ref (ad 50)), (2, .ref (ad 51)), (3, .ref (ad 52)), (4, .ref (ad 55)), (5, .ref (ad 56)), (6, .ref (ad 57)), (7, .ref (ad 58)), (8, .ref (ad 59)), (9, .int (nI k)), (13, .int (nI i))]) C d_L_isTold_309 (by decide) rfl ?_
          refine w_iinc (lv2 := [(13, .int (nI (i + 1))), (12, .int _), (11, .int _), (10, .int _), (14, .int (atL (mt 7 k) i)), (0, .ref (ad 0)), (1, .ref (ad 50)), (2, .ref (ad 51)), (3, .ref (ad 52)), (4, .ref (ad 55)), (5, .ref (ad 56)), (6, .ref (ad 57)), (7, .ref (ad 58)), (8, .ref (ad 59)), (9, .int (nI k))]) C 14 d_L_isTold_311 rfl (nI_1 _) (by decide) rfl ?_
          refine w_goto C 235 d_L_isTold_314 (by decide) ?_
          have ih9 := ih (i + 1) (by omega)
          rw [show mskF (pS (mt 7 k)) (i + 1) = _ from mkS_t (pS_t h259), show mskF (pD (mt 7 k)) (i + 1) = _ from mkS_t (pD_t h278), show mskF (pX (mt 7 k)) (i + 1) = _ from mkS_f (pX_f h297)] at ih9
          exact w_lv [5, 6, 7, 8, 9, 10, 11, 12, 13, 14, 3, 2, 1, 0] rfl ih9
        · skip
          refine w_iconst (v := 1) C d_L_isTold_300 rfl ?_
          refine w_iload C 14 d_L_isTold_301 rfl ?_
          refine w_ishl C d_L_isTold_303 ?_
          refine w_goto C 308 d_L_isTold_304 (by decide) ?_
          refine w_ior C d_L_isTold_308 ?_
          refine w_istore (lv2 := [(12, .int _), (11, .int _), (10, .int _), (14, .int (atL (mt 7 k) i)), (0, .ref (ad 0)), (1, .ref (ad 50)), (2, .ref (ad 51)), (3, .ref (ad 52)), (4, .ref (ad 55)), (5, .ref (ad 56)), (6, .ref (ad 57)), (7, .ref (ad 58)), (8, .ref (ad 59)), (9, .int (nI k)), (13, .int (nI i))]) C d_L_isTold_309 (by decide) rfl ?_
          refine w_iinc (lv2 := [(13, .int (nI (i + 1))), (12, .int _), (11, .int _), (10, .int _), (14, .int (atL (mt 7 k) i)), (0, .ref (ad 0)), (1, .ref (ad 50)), (2, .ref (ad 51)), (3, .ref (ad 52)), (4, .ref (ad 55)), (5, .ref (ad 56)), (6, .ref (ad 57)), (7, .ref (ad 58)), (8, .ref (ad 59)), (9, .int (nI k))]) C 14 d_L_isTold_311 rfl (nI_1 _) (by decide) rfl ?_
          refine w_goto C 235 d_L_isTold_314 (by decide) ?_
          have ih9 := ih (i + 1) (by omega)
          rw [show mskF (pS (mt 7 k)) (i + 1) = _ from mkS_t (pS_t h259), show mskF (pD (mt 7 k)) (i + 1) = _ from mkS_t (pD_t h278), show mskF (pX (mt 7 k)) (i + 1) = _ from mkS_t (pX_t h297)] at ih9
          exact w_lv [5, 6, 7, 8, 9, 10, 11, 12, 13, 14, 3, 2, 1, 0] rfl ih9
set_option maxHeartbeats 4000000 in
set_option maxRecDepth 100000 in
theorem l_told3 {p : Program} {l : Launch} {e : Env} {s : State} {m : MethodId} {args : Array Value} {below : List Frame} {meth : Method} {c : Code} {Q : State → Prop} {D : va_G} {cs : Nat → ClassId} {ad : Nat → Nat} {A : Nat → Prop} {st mt : Nat → Nat → Int32} {ov : Nat → Int64} {ca sa : Nat} {B : Nat} (hB : B < 100000) (hRP : RP B st mt) {jc : Nat} (hjc : jc ≤ 8) (hj0 : st 0 4 = nI jc) (hm0 : mt 9 0 = nI jc) (C : Cx p s m args meth c D cs ad A b_L_isTold 15 "TwinRegisterLaw") (hl : l.stackTraces = false) (hcs : ca + 9 * jc ≤ 473 ∧ sa + 54 * jc ≤ 2838)
    (kx : Wg p l e ({ frames := 9, cells := 473, slots := 2838, locals := 169 } : Room) s m args below meth c Q D cs ad A 15 (ca + 9 * jc) (sa + 54 * jc) 387 [(0, .ref (ad 0)), (1, .ref (ad 50)), (2, .ref (ad 51)), (3, .ref (ad 52)), (4, .ref (ad 55)), (5, .ref (ad 56)), (6, .ref (ad 57)), (7, .ref (ad 58)), (8, .ref (ad 59)), (9, .int (nI jc))] [] st mt ov) : ∀ n i : Nat, i + n = jc → Wg p l e ({ frames := 9, cells := 473, slots := 2838, locals := 169 } : Room) s m args below meth c Q D cs ad A 15 (ca + 9 * i) (sa + 54 * i) 214 [(0, .ref (ad 0)), (1, .ref (ad 50)), (2, .ref (ad 51)), (3, .ref (ad 52)), (4, .ref (ad 55)), (5, .ref (ad 56)), (6, .ref (ad 57)), (7, .ref (ad 58)), (8, .ref (ad 59)), (9, .int (nI i))] [] st mt ov := by
  intro n
  induction n with
  | zero =>
    intro i hi
    have hi9 : jc = i := by omega
    subst hi9
    refine w_iload C 9 d_L_isTold_214 rfl ?_
    refine w_aload C 8 d_L_isTold_216 rfl ?_
    refine w_iconst (v := 0) C d_L_isTold_218 rfl ?_
    refine ia_MA C 9 (by omega) rfl (show (0 : Int32) = nI 0 from rfl) (show 0 < 1 by decide) d_L_isTold_219 ?_
    refine w_topi (y := (nI jc)) (hm0) ?_
    refine w_icmp_ge_t C 387 d_L_isTold_220 (by decide) (nI_le (a := jc) (b := jc) (Nat.le_refl _) (by omega)) ?_
    exact w_lv [0, 1, 2, 3, 4, 5, 6, 7, 8, 9] rfl kx
  | succ n ih =>
    intro i hi
    have hi2 : i < jc := by omega
    refine w_iload C 9 d_L_isTold_214 rfl ?_
    refine w_aload C 8 d_L_isTold_216 rfl ?_
    refine w_iconst (v := 0) C d_L_isTold_218 rfl ?_
    refine ia_MA C 9 (by omega) rfl (show (0 : Int32) = nI 0 from rfl) (show 0 < 1 by decide) d_L_isTold_219 ?_
    refine w_topi (y := (nI jc)) (hm0) ?_
    refine w_icmp_ge_f C 387 d_L_isTold_220 (by decide) (nI_ge (b := jc) hi2 (by omega)) ?_
    refine w_iconst (v := 0) C d_L_isTold_223 rfl ?_
    refine w_istore (lv2 := [(10, .int 0), (0, .ref (ad 0)), (1, .ref (ad 50)), (2, .ref (ad 51)), (3, .ref (ad 52)), (4, .ref (ad 55)), (5, .ref (ad 56)), (6, .ref (ad 57)), (7, .ref (ad 58)), (8, .ref (ad 59)), (9, .int (nI i))]) C d_L_isTold_224 (by decide) rfl ?_
    refine w_iconst (v := 0) C d_L_isTold_226 rfl ?_
    refine w_istore (lv2 := [(11, .int 0), (10, .int 0), (0, .ref (ad 0)), (1, .ref (ad 50)), (2, .ref (ad 51)), (3, .ref (ad 52)), (4, .ref (ad 55)), (5, .ref (ad 56)), (6, .ref (ad 57)), (7, .ref (ad 58)), (8, .ref (ad 59)), (9, .int (nI i))]) C d_L_isTold_227 (by decide) rfl ?_
    refine w_iconst (v := 0) C d_L_isTold_229 rfl ?_
    refine w_istore (lv2 := [(12, .int 0), (11, .int 0), (10, .int 0), (0, .ref (ad 0)), (1, .ref (ad 50)), (2, .ref (ad 51)), (3, .ref (ad 52)), (4, .ref (ad 55)), (5, .ref (ad 56)), (6, .ref (ad 57)), (7, .ref (ad 58)), (8, .ref (ad 59)), (9, .int (nI i))]) C d_L_isTold_230 (by decide) rfl ?_
    refine w_iconst (v := 0) C d_L_isTold_232 rfl ?_
    refine w_istore (lv2 := [(13, .int 0), (12, .int 0), (11, .int 0), (10, .int 0), (0, .ref (ad 0)), (1, .ref (ad 50)), (2, .ref (ad 51)), (3, .ref (ad 52)), (4, .ref (ad 55)), (5, .ref (ad 56)), (6, .ref (ad 57)), (7, .ref (ad 58)), (8, .ref (ad 59)), (9, .int (nI i))]) C d_L_isTold_233 (by decide) rfl ?_
    refine w_lv (lv2 := [(0, .ref (ad 0)), (1, .ref (ad 50)), (2, .ref (ad 51)), (3, .ref (ad 52)), (4, .ref (ad 55)), (5, .ref (ad 56)), (6, .ref (ad 57)), (7, .ref (ad 58)), (8, .ref (ad 59)), (9, .int (nI i)), (10, .int (mskF (pS (mt 7 i)) 0)), (11, .int (mskF (pD (mt 7 i)) 0)), (12, .int (mskF (pX (mt 7 i)) 0)), (13, .int (nI 0))]) [4, 5, 6, 7, 8, 9, 10, 11, 12, 13, 3, 2, 1, 0] rfl ?_
    refine l_told4 (k := i) (by omega) C ⟨(show ca + 9 * i ≤ 473 by omega), (show sa + 54 * i ≤ 2838 by omega)⟩ ?_ 5 0 rfl
    refine w_aload_n C 0 d_L_isTold_317 rfl rfl ?_
    refine w_iload C 9 d_L_isTold_318 rfl ?_
    refine w_callTi C (w_runSW C (c_L_state hjc hj0 hl) m_512 m_513 m_23 m_514 ⟨rfl, rfl⟩ hd_L_state rfl ⟨Nat.le_of_ble_eq_true rfl, Nat.le_of_ble_eq_true rfl⟩ rfl (Nat.le_of_ble_eq_true rfl) d_L_isTold_320 ⟨(show ca + 9 * i + 1 ≤ 473 by omega), (show sa + 54 * i + 6 ≤ 2838 by omega)⟩) (fun r9 u9 h9 => ?_)
    obtain ⟨e1, e2⟩ := X_state_k hjc hi2 h9
    rw [e1, e2]
    refine w_aload C 7 d_L_isTold_323 rfl ?_
    refine w_iload C 9 d_L_isTold_325 rfl ?_
    refine ia_MA C 8 (by omega) rfl rfl (show _ < 8 by omega) d_L_isTold_327 ?_
    refine w_icmp_ne_f C 379 d_L_isTold_328 (by decide) (hRP.2.2.2.2.2.1 i (by omega)).2.2.1.symm ?_
    refine w_aload_n C 0 d_L_isTold_331 rfl rfl ?_
    refine w_iload C 9 d_L_isTold_332 rfl ?_
    refine w_iconst (v := 0) C d_L_isTold_334 rfl ?_
    refine w_callTi C (w_runSW C (c_L_devices hjc hj0 hl) m_561 m_562 m_23 m_563 ⟨rfl, rfl⟩ hd_L_devices rfl ⟨Nat.le_of_ble_eq_true rfl, Nat.le_of_ble_eq_true rfl⟩ rfl (Nat.le_of_ble_eq_true rfl) d_L_isTold_335 ⟨(show ca + 9 * i + 1 + 2 ≤ 473 by omega), (show sa + 54 * i + 6 + 12 ≤ 2838 by omega)⟩) (fun r9 u9 h9 => ?_)
    obtain ⟨e1, e2⟩ := X_devices_k hjc hi2 (show rng 0 0 2 from ⟨by decide, by decide⟩) h9
    rw [e1, e2]
    refine w_iload C 10 d_L_isTold_338 rfl ?_
    refine w_icmp_ne_f C 379 d_L_isTold_340 (by decide) (by rw [if_pos rfl]; exact (sets_q (by omega) hRP).1.symm) ?_
    refine w_aload_n C 0 d_L_isTold_343 rfl rfl ?_
    refine w_iload C 9 d_L_isTold_344 rfl ?_
    refine w_iconst (v := 1) C d_L_isTold_346 rfl ?_
    refine w_callTi C (w_runSW C (c_L_devices hjc hj0 hl) m_561 m_562 m_23 m_563 ⟨rfl, rfl⟩ hd_L_devices rfl ⟨Nat.le_of_ble_eq_true rfl, Nat.le_of_ble_eq_true rfl⟩ rfl (Nat.le_of_ble_eq_true rfl) d_L_isTold_347 ⟨(show ca + 9 * i + 1 + 2 + 2 ≤ 473 by omega), (show sa + 54 * i + 6 + 12 + 12 ≤ 2838 by omega)⟩) (fun r9 u9 h9 => ?_)
    obtain ⟨e1, e2⟩ := X_devices_k hjc hi2 (show rng 1 0 2 from ⟨by decide, by decide⟩) h9
    rw [e1, e2]
    refine w_iload C 11 d_L_isTold_350 rfl ?_
    refine w_icmp_ne_f C 379 d_L_isTold_352 (by decide) (by rw [if_neg (by decide), if_pos rfl]; exact (sets_q (by omega) hRP).2.1.symm) ?_
    refine w_aload_n C 0 d_L_isTold_355 rfl rfl ?_
    refine w_iload C 9 d_L_isTold_356 rfl ?_
    refine w_iconst (v := 2) C d_L_isTold_358 rfl ?_
    refine w_callTi C (w_runSW C (c_L_devices hjc hj0 hl) m_561 m_562 m_23 m_563 ⟨rfl, rfl⟩ hd_L_devices rfl ⟨Nat.le_of_ble_eq_true rfl, Nat.le_of_ble_eq_true rfl⟩ rfl (Nat.le_of_ble_eq_true rfl) d_L_isTold_359 ⟨(show ca + 9 * i + 1 + 2 + 2 + 2 ≤ 473 by omega), (show sa + 54 * i + 6 + 12 + 12 + 12 ≤ 2838 by omega)⟩) (fun r9 u9 h9 => ?_)
    obtain ⟨e1, e2⟩ := X_devices_k hjc hi2 (show rng 2 0 2 from ⟨by decide, by decide⟩) h9
    rw [e1, e2]
    refine w_iload C 12 d_L_isTold_362 rfl ?_
    refine w_icmp_ne_f C 379 d_L_isTold_364 (by decide) (by rw [if_neg (by decide), if_neg (by decide)]; exact (sets_q (by omega) hRP).2.2.symm) ?_
    refine w_aload_n C 0 d_L_isTold_367 rfl rfl ?_
    refine w_iload C 9 d_L_isTold_368 rfl ?_
    refine w_iconst (v := 3) C d_L_isTold_370 rfl ?_
    refine w_callTi C (w_runSW C (c_L_devices hjc hj0 hl) m_561 m_562 m_23 m_563 ⟨rfl, rfl⟩ hd_L_devices rfl ⟨Nat.le_of_ble_eq_true rfl, Nat.le_of_ble_eq_true rfl⟩ rfl (Nat.le_of_ble_eq_true rfl) d_L_isTold_371 ⟨(show ca + 9 * i + 1 + 2 + 2 + 2 + 2 ≤ 473 by omega), (show sa + 54 * i + 6 + 12 + 12 + 12 + 12 ≤ 2838 by omega)⟩) (fun r9 u9 h9 => ?_)
    obtain ⟨e1, e2⟩ := X_devices_A hi2 (show ¬ rng 3 0 2 from rng_n (Or.inr (by decide))) h9
    rw [e1, e2]
    refine w_bipush (v := -72) C d_L_isTold_374 rfl ?_
    refine w_icmp_eq_t C 381 d_L_isTold_376 (by decide) (by decide) ?_
    refine w_iinc (lv2 := [(9, .int (nI (i + 1))), (0, .ref (ad 0)), (1, .ref (ad 50)), (2, .ref (ad 51)), (3, .ref (ad 52)), (4, .ref (ad 55)), (5, .ref (ad 56)), (6, .ref (ad 57)), (7, .ref (ad 58)), (8, .ref (ad 59)), (10, .int (mskF (pS (mt 7 i)) 5)), (11, .int (mskF (pD (mt 7 i)) 5)), (12, .int (mskF (pX (mt 7 i)) 5))]) C 9 d_L_isTold_381 rfl (nI_1 _) (by decide) rfl ?_
    refine w_goto C 214 d_L_isTold_384 (by decide) ?_
    refine w_widen (k2 := ca + 9 * (i + 1)) (n2 := sa + 54 * (i + 1)) (by omega) (by omega) ?_
    exact w_lv [1, 2, 3, 4, 5, 6, 7, 8, 9, 0] rfl (ih (i + 1) (by omega))
set_option maxHeartbeats 4000000 in
set_option maxRecDepth 100000 in
theorem c_L_isTold {l : Launch} {D : va_G} {cs : Nat → ClassId} {ad : Nat → Nat} {st mt : Nat → Nat → Int32} {ov : Nat → Int64} {B : Nat} (hB : B < 100000) (hRP : RP B st mt) (hl : l.stackTraces = false) : gM l y_L_isTold b_L_isTold 15 (some .boolean) ({ frames := 9, cells := 473, slots := 2838, locals := 169 } : Room) 473 2838 [.ref (ad 0), .ref (ad 50), .ref (ad 51), .ref (ad 52), .ref (ad 55), .ref (ad 56), .ref (ad 57), .ref (ad 58), .ref (ad 59)] D cs ad st mt ov (QPi D cs ad ov (fun r u => r = 1 ∧ u = (st, mt))) := by
  refine gM_of (own := "TwinRegisterLaw") (by decide +kernel) rfl (Nat.le_of_ble_eq_true rfl) ?_
  intro p e s m args below meth c C hr
  have hs := RP_okS hRP
  obtain ⟨jc, hjc, hj0, hm0⟩ := hRP.2.2.2.2.2.2.1
  refine w_lv (lv2 := [(0, .ref (ad 0)), (1, .ref (ad 50)), (2, .ref (ad 51)), (3, .ref (ad 52)), (4, .ref (ad 55)), (5, .ref (ad 56)), (6, .ref (ad 57)), (7, .ref (ad 58)), (8, .ref (ad 59))]) [0, 1, 2, 3, 4, 5, 6, 7, 8] rfl ?_
  refine w_iconst (v := 0) C d_L_isTold_0 rfl ?_
  refine w_istore (lv2 := [(9, .int 0), (0, .ref (ad 0)), (1, .ref (ad 50)), (2, .ref (ad 51)), (3, .ref (ad 52)), (4, .ref (ad 55)), (5, .ref (ad 56)), (6, .ref (ad 57)), (7, .ref (ad 58)), (8, .ref (ad 59))]) C d_L_isTold_1 (by decide) rfl ?_
  refine w_lv (lv2 := [(0, .ref (ad 0)), (1, .ref (ad 50)), (2, .ref (ad 51)), (3, .ref (ad 52)), (4, .ref (ad 55)), (5, .ref (ad 56)), (6, .ref (ad 57)), (7, .ref (ad 58)), (8, .ref (ad 59)), (9, .int (nI 0))]) [1, 2, 3, 4, 5, 6, 7, 8, 9, 0] rfl ?_
  refine w_widen (k2 := (0) + 76 * 0) (n2 := (0) + 456 * 0) (by omega) (by omega) ?_
  refine l_told0 hB hRP (ca := 0) (sa := 0) C hl ⟨(show (0) + 76 * 5 ≤ 473 by omega), (show (0) + 456 * 5 ≤ 2838 by omega)⟩ ?_ 5 0 rfl
  refine w_iconst (v := 0) C d_L_isTold_177 rfl ?_
  refine w_istore (lv2 := [(9, .int 0), (0, .ref (ad 0)), (1, .ref (ad 50)), (2, .ref (ad 51)), (3, .ref (ad 52)), (4, .ref (ad 55)), (5, .ref (ad 56)), (6, .ref (ad 57)), (7, .ref (ad 58)), (8, .ref (ad 59))]) C d_L_isTold_178 (by decide) rfl ?_
  refine w_lv (lv2 := [(0, .ref (ad 0)), (1, .ref (ad 50)), (2, .ref (ad 51)), (3, .ref (ad 52)), (4, .ref (ad 55)), (5, .ref (ad 56)), (6, .ref (ad 57)), (7, .ref (ad 58)), (8, .ref (ad 59)), (9, .int (nI 0))]) [1, 2, 3, 4, 5, 6, 7, 8, 9, 0] rfl ?_
  refine w_widen (k2 := ((0) + 76 * 5) + 1 * 0) (n2 := ((0) + 456 * 5) + 6 * 0) (by omega) (by omega) ?_
  refine l_told2 hB hRP hs (ca := (0) + 76 * 5) (sa := (0) + 456 * 5) C hl ⟨(show ((0) + 76 * 5) + 1 * 4 ≤ 473 by omega), (show ((0) + 456 * 5) + 6 * 4 ≤ 2838 by omega)⟩ ?_ 4 0 rfl
  refine w_iconst (v := 0) C d_L_isTold_211 rfl ?_
  refine w_istore (lv2 := [(9, .int 0), (0, .ref (ad 0)), (1, .ref (ad 50)), (2, .ref (ad 51)), (3, .ref (ad 52)), (4, .ref (ad 55)), (5, .ref (ad 56)), (6, .ref (ad 57)), (7, .ref (ad 58)), (8, .ref (ad 59))]) C d_L_isTold_212 (by decide) rfl ?_
  refine w_lv (lv2 := [(0, .ref (ad 0)), (1, .ref (ad 50)), (2, .ref (ad 51)), (3, .ref (ad 52)), (4, .ref (ad 55)), (5, .ref (ad 56)), (6, .ref (ad 57)), (7, .ref (ad 58)), (8, .ref (ad 59)), (9, .int (nI 0))]) [1, 2, 3, 4, 5, 6, 7, 8, 9, 0] rfl ?_
  refine w_widen (k2 := (((0) + 76 * 5) + 1 * 4) + 9 * 0) (n2 := (((0) + 456 * 5) + 6 * 4) + 54 * 0) (by omega) (by omega) ?_
  refine l_told3 hB hRP hjc hj0 hm0 (ca := ((0) + 76 * 5) + 1 * 4) (sa := ((0) + 456 * 5) + 6 * 4) C hl ⟨(show (((0) + 76 * 5) + 1 * 4) + 9 * jc ≤ 473 by omega), (show (((0) + 456 * 5) + 6 * 4) + 54 * jc ≤ 2838 by omega)⟩ ?_ jc 0 (Nat.zero_add _)
  refine w_aload_n C 0 d_L_isTold_387 rfl rfl ?_
  refine w_callTi C (w_runV C (c_T_jobs ) (by omega) e_T rfl rfl m_568 m_569 m_570 m_24 m_571 ⟨rfl, rfl⟩ hd_T_jobs rfl ⟨Nat.le_of_ble_eq_true rfl, Nat.le_of_ble_eq_true rfl⟩ rfl (Nat.le_of_ble_eq_true rfl) d_L_isTold_388 ⟨(show (((0) + 76 * 5) + 1 * 4) + 9 * jc + 0 ≤ 473 by omega), (show (((0) + 456 * 5) + 6 * 4) + 54 * jc + 0 ≤ 2838 by omega)⟩) (fun r388 u388 h388 => ?_)
  obtain ⟨rfl, h388⟩ := h388; have h388 := h388.symm; subst h388
  refine w_aload C 8 d_L_isTold_391 rfl ?_
  refine w_iconst (v := 0) C d_L_isTold_393 rfl ?_
  refine ia_MA C 9 (by omega) rfl (show (0 : Int32) = nI 0 from rfl) (show 0 < 1 by decide) d_L_isTold_394 ?_
  refine w_icmp_ne_f C 524 d_L_isTold_395 (by decide) (hj0.trans hm0.symm) ?_
  refine w_aload_n C 0 d_L_isTold_398 rfl rfl ?_
  refine w_aload C 8 d_L_isTold_399 rfl ?_
  refine w_iconst (v := 0) C d_L_isTold_401 rfl ?_
  refine ia_MA C 9 (by omega) rfl (show (0 : Int32) = nI 0 from rfl) (show 0 < 1 by decide) d_L_isTold_402 ?_
  refine w_topi (y := (nI jc)) (hm0) ?_
  refine w_callTi C (w_runSW C (c_L_state hjc hj0 hl) m_512 m_513 m_23 m_514 ⟨rfl, rfl⟩ hd_L_state rfl ⟨Nat.le_of_ble_eq_true rfl, Nat.le_of_ble_eq_true rfl⟩ rfl (Nat.le_of_ble_eq_true rfl) d_L_isTold_403 ⟨(show (((0) + 76 * 5) + 1 * 4) + 9 * jc + 1 ≤ 473 by omega), (show (((0) + 456 * 5) + 6 * 4) + 54 * jc + 6 ≤ 2838 by omega)⟩) (fun r9 u9 h9 => ?_)
  obtain ⟨e1, e2⟩ := X_state_O (inR_no1 (by omega) (nI_le (Nat.le_refl _) (by omega))) h9
  rw [e1, e2]
  refine w_bipush (v := -71) C d_L_isTold_406 rfl ?_
  refine w_icmp_ne_f C 524 d_L_isTold_408 (by decide) (by decide) ?_
  refine w_aload_n C 0 d_L_isTold_411 rfl rfl ?_
  refine w_aload C 8 d_L_isTold_412 rfl ?_
  refine w_iconst (v := 0) C d_L_isTold_414 rfl ?_
  refine ia_MA C 9 (by omega) rfl (show (0 : Int32) = nI 0 from rfl) (show 0 < 1 by decide) d_L_isTold_415 ?_
  refine w_topi (y := (nI jc)) (hm0) ?_
  refine w_iconst (v := 5) C d_L_isTold_416 rfl ?_
  refine w_callTi C (w_runSW C (c_L_devices hjc hj0 hl) m_561 m_562 m_23 m_563 ⟨rfl, rfl⟩ hd_L_devices rfl ⟨Nat.le_of_ble_eq_true rfl, Nat.le_of_ble_eq_true rfl⟩ rfl (Nat.le_of_ble_eq_true rfl) d_L_isTold_417 ⟨(show (((0) + 76 * 5) + 1 * 4) + 9 * jc + 1 + 2 ≤ 473 by omega), (show (((0) + 456 * 5) + 6 * 4) + 54 * jc + 6 + 12 ≤ 2838 by omega)⟩) (fun r9 u9 h9 => ?_)
  obtain ⟨e1, e2⟩ := X_devices_O (inR_no1 (by omega) (nI_le (Nat.le_refl _) (by omega))) h9
  rw [e1, e2]
  refine w_bipush (v := -71) C d_L_isTold_420 rfl ?_
  refine w_icmp_ne_f C 524 d_L_isTold_422 (by decide) (by decide) ?_
  refine w_aload_n C 0 d_L_isTold_425 rfl rfl ?_
  refine w_iconst (v := (-1)) C d_L_isTold_426 rfl ?_
  refine w_iconst (v := 0) C d_L_isTold_427 rfl ?_
  refine w_callTi C (w_runSW C (c_L_devices hjc hj0 hl) m_561 m_562 m_23 m_563 ⟨rfl, rfl⟩ hd_L_devices rfl ⟨Nat.le_of_ble_eq_true rfl, Nat.le_of_ble_eq_true rfl⟩ rfl (Nat.le_of_ble_eq_true rfl) d_L_isTold_428 ⟨(show (((0) + 76 * 5) + 1 * 4) + 9 * jc + 1 + 2 + 2 ≤ 473 by omega), (show (((0) + 456 * 5) + 6 * 4) + 54 * jc + 6 + 12 + 12 ≤ 2838 by omega)⟩) (fun r9 u9 h9 => ?_)
  obtain ⟨e1, e2⟩ := X_devices_O (inR_no0 (by omega) (by decide)) h9
  rw [e1, e2]
  refine w_bipush (v := -71) C d_L_isTold_431 rfl ?_
  refine w_icmp_ne_f C 524 d_L_isTold_433 (by decide) (by decide) ?_
  refine w_aload_n C 0 d_L_isTold_436 rfl rfl ?_
  refine w_bipush (v := 8) C d_L_isTold_437 rfl ?_
  refine w_callTi C (w_runSW C (c_L_version hl) m_522 m_523 m_23 m_524 ⟨rfl, rfl⟩ hd_L_version rfl ⟨Nat.le_of_ble_eq_true rfl, Nat.le_of_ble_eq_true rfl⟩ rfl (Nat.le_of_ble_eq_true rfl) d_L_isTold_439 ⟨(show (((0) + 76 * 5) + 1 * 4) + 9 * jc + 1 + 2 + 2 + 1 ≤ 473 by omega), (show (((0) + 456 * 5) + 6 * 4) + 54 * jc + 6 + 12 + 12 + 6 ≤ 2838 by omega)⟩) (fun r9 u9 h9 => ?_)
  obtain ⟨e1, e2⟩ := X_version_O (inR_no1 (n := 8) (by decide) (by decide)) h9
  rw [e1, e2]
  refine w_bipush (v := -71) C d_L_isTold_442 rfl ?_
  refine w_icmp_ne_f C 524 d_L_isTold_444 (by decide) (by decide) ?_
  refine w_aload_n C 0 d_L_isTold_447 rfl rfl ?_
  refine w_iconst (v := (-1)) C d_L_isTold_448 rfl ?_
  refine w_callTi C (w_runSW C (c_L_version hl) m_522 m_523 m_23 m_524 ⟨rfl, rfl⟩ hd_L_version rfl ⟨Nat.le_of_ble_eq_true rfl, Nat.le_of_ble_eq_true rfl⟩ rfl (Nat.le_of_ble_eq_true rfl) d_L_isTold_449 ⟨(show (((0) + 76 * 5) + 1 * 4) + 9 * jc + 1 + 2 + 2 + 1 + 1 ≤ 473 by omega), (show (((0) + 456 * 5) + 6 * 4) + 54 * jc + 6 + 12 + 12 + 6 + 6 ≤ 2838 by omega)⟩) (fun r9 u9 h9 => ?_)
  obtain ⟨e1, e2⟩ := X_version_O (inR_no0 (n := 8) (by decide) (by decide)) h9
  rw [e1, e2]
  refine w_bipush (v := -71) C d_L_isTold_452 rfl ?_
  refine w_icmp_ne_f C 524 d_L_isTold_454 (by decide) (by decide) ?_
  refine w_aload_n C 0 d_L_isTold_457 rfl rfl ?_
  refine w_bipush (v := 8) C d_L_isTold_458 rfl ?_
  refine w_iconst (v := 0) C d_L_isTold_460 rfl ?_
  refine w_callTi C (w_runSW C (c_L_wished hl) m_542 m_543 m_23 m_544 ⟨rfl, rfl⟩ hd_L_wished rfl ⟨Nat.le_of_ble_eq_true rfl, Nat.le_of_ble_eq_true rfl⟩ rfl (Nat.le_of_ble_eq_true rfl) d_L_isTold_461 ⟨(show (((0) + 76 * 5) + 1 * 4) + 9 * jc + 1 + 2 + 2 + 1 + 1 + 2 ≤ 473 by omega), (show (((0) + 456 * 5) + 6 * 4) + 54 * jc + 6 + 12 + 12 + 6 + 6 + 12 ≤ 2838 by omega)⟩) (fun r9 u9 h9 => ?_)
  obtain ⟨e1, e2⟩ := X_wished_O (Or.inl (inR_no1 (n := 8) (by decide) (by decide))) h9
  rw [e1, e2]
  refine w_bipush (v := -71) C d_L_isTold_464 rfl ?_
  refine w_icmp_ne_f C 524 d_L_isTold_466 (by decide) (by decide) ?_
  refine w_aload_n C 0 d_L_isTold_469 rfl rfl ?_
  refine w_iconst (v := 0) C d_L_isTold_470 rfl ?_
  refine w_bipush (v := 12) C d_L_isTold_471 rfl ?_
  refine w_callTi C (w_runSW C (c_L_wished hl) m_542 m_543 m_23 m_544 ⟨rfl, rfl⟩ hd_L_wished rfl ⟨Nat.le_of_ble_eq_true rfl, Nat.le_of_ble_eq_true rfl⟩ rfl (Nat.le_of_ble_eq_true rfl) d_L_isTold_473 ⟨(show (((0) + 76 * 5) + 1 * 4) + 9 * jc + 1 + 2 + 2 + 1 + 1 + 2 + 2 ≤ 473 by omega), (show (((0) + 456 * 5) + 6 * 4) + 54 * jc + 6 + 12 + 12 + 6 + 6 + 12 + 12 ≤ 2838 by omega)⟩) (fun r9 u9 h9 => ?_)
  obtain ⟨e1, e2⟩ := X_wished_O (Or.inr (inR_no1 (n := 12) (by decide) (by decide))) h9
  rw [e1, e2]
  refine w_bipush (v := -71) C d_L_isTold_476 rfl ?_
  refine w_icmp_ne_f C 524 d_L_isTold_478 (by decide) (by decide) ?_
  refine w_aload_n C 0 d_L_isTold_481 rfl rfl ?_
  refine w_iconst (v := 0) C d_L_isTold_482 rfl ?_
  refine w_iconst (v := (-1)) C d_L_isTold_483 rfl ?_
  refine w_callTi C (w_runSW C (c_L_wished hl) m_542 m_543 m_23 m_544 ⟨rfl, rfl⟩ hd_L_wished rfl ⟨Nat.le_of_ble_eq_true rfl, Nat.le_of_ble_eq_true rfl⟩ rfl (Nat.le_of_ble_eq_true rfl) d_L_isTold_484 ⟨(show (((0) + 76 * 5) + 1 * 4) + 9 * jc + 1 + 2 + 2 + 1 + 1 + 2 + 2 + 2 ≤ 473 by omega), (show (((0) + 456 * 5) + 6 * 4) + 54 * jc + 6 + 12 + 12 + 6 + 6 + 12 + 12 + 12 ≤ 2838 by omega)⟩) (fun r9 u9 h9 => ?_)
  obtain ⟨e1, e2⟩ := X_wished_O (Or.inr (inR_no0 (n := 12) (by decide) (by decide))) h9
  rw [e1, e2]
  refine w_bipush (v := -71) C d_L_isTold_487 rfl ?_
  refine w_icmp_ne_f C 524 d_L_isTold_489 (by decide) (by decide) ?_
  refine w_aload_n C 0 d_L_isTold_492 rfl rfl ?_
  refine w_bipush (v := 7) C d_L_isTold_493 rfl ?_
  refine w_callTi C (w_runSW C (c_L_version hl) m_522 m_523 m_23 m_524 ⟨rfl, rfl⟩ hd_L_version rfl ⟨Nat.le_of_ble_eq_true rfl, Nat.le_of_ble_eq_true rfl⟩ rfl (Nat.le_of_ble_eq_true rfl) d_L_isTold_495 ⟨(show (((0) + 76 * 5) + 1 * 4) + 9 * jc + 1 + 2 + 2 + 1 + 1 + 2 + 2 + 2 + 1 ≤ 473 by omega), (show (((0) + 456 * 5) + 6 * 4) + 54 * jc + 6 + 12 + 12 + 6 + 6 + 12 + 12 + 12 + 6 ≤ 2838 by omega)⟩) (fun r9 u9 h9 => ?_)
  obtain ⟨e1, e2⟩ := X_version_k (q := 7) (by omega) h9
  rw [e1, e2]
  refine w_if_ne_f C 524 d_L_isTold_498 (by decide) ((hRP.2.2.2.2.2.2.2 7 (by omega) (by omega)).2) ?_
  refine w_aload_n C 0 d_L_isTold_501 rfl rfl ?_
  refine w_bipush (v := 6) C d_L_isTold_502 rfl ?_
  refine w_xcatTi C (w_runVX C (c_T_differences hl) (by omega) e_T rfl rfl m_533 m_534 m_535 m_24 m_536 ⟨rfl, rfl⟩ hd_T_differences rfl ⟨Nat.le_of_ble_eq_true rfl, Nat.le_of_ble_eq_true rfl⟩ rfl (Nat.le_of_ble_eq_true rfl) d_L_isTold_504 ⟨(show (((0) + 76 * 5) + 1 * 4) + 9 * jc + 1 + 2 + 2 + 1 + 1 + 2 + 2 + 2 + 1 + 1 ≤ 473 by omega), (show (((0) + 456 * 5) + 6 * 4) + 54 * jc + 6 + 12 + 12 + 6 + 6 + 12 + 12 + 12 + 6 + 6 ≤ 2838 by omega)⟩) (fun E q9 h9 => ?_) (fun r9 u9 h9 => ?_)
  · exact absurd (inR_nI (n := 8) (k := 6) (by omega)) h9.2
  obtain ⟨q9, hq9, e9, e2, e1⟩ := h9
  have e8 := nQ (a := 6) (by omega) (by omega) e9
  subst e8
  rw [e1, e2]
  refine w_if_ne_f C 524 d_L_isTold_507 (by decide) (d3_z (q := 6) (by omega) (by omega) hRP) ?_
  refine w_aload_n C 0 d_L_isTold_510 rfl rfl ?_
  refine w_iconst (v := 5) C d_L_isTold_511 rfl ?_
  refine w_iconst (v := 5) C d_L_isTold_512 rfl ?_
  refine w_callTi C (w_runSW C (c_L_wished hl) m_542 m_543 m_23 m_544 ⟨rfl, rfl⟩ hd_L_wished rfl ⟨Nat.le_of_ble_eq_true rfl, Nat.le_of_ble_eq_true rfl⟩ rfl (Nat.le_of_ble_eq_true rfl) d_L_isTold_513 ⟨(show (((0) + 76 * 5) + 1 * 4) + 9 * jc + 1 + 2 + 2 + 1 + 1 + 2 + 2 + 2 + 1 + 1 + 2 ≤ 473 by omega), (show (((0) + 456 * 5) + 6 * 4) + 54 * jc + 6 + 12 + 12 + 6 + 6 + 12 + 12 + 12 + 6 + 6 + 12 ≤ 2838 by omega)⟩) (fun r9 u9 h9 => ?_)
  obtain ⟨e1, e2⟩ := X_wished_k (q := 5) (k := 5) (by omega) (by omega) h9
  rw [e1, e2]
  refine w_iconst (v := (-1)) C d_L_isTold_516 rfl ?_
  refine w_icmp_ne_f C 524 d_L_isTold_517 (by decide) ((hRP.2.2.2.2.2.2.2 5 (by omega) (by omega)).1 5 (by omega)).1 ?_
  refine w_iconst (v := 1) C d_L_isTold_520 rfl ?_
  refine w_goto C 525 d_L_isTold_521 (by decide) ?_
  refine w_widen (k2 := 473) (n2 := 2838) (by omega) (by omega) ?_
  exact w_zretP C hr (Or.inr rfl) d_L_isTold_525 (⟨rfl, rfl⟩)
