/-! ===== the ways through a chain of tests ===== -/
theorem bt {α : Type} {c : Prop} [Decidable c] {a b : α} (h : c) : (bif decide c then a else b) = a := by rw [decide_eq_true h]; rfl
theorem bf {α : Type} {c : Prop} [Decidable c] {a b : α} (h : ¬ c) : (bif decide c then a else b) = b := by rw [decide_eq_false h]; rfl
theorem bt_tf {α : Type} {c d : Prop} [Decidable c] [Decidable d] {a b : α} (h : c) (h2 : ¬ d) : (bif decide c && !decide d then a else b) = a := by rw [decide_eq_true h, decide_eq_false h2]; rfl
theorem bf_l {α : Type} {c d : Prop} [Decidable c] [Decidable d] {a b : α} (h : ¬ c) : (bif decide c && !decide d then a else b) = b := by rw [decide_eq_false h]; rfl
theorem bf_r {α : Type} {c d : Prop} [Decidable c] [Decidable d] {a b : α} (h2 : d) : (bif decide c && !decide d then a else b) = b := by rw [decide_eq_true h2]; simp
theorem bt_ff {α : Type} {c d : Prop} [Decidable c] [Decidable d] {a b : α} (h : ¬ c) (h2 : ¬ d) : (bif !decide c && !decide d then a else b) = a := by rw [decide_eq_false h, decide_eq_false h2]; rfl
theorem bf_2 {α : Type} {c d : Prop} [Decidable c] [Decidable d] {a b : α} (h2 : d) : (bif !decide c && !decide d then a else b) = b := by rw [decide_eq_true h2]; simp
theorem bt_n {α : Type} {c : Prop} [Decidable c] {a b : α} (h : ¬ c) : (bif !decide c then a else b) = a := by rw [decide_eq_false h]; rfl
theorem bf_n {α : Type} {c : Prop} [Decidable c] {a b : α} (h : c) : (bif !decide c then a else b) = b := by rw [decide_eq_true h]; rfl
def tn (x : Int32) : Nat := x.toNatClampNeg
/-- x by its number, and that in range (a word of its own, so that arithmetic doesn't look into it) -/
def RT (x : Int32) (n : Nat) : Prop := x = nI (tn x) ∧ tn x < n
theorem inR_tn {x : Int32} {n : Nat} (hn : n < 2 ^ 31) (h : inR x n) : RT x n := by
  obtain ⟨k, hk, rfl⟩ := h
  unfold RT tn
  rw [nI_clamp (by omega)]
  exact ⟨rfl, hk⟩
def judA (st : St) (j : Nat) : St := judF st j (tn (st (42 + j) 1)) (opnJ st j) 8
def wtgW (st : St) (j : Nat) : Int32 := memF st (tn (st (42 + j) 0)) (tn (st (37 + tn (st (42 + j) 0)) 0)) 8 &&& (st (42 + j) 6 ^^^ (-1))
def staA (st : St) (j : Nat) : St × Int32 := staF st j (tn (st (42 + j) 1)) (wtgW st j) 8
def advF (st : St) (j : Nat) : St × Int32 :=
  bif decide (bcI (judA st j (42 + j) 8) < judA st j (42 + j) 4) then staA (judA st j) j else (up2 (judA st j) (42 + j) 5 1, 0)
def wavS (i : Nat) (a : St × Int32) : St × Int32 := bif decide (a.1 (42 + i) 5 = 0) then ((advF a.1 i).1, a.2 + (advF a.1 i).2) else a
def wavF (st : St) : Nat → St × Int32
  | 0 => (st, 0)
  | i + 1 => wavS i (wavF st i)
/-- what every state of the class keeps to, so that its rows are in range -/
def okS (st : St) : Prop := (∀ g, g < 4 → inR (st (37 + g) 0) 12) ∧ (∀ j, j < 8 → inR (st (42 + j) 0) 4 ∧ inR (st (42 + j) 1) 12) ∧ ∃ jc, jc ≤ 8 ∧ st 0 4 = nI jc
theorem judA_in {st : St} {j c : Nat} (h7 : c ≠ 7) (h8 : c ≠ 8) : judA st j (42 + j) c = st (42 + j) c := judF_in h7 h8 8
theorem judA_out {st : St} {j b : Nat} (h : b ≠ 42 + j) : judA st j b = st b := judF_out h 8
theorem staS_out {a : St} {i j k b : Nat} (h : b ≠ 42 + j) (hb : b < 4 ∨ 36 ≤ b) (hi : i < 8) : staS a i j k b = a b := by
  unfold staS
  rw [addS_out h, bmpV_out (by omega), takeW_out (by omega) (by omega) (by omega)]
theorem staF_out {st : St} {j k b : Nat} {w : Int32} (h : b ≠ 42 + j) (hb : b < 4 ∨ 36 ≤ b) : ∀ i, i ≤ 8 → (staF st j k w i).1 b = st b
  | 0, _ => rfl
  | i + 1, hi => by
    have ih := staF_out (st := st) (k := k) (w := w) h hb i (by omega)
    show (staG j k i w (staF st j k w i)).1 b = _
    generalize staF st j k w i = a at ih ⊢
    unfold staG
    cases (!decide (a.1 (42 + j) 3 ≤ a.2) && !decide (w &&& bitI i = 0))
    · exact ih
    · exact (staS_out h hb (by omega)).trans ih
theorem advF_out {st : St} {j b : Nat} (h : b ≠ 42 + j) (hb : b < 4 ∨ 36 ≤ b) : (advF st j).1 b = st b := by
  unfold advF
  cases decide (bcI (judA st j (42 + j) 8) < judA st j (42 + j) 4)
  · show up2 (judA st j) (42 + j) 5 1 b = st b
    rw [up2_out _ _ h, judA_out h]
  · rw [cond_true]
    unfold staA
    rw [staF_out h hb 8 (Nat.le_refl _), judA_out h]
theorem advF_in {st : St} {j c : Nat} (h5 : c < 5) : (advF st j).1 (42 + j) c = st (42 + j) c := by
  unfold advF
  cases decide (bcI (judA st j (42 + j) 8) < judA st j (42 + j) 4)
  · show up2 (judA st j) (42 + j) 5 1 (42 + j) c = st (42 + j) c
    rw [up2_in]
    unfold upd
    rw [if_neg (by omega), judA_in (by omega) (by omega)]
  · rw [cond_true]
    unfold staA
    rw [staF_in (by omega) 8 (Nat.le_refl _), judA_in (by omega) (by omega)]
theorem okS_of {st u : St} (h : okS st) (h0 : u 0 4 = st 0 4) (hg : ∀ g, g < 4 → u (37 + g) 0 = st (37 + g) 0) (hj : ∀ j, j < 8 → u (42 + j) 0 = st (42 + j) 0 ∧ u (42 + j) 1 = st (42 + j) 1) : okS u := by
  refine ⟨fun g hg2 => by rw [hg g hg2]; exact h.1 g hg2, fun j hj2 => ?_, by rw [h0]; exact h.2.2⟩
  rw [(hj j hj2).1, (hj j hj2).2]
  exact h.2.1 j hj2
theorem judA_ok {st : St} {j : Nat} (h : okS st) : okS (judA st j) := by
  refine okS_of h (by rw [judA_out (by omega)]) (fun g hg => by rw [judA_out (by omega)]) (fun i hi => ?_)
  by_cases e : i = j
  · subst e
    exact ⟨judA_in (by omega) (by omega), judA_in (by omega) (by omega)⟩
  · rw [judA_out (by omega)]
    exact ⟨rfl, rfl⟩
theorem advF_ok {st : St} {j : Nat} (h : okS st) : okS (advF st j).1 := by
  refine okS_of h (by rw [advF_out (by omega) (by omega)]) (fun g hg => by rw [advF_out (by omega) (by omega)]) (fun i hi => ?_)
  by_cases e : i = j
  · subst e
    exact ⟨advF_in (by omega), advF_in (by omega)⟩
  · rw [advF_out (by omega) (by omega)]
    exact ⟨rfl, rfl⟩
theorem wavF_ok {st : St} (h : okS st) : ∀ i, okS (wavF st i).1
  | 0 => h
  | i + 1 => by
    have ih := wavF_ok h i
    show okS (wavS i (wavF st i)).1
    generalize wavF st i = a at ih ⊢
    unfold wavS
    cases decide (a.1 (42 + i) 5 = 0)
    · exact ih
    · exact advF_ok ih
theorem wavF_0 {st : St} : ∀ i, (wavF st i).1 0 4 = st 0 4
  | 0 => rfl
  | i + 1 => by
    have ih := wavF_0 (st := st) i
    show (wavS i (wavF st i)).1 0 4 = _
    generalize wavF st i = a at ih ⊢
    unfold wavS
    cases decide (a.1 (42 + i) 5 = 0)
    · exact ih
    · exact (congrFun (advF_out (by omega) (by omega)) 4).trans ih

set_option maxHeartbeats 4000000 in
set_option maxRecDepth 100000 in
theorem l_T_judgeStarted {p : Program} {l : Launch} {e : Env} {s : State} {m : MethodId} {args : Array Value} {below : List Frame} {meth : Method} {c : Code} {Q : State → Prop} {D : va_G} {cs : Nat → ClassId} {ad : Nat → Nat} {A : Nat → Prop} {cells slots : Nat} {st mt : Nat → Nat → Int32} {ov : Nat → Int64} {j k : Nat} (hj : j < 8) (hk : k < 12) (hl : st (42 + j) 1 = nI k) {w : Int32} (C : Cx p s m args meth c D cs ad A b_T_judgeStarted 6 "TwinRegister") (hcs : cells ≤ 0 ∧ slots ≤ 0)
    (kx : Wg p l e ({ frames := 1, cells := 0, slots := 0, locals := 20 } : Room) s m args below meth c Q D cs ad A 6 cells slots 114 [(0, .ref (ad 0)), (1, .ref (ad (42 + j)))] [] (judF st j k w 8) mt ov) : ∀ n i : Nat, i + n = 8 → Wg p l e ({ frames := 1, cells := 0, slots := 0, locals := 20 } : Room) s m args below meth c Q D cs ad A 6 cells slots 7 [(0, .ref (ad 0)), (1, .ref (ad (42 + j))), (2, .int w), (3, .int (nI i))] [] (judF st j k w i) mt ov := by
  intro n
  induction n with
  | zero =>
    intro i hi
    have hi9 : 8 = i := by omega
    subst hi9
    refine w_iload_n C 3 d_T_judgeStarted_7 rfl rfl ?_
    refine w_bipush (v := 8) C d_T_judgeStarted_8 rfl ?_
    refine w_icmp_ge_t C 114 d_T_judgeStarted_10 (by decide) (nI_le (a := 8) (b := 8) (Nat.le_refl _) (by decide)) ?_
    exact w_lv [0, 1] rfl kx
  | succ n ih =>
    intro i hi
    have hi2 : i < 8 := by omega
    have hleaf : judF st j k w i (42 + j) 1 = nI k := (judF_in (by decide) (by decide) i).trans hl
    refine w_iload_n C 3 d_T_judgeStarted_7 rfl rfl ?_
    refine w_bipush (v := 8) C d_T_judgeStarted_8 rfl ?_
    refine w_icmp_ge_f C 114 d_T_judgeStarted_10 (by decide) (nI_ge (b := 8) hi2 (by decide)) ?_
    refine w_iconst (v := 1) C d_T_judgeStarted_13 rfl ?_
    refine w_iload_n C 3 d_T_judgeStarted_14 rfl rfl ?_
    refine w_ishl C d_T_judgeStarted_15 ?_
    refine w_istore (lv2 := [(4, .int _), (0, .ref (ad 0)), (1, .ref (ad (42 + j))), (2, .int w), (3, .int (nI i))]) C d_T_judgeStarted_16 (by decide) rfl ?_
    refine w_iload_n C 3 d_T_judgeStarted_18 rfl rfl ?_
    refine w_iload C 0 d_T_judgeStarted_19 rfl ?_
    refine w_iand C d_T_judgeStarted_21 ?_
    refine w_if_ne C 28 d_T_judgeStarted_22 (by decide) (fun h22 => ?_) (fun h22 => ?_)
    · skip
      refine w_aload_n C 1 d_T_judgeStarted_28 rfl rfl ?_
      refine g_T_deviceRows C m_159 d_T_judgeStarted_29 ?_
      refine w_iload_n C 4 d_T_judgeStarted_32 rfl rfl ?_
      refine aa_DR C rfl (by omega) d_T_judgeStarted_33 ?_
      refine w_astore (lv2 := [(5, .ref (ad (4 + 4 * i))), (4, .int _), (0, .ref (ad 0)), (1, .ref (ad (42 + j))), (2, .int w), (3, .int (nI i))]) C d_T_judgeStarted_34 (by decide) rfl ?_
      refine w_aload C 0 d_T_judgeStarted_36 rfl ?_
      refine gN_D_reportedValues C (by omega) m_70 d_T_judgeStarted_38 ?_
      refine w_aload_n C 3 d_T_judgeStarted_41 rfl rfl ?_
      refine gN_J_leaf C (by omega) m_127 d_T_judgeStarted_42 ?_
      refine ia_DV C (by omega) (by omega) hleaf (by omega) d_T_judgeStarted_45 ?_
      refine w_aload_n C 3 d_T_judgeStarted_46 rfl rfl ?_
      refine gN_J_value C (by omega) m_128 d_T_judgeStarted_47 ?_
      refine w_icmp_ne C 67 d_T_judgeStarted_50 (by decide) (fun h50 => ?_) (fun h50 => ?_)
      · skip
        refine w_aload C 0 d_T_judgeStarted_67 rfl ?_
        refine gN_D_wishedValues C (by omega) m_67 d_T_judgeStarted_69 ?_
        refine w_aload_n C 3 d_T_judgeStarted_72 rfl rfl ?_
        refine gN_J_leaf C (by omega) m_127 d_T_judgeStarted_73 ?_
        refine ia_DV C (by omega) (by omega) hleaf (by omega) d_T_judgeStarted_76 ?_
        refine w_aload_n C 3 d_T_judgeStarted_77 rfl rfl ?_
        refine gN_J_value C (by omega) m_128 d_T_judgeStarted_78 ?_
        refine w_icmp_ne C 108 d_T_judgeStarted_81 (by decide) (fun h81 => ?_) (fun h81 => ?_)
        · skip
          refine w_iinc (lv2 := [(3, .int (nI (i + 1))), (5, .ref (ad (4 + 4 * i))), (4, .int _), (0, .ref (ad 0)), (1, .ref (ad (42 + j))), (2, .int w)]) C 5 d_T_judgeStarted_108 rfl (nI_1 _) (by decide) rfl ?_
          refine w_goto C 7 d_T_judgeStarted_111 (by decide) ?_
          refine w_st (st2 := judF st j k w (i + 1)) ((show judF st j k w (i + 1) = _ from (bf h22).trans ((bf h50).trans (bf_l h81))).symm) ?_
          exact w_lv [3, 4, 5, 0] rfl (ih (i + 1) (by omega))
        · skip
          refine w_aload C 0 d_T_judgeStarted_84 rfl ?_
          refine gN_D_reasons C (by omega) m_72 d_T_judgeStarted_86 ?_
          refine w_aload_n C 3 d_T_judgeStarted_89 rfl rfl ?_
          refine gN_J_leaf C (by omega) m_127 d_T_judgeStarted_90 ?_
          refine ia_DV C (by omega) (by omega) hleaf (by omega) d_T_judgeStarted_93 ?_
          refine w_if_eq C 108 d_T_judgeStarted_94 (by decide) (fun h94 => ?_) (fun h94 => ?_)
          · skip
            refine w_iinc (lv2 := [(3, .int (nI (i + 1))), (5, .ref (ad (4 + 4 * i))), (4, .int _), (0, .ref (ad 0)), (1, .ref (ad (42 + j))), (2, .int w)]) C 5 d_T_judgeStarted_108 rfl (nI_1 _) (by decide) rfl ?_
            refine w_goto C 7 d_T_judgeStarted_111 (by decide) ?_
            refine w_st (st2 := judF st j k w (i + 1)) ((show judF st j k w (i + 1) = _ from (bf h22).trans ((bf h50).trans (by first | exact bt_tf h81 h94 | exact bf_r h94))).symm) ?_
            exact w_lv [3, 4, 5, 0] rfl (ih (i + 1) (by omega))
          · skip
            refine w_aload_n C 3 d_T_judgeStarted_97 rfl rfl ?_
            refine w_dup C d_T_judgeStarted_98 rfl ?_
            refine gN_J_failed C (by omega) m_138 d_T_judgeStarted_99 ?_
            refine w_iload C 1 d_T_judgeStarted_102 rfl ?_
            refine w_ior C d_T_judgeStarted_104 ?_
            refine pN_J_failed C (by omega) m_138 d_T_judgeStarted_105 ?_
            refine w_iinc (lv2 := [(3, .int (nI (i + 1))), (5, .ref (ad (4 + 4 * i))), (4, .int _), (0, .ref (ad 0)), (1, .ref (ad (42 + j))), (2, .int w)]) C 5 d_T_judgeStarted_108 rfl (nI_1 _) (by decide) rfl ?_
            refine w_goto C 7 d_T_judgeStarted_111 (by decide) ?_
            refine w_st (st2 := judF st j k w (i + 1)) ((show judF st j k w (i + 1) = _ from (bf h22).trans ((bf h50).trans (by first | exact bt_tf h81 h94 | exact bf_r h94))).symm) ?_
            exact w_lv [3, 4, 5, 0] rfl (ih (i + 1) (by omega))
      · skip
        refine w_aload_n C 3 d_T_judgeStarted_53 rfl rfl ?_
        refine w_dup C d_T_judgeStarted_54 rfl ?_
        refine gN_J_done C (by omega) m_136 d_T_judgeStarted_55 ?_
        refine w_iload C 1 d_T_judgeStarted_58 rfl ?_
        refine w_ior C d_T_judgeStarted_60 ?_
        refine pN_J_done C (by omega) m_136 d_T_judgeStarted_61 ?_
        refine w_goto C 108 d_T_judgeStarted_64 (by decide) ?_
        refine w_iinc (lv2 := [(3, .int (nI (i + 1))), (5, .ref (ad (4 + 4 * i))), (4, .int _), (0, .ref (ad 0)), (1, .ref (ad (42 + j))), (2, .int w)]) C 5 d_T_judgeStarted_108 rfl (nI_1 _) (by decide) rfl ?_
        refine w_goto C 7 d_T_judgeStarted_111 (by decide) ?_
        refine w_st (st2 := judF st j k w (i + 1)) ((show judF st j k w (i + 1) = _ from (bf h22).trans (bt h50)).symm) ?_
        exact w_lv [3, 4, 5, 0] rfl (ih (i + 1) (by omega))
    · skip
      refine w_goto C 108 d_T_judgeStarted_25 (by decide) ?_
      refine w_iinc (lv2 := [(3, .int (nI (i + 1))), (4, .int _), (0, .ref (ad 0)), (1, .ref (ad (42 + j))), (2, .int w)]) C 4 d_T_judgeStarted_108 rfl (nI_1 _) (by decide) rfl ?_
      refine w_goto C 7 d_T_judgeStarted_111 (by decide) ?_
      refine w_st (st2 := judF st j k w (i + 1)) ((show judF st j k w (i + 1) = _ from bt h22).symm) ?_
      exact w_lv [2, 3, 4, 0] rfl (ih (i + 1) (by omega))
set_option maxHeartbeats 4000000 in
set_option maxRecDepth 100000 in
theorem c_T_judgeStarted {l : Launch} {D : va_G} {cs : Nat → ClassId} {ad : Nat → Nat} {st mt : Nat → Nat → Int32} {ov : Nat → Int64} {j k : Nat} (hj : j < 8) (hk : k < 12) (hl : st (42 + j) 1 = nI k)  : gM l y_T_judgeStarted b_T_judgeStarted 6 none ({ frames := 1, cells := 0, slots := 0, locals := 20 } : Room) 0 0 [.ref (ad 0), .ref (ad (42 + j))] D cs ad st mt ov (QTv D cs ad mt ov (fun u => u = judF st j k (opnJ st j) 8)) := by
  refine gM_of (own := "TwinRegister") (by decide +kernel) rfl (Nat.le_of_ble_eq_true rfl) ?_
  intro p e s m args below meth c C hr
  refine w_lv (lv2 := [(0, .ref (ad 0)), (1, .ref (ad (42 + j)))]) [0, 1] rfl ?_
  refine w_aload_n C 1 d_T_judgeStarted_0 rfl rfl ?_
  refine w_callTi C (w_runVN C (c_J_open (by omega)) (by omega) (e_J (by omega)) rfl rfl m_488 m_490 m_20 m_28 m_491 ⟨rfl, rfl⟩ hd_J_open rfl ⟨Nat.le_of_ble_eq_true rfl, Nat.le_of_ble_eq_true rfl⟩ rfl (Nat.le_of_ble_eq_true rfl) d_T_judgeStarted_1 ⟨Nat.le_of_ble_eq_true rfl, Nat.le_of_ble_eq_true rfl⟩) (fun r1 u1 h1 => ?_)
  obtain ⟨rfl, h1⟩ := h1; have h1 := h1.symm; subst h1
  refine w_istore_n (lv2 := [(2, .int _), (0, .ref (ad 0)), (1, .ref (ad (42 + j)))]) C d_T_judgeStarted_4 rfl (by decide) rfl ?_
  refine w_iconst (v := 0) C d_T_judgeStarted_5 rfl ?_
  refine w_istore_n (lv2 := [(3, .int 0), (2, .int _), (0, .ref (ad 0)), (1, .ref (ad (42 + j)))]) C d_T_judgeStarted_6 rfl (by decide) rfl ?_
  refine w_lv (lv2 := [(0, .ref (ad 0)), (1, .ref (ad (42 + j))), (2, .int (opnJ st j)), (3, .int (nI 0))]) [2, 3, 1, 0] rfl ?_
  refine l_T_judgeStarted hj hk hl C ⟨Nat.le_of_ble_eq_true rfl, Nat.le_of_ble_eq_true rfl⟩ ?_ 8 0 rfl
  exact w_vretT C hr d_T_judgeStarted_114 (rfl)
set_option maxHeartbeats 4000000 in
set_option maxRecDepth 100000 in
theorem l_T_startMore {p : Program} {l : Launch} {e : Env} {s : State} {m : MethodId} {args : Array Value} {below : List Frame} {meth : Method} {c : Code} {Q : State → Prop} {D : va_G} {cs : Nat → ClassId} {ad : Nat → Nat} {A : Nat → Prop} {cells slots : Nat} {st mt : Nat → Nat → Int32} {ov : Nat → Int64} {j k : Nat} (hj : j < 8) (hk : k < 12) (hl : st (42 + j) 1 = nI k) {w : Int32} (C : Cx p s m args meth c D cs ad A b_T_startMore 6 "TwinRegister") (hcs : cells ≤ 0 ∧ slots ≤ 0)
    (kx : Wg p l e ({ frames := 3, cells := 0, slots := 0, locals := 64 } : Room) s m args below meth c Q D cs ad A 6 cells slots 108 [(0, .ref (ad 0)), (1, .ref (ad (42 + j))), (2, .int w), (3, .int (staF st j k w 8).2)] [] ((staF st j k w 8).1) mt ov) : ∀ n i : Nat, i + n = 8 → Wg p l e ({ frames := 3, cells := 0, slots := 0, locals := 64 } : Room) s m args below meth c Q D cs ad A 6 cells slots 26 [(0, .ref (ad 0)), (1, .ref (ad (42 + j))), (2, .int w), (3, .int (staF st j k w i).2), (4, .int (nI i))] [] ((staF st j k w i).1) mt ov := by
  intro n
  induction n with
  | zero =>
    intro i hi
    have hi9 : 8 = i := by omega
    subst hi9
    refine w_iload C 4 d_T_startMore_26 rfl ?_
    refine w_bipush (v := 8) C d_T_startMore_28 rfl ?_
    refine w_icmp_ge_t C 108 d_T_startMore_30 (by decide) (nI_le (a := 8) (b := 8) (Nat.le_refl _) (by decide)) ?_
    exact w_lv [0, 1, 2, 3] rfl kx
  | succ n ih =>
    intro i hi
    have hi2 : i < 8 := by omega
    have hleaf : (staF st j k w i).1 (42 + j) 1 = nI k := (staF_in (by decide) i (by omega)).trans hl
    refine w_iload C 4 d_T_startMore_26 rfl ?_
    refine w_bipush (v := 8) C d_T_startMore_28 rfl ?_
    refine w_icmp_ge_f C 108 d_T_startMore_30 (by decide) (nI_ge (b := 8) hi2 (by decide)) ?_
    refine w_iload_n C 3 d_T_startMore_33 rfl rfl ?_
    refine w_aload_n C 1 d_T_startMore_34 rfl rfl ?_
    refine gN_J_rate C (by omega) m_129 d_T_startMore_35 ?_
    refine w_icmp_ge C 108 d_T_startMore_38 (by decide) (fun h38 => ?_) (fun h38 => ?_)
    · skip
      have e9 := staF_stop h38 (n + 1)
      rw [hi] at e9
      rw [e9] at kx
      exact w_lv [0, 1, 2, 3] rfl kx
    · skip
      refine w_iconst (v := 1) C d_T_startMore_41 rfl ?_
      refine w_iload C 4 d_T_startMore_42 rfl ?_
      refine w_ishl C d_T_startMore_44 ?_
      refine w_istore (lv2 := [(5, .int _), (0, .ref (ad 0)), (1, .ref (ad (42 + j))), (2, .int w), (3, .int (staF st j k w i).2), (4, .int (nI i))]) C d_T_startMore_45 (by decide) rfl ?_
      refine w_iload_n C 3 d_T_startMore_47 rfl rfl ?_
      refine w_iload C 0 d_T_startMore_48 rfl ?_
      refine w_iand C d_T_startMore_50 ?_
      refine w_if_eq C 102 d_T_startMore_51 (by decide) (fun h51 => ?_) (fun h51 => ?_)
      · skip
        refine w_iinc (lv2 := [(4, .int (nI (i + 1))), (5, .int _), (0, .ref (ad 0)), (1, .ref (ad (42 + j))), (2, .int w), (3, .int (staF st j k w i).2)]) C 5 d_T_startMore_102 rfl (nI_1 _) (by decide) rfl ?_
        refine w_goto C 26 d_T_startMore_105 (by decide) ?_
        have ih9 := ih (i + 1) (by omega)
        rw [show staF st j k w (i + 1) = _ from bf_2 h51] at ih9
        exact w_lv [2, 3, 4, 5, 0] rfl ih9
      · skip
        refine w_aload_n C 1 d_T_startMore_54 rfl rfl ?_
        refine g_T_deviceRows C m_159 d_T_startMore_55 ?_
        refine w_iload C 5 d_T_startMore_58 rfl ?_
        refine aa_DR C rfl (by omega) d_T_startMore_60 ?_
        refine w_aload_n C 2 d_T_startMore_61 rfl rfl ?_
        refine gN_J_leaf C (by omega) m_127 d_T_startMore_62 ?_
        refine w_topi (y := (nI k)) (hleaf) ?_
        refine w_aload_n C 2 d_T_startMore_65 rfl rfl ?_
        refine gN_J_value C (by omega) m_128 d_T_startMore_66 ?_
        refine w_callTv C (w_runVN C (c_D_takeWish (by omega) (by omega)) (by omega) (e_D (by omega)) rfl rfl m_349 m_351 m_6 m_26 m_352 ⟨rfl, rfl⟩ hd_D_takeWish rfl ⟨Nat.le_of_ble_eq_true rfl, Nat.le_of_ble_eq_true rfl⟩ rfl (Nat.le_of_ble_eq_true rfl) d_T_startMore_69 hcs) (fun u69 h69 => ?_)
        subst h69
        refine w_aload_n C 1 d_T_startMore_72 rfl rfl ?_
        refine g_T_deviceRows C m_159 d_T_startMore_73 ?_
        refine w_iload C 5 d_T_startMore_76 rfl ?_
        refine aa_DR C rfl (by omega) d_T_startMore_78 ?_
        refine w_dup C d_T_startMore_79 rfl ?_
        refine gN_D_latestVersion C (by omega) m_75 d_T_startMore_80 ?_
        refine w_iconst (v := 1) C d_T_startMore_83 rfl ?_
        refine w_iadd C d_T_startMore_84 ?_
        refine pN_D_latestVersion C (by omega) m_75 d_T_startMore_85 ?_
        refine w_aload_n C 2 d_T_startMore_88 rfl rfl ?_
        refine w_dup C d_T_startMore_89 rfl ?_
        refine gN_J_started C (by omega) m_134 d_T_startMore_90 ?_
        refine w_iload C 0 d_T_startMore_93 rfl ?_
        refine w_ior C d_T_startMore_95 ?_
        refine pN_J_started C (by omega) m_134 d_T_startMore_96 ?_
        refine w_iinc (lv2 := [(3, .int ((staF st j k w i).2 + 1)), (5, .int _), (0, .ref (ad 0)), (1, .ref (ad (42 + j))), (2, .int w), (4, .int (nI i))]) C 4 d_T_startMore_99 rfl rfl (by decide) rfl ?_
        refine w_iinc (lv2 := [(4, .int (nI (i + 1))), (3, .int ((staF st j k w i).2 + 1)), (5, .int _), (0, .ref (ad 0)), (1, .ref (ad (42 + j))), (2, .int w)]) C 5 d_T_startMore_102 rfl (nI_1 _) (by decide) rfl ?_
        refine w_goto C 26 d_T_startMore_105 (by decide) ?_
        have ih9 := ih (i + 1) (by omega)
        rw [show staF st j k w (i + 1) = _ from bt_ff h38 h51] at ih9
        exact w_lv [3, 4, 5, 1, 0] rfl ih9
set_option maxHeartbeats 4000000 in
set_option maxRecDepth 100000 in
theorem c_T_startMore {l : Launch} {D : va_G} {cs : Nat → ClassId} {ad : Nat → Nat} {st mt : Nat → Nat → Int32} {ov : Nat → Int64} {j k : Nat} (hj : j < 8) (hk : k < 12) (hl : st (42 + j) 1 = nI k) {g gk : Nat} (hg : g < 4) (hgk : gk < 12) (hg0 : st (42 + j) 0 = nI g) (hgl : st (37 + g) 0 = nI gk) : gM l y_T_startMore b_T_startMore 6 (some .int) ({ frames := 3, cells := 0, slots := 0, locals := 64 } : Room) 0 0 [.ref (ad 0), .ref (ad (42 + j))] D cs ad st mt ov (QTi D cs ad mt ov (fun r u => (u, r) = staF st j k (memF st g gk 8 &&& (st (42 + j) 6 ^^^ (-1))) 8)) := by
  refine gM_of (own := "TwinRegister") (by decide +kernel) rfl (Nat.le_of_ble_eq_true rfl) ?_
  intro p e s m args below meth c C hr
  refine w_lv (lv2 := [(0, .ref (ad 0)), (1, .ref (ad (42 + j)))]) [0, 1] rfl ?_
  refine w_aload_n C 0 d_T_startMore_0 rfl rfl ?_
  refine w_aload_n C 0 d_T_startMore_1 rfl rfl ?_
  refine g_T_groupRows C m_160 d_T_startMore_2 ?_
  refine w_aload_n C 1 d_T_startMore_5 rfl rfl ?_
  refine gN_J_group C (by omega) m_126 d_T_startMore_6 ?_
  refine aa_GR C hg0 (by omega) d_T_startMore_9 ?_
  refine w_callTi C (w_runV C (c_T_membersOf (k := gk) (by omega) hgk hgl) (by omega) e_T rfl rfl m_456 m_458 m_16 m_24 m_459 ⟨rfl, rfl⟩ hd_T_membersOf rfl ⟨Nat.le_of_ble_eq_true rfl, Nat.le_of_ble_eq_true rfl⟩ rfl (Nat.le_of_ble_eq_true rfl) d_T_startMore_10 ⟨Nat.le_of_ble_eq_true rfl, Nat.le_of_ble_eq_true rfl⟩) (fun r u h => ?_)
  obtain ⟨rfl, h⟩ := h; have h := h.symm; subst h
  refine w_aload_n C 1 d_T_startMore_13 rfl rfl ?_
  refine gN_J_started C (by omega) m_134 d_T_startMore_14 ?_
  refine w_iconst (v := (-1)) C d_T_startMore_17 rfl ?_
  refine w_ixor C d_T_startMore_18 ?_
  refine w_iand C d_T_startMore_19 ?_
  refine w_istore_n (lv2 := [(2, .int _), (0, .ref (ad 0)), (1, .ref (ad (42 + j)))]) C d_T_startMore_20 rfl (by decide) rfl ?_
  refine w_iconst (v := 0) C d_T_startMore_21 rfl ?_
  refine w_istore_n (lv2 := [(3, .int 0), (2, .int _), (0, .ref (ad 0)), (1, .ref (ad (42 + j)))]) C d_T_startMore_22 rfl (by decide) rfl ?_
  refine w_iconst (v := 0) C d_T_startMore_23 rfl ?_
  refine w_istore (lv2 := [(4, .int 0), (3, .int 0), (2, .int _), (0, .ref (ad 0)), (1, .ref (ad (42 + j)))]) C d_T_startMore_24 (by decide) rfl ?_
  refine w_lv (lv2 := [(0, .ref (ad 0)), (1, .ref (ad (42 + j))), (2, .int (memF st g gk 8 &&& (st (42 + j) 6 ^^^ (-1)))), (3, .int (staF st j k (memF st g gk 8 &&& (st (42 + j) 6 ^^^ (-1))) 0).2), (4, .int (nI 0))]) [3, 4, 2, 1, 0] rfl ?_
  refine l_T_startMore hj hk hl C ⟨Nat.le_of_ble_eq_true rfl, Nat.le_of_ble_eq_true rfl⟩ ?_ 8 0 rfl
  refine w_iload_n C 3 d_T_startMore_108 rfl rfl ?_
  exact w_iretT C hr d_T_startMore_109 (pr_eta _)
set_option maxHeartbeats 4000000 in
set_option maxRecDepth 100000 in
theorem c_T_advance {l : Launch} {D : va_G} {cs : Nat → ClassId} {ad : Nat → Nat} {st mt : Nat → Nat → Int32} {ov : Nat → Int64} {j : Nat} (hj : j < 8) (hs : okS st) : gM l y_T_advance b_T_advance 2 (some .int) ({ frames := 4, cells := 0, slots := 0, locals := 89 } : Room) 0 0 [.ref (ad 0), .ref (ad (42 + j))] D cs ad st mt ov (QTi D cs ad mt ov (fun r u => (u, r) = advF st j)) := by
  refine gM_of (own := "TwinRegister") (by decide +kernel) rfl (Nat.le_of_ble_eq_true rfl) ?_
  intro p e s m args below meth c C hr
  have e1 := inR_tn (by decide) (hs.2.1 j hj).2
  have hs2 : okS (judA st j) := judA_ok hs
  have e2 := inR_tn (by decide) (hs2.2.1 j hj).2
  have e3 := inR_tn (by decide) (hs2.2.1 j hj).1
  have e4 := inR_tn (by decide) (hs2.1 _ e3.2)
  refine w_lv (lv2 := [(0, .ref (ad 0)), (1, .ref (ad (42 + j)))]) [0, 1] rfl ?_
  refine w_aload_n C 0 d_T_advance_0 rfl rfl ?_
  refine w_aload_n C 1 d_T_advance_1 rfl rfl ?_
  refine w_callTv C (w_runV C (c_T_judgeStarted hj e1.2 e1.1) (by omega) e_T rfl rfl m_484 m_486 m_19 m_24 m_487 ⟨rfl, rfl⟩ hd_T_judgeStarted rfl ⟨Nat.le_of_ble_eq_true rfl, Nat.le_of_ble_eq_true rfl⟩ rfl (Nat.le_of_ble_eq_true rfl) d_T_advance_2 ⟨Nat.le_of_ble_eq_true rfl, Nat.le_of_ble_eq_true rfl⟩) (fun u h => ?_)
  have hu : u = judA st j := h
  subst hu
  refine w_aload_n C 1 d_T_advance_5 rfl rfl ?_
  refine gN_J_failed C (by omega) m_138 d_T_advance_6 ?_
  refine w_callTi C (w_runS C (c_I_bitCount ) m_384 m_295 m_34 m_296 ⟨rfl, rfl⟩ hd_I_bitCount rfl ⟨Nat.le_of_ble_eq_true rfl, Nat.le_of_ble_eq_true rfl⟩ rfl (Nat.le_of_ble_eq_true rfl) d_T_advance_9 ⟨Nat.le_of_ble_eq_true rfl, Nat.le_of_ble_eq_true rfl⟩) (fun r9 u9 h9 => ?_)
  obtain ⟨rfl, h9⟩ := h9; have h9 := h9.symm; subst h9
  refine w_aload_n C 1 d_T_advance_12 rfl rfl ?_
  refine gN_J_bound C (by omega) m_130 d_T_advance_13 ?_
  refine w_icmp_lt C 26 d_T_advance_16 (by decide) (fun h16 => ?_) (fun h16 => ?_)
  · skip
    refine w_aload_n C 0 d_T_advance_26 rfl rfl ?_
    refine w_aload_n C 1 d_T_advance_27 rfl rfl ?_
    refine w_callTi C (w_runV C (c_T_startMore (st := judA st j) hj e2.2 e2.1 e3.2 e4.2 e3.1 e4.1) (by omega) e_T rfl rfl m_492 m_494 m_21 m_24 m_495 ⟨rfl, rfl⟩ hd_T_startMore rfl ⟨Nat.le_of_ble_eq_true rfl, Nat.le_of_ble_eq_true rfl⟩ rfl (Nat.le_of_ble_eq_true rfl) d_T_advance_28 ⟨Nat.le_of_ble_eq_true rfl, Nat.le_of_ble_eq_true rfl⟩) (fun r u h => ?_)
    have hu : (u, r) = staA (judA st j) j := h
    exact w_iretT C hr d_T_advance_31 (hu.trans (show advF st j = _ from bt h16).symm)
  · skip
    refine w_aload_n C 1 d_T_advance_19 rfl rfl ?_
    refine w_iconst (v := 1) C d_T_advance_20 rfl ?_
    refine pN_J_condition C (by omega) m_132 d_T_advance_21 ?_
    refine w_iconst (v := 0) C d_T_advance_24 rfl ?_
    exact w_iretT C hr d_T_advance_25 ((show advF st j = _ from bf h16).symm)
set_option maxHeartbeats 4000000 in
set_option maxRecDepth 100000 in
theorem l_T_wave {p : Program} {l : Launch} {e : Env} {s : State} {m : MethodId} {args : Array Value} {below : List Frame} {meth : Method} {c : Code} {Q : State → Prop} {D : va_G} {cs : Nat → ClassId} {ad : Nat → Nat} {A : Nat → Prop} {cells slots : Nat} {st mt : Nat → Nat → Int32} {ov : Nat → Int64} (hs : okS st) {jc : Nat} (hjc : jc ≤ 8) (hj0 : st 0 4 = nI jc) (C : Cx p s m args meth c D cs ad A b_T_wave 3 "TwinRegister") (hcs : cells ≤ 0 ∧ slots ≤ 0)
    (kx : Wg p l e ({ frames := 5, cells := 0, slots := 0, locals := 110 } : Room) s m args below meth c Q D cs ad A 3 cells slots 43 [(0, .ref (ad 0)), (1, .int (wavF st jc).2)] [] ((wavF st jc).1) mt ov) : ∀ n i : Nat, i + n = jc → Wg p l e ({ frames := 5, cells := 0, slots := 0, locals := 110 } : Room) s m args below meth c Q D cs ad A 3 cells slots 4 [(0, .ref (ad 0)), (1, .int (wavF st i).2), (2, .int (nI i))] [] ((wavF st i).1) mt ov := by
  intro n
  induction n with
  | zero =>
    intro i hi
    have hi9 : jc = i := by omega
    subst hi9
    refine w_iload_n C 2 d_T_wave_4 rfl rfl ?_
    refine w_aload_n C 0 d_T_wave_5 rfl rfl ?_
    refine g_T_jobCount C m_162 d_T_wave_6 ?_
    refine w_topi (y := (nI jc)) ((wavF_0 _).trans hj0) ?_
    refine w_icmp_ge_t C 43 d_T_wave_9 (by decide) (nI_le (a := jc) (b := jc) (Nat.le_refl _) (by omega)) ?_
    exact w_lv [0, 1] rfl kx
  | succ n ih =>
    intro i hi
    have hi2 : i < jc := by omega
    refine w_iload_n C 2 d_T_wave_4 rfl rfl ?_
    refine w_aload_n C 0 d_T_wave_5 rfl rfl ?_
    refine g_T_jobCount C m_162 d_T_wave_6 ?_
    refine w_topi (y := (nI jc)) ((wavF_0 _).trans hj0) ?_
    refine w_icmp_ge_f C 43 d_T_wave_9 (by decide) (nI_ge (b := jc) hi2 (by omega)) ?_
    refine w_aload_n C 0 d_T_wave_12 rfl rfl ?_
    refine g_T_jobRows C m_161 d_T_wave_13 ?_
    refine w_iload_n C 2 d_T_wave_16 rfl rfl ?_
    refine aa_JR C rfl (by omega) d_T_wave_17 ?_
    refine gN_J_condition C (by omega) m_132 d_T_wave_18 ?_
    refine w_if_ne C 37 d_T_wave_21 (by decide) (fun h21 => ?_) (fun h21 => ?_)
    · skip
      refine w_iinc (lv2 := [(2, .int (nI (i + 1))), (0, .ref (ad 0)), (1, .int (wavF st i).2)]) C 2 d_T_wave_37 rfl (nI_1 _) (by decide) rfl ?_
      refine w_goto C 4 d_T_wave_40 (by decide) ?_
      have ih9 := ih (i + 1) (by omega)
      rw [show wavF st (i + 1) = _ from bf h21] at ih9
      exact w_lv [1, 2, 0] rfl ih9
    · skip
      refine w_iload_n C 1 d_T_wave_24 rfl rfl ?_
      refine w_aload_n C 0 d_T_wave_25 rfl rfl ?_
      refine w_aload_n C 0 d_T_wave_26 rfl rfl ?_
      refine g_T_jobRows C m_161 d_T_wave_27 ?_
      refine w_iload_n C 2 d_T_wave_30 rfl rfl ?_
      refine aa_JR C rfl (by omega) d_T_wave_31 ?_
      refine w_callTi C (w_runV C (c_T_advance (j := i) (by omega) (wavF_ok hs i)) (by omega) e_T rfl rfl m_480 m_482 m_18 m_24 m_483 ⟨rfl, rfl⟩ hd_T_advance rfl ⟨Nat.le_of_ble_eq_true rfl, Nat.le_of_ble_eq_true rfl⟩ rfl (Nat.le_of_ble_eq_true rfl) d_T_wave_32 hcs) (fun r u h => ?_)
      obtain ⟨hu, hr9⟩ := pr_inj h
      rw [hu, hr9]
      refine w_iadd C d_T_wave_35 ?_
      refine w_istore_n (lv2 := [(1, .int _), (0, .ref (ad 0)), (2, .int (nI i))]) C d_T_wave_36 rfl (by decide) rfl ?_
      refine w_iinc (lv2 := [(2, .int (nI (i + 1))), (1, .int _), (0, .ref (ad 0))]) C 2 d_T_wave_37 rfl (nI_1 _) (by decide) rfl ?_
      refine w_goto C 4 d_T_wave_40 (by decide) ?_
      have ih9 := ih (i + 1) (by omega)
      rw [show wavF st (i + 1) = _ from bt h21] at ih9
      exact w_lv [2, 1, 0] rfl ih9
set_option maxHeartbeats 4000000 in
set_option maxRecDepth 100000 in
theorem c_T_wave {l : Launch} {D : va_G} {cs : Nat → ClassId} {ad : Nat → Nat} {st mt : Nat → Nat → Int32} {ov : Nat → Int64} (hs : okS st) {jc : Nat} (hjc : jc ≤ 8) (hj0 : st 0 4 = nI jc) : gM l y_T_wave b_T_wave 3 (some .int) ({ frames := 5, cells := 0, slots := 0, locals := 110 } : Room) 0 0 [.ref (ad 0)] D cs ad st mt ov (QTi D cs ad mt ov (fun r u => (u, r) = wavF st jc)) := by
  refine gM_of (own := "TwinRegister") (by decide +kernel) rfl (Nat.le_of_ble_eq_true rfl) ?_
  intro p e s m args below meth c C hr
  refine w_lv (lv2 := [(0, .ref (ad 0))]) [0] rfl ?_
  refine w_iconst (v := 0) C d_T_wave_0 rfl ?_
  refine w_istore_n (lv2 := [(1, .int 0), (0, .ref (ad 0))]) C d_T_wave_1 rfl (by decide) rfl ?_
  refine w_iconst (v := 0) C d_T_wave_2 rfl ?_
  refine w_istore_n (lv2 := [(2, .int 0), (1, .int 0), (0, .ref (ad 0))]) C d_T_wave_3 rfl (by decide) rfl ?_
  refine w_lv (lv2 := [(0, .ref (ad 0)), (1, .int (wavF st 0).2), (2, .int (nI 0))]) [2, 1, 0] rfl ?_
  refine l_T_wave hs hjc hj0 C ⟨Nat.le_of_ble_eq_true rfl, Nat.le_of_ble_eq_true rfl⟩ ?_ jc 0 (Nat.zero_add _)
  refine w_iload_n C 1 d_T_wave_43 rfl rfl ?_
  exact w_iretT C hr d_T_wave_44 (pr_eta _)
