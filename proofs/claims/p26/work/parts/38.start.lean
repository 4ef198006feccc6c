/-! ===== at the start both sides agree ===== -/
def hi4 : Nat → Int32 := upd (upd (upd (upd (fun _ => 0) 0 99) 1 99) 2 99) 3 99
def mt0 : St := fun a => if a = 11 then hi4 else fun _ => 0
theorem Rel_0 : Rel st0 mt0 := by
  have z : ∀ a, a ≠ 11 → mt0 a = fun _ => 0 := fun a h => if_neg h
  have ng : ∀ k, k < 12 → neg 12 k = -1 := fun k hk => if_pos hk
  refine ⟨fun q hq => ?_, ⟨fun k hk => ?_, ?_⟩, fun g hg => ?_, ⟨fun j hj => ?_, 0, by omega, ?_, ?_, fun j _ hj => ?_⟩⟩
  · have w1 : st0 (4 + 4 * q + 1) = neg 12 := st0_w (by omega) (by omega) (by omega)
    have w2 : st0 (4 + 4 * q + 2) = neg 12 := st0_w (by omega) (by omega) (by omega)
    have w3 : st0 (4 + 4 * q + 3) = fun _ => 0 := st0_r (by omega) (by omega)
    have w0 : st0 (4 + 4 * q) = fun _ => 0 := st0_d (by omega) (by omega)
    refine ⟨⟨fun k hk => ?_, ?_⟩, ?_⟩
    · rw [w1, w2, w3, z 1 (by decide), z 2 (by decide), z 3 (by decide), ng k hk]
      exact ⟨rfl, rfl, rfl, Or.inl rfl, Or.inl rfl, ⟨0, by decide, rfl⟩⟩
    · rw [w0, z 4 (by decide), z 5 (by decide), z 6 (by decide), z 7 (by decide)]
      exact ⟨rfl, rfl, rfl, rfl, Or.inl rfl⟩
    · rw [w0, mskF_cong (p := unl st0 q) (p2 := fun _ => false) 12 (fun k hk => ?_)]
      · decide
      · unfold unl
        rw [w1, ng k hk]
        rfl
  · have e1 : st0 1 1 = 0 := rfl
    rw [hasF_bi (by omega), e1, bi_0, z 8 (by decide)]
    exact ⟨rfl, fun h => by cases h⟩
  · exact lim_0 12
  · rw [st0_g (by omega) (by omega), z 9 (by decide), z 10 (by decide)]
    refine ⟨rfl, rfl, ?_, ⟨0, by decide, rfl⟩⟩
    rcases (by omega : g = 0 ∨ g = 1 ∨ g = 2 ∨ g = 3) with rfl | rfl | rfl | rfl <;> rfl
  · unfold JobR
    rw [st0_j (by omega), z 12 (by decide), z 13 (by decide), z 14 (by decide), z 15 (by decide), z 16 (by decide), z 17 (by decide), z 18 (by decide), z 19 (by decide), z 20 (by decide)]
    exact ⟨⟨rfl, rfl, rfl, rfl, rfl, rfl, rfl, rfl, rfl⟩, ⟨⟨0, by decide, rfl⟩, ⟨0, by decide, rfl⟩, Or.inr ⟨0, by decide, rfl⟩⟩, lim_0 8, lim_0 8, lim_0 8⟩
  · rfl
  · rfl
  · rw [st0_j (by omega)]
def mt1 : St := qzL (hzL (emL mtz 12) 5) 4
theorem mt1_o {y : Nat} (h2 : y ≠ 2) (h4 : y ≠ 4) (h5 : y ≠ 5) : mt1 y = fun _ => 0 := by
  unfold mt1
  rw [qzL_o h5 4, hzL_o h2 5, emL_out h4 12]
  rfl
theorem mt1_2 {q : Nat} (h : q < 5) : mt1 2 q = -1 := by
  unfold mt1
  rw [qzL_o (by decide) 4]
  exact hzL_2 5 q h
theorem mt1_4 {k : Nat} (h : k < 12) : mt1 4 k = -2 := by
  unfold mt1
  rw [qzL_o (by decide) 4, hzL_o (by decide) 5]
  exact emL_4 12 k h
theorem mt1_5 {g : Nat} (h : g < 4) : mt1 5 g = 202752 := by
  unfold mt1
  exact qzL_5 4 g h
theorem RP_0 : RP 0 st0 mt1 := by
  have ng : ∀ k, k < 12 → neg 12 k = -1 := fun k hk => if_pos hk
  refine ⟨⟨mt0, Rel_0⟩, fun q hq k hk => ?_, fun q hq => ?_, fun k hk => ?_, fun g hg => ?_, fun j hj => ?_, ⟨0, by omega, rfl, ?_⟩, fun q h5 h8 => ⟨fun k hk => ?_, ?_⟩⟩
  · rw [st0_w (a := 4 + 4 * q + 1) (by omega) (by omega) (by omega), st0_w (a := 4 + 4 * q + 2) (by omega) (by omega) (by omega), st0_r (a := 4 + 4 * q + 3) (by omega) (by omega), ng k hk, mt1_o (by decide) (by decide) (by decide)]
    exact LfR_0
  · unfold PVq
    rw [st0_d (a := 4 + 4 * q) (by omega) (by omega), mt1_2 hq, mt1_o (y := 1) (by decide) (by decide) (by decide), mt1_o (y := 3) (by decide) (by decide) (by decide)]
    exact ⟨⟨rfl, rfl, rfl⟩, ⟨0, Nat.le_refl _, rfl⟩, ⟨0, Nat.le_refl _, rfl⟩, fun z => absurd rfl z⟩
  · have e1 : st0 1 1 = 0 := rfl
    rw [hasF_bi (by omega), e1, bi_0, mt1_4 hk]
    rfl
  · rw [st0_g (by omega) (by omega), mt1_5 hg]
    exact ⟨0, 0, 99, by decide, by decide, by decide, rfl, rfl, rfl, by decide⟩
  · unfold PJj
    rw [st0_j (by omega), mt1_o (y := 6) (by decide) (by decide) (by decide), mt1_o (y := 7) (by decide) (by decide) (by decide), mt1_o (y := 8) (by decide) (by decide) (by decide)]
    exact ⟨⟨0, 0, 0, 0, 0, by decide, by decide, by decide, by decide, by decide, rfl, rfl, rfl, rfl, rfl, rfl⟩, ER_0, rfl, Or.inl rfl⟩
  · rw [mt1_o (y := 9) (by decide) (by decide) (by decide)]
    rfl
  · rw [st0_w (a := 4 + 4 * q + 1) (by omega) (by omega) (by omega), st0_w (a := 4 + 4 * q + 2) (by omega) (by omega) (by omega), st0_r (a := 4 + 4 * q + 3) (by omega) (by omega), ng k hk]
    exact ⟨rfl, rfl, rfl⟩
  · rw [st0_d (by omega) (by omega)]
theorem k_toW {p : Program} {l : Launch} {e : Env} {R : Room} {s : State} {m : MethodId} {args : Array Value} {below : List Frame} {meth : Method} {c : Code} {Q : State → Prop} {D : va_G} {cs : Nat → ClassId} {base nL cells slots pc : Nat} {lv : List (Nat × Value)} {stk : List Value} {E : Nat → va_E} {st mt : St} {ov : Nat → Int64} (h : ∀ i, i < 60 → E i = gE (kad base) cs st mt ov i) (k : Wg p l e R s m args below meth c Q D cs (kad base) (kA base) nL cells slots pc lv stk st mt ov) : Kg p l e R s m args below meth c Q D base nL cells slots pc lv stk 60 E :=
  fun H locs ls hP hS hl => k H locs ls (by rw [← iw_ext (fun _ _ => rfl) h]; exact hP) hS hl
theorem cls_prim {args : Array Value} {s : State} {ty : FieldType} (h : (Cond.arrayClass ty).before args s = true) : ∃ cA : ClassId, ArrOfT s cA ty ∧ s.vm.findClass ("[" ++ ty.toString) = some cA := by
  obtain ⟨cA, kA, comp, h1, h2, h3⟩ := Cond.arrayClass_spec h
  exact ⟨cA, fun n z => ⟨(fun k h => by cases h), kA, h2, comp, h3⟩, h1⟩
theorem cls_obj {args : Array Value} {s : State} {C0 : String} (h : (Cond.arrayOver (.object C0)).before args s = true) : ∃ cA : ClassId, ArrOfT s cA (.object C0) ∧ va_RA s cA (.object C0) := by
  obtain ⟨comp, cA, kA, h1, -, h2, h3, h4⟩ := Cond.arrayOver_spec h
  exact ⟨cA, fun n z => ⟨(fun k h => by cases h), kA, h2, comp, h3⟩, kA, comp, h2, h3, h1, h4⟩
theorem str_at {args : Array Value} {s : State} {k : Nat} {tx : String} (h1 : (Cond.stringRef "TwinRegister" k tx).before args s = true) (h2 : (Cond.exactly (.string "TwinRegister" k) "java/lang/String").before args s = true) : ∃ a : Nat, vk_R "TwinRegister" k tx a s := by
  obtain ⟨a, c, cA, kA, q1, -⟩ := Cond.exactly_spec (args := args) (first := s) (o := none) (s := s) (idx := []) (t := .string "TwinRegister" k) (cls := "java/lang/String") h2
  exact ⟨a, vk_R.of h1 q1⟩
set_option maxHeartbeats 4000000 in
set_option maxRecDepth 100000 in
theorem ax_start {args : Array Value} {s : State} (hts : ∀ w ∈ lw_tbl, w.before args s = true) (hgv : (Jvm.Cond.and given_1 narrow_1).before args s = true) : ax_E (kA s.heap.size) s s.heap := by
  have hs := flat_of_before _ hgv
  refine ⟨fun w hw => va_Nw.of (ax_on (List.mem_filter.mp hw).2) (hts w (List.mem_filter.mp hw).1), fun q hq => ?_, fun q hq => ?_, ?_, ?_⟩
  · simp only [ax_strs, List.mem_cons, List.mem_nil_iff, or_false] at hq
    rcases hq with rfl | rfl | rfl | rfl | rfl | rfl | rfl | rfl | rfl | rfl | rfl | rfl
    · exact str_at (hts _ (by decide +kernel)) (hs _ (by decide +kernel))
    · exact str_at (hts _ (by decide +kernel)) (hs _ (by decide +kernel))
    · exact str_at (hts _ (by decide +kernel)) (hs _ (by decide +kernel))
    · exact str_at (hts _ (by decide +kernel)) (hs _ (by decide +kernel))
    · exact str_at (hts _ (by decide +kernel)) (hs _ (by decide +kernel))
    · exact str_at (hts _ (by decide +kernel)) (hs _ (by decide +kernel))
    · exact str_at (hts _ (by decide +kernel)) (hs _ (by decide +kernel))
    · exact str_at (hts _ (by decide +kernel)) (hs _ (by decide +kernel))
    · exact str_at (hts _ (by decide +kernel)) (hs _ (by decide +kernel))
    · exact str_at (hts _ (by decide +kernel)) (hs _ (by decide +kernel))
    · exact str_at (hts _ (by decide +kernel)) (hs _ (by decide +kernel))
    · exact str_at (hts _ (by decide +kernel)) (hs _ (by decide +kernel))
  · simp only [ax_ncs, List.mem_cons, List.mem_nil_iff, or_false] at hq
    rcases hq with rfl | rfl | rfl
    · exact va_Nc.of (hs _ (by decide +kernel))
    · exact va_Nc.of (hs _ (by decide +kernel))
    · exact va_Nc.of (hs _ (by decide +kernel))
  · exact vx_Zqof (hts _ (by decide +kernel)) (hts _ (by decide +kernel)) (hs _ (by decide +kernel)) (fun a h1 h2 => absurd h1 (Nat.not_lt.mpr h2))
  · exact vx_Zqof (hts _ (by decide +kernel)) (hts _ (by decide +kernel)) (hs _ (by decide +kernel)) (fun a h1 h2 => absurd h1 (Nat.not_lt.mpr h2))
set_option maxHeartbeats 4000000 in
set_option maxRecDepth 100000 in
theorem law_rest {p : Program} {l : Launch} {e : Env} {s : State} {m : MethodId} {args : Array Value} {below : List Frame} {meth : Method} {c : Code} {Q : State → Prop} {D : va_G} {cs : Nat → ClassId} {ad : Nat → Nat} {A : Nat → Prop} {ov : Nat → Int64} {b L : Nat} {xs : Nat → Int32} (C : Cx p s m args meth c D cs ad A code 17 "TwinRegisterLaw") (X : LX s A b L xs) (hl : l.stackTraces = false) (hL : L ≤ 260) (hend : ∀ (cells slots : Nat) (lv : List (Nat × Value)) (st mt : St), cells ≤ room_1.cells → slots ≤ room_1.slots → Wg p l e room_1 s m args below meth c Q D cs ad A 17 cells slots 275 lv [.int 1] st mt ov) : Wg p l e room_1 s m args below meth c Q D cs ad A 17 60 591 61 [(0, .ref b), (1, .ref (ad 0)), (2, .ref (ad 50)), (3, .ref (ad 51)), (4, .ref (ad 52)), (5, .ref (ad 53)), (6, .ref (ad 54)), (7, .ref (ad 55)), (8, .ref (ad 56)), (9, .ref (ad 57)), (10, .ref (ad 58)), (11, .ref (ad 59))] [] st0 mtz ov := by
  have hrc : 100000 ≤ room_1.cells := Nat.le_of_ble_eq_true rfl
  have hrs : 600000 ≤ room_1.slots := Nat.le_of_ble_eq_true rfl
  refine w_aload C 6 d_law_61 rfl ?_
  refine w_callMv C (w_runS C (c_L_empty ) m_181 m_182 m_23 m_183 ⟨rfl, rfl⟩ hd_L_empty rfl ⟨Nat.le_of_ble_eq_true rfl, Nat.le_of_ble_eq_true rfl⟩ rfl (Nat.le_of_ble_eq_true rfl) d_law_63 ⟨(show 60 + 0 ≤ room_1.cells by omega), (show 591 + 0 ≤ room_1.slots by omega)⟩) (fun u63 h63 => ?_)
  subst h63
  refine w_iconst (v := 0) C d_law_66 rfl ?_
  refine w_istore (lv2 := [(12, .int 0), (0, .ref b), (1, .ref (ad 0)), (2, .ref (ad 50)), (3, .ref (ad 51)), (4, .ref (ad 52)), (5, .ref (ad 53)), (6, .ref (ad 54)), (7, .ref (ad 55)), (8, .ref (ad 56)), (9, .ref (ad 57)), (10, .ref (ad 58)), (11, .ref (ad 59))]) C d_law_67 (by decide) rfl ?_
  refine w_lv (lv2 := [(0, .ref b), (1, .ref (ad 0)), (2, .ref (ad 50)), (3, .ref (ad 51)), (4, .ref (ad 52)), (5, .ref (ad 53)), (6, .ref (ad 54)), (7, .ref (ad 55)), (8, .ref (ad 56)), (9, .ref (ad 57)), (10, .ref (ad 58)), (11, .ref (ad 59)), (12, .int (nI 0))]) [1, 2, 3, 4, 5, 6, 7, 8, 9, 10, 11, 12, 0] rfl ?_
  refine law_h (mt := emL mtz 12) C ?_ 5 0 rfl
  refine w_iconst (v := 0) C d_law_87 rfl ?_
  refine w_istore (lv2 := [(12, .int 0), (0, .ref b), (1, .ref (ad 0)), (2, .ref (ad 50)), (3, .ref (ad 51)), (4, .ref (ad 52)), (5, .ref (ad 53)), (6, .ref (ad 54)), (7, .ref (ad 55)), (8, .ref (ad 56)), (9, .ref (ad 57)), (10, .ref (ad 58)), (11, .ref (ad 59))]) C d_law_88 (by decide) rfl ?_
  refine w_lv (lv2 := [(0, .ref b), (1, .ref (ad 0)), (2, .ref (ad 50)), (3, .ref (ad 51)), (4, .ref (ad 52)), (5, .ref (ad 53)), (6, .ref (ad 54)), (7, .ref (ad 55)), (8, .ref (ad 56)), (9, .ref (ad 57)), (10, .ref (ad 58)), (11, .ref (ad 59)), (12, .int (nI 0))]) [1, 2, 3, 4, 5, 6, 7, 8, 9, 10, 11, 12, 0] rfl ?_
  refine law_q (mt := hzL (emL mtz 12) 5) C ?_ 4 0 rfl
  refine w_mt (mt2 := mt1) rfl ?_
  refine w_aload_n C 1 d_law_109 rfl rfl ?_
  refine w_aload_n C 2 d_law_110 rfl rfl ?_
  refine w_aload_n C 3 d_law_111 rfl rfl ?_
  refine w_aload C 4 d_law_112 rfl ?_
  refine w_aload C 7 d_law_114 rfl ?_
  refine w_aload C 8 d_law_116 rfl ?_
  refine w_aload C 9 d_law_118 rfl ?_
  refine w_aload C 10 d_law_120 rfl ?_
  refine w_aload C 11 d_law_122 rfl ?_
  refine w_callPi C (w_runS C (c_L_isTold (B := 0) (by omega) RP_0 hl) m_519 m_520 m_23 m_521 ⟨rfl, rfl⟩ hd_L_isTold rfl ⟨Nat.le_of_ble_eq_true rfl, Nat.le_of_ble_eq_true rfl⟩ rfl (Nat.le_of_ble_eq_true rfl) d_law_124 ⟨(show 60 + 473 ≤ room_1.cells by omega), (show 591 + 2838 ≤ room_1.slots by omega)⟩) (fun r8 u8 h8 => ?_)
  obtain ⟨e1, e2⟩ := h8
  rw [e1, e2]
  dsimp only
  refine w_if_ne_t C 132 d_law_127 (by decide) (by decide) ?_
  refine w_iconst (v := 0) C d_law_132 rfl ?_
  refine w_istore (lv2 := [(12, .int 0), (0, .ref b), (1, .ref (ad 0)), (2, .ref (ad 50)), (3, .ref (ad 51)), (4, .ref (ad 52)), (5, .ref (ad 53)), (6, .ref (ad 54)), (7, .ref (ad 55)), (8, .ref (ad 56)), (9, .ref (ad 57)), (10, .ref (ad 58)), (11, .ref (ad 59))]) C d_law_133 (by decide) rfl ?_
  refine w_lv (lv2 := [(0, .ref b), (1, .ref (ad 0)), (2, .ref (ad 50)), (3, .ref (ad 51)), (4, .ref (ad 52)), (5, .ref (ad 53)), (6, .ref (ad 54)), (7, .ref (ad 55)), (8, .ref (ad 56)), (9, .ref (ad 57)), (10, .ref (ad 58)), (11, .ref (ad 59)), (12, .int (nI 0))]) [1, 2, 3, 4, 5, 6, 7, 8, 9, 10, 11, 12, 0] rfl ?_
  refine w_widen (k2 := (60 + 473) + 570 * 0) (n2 := (591 + 2838) + 3420 * 0) (by omega) (by omega) ?_
  refine law_turns (ca := 60 + 473) (sa := 591 + 2838) C X hl hL ⟨by omega, by omega⟩ (fun st mt => ?_) 130 0 st0 mt1 rfl RP_0
  refine w_iconst (v := 1) C d_law_274 rfl ?_
  exact hend _ _ _ _ _ (by omega) (by omega)
