/-! ===== the law's loops ===== -/
def mtz : St := fun _ _ => 0
def hzL (a : St) : Nat → St
  | 0 => a
  | i + 1 => up2 (hzL a i) 2 i (-1)
def qzL (a : St) : Nat → St
  | 0 => a
  | i + 1 => up2 (qzL a i) 5 i 202752
theorem hzL_o {a : St} {y : Nat} (h : y ≠ 2) : ∀ i, hzL a i y = a y
  | 0 => rfl
  | i + 1 => (up2_out (hzL a i) (-1) h).trans (hzL_o h i)
theorem qzL_o {a : St} {y : Nat} (h : y ≠ 5) : ∀ i, qzL a i y = a y
  | 0 => rfl
  | i + 1 => (up2_out (qzL a i) 202752 h).trans (qzL_o h i)
theorem hzL_2 {a : St} : ∀ i k, k < i → hzL a i 2 k = -1
  | 0, k, h => absurd h (Nat.not_lt_zero k)
  | i + 1, k, h => by
    show up2 (hzL a i) 2 i (-1) 2 k = -1
    rw [up2_at]
    by_cases e : k = i
    · simp [e]
    · simp [e, hzL_2 i k (by omega)]
theorem qzL_5 {a : St} : ∀ i k, k < i → qzL a i 5 k = 202752
  | 0, k, h => absurd h (Nat.not_lt_zero k)
  | i + 1, k, h => by
    show up2 (qzL a i) 5 i 202752 5 k = 202752
    rw [up2_at]
    by_cases e : k = i
    · simp [e]
    · simp [e, qzL_5 i k (by omega)]
set_option maxHeartbeats 4000000 in
set_option maxRecDepth 100000 in
theorem law_h {p : Program} {l : Launch} {e : Env} {s : State} {m : MethodId} {args : Array Value} {below : List Frame} {meth : Method} {c : Code} {Q : State → Prop} {D : va_G} {cs : Nat → ClassId} {ad : Nat → Nat} {A : Nat → Prop} {st mt : Nat → Nat → Int32} {ov : Nat → Int64} {b : Nat} {cells slots : Nat} (C : Cx p s m args meth c D cs ad A code 17 "TwinRegisterLaw") (kx : Wg p l e room_1 s m args below meth c Q D cs ad A 17 cells slots 87 [(0, .ref b), (1, .ref (ad 0)), (2, .ref (ad 50)), (3, .ref (ad 51)), (4, .ref (ad 52)), (5, .ref (ad 53)), (6, .ref (ad 54)), (7, .ref (ad 55)), (8, .ref (ad 56)), (9, .ref (ad 57)), (10, .ref (ad 58)), (11, .ref (ad 59)), (12, .int (nI 5))] [] st (hzL mt 5) ov) : ∀ n i : Nat, i + n = 5 → Wg p l e room_1 s m args below meth c Q D cs ad A 17 cells slots 69 [(0, .ref b), (1, .ref (ad 0)), (2, .ref (ad 50)), (3, .ref (ad 51)), (4, .ref (ad 52)), (5, .ref (ad 53)), (6, .ref (ad 54)), (7, .ref (ad 55)), (8, .ref (ad 56)), (9, .ref (ad 57)), (10, .ref (ad 58)), (11, .ref (ad 59)), (12, .int (nI i))] [] st (hzL mt i) ov := by
  intro n
  induction n with
  | zero =>
    intro i hi
    have hi9 : 5 = i := by omega
    subst hi9
    refine w_iload C 12 d_law_69 rfl ?_
    refine w_iconst (v := 5) C d_law_71 rfl ?_
    refine w_icmp_ge_t C 87 d_law_72 (by decide) (nI_le (a := 5) (b := 5) (Nat.le_refl _) (by decide)) ?_
    exact w_lv [0, 1, 2, 3, 4, 5, 6, 7, 8, 9, 10, 11, 12] rfl kx
  | succ n ih =>
    intro i hi
    have hi2 : i < 5 := by omega
    refine w_iload C 12 d_law_69 rfl ?_
    refine w_iconst (v := 5) C d_law_71 rfl ?_
    refine w_icmp_ge_f C 87 d_law_72 (by decide) (nI_ge (b := 5) hi2 (by decide)) ?_
    refine w_aload C 4 d_law_75 rfl ?_
    refine w_iload C 12 d_law_77 rfl ?_
    refine w_iconst (v := (-1)) C d_law_79 rfl ?_
    refine is_MA C 2 (by omega) rfl rfl (show _ < 5 by omega) d_law_80 ?_
    refine w_iinc (lv2 := [(12, .int (nI (i + 1))), (0, .ref b), (1, .ref (ad 0)), (2, .ref (ad 50)), (3, .ref (ad 51)), (4, .ref (ad 52)), (5, .ref (ad 53)), (6, .ref (ad 54)), (7, .ref (ad 55)), (8, .ref (ad 56)), (9, .ref (ad 57)), (10, .ref (ad 58)), (11, .ref (ad 59))]) C 12 d_law_81 rfl (nI_1 _) (by decide) rfl ?_
    refine w_goto C 69 d_law_84 (by decide) ?_
    refine w_mt (mt2 := (hzL mt (i + 1))) rfl ?_
    exact w_lv [1, 2, 3, 4, 5, 6, 7, 8, 9, 10, 11, 12, 0] rfl (ih (i + 1) (by omega))
set_option maxHeartbeats 4000000 in
set_option maxRecDepth 100000 in
theorem law_q {p : Program} {l : Launch} {e : Env} {s : State} {m : MethodId} {args : Array Value} {below : List Frame} {meth : Method} {c : Code} {Q : State → Prop} {D : va_G} {cs : Nat → ClassId} {ad : Nat → Nat} {A : Nat → Prop} {st mt : Nat → Nat → Int32} {ov : Nat → Int64} {b : Nat} {cells slots : Nat} (C : Cx p s m args meth c D cs ad A code 17 "TwinRegisterLaw") (kx : Wg p l e room_1 s m args below meth c Q D cs ad A 17 cells slots 109 [(0, .ref b), (1, .ref (ad 0)), (2, .ref (ad 50)), (3, .ref (ad 51)), (4, .ref (ad 52)), (5, .ref (ad 53)), (6, .ref (ad 54)), (7, .ref (ad 55)), (8, .ref (ad 56)), (9, .ref (ad 57)), (10, .ref (ad 58)), (11, .ref (ad 59)), (12, .int (nI 4))] [] st (qzL mt 4) ov) : ∀ n i : Nat, i + n = 4 → Wg p l e room_1 s m args below meth c Q D cs ad A 17 cells slots 90 [(0, .ref b), (1, .ref (ad 0)), (2, .ref (ad 50)), (3, .ref (ad 51)), (4, .ref (ad 52)), (5, .ref (ad 53)), (6, .ref (ad 54)), (7, .ref (ad 55)), (8, .ref (ad 56)), (9, .ref (ad 57)), (10, .ref (ad 58)), (11, .ref (ad 59)), (12, .int (nI i))] [] st (qzL mt i) ov := by
  intro n
  induction n with
  | zero =>
    intro i hi
    have hi9 : 4 = i := by omega
    subst hi9
    refine w_iload C 12 d_law_90 rfl ?_
    refine w_iconst (v := 4) C d_law_92 rfl ?_
    refine w_icmp_ge_t C 109 d_law_93 (by decide) (nI_le (a := 4) (b := 4) (Nat.le_refl _) (by decide)) ?_
    exact w_lv [0, 1, 2, 3, 4, 5, 6, 7, 8, 9, 10, 11, 12] rfl kx
  | succ n ih =>
    intro i hi
    have hi2 : i < 4 := by omega
    refine w_iload C 12 d_law_90 rfl ?_
    refine w_iconst (v := 4) C d_law_92 rfl ?_
    refine w_icmp_ge_f C 109 d_law_93 (by decide) (nI_ge (b := 4) hi2 (by decide)) ?_
    refine w_aload C 7 d_law_96 rfl ?_
    refine w_iload C 12 d_law_98 rfl ?_
    refine w_ldc (v := 202752) C m_572 d_law_100 ?_
    refine is_MA C 5 (by omega) rfl rfl (show _ < 4 by omega) d_law_102 ?_
    refine w_iinc (lv2 := [(12, .int (nI (i + 1))), (0, .ref b), (1, .ref (ad 0)), (2, .ref (ad 50)), (3, .ref (ad 51)), (4, .ref (ad 52)), (5, .ref (ad 53)), (6, .ref (ad 54)), (7, .ref (ad 55)), (8, .ref (ad 56)), (9, .ref (ad 57)), (10, .ref (ad 58)), (11, .ref (ad 59))]) C 12 d_law_103 rfl (nI_1 _) (by decide) rfl ?_
    refine w_goto C 90 d_law_106 (by decide) ?_
    refine w_mt (mt2 := (qzL mt (i + 1))) rfl ?_
    exact w_lv [1, 2, 3, 4, 5, 6, 7, 8, 9, 10, 11, 12, 0] rfl (ih (i + 1) (by omega))
set_option maxHeartbeats 4000000 in
set_option maxRecDepth 100000 in
theorem law_turns {p : Program} {l : Launch} {e : Env} {s : State} {m : MethodId} {args : Array Value} {below : List Frame} {meth : Method} {c : Code} {Q : State → Prop} {D : va_G} {cs : Nat → ClassId} {ad : Nat → Nat} {A : Nat → Prop} {ov : Nat → Int64} {b L : Nat} {xs : Nat → Int32} {ca sa : Nat} (C : Cx p s m args meth c D cs ad A code 17 "TwinRegisterLaw") (X : LX s A b L xs) (hl : l.stackTraces = false) (hL : L ≤ 260) (hcs : (ca + 570 * 130) ≤ room_1.cells ∧ (sa + 3420 * 130) ≤ room_1.slots) (kx : ∀ st mt : St, Wg p l e room_1 s m args below meth c Q D cs ad A 17 (ca + 570 * 130) (sa + 3420 * 130) 274 [(0, .ref b), (1, .ref (ad 0)), (2, .ref (ad 50)), (3, .ref (ad 51)), (4, .ref (ad 52)), (5, .ref (ad 53)), (6, .ref (ad 54)), (7, .ref (ad 55)), (8, .ref (ad 56)), (9, .ref (ad 57)), (10, .ref (ad 58)), (11, .ref (ad 59)), (12, .int (nI 130))] [] st mt ov) : ∀ (n i : Nat) (st mt : St), i + n = 130 → RP (40 * i) st mt → Wg p l e room_1 s m args below meth c Q D cs ad A 17 (ca + 570 * i) (sa + 3420 * i) 135 [(0, .ref b), (1, .ref (ad 0)), (2, .ref (ad 50)), (3, .ref (ad 51)), (4, .ref (ad 52)), (5, .ref (ad 53)), (6, .ref (ad 54)), (7, .ref (ad 55)), (8, .ref (ad 56)), (9, .ref (ad 57)), (10, .ref (ad 58)), (11, .ref (ad 59)), (12, .int (nI i))] [] st mt ov := by
  intro n
  induction n with
  | zero =>
    intro i st mt hi hRP
    have hi9 : 130 = i := by omega
    subst hi9
    refine w_iload C 12 d_law_135 rfl ?_
    refine w_sipush (v := 130) C d_law_137 rfl ?_
    refine w_icmp_ge_t C 274 d_law_140 (by decide) (nI_le (a := 130) (b := 130) (Nat.le_refl _) (by decide)) ?_
    exact w_lv [0, 1, 2, 3, 4, 5, 6, 7, 8, 9, 10, 11, 12] rfl (kx _ _)
  | succ n ih =>
    intro i st mt hi hRP
    have hi2 : i < 130 := by omega
    refine w_iload C 12 d_law_135 rfl ?_
    refine w_sipush (v := 130) C d_law_137 rfl ?_
    refine w_icmp_ge_f C 274 d_law_140 (by decide) (nI_ge (b := 130) hi2 (by decide)) ?_
    refine w_aload_n C 0 d_law_143 rfl rfl ?_
    refine w_iconst (v := 3) C d_law_144 rfl ?_
    refine w_iload C 12 d_law_145 rfl ?_
    refine w_imul C d_law_147 ?_
    refine w_topi (y := (nI (3 * i))) (pk_mul 3 i) ?_
    refine w_callMi C (w_runSC C X (c_L_cell hL (by omega)) m_174 m_175 m_23 m_176 ⟨rfl, rfl⟩ hd_L_cell rfl ⟨Nat.le_of_ble_eq_true rfl, Nat.le_of_ble_eq_true rfl⟩ rfl (Nat.le_of_ble_eq_true rfl) d_law_148 ⟨(show (ca + 570 * i) + 0 ≤ room_1.cells by omega), (show (sa + 3420 * i) + 0 ≤ room_1.slots by omega)⟩) (fun x148 u9 h9 => ?_)
    rw [h9]
    refine w_istore (lv2 := [(13, .int x148), (0, .ref b), (1, .ref (ad 0)), (2, .ref (ad 50)), (3, .ref (ad 51)), (4, .ref (ad 52)), (5, .ref (ad 53)), (6, .ref (ad 54)), (7, .ref (ad 55)), (8, .ref (ad 56)), (9, .ref (ad 57)), (10, .ref (ad 58)), (11, .ref (ad 59)), (12, .int (nI i))]) C d_law_151 (by decide) rfl ?_
    refine w_aload_n C 1 d_law_153 rfl rfl ?_
    refine w_iconst (v := 3) C d_law_154 rfl ?_
    refine w_iload C 13 d_law_155 rfl ?_
    refine w_imul C d_law_157 ?_
    refine w_topi (y := (nI (3 * i))) (pk_mul 3 i) ?_
    refine w_iconst (v := 1) C d_law_158 rfl ?_
    refine w_iadd C d_law_159 ?_
    refine w_topi (y := (nI (3 * i + 1))) (nI_1 _) ?_
    refine w_callMi C (w_runSC C X (c_L_cell hL (by omega)) m_174 m_175 m_23 m_176 ⟨rfl, rfl⟩ hd_L_cell rfl ⟨Nat.le_of_ble_eq_true rfl, Nat.le_of_ble_eq_true rfl⟩ rfl (Nat.le_of_ble_eq_true rfl) d_law_160 ⟨(show (ca + 570 * i) + 0 ≤ room_1.cells by omega), (show (sa + 3420 * i) + 0 ≤ room_1.slots by omega)⟩) (fun x160 u9 h9 => ?_)
    rw [h9]
    refine w_istore (lv2 := [(14, .int x160), (13, .int x148), (0, .ref b), (1, .ref (ad 0)), (2, .ref (ad 50)), (3, .ref (ad 51)), (4, .ref (ad 52)), (5, .ref (ad 53)), (6, .ref (ad 54)), (7, .ref (ad 55)), (8, .ref (ad 56)), (9, .ref (ad 57)), (10, .ref (ad 58)), (11, .ref (ad 59)), (12, .int (nI i))]) C d_law_163 (by decide) rfl ?_
    refine w_aload_n C 2 d_law_165 rfl rfl ?_
    refine w_iconst (v := 3) C d_law_166 rfl ?_
    refine w_iload C 14 d_law_167 rfl ?_
    refine w_imul C d_law_169 ?_
    refine w_topi (y := (nI (3 * i))) (pk_mul 3 i) ?_
    refine w_iconst (v := 2) C d_law_170 rfl ?_
    refine w_iadd C d_law_171 ?_
    refine w_topi (y := (nI (3 * i + 2))) (nI_add (3 * i) 2) ?_
    refine w_callMi C (w_runSC C X (c_L_cell hL (by omega)) m_174 m_175 m_23 m_176 ⟨rfl, rfl⟩ hd_L_cell rfl ⟨Nat.le_of_ble_eq_true rfl, Nat.le_of_ble_eq_true rfl⟩ rfl (Nat.le_of_ble_eq_true rfl) d_law_172 ⟨(show (ca + 570 * i) + 0 ≤ room_1.cells by omega), (show (sa + 3420 * i) + 0 ≤ room_1.slots by omega)⟩) (fun x172 u9 h9 => ?_)
    rw [h9]
    refine w_istore (lv2 := [(15, .int x172), (14, .int x160), (13, .int x148), (0, .ref b), (1, .ref (ad 0)), (2, .ref (ad 50)), (3, .ref (ad 51)), (4, .ref (ad 52)), (5, .ref (ad 53)), (6, .ref (ad 54)), (7, .ref (ad 55)), (8, .ref (ad 56)), (9, .ref (ad 57)), (10, .ref (ad 58)), (11, .ref (ad 59)), (12, .int (nI i))]) C d_law_175 (by decide) rfl ?_
    refine w_iload C 2 d_law_177 rfl ?_
    refine w_bipush (v := 24) C d_law_179 rfl ?_
    refine w_callMi C (w_runS C (c_L_low (n := 24) ⟨by decide, by decide⟩) m_178 m_179 m_23 m_180 ⟨rfl, rfl⟩ hd_L_low rfl ⟨Nat.le_of_ble_eq_true rfl, Nat.le_of_ble_eq_true rfl⟩ rfl (Nat.le_of_ble_eq_true rfl) d_law_181 ⟨(show (ca + 570 * i) + 0 ≤ room_1.cells by omega), (show (sa + 3420 * i) + 0 ≤ room_1.slots by omega)⟩) (fun r9 u9 h9 => ?_)
    obtain ⟨⟨k181, hk181, e1⟩, e2⟩ := h9
    rw [e1, e2]
    refine w_istore (lv2 := [(16, .int (nI k181)), (15, .int x172), (14, .int x160), (13, .int x148), (0, .ref b), (1, .ref (ad 0)), (2, .ref (ad 50)), (3, .ref (ad 51)), (4, .ref (ad 52)), (5, .ref (ad 53)), (6, .ref (ad 54)), (7, .ref (ad 55)), (8, .ref (ad 56)), (9, .ref (ad 57)), (10, .ref (ad 58)), (11, .ref (ad 59)), (12, .int (nI i))]) C d_law_184 (by decide) rfl ?_
    refine w_iload C 0 d_law_186 rfl ?_
    refine w_bipush (v := 18) C d_law_188 rfl ?_
    refine w_icmp_ge C 217 d_law_190 (by decide) (fun h190 => ?_) (fun h190 => ?_)
    · skip
      refine w_aload_n C 5 d_law_217 rfl rfl ?_
      refine w_iload C 0 d_law_218 rfl ?_
      refine w_bipush (v := 18) C d_law_220 rfl ?_
      refine w_isub C d_law_222 ?_
      refine w_iload C 2 d_law_223 rfl ?_
      refine w_iload C 1 d_law_225 rfl ?_
      refine w_aload_n C 6 d_law_227 rfl rfl ?_
      refine w_aload_n C 7 d_law_228 rfl rfl ?_
      refine w_aload C 11 d_law_229 rfl ?_
      refine w_aload C 12 d_law_231 rfl ?_
      refine w_aload C 13 d_law_233 rfl ?_
      refine w_aload C 14 d_law_235 rfl ?_
      refine w_aload C 15 d_law_237 rfl ?_
      refine w_callPi C (w_runS C (c_L_works (B := 40 * i) (by omega) hRP hl) m_438 m_439 m_23 m_440 ⟨rfl, rfl⟩ hd_L_works rfl ⟨Nat.le_of_ble_eq_true rfl, Nat.le_of_ble_eq_true rfl⟩ rfl (Nat.le_of_ble_eq_true rfl) d_law_239 ⟨(show (ca + 570 * i) + 87 ≤ room_1.cells by omega), (show (sa + 3420 * i) + 522 ≤ room_1.slots by omega)⟩) (fun r9 u9 h9 => ?_)
      obtain ⟨e1, hR9⟩ := h9
      rw [e1]
      refine w_if_eq_f C 266 d_law_242 (by decide) (by decide) ?_
      refine w_aload_n C 5 d_law_245 rfl rfl ?_
      refine w_aload_n C 6 d_law_246 rfl rfl ?_
      refine w_aload_n C 7 d_law_247 rfl rfl ?_
      refine w_aload C 8 d_law_248 rfl ?_
      refine w_aload C 11 d_law_250 rfl ?_
      refine w_aload C 12 d_law_252 rfl ?_
      refine w_aload C 13 d_law_254 rfl ?_
      refine w_aload C 14 d_law_256 rfl ?_
      refine w_aload C 15 d_law_258 rfl ?_
      refine w_callPi C (w_runS C (c_L_isTold (B := 40 * i + 40) (by omega) hR9 hl) m_519 m_520 m_23 m_521 ⟨rfl, rfl⟩ hd_L_isTold rfl ⟨Nat.le_of_ble_eq_true rfl, Nat.le_of_ble_eq_true rfl⟩ rfl (Nat.le_of_ble_eq_true rfl) d_law_260 ⟨(show (ca + 570 * i) + 87 + 473 ≤ room_1.cells by omega), (show (sa + 3420 * i) + 522 + 2838 ≤ room_1.slots by omega)⟩) (fun r8 u8 h8 => ?_)
      obtain ⟨e1, e2⟩ := h8
      rw [e1, e2]
      dsimp only
      refine w_if_ne_t C 268 d_law_263 (by decide) (by decide) ?_
      refine w_iinc (lv2 := [(12, .int (nI (i + 1))), (16, .int (nI k181)), (15, .int x172), (14, .int x160), (13, .int x148), (0, .ref b), (1, .ref (ad 0)), (2, .ref (ad 50)), (3, .ref (ad 51)), (4, .ref (ad 52)), (5, .ref (ad 53)), (6, .ref (ad 54)), (7, .ref (ad 55)), (8, .ref (ad 56)), (9, .ref (ad 57)), (10, .ref (ad 58)), (11, .ref (ad 59))]) C 16 d_law_268 rfl (nI_1 _) (by decide) rfl ?_
      refine w_goto C 135 d_law_271 (by decide) ?_
      refine w_widen (k2 := (ca + 570 * (i + 1))) (n2 := (sa + 3420 * (i + 1))) (by omega) (by omega) ?_
      exact w_lv [5, 6, 7, 8, 9, 10, 11, 12, 13, 14, 15, 16, 0] rfl (ih (i + 1) _ _ (by omega) (RP_w hR9 (by omega)))
    · skip
      refine w_aload_n C 5 d_law_193 rfl rfl ?_
      refine w_iload C 0 d_law_194 rfl ?_
      refine w_iload C 2 d_law_196 rfl ?_
      refine w_iload C 1 d_law_198 rfl ?_
      refine w_aload_n C 6 d_law_200 rfl rfl ?_
      refine w_aload_n C 7 d_law_201 rfl rfl ?_
      refine w_aload C 8 d_law_202 rfl ?_
      refine w_aload C 9 d_law_204 rfl ?_
      refine w_aload C 10 d_law_206 rfl ?_
      refine w_callPi C (w_runS C (c_L_talks (B := 40 * i) (by omega) hRP hl) m_184 m_185 m_23 m_186 ⟨rfl, rfl⟩ hd_L_talks rfl ⟨Nat.le_of_ble_eq_true rfl, Nat.le_of_ble_eq_true rfl⟩ rfl (Nat.le_of_ble_eq_true rfl) d_law_208 ⟨(show (ca + 570 * i) + 97 ≤ room_1.cells by omega), (show (sa + 3420 * i) + 582 ≤ room_1.slots by omega)⟩) (fun r9 u9 h9 => ?_)
      obtain ⟨e1, hR9⟩ := h9
      rw [e1]
      refine w_if_eq_f C 266 d_law_211 (by decide) (by decide) ?_
      refine w_goto C 245 d_law_214 (by decide) ?_
      refine w_aload_n C 5 d_law_245 rfl rfl ?_
      refine w_aload_n C 6 d_law_246 rfl rfl ?_
      refine w_aload_n C 7 d_law_247 rfl rfl ?_
      refine w_aload C 8 d_law_248 rfl ?_
      refine w_aload C 11 d_law_250 rfl ?_
      refine w_aload C 12 d_law_252 rfl ?_
      refine w_aload C 13 d_law_254 rfl ?_
      refine w_aload C 14 d_law_256 rfl ?_
      refine w_aload C 15 d_law_258 rfl ?_
      refine w_callPi C (w_runS C (c_L_isTold (B := 40 * i + 40) (by omega) hR9 hl) m_519 m_520 m_23 m_521 ⟨rfl, rfl⟩ hd_L_isTold rfl ⟨Nat.le_of_ble_eq_true rfl, Nat.le_of_ble_eq_true rfl⟩ rfl (Nat.le_of_ble_eq_true rfl) d_law_260 ⟨(show (ca + 570 * i) + 97 + 473 ≤ room_1.cells by omega), (show (sa + 3420 * i) + 582 + 2838 ≤ room_1.slots by omega)⟩) (fun r8 u8 h8 => ?_)
      obtain ⟨e1, e2⟩ := h8
      rw [e1, e2]
      dsimp only
      refine w_if_ne_t C 268 d_law_263 (by decide) (by decide) ?_
      refine w_iinc (lv2 := [(12, .int (nI (i + 1))), (16, .int (nI k181)), (15, .int x172), (14, .int x160), (13, .int x148), (0, .ref b), (1, .ref (ad 0)), (2, .ref (ad 50)), (3, .ref (ad 51)), (4, .ref (ad 52)), (5, .ref (ad 53)), (6, .ref (ad 54)), (7, .ref (ad 55)), (8, .ref (ad 56)), (9, .ref (ad 57)), (10, .ref (ad 58)), (11, .ref (ad 59))]) C 16 d_law_268 rfl (nI_1 _) (by decide) rfl ?_
      refine w_goto C 135 d_law_271 (by decide) ?_
      refine w_widen (k2 := (ca + 570 * (i + 1))) (n2 := (sa + 3420 * (i + 1))) (by omega) (by omega) ?_
      exact w_lv [5, 6, 7, 8, 9, 10, 11, 12, 13, 14, 15, 16, 0] rfl (ih (i + 1) _ _ (by omega) (RP_w hR9 (by omega)))
