section CATCH
variable {p : Program} {l : Launch} {e : Env} {R : Room} {s : State} {m : MethodId} {args : Array Value} {below : List Frame} {meth : Method} {c : Code} {Q : State → Prop} {D : va_G} {cs : Nat → ClassId} {ad : Nat → Nat} {A : Nat → Prop} {nL : Nat} {cc : ByteArray} {own : String} {cells slots : Nat} {pc : Nat} {lv : List (Nat × Value)} {stk : List Value} {st mt : Nat → Nat → Int32} {ov : Nat → Int64}
variable {mc ms : Nat} {rest : List Value}
/-- q is thrown over the frame at pc, of the class E, the memories as they are -/
def Vg (p : Program) (l : Launch) (e : Env) (R : Room) (s : State) (m : MethodId) (args : Array Value) (below : List Frame) (meth : Method) (c : Code) (Q : State → Prop) (D : va_G) (cs : Nat → ClassId) (ad : Nat → Nat) (A : Nat → Prop) (nL : Nat) (cells slots : Nat) (pc : Nat) (lv : List (Nat × Value)) (stk : List Value) (st mt : Nat → Nat → Int32) (ov : Nat → Int64) (E : String) (q : Nat) : Prop :=
  ∀ (H : Heap) (locs : List Loc) (ls : Array Slot) (ce : Cell), va_P D gcl (iw ad 72 (gE ad cs st mt ov)) H → va_S A s.heap H locs → lv_has ls nL lv → H[q]? = some ce → ce.vm = .none → s.vm.findClass E = some ce.cls → vx_W p l e R s m args below meth c H locs cells slots Q (F0 m pc ls stk) q
theorem w_xcatTi (C : Cx p s m args meth c D cs ad A cc nL own) {post : Int32 → (Nat → Nat → Int32) → Prop} {okx : String → Prop} {a : Array Value} (r : RnX p l e R s m args below meth c D cs ad A cells slots mc ms pc stk rest st mt ov (fun sz => QTi D cs ad mt ov post sz a) okx) (kx : ∀ (E : String) (q : Nat), okx E → Vg p l e R s m args below meth c Q D cs ad A nL (cells + mc) (slots + ms) pc lv rest st mt ov E q) (k : ∀ (r : Int32) (u : Nat → Nat → Int32), post r u → Wg p l e R s m args below meth c Q D cs ad A nL (cells + mc) (slots + ms) (pc + 3) lv (.int r :: rest) u mt ov) : Wg p l e R s m args below meth c Q D cs ad A nL cells slots pc lv stk st mt ov := by
  intro H locs ls hP hS hl
  refine vx_calli (r H locs ls hP hS (hl.1.trans C.2.2.1.symm)) hS (fun q _ h => cx_A C hS q h) (cx_A C hS) (fun q _ h => cx_A C hS q h) (fun E ce q9 u t H1 locs1 ht hvm hok hB hz hk hS1 hce hcv hcl => ?_) (fun r u t H1 locs1 ht _ hq hB _ _ hS1 => k r u hq H1 locs1 ls (by rw [← ht]; exact hB) hS1 hl)
  obtain ⟨rfl, hB⟩ := hB
  exact kx E q9 hok H1 locs1 ls ce (by rw [← ht]; exact hB) hS1 hl hce hcv hcl
theorem w_catch (C : Cx p s m args meth c D cs ad A cc nL own) {E name : String} {q : Nat} {hh : List (Nat × Nat × Nat × Nat)} (ht : c.exceptionTable.toList = tableOf hh) (pre : List ExceptionTableEntry) (x : ExceptionTableEntry) (suf : List ExceptionTableEntry) (hsplit : tableOf hh = pre ++ x :: suf) (hpass : ∀ z ∈ pre, z.catchType ≠ 0 ∧ ∃ nm : String, Cond.classLink own z.catchType nm ∈ ag_all ∧ (E, nm) ∈ ax_ncs) (hx : covers x pc = true) (h0 : x.catchType ≠ 0) (hlink : Cond.classLink own x.catchType name ∈ ag_all) (hcast : Cond.castable E name ∈ ax_all) (k : Wg p l e R s m args below meth c Q D cs ad A nL cells slots x.handlerPc lv ([.ref q]) st mt ov) : Vg p l e R s m args below meth c Q D cs ad A nL cells slots pc lv stk st mt ov E q := by
  intro H locs ls ce hP hS hl hce hcv hcl
  have hts := C.2.2.2.2.1
  refine vx_catch C.2.2.2.1 pre x suf (ht.trans hsplit) (fun z hz => ?_) hx h0 (hts _ hlink) (va_Nw.use rfl (C.2.2.2.2.2.1.1 _ hcast)) hce hcv hcl (k H locs ls hP hS hl)
  obtain ⟨h1, nm, h2, h3⟩ := hpass z hz
  exact Or.inr ⟨h1, nm, hts _ h2, C.2.2.2.2.2.1.2.2.1 _ h3⟩
end CATCH
theorem sleep_1 {st u : St} {p0 r : Int32} (h : ∃ q, q < 8 ∧ p0 = nI q ∧ ((st (4 + 4 * q) 7 = 0 ∧ r = 1 ∧ u = up2 (up2 st (4 + 4 * q) 7 1) (4 + 4 * q) 5 (up2 st (4 + 4 * q) 7 1 (4 + 4 * q) 4)) ∨ (¬ st (4 + 4 * q) 7 = 0 ∧ r = 0 ∧ u = st))) (h2 : ¬ r = 0) : r = 1 := by
  obtain ⟨q, -, -, h | h⟩ := h
  · exact h.2.1
  · exact absurd h.2.1 h2
set_option maxHeartbeats 4000000 in
set_option maxRecDepth 100000 in
theorem c_L_put {l : Launch} {D : va_G} {cs : Nat → ClassId} {ad : Nat → Nat} {st mt : Nat → Nat → Int32} {ov : Nat → Int64} {p0 p1 : Int32} (hl : l.stackTraces = false) : gW l y_L_put b_L_put 5 (some .int) [(0, 10, 13, 13), (0, 10, 17, 15)] ({ frames := 8, cells := 2, slots := 12, locals := 144 } : Room) 2 12 [.ref (ad 0), .int p0, .int p1, .ref (ad 71)] D cs ad st mt ov (QLi D cs ad mt (fun r u => (r = 0 ∧ ∃ (v : Int32) (s1 : St), (fun (r : Int32) (u : St) => ∃ k, k < 12 ∧ p0 = nI k ∧ okV p1 ∧ u = asgF st k p1 ∧ r = bcI (u 1 1)) v s1 ∧ u = (s1, vp_updL ov 0 v.toInt64)) ∨ (r = 1 ∧ (¬ inR p0 12) ∧ u = (st, ov)) ∨ (r = 2 ∧ (inR p0 12 ∧ ¬ okV p1) ∧ u = (st, ov)))) := by
  refine gW_of (own := "TwinRegisterLaw") (by decide +kernel) rfl (Nat.le_of_ble_eq_true rfl) ?_
  intro p e s m args below meth c C hr ht9
  refine w_lv (lv2 := [(0, .ref (ad 0)), (1, .int p0), (2, .int p1), (3, .ref (ad 71))]) [0, 1, 2, 3] rfl ?_
  refine w_aload_n C 3 d_L_put_0 rfl rfl ?_
  refine w_iconst (v := 0) C d_L_put_1 rfl ?_
  refine w_aload_n C 0 d_L_put_2 rfl rfl ?_
  refine w_iload_n C 1 d_L_put_3 rfl rfl ?_
  refine w_iload_n C 2 d_L_put_4 rfl rfl ?_
  refine w_xcatTi C (w_runVX C (c_T_put hl) (by omega) e_T rfl rfl m_242 m_243 m_244 m_36 m_245 ⟨rfl, rfl⟩ hd_T_put rfl ⟨Nat.le_of_ble_eq_true rfl, Nat.le_of_ble_eq_true rfl⟩ rfl (Nat.le_of_ble_eq_true rfl) d_L_put_5 ⟨Nat.le_of_ble_eq_true rfl, Nat.le_of_ble_eq_true rfl⟩) (fun E q9 h9 => ?_) (fun r9 u9 h9 => ?_)
  · skip
    rcases h9 with ⟨rfl, hx⟩ | ⟨rfl, hx⟩
    · skip
      refine w_catch (name := xO) C ht9 (tableOf []) ⟨0, 10, 13, 13⟩ (tableOf [(0, 10, 17, 15)]) rfl (fun z hz => by cases hz) (by decide +kernel) (by decide) m_240 m_251 ?_
      refine w_astore (lv2 := [(4, .ref _), (0, .ref (ad 0)), (1, .int p0), (2, .int p1), (3, .ref (ad 71))]) C d_L_put_13 (by decide) rfl ?_
      refine w_iconst (v := 1) C d_L_put_15 rfl ?_
      refine w_widen (k2 := 2) (n2 := 12) (Nat.le_of_ble_eq_true rfl) (Nat.le_of_ble_eq_true rfl) ?_
      exact w_iretL C hr d_L_put_16 (Or.inr (Or.inl ⟨rfl, hx, rfl⟩))
    · skip
      refine w_catch (name := xA) C ht9 (tableOf [(0, 10, 13, 13)]) ⟨0, 10, 17, 15⟩ (tableOf []) rfl (fun z hz => by
          simp only [tableOf, List.map, List.mem_cons, List.mem_nil_iff, or_false] at hz
          subst hz
          · exact ⟨by decide, xO, m_240, by decide +kernel⟩) (by decide +kernel) (by decide) m_241 m_322 ?_
      refine w_astore (lv2 := [(4, .ref _), (0, .ref (ad 0)), (1, .int p0), (2, .int p1), (3, .ref (ad 71))]) C d_L_put_17 (by decide) rfl ?_
      refine w_iconst (v := 2) C d_L_put_19 rfl ?_
      refine w_widen (k2 := 2) (n2 := 12) (Nat.le_of_ble_eq_true rfl) (Nat.le_of_ble_eq_true rfl) ?_
      exact w_iretL C hr d_L_put_20 (Or.inr (Or.inr ⟨rfl, hx, rfl⟩))
  · skip
    refine w_i2l C d_L_put_8 ?_
    refine ls_O C rfl d_L_put_9 ?_
    refine w_goto C 21 d_L_put_10 (by decide) ?_
    refine w_iconst (v := 0) C d_L_put_21 rfl ?_
    refine w_widen (k2 := 2) (n2 := 12) (Nat.le_of_ble_eq_true rfl) (Nat.le_of_ble_eq_true rfl) ?_
    exact w_iretL C hr d_L_put_22 (Or.inl ⟨rfl, r9, u9, h9, rfl⟩)
set_option maxHeartbeats 4000000 in
set_option maxRecDepth 100000 in
theorem c_L_drop {l : Launch} {D : va_G} {cs : Nat → ClassId} {ad : Nat → Nat} {st mt : Nat → Nat → Int32} {ov : Nat → Int64} {p0 : Int32} (hl : l.stackTraces = false) : gW l y_L_drop b_L_drop 4 (some .int) [(0, 9, 12, 13)] ({ frames := 7, cells := 1, slots := 6, locals := 123 } : Room) 1 6 [.ref (ad 0), .int p0, .ref (ad 71)] D cs ad st mt ov (QLi D cs ad mt (fun r u => (r = 0 ∧ ∃ (v : Int32) (s1 : St), (fun (r : Int32) (u : St) => ∃ k, k < 3 ∧ p0 = nI k ∧ u = drpF st k 4 ∧ r = bcI (u 1 1)) v s1 ∧ u = (s1, vp_updL ov 0 v.toInt64)) ∨ (r = 1 ∧ (¬ inR p0 3) ∧ u = (st, ov)))) := by
  refine gW_of (own := "TwinRegisterLaw") (by decide +kernel) rfl (Nat.le_of_ble_eq_true rfl) ?_
  intro p e s m args below meth c C hr ht9
  refine w_lv (lv2 := [(0, .ref (ad 0)), (1, .int p0), (2, .ref (ad 71))]) [0, 1, 2] rfl ?_
  refine w_aload_n C 2 d_L_drop_0 rfl rfl ?_
  refine w_iconst (v := 0) C d_L_drop_1 rfl ?_
  refine w_aload_n C 0 d_L_drop_2 rfl rfl ?_
  refine w_iload_n C 1 d_L_drop_3 rfl rfl ?_
  refine w_xcatTi C (w_runVX C (c_T_drop hl) (by omega) e_T rfl rfl m_348 m_349 m_350 m_36 m_351 ⟨rfl, rfl⟩ hd_T_drop rfl ⟨Nat.le_of_ble_eq_true rfl, Nat.le_of_ble_eq_true rfl⟩ rfl (Nat.le_of_ble_eq_true rfl) d_L_drop_4 ⟨Nat.le_of_ble_eq_true rfl, Nat.le_of_ble_eq_true rfl⟩) (fun E q9 h9 => ?_) (fun r9 u9 h9 => ?_)
  · skip
    obtain ⟨rfl, hx⟩ := h9
    refine w_catch (name := xO) C ht9 (tableOf []) ⟨0, 9, 12, 13⟩ (tableOf []) rfl (fun z hz => by cases hz) (by decide +kernel) (by decide) m_240 m_251 ?_
    refine w_astore_n (lv2 := [(3, .ref _), (0, .ref (ad 0)), (1, .int p0), (2, .ref (ad 71))]) C d_L_drop_12 rfl (by decide) rfl ?_
    refine w_iconst (v := 1) C d_L_drop_13 rfl ?_
    refine w_widen (k2 := 1) (n2 := 6) (Nat.le_of_ble_eq_true rfl) (Nat.le_of_ble_eq_true rfl) ?_
    exact w_iretL C hr d_L_drop_14 (Or.inr ⟨rfl, hx, rfl⟩)
  · skip
    refine w_i2l C d_L_drop_7 ?_
    refine ls_O C rfl d_L_drop_8 ?_
    refine w_goto C 15 d_L_drop_9 (by decide) ?_
    refine w_iconst (v := 0) C d_L_drop_15 rfl ?_
    refine w_widen (k2 := 1) (n2 := 6) (Nat.le_of_ble_eq_true rfl) (Nat.le_of_ble_eq_true rfl) ?_
    exact w_iretL C hr d_L_drop_16 (Or.inl ⟨rfl, r9, u9, h9, rfl⟩)
set_option maxHeartbeats 4000000 in
set_option maxRecDepth 100000 in
theorem c_L_wish {l : Launch} {D : va_G} {cs : Nat → ClassId} {ad : Nat → Nat} {st mt : Nat → Nat → Int32} {ov : Nat → Int64} {p0 p1 : Int32} (hl : l.stackTraces = false) : gW l y_L_wish b_L_wish 5 (some .int) [(0, 10, 13, 13), (0, 10, 17, 24)] ({ frames := 8, cells := 3, slots := 18, locals := 144 } : Room) 3 18 [.ref (ad 0), .int p0, .int p1, .ref (ad 71)] D cs ad st mt ov (QLi D cs ad mt (fun r u => (r = 0 ∧ ∃ (v : Int32) (s1 : St), (fun (r : Int32) (u : St) => ∃ q, q < 8 ∧ p0 = nI q ∧ ¬ bcI (st 1 1) = 0 ∧ (p1 = -1 ∨ p1 = st (4 + 4 * q) 4) ∧ u = empF (bmpV (merW st q 12) q) ∧ r = u (4 + 4 * q) 4) v s1 ∧ u = (s1, vp_updL ov 0 v.toInt64)) ∨ (r = 1 ∧ (¬ inR p0 8) ∧ u = (st, ov)) ∨ (r = 2 ∧ (∃ q, q < 8 ∧ p0 = nI q ∧ (bcI (st 1 1) = 0 ∨ (¬ p1 = -1 ∧ ¬ p1 = st (4 + 4 * q) 4))) ∧ u = (st, ov)))) := by
  refine gW_of (own := "TwinRegisterLaw") (by decide +kernel) rfl (Nat.le_of_ble_eq_true rfl) ?_
  intro p e s m args below meth c C hr ht9
  refine w_lv (lv2 := [(0, .ref (ad 0)), (1, .int p0), (2, .int p1), (3, .ref (ad 71))]) [0, 1, 2, 3] rfl ?_
  refine w_aload_n C 3 d_L_wish_0 rfl rfl ?_
  refine w_iconst (v := 0) C d_L_wish_1 rfl ?_
  refine w_aload_n C 0 d_L_wish_2 rfl rfl ?_
  refine w_iload_n C 1 d_L_wish_3 rfl rfl ?_
  refine w_iload_n C 2 d_L_wish_4 rfl rfl ?_
  refine w_xcatTi C (w_runVX C (c_T_wish hl) (by omega) e_T rfl rfl m_357 m_358 m_359 m_36 m_360 ⟨rfl, rfl⟩ hd_T_wish rfl ⟨Nat.le_of_ble_eq_true rfl, Nat.le_of_ble_eq_true rfl⟩ rfl (Nat.le_of_ble_eq_true rfl) d_L_wish_5 ⟨Nat.le_of_ble_eq_true rfl, Nat.le_of_ble_eq_true rfl⟩) (fun E q9 h9 => ?_) (fun r9 u9 h9 => ?_)
  · skip
    rcases h9 with ⟨rfl, hx⟩ | ⟨rfl, hx⟩
    · skip
      refine w_catch (name := xO) C ht9 (tableOf []) ⟨0, 10, 13, 13⟩ (tableOf [(0, 10, 17, 24)]) rfl (fun z hz => by cases hz) (by decide +kernel) (by decide) m_240 m_251 ?_
      refine w_astore (lv2 := [(4, .ref _), (0, .ref (ad 0)), (1, .int p0), (2, .int p1), (3, .ref (ad 71))]) C d_L_wish_13 (by decide) rfl ?_
      refine w_iconst (v := 1) C d_L_wish_15 rfl ?_
      refine w_widen (k2 := 3) (n2 := 18) (Nat.le_of_ble_eq_true rfl) (Nat.le_of_ble_eq_true rfl) ?_
      exact w_iretL C hr d_L_wish_16 (Or.inr (Or.inl ⟨rfl, hx, rfl⟩))
    · skip
      refine w_catch (name := xS) C ht9 (tableOf [(0, 10, 13, 13)]) ⟨0, 10, 17, 24⟩ (tableOf []) rfl (fun z hz => by
          simp only [tableOf, List.map, List.mem_cons, List.mem_nil_iff, or_false] at hz
          subst hz
          · exact ⟨by decide, xO, m_240, by decide +kernel⟩) (by decide +kernel) (by decide) m_356 m_368 ?_
      refine w_astore (lv2 := [(4, .ref _), (0, .ref (ad 0)), (1, .int p0), (2, .int p1), (3, .ref (ad 71))]) C d_L_wish_17 (by decide) rfl ?_
      refine w_iconst (v := 2) C d_L_wish_19 rfl ?_
      refine w_widen (k2 := 3) (n2 := 18) (Nat.le_of_ble_eq_true rfl) (Nat.le_of_ble_eq_true rfl) ?_
      exact w_iretL C hr d_L_wish_20 (Or.inr (Or.inr ⟨rfl, hx, rfl⟩))
  · skip
    refine w_i2l C d_L_wish_8 ?_
    refine ls_O C rfl d_L_wish_9 ?_
    refine w_goto C 21 d_L_wish_10 (by decide) ?_
    refine w_iconst (v := 0) C d_L_wish_21 rfl ?_
    refine w_widen (k2 := 3) (n2 := 18) (Nat.le_of_ble_eq_true rfl) (Nat.le_of_ble_eq_true rfl) ?_
    exact w_iretL C hr d_L_wish_22 (Or.inl ⟨rfl, r9, u9, h9, rfl⟩)
set_option maxHeartbeats 4000000 in
set_option maxRecDepth 100000 in
theorem c_L_report {l : Launch} {D : va_G} {cs : Nat → ClassId} {ad : Nat → Nat} {st mt : Nat → Nat → Int32} {ov : Nat → Int64} {p0 p1 : Int32} (hl : l.stackTraces = false) : gW l y_L_report b_L_report 5 (some .int) [(0, 10, 13, 13), (0, 10, 17, 15), (0, 10, 21, 24)] ({ frames := 8, cells := 3, slots := 18, locals := 146 } : Room) 3 18 [.ref (ad 0), .int p0, .int p1, .ref (ad 71)] D cs ad st mt ov (QLi D cs ad mt (fun r u => (r = 0 ∧ ∃ (v : Int32) (s1 : St), (fun (r : Int32) (u : St) => ∃ q, q < 8 ∧ p0 = nI q ∧ rng p1 1 (st (4 + 4 * q) 6 + 1) ∧ st (4 + 4 * q) 7 = 0 ∧ ((¬ st (4 + 4 * q) 6 < p1 ∧ u = empF st ∧ r = -1) ∨ (st (4 + 4 * q) 6 < p1 ∧ u = empF (up2 (merR st q 12) (4 + 4 * q) 6 p1) ∧ r = bcI (u (4 + 4 * q) 3)))) v s1 ∧ u = (s1, vp_updL ov 0 v.toInt64)) ∨ (r = 1 ∧ (¬ inR p0 8) ∧ u = (st, ov)) ∨ (r = 2 ∧ (∃ q, q < 8 ∧ p0 = nI q ∧ ¬ rng p1 1 (st (4 + 4 * q) 6 + 1)) ∧ u = (st, ov)) ∨ (r = 3 ∧ (∃ q, q < 8 ∧ p0 = nI q ∧ rng p1 1 (st (4 + 4 * q) 6 + 1) ∧ ¬ st (4 + 4 * q) 7 = 0) ∧ u = (st, ov)))) := by
  refine gW_of (own := "TwinRegisterLaw") (by decide +kernel) rfl (Nat.le_of_ble_eq_true rfl) ?_
  intro p e s m args below meth c C hr ht9
  refine w_lv (lv2 := [(0, .ref (ad 0)), (1, .int p0), (2, .int p1), (3, .ref (ad 71))]) [0, 1, 2, 3] rfl ?_
  refine w_aload_n C 3 d_L_report_0 rfl rfl ?_
  refine w_iconst (v := 0) C d_L_report_1 rfl ?_
  refine w_aload_n C 0 d_L_report_2 rfl rfl ?_
  refine w_iload_n C 1 d_L_report_3 rfl rfl ?_
  refine w_iload_n C 2 d_L_report_4 rfl rfl ?_
  refine w_xcatTi C (w_runVX C (c_T_report hl) (by omega) e_T rfl rfl m_398 m_399 m_400 m_36 m_401 ⟨rfl, rfl⟩ hd_T_report rfl ⟨Nat.le_of_ble_eq_true rfl, Nat.le_of_ble_eq_true rfl⟩ rfl (Nat.le_of_ble_eq_true rfl) d_L_report_5 ⟨Nat.le_of_ble_eq_true rfl, Nat.le_of_ble_eq_true rfl⟩) (fun E q9 h9 => ?_) (fun r9 u9 h9 => ?_)
  · skip
    rcases h9 with ⟨rfl, hx⟩ | ⟨rfl, hx⟩ | ⟨rfl, hx⟩
    · skip
      refine w_catch (name := xO) C ht9 (tableOf []) ⟨0, 10, 13, 13⟩ (tableOf [(0, 10, 17, 15), (0, 10, 21, 24)]) rfl (fun z hz => by cases hz) (by decide +kernel) (by decide) m_240 m_251 ?_
      refine w_astore (lv2 := [(4, .ref _), (0, .ref (ad 0)), (1, .int p0), (2, .int p1), (3, .ref (ad 71))]) C d_L_report_13 (by decide) rfl ?_
      refine w_iconst (v := 1) C d_L_report_15 rfl ?_
      refine w_widen (k2 := 3) (n2 := 18) (Nat.le_of_ble_eq_true rfl) (Nat.le_of_ble_eq_true rfl) ?_
      exact w_iretL C hr d_L_report_16 (Or.inr (Or.inl ⟨rfl, hx, rfl⟩))
    · skip
      refine w_catch (name := xA) C ht9 (tableOf [(0, 10, 13, 13)]) ⟨0, 10, 17, 15⟩ (tableOf [(0, 10, 21, 24)]) rfl (fun z hz => by
          simp only [tableOf, List.map, List.mem_cons, List.mem_nil_iff, or_false] at hz
          subst hz
          · exact ⟨by decide, xO, m_240, by decide +kernel⟩) (by decide +kernel) (by decide) m_241 m_322 ?_
      refine w_astore (lv2 := [(4, .ref _), (0, .ref (ad 0)), (1, .int p0), (2, .int p1), (3, .ref (ad 71))]) C d_L_report_17 (by decide) rfl ?_
      refine w_iconst (v := 2) C d_L_report_19 rfl ?_
      refine w_widen (k2 := 3) (n2 := 18) (Nat.le_of_ble_eq_true rfl) (Nat.le_of_ble_eq_true rfl) ?_
      exact w_iretL C hr d_L_report_20 (Or.inr (Or.inr (Or.inl ⟨rfl, hx, rfl⟩)))
    · skip
      refine w_catch (name := xS) C ht9 (tableOf [(0, 10, 13, 13), (0, 10, 17, 15)]) ⟨0, 10, 21, 24⟩ (tableOf []) rfl (fun z hz => by
          simp only [tableOf, List.map, List.mem_cons, List.mem_nil_iff, or_false] at hz
          rcases hz with rfl | rfl
          · exact ⟨by decide, xO, m_240, by decide +kernel⟩
          · exact ⟨by decide, xA, m_241, by decide +kernel⟩) (by decide +kernel) (by decide) m_356 m_368 ?_
      refine w_astore (lv2 := [(4, .ref _), (0, .ref (ad 0)), (1, .int p0), (2, .int p1), (3, .ref (ad 71))]) C d_L_report_21 (by decide) rfl ?_
      refine w_iconst (v := 3) C d_L_report_23 rfl ?_
      refine w_widen (k2 := 3) (n2 := 18) (Nat.le_of_ble_eq_true rfl) (Nat.le_of_ble_eq_true rfl) ?_
      exact w_iretL C hr d_L_report_24 (Or.inr (Or.inr (Or.inr ⟨rfl, hx, rfl⟩)))
  · skip
    refine w_i2l C d_L_report_8 ?_
    refine ls_O C rfl d_L_report_9 ?_
    refine w_goto C 25 d_L_report_10 (by decide) ?_
    refine w_iconst (v := 0) C d_L_report_25 rfl ?_
    refine w_widen (k2 := 3) (n2 := 18) (Nat.le_of_ble_eq_true rfl) (Nat.le_of_ble_eq_true rfl) ?_
    exact w_iretL C hr d_L_report_26 (Or.inl ⟨rfl, r9, u9, h9, rfl⟩)
set_option maxHeartbeats 4000000 in
set_option maxRecDepth 100000 in
theorem c_L_obey {l : Launch} {D : va_G} {cs : Nat → ClassId} {ad : Nat → Nat} {st mt : Nat → Nat → Int32} {ov : Nat → Int64} {p0 : Int32} (hl : l.stackTraces = false) : gW l y_L_obey b_L_obey 4 (some .int) [(0, 9, 12, 13), (0, 9, 15, 24)] ({ frames := 8, cells := 2, slots := 12, locals := 145 } : Room) 2 12 [.ref (ad 0), .int p0, .ref (ad 71)] D cs ad st mt ov (QLi D cs ad mt (fun r u => (r = 0 ∧ ∃ (v : Int32) (s1 : St), (fun (r : Int32) (u : St) => ∃ q, q < 8 ∧ p0 = nI q ∧ st (4 + 4 * q) 7 = 0 ∧ u = up2 (obyF st q 12).1 (4 + 4 * q) 6 ((obyF st q 12).1 (4 + 4 * q) 6 + 1) ∧ r = (obyF st q 12).2) v s1 ∧ u = (s1, vp_updL ov 0 v.toInt64)) ∨ (r = 1 ∧ (¬ inR p0 8) ∧ u = (st, ov)) ∨ (r = 2 ∧ (∃ q, q < 8 ∧ p0 = nI q ∧ ¬ st (4 + 4 * q) 7 = 0) ∧ u = (st, ov)))) := by
  refine gW_of (own := "TwinRegisterLaw") (by decide +kernel) rfl (Nat.le_of_ble_eq_true rfl) ?_
  intro p e s m args below meth c C hr ht9
  refine w_lv (lv2 := [(0, .ref (ad 0)), (1, .int p0), (2, .ref (ad 71))]) [0, 1, 2] rfl ?_
  refine w_aload_n C 2 d_L_obey_0 rfl rfl ?_
  refine w_iconst (v := 0) C d_L_obey_1 rfl ?_
  refine w_aload_n C 0 d_L_obey_2 rfl rfl ?_
  refine w_iload_n C 1 d_L_obey_3 rfl rfl ?_
  refine w_xcatTi C (w_runVX C (c_T_obey hl) (by omega) e_T rfl rfl m_417 m_418 m_419 m_36 m_420 ⟨rfl, rfl⟩ hd_T_obey rfl ⟨Nat.le_of_ble_eq_true rfl, Nat.le_of_ble_eq_true rfl⟩ rfl (Nat.le_of_ble_eq_true rfl) d_L_obey_4 ⟨Nat.le_of_ble_eq_true rfl, Nat.le_of_ble_eq_true rfl⟩) (fun E q9 h9 => ?_) (fun r9 u9 h9 => ?_)
  · skip
    rcases h9 with ⟨rfl, hx⟩ | ⟨rfl, hx⟩
    · skip
      refine w_catch (name := xO) C ht9 (tableOf []) ⟨0, 9, 12, 13⟩ (tableOf [(0, 9, 15, 24)]) rfl (fun z hz => by cases hz) (by decide +kernel) (by decide) m_240 m_251 ?_
      refine w_astore_n (lv2 := [(3, .ref _), (0, .ref (ad 0)), (1, .int p0), (2, .ref (ad 71))]) C d_L_obey_12 rfl (by decide) rfl ?_
      refine w_iconst (v := 1) C d_L_obey_13 rfl ?_
      refine w_widen (k2 := 2) (n2 := 12) (Nat.le_of_ble_eq_true rfl) (Nat.le_of_ble_eq_true rfl) ?_
      exact w_iretL C hr d_L_obey_14 (Or.inr (Or.inl ⟨rfl, hx, rfl⟩))
    · skip
      refine w_catch (name := xS) C ht9 (tableOf [(0, 9, 12, 13)]) ⟨0, 9, 15, 24⟩ (tableOf []) rfl (fun z hz => by
          simp only [tableOf, List.map, List.mem_cons, List.mem_nil_iff, or_false] at hz
          subst hz
          · exact ⟨by decide, xO, m_240, by decide +kernel⟩) (by decide +kernel) (by decide) m_356 m_368 ?_
      refine w_astore_n (lv2 := [(3, .ref _), (0, .ref (ad 0)), (1, .int p0), (2, .ref (ad 71))]) C d_L_obey_15 rfl (by decide) rfl ?_
      refine w_iconst (v := 2) C d_L_obey_16 rfl ?_
      refine w_widen (k2 := 2) (n2 := 12) (Nat.le_of_ble_eq_true rfl) (Nat.le_of_ble_eq_true rfl) ?_
      exact w_iretL C hr d_L_obey_17 (Or.inr (Or.inr ⟨rfl, hx, rfl⟩))
  · skip
    refine w_i2l C d_L_obey_7 ?_
    refine ls_O C rfl d_L_obey_8 ?_
    refine w_goto C 18 d_L_obey_9 (by decide) ?_
    refine w_iconst (v := 0) C d_L_obey_18 rfl ?_
    refine w_widen (k2 := 2) (n2 := 12) (Nat.le_of_ble_eq_true rfl) (Nat.le_of_ble_eq_true rfl) ?_
    exact w_iretL C hr d_L_obey_19 (Or.inl ⟨rfl, r9, u9, h9, rfl⟩)
set_option maxHeartbeats 4000000 in
set_option maxRecDepth 100000 in
theorem c_L_refuse {l : Launch} {D : va_G} {cs : Nat → ClassId} {ad : Nat → Nat} {st mt : Nat → Nat → Int32} {ov : Nat → Int64} {p0 p1 p2 : Int32} (hl : l.stackTraces = false) : gW l y_L_refuse b_L_refuse 6 (some .int) [(0, 12, 15, 13), (0, 12, 19, 15), (0, 12, 23, 24)] ({ frames := 8, cells := 5, slots := 30, locals := 146 } : Room) 5 30 [.ref (ad 0), .int p0, .int p1, .int p2, .ref (ad 71)] D cs ad st mt ov (QLi D cs ad mt (fun r u => (r = 0 ∧ ∃ (v : Int32) (s1 : St), (fun (r : Int32) (u : St) => ∃ q k, q < 8 ∧ k < 12 ∧ p0 = nI q ∧ p1 = nI k ∧ rng p2 1 9 ∧ st (4 + 4 * q) 7 = 0 ∧ difA st q k = true ∧ u = takeF st q k p2 ∧ r = bcI (u (4 + 4 * q) 3)) v s1 ∧ u = (s1, vp_updL ov 0 v.toInt64)) ∨ (r = 1 ∧ ((¬ inR p0 8 ∨ ¬ inR p1 12)) ∧ u = (st, ov)) ∨ (r = 2 ∧ (inR p0 8 ∧ inR p1 12 ∧ ¬ rng p2 1 9) ∧ u = (st, ov)) ∨ (r = 3 ∧ (∃ q k, q < 8 ∧ k < 12 ∧ p0 = nI q ∧ p1 = nI k ∧ rng p2 1 9 ∧ (¬ st (4 + 4 * q) 7 = 0 ∨ difA st q k = false)) ∧ u = (st, ov)))) := by
  refine gW_of (own := "TwinRegisterLaw") (by decide +kernel) rfl (Nat.le_of_ble_eq_true rfl) ?_
  intro p e s m args below meth c C hr ht9
  refine w_lv (lv2 := [(0, .ref (ad 0)), (1, .int p0), (2, .int p1), (3, .int p2), (4, .ref (ad 71))]) [0, 1, 2, 3, 4] rfl ?_
  refine w_aload C 4 d_L_refuse_0 rfl ?_
  refine w_iconst (v := 0) C d_L_refuse_2 rfl ?_
  refine w_aload_n C 0 d_L_refuse_3 rfl rfl ?_
  refine w_iload_n C 1 d_L_refuse_4 rfl rfl ?_
  refine w_iload_n C 2 d_L_refuse_5 rfl rfl ?_
  refine w_iload_n C 3 d_L_refuse_6 rfl rfl ?_
  refine w_xcatTi C (w_runVX C (c_T_refuse hl) (by omega) e_T rfl rfl m_428 m_429 m_430 m_36 m_431 ⟨rfl, rfl⟩ hd_T_refuse rfl ⟨Nat.le_of_ble_eq_true rfl, Nat.le_of_ble_eq_true rfl⟩ rfl (Nat.le_of_ble_eq_true rfl) d_L_refuse_7 ⟨Nat.le_of_ble_eq_true rfl, Nat.le_of_ble_eq_true rfl⟩) (fun E q9 h9 => ?_) (fun r9 u9 h9 => ?_)
  · skip
    rcases h9 with ⟨rfl, hx⟩ | ⟨rfl, hx⟩ | ⟨rfl, hx⟩
    · skip
      refine w_catch (name := xO) C ht9 (tableOf []) ⟨0, 12, 15, 13⟩ (tableOf [(0, 12, 19, 15), (0, 12, 23, 24)]) rfl (fun z hz => by cases hz) (by decide +kernel) (by decide) m_240 m_251 ?_
      refine w_astore (lv2 := [(5, .ref _), (0, .ref (ad 0)), (1, .int p0), (2, .int p1), (3, .int p2), (4, .ref (ad 71))]) C d_L_refuse_15 (by decide) rfl ?_
      refine w_iconst (v := 1) C d_L_refuse_17 rfl ?_
      refine w_widen (k2 := 5) (n2 := 30) (Nat.le_of_ble_eq_true rfl) (Nat.le_of_ble_eq_true rfl) ?_
      exact w_iretL C hr d_L_refuse_18 (Or.inr (Or.inl ⟨rfl, hx, rfl⟩))
    · skip
      refine w_catch (name := xA) C ht9 (tableOf [(0, 12, 15, 13)]) ⟨0, 12, 19, 15⟩ (tableOf [(0, 12, 23, 24)]) rfl (fun z hz => by
          simp only [tableOf, List.map, List.mem_cons, List.mem_nil_iff, or_false] at hz
          subst hz
          · exact ⟨by decide, xO, m_240, by decide +kernel⟩) (by decide +kernel) (by decide) m_241 m_322 ?_
      refine w_astore (lv2 := [(5, .ref _), (0, .ref (ad 0)), (1, .int p0), (2, .int p1), (3, .int p2), (4, .ref (ad 71))]) C d_L_refuse_19 (by decide) rfl ?_
      refine w_iconst (v := 2) C d_L_refuse_21 rfl ?_
      refine w_widen (k2 := 5) (n2 := 30) (Nat.le_of_ble_eq_true rfl) (Nat.le_of_ble_eq_true rfl) ?_
      exact w_iretL C hr d_L_refuse_22 (Or.inr (Or.inr (Or.inl ⟨rfl, hx, rfl⟩)))
    · skip
      refine w_catch (name := xS) C ht9 (tableOf [(0, 12, 15, 13), (0, 12, 19, 15)]) ⟨0, 12, 23, 24⟩ (tableOf []) rfl (fun z hz => by
          simp only [tableOf, List.map, List.mem_cons, List.mem_nil_iff, or_false] at hz
          rcases hz with rfl | rfl
          · exact ⟨by decide, xO, m_240, by decide +kernel⟩
          · exact ⟨by decide, xA, m_241, by decide +kernel⟩) (by decide +kernel) (by decide) m_356 m_368 ?_
      refine w_astore (lv2 := [(5, .ref _), (0, .ref (ad 0)), (1, .int p0), (2, .int p1), (3, .int p2), (4, .ref (ad 71))]) C d_L_refuse_23 (by decide) rfl ?_
      refine w_iconst (v := 3) C d_L_refuse_25 rfl ?_
      refine w_widen (k2 := 5) (n2 := 30) (Nat.le_of_ble_eq_true rfl) (Nat.le_of_ble_eq_true rfl) ?_
      exact w_iretL C hr d_L_refuse_26 (Or.inr (Or.inr (Or.inr ⟨rfl, hx, rfl⟩)))
  · skip
    refine w_i2l C d_L_refuse_10 ?_
    refine ls_O C rfl d_L_refuse_11 ?_
    refine w_goto C 27 d_L_refuse_12 (by decide) ?_
    refine w_iconst (v := 0) C d_L_refuse_27 rfl ?_
    refine w_widen (k2 := 5) (n2 := 30) (Nat.le_of_ble_eq_true rfl) (Nat.le_of_ble_eq_true rfl) ?_
    exact w_iretL C hr d_L_refuse_28 (Or.inl ⟨rfl, r9, u9, h9, rfl⟩)
set_option maxHeartbeats 4000000 in
set_option maxRecDepth 100000 in
theorem c_L_sleep {l : Launch} {D : va_G} {cs : Nat → ClassId} {ad : Nat → Nat} {st mt : Nat → Nat → Int32} {ov : Nat → Int64} {p0 : Int32} (hl : l.stackTraces = false) : gW l y_L_sleep b_L_sleep 4 (some .int) [(0, 16, 19, 13)] ({ frames := 8, cells := 1, slots := 6, locals := 144 } : Room) 1 6 [.ref (ad 0), .int p0, .ref (ad 71)] D cs ad st mt ov (QLi D cs ad mt (fun r u => (r = 0 ∧ ∃ (v : Int32) (s1 : St), (fun (r : Int32) (u : St) => ∃ q, q < 8 ∧ p0 = nI q ∧ ((st (4 + 4 * q) 7 = 0 ∧ r = 1 ∧ u = up2 (up2 st (4 + 4 * q) 7 1) (4 + 4 * q) 5 (up2 st (4 + 4 * q) 7 1 (4 + 4 * q) 4)) ∨ (¬ st (4 + 4 * q) 7 = 0 ∧ r = 0 ∧ u = st))) v s1 ∧ u = (s1, vp_updL ov 0 v.toInt64)) ∨ (r = 1 ∧ (¬ inR p0 8) ∧ u = (st, ov)))) := by
  refine gW_of (own := "TwinRegisterLaw") (by decide +kernel) rfl (Nat.le_of_ble_eq_true rfl) ?_
  intro p e s m args below meth c C hr ht9
  refine w_lv (lv2 := [(0, .ref (ad 0)), (1, .int p0), (2, .ref (ad 71))]) [0, 1, 2] rfl ?_
  refine w_aload_n C 2 d_L_sleep_0 rfl rfl ?_
  refine w_iconst (v := 0) C d_L_sleep_1 rfl ?_
  refine w_aload_n C 0 d_L_sleep_2 rfl rfl ?_
  refine w_iload_n C 1 d_L_sleep_3 rfl rfl ?_
  refine w_xcatTi C (w_runVX C (c_T_sleep hl) (by omega) e_T rfl rfl m_440 m_441 m_442 m_36 m_443 ⟨rfl, rfl⟩ hd_T_sleep rfl ⟨Nat.le_of_ble_eq_true rfl, Nat.le_of_ble_eq_true rfl⟩ rfl (Nat.le_of_ble_eq_true rfl) d_L_sleep_4 ⟨Nat.le_of_ble_eq_true rfl, Nat.le_of_ble_eq_true rfl⟩) (fun E q9 h9 => ?_) (fun r9 u9 h9 => ?_)
  · skip
    obtain ⟨rfl, hx⟩ := h9
    refine w_catch (name := xO) C ht9 (tableOf []) ⟨0, 16, 19, 13⟩ (tableOf []) rfl (fun z hz => by cases hz) (by decide +kernel) (by decide) m_240 m_251 ?_
    refine w_astore_n (lv2 := [(3, .ref _), (0, .ref (ad 0)), (1, .int p0), (2, .ref (ad 71))]) C d_L_sleep_19 rfl (by decide) rfl ?_
    refine w_iconst (v := 1) C d_L_sleep_20 rfl ?_
    refine w_widen (k2 := 1) (n2 := 6) (Nat.le_of_ble_eq_true rfl) (Nat.le_of_ble_eq_true rfl) ?_
    exact w_iretL C hr d_L_sleep_21 (Or.inr ⟨rfl, hx, rfl⟩)
  · skip
    refine w_if_eq C 14 d_L_sleep_7 (by decide) (fun h7 => ?_) (fun h7 => ?_)
    · skip
      refine w_lconst (v := 0) C d_L_sleep_14 rfl ?_
      refine ls_O C rfl d_L_sleep_15 ?_
      refine w_goto C 22 d_L_sleep_16 (by decide) ?_
      refine w_iconst (v := 0) C d_L_sleep_22 rfl ?_
      refine w_widen (k2 := 1) (n2 := 6) (Nat.le_of_ble_eq_true rfl) (Nat.le_of_ble_eq_true rfl) ?_
      exact w_iretL C hr d_L_sleep_23 (Or.inl ⟨rfl, r9, u9, h9, by rw [h7]; rfl⟩)
    · skip
      refine w_lconst (v := 1) C d_L_sleep_10 rfl ?_
      refine w_goto C 15 d_L_sleep_11 (by decide) ?_
      refine ls_O C rfl d_L_sleep_15 ?_
      refine w_goto C 22 d_L_sleep_16 (by decide) ?_
      refine w_iconst (v := 0) C d_L_sleep_22 rfl ?_
      refine w_widen (k2 := 1) (n2 := 6) (Nat.le_of_ble_eq_true rfl) (Nat.le_of_ble_eq_true rfl) ?_
      exact w_iretL C hr d_L_sleep_23 (Or.inl ⟨rfl, r9, u9, h9, by rw [show r9 = 1 from sleep_1 h9 h7]; rfl⟩)
set_option maxHeartbeats 4000000 in
set_option maxRecDepth 100000 in
theorem c_L_wake {l : Launch} {D : va_G} {cs : Nat → ClassId} {ad : Nat → Nat} {st mt : Nat → Nat → Int32} {ov : Nat → Int64} {p0 : Int32} (hl : l.stackTraces = false) : gW l y_L_wake b_L_wake 4 (some .int) [(0, 9, 12, 13)] ({ frames := 8, cells := 1, slots := 6, locals := 144 } : Room) 1 6 [.ref (ad 0), .int p0, .ref (ad 71)] D cs ad st mt ov (QLi D cs ad mt (fun r u => (r = 0 ∧ ∃ (v : Int32) (s1 : St), (fun (r : Int32) (u : St) => ∃ q, q < 8 ∧ p0 = nI q ∧ u = up2 st (4 + 4 * q) 7 0 ∧ r = st (4 + 4 * q) 4 - hearV st q) v s1 ∧ u = (s1, vp_updL ov 0 v.toInt64)) ∨ (r = 1 ∧ (¬ inR p0 8) ∧ u = (st, ov)))) := by
  refine gW_of (own := "TwinRegisterLaw") (by decide +kernel) rfl (Nat.le_of_ble_eq_true rfl) ?_
  intro p e s m args below meth c C hr ht9
  refine w_lv (lv2 := [(0, .ref (ad 0)), (1, .int p0), (2, .ref (ad 71))]) [0, 1, 2] rfl ?_
  refine w_aload_n C 2 d_L_wake_0 rfl rfl ?_
  refine w_iconst (v := 0) C d_L_wake_1 rfl ?_
  refine w_aload_n C 0 d_L_wake_2 rfl rfl ?_
  refine w_iload_n C 1 d_L_wake_3 rfl rfl ?_
  refine w_xcatTi C (w_runVX C (c_T_wake hl) (by omega) e_T rfl rfl m_447 m_448 m_449 m_36 m_450 ⟨rfl, rfl⟩ hd_T_wake rfl ⟨Nat.le_of_ble_eq_true rfl, Nat.le_of_ble_eq_true rfl⟩ rfl (Nat.le_of_ble_eq_true rfl) d_L_wake_4 ⟨Nat.le_of_ble_eq_true rfl, Nat.le_of_ble_eq_true rfl⟩) (fun E q9 h9 => ?_) (fun r9 u9 h9 => ?_)
  · skip
    obtain ⟨rfl, hx⟩ := h9
    refine w_catch (name := xO) C ht9 (tableOf []) ⟨0, 9, 12, 13⟩ (tableOf []) rfl (fun z hz => by cases hz) (by decide +kernel) (by decide) m_240 m_251 ?_
    refine w_astore_n (lv2 := [(3, .ref _), (0, .ref (ad 0)), (1, .int p0), (2, .ref (ad 71))]) C d_L_wake_12 rfl (by decide) rfl ?_
    refine w_iconst (v := 1) C d_L_wake_13 rfl ?_
    refine w_widen (k2 := 1) (n2 := 6) (Nat.le_of_ble_eq_true rfl) (Nat.le_of_ble_eq_true rfl) ?_
    exact w_iretL C hr d_L_wake_14 (Or.inr ⟨rfl, hx, rfl⟩)
  · skip
    refine w_i2l C d_L_wake_7 ?_
    refine ls_O C rfl d_L_wake_8 ?_
    refine w_goto C 15 d_L_wake_9 (by decide) ?_
    refine w_iconst (v := 0) C d_L_wake_15 rfl ?_
    refine w_widen (k2 := 1) (n2 := 6) (Nat.le_of_ble_eq_true rfl) (Nat.le_of_ble_eq_true rfl) ?_
    exact w_iretL C hr d_L_wake_16 (Or.inl ⟨rfl, r9, u9, h9, rfl⟩)
set_option maxHeartbeats 4000000 in
set_option maxRecDepth 100000 in
theorem c_L_setGroup {l : Launch} {D : va_G} {cs : Nat → ClassId} {ad : Nat → Nat} {st mt : Nat → Nat → Int32} {ov : Nat → Int64} {p0 p1 p2 p3 : Int32} (hl : l.stackTraces = false) : gW l y_L_setGroup b_L_setGroup 7 (some .int) [(0, 14, 17, 13), (0, 14, 21, 15)] ({ frames := 9, cells := 4, slots := 24, locals := 166 } : Room) 4 24 [.ref (ad 0), .int p0, .int p1, .int p2, .int p3, .ref (ad 71)] D cs ad st mt ov (QLi D cs ad mt (fun r u => (r = 0 ∧ ∃ (v : Int32) (s1 : St), (fun (r : Int32) (u : St) => ∃ g k, g < 4 ∧ k < 12 ∧ p0 = nI g ∧ p1 = nI k ∧ rng p2 0 99 ∧ rng p3 p2 99 ∧ u = setF st g (nI k) p2 p3 ∧ r = bcI (memF u g k 8)) v s1 ∧ u = (s1, vp_updL ov 0 v.toInt64)) ∨ (r = 1 ∧ ((¬ inR p0 4 ∨ ¬ inR p1 12)) ∧ u = (st, ov)) ∨ (r = 2 ∧ (inR p0 4 ∧ inR p1 12 ∧ ¬ (rng p2 0 99 ∧ rng p3 p2 99)) ∧ u = (st, ov)))) := by
  refine gW_of (own := "TwinRegisterLaw") (by decide +kernel) rfl (Nat.le_of_ble_eq_true rfl) ?_
  intro p e s m args below meth c C hr ht9
  refine w_lv (lv2 := [(0, .ref (ad 0)), (1, .int p0), (2, .int p1), (3, .int p2), (4, .int p3), (5, .ref (ad 71))]) [0, 1, 2, 3, 4, 5] rfl ?_
  refine w_aload C 5 d_L_setGroup_0 rfl ?_
  refine w_iconst (v := 0) C d_L_setGroup_2 rfl ?_
  refine w_aload_n C 0 d_L_setGroup_3 rfl rfl ?_
  refine w_iload_n C 1 d_L_setGroup_4 rfl rfl ?_
  refine w_iload_n C 2 d_L_setGroup_5 rfl rfl ?_
  refine w_iload_n C 3 d_L_setGroup_6 rfl rfl ?_
  refine w_iload C 4 d_L_setGroup_7 rfl ?_
  refine w_xcatTi C (w_runVX C (c_T_setGroup hl) (by omega) e_T rfl rfl m_458 m_459 m_460 m_36 m_461 ⟨rfl, rfl⟩ hd_T_setGroup rfl ⟨Nat.le_of_ble_eq_true rfl, Nat.le_of_ble_eq_true rfl⟩ rfl (Nat.le_of_ble_eq_true rfl) d_L_setGroup_9 ⟨Nat.le_of_ble_eq_true rfl, Nat.le_of_ble_eq_true rfl⟩) (fun E q9 h9 => ?_) (fun r9 u9 h9 => ?_)
  · skip
    rcases h9 with ⟨rfl, hx⟩ | ⟨rfl, hx⟩
    · skip
      refine w_catch (name := xO) C ht9 (tableOf []) ⟨0, 14, 17, 13⟩ (tableOf [(0, 14, 21, 15)]) rfl (fun z hz => by cases hz) (by decide +kernel) (by decide) m_240 m_251 ?_
      refine w_astore (lv2 := [(6, .ref _), (0, .ref (ad 0)), (1, .int p0), (2, .int p1), (3, .int p2), (4, .int p3), (5, .ref (ad 71))]) C d_L_setGroup_17 (by decide) rfl ?_
      refine w_iconst (v := 1) C d_L_setGroup_19 rfl ?_
      refine w_widen (k2 := 4) (n2 := 24) (Nat.le_of_ble_eq_true rfl) (Nat.le_of_ble_eq_true rfl) ?_
      exact w_iretL C hr d_L_setGroup_20 (Or.inr (Or.inl ⟨rfl, hx, rfl⟩))
    · skip
      refine w_catch (name := xA) C ht9 (tableOf [(0, 14, 17, 13)]) ⟨0, 14, 21, 15⟩ (tableOf []) rfl (fun z hz => by
          simp only [tableOf, List.map, List.mem_cons, List.mem_nil_iff, or_false] at hz
          subst hz
          · exact ⟨by decide, xO, m_240, by decide +kernel⟩) (by decide +kernel) (by decide) m_241 m_322 ?_
      refine w_astore (lv2 := [(6, .ref _), (0, .ref (ad 0)), (1, .int p0), (2, .int p1), (3, .int p2), (4, .int p3), (5, .ref (ad 71))]) C d_L_setGroup_21 (by decide) rfl ?_
      refine w_iconst (v := 2) C d_L_setGroup_23 rfl ?_
      refine w_widen (k2 := 4) (n2 := 24) (Nat.le_of_ble_eq_true rfl) (Nat.le_of_ble_eq_true rfl) ?_
      exact w_iretL C hr d_L_setGroup_24 (Or.inr (Or.inr ⟨rfl, hx, rfl⟩))
  · skip
    refine w_i2l C d_L_setGroup_12 ?_
    refine ls_O C rfl d_L_setGroup_13 ?_
    refine w_goto C 25 d_L_setGroup_14 (by decide) ?_
    refine w_iconst (v := 0) C d_L_setGroup_25 rfl ?_
    refine w_widen (k2 := 4) (n2 := 24) (Nat.le_of_ble_eq_true rfl) (Nat.le_of_ble_eq_true rfl) ?_
    exact w_iretL C hr d_L_setGroup_26 (Or.inl ⟨rfl, r9, u9, h9, rfl⟩)
set_option maxHeartbeats 4000000 in
set_option maxRecDepth 100000 in
theorem c_L_addJob {l : Launch} {D : va_G} {cs : Nat → ClassId} {ad : Nat → Nat} {st mt : Nat → Nat → Int32} {ov : Nat → Int64} {p0 p1 p2 p3 p4 : Int32} {jc : Nat} (hjc : jc ≤ 8) (hj0 : st 0 4 = nI jc) (hl : l.stackTraces = false) : gW l y_L_addJob b_L_addJob 8 (some .int) [(0, 16, 19, 13), (0, 16, 23, 15), (0, 16, 27, 24)] ({ frames := 8, cells := 6, slots := 36, locals := 148 } : Room) 6 36 [.ref (ad 0), .int p0, .int p1, .int p2, .int p3, .int p4, .ref (ad 71)] D cs ad st mt ov (QLi D cs ad mt (fun r u => (r = 0 ∧ ∃ (v : Int32) (s1 : St), (fun (r : Int32) (u : St) => ∃ g k, g < 4 ∧ k < 12 ∧ jc < 8 ∧ p0 = nI g ∧ p1 = nI k ∧ goodJ p2 p3 p4 ∧ u = incJ (adjF st jc (nI g) (nI k) p2 p3 p4) ∧ r = u 0 4 - 1) v s1 ∧ u = (s1, vp_updL ov 0 v.toInt64)) ∨ (r = 1 ∧ ((¬ inR p0 4 ∨ ¬ inR p1 12)) ∧ u = (st, ov)) ∨ (r = 2 ∧ (inR p0 4 ∧ inR p1 12 ∧ ¬ goodJ p2 p3 p4) ∧ u = (st, ov)) ∨ (r = 3 ∧ (inR p0 4 ∧ inR p1 12 ∧ goodJ p2 p3 p4 ∧ jc = 8) ∧ u = (st, ov)))) := by
  refine gW_of (own := "TwinRegisterLaw") (by decide +kernel) rfl (Nat.le_of_ble_eq_true rfl) ?_
  intro p e s m args below meth c C hr ht9
  refine w_lv (lv2 := [(0, .ref (ad 0)), (1, .int p0), (2, .int p1), (3, .int p2), (4, .int p3), (5, .int p4), (6, .ref (ad 71))]) [0, 1, 2, 3, 4, 5, 6] rfl ?_
  refine w_aload C 6 d_L_addJob_0 rfl ?_
  refine w_iconst (v := 0) C d_L_addJob_2 rfl ?_
  refine w_aload_n C 0 d_L_addJob_3 rfl rfl ?_
  refine w_iload_n C 1 d_L_addJob_4 rfl rfl ?_
  refine w_iload_n C 2 d_L_addJob_5 rfl rfl ?_
  refine w_iload_n C 3 d_L_addJob_6 rfl rfl ?_
  refine w_iload C 4 d_L_addJob_7 rfl ?_
  refine w_iload C 5 d_L_addJob_9 rfl ?_
  refine w_xcatTi C (w_runVX C (c_T_addJob hjc hj0 hl) (by omega) e_T rfl rfl m_473 m_474 m_475 m_36 m_476 ⟨rfl, rfl⟩ hd_T_addJob rfl ⟨Nat.le_of_ble_eq_true rfl, Nat.le_of_ble_eq_true rfl⟩ rfl (Nat.le_of_ble_eq_true rfl) d_L_addJob_11 ⟨Nat.le_of_ble_eq_true rfl, Nat.le_of_ble_eq_true rfl⟩) (fun E q9 h9 => ?_) (fun r9 u9 h9 => ?_)
  · skip
    rcases h9 with ⟨rfl, hx⟩ | ⟨rfl, hx⟩ | ⟨rfl, hx⟩
    · skip
      refine w_catch (name := xO) C ht9 (tableOf []) ⟨0, 16, 19, 13⟩ (tableOf [(0, 16, 23, 15), (0, 16, 27, 24)]) rfl (fun z hz => by cases hz) (by decide +kernel) (by decide) m_240 m_251 ?_
      refine w_astore (lv2 := [(7, .ref _), (0, .ref (ad 0)), (1, .int p0), (2, .int p1), (3, .int p2), (4, .int p3), (5, .int p4), (6, .ref (ad 71))]) C d_L_addJob_19 (by decide) rfl ?_
      refine w_iconst (v := 1) C d_L_addJob_21 rfl ?_
      refine w_widen (k2 := 6) (n2 := 36) (Nat.le_of_ble_eq_true rfl) (Nat.le_of_ble_eq_true rfl) ?_
      exact w_iretL C hr d_L_addJob_22 (Or.inr (Or.inl ⟨rfl, hx, rfl⟩))
    · skip
      refine w_catch (name := xA) C ht9 (tableOf [(0, 16, 19, 13)]) ⟨0, 16, 23, 15⟩ (tableOf [(0, 16, 27, 24)]) rfl (fun z hz => by
          simp only [tableOf, List.map, List.mem_cons, List.mem_nil_iff, or_false] at hz
          subst hz
          · exact ⟨by decide, xO, m_240, by decide +kernel⟩) (by decide +kernel) (by decide) m_241 m_322 ?_
      refine w_astore (lv2 := [(7, .ref _), (0, .ref (ad 0)), (1, .int p0), (2, .int p1), (3, .int p2), (4, .int p3), (5, .int p4), (6, .ref (ad 71))]) C d_L_addJob_23 (by decide) rfl ?_
      refine w_iconst (v := 2) C d_L_addJob_25 rfl ?_
      refine w_widen (k2 := 6) (n2 := 36) (Nat.le_of_ble_eq_true rfl) (Nat.le_of_ble_eq_true rfl) ?_
      exact w_iretL C hr d_L_addJob_26 (Or.inr (Or.inr (Or.inl ⟨rfl, hx, rfl⟩)))
    · skip
      refine w_catch (name := xS) C ht9 (tableOf [(0, 16, 19, 13), (0, 16, 23, 15)]) ⟨0, 16, 27, 24⟩ (tableOf []) rfl (fun z hz => by
          simp only [tableOf, List.map, List.mem_cons, List.mem_nil_iff, or_false] at hz
          rcases hz with rfl | rfl
          · exact ⟨by decide, xO, m_240, by decide +kernel⟩
          · exact ⟨by decide, xA, m_241, by decide +kernel⟩) (by decide +kernel) (by decide) m_356 m_368 ?_
      refine w_astore (lv2 := [(7, .ref _), (0, .ref (ad 0)), (1, .int p0), (2, .int p1), (3, .int p2), (4, .int p3), (5, .int p4), (6, .ref (ad 71))]) C d_L_addJob_27 (by decide) rfl ?_
      refine w_iconst (v := 3) C d_L_addJob_29 rfl ?_
      refine w_widen (k2 := 6) (n2 := 36) (Nat.le_of_ble_eq_true rfl) (Nat.le_of_ble_eq_true rfl) ?_
      exact w_iretL C hr d_L_addJob_30 (Or.inr (Or.inr (Or.inr ⟨rfl, hx, rfl⟩)))
  · skip
    refine w_i2l C d_L_addJob_14 ?_
    refine ls_O C rfl d_L_addJob_15 ?_
    refine w_goto C 31 d_L_addJob_16 (by decide) ?_
    refine w_iconst (v := 0) C d_L_addJob_31 rfl ?_
    refine w_widen (k2 := 6) (n2 := 36) (Nat.le_of_ble_eq_true rfl) (Nat.le_of_ble_eq_true rfl) ?_
    exact w_iretL C hr d_L_addJob_32 (Or.inl ⟨rfl, r9, u9, h9, rfl⟩)
set_option maxHeartbeats 4000000 in
set_option maxRecDepth 100000 in
theorem c_L_cancel {l : Launch} {D : va_G} {cs : Nat → ClassId} {ad : Nat → Nat} {st mt : Nat → Nat → Int32} {ov : Nat → Int64} {p0 : Int32} {jc : Nat} (hjc : jc ≤ 8) (hj0 : st 0 4 = nI jc) (hl : l.stackTraces = false) : gW l y_L_cancel b_L_cancel 4 (some .int) [(0, 9, 12, 13), (0, 9, 15, 24)] ({ frames := 8, cells := 2, slots := 12, locals := 143 } : Room) 2 12 [.ref (ad 0), .int p0, .ref (ad 71)] D cs ad st mt ov (QLi D cs ad mt (fun r u => (r = 0 ∧ ∃ (v : Int32) (s1 : St), (fun (r : Int32) (u : St) => ∃ j, j < jc ∧ p0 = nI j ∧ st (42 + j) 5 = 0 ∧ u = up2 st (42 + j) 5 2 ∧ r = bcI (opnJ u j)) v s1 ∧ u = (s1, vp_updL ov 0 v.toInt64)) ∨ (r = 1 ∧ (¬ inR p0 jc) ∧ u = (st, ov)) ∨ (r = 2 ∧ (∃ j, j < jc ∧ p0 = nI j ∧ ¬ st (42 + j) 5 = 0) ∧ u = (st, ov)))) := by
  refine gW_of (own := "TwinRegisterLaw") (by decide +kernel) rfl (Nat.le_of_ble_eq_true rfl) ?_
  intro p e s m args below meth c C hr ht9
  refine w_lv (lv2 := [(0, .ref (ad 0)), (1, .int p0), (2, .ref (ad 71))]) [0, 1, 2] rfl ?_
  refine w_aload_n C 2 d_L_cancel_0 rfl rfl ?_
  refine w_iconst (v := 0) C d_L_cancel_1 rfl ?_
  refine w_aload_n C 0 d_L_cancel_2 rfl rfl ?_
  refine w_iload_n C 1 d_L_cancel_3 rfl rfl ?_
  refine w_xcatTi C (w_runVX C (c_T_cancel hjc hj0 hl) (by omega) e_T rfl rfl m_481 m_482 m_483 m_36 m_484 ⟨rfl, rfl⟩ hd_T_cancel rfl ⟨Nat.le_of_ble_eq_true rfl, Nat.le_of_ble_eq_true rfl⟩ rfl (Nat.le_of_ble_eq_true rfl) d_L_cancel_4 ⟨Nat.le_of_ble_eq_true rfl, Nat.le_of_ble_eq_true rfl⟩) (fun E q9 h9 => ?_) (fun r9 u9 h9 => ?_)
  · skip
    rcases h9 with ⟨rfl, hx⟩ | ⟨rfl, hx⟩
    · skip
      refine w_catch (name := xO) C ht9 (tableOf []) ⟨0, 9, 12, 13⟩ (tableOf [(0, 9, 15, 24)]) rfl (fun z hz => by cases hz) (by decide +kernel) (by decide) m_240 m_251 ?_
      refine w_astore_n (lv2 := [(3, .ref _), (0, .ref (ad 0)), (1, .int p0), (2, .ref (ad 71))]) C d_L_cancel_12 rfl (by decide) rfl ?_
      refine w_iconst (v := 1) C d_L_cancel_13 rfl ?_
      refine w_widen (k2 := 2) (n2 := 12) (Nat.le_of_ble_eq_true rfl) (Nat.le_of_ble_eq_true rfl) ?_
      exact w_iretL C hr d_L_cancel_14 (Or.inr (Or.inl ⟨rfl, hx, rfl⟩))
    · skip
      refine w_catch (name := xS) C ht9 (tableOf [(0, 9, 12, 13)]) ⟨0, 9, 15, 24⟩ (tableOf []) rfl (fun z hz => by
          simp only [tableOf, List.map, List.mem_cons, List.mem_nil_iff, or_false] at hz
          subst hz
          · exact ⟨by decide, xO, m_240, by decide +kernel⟩) (by decide +kernel) (by decide) m_356 m_368 ?_
      refine w_astore_n (lv2 := [(3, .ref _), (0, .ref (ad 0)), (1, .int p0), (2, .ref (ad 71))]) C d_L_cancel_15 rfl (by decide) rfl ?_
      refine w_iconst (v := 2) C d_L_cancel_16 rfl ?_
      refine w_widen (k2 := 2) (n2 := 12) (Nat.le_of_ble_eq_true rfl) (Nat.le_of_ble_eq_true rfl) ?_
      exact w_iretL C hr d_L_cancel_17 (Or.inr (Or.inr ⟨rfl, hx, rfl⟩))
  · skip
    refine w_i2l C d_L_cancel_7 ?_
    refine ls_O C rfl d_L_cancel_8 ?_
    refine w_goto C 18 d_L_cancel_9 (by decide) ?_
    refine w_iconst (v := 0) C d_L_cancel_18 rfl ?_
    refine w_widen (k2 := 2) (n2 := 12) (Nat.le_of_ble_eq_true rfl) (Nat.le_of_ble_eq_true rfl) ?_
    exact w_iretL C hr d_L_cancel_19 (Or.inl ⟨rfl, r9, u9, h9, rfl⟩)
set_option maxHeartbeats 4000000 in
set_option maxRecDepth 100000 in
theorem c_L_version {l : Launch} {D : va_G} {cs : Nat → ClassId} {ad : Nat → Nat} {st mt : Nat → Nat → Int32} {ov : Nat → Int64} {p0 : Int32} (hl : l.stackTraces = false) : gW l y_L_version b_L_version 4 (some .int) [(0, 9, 12, 13)] ({ frames := 8, cells := 1, slots := 6, locals := 142 } : Room) 1 6 [.ref (ad 0), .int p0, .ref (ad 71)] D cs ad st mt ov (QLi D cs ad mt (fun r u => (r = 0 ∧ ∃ (v : Int32) (s1 : St), (fun (r : Int32) (u : St) => ∃ q, q < 8 ∧ p0 = nI q ∧ u = st ∧ r = st (4 + 4 * q) 4) v s1 ∧ u = (s1, vp_updL ov 0 v.toInt64)) ∨ (r = 1 ∧ (¬ inR p0 8) ∧ u = (st, ov)))) := by
  refine gW_of (own := "TwinRegisterLaw") (by decide +kernel) rfl (Nat.le_of_ble_eq_true rfl) ?_
  intro p e s m args below meth c C hr ht9
  refine w_lv (lv2 := [(0, .ref (ad 0)), (1, .int p0), (2, .ref (ad 71))]) [0, 1, 2] rfl ?_
  refine w_aload_n C 2 d_L_version_0 rfl rfl ?_
  refine w_iconst (v := 0) C d_L_version_1 rfl ?_
  refine w_aload_n C 0 d_L_version_2 rfl rfl ?_
  refine w_iload_n C 1 d_L_version_3 rfl rfl ?_
  refine w_xcatTi C (w_runVX C (c_T_version hl) (by omega) e_T rfl rfl m_494 m_495 m_496 m_36 m_497 ⟨rfl, rfl⟩ hd_T_version rfl ⟨Nat.le_of_ble_eq_true rfl, Nat.le_of_ble_eq_true rfl⟩ rfl (Nat.le_of_ble_eq_true rfl) d_L_version_4 ⟨Nat.le_of_ble_eq_true rfl, Nat.le_of_ble_eq_true rfl⟩) (fun E q9 h9 => ?_) (fun r9 u9 h9 => ?_)
  · skip
    obtain ⟨rfl, hx⟩ := h9
    refine w_catch (name := xO) C ht9 (tableOf []) ⟨0, 9, 12, 13⟩ (tableOf []) rfl (fun z hz => by cases hz) (by decide +kernel) (by decide) m_240 m_251 ?_
    refine w_astore_n (lv2 := [(3, .ref _), (0, .ref (ad 0)), (1, .int p0), (2, .ref (ad 71))]) C d_L_version_12 rfl (by decide) rfl ?_
    refine w_iconst (v := 1) C d_L_version_13 rfl ?_
    refine w_widen (k2 := 1) (n2 := 6) (Nat.le_of_ble_eq_true rfl) (Nat.le_of_ble_eq_true rfl) ?_
    exact w_iretL C hr d_L_version_14 (Or.inr ⟨rfl, hx, rfl⟩)
  · skip
    refine w_i2l C d_L_version_7 ?_
    refine ls_O C rfl d_L_version_8 ?_
    refine w_goto C 15 d_L_version_9 (by decide) ?_
    refine w_iconst (v := 0) C d_L_version_15 rfl ?_
    refine w_widen (k2 := 1) (n2 := 6) (Nat.le_of_ble_eq_true rfl) (Nat.le_of_ble_eq_true rfl) ?_
    exact w_iretL C hr d_L_version_16 (Or.inl ⟨rfl, r9, u9, h9, rfl⟩)
set_option maxHeartbeats 4000000 in
set_option maxRecDepth 100000 in
theorem c_L_heard {l : Launch} {D : va_G} {cs : Nat → ClassId} {ad : Nat → Nat} {st mt : Nat → Nat → Int32} {ov : Nat → Int64} {p0 : Int32} (hl : l.stackTraces = false) : gW l y_L_heard b_L_heard 4 (some .int) [(0, 9, 12, 13)] ({ frames := 8, cells := 1, slots := 6, locals := 142 } : Room) 1 6 [.ref (ad 0), .int p0, .ref (ad 71)] D cs ad st mt ov (QLi D cs ad mt (fun r u => (r = 0 ∧ ∃ (v : Int32) (s1 : St), (fun (r : Int32) (u : St) => ∃ q, q < 8 ∧ p0 = nI q ∧ u = st ∧ r = hearV st q) v s1 ∧ u = (s1, vp_updL ov 0 v.toInt64)) ∨ (r = 1 ∧ (¬ inR p0 8) ∧ u = (st, ov)))) := by
  refine gW_of (own := "TwinRegisterLaw") (by decide +kernel) rfl (Nat.le_of_ble_eq_true rfl) ?_
  intro p e s m args below meth c C hr ht9
  refine w_lv (lv2 := [(0, .ref (ad 0)), (1, .int p0), (2, .ref (ad 71))]) [0, 1, 2] rfl ?_
  refine w_aload_n C 2 d_L_heard_0 rfl rfl ?_
  refine w_iconst (v := 0) C d_L_heard_1 rfl ?_
  refine w_aload_n C 0 d_L_heard_2 rfl rfl ?_
  refine w_iload_n C 1 d_L_heard_3 rfl rfl ?_
  refine w_xcatTi C (w_runVX C (c_T_heard hl) (by omega) e_T rfl rfl m_501 m_502 m_503 m_36 m_504 ⟨rfl, rfl⟩ hd_T_heard rfl ⟨Nat.le_of_ble_eq_true rfl, Nat.le_of_ble_eq_true rfl⟩ rfl (Nat.le_of_ble_eq_true rfl) d_L_heard_4 ⟨Nat.le_of_ble_eq_true rfl, Nat.le_of_ble_eq_true rfl⟩) (fun E q9 h9 => ?_) (fun r9 u9 h9 => ?_)
  · skip
    obtain ⟨rfl, hx⟩ := h9
    refine w_catch (name := xO) C ht9 (tableOf []) ⟨0, 9, 12, 13⟩ (tableOf []) rfl (fun z hz => by cases hz) (by decide +kernel) (by decide) m_240 m_251 ?_
    refine w_astore_n (lv2 := [(3, .ref _), (0, .ref (ad 0)), (1, .int p0), (2, .ref (ad 71))]) C d_L_heard_12 rfl (by decide) rfl ?_
    refine w_iconst (v := 1) C d_L_heard_13 rfl ?_
    refine w_widen (k2 := 1) (n2 := 6) (Nat.le_of_ble_eq_true rfl) (Nat.le_of_ble_eq_true rfl) ?_
    exact w_iretL C hr d_L_heard_14 (Or.inr ⟨rfl, hx, rfl⟩)
  · skip
    refine w_i2l C d_L_heard_7 ?_
    refine ls_O C rfl d_L_heard_8 ?_
    refine w_goto C 15 d_L_heard_9 (by decide) ?_
    refine w_iconst (v := 0) C d_L_heard_15 rfl ?_
    refine w_widen (k2 := 1) (n2 := 6) (Nat.le_of_ble_eq_true rfl) (Nat.le_of_ble_eq_true rfl) ?_
    exact w_iretL C hr d_L_heard_16 (Or.inl ⟨rfl, r9, u9, h9, rfl⟩)
set_option maxHeartbeats 4000000 in
set_option maxRecDepth 100000 in
theorem c_L_wished {l : Launch} {D : va_G} {cs : Nat → ClassId} {ad : Nat → Nat} {st mt : Nat → Nat → Int32} {ov : Nat → Int64} {p0 p1 : Int32} (hl : l.stackTraces = false) : gW l y_L_wished b_L_wished 5 (some .int) [(0, 10, 13, 13)] ({ frames := 8, cells := 2, slots := 12, locals := 144 } : Room) 2 12 [.ref (ad 0), .int p0, .int p1, .ref (ad 71)] D cs ad st mt ov (QLi D cs ad mt (fun r u => (r = 0 ∧ ∃ (v : Int32) (s1 : St), (fun (r : Int32) (u : St) => ∃ q k, q < 8 ∧ k < 12 ∧ p0 = nI q ∧ p1 = nI k ∧ u = st ∧ r = st (4 + 4 * q + 1) k) v s1 ∧ u = (s1, vp_updL ov 0 v.toInt64)) ∨ (r = 1 ∧ ((¬ inR p0 8 ∨ ¬ inR p1 12)) ∧ u = (st, ov)))) := by
  refine gW_of (own := "TwinRegisterLaw") (by decide +kernel) rfl (Nat.le_of_ble_eq_true rfl) ?_
  intro p e s m args below meth c C hr ht9
  refine w_lv (lv2 := [(0, .ref (ad 0)), (1, .int p0), (2, .int p1), (3, .ref (ad 71))]) [0, 1, 2, 3] rfl ?_
  refine w_aload_n C 3 d_L_wished_0 rfl rfl ?_
  refine w_iconst (v := 0) C d_L_wished_1 rfl ?_
  refine w_aload_n C 0 d_L_wished_2 rfl rfl ?_
  refine w_iload_n C 1 d_L_wished_3 rfl rfl ?_
  refine w_iload_n C 2 d_L_wished_4 rfl rfl ?_
  refine w_xcatTi C (w_runVX C (c_T_wished hl) (by omega) e_T rfl rfl m_508 m_509 m_510 m_36 m_511 ⟨rfl, rfl⟩ hd_T_wished rfl ⟨Nat.le_of_ble_eq_true rfl, Nat.le_of_ble_eq_true rfl⟩ rfl (Nat.le_of_ble_eq_true rfl) d_L_wished_5 ⟨Nat.le_of_ble_eq_true rfl, Nat.le_of_ble_eq_true rfl⟩) (fun E q9 h9 => ?_) (fun r9 u9 h9 => ?_)
  · skip
    obtain ⟨rfl, hx⟩ := h9
    refine w_catch (name := xO) C ht9 (tableOf []) ⟨0, 10, 13, 13⟩ (tableOf []) rfl (fun z hz => by cases hz) (by decide +kernel) (by decide) m_240 m_251 ?_
    refine w_astore (lv2 := [(4, .ref _), (0, .ref (ad 0)), (1, .int p0), (2, .int p1), (3, .ref (ad 71))]) C d_L_wished_13 (by decide) rfl ?_
    refine w_iconst (v := 1) C d_L_wished_15 rfl ?_
    refine w_widen (k2 := 2) (n2 := 12) (Nat.le_of_ble_eq_true rfl) (Nat.le_of_ble_eq_true rfl) ?_
    exact w_iretL C hr d_L_wished_16 (Or.inr ⟨rfl, hx, rfl⟩)
  · skip
    refine w_i2l C d_L_wished_8 ?_
    refine ls_O C rfl d_L_wished_9 ?_
    refine w_goto C 17 d_L_wished_10 (by decide) ?_
    refine w_iconst (v := 0) C d_L_wished_17 rfl ?_
    refine w_widen (k2 := 2) (n2 := 12) (Nat.le_of_ble_eq_true rfl) (Nat.le_of_ble_eq_true rfl) ?_
    exact w_iretL C hr d_L_wished_18 (Or.inl ⟨rfl, r9, u9, h9, rfl⟩)
set_option maxHeartbeats 4000000 in
set_option maxRecDepth 100000 in
theorem c_L_reported {l : Launch} {D : va_G} {cs : Nat → ClassId} {ad : Nat → Nat} {st mt : Nat → Nat → Int32} {ov : Nat → Int64} {p0 p1 : Int32} (hl : l.stackTraces = false) : gW l y_L_reported b_L_reported 5 (some .int) [(0, 10, 13, 13)] ({ frames := 8, cells := 2, slots := 12, locals := 144 } : Room) 2 12 [.ref (ad 0), .int p0, .int p1, .ref (ad 71)] D cs ad st mt ov (QLi D cs ad mt (fun r u => (r = 0 ∧ ∃ (v : Int32) (s1 : St), (fun (r : Int32) (u : St) => ∃ q k, q < 8 ∧ k < 12 ∧ p0 = nI q ∧ p1 = nI k ∧ u = st ∧ r = st (4 + 4 * q + 2) k) v s1 ∧ u = (s1, vp_updL ov 0 v.toInt64)) ∨ (r = 1 ∧ ((¬ inR p0 8 ∨ ¬ inR p1 12)) ∧ u = (st, ov)))) := by
  refine gW_of (own := "TwinRegisterLaw") (by decide +kernel) rfl (Nat.le_of_ble_eq_true rfl) ?_
  intro p e s m args below meth c C hr ht9
  refine w_lv (lv2 := [(0, .ref (ad 0)), (1, .int p0), (2, .int p1), (3, .ref (ad 71))]) [0, 1, 2, 3] rfl ?_
  refine w_aload_n C 3 d_L_reported_0 rfl rfl ?_
  refine w_iconst (v := 0) C d_L_reported_1 rfl ?_
  refine w_aload_n C 0 d_L_reported_2 rfl rfl ?_
  refine w_iload_n C 1 d_L_reported_3 rfl rfl ?_
  refine w_iload_n C 2 d_L_reported_4 rfl rfl ?_
  refine w_xcatTi C (w_runVX C (c_T_reported hl) (by omega) e_T rfl rfl m_515 m_516 m_517 m_36 m_518 ⟨rfl, rfl⟩ hd_T_reported rfl ⟨Nat.le_of_ble_eq_true rfl, Nat.le_of_ble_eq_true rfl⟩ rfl (Nat.le_of_ble_eq_true rfl) d_L_reported_5 ⟨Nat.le_of_ble_eq_true rfl, Nat.le_of_ble_eq_true rfl⟩) (fun E q9 h9 => ?_) (fun r9 u9 h9 => ?_)
  · skip
    obtain ⟨rfl, hx⟩ := h9
    refine w_catch (name := xO) C ht9 (tableOf []) ⟨0, 10, 13, 13⟩ (tableOf []) rfl (fun z hz => by cases hz) (by decide +kernel) (by decide) m_240 m_251 ?_
    refine w_astore (lv2 := [(4, .ref _), (0, .ref (ad 0)), (1, .int p0), (2, .int p1), (3, .ref (ad 71))]) C d_L_reported_13 (by decide) rfl ?_
    refine w_iconst (v := 1) C d_L_reported_15 rfl ?_
    refine w_widen (k2 := 2) (n2 := 12) (Nat.le_of_ble_eq_true rfl) (Nat.le_of_ble_eq_true rfl) ?_
    exact w_iretL C hr d_L_reported_16 (Or.inr ⟨rfl, hx, rfl⟩)
  · skip
    refine w_i2l C d_L_reported_8 ?_
    refine ls_O C rfl d_L_reported_9 ?_
    refine w_goto C 17 d_L_reported_10 (by decide) ?_
    refine w_iconst (v := 0) C d_L_reported_17 rfl ?_
    refine w_widen (k2 := 2) (n2 := 12) (Nat.le_of_ble_eq_true rfl) (Nat.le_of_ble_eq_true rfl) ?_
    exact w_iretL C hr d_L_reported_18 (Or.inl ⟨rfl, r9, u9, h9, rfl⟩)
set_option maxHeartbeats 4000000 in
set_option maxRecDepth 100000 in
theorem c_L_why {l : Launch} {D : va_G} {cs : Nat → ClassId} {ad : Nat → Nat} {st mt : Nat → Nat → Int32} {ov : Nat → Int64} {p0 p1 : Int32} (hl : l.stackTraces = false) : gW l y_L_why b_L_why 5 (some .int) [(0, 10, 13, 13)] ({ frames := 8, cells := 2, slots := 12, locals := 144 } : Room) 2 12 [.ref (ad 0), .int p0, .int p1, .ref (ad 71)] D cs ad st mt ov (QLi D cs ad mt (fun r u => (r = 0 ∧ ∃ (v : Int32) (s1 : St), (fun (r : Int32) (u : St) => ∃ q k, q < 8 ∧ k < 12 ∧ p0 = nI q ∧ p1 = nI k ∧ u = st ∧ r = st (4 + 4 * q + 3) k) v s1 ∧ u = (s1, vp_updL ov 0 v.toInt64)) ∨ (r = 1 ∧ ((¬ inR p0 8 ∨ ¬ inR p1 12)) ∧ u = (st, ov)))) := by
  refine gW_of (own := "TwinRegisterLaw") (by decide +kernel) rfl (Nat.le_of_ble_eq_true rfl) ?_
  intro p e s m args below meth c C hr ht9
  refine w_lv (lv2 := [(0, .ref (ad 0)), (1, .int p0), (2, .int p1), (3, .ref (ad 71))]) [0, 1, 2, 3] rfl ?_
  refine w_aload_n C 3 d_L_why_0 rfl rfl ?_
  refine w_iconst (v := 0) C d_L_why_1 rfl ?_
  refine w_aload_n C 0 d_L_why_2 rfl rfl ?_
  refine w_iload_n C 1 d_L_why_3 rfl rfl ?_
  refine w_iload_n C 2 d_L_why_4 rfl rfl ?_
  refine w_xcatTi C (w_runVX C (c_T_why hl) (by omega) e_T rfl rfl m_522 m_523 m_524 m_36 m_525 ⟨rfl, rfl⟩ hd_T_why rfl ⟨Nat.le_of_ble_eq_true rfl, Nat.le_of_ble_eq_true rfl⟩ rfl (Nat.le_of_ble_eq_true rfl) d_L_why_5 ⟨Nat.le_of_ble_eq_true rfl, Nat.le_of_ble_eq_true rfl⟩) (fun E q9 h9 => ?_) (fun r9 u9 h9 => ?_)
  · skip
    obtain ⟨rfl, hx⟩ := h9
    refine w_catch (name := xO) C ht9 (tableOf []) ⟨0, 10, 13, 13⟩ (tableOf []) rfl (fun z hz => by cases hz) (by decide +kernel) (by decide) m_240 m_251 ?_
    refine w_astore (lv2 := [(4, .ref _), (0, .ref (ad 0)), (1, .int p0), (2, .int p1), (3, .ref (ad 71))]) C d_L_why_13 (by decide) rfl ?_
    refine w_iconst (v := 1) C d_L_why_15 rfl ?_
    refine w_widen (k2 := 2) (n2 := 12) (Nat.le_of_ble_eq_true rfl) (Nat.le_of_ble_eq_true rfl) ?_
    exact w_iretL C hr d_L_why_16 (Or.inr ⟨rfl, hx, rfl⟩)
  · skip
    refine w_i2l C d_L_why_8 ?_
    refine ls_O C rfl d_L_why_9 ?_
    refine w_goto C 17 d_L_why_10 (by decide) ?_
    refine w_iconst (v := 0) C d_L_why_17 rfl ?_
    refine w_widen (k2 := 2) (n2 := 12) (Nat.le_of_ble_eq_true rfl) (Nat.le_of_ble_eq_true rfl) ?_
    exact w_iretL C hr d_L_why_18 (Or.inl ⟨rfl, r9, u9, h9, rfl⟩)
set_option maxHeartbeats 4000000 in
set_option maxRecDepth 100000 in
theorem c_L_differences {l : Launch} {D : va_G} {cs : Nat → ClassId} {ad : Nat → Nat} {st mt : Nat → Nat → Int32} {ov : Nat → Int64} {p0 : Int32} (hl : l.stackTraces = false) : gW l y_L_differences b_L_differences 4 (some .int) [(0, 9, 12, 13)] ({ frames := 8, cells := 1, slots := 6, locals := 142 } : Room) 1 6 [.ref (ad 0), .int p0, .ref (ad 71)] D cs ad st mt ov (QLi D cs ad mt (fun r u => (r = 0 ∧ ∃ (v : Int32) (s1 : St), (fun (r : Int32) (u : St) => ∃ q, q < 8 ∧ p0 = nI q ∧ u = st ∧ r = st (4 + 4 * q) 3) v s1 ∧ u = (s1, vp_updL ov 0 v.toInt64)) ∨ (r = 1 ∧ (¬ inR p0 8) ∧ u = (st, ov)))) := by
  refine gW_of (own := "TwinRegisterLaw") (by decide +kernel) rfl (Nat.le_of_ble_eq_true rfl) ?_
  intro p e s m args below meth c C hr ht9
  refine w_lv (lv2 := [(0, .ref (ad 0)), (1, .int p0), (2, .ref (ad 71))]) [0, 1, 2] rfl ?_
  refine w_aload_n C 2 d_L_differences_0 rfl rfl ?_
  refine w_iconst (v := 0) C d_L_differences_1 rfl ?_
  refine w_aload_n C 0 d_L_differences_2 rfl rfl ?_
  refine w_iload_n C 1 d_L_differences_3 rfl rfl ?_
  refine w_xcatTi C (w_runVX C (c_T_differences hl) (by omega) e_T rfl rfl m_529 m_530 m_531 m_36 m_532 ⟨rfl, rfl⟩ hd_T_differences rfl ⟨Nat.le_of_ble_eq_true rfl, Nat.le_of_ble_eq_true rfl⟩ rfl (Nat.le_of_ble_eq_true rfl) d_L_differences_4 ⟨Nat.le_of_ble_eq_true rfl, Nat.le_of_ble_eq_true rfl⟩) (fun E q9 h9 => ?_) (fun r9 u9 h9 => ?_)
  · skip
    obtain ⟨rfl, hx⟩ := h9
    refine w_catch (name := xO) C ht9 (tableOf []) ⟨0, 9, 12, 13⟩ (tableOf []) rfl (fun z hz => by cases hz) (by decide +kernel) (by decide) m_240 m_251 ?_
    refine w_astore_n (lv2 := [(3, .ref _), (0, .ref (ad 0)), (1, .int p0), (2, .ref (ad 71))]) C d_L_differences_12 rfl (by decide) rfl ?_
    refine w_iconst (v := 1) C d_L_differences_13 rfl ?_
    refine w_widen (k2 := 1) (n2 := 6) (Nat.le_of_ble_eq_true rfl) (Nat.le_of_ble_eq_true rfl) ?_
    exact w_iretL C hr d_L_differences_14 (Or.inr ⟨rfl, hx, rfl⟩)
  · skip
    refine w_i2l C d_L_differences_7 ?_
    refine ls_O C rfl d_L_differences_8 ?_
    refine w_goto C 15 d_L_differences_9 (by decide) ?_
    refine w_iconst (v := 0) C d_L_differences_15 rfl ?_
    refine w_widen (k2 := 1) (n2 := 6) (Nat.le_of_ble_eq_true rfl) (Nat.le_of_ble_eq_true rfl) ?_
    exact w_iretL C hr d_L_differences_16 (Or.inl ⟨rfl, r9, u9, h9, rfl⟩)
set_option maxHeartbeats 4000000 in
set_option maxRecDepth 100000 in
theorem c_L_differencesAnew {l : Launch} {D : va_G} {cs : Nat → ClassId} {ad : Nat → Nat} {st mt : Nat → Nat → Int32} {ov : Nat → Int64} {p0 : Int32} (hl : l.stackTraces = false) : gW l y_L_differencesAnew b_L_differencesAnew 4 (some .int) [(0, 9, 12, 13)] ({ frames := 8, cells := 1, slots := 6, locals := 145 } : Room) 1 6 [.ref (ad 0), .int p0, .ref (ad 71)] D cs ad st mt ov (QLi D cs ad mt (fun r u => (r = 0 ∧ ∃ (v : Int32) (s1 : St), (fun (r : Int32) (u : St) => ∃ q, q < 8 ∧ p0 = nI q ∧ u = st ∧ r = dfaF st q 12) v s1 ∧ u = (s1, vp_updL ov 0 v.toInt64)) ∨ (r = 1 ∧ (¬ inR p0 8) ∧ u = (st, ov)))) := by
  refine gW_of (own := "TwinRegisterLaw") (by decide +kernel) rfl (Nat.le_of_ble_eq_true rfl) ?_
  intro p e s m args below meth c C hr ht9
  refine w_lv (lv2 := [(0, .ref (ad 0)), (1, .int p0), (2, .ref (ad 71))]) [0, 1, 2] rfl ?_
  refine w_aload_n C 2 d_L_differencesAnew_0 rfl rfl ?_
  refine w_iconst (v := 0) C d_L_differencesAnew_1 rfl ?_
  refine w_aload_n C 0 d_L_differencesAnew_2 rfl rfl ?_
  refine w_iload_n C 1 d_L_differencesAnew_3 rfl rfl ?_
  refine w_xcatTi C (w_runVX C (c_T_differencesAnew hl) (by omega) e_T rfl rfl m_536 m_537 m_538 m_36 m_539 ⟨rfl, rfl⟩ hd_T_differencesAnew rfl ⟨Nat.le_of_ble_eq_true rfl, Nat.le_of_ble_eq_true rfl⟩ rfl (Nat.le_of_ble_eq_true rfl) d_L_differencesAnew_4 ⟨Nat.le_of_ble_eq_true rfl, Nat.le_of_ble_eq_true rfl⟩) (fun E q9 h9 => ?_) (fun r9 u9 h9 => ?_)
  · skip
    obtain ⟨rfl, hx⟩ := h9
    refine w_catch (name := xO) C ht9 (tableOf []) ⟨0, 9, 12, 13⟩ (tableOf []) rfl (fun z hz => by cases hz) (by decide +kernel) (by decide) m_240 m_251 ?_
    refine w_astore_n (lv2 := [(3, .ref _), (0, .ref (ad 0)), (1, .int p0), (2, .ref (ad 71))]) C d_L_differencesAnew_12 rfl (by decide) rfl ?_
    refine w_iconst (v := 1) C d_L_differencesAnew_13 rfl ?_
    refine w_widen (k2 := 1) (n2 := 6) (Nat.le_of_ble_eq_true rfl) (Nat.le_of_ble_eq_true rfl) ?_
    exact w_iretL C hr d_L_differencesAnew_14 (Or.inr ⟨rfl, hx, rfl⟩)
  · skip
    refine w_i2l C d_L_differencesAnew_7 ?_
    refine ls_O C rfl d_L_differencesAnew_8 ?_
    refine w_goto C 15 d_L_differencesAnew_9 (by decide) ?_
    refine w_iconst (v := 0) C d_L_differencesAnew_15 rfl ?_
    refine w_widen (k2 := 1) (n2 := 6) (Nat.le_of_ble_eq_true rfl) (Nat.le_of_ble_eq_true rfl) ?_
    exact w_iretL C hr d_L_differencesAnew_16 (Or.inl ⟨rfl, r9, u9, h9, rfl⟩)
set_option maxHeartbeats 4000000 in
set_option maxRecDepth 100000 in
theorem c_L_members {l : Launch} {D : va_G} {cs : Nat → ClassId} {ad : Nat → Nat} {st mt : Nat → Nat → Int32} {ov : Nat → Int64} {p0 : Int32} (hs : okS st) (hl : l.stackTraces = false) : gW l y_L_members b_L_members 4 (some .int) [(0, 9, 12, 13)] ({ frames := 9, cells := 1, slots := 6, locals := 162 } : Room) 1 6 [.ref (ad 0), .int p0, .ref (ad 71)] D cs ad st mt ov (QLi D cs ad mt (fun r u => (r = 0 ∧ ∃ (v : Int32) (s1 : St), (fun (r : Int32) (u : St) => ∃ g, g < 4 ∧ p0 = nI g ∧ u = st ∧ r = memF st g (tn (st (37 + g) 0)) 8) v s1 ∧ u = (s1, vp_updL ov 0 v.toInt64)) ∨ (r = 1 ∧ (¬ inR p0 4) ∧ u = (st, ov)))) := by
  refine gW_of (own := "TwinRegisterLaw") (by decide +kernel) rfl (Nat.le_of_ble_eq_true rfl) ?_
  intro p e s m args below meth c C hr ht9
  refine w_lv (lv2 := [(0, .ref (ad 0)), (1, .int p0), (2, .ref (ad 71))]) [0, 1, 2] rfl ?_
  refine w_aload_n C 2 d_L_members_0 rfl rfl ?_
  refine w_iconst (v := 0) C d_L_members_1 rfl ?_
  refine w_aload_n C 0 d_L_members_2 rfl rfl ?_
  refine w_iload_n C 1 d_L_members_3 rfl rfl ?_
  refine w_xcatTi C (w_runVX C (c_T_members hs hl) (by omega) e_T rfl rfl m_544 m_545 m_546 m_36 m_547 ⟨rfl, rfl⟩ hd_T_members rfl ⟨Nat.le_of_ble_eq_true rfl, Nat.le_of_ble_eq_true rfl⟩ rfl (Nat.le_of_ble_eq_true rfl) d_L_members_4 ⟨Nat.le_of_ble_eq_true rfl, Nat.le_of_ble_eq_true rfl⟩) (fun E q9 h9 => ?_) (fun r9 u9 h9 => ?_)
  · skip
    obtain ⟨rfl, hx⟩ := h9
    refine w_catch (name := xO) C ht9 (tableOf []) ⟨0, 9, 12, 13⟩ (tableOf []) rfl (fun z hz => by cases hz) (by decide +kernel) (by decide) m_240 m_251 ?_
    refine w_astore_n (lv2 := [(3, .ref _), (0, .ref (ad 0)), (1, .int p0), (2, .ref (ad 71))]) C d_L_members_12 rfl (by decide) rfl ?_
    refine w_iconst (v := 1) C d_L_members_13 rfl ?_
    refine w_widen (k2 := 1) (n2 := 6) (Nat.le_of_ble_eq_true rfl) (Nat.le_of_ble_eq_true rfl) ?_
    exact w_iretL C hr d_L_members_14 (Or.inr ⟨rfl, hx, rfl⟩)
  · skip
    refine w_i2l C d_L_members_7 ?_
    refine ls_O C rfl d_L_members_8 ?_
    refine w_goto C 15 d_L_members_9 (by decide) ?_
    refine w_iconst (v := 0) C d_L_members_15 rfl ?_
    refine w_widen (k2 := 1) (n2 := 6) (Nat.le_of_ble_eq_true rfl) (Nat.le_of_ble_eq_true rfl) ?_
    exact w_iretL C hr d_L_members_16 (Or.inl ⟨rfl, r9, u9, h9, rfl⟩)
set_option maxHeartbeats 4000000 in
set_option maxRecDepth 100000 in
theorem c_L_state {l : Launch} {D : va_G} {cs : Nat → ClassId} {ad : Nat → Nat} {st mt : Nat → Nat → Int32} {ov : Nat → Int64} {p0 : Int32} {jc : Nat} (hjc : jc ≤ 8) (hj0 : st 0 4 = nI jc) (hl : l.stackTraces = false) : gW l y_L_state b_L_state 4 (some .int) [(0, 9, 12, 13)] ({ frames := 8, cells := 1, slots := 6, locals := 142 } : Room) 1 6 [.ref (ad 0), .int p0, .ref (ad 71)] D cs ad st mt ov (QLi D cs ad mt (fun r u => (r = 0 ∧ ∃ (v : Int32) (s1 : St), (fun (r : Int32) (u : St) => ∃ j, j < jc ∧ p0 = nI j ∧ u = st ∧ r = st (42 + j) 5) v s1 ∧ u = (s1, vp_updL ov 0 v.toInt64)) ∨ (r = 1 ∧ (¬ inR p0 jc) ∧ u = (st, ov)))) := by
  refine gW_of (own := "TwinRegisterLaw") (by decide +kernel) rfl (Nat.le_of_ble_eq_true rfl) ?_
  intro p e s m args below meth c C hr ht9
  refine w_lv (lv2 := [(0, .ref (ad 0)), (1, .int p0), (2, .ref (ad 71))]) [0, 1, 2] rfl ?_
  refine w_aload_n C 2 d_L_state_0 rfl rfl ?_
  refine w_iconst (v := 0) C d_L_state_1 rfl ?_
  refine w_aload_n C 0 d_L_state_2 rfl rfl ?_
  refine w_iload_n C 1 d_L_state_3 rfl rfl ?_
  refine w_xcatTi C (w_runVX C (c_T_state hjc hj0 hl) (by omega) e_T rfl rfl m_551 m_552 m_553 m_36 m_554 ⟨rfl, rfl⟩ hd_T_state rfl ⟨Nat.le_of_ble_eq_true rfl, Nat.le_of_ble_eq_true rfl⟩ rfl (Nat.le_of_ble_eq_true rfl) d_L_state_4 ⟨Nat.le_of_ble_eq_true rfl, Nat.le_of_ble_eq_true rfl⟩) (fun E q9 h9 => ?_) (fun r9 u9 h9 => ?_)
  · skip
    obtain ⟨rfl, hx⟩ := h9
    refine w_catch (name := xO) C ht9 (tableOf []) ⟨0, 9, 12, 13⟩ (tableOf []) rfl (fun z hz => by cases hz) (by decide +kernel) (by decide) m_240 m_251 ?_
    refine w_astore_n (lv2 := [(3, .ref _), (0, .ref (ad 0)), (1, .int p0), (2, .ref (ad 71))]) C d_L_state_12 rfl (by decide) rfl ?_
    refine w_iconst (v := 1) C d_L_state_13 rfl ?_
    refine w_widen (k2 := 1) (n2 := 6) (Nat.le_of_ble_eq_true rfl) (Nat.le_of_ble_eq_true rfl) ?_
    exact w_iretL C hr d_L_state_14 (Or.inr ⟨rfl, hx, rfl⟩)
  · skip
    refine w_i2l C d_L_state_7 ?_
    refine ls_O C rfl d_L_state_8 ?_
    refine w_goto C 15 d_L_state_9 (by decide) ?_
    refine w_iconst (v := 0) C d_L_state_15 rfl ?_
    refine w_widen (k2 := 1) (n2 := 6) (Nat.le_of_ble_eq_true rfl) (Nat.le_of_ble_eq_true rfl) ?_
    exact w_iretL C hr d_L_state_16 (Or.inl ⟨rfl, r9, u9, h9, rfl⟩)
set_option maxHeartbeats 4000000 in
set_option maxRecDepth 100000 in
theorem c_L_devices {l : Launch} {D : va_G} {cs : Nat → ClassId} {ad : Nat → Nat} {st mt : Nat → Nat → Int32} {ov : Nat → Int64} {p0 p1 : Int32} {jc : Nat} (hjc : jc ≤ 8) (hj0 : st 0 4 = nI jc) (hl : l.stackTraces = false) : gW l y_L_devices b_L_devices 5 (some .int) [(0, 10, 13, 13), (0, 10, 17, 15)] ({ frames := 8, cells := 2, slots := 12, locals := 145 } : Room) 2 12 [.ref (ad 0), .int p0, .int p1, .ref (ad 71)] D cs ad st mt ov (QLi D cs ad mt (fun r u => (r = 0 ∧ ∃ (v : Int32) (s1 : St), (fun (r : Int32) (u : St) => ∃ j, j < jc ∧ p0 = nI j ∧ rng p1 0 2 ∧ u = st ∧ r = (if p1 = 0 then st (42 + j) 6 else if p1 = 1 then st (42 + j) 7 else st (42 + j) 8)) v s1 ∧ u = (s1, vp_updL ov 0 v.toInt64)) ∨ (r = 1 ∧ (¬ inR p0 jc) ∧ u = (st, ov)) ∨ (r = 2 ∧ (inR p0 jc ∧ ¬ rng p1 0 2) ∧ u = (st, ov)))) := by
  refine gW_of (own := "TwinRegisterLaw") (by decide +kernel) rfl (Nat.le_of_ble_eq_true rfl) ?_
  intro p e s m args below meth c C hr ht9
  refine w_lv (lv2 := [(0, .ref (ad 0)), (1, .int p0), (2, .int p1), (3, .ref (ad 71))]) [0, 1, 2, 3] rfl ?_
  refine w_aload_n C 3 d_L_devices_0 rfl rfl ?_
  refine w_iconst (v := 0) C d_L_devices_1 rfl ?_
  refine w_aload_n C 0 d_L_devices_2 rfl rfl ?_
  refine w_iload_n C 1 d_L_devices_3 rfl rfl ?_
  refine w_iload_n C 2 d_L_devices_4 rfl rfl ?_
  refine w_xcatTi C (w_runVX C (c_T_devices hjc hj0 hl) (by omega) e_T rfl rfl m_558 m_559 m_560 m_36 m_561 ⟨rfl, rfl⟩ hd_T_devices rfl ⟨Nat.le_of_ble_eq_true rfl, Nat.le_of_ble_eq_true rfl⟩ rfl (Nat.le_of_ble_eq_true rfl) d_L_devices_5 ⟨Nat.le_of_ble_eq_true rfl, Nat.le_of_ble_eq_true rfl⟩) (fun E q9 h9 => ?_) (fun r9 u9 h9 => ?_)
  · skip
    rcases h9 with ⟨rfl, hx⟩ | ⟨rfl, hx⟩
    · skip
      refine w_catch (name := xO) C ht9 (tableOf []) ⟨0, 10, 13, 13⟩ (tableOf [(0, 10, 17, 15)]) rfl (fun z hz => by cases hz) (by decide +kernel) (by decide) m_240 m_251 ?_
      refine w_astore (lv2 := [(4, .ref _), (0, .ref (ad 0)), (1, .int p0), (2, .int p1), (3, .ref (ad 71))]) C d_L_devices_13 (by decide) rfl ?_
      refine w_iconst (v := 1) C d_L_devices_15 rfl ?_
      refine w_widen (k2 := 2) (n2 := 12) (Nat.le_of_ble_eq_true rfl) (Nat.le_of_ble_eq_true rfl) ?_
      exact w_iretL C hr d_L_devices_16 (Or.inr (Or.inl ⟨rfl, hx, rfl⟩))
    · skip
      refine w_catch (name := xA) C ht9 (tableOf [(0, 10, 13, 13)]) ⟨0, 10, 17, 15⟩ (tableOf []) rfl (fun z hz => by
          simp only [tableOf, List.map, List.mem_cons, List.mem_nil_iff, or_false] at hz
          subst hz
          · exact ⟨by decide, xO, m_240, by decide +kernel⟩) (by decide +kernel) (by decide) m_241 m_322 ?_
      refine w_astore (lv2 := [(4, .ref _), (0, .ref (ad 0)), (1, .int p0), (2, .int p1), (3, .ref (ad 71))]) C d_L_devices_17 (by decide) rfl ?_
      refine w_iconst (v := 2) C d_L_devices_19 rfl ?_
      refine w_widen (k2 := 2) (n2 := 12) (Nat.le_of_ble_eq_true rfl) (Nat.le_of_ble_eq_true rfl) ?_
      exact w_iretL C hr d_L_devices_20 (Or.inr (Or.inr ⟨rfl, hx, rfl⟩))
  · skip
    refine w_i2l C d_L_devices_8 ?_
    refine ls_O C rfl d_L_devices_9 ?_
    refine w_goto C 21 d_L_devices_10 (by decide) ?_
    refine w_iconst (v := 0) C d_L_devices_21 rfl ?_
    refine w_widen (k2 := 2) (n2 := 12) (Nat.le_of_ble_eq_true rfl) (Nat.le_of_ble_eq_true rfl) ?_
    exact w_iretL C hr d_L_devices_22 (Or.inl ⟨rfl, r9, u9, h9, rfl⟩)
