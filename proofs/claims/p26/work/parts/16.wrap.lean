section CATCH
variable {p : Program} {l : Launch} {e : Env} {R : Room} {s : State} {m : MethodId} {args : Array Value} {below : List Frame} {meth : Method} {c : Code} {Q : State → Prop} {D : va_G} {cs : Nat → ClassId} {ad : Nat → Nat} {A : Nat → Prop} {nL : Nat} {cc : ByteArray} {own : String} {cells slots : Nat} {pc : Nat} {lv : List (Nat × Value)} {stk : List Value} {st mt : Nat → Nat → Int32} {ov : Nat → Int64}
variable {mc ms : Nat} {rest : List Value}
/-- q is thrown over the frame at pc, of the class E, the memories as they are -/
def Vg (p : Program) (l : Launch) (e : Env) (R : Room) (s : State) (m : MethodId) (args : Array Value) (below : List Frame) (meth : Method) (c : Code) (Q : State → Prop) (D : va_G) (cs : Nat → ClassId) (ad : Nat → Nat) (A : Nat → Prop) (nL : Nat) (cells slots : Nat) (pc : Nat) (lv : List (Nat × Value)) (stk : List Value) (st mt : Nat → Nat → Int32) (ov : Nat → Int64) (E : String) (q : Nat) : Prop :=
  ∀ (H : Heap) (locs : List Loc) (ls : Array Slot) (ce : Cell), va_P D gcl (iw ad 60 (gE ad cs st mt ov)) H → va_S A s.heap H locs → lv_has ls nL lv → H[q]? = some ce → ce.vm = .none → s.vm.findClass E = some ce.cls → vx_W p l e R s m args below meth c H locs cells slots Q (F0 m pc ls stk) q
theorem w_xcatTi (C : Cx p s m args meth c D cs ad A cc nL own) {post : Int32 → (Nat → Nat → Int32) → Prop} {okx : String → Prop} {a : Array Value} (r : RnX p l e R s m args below meth c D cs ad A cells slots mc ms pc stk rest st mt ov (fun sz => QTi D cs ad mt ov post sz a) okx) (kx : ∀ (E : String) (q : Nat), okx E → Vg p l e R s m args below meth c Q D cs ad A nL (cells + mc) (slots + ms) pc lv rest st mt ov E q) (k : ∀ (r : Int32) (u : Nat → Nat → Int32), post r u → Wg p l e R s m args below meth c Q D cs ad A nL (cells + mc) (slots + ms) (pc + 3) lv (.int r :: rest) u mt ov) : Wg p l e R s m args below meth c Q D cs ad A nL cells slots pc lv stk st mt ov := by
  intro H locs ls hP hS hl
  refine vx_calli (r H locs ls hP hS (hl.1.trans C.2.2.1.symm)) hS (fun q _ h => cx_A C hS q h) (cx_A C hS) (fun q _ h => cx_A C hS q h) (fun E ce q9 u t H1 locs1 ht hvm hok hB hz hk hS1 hce hcv hcl => ?_) (fun r u t H1 locs1 ht _ hq hB _ _ hS1 => k r u hq H1 locs1 ls (by rw [← ht]; exact hB) hS1 hl)
  obtain ⟨rfl, hB⟩ := hB
  exact kx E q9 hok H1 locs1 ls ce (by rw [← ht]; exact hB) hS1 hl hce hcv hcl
theorem w_catch (C : Cx p s m args meth c D cs ad A cc nL own) {E name : String} {q : Nat} {hh : List (Nat × Nat × Nat × Nat)} (ht : c.exceptionTable.toList = tableOf hh) (pre : List ExceptionTableEntry) (x : ExceptionTableEntry) (suf : List ExceptionTableEntry) (hsplit : tableOf hh = pre ++ x :: suf) (hpass : ∀ z ∈ pre, z.catchType ≠ 0 ∧ ∃ nm : String, Cond.classLink own z.catchType nm ∈ ag_all ∧ (E, nm) ∈ ax_ncs) (hx : covers x pc = true) (h0 : x.catchType ≠ 0) (hlink : Cond.classLink own x.catchType name ∈ ag_all) (hcast : Cond.castable E name ∈ ax_all) (k : Wg p l e R s m args below meth c Q D cs ad A nL cells slots x.handlerPc lv ([.ref q]) st mt ov) : Vg p l e R s m args below meth c Q D cs ad A nL cells slots pc lv stk st mt ov E q := by
  intro H locs ls ce hP hS hl hce hcv hcl
  have hts := C.2.2.2.2.1
  refine vx_catch C.2.2.2.1 pre x suf (ht.trans hsplit) (fun z hz => ?_) hx h0 (hts _ hlink) (va_Nw.use rfl (C.2.2.2.2.2.1.1 _ hcast)) hce hcv hcl (k H locs ls hP hS hl)
  obtain ⟨h1, nm, h2, h3⟩ := hpass z hz
  exact Or.inr ⟨h1, nm, hts _ h2, C.2.2.2.2.2.1.2.2.1 _ h3⟩
end CATCH
theorem sleep_1 {st u : St} {p0 r : Int32} (h : ∃ q, q < 8 ∧ p0 = nI q ∧ ((st (4 + 4 * q) 7 = 0 ∧ r = 1 ∧ u = up2 (up2 st (4 + 4 * q) 7 1) (4 + 4 * q) 5 (up2 st (4 + 4 * q) 7 1 (4 + 4 * q) 4)) ∨ (¬ st (4 + 4 * q) 7 = 0 ∧ r = 0 ∧ u = st))) (h2 : ¬ r = 0) : ∃ q, q < 8 ∧ p0 = nI q ∧ ((st (4 + 4 * q) 7 = 0 ∧ (1 : Int32) = 1 ∧ u = up2 (up2 st (4 + 4 * q) 7 1) (4 + 4 * q) 5 (up2 st (4 + 4 * q) 7 1 (4 + 4 * q) 4)) ∨ (¬ st (4 + 4 * q) 7 = 0 ∧ (1 : Int32) = 0 ∧ u = st)) := by
  obtain ⟨q, hq, e, h | h⟩ := h
  · exact ⟨q, hq, e, Or.inl ⟨h.1, rfl, h.2.2⟩⟩
  · exact absurd h.2.1 h2
/-- what the law's own put answers -/
def V_put (st : St) (p0 : Int32) (p1 : Int32) (r : Int32) (u : St) : Prop := ((fun (r : Int32) (u : St) => ∃ k, k < 12 ∧ p0 = nI k ∧ okV p1 ∧ u = asgF st k p1 ∧ r = bcI (u 1 1)) r u) ∨ (r = -71 ∧ (¬ inR p0 12) ∧ u = st) ∨ (r = -72 ∧ (inR p0 12 ∧ ¬ okV p1) ∧ u = st)
/-- what the law's own drop answers -/
def V_drop (st : St) (p0 : Int32) (r : Int32) (u : St) : Prop := ((fun (r : Int32) (u : St) => ∃ k, k < 3 ∧ p0 = nI k ∧ u = drpF st k 4 ∧ r = bcI (u 1 1)) r u) ∨ (r = -71 ∧ (¬ inR p0 3) ∧ u = st)
/-- what the law's own wish answers -/
def V_wish (st : St) (p0 : Int32) (p1 : Int32) (r : Int32) (u : St) : Prop := ((fun (r : Int32) (u : St) => ∃ q, q < 8 ∧ p0 = nI q ∧ ¬ bcI (st 1 1) = 0 ∧ (p1 = -1 ∨ p1 = st (4 + 4 * q) 4) ∧ u = empF (bmpV (merW st q 12) q) ∧ r = u (4 + 4 * q) 4) r u) ∨ (r = -71 ∧ (¬ inR p0 8) ∧ u = st) ∨ (r = -73 ∧ (∃ q, q < 8 ∧ p0 = nI q ∧ (bcI (st 1 1) = 0 ∨ (¬ p1 = -1 ∧ ¬ p1 = st (4 + 4 * q) 4))) ∧ u = st)
/-- what the law's own report answers -/
def V_report (st : St) (p0 : Int32) (p1 : Int32) (r : Int32) (u : St) : Prop := ((fun (r : Int32) (u : St) => ∃ q, q < 8 ∧ p0 = nI q ∧ rng p1 1 (st (4 + 4 * q) 6 + 1) ∧ st (4 + 4 * q) 7 = 0 ∧ ((¬ st (4 + 4 * q) 6 < p1 ∧ u = empF st ∧ r = -1) ∨ (st (4 + 4 * q) 6 < p1 ∧ u = empF (up2 (merR st q 12) (4 + 4 * q) 6 p1) ∧ r = bcI (u (4 + 4 * q) 3)))) r u) ∨ (r = -71 ∧ (¬ inR p0 8) ∧ u = st) ∨ (r = -72 ∧ (∃ q, q < 8 ∧ p0 = nI q ∧ ¬ rng p1 1 (st (4 + 4 * q) 6 + 1)) ∧ u = st) ∨ (r = -73 ∧ (∃ q, q < 8 ∧ p0 = nI q ∧ rng p1 1 (st (4 + 4 * q) 6 + 1) ∧ ¬ st (4 + 4 * q) 7 = 0) ∧ u = st)
/-- what the law's own obey answers -/
def V_obey (st : St) (p0 : Int32) (r : Int32) (u : St) : Prop := ((fun (r : Int32) (u : St) => ∃ q, q < 8 ∧ p0 = nI q ∧ st (4 + 4 * q) 7 = 0 ∧ u = up2 (obyF st q 12).1 (4 + 4 * q) 6 ((obyF st q 12).1 (4 + 4 * q) 6 + 1) ∧ r = (obyF st q 12).2) r u) ∨ (r = -71 ∧ (¬ inR p0 8) ∧ u = st) ∨ (r = -73 ∧ (∃ q, q < 8 ∧ p0 = nI q ∧ ¬ st (4 + 4 * q) 7 = 0) ∧ u = st)
/-- what the law's own refuse answers -/
def V_refuse (st : St) (p0 : Int32) (p1 : Int32) (p2 : Int32) (r : Int32) (u : St) : Prop := ((fun (r : Int32) (u : St) => ∃ q k, q < 8 ∧ k < 12 ∧ p0 = nI q ∧ p1 = nI k ∧ rng p2 1 9 ∧ st (4 + 4 * q) 7 = 0 ∧ difA st q k = true ∧ u = takeF st q k p2 ∧ r = bcI (u (4 + 4 * q) 3)) r u) ∨ (r = -71 ∧ ((¬ inR p0 8 ∨ ¬ inR p1 12)) ∧ u = st) ∨ (r = -72 ∧ (inR p0 8 ∧ inR p1 12 ∧ ¬ rng p2 1 9) ∧ u = st) ∨ (r = -73 ∧ (∃ q k, q < 8 ∧ k < 12 ∧ p0 = nI q ∧ p1 = nI k ∧ rng p2 1 9 ∧ (¬ st (4 + 4 * q) 7 = 0 ∨ difA st q k = false)) ∧ u = st)
/-- what the law's own sleep answers -/
def V_sleep (st : St) (p0 : Int32) (r : Int32) (u : St) : Prop := ((fun (r : Int32) (u : St) => ∃ q, q < 8 ∧ p0 = nI q ∧ ((st (4 + 4 * q) 7 = 0 ∧ r = 1 ∧ u = up2 (up2 st (4 + 4 * q) 7 1) (4 + 4 * q) 5 (up2 st (4 + 4 * q) 7 1 (4 + 4 * q) 4)) ∨ (¬ st (4 + 4 * q) 7 = 0 ∧ r = 0 ∧ u = st))) r u) ∨ (r = -71 ∧ (¬ inR p0 8) ∧ u = st)
/-- what the law's own wake answers -/
def V_wake (st : St) (p0 : Int32) (r : Int32) (u : St) : Prop := ((fun (r : Int32) (u : St) => ∃ q, q < 8 ∧ p0 = nI q ∧ u = up2 st (4 + 4 * q) 7 0 ∧ r = st (4 + 4 * q) 4 - hearV st q) r u) ∨ (r = -71 ∧ (¬ inR p0 8) ∧ u = st)
/-- what the law's own setGroup answers -/
def V_setGroup (st : St) (p0 : Int32) (p1 : Int32) (p2 : Int32) (p3 : Int32) (r : Int32) (u : St) : Prop := ((fun (r : Int32) (u : St) => ∃ g k, g < 4 ∧ k < 12 ∧ p0 = nI g ∧ p1 = nI k ∧ rng p2 0 99 ∧ rng p3 p2 99 ∧ u = setF st g (nI k) p2 p3 ∧ r = bcI (memF u g k 8)) r u) ∨ (r = -71 ∧ ((¬ inR p0 4 ∨ ¬ inR p1 12)) ∧ u = st) ∨ (r = -72 ∧ (inR p0 4 ∧ inR p1 12 ∧ ¬ (rng p2 0 99 ∧ rng p3 p2 99)) ∧ u = st)
/-- what the law's own addJob answers -/
def V_addJob (st : St) (jc : Nat) (p0 : Int32) (p1 : Int32) (p2 : Int32) (p3 : Int32) (p4 : Int32) (r : Int32) (u : St) : Prop := ((fun (r : Int32) (u : St) => ∃ g k, g < 4 ∧ k < 12 ∧ jc < 8 ∧ p0 = nI g ∧ p1 = nI k ∧ goodJ p2 p3 p4 ∧ u = incJ (adjF st jc (nI g) (nI k) p2 p3 p4) ∧ r = u 0 4 - 1) r u) ∨ (r = -71 ∧ ((¬ inR p0 4 ∨ ¬ inR p1 12)) ∧ u = st) ∨ (r = -72 ∧ (inR p0 4 ∧ inR p1 12 ∧ ¬ goodJ p2 p3 p4) ∧ u = st) ∨ (r = -73 ∧ (inR p0 4 ∧ inR p1 12 ∧ goodJ p2 p3 p4 ∧ jc = 8) ∧ u = st)
/-- what the law's own cancel answers -/
def V_cancel (st : St) (jc : Nat) (p0 : Int32) (r : Int32) (u : St) : Prop := ((fun (r : Int32) (u : St) => ∃ j, j < jc ∧ p0 = nI j ∧ st (42 + j) 5 = 0 ∧ u = up2 st (42 + j) 5 2 ∧ r = bcI (opnJ u j)) r u) ∨ (r = -71 ∧ (¬ inR p0 jc) ∧ u = st) ∨ (r = -73 ∧ (∃ j, j < jc ∧ p0 = nI j ∧ ¬ st (42 + j) 5 = 0) ∧ u = st)
/-- what the law's own version answers -/
def V_version (st : St) (p0 : Int32) (r : Int32) (u : St) : Prop := ((fun (r : Int32) (u : St) => ∃ q, q < 8 ∧ p0 = nI q ∧ u = st ∧ r = st (4 + 4 * q) 4) r u) ∨ (r = -71 ∧ (¬ inR p0 8) ∧ u = st)
/-- what the law's own wished answers -/
def V_wished (st : St) (p0 : Int32) (p1 : Int32) (r : Int32) (u : St) : Prop := ((fun (r : Int32) (u : St) => ∃ q k, q < 8 ∧ k < 12 ∧ p0 = nI q ∧ p1 = nI k ∧ u = st ∧ r = st (4 + 4 * q + 1) k) r u) ∨ (r = -71 ∧ ((¬ inR p0 8 ∨ ¬ inR p1 12)) ∧ u = st)
/-- what the law's own state answers -/
def V_state (st : St) (jc : Nat) (p0 : Int32) (r : Int32) (u : St) : Prop := ((fun (r : Int32) (u : St) => ∃ j, j < jc ∧ p0 = nI j ∧ u = st ∧ r = st (42 + j) 5) r u) ∨ (r = -71 ∧ (¬ inR p0 jc) ∧ u = st)
/-- what the law's own devices answers -/
def V_devices (st : St) (jc : Nat) (p0 : Int32) (p1 : Int32) (r : Int32) (u : St) : Prop := ((fun (r : Int32) (u : St) => ∃ j, j < jc ∧ p0 = nI j ∧ rng p1 0 2 ∧ u = st ∧ r = (if p1 = 0 then st (42 + j) 6 else if p1 = 1 then st (42 + j) 7 else st (42 + j) 8)) r u) ∨ (r = -71 ∧ (¬ inR p0 jc) ∧ u = st) ∨ (r = -72 ∧ (inR p0 jc ∧ ¬ rng p1 0 2) ∧ u = st)
set_option maxHeartbeats 4000000 in
set_option maxRecDepth 100000 in
theorem c_L_put {l : Launch} {D : va_G} {cs : Nat → ClassId} {ad : Nat → Nat} {st mt : Nat → Nat → Int32} {ov : Nat → Int64} {p0 p1 : Int32} (hl : l.stackTraces = false) : gW l y_L_put b_L_put 5 (some .int) [(0, 7, 10, 14), (0, 7, 15, 16)] ({ frames := 8, cells := 2, slots := 12, locals := 144 } : Room) 2 12 [.ref (ad 0), .int p0, .int p1] D cs ad st mt ov (QTi D cs ad mt ov (fun r u => V_put st p0 p1 r u)) := by
  refine gW_of (own := "TwinRegisterLaw") (by decide +kernel) rfl (Nat.le_of_ble_eq_true rfl) ?_
  intro p e s m args below meth c C hr ht9
  refine w_lv (lv2 := [(0, .ref (ad 0)), (1, .int p0), (2, .int p1)]) [0, 1, 2] rfl ?_
  refine w_aload_n C 0 d_L_put_0 rfl rfl ?_
  refine w_iload_n C 1 d_L_put_1 rfl rfl ?_
  refine w_iload_n C 2 d_L_put_2 rfl rfl ?_
  refine w_xcatTi C (w_runVX C (c_T_put hl) (by omega) e_T rfl rfl m_192 m_193 m_194 m_24 m_195 ⟨rfl, rfl⟩ hd_T_put rfl ⟨Nat.le_of_ble_eq_true rfl, Nat.le_of_ble_eq_true rfl⟩ rfl (Nat.le_of_ble_eq_true rfl) d_L_put_3 ⟨Nat.le_of_ble_eq_true rfl, Nat.le_of_ble_eq_true rfl⟩) (fun E q9 h9 => ?_) (fun r9 u9 h9 => ?_)
  · skip
    rcases h9 with ⟨rfl, hx⟩ | ⟨rfl, hx⟩
    · skip
      refine w_catch (name := xO) C ht9 (tableOf []) ⟨0, 7, 10, 14⟩ (tableOf [(0, 7, 15, 16)]) rfl (fun z hz => by cases hz) (by decide +kernel) (by decide) m_190 m_201 ?_
      refine w_astore (lv2 := [(4, .ref _), (0, .ref (ad 0)), (1, .int p0), (2, .int p1)]) C d_L_put_10 (by decide) rfl ?_
      refine w_bipush (v := -71) C d_L_put_12 rfl ?_
      refine w_widen (k2 := 2) (n2 := 12) (Nat.le_of_ble_eq_true rfl) (Nat.le_of_ble_eq_true rfl) ?_
      exact w_iretT C hr d_L_put_14 (Or.inr (Or.inl ⟨rfl, hx, rfl⟩))
    · skip
      refine w_catch (name := xA) C ht9 (tableOf [(0, 7, 10, 14)]) ⟨0, 7, 15, 16⟩ (tableOf []) rfl (fun z hz => by
          simp only [tableOf, List.map, List.mem_cons, List.mem_nil_iff, or_false] at hz
          subst hz
          · exact ⟨by decide, xO, m_190, by decide +kernel⟩) (by decide +kernel) (by decide) m_191 m_272 ?_
      refine w_astore (lv2 := [(4, .ref _), (0, .ref (ad 0)), (1, .int p0), (2, .int p1)]) C d_L_put_15 (by decide) rfl ?_
      refine w_bipush (v := -72) C d_L_put_17 rfl ?_
      refine w_widen (k2 := 2) (n2 := 12) (Nat.le_of_ble_eq_true rfl) (Nat.le_of_ble_eq_true rfl) ?_
      exact w_iretT C hr d_L_put_19 (Or.inr (Or.inr ⟨rfl, hx, rfl⟩))
  · skip
    refine w_istore_n (lv2 := [(3, .int r9), (0, .ref (ad 0)), (1, .int p0), (2, .int p1)]) C d_L_put_6 rfl (by decide) rfl ?_
    refine w_goto C 20 d_L_put_7 (by decide) ?_
    refine w_iload_n C 0 d_L_put_20 rfl rfl ?_
    refine w_widen (k2 := 2) (n2 := 12) (Nat.le_of_ble_eq_true rfl) (Nat.le_of_ble_eq_true rfl) ?_
    exact w_iretT C hr d_L_put_21 (Or.inl h9)
set_option maxHeartbeats 4000000 in
set_option maxRecDepth 100000 in
theorem c_L_drop {l : Launch} {D : va_G} {cs : Nat → ClassId} {ad : Nat → Nat} {st mt : Nat → Nat → Int32} {ov : Nat → Int64} {p0 : Int32} (hl : l.stackTraces = false) : gW l y_L_drop b_L_drop 4 (some .int) [(0, 6, 9, 14)] ({ frames := 7, cells := 1, slots := 6, locals := 123 } : Room) 1 6 [.ref (ad 0), .int p0] D cs ad st mt ov (QTi D cs ad mt ov (fun r u => V_drop st p0 r u)) := by
  refine gW_of (own := "TwinRegisterLaw") (by decide +kernel) rfl (Nat.le_of_ble_eq_true rfl) ?_
  intro p e s m args below meth c C hr ht9
  refine w_lv (lv2 := [(0, .ref (ad 0)), (1, .int p0)]) [0, 1] rfl ?_
  refine w_aload_n C 0 d_L_drop_0 rfl rfl ?_
  refine w_iload_n C 1 d_L_drop_1 rfl rfl ?_
  refine w_xcatTi C (w_runVX C (c_T_drop hl) (by omega) e_T rfl rfl m_306 m_307 m_308 m_24 m_309 ⟨rfl, rfl⟩ hd_T_drop rfl ⟨Nat.le_of_ble_eq_true rfl, Nat.le_of_ble_eq_true rfl⟩ rfl (Nat.le_of_ble_eq_true rfl) d_L_drop_2 ⟨Nat.le_of_ble_eq_true rfl, Nat.le_of_ble_eq_true rfl⟩) (fun E q9 h9 => ?_) (fun r9 u9 h9 => ?_)
  · skip
    obtain ⟨rfl, hx⟩ := h9
    refine w_catch (name := xO) C ht9 (tableOf []) ⟨0, 6, 9, 14⟩ (tableOf []) rfl (fun z hz => by cases hz) (by decide +kernel) (by decide) m_190 m_201 ?_
    refine w_astore_n (lv2 := [(3, .ref _), (0, .ref (ad 0)), (1, .int p0)]) C d_L_drop_9 rfl (by decide) rfl ?_
    refine w_bipush (v := -71) C d_L_drop_10 rfl ?_
    refine w_widen (k2 := 1) (n2 := 6) (Nat.le_of_ble_eq_true rfl) (Nat.le_of_ble_eq_true rfl) ?_
    exact w_iretT C hr d_L_drop_12 (Or.inr ⟨rfl, hx, rfl⟩)
  · skip
    refine w_istore_n (lv2 := [(2, .int r9), (0, .ref (ad 0)), (1, .int p0)]) C d_L_drop_5 rfl (by decide) rfl ?_
    refine w_goto C 13 d_L_drop_6 (by decide) ?_
    refine w_iload_n C 0 d_L_drop_13 rfl rfl ?_
    refine w_widen (k2 := 1) (n2 := 6) (Nat.le_of_ble_eq_true rfl) (Nat.le_of_ble_eq_true rfl) ?_
    exact w_iretT C hr d_L_drop_14 (Or.inl h9)
set_option maxHeartbeats 4000000 in
set_option maxRecDepth 100000 in
theorem c_L_wish {l : Launch} {D : va_G} {cs : Nat → ClassId} {ad : Nat → Nat} {st mt : Nat → Nat → Int32} {ov : Nat → Int64} {p0 p1 : Int32} (hl : l.stackTraces = false) : gW l y_L_wish b_L_wish 5 (some .int) [(0, 7, 10, 14), (0, 7, 15, 25)] ({ frames := 8, cells := 3, slots := 18, locals := 144 } : Room) 3 18 [.ref (ad 0), .int p0, .int p1] D cs ad st mt ov (QTi D cs ad mt ov (fun r u => V_wish st p0 p1 r u)) := by
  refine gW_of (own := "TwinRegisterLaw") (by decide +kernel) rfl (Nat.le_of_ble_eq_true rfl) ?_
  intro p e s m args below meth c C hr ht9
  refine w_lv (lv2 := [(0, .ref (ad 0)), (1, .int p0), (2, .int p1)]) [0, 1, 2] rfl ?_
  refine w_aload_n C 0 d_L_wish_0 rfl rfl ?_
  refine w_iload_n C 1 d_L_wish_1 rfl rfl ?_
  refine w_iload_n C 2 d_L_wish_2 rfl rfl ?_
  refine w_xcatTi C (w_runVX C (c_T_wish hl) (by omega) e_T rfl rfl m_315 m_316 m_317 m_24 m_318 ⟨rfl, rfl⟩ hd_T_wish rfl ⟨Nat.le_of_ble_eq_true rfl, Nat.le_of_ble_eq_true rfl⟩ rfl (Nat.le_of_ble_eq_true rfl) d_L_wish_3 ⟨Nat.le_of_ble_eq_true rfl, Nat.le_of_ble_eq_true rfl⟩) (fun E q9 h9 => ?_) (fun r9 u9 h9 => ?_)
  · skip
    rcases h9 with ⟨rfl, hx⟩ | ⟨rfl, hx⟩
    · skip
      refine w_catch (name := xO) C ht9 (tableOf []) ⟨0, 7, 10, 14⟩ (tableOf [(0, 7, 15, 25)]) rfl (fun z hz => by cases hz) (by decide +kernel) (by decide) m_190 m_201 ?_
      refine w_astore (lv2 := [(4, .ref _), (0, .ref (ad 0)), (1, .int p0), (2, .int p1)]) C d_L_wish_10 (by decide) rfl ?_
      refine w_bipush (v := -71) C d_L_wish_12 rfl ?_
      refine w_widen (k2 := 3) (n2 := 18) (Nat.le_of_ble_eq_true rfl) (Nat.le_of_ble_eq_true rfl) ?_
      exact w_iretT C hr d_L_wish_14 (Or.inr (Or.inl ⟨rfl, hx, rfl⟩))
    · skip
      refine w_catch (name := xS) C ht9 (tableOf [(0, 7, 10, 14)]) ⟨0, 7, 15, 25⟩ (tableOf []) rfl (fun z hz => by
          simp only [tableOf, List.map, List.mem_cons, List.mem_nil_iff, or_false] at hz
          subst hz
          · exact ⟨by decide, xO, m_190, by decide +kernel⟩) (by decide +kernel) (by decide) m_314 m_326 ?_
      refine w_astore (lv2 := [(4, .ref _), (0, .ref (ad 0)), (1, .int p0), (2, .int p1)]) C d_L_wish_15 (by decide) rfl ?_
      refine w_bipush (v := -73) C d_L_wish_17 rfl ?_
      refine w_widen (k2 := 3) (n2 := 18) (Nat.le_of_ble_eq_true rfl) (Nat.le_of_ble_eq_true rfl) ?_
      exact w_iretT C hr d_L_wish_19 (Or.inr (Or.inr ⟨rfl, hx, rfl⟩))
  · skip
    refine w_istore_n (lv2 := [(3, .int r9), (0, .ref (ad 0)), (1, .int p0), (2, .int p1)]) C d_L_wish_6 rfl (by decide) rfl ?_
    refine w_goto C 20 d_L_wish_7 (by decide) ?_
    refine w_iload_n C 0 d_L_wish_20 rfl rfl ?_
    refine w_widen (k2 := 3) (n2 := 18) (Nat.le_of_ble_eq_true rfl) (Nat.le_of_ble_eq_true rfl) ?_
    exact w_iretT C hr d_L_wish_21 (Or.inl h9)
set_option maxHeartbeats 4000000 in
set_option maxRecDepth 100000 in
theorem c_L_report {l : Launch} {D : va_G} {cs : Nat → ClassId} {ad : Nat → Nat} {st mt : Nat → Nat → Int32} {ov : Nat → Int64} {p0 p1 : Int32} (hl : l.stackTraces = false) : gW l y_L_report b_L_report 5 (some .int) [(0, 7, 10, 14), (0, 7, 15, 16), (0, 7, 20, 25)] ({ frames := 8, cells := 3, slots := 18, locals := 146 } : Room) 3 18 [.ref (ad 0), .int p0, .int p1] D cs ad st mt ov (QTi D cs ad mt ov (fun r u => V_report st p0 p1 r u)) := by
  refine gW_of (own := "TwinRegisterLaw") (by decide +kernel) rfl (Nat.le_of_ble_eq_true rfl) ?_
  intro p e s m args below meth c C hr ht9
  refine w_lv (lv2 := [(0, .ref (ad 0)), (1, .int p0), (2, .int p1)]) [0, 1, 2] rfl ?_
  refine w_aload_n C 0 d_L_report_0 rfl rfl ?_
  refine w_iload_n C 1 d_L_report_1 rfl rfl ?_
  refine w_iload_n C 2 d_L_report_2 rfl rfl ?_
  refine w_xcatTi C (w_runVX C (c_T_report hl) (by omega) e_T rfl rfl m_368 m_369 m_370 m_24 m_371 ⟨rfl, rfl⟩ hd_T_report rfl ⟨Nat.le_of_ble_eq_true rfl, Nat.le_of_ble_eq_true rfl⟩ rfl (Nat.le_of_ble_eq_true rfl) d_L_report_3 ⟨Nat.le_of_ble_eq_true rfl, Nat.le_of_ble_eq_true rfl⟩) (fun E q9 h9 => ?_) (fun r9 u9 h9 => ?_)
  · skip
    rcases h9 with ⟨rfl, hx⟩ | ⟨rfl, hx⟩ | ⟨rfl, hx⟩
    · skip
      refine w_catch (name := xO) C ht9 (tableOf []) ⟨0, 7, 10, 14⟩ (tableOf [(0, 7, 15, 16), (0, 7, 20, 25)]) rfl (fun z hz => by cases hz) (by decide +kernel) (by decide) m_190 m_201 ?_
      refine w_astore (lv2 := [(4, .ref _), (0, .ref (ad 0)), (1, .int p0), (2, .int p1)]) C d_L_report_10 (by decide) rfl ?_
      refine w_bipush (v := -71) C d_L_report_12 rfl ?_
      refine w_widen (k2 := 3) (n2 := 18) (Nat.le_of_ble_eq_true rfl) (Nat.le_of_ble_eq_true rfl) ?_
      exact w_iretT C hr d_L_report_14 (Or.inr (Or.inl ⟨rfl, hx, rfl⟩))
    · skip
      refine w_catch (name := xA) C ht9 (tableOf [(0, 7, 10, 14)]) ⟨0, 7, 15, 16⟩ (tableOf [(0, 7, 20, 25)]) rfl (fun z hz => by
          simp only [tableOf, List.map, List.mem_cons, List.mem_nil_iff, or_false] at hz
          subst hz
          · exact ⟨by decide, xO, m_190, by decide +kernel⟩) (by decide +kernel) (by decide) m_191 m_272 ?_
      refine w_astore (lv2 := [(4, .ref _), (0, .ref (ad 0)), (1, .int p0), (2, .int p1)]) C d_L_report_15 (by decide) rfl ?_
      refine w_bipush (v := -72) C d_L_report_17 rfl ?_
      refine w_widen (k2 := 3) (n2 := 18) (Nat.le_of_ble_eq_true rfl) (Nat.le_of_ble_eq_true rfl) ?_
      exact w_iretT C hr d_L_report_19 (Or.inr (Or.inr (Or.inl ⟨rfl, hx, rfl⟩)))
    · skip
      refine w_catch (name := xS) C ht9 (tableOf [(0, 7, 10, 14), (0, 7, 15, 16)]) ⟨0, 7, 20, 25⟩ (tableOf []) rfl (fun z hz => by
          simp only [tableOf, List.map, List.mem_cons, List.mem_nil_iff, or_false] at hz
          rcases hz with rfl | rfl
          · exact ⟨by decide, xO, m_190, by decide +kernel⟩
          · exact ⟨by decide, xA, m_191, by decide +kernel⟩) (by decide +kernel) (by decide) m_314 m_326 ?_
      refine w_astore (lv2 := [(4, .ref _), (0, .ref (ad 0)), (1, .int p0), (2, .int p1)]) C d_L_report_20 (by decide) rfl ?_
      refine w_bipush (v := -73) C d_L_report_22 rfl ?_
      refine w_widen (k2 := 3) (n2 := 18) (Nat.le_of_ble_eq_true rfl) (Nat.le_of_ble_eq_true rfl) ?_
      exact w_iretT C hr d_L_report_24 (Or.inr (Or.inr (Or.inr ⟨rfl, hx, rfl⟩)))
  · skip
    refine w_istore_n (lv2 := [(3, .int r9), (0, .ref (ad 0)), (1, .int p0), (2, .int p1)]) C d_L_report_6 rfl (by decide) rfl ?_
    refine w_goto C 25 d_L_report_7 (by decide) ?_
    refine w_iload_n C 0 d_L_report_25 rfl rfl ?_
    refine w_widen (k2 := 3) (n2 := 18) (Nat.le_of_ble_eq_true rfl) (Nat.le_of_ble_eq_true rfl) ?_
    exact w_iretT C hr d_L_report_26 (Or.inl h9)
set_option maxHeartbeats 4000000 in
set_option maxRecDepth 100000 in
theorem c_L_obey {l : Launch} {D : va_G} {cs : Nat → ClassId} {ad : Nat → Nat} {st mt : Nat → Nat → Int32} {ov : Nat → Int64} {p0 : Int32} (hl : l.stackTraces = false) : gW l y_L_obey b_L_obey 4 (some .int) [(0, 6, 9, 14), (0, 6, 13, 25)] ({ frames := 8, cells := 2, slots := 12, locals := 145 } : Room) 2 12 [.ref (ad 0), .int p0] D cs ad st mt ov (QTi D cs ad mt ov (fun r u => V_obey st p0 r u)) := by
  refine gW_of (own := "TwinRegisterLaw") (by decide +kernel) rfl (Nat.le_of_ble_eq_true rfl) ?_
  intro p e s m args below meth c C hr ht9
  refine w_lv (lv2 := [(0, .ref (ad 0)), (1, .int p0)]) [0, 1] rfl ?_
  refine w_aload_n C 0 d_L_obey_0 rfl rfl ?_
  refine w_iload_n C 1 d_L_obey_1 rfl rfl ?_
  refine w_xcatTi C (w_runVX C (c_T_obey hl) (by omega) e_T rfl rfl m_400 m_401 m_402 m_24 m_403 ⟨rfl, rfl⟩ hd_T_obey rfl ⟨Nat.le_of_ble_eq_true rfl, Nat.le_of_ble_eq_true rfl⟩ rfl (Nat.le_of_ble_eq_true rfl) d_L_obey_2 ⟨Nat.le_of_ble_eq_true rfl, Nat.le_of_ble_eq_true rfl⟩) (fun E q9 h9 => ?_) (fun r9 u9 h9 => ?_)
  · skip
    rcases h9 with ⟨rfl, hx⟩ | ⟨rfl, hx⟩
    · skip
      refine w_catch (name := xO) C ht9 (tableOf []) ⟨0, 6, 9, 14⟩ (tableOf [(0, 6, 13, 25)]) rfl (fun z hz => by cases hz) (by decide +kernel) (by decide) m_190 m_201 ?_
      refine w_astore_n (lv2 := [(3, .ref _), (0, .ref (ad 0)), (1, .int p0)]) C d_L_obey_9 rfl (by decide) rfl ?_
      refine w_bipush (v := -71) C d_L_obey_10 rfl ?_
      refine w_widen (k2 := 2) (n2 := 12) (Nat.le_of_ble_eq_true rfl) (Nat.le_of_ble_eq_true rfl) ?_
      exact w_iretT C hr d_L_obey_12 (Or.inr (Or.inl ⟨rfl, hx, rfl⟩))
    · skip
      refine w_catch (name := xS) C ht9 (tableOf [(0, 6, 9, 14)]) ⟨0, 6, 13, 25⟩ (tableOf []) rfl (fun z hz => by
          simp only [tableOf, List.map, List.mem_cons, List.mem_nil_iff, or_false] at hz
          subst hz
          · exact ⟨by decide, xO, m_190, by decide +kernel⟩) (by decide +kernel) (by decide) m_314 m_326 ?_
      refine w_astore_n (lv2 := [(3, .ref _), (0, .ref (ad 0)), (1, .int p0)]) C d_L_obey_13 rfl (by decide) rfl ?_
      refine w_bipush (v := -73) C d_L_obey_14 rfl ?_
      refine w_widen (k2 := 2) (n2 := 12) (Nat.le_of_ble_eq_true rfl) (Nat.le_of_ble_eq_true rfl) ?_
      exact w_iretT C hr d_L_obey_16 (Or.inr (Or.inr ⟨rfl, hx, rfl⟩))
  · skip
    refine w_istore_n (lv2 := [(2, .int r9), (0, .ref (ad 0)), (1, .int p0)]) C d_L_obey_5 rfl (by decide) rfl ?_
    refine w_goto C 17 d_L_obey_6 (by decide) ?_
    refine w_iload_n C 0 d_L_obey_17 rfl rfl ?_
    refine w_widen (k2 := 2) (n2 := 12) (Nat.le_of_ble_eq_true rfl) (Nat.le_of_ble_eq_true rfl) ?_
    exact w_iretT C hr d_L_obey_18 (Or.inl h9)
set_option maxHeartbeats 4000000 in
set_option maxRecDepth 100000 in
theorem c_L_refuse {l : Launch} {D : va_G} {cs : Nat → ClassId} {ad : Nat → Nat} {st mt : Nat → Nat → Int32} {ov : Nat → Int64} {p0 p1 p2 : Int32} (hl : l.stackTraces = false) : gW l y_L_refuse b_L_refuse 6 (some .int) [(0, 9, 12, 14), (0, 9, 17, 16), (0, 9, 22, 25)] ({ frames := 8, cells := 5, slots := 30, locals := 146 } : Room) 5 30 [.ref (ad 0), .int p0, .int p1, .int p2] D cs ad st mt ov (QTi D cs ad mt ov (fun r u => V_refuse st p0 p1 p2 r u)) := by
  refine gW_of (own := "TwinRegisterLaw") (by decide +kernel) rfl (Nat.le_of_ble_eq_true rfl) ?_
  intro p e s m args below meth c C hr ht9
  refine w_lv (lv2 := [(0, .ref (ad 0)), (1, .int p0), (2, .int p1), (3, .int p2)]) [0, 1, 2, 3] rfl ?_
  refine w_aload_n C 0 d_L_refuse_0 rfl rfl ?_
  refine w_iload_n C 1 d_L_refuse_1 rfl rfl ?_
  refine w_iload_n C 2 d_L_refuse_2 rfl rfl ?_
  refine w_iload_n C 3 d_L_refuse_3 rfl rfl ?_
  refine w_xcatTi C (w_runVX C (c_T_refuse hl) (by omega) e_T rfl rfl m_411 m_412 m_413 m_24 m_414 ⟨rfl, rfl⟩ hd_T_refuse rfl ⟨Nat.le_of_ble_eq_true rfl, Nat.le_of_ble_eq_true rfl⟩ rfl (Nat.le_of_ble_eq_true rfl) d_L_refuse_4 ⟨Nat.le_of_ble_eq_true rfl, Nat.le_of_ble_eq_true rfl⟩) (fun E q9 h9 => ?_) (fun r9 u9 h9 => ?_)
  · skip
    rcases h9 with ⟨rfl, hx⟩ | ⟨rfl, hx⟩ | ⟨rfl, hx⟩
    · skip
      refine w_catch (name := xO) C ht9 (tableOf []) ⟨0, 9, 12, 14⟩ (tableOf [(0, 9, 17, 16), (0, 9, 22, 25)]) rfl (fun z hz => by cases hz) (by decide +kernel) (by decide) m_190 m_201 ?_
      refine w_astore (lv2 := [(5, .ref _), (0, .ref (ad 0)), (1, .int p0), (2, .int p1), (3, .int p2)]) C d_L_refuse_12 (by decide) rfl ?_
      refine w_bipush (v := -71) C d_L_refuse_14 rfl ?_
      refine w_widen (k2 := 5) (n2 := 30) (Nat.le_of_ble_eq_true rfl) (Nat.le_of_ble_eq_true rfl) ?_
      exact w_iretT C hr d_L_refuse_16 (Or.inr (Or.inl ⟨rfl, hx, rfl⟩))
    · skip
      refine w_catch (name := xA) C ht9 (tableOf [(0, 9, 12, 14)]) ⟨0, 9, 17, 16⟩ (tableOf [(0, 9, 22, 25)]) rfl (fun z hz => by
          simp only [tableOf, List.map, List.mem_cons, List.mem_nil_iff, or_false] at hz
          subst hz
          · exact ⟨by decide, xO, m_190, by decide +kernel⟩) (by decide +kernel) (by decide) m_191 m_272 ?_
      refine w_astore (lv2 := [(5, .ref _), (0, .ref (ad 0)), (1, .int p0), (2, .int p1), (3, .int p2)]) C d_L_refuse_17 (by decide) rfl ?_
      refine w_bipush (v := -72) C d_L_refuse_19 rfl ?_
      refine w_widen (k2 := 5) (n2 := 30) (Nat.le_of_ble_eq_true rfl) (Nat.le_of_ble_eq_true rfl) ?_
      exact w_iretT C hr d_L_refuse_21 (Or.inr (Or.inr (Or.inl ⟨rfl, hx, rfl⟩)))
    · skip
      refine w_catch (name := xS) C ht9 (tableOf [(0, 9, 12, 14), (0, 9, 17, 16)]) ⟨0, 9, 22, 25⟩ (tableOf []) rfl (fun z hz => by
          simp only [tableOf, List.map, List.mem_cons, List.mem_nil_iff, or_false] at hz
          rcases hz with rfl | rfl
          · exact ⟨by decide, xO, m_190, by decide +kernel⟩
          · exact ⟨by decide, xA, m_191, by decide +kernel⟩) (by decide +kernel) (by decide) m_314 m_326 ?_
      refine w_astore (lv2 := [(5, .ref _), (0, .ref (ad 0)), (1, .int p0), (2, .int p1), (3, .int p2)]) C d_L_refuse_22 (by decide) rfl ?_
      refine w_bipush (v := -73) C d_L_refuse_24 rfl ?_
      refine w_widen (k2 := 5) (n2 := 30) (Nat.le_of_ble_eq_true rfl) (Nat.le_of_ble_eq_true rfl) ?_
      exact w_iretT C hr d_L_refuse_26 (Or.inr (Or.inr (Or.inr ⟨rfl, hx, rfl⟩)))
  · skip
    refine w_istore (lv2 := [(4, .int r9), (0, .ref (ad 0)), (1, .int p0), (2, .int p1), (3, .int p2)]) C d_L_refuse_7 (by decide) rfl ?_
    refine w_goto C 27 d_L_refuse_9 (by decide) ?_
    refine w_iload C 0 d_L_refuse_27 rfl ?_
    refine w_widen (k2 := 5) (n2 := 30) (Nat.le_of_ble_eq_true rfl) (Nat.le_of_ble_eq_true rfl) ?_
    exact w_iretT C hr d_L_refuse_29 (Or.inl h9)
set_option maxHeartbeats 4000000 in
set_option maxRecDepth 100000 in
theorem c_L_sleep {l : Launch} {D : va_G} {cs : Nat → ClassId} {ad : Nat → Nat} {st mt : Nat → Nat → Int32} {ov : Nat → Int64} {p0 : Int32} (hl : l.stackTraces = false) : gW l y_L_sleep b_L_sleep 4 (some .int) [(0, 6, 9, 14)] ({ frames := 8, cells := 1, slots := 6, locals := 144 } : Room) 1 6 [.ref (ad 0), .int p0] D cs ad st mt ov (QTi D cs ad mt ov (fun r u => V_sleep st p0 r u)) := by
  refine gW_of (own := "TwinRegisterLaw") (by decide +kernel) rfl (Nat.le_of_ble_eq_true rfl) ?_
  intro p e s m args below meth c C hr ht9
  refine w_lv (lv2 := [(0, .ref (ad 0)), (1, .int p0)]) [0, 1] rfl ?_
  refine w_aload_n C 0 d_L_sleep_0 rfl rfl ?_
  refine w_iload_n C 1 d_L_sleep_1 rfl rfl ?_
  refine w_xcatTi C (w_runVX C (c_T_sleep hl) (by omega) e_T rfl rfl m_423 m_424 m_425 m_24 m_426 ⟨rfl, rfl⟩ hd_T_sleep rfl ⟨Nat.le_of_ble_eq_true rfl, Nat.le_of_ble_eq_true rfl⟩ rfl (Nat.le_of_ble_eq_true rfl) d_L_sleep_2 ⟨Nat.le_of_ble_eq_true rfl, Nat.le_of_ble_eq_true rfl⟩) (fun E q9 h9 => ?_) (fun r9 u9 h9 => ?_)
  · skip
    obtain ⟨rfl, hx⟩ := h9
    refine w_catch (name := xO) C ht9 (tableOf []) ⟨0, 6, 9, 14⟩ (tableOf []) rfl (fun z hz => by cases hz) (by decide +kernel) (by decide) m_190 m_201 ?_
    refine w_astore_n (lv2 := [(3, .ref _), (0, .ref (ad 0)), (1, .int p0)]) C d_L_sleep_9 rfl (by decide) rfl ?_
    refine w_bipush (v := -71) C d_L_sleep_10 rfl ?_
    refine w_widen (k2 := 1) (n2 := 6) (Nat.le_of_ble_eq_true rfl) (Nat.le_of_ble_eq_true rfl) ?_
    exact w_iretT C hr d_L_sleep_12 (Or.inr ⟨rfl, hx, rfl⟩)
  · skip
    refine w_istore_n (lv2 := [(2, .int r9), (0, .ref (ad 0)), (1, .int p0)]) C d_L_sleep_5 rfl (by decide) rfl ?_
    refine w_goto C 13 d_L_sleep_6 (by decide) ?_
    refine w_iload_n C 0 d_L_sleep_13 rfl rfl ?_
    refine w_if_eq C 21 d_L_sleep_14 (by decide) (fun h14 => ?_) (fun h14 => ?_)
    · skip
      refine w_iconst (v := 0) C d_L_sleep_21 rfl ?_
      refine w_widen (k2 := 1) (n2 := 6) (Nat.le_of_ble_eq_true rfl) (Nat.le_of_ble_eq_true rfl) ?_
      exact w_iretT C hr d_L_sleep_22 (Or.inl (by rw [h14] at h9; exact h9))
    · skip
      refine w_iconst (v := 1) C d_L_sleep_17 rfl ?_
      refine w_goto C 22 d_L_sleep_18 (by decide) ?_
      refine w_widen (k2 := 1) (n2 := 6) (Nat.le_of_ble_eq_true rfl) (Nat.le_of_ble_eq_true rfl) ?_
      exact w_iretT C hr d_L_sleep_22 (Or.inl (sleep_1 h9 h14))
set_option maxHeartbeats 4000000 in
set_option maxRecDepth 100000 in
theorem c_L_wake {l : Launch} {D : va_G} {cs : Nat → ClassId} {ad : Nat → Nat} {st mt : Nat → Nat → Int32} {ov : Nat → Int64} {p0 : Int32} (hl : l.stackTraces = false) : gW l y_L_wake b_L_wake 4 (some .int) [(0, 6, 9, 14)] ({ frames := 8, cells := 1, slots := 6, locals := 144 } : Room) 1 6 [.ref (ad 0), .int p0] D cs ad st mt ov (QTi D cs ad mt ov (fun r u => V_wake st p0 r u)) := by
  refine gW_of (own := "TwinRegisterLaw") (by decide +kernel) rfl (Nat.le_of_ble_eq_true rfl) ?_
  intro p e s m args below meth c C hr ht9
  refine w_lv (lv2 := [(0, .ref (ad 0)), (1, .int p0)]) [0, 1] rfl ?_
  refine w_aload_n C 0 d_L_wake_0 rfl rfl ?_
  refine w_iload_n C 1 d_L_wake_1 rfl rfl ?_
  refine w_xcatTi C (w_runVX C (c_T_wake hl) (by omega) e_T rfl rfl m_430 m_431 m_432 m_24 m_433 ⟨rfl, rfl⟩ hd_T_wake rfl ⟨Nat.le_of_ble_eq_true rfl, Nat.le_of_ble_eq_true rfl⟩ rfl (Nat.le_of_ble_eq_true rfl) d_L_wake_2 ⟨Nat.le_of_ble_eq_true rfl, Nat.le_of_ble_eq_true rfl⟩) (fun E q9 h9 => ?_) (fun r9 u9 h9 => ?_)
  · skip
    obtain ⟨rfl, hx⟩ := h9
    refine w_catch (name := xO) C ht9 (tableOf []) ⟨0, 6, 9, 14⟩ (tableOf []) rfl (fun z hz => by cases hz) (by decide +kernel) (by decide) m_190 m_201 ?_
    refine w_astore_n (lv2 := [(3, .ref _), (0, .ref (ad 0)), (1, .int p0)]) C d_L_wake_9 rfl (by decide) rfl ?_
    refine w_bipush (v := -71) C d_L_wake_10 rfl ?_
    refine w_widen (k2 := 1) (n2 := 6) (Nat.le_of_ble_eq_true rfl) (Nat.le_of_ble_eq_true rfl) ?_
    exact w_iretT C hr d_L_wake_12 (Or.inr ⟨rfl, hx, rfl⟩)
  · skip
    refine w_istore_n (lv2 := [(2, .int r9), (0, .ref (ad 0)), (1, .int p0)]) C d_L_wake_5 rfl (by decide) rfl ?_
    refine w_goto C 13 d_L_wake_6 (by decide) ?_
    refine w_iload_n C 0 d_L_wake_13 rfl rfl ?_
    refine w_widen (k2 := 1) (n2 := 6) (Nat.le_of_ble_eq_true rfl) (Nat.le_of_ble_eq_true rfl) ?_
    exact w_iretT C hr d_L_wake_14 (Or.inl h9)
set_option maxHeartbeats 4000000 in
set_option maxRecDepth 100000 in
theorem c_L_setGroup {l : Launch} {D : va_G} {cs : Nat → ClassId} {ad : Nat → Nat} {st mt : Nat → Nat → Int32} {ov : Nat → Int64} {p0 p1 p2 p3 : Int32} (hl : l.stackTraces = false) : gW l y_L_setGroup b_L_setGroup 7 (some .int) [(0, 11, 14, 14), (0, 11, 19, 16)] ({ frames := 9, cells := 4, slots := 24, locals := 166 } : Room) 4 24 [.ref (ad 0), .int p0, .int p1, .int p2, .int p3] D cs ad st mt ov (QTi D cs ad mt ov (fun r u => V_setGroup st p0 p1 p2 p3 r u)) := by
  refine gW_of (own := "TwinRegisterLaw") (by decide +kernel) rfl (Nat.le_of_ble_eq_true rfl) ?_
  intro p e s m args below meth c C hr ht9
  refine w_lv (lv2 := [(0, .ref (ad 0)), (1, .int p0), (2, .int p1), (3, .int p2), (4, .int p3)]) [0, 1, 2, 3, 4] rfl ?_
  refine w_aload_n C 0 d_L_setGroup_0 rfl rfl ?_
  refine w_iload_n C 1 d_L_setGroup_1 rfl rfl ?_
  refine w_iload_n C 2 d_L_setGroup_2 rfl rfl ?_
  refine w_iload_n C 3 d_L_setGroup_3 rfl rfl ?_
  refine w_iload C 4 d_L_setGroup_4 rfl ?_
  refine w_xcatTi C (w_runVX C (c_T_setGroup hl) (by omega) e_T rfl rfl m_444 m_445 m_446 m_24 m_447 ⟨rfl, rfl⟩ hd_T_setGroup rfl ⟨Nat.le_of_ble_eq_true rfl, Nat.le_of_ble_eq_true rfl⟩ rfl (Nat.le_of_ble_eq_true rfl) d_L_setGroup_6 ⟨Nat.le_of_ble_eq_true rfl, Nat.le_of_ble_eq_true rfl⟩) (fun E q9 h9 => ?_) (fun r9 u9 h9 => ?_)
  · skip
    rcases h9 with ⟨rfl, hx⟩ | ⟨rfl, hx⟩
    · skip
      refine w_catch (name := xO) C ht9 (tableOf []) ⟨0, 11, 14, 14⟩ (tableOf [(0, 11, 19, 16)]) rfl (fun z hz => by cases hz) (by decide +kernel) (by decide) m_190 m_201 ?_
      refine w_astore (lv2 := [(6, .ref _), (0, .ref (ad 0)), (1, .int p0), (2, .int p1), (3, .int p2), (4, .int p3)]) C d_L_setGroup_14 (by decide) rfl ?_
      refine w_bipush (v := -71) C d_L_setGroup_16 rfl ?_
      refine w_widen (k2 := 4) (n2 := 24) (Nat.le_of_ble_eq_true rfl) (Nat.le_of_ble_eq_true rfl) ?_
      exact w_iretT C hr d_L_setGroup_18 (Or.inr (Or.inl ⟨rfl, hx, rfl⟩))
    · skip
      refine w_catch (name := xA) C ht9 (tableOf [(0, 11, 14, 14)]) ⟨0, 11, 19, 16⟩ (tableOf []) rfl (fun z hz => by
          simp only [tableOf, List.map, List.mem_cons, List.mem_nil_iff, or_false] at hz
          subst hz
          · exact ⟨by decide, xO, m_190, by decide +kernel⟩) (by decide +kernel) (by decide) m_191 m_272 ?_
      refine w_astore (lv2 := [(6, .ref _), (0, .ref (ad 0)), (1, .int p0), (2, .int p1), (3, .int p2), (4, .int p3)]) C d_L_setGroup_19 (by decide) rfl ?_
      refine w_bipush (v := -72) C d_L_setGroup_21 rfl ?_
      refine w_widen (k2 := 4) (n2 := 24) (Nat.le_of_ble_eq_true rfl) (Nat.le_of_ble_eq_true rfl) ?_
      exact w_iretT C hr d_L_setGroup_23 (Or.inr (Or.inr ⟨rfl, hx, rfl⟩))
  · skip
    refine w_istore (lv2 := [(5, .int r9), (0, .ref (ad 0)), (1, .int p0), (2, .int p1), (3, .int p2), (4, .int p3)]) C d_L_setGroup_9 (by decide) rfl ?_
    refine w_goto C 24 d_L_setGroup_11 (by decide) ?_
    refine w_iload C 0 d_L_setGroup_24 rfl ?_
    refine w_widen (k2 := 4) (n2 := 24) (Nat.le_of_ble_eq_true rfl) (Nat.le_of_ble_eq_true rfl) ?_
    exact w_iretT C hr d_L_setGroup_26 (Or.inl h9)
set_option maxHeartbeats 4000000 in
set_option maxRecDepth 100000 in
theorem c_L_addJob {l : Launch} {D : va_G} {cs : Nat → ClassId} {ad : Nat → Nat} {st mt : Nat → Nat → Int32} {ov : Nat → Int64} {p0 p1 p2 p3 p4 : Int32} {jc : Nat} (hjc : jc ≤ 8) (hj0 : st 0 4 = nI jc) (hl : l.stackTraces = false) : gW l y_L_addJob b_L_addJob 8 (some .int) [(0, 13, 16, 14), (0, 13, 21, 16), (0, 13, 26, 25)] ({ frames := 8, cells := 6, slots := 36, locals := 148 } : Room) 6 36 [.ref (ad 0), .int p0, .int p1, .int p2, .int p3, .int p4] D cs ad st mt ov (QTi D cs ad mt ov (fun r u => V_addJob st jc p0 p1 p2 p3 p4 r u)) := by
  refine gW_of (own := "TwinRegisterLaw") (by decide +kernel) rfl (Nat.le_of_ble_eq_true rfl) ?_
  intro p e s m args below meth c C hr ht9
  refine w_lv (lv2 := [(0, .ref (ad 0)), (1, .int p0), (2, .int p1), (3, .int p2), (4, .int p3), (5, .int p4)]) [0, 1, 2, 3, 4, 5] rfl ?_
  refine w_aload_n C 0 d_L_addJob_0 rfl rfl ?_
  refine w_iload_n C 1 d_L_addJob_1 rfl rfl ?_
  refine w_iload_n C 2 d_L_addJob_2 rfl rfl ?_
  refine w_iload_n C 3 d_L_addJob_3 rfl rfl ?_
  refine w_iload C 4 d_L_addJob_4 rfl ?_
  refine w_iload C 5 d_L_addJob_6 rfl ?_
  refine w_xcatTi C (w_runVX C (c_T_addJob hjc hj0 hl) (by omega) e_T rfl rfl m_470 m_471 m_472 m_24 m_473 ⟨rfl, rfl⟩ hd_T_addJob rfl ⟨Nat.le_of_ble_eq_true rfl, Nat.le_of_ble_eq_true rfl⟩ rfl (Nat.le_of_ble_eq_true rfl) d_L_addJob_8 ⟨Nat.le_of_ble_eq_true rfl, Nat.le_of_ble_eq_true rfl⟩) (fun E q9 h9 => ?_) (fun r9 u9 h9 => ?_)
  · skip
    rcases h9 with ⟨rfl, hx⟩ | ⟨rfl, hx⟩ | ⟨rfl, hx⟩
    · skip
      refine w_catch (name := xO) C ht9 (tableOf []) ⟨0, 13, 16, 14⟩ (tableOf [(0, 13, 21, 16), (0, 13, 26, 25)]) rfl (fun z hz => by cases hz) (by decide +kernel) (by decide) m_190 m_201 ?_
      refine w_astore (lv2 := [(7, .ref _), (0, .ref (ad 0)), (1, .int p0), (2, .int p1), (3, .int p2), (4, .int p3), (5, .int p4)]) C d_L_addJob_16 (by decide) rfl ?_
      refine w_bipush (v := -71) C d_L_addJob_18 rfl ?_
      refine w_widen (k2 := 6) (n2 := 36) (Nat.le_of_ble_eq_true rfl) (Nat.le_of_ble_eq_true rfl) ?_
      exact w_iretT C hr d_L_addJob_20 (Or.inr (Or.inl ⟨rfl, hx, rfl⟩))
    · skip
      refine w_catch (name := xA) C ht9 (tableOf [(0, 13, 16, 14)]) ⟨0, 13, 21, 16⟩ (tableOf [(0, 13, 26, 25)]) rfl (fun z hz => by
          simp only [tableOf, List.map, List.mem_cons, List.mem_nil_iff, or_false] at hz
          subst hz
          · exact ⟨by decide, xO, m_190, by decide +kernel⟩) (by decide +kernel) (by decide) m_191 m_272 ?_
      refine w_astore (lv2 := [(7, .ref _), (0, .ref (ad 0)), (1, .int p0), (2, .int p1), (3, .int p2), (4, .int p3), (5, .int p4)]) C d_L_addJob_21 (by decide) rfl ?_
      refine w_bipush (v := -72) C d_L_addJob_23 rfl ?_
      refine w_widen (k2 := 6) (n2 := 36) (Nat.le_of_ble_eq_true rfl) (Nat.le_of_ble_eq_true rfl) ?_
      exact w_iretT C hr d_L_addJob_25 (Or.inr (Or.inr (Or.inl ⟨rfl, hx, rfl⟩)))
    · skip
      refine w_catch (name := xS) C ht9 (tableOf [(0, 13, 16, 14), (0, 13, 21, 16)]) ⟨0, 13, 26, 25⟩ (tableOf []) rfl (fun z hz => by
          simp only [tableOf, List.map, List.mem_cons, List.mem_nil_iff, or_false] at hz
          rcases hz with rfl | rfl
          · exact ⟨by decide, xO, m_190, by decide +kernel⟩
          · exact ⟨by decide, xA, m_191, by decide +kernel⟩) (by decide +kernel) (by decide) m_314 m_326 ?_
      refine w_astore (lv2 := [(7, .ref _), (0, .ref (ad 0)), (1, .int p0), (2, .int p1), (3, .int p2), (4, .int p3), (5, .int p4)]) C d_L_addJob_26 (by decide) rfl ?_
      refine w_bipush (v := -73) C d_L_addJob_28 rfl ?_
      refine w_widen (k2 := 6) (n2 := 36) (Nat.le_of_ble_eq_true rfl) (Nat.le_of_ble_eq_true rfl) ?_
      exact w_iretT C hr d_L_addJob_30 (Or.inr (Or.inr (Or.inr ⟨rfl, hx, rfl⟩)))
  · skip
    refine w_istore (lv2 := [(6, .int r9), (0, .ref (ad 0)), (1, .int p0), (2, .int p1), (3, .int p2), (4, .int p3), (5, .int p4)]) C d_L_addJob_11 (by decide) rfl ?_
    refine w_goto C 31 d_L_addJob_13 (by decide) ?_
    refine w_iload C 0 d_L_addJob_31 rfl ?_
    refine w_widen (k2 := 6) (n2 := 36) (Nat.le_of_ble_eq_true rfl) (Nat.le_of_ble_eq_true rfl) ?_
    exact w_iretT C hr d_L_addJob_33 (Or.inl h9)
set_option maxHeartbeats 4000000 in
set_option maxRecDepth 100000 in
theorem c_L_cancel {l : Launch} {D : va_G} {cs : Nat → ClassId} {ad : Nat → Nat} {st mt : Nat → Nat → Int32} {ov : Nat → Int64} {p0 : Int32} {jc : Nat} (hjc : jc ≤ 8) (hj0 : st 0 4 = nI jc) (hl : l.stackTraces = false) : gW l y_L_cancel b_L_cancel 4 (some .int) [(0, 6, 9, 14), (0, 6, 13, 25)] ({ frames := 8, cells := 2, slots := 12, locals := 143 } : Room) 2 12 [.ref (ad 0), .int p0] D cs ad st mt ov (QTi D cs ad mt ov (fun r u => V_cancel st jc p0 r u)) := by
  refine gW_of (own := "TwinRegisterLaw") (by decide +kernel) rfl (Nat.le_of_ble_eq_true rfl) ?_
  intro p e s m args below meth c C hr ht9
  refine w_lv (lv2 := [(0, .ref (ad 0)), (1, .int p0)]) [0, 1] rfl ?_
  refine w_aload_n C 0 d_L_cancel_0 rfl rfl ?_
  refine w_iload_n C 1 d_L_cancel_1 rfl rfl ?_
  refine w_xcatTi C (w_runVX C (c_T_cancel hjc hj0 hl) (by omega) e_T rfl rfl m_502 m_503 m_504 m_24 m_505 ⟨rfl, rfl⟩ hd_T_cancel rfl ⟨Nat.le_of_ble_eq_true rfl, Nat.le_of_ble_eq_true rfl⟩ rfl (Nat.le_of_ble_eq_true rfl) d_L_cancel_2 ⟨Nat.le_of_ble_eq_true rfl, Nat.le_of_ble_eq_true rfl⟩) (fun E q9 h9 => ?_) (fun r9 u9 h9 => ?_)
  · skip
    rcases h9 with ⟨rfl, hx⟩ | ⟨rfl, hx⟩
    · skip
      refine w_catch (name := xO) C ht9 (tableOf []) ⟨0, 6, 9, 14⟩ (tableOf [(0, 6, 13, 25)]) rfl (fun z hz => by cases hz) (by decide +kernel) (by decide) m_190 m_201 ?_
      refine w_astore_n (lv2 := [(3, .ref _), (0, .ref (ad 0)), (1, .int p0)]) C d_L_cancel_9 rfl (by decide) rfl ?_
      refine w_bipush (v := -71) C d_L_cancel_10 rfl ?_
      refine w_widen (k2 := 2) (n2 := 12) (Nat.le_of_ble_eq_true rfl) (Nat.le_of_ble_eq_true rfl) ?_
      exact w_iretT C hr d_L_cancel_12 (Or.inr (Or.inl ⟨rfl, hx, rfl⟩))
    · skip
      refine w_catch (name := xS) C ht9 (tableOf [(0, 6, 9, 14)]) ⟨0, 6, 13, 25⟩ (tableOf []) rfl (fun z hz => by
          simp only [tableOf, List.map, List.mem_cons, List.mem_nil_iff, or_false] at hz
          subst hz
          · exact ⟨by decide, xO, m_190, by decide +kernel⟩) (by decide +kernel) (by decide) m_314 m_326 ?_
      refine w_astore_n (lv2 := [(3, .ref _), (0, .ref (ad 0)), (1, .int p0)]) C d_L_cancel_13 rfl (by decide) rfl ?_
      refine w_bipush (v := -73) C d_L_cancel_14 rfl ?_
      refine w_widen (k2 := 2) (n2 := 12) (Nat.le_of_ble_eq_true rfl) (Nat.le_of_ble_eq_true rfl) ?_
      exact w_iretT C hr d_L_cancel_16 (Or.inr (Or.inr ⟨rfl, hx, rfl⟩))
  · skip
    refine w_istore_n (lv2 := [(2, .int r9), (0, .ref (ad 0)), (1, .int p0)]) C d_L_cancel_5 rfl (by decide) rfl ?_
    refine w_goto C 17 d_L_cancel_6 (by decide) ?_
    refine w_iload_n C 0 d_L_cancel_17 rfl rfl ?_
    refine w_widen (k2 := 2) (n2 := 12) (Nat.le_of_ble_eq_true rfl) (Nat.le_of_ble_eq_true rfl) ?_
    exact w_iretT C hr d_L_cancel_18 (Or.inl h9)
set_option maxHeartbeats 4000000 in
set_option maxRecDepth 100000 in
theorem c_L_version {l : Launch} {D : va_G} {cs : Nat → ClassId} {ad : Nat → Nat} {st mt : Nat → Nat → Int32} {ov : Nat → Int64} {p0 : Int32} (hl : l.stackTraces = false) : gW l y_L_version b_L_version 4 (some .int) [(0, 6, 9, 14)] ({ frames := 8, cells := 1, slots := 6, locals := 142 } : Room) 1 6 [.ref (ad 0), .int p0] D cs ad st mt ov (QTi D cs ad mt ov (fun r u => V_version st p0 r u)) := by
  refine gW_of (own := "TwinRegisterLaw") (by decide +kernel) rfl (Nat.le_of_ble_eq_true rfl) ?_
  intro p e s m args below meth c C hr ht9
  refine w_lv (lv2 := [(0, .ref (ad 0)), (1, .int p0)]) [0, 1] rfl ?_
  refine w_aload_n C 0 d_L_version_0 rfl rfl ?_
  refine w_iload_n C 1 d_L_version_1 rfl rfl ?_
  refine w_xcatTi C (w_runVX C (c_T_version hl) (by omega) e_T rfl rfl m_525 m_526 m_527 m_24 m_528 ⟨rfl, rfl⟩ hd_T_version rfl ⟨Nat.le_of_ble_eq_true rfl, Nat.le_of_ble_eq_true rfl⟩ rfl (Nat.le_of_ble_eq_true rfl) d_L_version_2 ⟨Nat.le_of_ble_eq_true rfl, Nat.le_of_ble_eq_true rfl⟩) (fun E q9 h9 => ?_) (fun r9 u9 h9 => ?_)
  · skip
    obtain ⟨rfl, hx⟩ := h9
    refine w_catch (name := xO) C ht9 (tableOf []) ⟨0, 6, 9, 14⟩ (tableOf []) rfl (fun z hz => by cases hz) (by decide +kernel) (by decide) m_190 m_201 ?_
    refine w_astore_n (lv2 := [(3, .ref _), (0, .ref (ad 0)), (1, .int p0)]) C d_L_version_9 rfl (by decide) rfl ?_
    refine w_bipush (v := -71) C d_L_version_10 rfl ?_
    refine w_widen (k2 := 1) (n2 := 6) (Nat.le_of_ble_eq_true rfl) (Nat.le_of_ble_eq_true rfl) ?_
    exact w_iretT C hr d_L_version_12 (Or.inr ⟨rfl, hx, rfl⟩)
  · skip
    refine w_istore_n (lv2 := [(2, .int r9), (0, .ref (ad 0)), (1, .int p0)]) C d_L_version_5 rfl (by decide) rfl ?_
    refine w_goto C 13 d_L_version_6 (by decide) ?_
    refine w_iload_n C 0 d_L_version_13 rfl rfl ?_
    refine w_widen (k2 := 1) (n2 := 6) (Nat.le_of_ble_eq_true rfl) (Nat.le_of_ble_eq_true rfl) ?_
    exact w_iretT C hr d_L_version_14 (Or.inl h9)
set_option maxHeartbeats 4000000 in
set_option maxRecDepth 100000 in
theorem c_L_wished {l : Launch} {D : va_G} {cs : Nat → ClassId} {ad : Nat → Nat} {st mt : Nat → Nat → Int32} {ov : Nat → Int64} {p0 p1 : Int32} (hl : l.stackTraces = false) : gW l y_L_wished b_L_wished 5 (some .int) [(0, 7, 10, 14)] ({ frames := 8, cells := 2, slots := 12, locals := 144 } : Room) 2 12 [.ref (ad 0), .int p0, .int p1] D cs ad st mt ov (QTi D cs ad mt ov (fun r u => V_wished st p0 p1 r u)) := by
  refine gW_of (own := "TwinRegisterLaw") (by decide +kernel) rfl (Nat.le_of_ble_eq_true rfl) ?_
  intro p e s m args below meth c C hr ht9
  refine w_lv (lv2 := [(0, .ref (ad 0)), (1, .int p0), (2, .int p1)]) [0, 1, 2] rfl ?_
  refine w_aload_n C 0 d_L_wished_0 rfl rfl ?_
  refine w_iload_n C 1 d_L_wished_1 rfl rfl ?_
  refine w_iload_n C 2 d_L_wished_2 rfl rfl ?_
  refine w_xcatTi C (w_runVX C (c_T_wished hl) (by omega) e_T rfl rfl m_545 m_546 m_547 m_24 m_548 ⟨rfl, rfl⟩ hd_T_wished rfl ⟨Nat.le_of_ble_eq_true rfl, Nat.le_of_ble_eq_true rfl⟩ rfl (Nat.le_of_ble_eq_true rfl) d_L_wished_3 ⟨Nat.le_of_ble_eq_true rfl, Nat.le_of_ble_eq_true rfl⟩) (fun E q9 h9 => ?_) (fun r9 u9 h9 => ?_)
  · skip
    obtain ⟨rfl, hx⟩ := h9
    refine w_catch (name := xO) C ht9 (tableOf []) ⟨0, 7, 10, 14⟩ (tableOf []) rfl (fun z hz => by cases hz) (by decide +kernel) (by decide) m_190 m_201 ?_
    refine w_astore (lv2 := [(4, .ref _), (0, .ref (ad 0)), (1, .int p0), (2, .int p1)]) C d_L_wished_10 (by decide) rfl ?_
    refine w_bipush (v := -71) C d_L_wished_12 rfl ?_
    refine w_widen (k2 := 2) (n2 := 12) (Nat.le_of_ble_eq_true rfl) (Nat.le_of_ble_eq_true rfl) ?_
    exact w_iretT C hr d_L_wished_14 (Or.inr ⟨rfl, hx, rfl⟩)
  · skip
    refine w_istore_n (lv2 := [(3, .int r9), (0, .ref (ad 0)), (1, .int p0), (2, .int p1)]) C d_L_wished_6 rfl (by decide) rfl ?_
    refine w_goto C 15 d_L_wished_7 (by decide) ?_
    refine w_iload_n C 0 d_L_wished_15 rfl rfl ?_
    refine w_widen (k2 := 2) (n2 := 12) (Nat.le_of_ble_eq_true rfl) (Nat.le_of_ble_eq_true rfl) ?_
    exact w_iretT C hr d_L_wished_16 (Or.inl h9)
set_option maxHeartbeats 4000000 in
set_option maxRecDepth 100000 in
theorem c_L_state {l : Launch} {D : va_G} {cs : Nat → ClassId} {ad : Nat → Nat} {st mt : Nat → Nat → Int32} {ov : Nat → Int64} {p0 : Int32} {jc : Nat} (hjc : jc ≤ 8) (hj0 : st 0 4 = nI jc) (hl : l.stackTraces = false) : gW l y_L_state b_L_state 4 (some .int) [(0, 6, 9, 14)] ({ frames := 8, cells := 1, slots := 6, locals := 142 } : Room) 1 6 [.ref (ad 0), .int p0] D cs ad st mt ov (QTi D cs ad mt ov (fun r u => V_state st jc p0 r u)) := by
  refine gW_of (own := "TwinRegisterLaw") (by decide +kernel) rfl (Nat.le_of_ble_eq_true rfl) ?_
  intro p e s m args below meth c C hr ht9
  refine w_lv (lv2 := [(0, .ref (ad 0)), (1, .int p0)]) [0, 1] rfl ?_
  refine w_aload_n C 0 d_L_state_0 rfl rfl ?_
  refine w_iload_n C 1 d_L_state_1 rfl rfl ?_
  refine w_xcatTi C (w_runVX C (c_T_state hjc hj0 hl) (by omega) e_T rfl rfl m_515 m_516 m_517 m_24 m_518 ⟨rfl, rfl⟩ hd_T_state rfl ⟨Nat.le_of_ble_eq_true rfl, Nat.le_of_ble_eq_true rfl⟩ rfl (Nat.le_of_ble_eq_true rfl) d_L_state_2 ⟨Nat.le_of_ble_eq_true rfl, Nat.le_of_ble_eq_true rfl⟩) (fun E q9 h9 => ?_) (fun r9 u9 h9 => ?_)
  · skip
    obtain ⟨rfl, hx⟩ := h9
    refine w_catch (name := xO) C ht9 (tableOf []) ⟨0, 6, 9, 14⟩ (tableOf []) rfl (fun z hz => by cases hz) (by decide +kernel) (by decide) m_190 m_201 ?_
    refine w_astore_n (lv2 := [(3, .ref _), (0, .ref (ad 0)), (1, .int p0)]) C d_L_state_9 rfl (by decide) rfl ?_
    refine w_bipush (v := -71) C d_L_state_10 rfl ?_
    refine w_widen (k2 := 1) (n2 := 6) (Nat.le_of_ble_eq_true rfl) (Nat.le_of_ble_eq_true rfl) ?_
    exact w_iretT C hr d_L_state_12 (Or.inr ⟨rfl, hx, rfl⟩)
  · skip
    refine w_istore_n (lv2 := [(2, .int r9), (0, .ref (ad 0)), (1, .int p0)]) C d_L_state_5 rfl (by decide) rfl ?_
    refine w_goto C 13 d_L_state_6 (by decide) ?_
    refine w_iload_n C 0 d_L_state_13 rfl rfl ?_
    refine w_widen (k2 := 1) (n2 := 6) (Nat.le_of_ble_eq_true rfl) (Nat.le_of_ble_eq_true rfl) ?_
    exact w_iretT C hr d_L_state_14 (Or.inl h9)
set_option maxHeartbeats 4000000 in
set_option maxRecDepth 100000 in
theorem c_L_devices {l : Launch} {D : va_G} {cs : Nat → ClassId} {ad : Nat → Nat} {st mt : Nat → Nat → Int32} {ov : Nat → Int64} {p0 p1 : Int32} {jc : Nat} (hjc : jc ≤ 8) (hj0 : st 0 4 = nI jc) (hl : l.stackTraces = false) : gW l y_L_devices b_L_devices 5 (some .int) [(0, 7, 10, 14), (0, 7, 15, 16)] ({ frames := 8, cells := 2, slots := 12, locals := 145 } : Room) 2 12 [.ref (ad 0), .int p0, .int p1] D cs ad st mt ov (QTi D cs ad mt ov (fun r u => V_devices st jc p0 p1 r u)) := by
  refine gW_of (own := "TwinRegisterLaw") (by decide +kernel) rfl (Nat.le_of_ble_eq_true rfl) ?_
  intro p e s m args below meth c C hr ht9
  refine w_lv (lv2 := [(0, .ref (ad 0)), (1, .int p0), (2, .int p1)]) [0, 1, 2] rfl ?_
  refine w_aload_n C 0 d_L_devices_0 rfl rfl ?_
  refine w_iload_n C 1 d_L_devices_1 rfl rfl ?_
  refine w_iload_n C 2 d_L_devices_2 rfl rfl ?_
  refine w_xcatTi C (w_runVX C (c_T_devices hjc hj0 hl) (by omega) e_T rfl rfl m_564 m_565 m_566 m_24 m_567 ⟨rfl, rfl⟩ hd_T_devices rfl ⟨Nat.le_of_ble_eq_true rfl, Nat.le_of_ble_eq_true rfl⟩ rfl (Nat.le_of_ble_eq_true rfl) d_L_devices_3 ⟨Nat.le_of_ble_eq_true rfl, Nat.le_of_ble_eq_true rfl⟩) (fun E q9 h9 => ?_) (fun r9 u9 h9 => ?_)
  · skip
    rcases h9 with ⟨rfl, hx⟩ | ⟨rfl, hx⟩
    · skip
      refine w_catch (name := xO) C ht9 (tableOf []) ⟨0, 7, 10, 14⟩ (tableOf [(0, 7, 15, 16)]) rfl (fun z hz => by cases hz) (by decide +kernel) (by decide) m_190 m_201 ?_
      refine w_astore (lv2 := [(4, .ref _), (0, .ref (ad 0)), (1, .int p0), (2, .int p1)]) C d_L_devices_10 (by decide) rfl ?_
      refine w_bipush (v := -71) C d_L_devices_12 rfl ?_
      refine w_widen (k2 := 2) (n2 := 12) (Nat.le_of_ble_eq_true rfl) (Nat.le_of_ble_eq_true rfl) ?_
      exact w_iretT C hr d_L_devices_14 (Or.inr (Or.inl ⟨rfl, hx, rfl⟩))
    · skip
      refine w_catch (name := xA) C ht9 (tableOf [(0, 7, 10, 14)]) ⟨0, 7, 15, 16⟩ (tableOf []) rfl (fun z hz => by
          simp only [tableOf, List.map, List.mem_cons, List.mem_nil_iff, or_false] at hz
          subst hz
          · exact ⟨by decide, xO, m_190, by decide +kernel⟩) (by decide +kernel) (by decide) m_191 m_272 ?_
      refine w_astore (lv2 := [(4, .ref _), (0, .ref (ad 0)), (1, .int p0), (2, .int p1)]) C d_L_devices_15 (by decide) rfl ?_
      refine w_bipush (v := -72) C d_L_devices_17 rfl ?_
      refine w_widen (k2 := 2) (n2 := 12) (Nat.le_of_ble_eq_true rfl) (Nat.le_of_ble_eq_true rfl) ?_
      exact w_iretT C hr d_L_devices_19 (Or.inr (Or.inr ⟨rfl, hx, rfl⟩))
  · skip
    refine w_istore_n (lv2 := [(3, .int r9), (0, .ref (ad 0)), (1, .int p0), (2, .int p1)]) C d_L_devices_6 rfl (by decide) rfl ?_
    refine w_goto C 20 d_L_devices_7 (by decide) ?_
    refine w_iload_n C 0 d_L_devices_20 rfl rfl ?_
    refine w_widen (k2 := 2) (n2 := 12) (Nat.le_of_ble_eq_true rfl) (Nat.le_of_ble_eq_true rfl) ?_
    exact w_iretT C hr d_L_devices_21 (Or.inl h9)
