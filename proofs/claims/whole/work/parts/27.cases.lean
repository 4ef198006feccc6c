/-! ===== the law's own rows ===== -/
def LX (s : State) (A : Nat → Prop) (b L : Nat) (xs : Nat → Int32) : Prop := va_X b L xs s s.heap ∧ b < s.heap.size ∧ ¬ A b
section LAWROWS
variable {p : Program} {l : Launch} {e : Env} {R : Room} {s : State} {m : MethodId} {args : Array Value} {below : List Frame} {meth : Method} {c : Code} {Q : State → Prop} {D : va_G} {cs : Nat → ClassId} {ad : Nat → Nat} {A : Nat → Prop} {nL : Nat} {cc : ByteArray} {own : String} {cells slots : Nat} {pc : Nat} {lv : List (Nat × Value)} {stk : List Value} {st mt : Nat → Nat → Int32} {ov : Nat → Int64}
theorem w_sld (C : Cx p s m args meth c D cs ad A cc nL own) {b L : Nat} {xs : Nat → Int32} (X : LX s A b L xs) {x : Int32} {j : Nat} (hx : x = nI j) (hj : j < L) (hL : L ≤ 3072) (d : decode cc pc = .ok (.iaload, 1)) (k : Wg p l e R s m args below meth c Q D cs ad A nL cells slots (pc + 1) lv (.int (xs j) :: stk) st mt ov) : Wg p l e R s m args below meth c Q D cs ad A nL cells slots pc lv (.int x :: .ref b :: stk) st mt ov := by
  intro H locs ls hP hS hl
  subst hx
  refine va_sld C.1 C.2.1 X.1 X.2.1 X.2.2 hS (vp_in_nI hj (by omega)) d ?_
  rw [nI_clamp (by omega)]
  exact k H locs ls hP hS hl
theorem w_slen (C : Cx p s m args meth c D cs ad A cc nL own) {b L : Nat} {xs : Nat → Int32} (X : LX s A b L xs) (d : decode cc pc = .ok (.arraylength, 1)) (k : Wg p l e R s m args below meth c Q D cs ad A nL cells slots (pc + 1) lv (.int (nI L) :: stk) st mt ov) : Wg p l e R s m args below meth c Q D cs ad A nL cells slots pc lv (.ref b :: stk) st mt ov :=
  fun H locs ls hP hS hl => va_slen C.1 C.2.1 X.1 X.2.1 X.2.2 hS d (k H locs ls hP hS hl)
theorem w_tabOut (C : Cx p s m args meth c D cs ad A cc nL own) {dflt lo hi : Int} {offs : Array Int} {len : Nat} {x : Int32} (tgt : Nat) (d : decode cc pc = .ok (.tableswitch dflt lo hi offs, len)) (h : x.toInt < lo ∨ hi < x.toInt) (ht : (pc : Int) + dflt = (tgt : Int)) (k : Wg p l e R s m args below meth c Q D cs ad A nL cells slots tgt lv stk st mt ov) : Wg p l e R s m args below meth c Q D cs ad A nL cells slots pc lv (.int x :: stk) st mt ov :=
  fun H locs ls hP hS hl => lv_tableOut C.1 C.2.1 d h ht (k H locs ls hP hS hl)
theorem w_tabIn (C : Cx p s m args meth c D cs ad A cc nL own) {dflt lo hi : Int} {offs : Array Int} {len : Nat} {x : Int32} {off : Int} (tgt : Nat) (d : decode cc pc = .ok (.tableswitch dflt lo hi offs, len)) (h1 : ¬ x.toInt < lo) (h2 : ¬ hi < x.toInt) (ho : offs[(x.toInt - lo).toNat]? = some off) (ht : (pc : Int) + off = (tgt : Int)) (k : Wg p l e R s m args below meth c Q D cs ad A nL cells slots tgt lv stk st mt ov) : Wg p l e R s m args below meth c Q D cs ad A nL cells slots pc lv (.int x :: stk) st mt ov :=
  fun H locs ls hP hS hl => lv_tableIn C.1 C.2.1 d h1 h2 ho ht (k H locs ls hP hS hl)
end LAWROWS
theorem lg_self (x : Int64) : lg_cmp x x = 0 := by
  unfold lg_cmp
  rw [if_neg (fun h => Int.lt_irrefl _ (Int64.lt_iff_toInt_lt.mp h)), if_pos rfl]
theorem lg_same {x y : Int64} (h : x = y) : lg_cmp x y = 0 := by rw [h, lg_self]
theorem ov_0 {ov w : Nat → Int64} {x : Int64} (h : w = vp_updL ov 0 x) : w 0 = x := by
  rw [h]
  simp [vp_updL]
theorem ix1 (i : Nat) : nI i + 1 = nI (i + 1) := nI_add i 1
theorem ix2 (i : Nat) : nI i + 2 = nI (i + 2) := nI_add i 2
theorem ix3 (i : Nat) : nI i + 3 = nI (i + 3) := nI_add i 3
theorem ix4 (i : Nat) : nI i + 4 = nI (i + 4) := nI_add i 4
theorem ix5 (i : Nat) : nI i + 5 = nI (i + 5) := nI_add i 5
theorem ix6 (i : Nat) : nI i + 6 = nI (i + 6) := nI_add i 6
abbrev lvI (b : Nat) (ad : Nat → Nat) (i : Nat) : List (Nat × Value) := [(4, .int (nI i)), (3, .ref (ad 71)), (2, .ref (ad 50)), (1, .ref (ad 0)), (0, .ref b)]
set_option maxHeartbeats 4000000 in
set_option maxRecDepth 100000 in
theorem q_put {p : Program} {l : Launch} {e : Env} {s : State} {m : MethodId} {args : Array Value} {below : List Frame} {meth : Method} {c : Code} {Q : State → Prop} {D : va_G} {cs : Nat → ClassId} {ad : Nat → Nat} {A : Nat → Prop} {b L : Nat} {xs : Nat → Int32} (C : Cx p s m args meth c D cs ad A code 7 "TwinRegisterLaw") (X : LX s A b L xs) (hl : l.stackTraces = false) (hL : L ≤ 3072) {i cells slots : Nat} {st mt : St} {ov : Nat → Int64} (hR : Rel st mt) (hi : i + 6 ≤ L) (hcs : cells + 6 ≤ 637624 ∧ slots + 36 ≤ 7183232) (k : ∀ (st2 mt2 : St) (ov2 : Nat → Int64), Rel st2 mt2 → Wg p l e room_1 s m args below meth c Q D cs ad A 7 (cells + 6) (slots + 36) 1549 (lvI b ad i) [] st2 mt2 ov2) : Wg p l e room_1 s m args below meth c Q D cs ad A 7 cells slots 148 (lvI b ad i) [] st mt ov := by
  refine w_aload_n C 3 d_law_148 rfl rfl ?_
  refine w_aload_n C 4 d_law_149 rfl rfl ?_
  refine w_iload C 0 d_law_150 rfl ?_
  refine w_iconst (v := 1) C d_law_152 rfl ?_
  refine w_iadd C d_law_153 ?_
  refine w_sld C X (ix1 i) (by omega) hL d_law_154 ?_
  refine w_aload_n C 4 d_law_155 rfl rfl ?_
  refine w_iload C 0 d_law_156 rfl ?_
  refine w_iconst (v := 2) C d_law_158 rfl ?_
  refine w_iadd C d_law_159 ?_
  refine w_sld C X (ix2 i) (by omega) hL d_law_160 ?_
  refine w_aload_n C 1 d_law_161 rfl rfl ?_
  refine w_callLi C (w_runSW C (c_L_put hl) m_237 m_238 m_35 m_239 ⟨rfl, rfl⟩ hd_L_put rfl ⟨Nat.le_of_ble_eq_true rfl, Nat.le_of_ble_eq_true rfl⟩ rfl (Nat.le_of_ble_eq_true rfl) d_law_162 ⟨Nat.le_trans (Nat.add_le_add_left (Nat.le_of_ble_eq_true rfl) cells) hcs.1, Nat.le_trans (Nat.add_le_add_left (Nat.le_of_ble_eq_true rfl) slots) hcs.2⟩) (fun r w hw => ?_)
  refine w_widen (k2 := cells + 6) (n2 := slots + 36) (Nat.add_le_add_left (Nat.le_of_ble_eq_true rfl) cells) (Nat.add_le_add_left (Nat.le_of_ble_eq_true rfl) slots) ?_
  refine w_istore (lv2 := [(5, .int r), (4, .int (nI i)), (3, .ref (ad 71)), (2, .ref (ad 50)), (1, .ref (ad 0)), (0, .ref b)]) C d_law_165 (by decide) rfl ?_
  refine w_aload_n C 3 d_law_167 rfl rfl ?_
  refine w_aload_n C 5 d_law_168 rfl rfl ?_
  refine w_iload C 1 d_law_169 rfl ?_
  refine w_iconst (v := 1) C d_law_171 rfl ?_
  refine w_iadd C d_law_172 ?_
  refine w_sld C X (ix1 i) (by omega) hL d_law_173 ?_
  refine w_aload_n C 5 d_law_174 rfl rfl ?_
  refine w_iload C 1 d_law_175 rfl ?_
  refine w_iconst (v := 2) C d_law_177 rfl ?_
  refine w_iadd C d_law_178 ?_
  refine w_sld C X (ix2 i) (by omega) hL d_law_179 ?_
  refine w_callMi C (w_runV C (c_M_put ) (by omega) e_M rfl rfl m_640 m_641 m_642 m_41 m_643 ⟨rfl, rfl⟩ hd_M_put rfl ⟨Nat.le_of_ble_eq_true rfl, Nat.le_of_ble_eq_true rfl⟩ rfl (Nat.le_of_ble_eq_true rfl) d_law_180 hcs) (fun b2 u hu => ?_)
  obtain ⟨e0, e1, hR2⟩ := z_put hR hw hu
  refine w_istore (lv2 := [(6, .int b2), (5, .int r), (4, .int (nI i)), (3, .ref (ad 71)), (2, .ref (ad 50)), (1, .ref (ad 0)), (0, .ref b)]) C d_law_183 (by decide) rfl ?_
  refine w_aload_n C 4 d_law_185 rfl rfl ?_
  refine w_callMi C (w_runV C c_M_thrown (by omega) e_M rfl rfl m_636 m_637 m_638 m_41 m_639 ⟨rfl, rfl⟩ hd_M_thrown rfl ⟨Nat.le_of_ble_eq_true rfl, Nat.le_of_ble_eq_true rfl⟩ rfl (Nat.le_of_ble_eq_true rfl) d_law_186 hcs) (fun r3 u3 h3 => ?_)
  obtain ⟨rfl, h3⟩ := h3
  have h3 := h3.symm
  subst h3
  refine w_iload C 1 d_law_189 rfl ?_
  refine w_icmp_eq_t C 196 d_law_191 (by decide) e0 ?_
  refine w_iload C 1 d_law_196 rfl ?_
  refine w_if_ne C 213 d_law_198 (by decide) (fun _ => ?_) (fun hr0 => ?_)
  · refine w_goto C 1549 d_law_213 (by decide) ?_
    refine w_lv [2, 3, 4, 5, 6] rfl ?_
    exact k _ _ _ hR2
  have e2 := ov_0 (e1 hr0)
  refine w_aload_n C 3 d_law_201 rfl rfl ?_
  refine w_iconst (v := 0) C d_law_202 rfl ?_
  refine la_O C rfl d_law_203 ?_
  refine w_iload C 0 d_law_204 rfl ?_
  refine w_i2l C d_law_206 ?_
  refine w_lcmp C d_law_207 ?_
  refine w_if_eq_t C 213 d_law_208 (by decide) (lg_same e2) ?_
  refine w_goto C 1549 d_law_213 (by decide) ?_
  refine w_lv [2, 3, 4, 5, 6] rfl ?_
  exact k _ _ _ hR2
set_option maxHeartbeats 4000000 in
set_option maxRecDepth 100000 in
theorem q_drop {p : Program} {l : Launch} {e : Env} {s : State} {m : MethodId} {args : Array Value} {below : List Frame} {meth : Method} {c : Code} {Q : State → Prop} {D : va_G} {cs : Nat → ClassId} {ad : Nat → Nat} {A : Nat → Prop} {b L : Nat} {xs : Nat → Int32} (C : Cx p s m args meth c D cs ad A code 7 "TwinRegisterLaw") (X : LX s A b L xs) (hl : l.stackTraces = false) (hL : L ≤ 3072) {i cells slots : Nat} {st mt : St} {ov : Nat → Int64} (hR : Rel st mt) (hi : i + 6 ≤ L) (hcs : cells + 6 ≤ 637624 ∧ slots + 36 ≤ 7183232) (k : ∀ (st2 mt2 : St) (ov2 : Nat → Int64), Rel st2 mt2 → Wg p l e room_1 s m args below meth c Q D cs ad A 7 (cells + 6) (slots + 36) 1549 (lvI b ad i) [] st2 mt2 ov2) : Wg p l e room_1 s m args below meth c Q D cs ad A 7 cells slots 216 (lvI b ad i) [] st mt ov := by
  refine w_aload_n C 3 d_law_216 rfl rfl ?_
  refine w_aload_n C 4 d_law_217 rfl rfl ?_
  refine w_iload C 0 d_law_218 rfl ?_
  refine w_iconst (v := 1) C d_law_220 rfl ?_
  refine w_iadd C d_law_221 ?_
  refine w_sld C X (ix1 i) (by omega) hL d_law_222 ?_
  refine w_aload_n C 1 d_law_223 rfl rfl ?_
  refine w_callLi C (w_runSW C (c_L_drop hl) m_345 m_346 m_35 m_347 ⟨rfl, rfl⟩ hd_L_drop rfl ⟨Nat.le_of_ble_eq_true rfl, Nat.le_of_ble_eq_true rfl⟩ rfl (Nat.le_of_ble_eq_true rfl) d_law_224 ⟨Nat.le_trans (Nat.add_le_add_left (Nat.le_of_ble_eq_true rfl) cells) hcs.1, Nat.le_trans (Nat.add_le_add_left (Nat.le_of_ble_eq_true rfl) slots) hcs.2⟩) (fun r w hw => ?_)
  refine w_widen (k2 := cells + 6) (n2 := slots + 36) (Nat.add_le_add_left (Nat.le_of_ble_eq_true rfl) cells) (Nat.add_le_add_left (Nat.le_of_ble_eq_true rfl) slots) ?_
  refine w_istore (lv2 := [(5, .int r), (4, .int (nI i)), (3, .ref (ad 71)), (2, .ref (ad 50)), (1, .ref (ad 0)), (0, .ref b)]) C d_law_227 (by decide) rfl ?_
  refine w_aload_n C 3 d_law_229 rfl rfl ?_
  refine w_aload_n C 5 d_law_230 rfl rfl ?_
  refine w_iload C 1 d_law_231 rfl ?_
  refine w_iconst (v := 1) C d_law_233 rfl ?_
  refine w_iadd C d_law_234 ?_
  refine w_sld C X (ix1 i) (by omega) hL d_law_235 ?_
  refine w_callMi C (w_runV C (c_M_drop ) (by omega) e_M rfl rfl m_654 m_655 m_656 m_41 m_657 ⟨rfl, rfl⟩ hd_M_drop rfl ⟨Nat.le_of_ble_eq_true rfl, Nat.le_of_ble_eq_true rfl⟩ rfl (Nat.le_of_ble_eq_true rfl) d_law_236 hcs) (fun b2 u hu => ?_)
  obtain ⟨e0, e1, hR2⟩ := z_drop hR hw hu
  refine w_istore (lv2 := [(6, .int b2), (5, .int r), (4, .int (nI i)), (3, .ref (ad 71)), (2, .ref (ad 50)), (1, .ref (ad 0)), (0, .ref b)]) C d_law_239 (by decide) rfl ?_
  refine w_aload_n C 4 d_law_241 rfl rfl ?_
  refine w_callMi C (w_runV C c_M_thrown (by omega) e_M rfl rfl m_636 m_637 m_638 m_41 m_639 ⟨rfl, rfl⟩ hd_M_thrown rfl ⟨Nat.le_of_ble_eq_true rfl, Nat.le_of_ble_eq_true rfl⟩ rfl (Nat.le_of_ble_eq_true rfl) d_law_242 hcs) (fun r3 u3 h3 => ?_)
  obtain ⟨rfl, h3⟩ := h3
  have h3 := h3.symm
  subst h3
  refine w_iload C 1 d_law_245 rfl ?_
  refine w_icmp_eq_t C 252 d_law_247 (by decide) e0 ?_
  refine w_iload C 1 d_law_252 rfl ?_
  refine w_if_ne C 269 d_law_254 (by decide) (fun _ => ?_) (fun hr0 => ?_)
  · refine w_goto C 1549 d_law_269 (by decide) ?_
    refine w_lv [2, 3, 4, 5, 6] rfl ?_
    exact k _ _ _ hR2
  have e2 := ov_0 (e1 hr0)
  refine w_aload_n C 3 d_law_257 rfl rfl ?_
  refine w_iconst (v := 0) C d_law_258 rfl ?_
  refine la_O C rfl d_law_259 ?_
  refine w_iload C 0 d_law_260 rfl ?_
  refine w_i2l C d_law_262 ?_
  refine w_lcmp C d_law_263 ?_
  refine w_if_eq_t C 269 d_law_264 (by decide) (lg_same e2) ?_
  refine w_goto C 1549 d_law_269 (by decide) ?_
  refine w_lv [2, 3, 4, 5, 6] rfl ?_
  exact k _ _ _ hR2
set_option maxHeartbeats 4000000 in
set_option maxRecDepth 100000 in
theorem q_wish {p : Program} {l : Launch} {e : Env} {s : State} {m : MethodId} {args : Array Value} {below : List Frame} {meth : Method} {c : Code} {Q : State → Prop} {D : va_G} {cs : Nat → ClassId} {ad : Nat → Nat} {A : Nat → Prop} {b L : Nat} {xs : Nat → Int32} (C : Cx p s m args meth c D cs ad A code 7 "TwinRegisterLaw") (X : LX s A b L xs) (hl : l.stackTraces = false) (hL : L ≤ 3072) {i cells slots : Nat} {st mt : St} {ov : Nat → Int64} (hR : Rel st mt) (hi : i + 6 ≤ L) (hcs : cells + 6 ≤ 637624 ∧ slots + 36 ≤ 7183232) (k : ∀ (st2 mt2 : St) (ov2 : Nat → Int64), Rel st2 mt2 → Wg p l e room_1 s m args below meth c Q D cs ad A 7 (cells + 6) (slots + 36) 1549 (lvI b ad i) [] st2 mt2 ov2) : Wg p l e room_1 s m args below meth c Q D cs ad A 7 cells slots 272 (lvI b ad i) [] st mt ov := by
  refine w_aload_n C 3 d_law_272 rfl rfl ?_
  refine w_aload_n C 4 d_law_273 rfl rfl ?_
  refine w_iload C 0 d_law_274 rfl ?_
  refine w_iconst (v := 1) C d_law_276 rfl ?_
  refine w_iadd C d_law_277 ?_
  refine w_sld C X (ix1 i) (by omega) hL d_law_278 ?_
  refine w_aload_n C 4 d_law_279 rfl rfl ?_
  refine w_iload C 0 d_law_280 rfl ?_
  refine w_iconst (v := 2) C d_law_282 rfl ?_
  refine w_iadd C d_law_283 ?_
  refine w_sld C X (ix2 i) (by omega) hL d_law_284 ?_
  refine w_aload_n C 1 d_law_285 rfl rfl ?_
  refine w_callLi C (w_runSW C (c_L_wish hl) m_353 m_354 m_35 m_355 ⟨rfl, rfl⟩ hd_L_wish rfl ⟨Nat.le_of_ble_eq_true rfl, Nat.le_of_ble_eq_true rfl⟩ rfl (Nat.le_of_ble_eq_true rfl) d_law_286 ⟨Nat.le_trans (Nat.add_le_add_left (Nat.le_of_ble_eq_true rfl) cells) hcs.1, Nat.le_trans (Nat.add_le_add_left (Nat.le_of_ble_eq_true rfl) slots) hcs.2⟩) (fun r w hw => ?_)
  refine w_widen (k2 := cells + 6) (n2 := slots + 36) (Nat.add_le_add_left (Nat.le_of_ble_eq_true rfl) cells) (Nat.add_le_add_left (Nat.le_of_ble_eq_true rfl) slots) ?_
  refine w_istore (lv2 := [(5, .int r), (4, .int (nI i)), (3, .ref (ad 71)), (2, .ref (ad 50)), (1, .ref (ad 0)), (0, .ref b)]) C d_law_289 (by decide) rfl ?_
  refine w_aload_n C 3 d_law_291 rfl rfl ?_
  refine w_aload_n C 5 d_law_292 rfl rfl ?_
  refine w_iload C 1 d_law_293 rfl ?_
  refine w_iconst (v := 1) C d_law_295 rfl ?_
  refine w_iadd C d_law_296 ?_
  refine w_sld C X (ix1 i) (by omega) hL d_law_297 ?_
  refine w_aload_n C 5 d_law_298 rfl rfl ?_
  refine w_iload C 1 d_law_299 rfl ?_
  refine w_iconst (v := 2) C d_law_301 rfl ?_
  refine w_iadd C d_law_302 ?_
  refine w_sld C X (ix2 i) (by omega) hL d_law_303 ?_
  refine w_callMi C (w_runV C (c_M_wish ) (by omega) e_M rfl rfl m_658 m_659 m_660 m_41 m_661 ⟨rfl, rfl⟩ hd_M_wish rfl ⟨Nat.le_of_ble_eq_true rfl, Nat.le_of_ble_eq_true rfl⟩ rfl (Nat.le_of_ble_eq_true rfl) d_law_304 hcs) (fun b2 u hu => ?_)
  obtain ⟨e0, e1, hR2⟩ := z_wish hR hw hu
  refine w_istore (lv2 := [(6, .int b2), (5, .int r), (4, .int (nI i)), (3, .ref (ad 71)), (2, .ref (ad 50)), (1, .ref (ad 0)), (0, .ref b)]) C d_law_307 (by decide) rfl ?_
  refine w_aload_n C 4 d_law_309 rfl rfl ?_
  refine w_callMi C (w_runV C c_M_thrown (by omega) e_M rfl rfl m_636 m_637 m_638 m_41 m_639 ⟨rfl, rfl⟩ hd_M_thrown rfl ⟨Nat.le_of_ble_eq_true rfl, Nat.le_of_ble_eq_true rfl⟩ rfl (Nat.le_of_ble_eq_true rfl) d_law_310 hcs) (fun r3 u3 h3 => ?_)
  obtain ⟨rfl, h3⟩ := h3
  have h3 := h3.symm
  subst h3
  refine w_iload C 1 d_law_313 rfl ?_
  refine w_icmp_eq_t C 320 d_law_315 (by decide) e0 ?_
  refine w_iload C 1 d_law_320 rfl ?_
  refine w_if_ne C 337 d_law_322 (by decide) (fun _ => ?_) (fun hr0 => ?_)
  · refine w_goto C 1549 d_law_337 (by decide) ?_
    refine w_lv [2, 3, 4, 5, 6] rfl ?_
    exact k _ _ _ hR2
  have e2 := ov_0 (e1 hr0)
  refine w_aload_n C 3 d_law_325 rfl rfl ?_
  refine w_iconst (v := 0) C d_law_326 rfl ?_
  refine la_O C rfl d_law_327 ?_
  refine w_iload C 0 d_law_328 rfl ?_
  refine w_i2l C d_law_330 ?_
  refine w_lcmp C d_law_331 ?_
  refine w_if_eq_t C 337 d_law_332 (by decide) (lg_same e2) ?_
  refine w_goto C 1549 d_law_337 (by decide) ?_
  refine w_lv [2, 3, 4, 5, 6] rfl ?_
  exact k _ _ _ hR2
set_option maxHeartbeats 4000000 in
set_option maxRecDepth 100000 in
theorem q_report {p : Program} {l : Launch} {e : Env} {s : State} {m : MethodId} {args : Array Value} {below : List Frame} {meth : Method} {c : Code} {Q : State → Prop} {D : va_G} {cs : Nat → ClassId} {ad : Nat → Nat} {A : Nat → Prop} {b L : Nat} {xs : Nat → Int32} (C : Cx p s m args meth c D cs ad A code 7 "TwinRegisterLaw") (X : LX s A b L xs) (hl : l.stackTraces = false) (hL : L ≤ 3072) {i cells slots : Nat} {st mt : St} {ov : Nat → Int64} (hR : Rel st mt) (hi : i + 6 ≤ L) (hcs : cells + 6 ≤ 637624 ∧ slots + 36 ≤ 7183232) (k : ∀ (st2 mt2 : St) (ov2 : Nat → Int64), Rel st2 mt2 → Wg p l e room_1 s m args below meth c Q D cs ad A 7 (cells + 6) (slots + 36) 1549 (lvI b ad i) [] st2 mt2 ov2) : Wg p l e room_1 s m args below meth c Q D cs ad A 7 cells slots 340 (lvI b ad i) [] st mt ov := by
  refine w_aload_n C 3 d_law_340 rfl rfl ?_
  refine w_aload_n C 4 d_law_341 rfl rfl ?_
  refine w_iload C 0 d_law_342 rfl ?_
  refine w_iconst (v := 1) C d_law_344 rfl ?_
  refine w_iadd C d_law_345 ?_
  refine w_sld C X (ix1 i) (by omega) hL d_law_346 ?_
  refine w_aload_n C 4 d_law_347 rfl rfl ?_
  refine w_iload C 0 d_law_348 rfl ?_
  refine w_iconst (v := 2) C d_law_350 rfl ?_
  refine w_iadd C d_law_351 ?_
  refine w_sld C X (ix2 i) (by omega) hL d_law_352 ?_
  refine w_aload_n C 1 d_law_353 rfl rfl ?_
  refine w_callLi C (w_runSW C (c_L_report hl) m_395 m_396 m_35 m_397 ⟨rfl, rfl⟩ hd_L_report rfl ⟨Nat.le_of_ble_eq_true rfl, Nat.le_of_ble_eq_true rfl⟩ rfl (Nat.le_of_ble_eq_true rfl) d_law_354 ⟨Nat.le_trans (Nat.add_le_add_left (Nat.le_of_ble_eq_true rfl) cells) hcs.1, Nat.le_trans (Nat.add_le_add_left (Nat.le_of_ble_eq_true rfl) slots) hcs.2⟩) (fun r w hw => ?_)
  refine w_widen (k2 := cells + 6) (n2 := slots + 36) (Nat.add_le_add_left (Nat.le_of_ble_eq_true rfl) cells) (Nat.add_le_add_left (Nat.le_of_ble_eq_true rfl) slots) ?_
  refine w_istore (lv2 := [(5, .int r), (4, .int (nI i)), (3, .ref (ad 71)), (2, .ref (ad 50)), (1, .ref (ad 0)), (0, .ref b)]) C d_law_357 (by decide) rfl ?_
  refine w_aload_n C 3 d_law_359 rfl rfl ?_
  refine w_aload_n C 5 d_law_360 rfl rfl ?_
  refine w_iload C 1 d_law_361 rfl ?_
  refine w_iconst (v := 1) C d_law_363 rfl ?_
  refine w_iadd C d_law_364 ?_
  refine w_sld C X (ix1 i) (by omega) hL d_law_365 ?_
  refine w_aload_n C 5 d_law_366 rfl rfl ?_
  refine w_iload C 1 d_law_367 rfl ?_
  refine w_iconst (v := 2) C d_law_369 rfl ?_
  refine w_iadd C d_law_370 ?_
  refine w_sld C X (ix2 i) (by omega) hL d_law_371 ?_
  refine w_callMi C (w_runV C (c_M_report ) (by omega) e_M rfl rfl m_673 m_674 m_675 m_41 m_676 ⟨rfl, rfl⟩ hd_M_report rfl ⟨Nat.le_of_ble_eq_true rfl, Nat.le_of_ble_eq_true rfl⟩ rfl (Nat.le_of_ble_eq_true rfl) d_law_372 hcs) (fun b2 u hu => ?_)
  obtain ⟨e0, e1, hR2⟩ := z_report hR hw hu
  refine w_istore (lv2 := [(6, .int b2), (5, .int r), (4, .int (nI i)), (3, .ref (ad 71)), (2, .ref (ad 50)), (1, .ref (ad 0)), (0, .ref b)]) C d_law_375 (by decide) rfl ?_
  refine w_aload_n C 4 d_law_377 rfl rfl ?_
  refine w_callMi C (w_runV C c_M_thrown (by omega) e_M rfl rfl m_636 m_637 m_638 m_41 m_639 ⟨rfl, rfl⟩ hd_M_thrown rfl ⟨Nat.le_of_ble_eq_true rfl, Nat.le_of_ble_eq_true rfl⟩ rfl (Nat.le_of_ble_eq_true rfl) d_law_378 hcs) (fun r3 u3 h3 => ?_)
  obtain ⟨rfl, h3⟩ := h3
  have h3 := h3.symm
  subst h3
  refine w_iload C 1 d_law_381 rfl ?_
  refine w_icmp_eq_t C 388 d_law_383 (by decide) e0 ?_
  refine w_iload C 1 d_law_388 rfl ?_
  refine w_if_ne C 405 d_law_390 (by decide) (fun _ => ?_) (fun hr0 => ?_)
  · refine w_goto C 1549 d_law_405 (by decide) ?_
    refine w_lv [2, 3, 4, 5, 6] rfl ?_
    exact k _ _ _ hR2
  have e2 := ov_0 (e1 hr0)
  refine w_aload_n C 3 d_law_393 rfl rfl ?_
  refine w_iconst (v := 0) C d_law_394 rfl ?_
  refine la_O C rfl d_law_395 ?_
  refine w_iload C 0 d_law_396 rfl ?_
  refine w_i2l C d_law_398 ?_
  refine w_lcmp C d_law_399 ?_
  refine w_if_eq_t C 405 d_law_400 (by decide) (lg_same e2) ?_
  refine w_goto C 1549 d_law_405 (by decide) ?_
  refine w_lv [2, 3, 4, 5, 6] rfl ?_
  exact k _ _ _ hR2
set_option maxHeartbeats 4000000 in
set_option maxRecDepth 100000 in
theorem q_obey {p : Program} {l : Launch} {e : Env} {s : State} {m : MethodId} {args : Array Value} {below : List Frame} {meth : Method} {c : Code} {Q : State → Prop} {D : va_G} {cs : Nat → ClassId} {ad : Nat → Nat} {A : Nat → Prop} {b L : Nat} {xs : Nat → Int32} (C : Cx p s m args meth c D cs ad A code 7 "TwinRegisterLaw") (X : LX s A b L xs) (hl : l.stackTraces = false) (hL : L ≤ 3072) {i cells slots : Nat} {st mt : St} {ov : Nat → Int64} (hR : Rel st mt) (hi : i + 6 ≤ L) (hcs : cells + 6 ≤ 637624 ∧ slots + 36 ≤ 7183232) (k : ∀ (st2 mt2 : St) (ov2 : Nat → Int64), Rel st2 mt2 → Wg p l e room_1 s m args below meth c Q D cs ad A 7 (cells + 6) (slots + 36) 1549 (lvI b ad i) [] st2 mt2 ov2) : Wg p l e room_1 s m args below meth c Q D cs ad A 7 cells slots 408 (lvI b ad i) [] st mt ov := by
  refine w_aload_n C 3 d_law_408 rfl rfl ?_
  refine w_aload_n C 4 d_law_409 rfl rfl ?_
  refine w_iload C 0 d_law_410 rfl ?_
  refine w_iconst (v := 1) C d_law_412 rfl ?_
  refine w_iadd C d_law_413 ?_
  refine w_sld C X (ix1 i) (by omega) hL d_law_414 ?_
  refine w_aload_n C 1 d_law_415 rfl rfl ?_
  refine w_callLi C (w_runSW C (c_L_obey hl) m_414 m_415 m_35 m_416 ⟨rfl, rfl⟩ hd_L_obey rfl ⟨Nat.le_of_ble_eq_true rfl, Nat.le_of_ble_eq_true rfl⟩ rfl (Nat.le_of_ble_eq_true rfl) d_law_416 ⟨Nat.le_trans (Nat.add_le_add_left (Nat.le_of_ble_eq_true rfl) cells) hcs.1, Nat.le_trans (Nat.add_le_add_left (Nat.le_of_ble_eq_true rfl) slots) hcs.2⟩) (fun r w hw => ?_)
  refine w_widen (k2 := cells + 6) (n2 := slots + 36) (Nat.add_le_add_left (Nat.le_of_ble_eq_true rfl) cells) (Nat.add_le_add_left (Nat.le_of_ble_eq_true rfl) slots) ?_
  refine w_istore (lv2 := [(5, .int r), (4, .int (nI i)), (3, .ref (ad 71)), (2, .ref (ad 50)), (1, .ref (ad 0)), (0, .ref b)]) C d_law_419 (by decide) rfl ?_
  refine w_aload_n C 3 d_law_421 rfl rfl ?_
  refine w_aload_n C 5 d_law_422 rfl rfl ?_
  refine w_iload C 1 d_law_423 rfl ?_
  refine w_iconst (v := 1) C d_law_425 rfl ?_
  refine w_iadd C d_law_426 ?_
  refine w_sld C X (ix1 i) (by omega) hL d_law_427 ?_
  refine w_callMi C (w_runV C (c_M_obey ) (by omega) e_M rfl rfl m_688 m_689 m_690 m_41 m_691 ⟨rfl, rfl⟩ hd_M_obey rfl ⟨Nat.le_of_ble_eq_true rfl, Nat.le_of_ble_eq_true rfl⟩ rfl (Nat.le_of_ble_eq_true rfl) d_law_428 hcs) (fun b2 u hu => ?_)
  obtain ⟨e0, e1, hR2⟩ := z_obey hR hw hu
  refine w_istore (lv2 := [(6, .int b2), (5, .int r), (4, .int (nI i)), (3, .ref (ad 71)), (2, .ref (ad 50)), (1, .ref (ad 0)), (0, .ref b)]) C d_law_431 (by decide) rfl ?_
  refine w_aload_n C 4 d_law_433 rfl rfl ?_
  refine w_callMi C (w_runV C c_M_thrown (by omega) e_M rfl rfl m_636 m_637 m_638 m_41 m_639 ⟨rfl, rfl⟩ hd_M_thrown rfl ⟨Nat.le_of_ble_eq_true rfl, Nat.le_of_ble_eq_true rfl⟩ rfl (Nat.le_of_ble_eq_true rfl) d_law_434 hcs) (fun r3 u3 h3 => ?_)
  obtain ⟨rfl, h3⟩ := h3
  have h3 := h3.symm
  subst h3
  refine w_iload C 1 d_law_437 rfl ?_
  refine w_icmp_eq_t C 444 d_law_439 (by decide) e0 ?_
  refine w_iload C 1 d_law_444 rfl ?_
  refine w_if_ne C 461 d_law_446 (by decide) (fun _ => ?_) (fun hr0 => ?_)
  · refine w_goto C 1549 d_law_461 (by decide) ?_
    refine w_lv [2, 3, 4, 5, 6] rfl ?_
    exact k _ _ _ hR2
  have e2 := ov_0 (e1 hr0)
  refine w_aload_n C 3 d_law_449 rfl rfl ?_
  refine w_iconst (v := 0) C d_law_450 rfl ?_
  refine la_O C rfl d_law_451 ?_
  refine w_iload C 0 d_law_452 rfl ?_
  refine w_i2l C d_law_454 ?_
  refine w_lcmp C d_law_455 ?_
  refine w_if_eq_t C 461 d_law_456 (by decide) (lg_same e2) ?_
  refine w_goto C 1549 d_law_461 (by decide) ?_
  refine w_lv [2, 3, 4, 5, 6] rfl ?_
  exact k _ _ _ hR2
set_option maxHeartbeats 4000000 in
set_option maxRecDepth 100000 in
theorem q_refuse {p : Program} {l : Launch} {e : Env} {s : State} {m : MethodId} {args : Array Value} {below : List Frame} {meth : Method} {c : Code} {Q : State → Prop} {D : va_G} {cs : Nat → ClassId} {ad : Nat → Nat} {A : Nat → Prop} {b L : Nat} {xs : Nat → Int32} (C : Cx p s m args meth c D cs ad A code 7 "TwinRegisterLaw") (X : LX s A b L xs) (hl : l.stackTraces = false) (hL : L ≤ 3072) {i cells slots : Nat} {st mt : St} {ov : Nat → Int64} (hR : Rel st mt) (hi : i + 6 ≤ L) (hcs : cells + 6 ≤ 637624 ∧ slots + 36 ≤ 7183232) (k : ∀ (st2 mt2 : St) (ov2 : Nat → Int64), Rel st2 mt2 → Wg p l e room_1 s m args below meth c Q D cs ad A 7 (cells + 6) (slots + 36) 1549 (lvI b ad i) [] st2 mt2 ov2) : Wg p l e room_1 s m args below meth c Q D cs ad A 7 cells slots 464 (lvI b ad i) [] st mt ov := by
  refine w_aload_n C 3 d_law_464 rfl rfl ?_
  refine w_aload_n C 4 d_law_465 rfl rfl ?_
  refine w_iload C 0 d_law_466 rfl ?_
  refine w_iconst (v := 1) C d_law_468 rfl ?_
  refine w_iadd C d_law_469 ?_
  refine w_sld C X (ix1 i) (by omega) hL d_law_470 ?_
  refine w_aload_n C 4 d_law_471 rfl rfl ?_
  refine w_iload C 0 d_law_472 rfl ?_
  refine w_iconst (v := 2) C d_law_474 rfl ?_
  refine w_iadd C d_law_475 ?_
  refine w_sld C X (ix2 i) (by omega) hL d_law_476 ?_
  refine w_aload_n C 4 d_law_477 rfl rfl ?_
  refine w_iload C 0 d_law_478 rfl ?_
  refine w_iconst (v := 3) C d_law_480 rfl ?_
  refine w_iadd C d_law_481 ?_
  refine w_sld C X (ix3 i) (by omega) hL d_law_482 ?_
  refine w_aload_n C 1 d_law_483 rfl rfl ?_
  refine w_callLi C (w_runSW C (c_L_refuse hl) m_425 m_426 m_35 m_427 ⟨rfl, rfl⟩ hd_L_refuse rfl ⟨Nat.le_of_ble_eq_true rfl, Nat.le_of_ble_eq_true rfl⟩ rfl (Nat.le_of_ble_eq_true rfl) d_law_484 ⟨Nat.le_trans (Nat.add_le_add_left (Nat.le_of_ble_eq_true rfl) cells) hcs.1, Nat.le_trans (Nat.add_le_add_left (Nat.le_of_ble_eq_true rfl) slots) hcs.2⟩) (fun r w hw => ?_)
  refine w_widen (k2 := cells + 6) (n2 := slots + 36) (Nat.add_le_add_left (Nat.le_of_ble_eq_true rfl) cells) (Nat.add_le_add_left (Nat.le_of_ble_eq_true rfl) slots) ?_
  refine w_istore (lv2 := [(5, .int r), (4, .int (nI i)), (3, .ref (ad 71)), (2, .ref (ad 50)), (1, .ref (ad 0)), (0, .ref b)]) C d_law_487 (by decide) rfl ?_
  refine w_aload_n C 3 d_law_489 rfl rfl ?_
  refine w_aload_n C 5 d_law_490 rfl rfl ?_
  refine w_iload C 1 d_law_491 rfl ?_
  refine w_iconst (v := 1) C d_law_493 rfl ?_
  refine w_iadd C d_law_494 ?_
  refine w_sld C X (ix1 i) (by omega) hL d_law_495 ?_
  refine w_aload_n C 5 d_law_496 rfl rfl ?_
  refine w_iload C 1 d_law_497 rfl ?_
  refine w_iconst (v := 2) C d_law_499 rfl ?_
  refine w_iadd C d_law_500 ?_
  refine w_sld C X (ix2 i) (by omega) hL d_law_501 ?_
  refine w_aload_n C 5 d_law_502 rfl rfl ?_
  refine w_iload C 1 d_law_503 rfl ?_
  refine w_iconst (v := 3) C d_law_505 rfl ?_
  refine w_iadd C d_law_506 ?_
  refine w_sld C X (ix3 i) (by omega) hL d_law_507 ?_
  refine w_callMi C (w_runV C (c_M_refuse ) (by omega) e_M rfl rfl m_692 m_693 m_694 m_41 m_695 ⟨rfl, rfl⟩ hd_M_refuse rfl ⟨Nat.le_of_ble_eq_true rfl, Nat.le_of_ble_eq_true rfl⟩ rfl (Nat.le_of_ble_eq_true rfl) d_law_508 hcs) (fun b2 u hu => ?_)
  obtain ⟨e0, e1, hR2⟩ := z_refuse hR hw hu
  refine w_istore (lv2 := [(6, .int b2), (5, .int r), (4, .int (nI i)), (3, .ref (ad 71)), (2, .ref (ad 50)), (1, .ref (ad 0)), (0, .ref b)]) C d_law_511 (by decide) rfl ?_
  refine w_aload_n C 4 d_law_513 rfl rfl ?_
  refine w_callMi C (w_runV C c_M_thrown (by omega) e_M rfl rfl m_636 m_637 m_638 m_41 m_639 ⟨rfl, rfl⟩ hd_M_thrown rfl ⟨Nat.le_of_ble_eq_true rfl, Nat.le_of_ble_eq_true rfl⟩ rfl (Nat.le_of_ble_eq_true rfl) d_law_514 hcs) (fun r3 u3 h3 => ?_)
  obtain ⟨rfl, h3⟩ := h3
  have h3 := h3.symm
  subst h3
  refine w_iload C 1 d_law_517 rfl ?_
  refine w_icmp_eq_t C 524 d_law_519 (by decide) e0 ?_
  refine w_iload C 1 d_law_524 rfl ?_
  refine w_if_ne C 541 d_law_526 (by decide) (fun _ => ?_) (fun hr0 => ?_)
  · refine w_goto C 1549 d_law_541 (by decide) ?_
    refine w_lv [2, 3, 4, 5, 6] rfl ?_
    exact k _ _ _ hR2
  have e2 := ov_0 (e1 hr0)
  refine w_aload_n C 3 d_law_529 rfl rfl ?_
  refine w_iconst (v := 0) C d_law_530 rfl ?_
  refine la_O C rfl d_law_531 ?_
  refine w_iload C 0 d_law_532 rfl ?_
  refine w_i2l C d_law_534 ?_
  refine w_lcmp C d_law_535 ?_
  refine w_if_eq_t C 541 d_law_536 (by decide) (lg_same e2) ?_
  refine w_goto C 1549 d_law_541 (by decide) ?_
  refine w_lv [2, 3, 4, 5, 6] rfl ?_
  exact k _ _ _ hR2
set_option maxHeartbeats 4000000 in
set_option maxRecDepth 100000 in
theorem q_sleep {p : Program} {l : Launch} {e : Env} {s : State} {m : MethodId} {args : Array Value} {below : List Frame} {meth : Method} {c : Code} {Q : State → Prop} {D : va_G} {cs : Nat → ClassId} {ad : Nat → Nat} {A : Nat → Prop} {b L : Nat} {xs : Nat → Int32} (C : Cx p s m args meth c D cs ad A code 7 "TwinRegisterLaw") (X : LX s A b L xs) (hl : l.stackTraces = false) (hL : L ≤ 3072) {i cells slots : Nat} {st mt : St} {ov : Nat → Int64} (hR : Rel st mt) (hi : i + 6 ≤ L) (hcs : cells + 6 ≤ 637624 ∧ slots + 36 ≤ 7183232) (k : ∀ (st2 mt2 : St) (ov2 : Nat → Int64), Rel st2 mt2 → Wg p l e room_1 s m args below meth c Q D cs ad A 7 (cells + 6) (slots + 36) 1549 (lvI b ad i) [] st2 mt2 ov2) : Wg p l e room_1 s m args below meth c Q D cs ad A 7 cells slots 544 (lvI b ad i) [] st mt ov := by
  refine w_aload_n C 3 d_law_544 rfl rfl ?_
  refine w_aload_n C 4 d_law_545 rfl rfl ?_
  refine w_iload C 0 d_law_546 rfl ?_
  refine w_iconst (v := 1) C d_law_548 rfl ?_
  refine w_iadd C d_law_549 ?_
  refine w_sld C X (ix1 i) (by omega) hL d_law_550 ?_
  refine w_aload_n C 1 d_law_551 rfl rfl ?_
  refine w_callLi C (w_runSW C (c_L_sleep hl) m_437 m_438 m_35 m_439 ⟨rfl, rfl⟩ hd_L_sleep rfl ⟨Nat.le_of_ble_eq_true rfl, Nat.le_of_ble_eq_true rfl⟩ rfl (Nat.le_of_ble_eq_true rfl) d_law_552 ⟨Nat.le_trans (Nat.add_le_add_left (Nat.le_of_ble_eq_true rfl) cells) hcs.1, Nat.le_trans (Nat.add_le_add_left (Nat.le_of_ble_eq_true rfl) slots) hcs.2⟩) (fun r w hw => ?_)
  refine w_widen (k2 := cells + 6) (n2 := slots + 36) (Nat.add_le_add_left (Nat.le_of_ble_eq_true rfl) cells) (Nat.add_le_add_left (Nat.le_of_ble_eq_true rfl) slots) ?_
  refine w_istore (lv2 := [(5, .int r), (4, .int (nI i)), (3, .ref (ad 71)), (2, .ref (ad 50)), (1, .ref (ad 0)), (0, .ref b)]) C d_law_555 (by decide) rfl ?_
  refine w_aload_n C 3 d_law_557 rfl rfl ?_
  refine w_aload_n C 5 d_law_558 rfl rfl ?_
  refine w_iload C 1 d_law_559 rfl ?_
  refine w_iconst (v := 1) C d_law_561 rfl ?_
  refine w_iadd C d_law_562 ?_
  refine w_sld C X (ix1 i) (by omega) hL d_law_563 ?_
  refine w_callMi C (w_runV C (c_M_sleep ) (by omega) e_M rfl rfl m_696 m_697 m_698 m_41 m_699 ⟨rfl, rfl⟩ hd_M_sleep rfl ⟨Nat.le_of_ble_eq_true rfl, Nat.le_of_ble_eq_true rfl⟩ rfl (Nat.le_of_ble_eq_true rfl) d_law_564 hcs) (fun b2 u hu => ?_)
  obtain ⟨e0, e1, hR2⟩ := z_sleep hR hw hu
  have hb2 : b2 = 0 ∨ b2 = 1 := by
    rcases hu with ⟨-, -, h⟩ | ⟨_, _, _, ⟨-, -, h⟩ | ⟨-, -, h⟩⟩
    · exact Or.inl h
    · exact Or.inr h
    · exact Or.inl h
  refine w_istore (lv2 := [(6, .int b2), (5, .int r), (4, .int (nI i)), (3, .ref (ad 71)), (2, .ref (ad 50)), (1, .ref (ad 0)), (0, .ref b)]) C d_law_567 (by decide) rfl ?_
  refine w_aload_n C 4 d_law_569 rfl rfl ?_
  refine w_callMi C (w_runV C c_M_thrown (by omega) e_M rfl rfl m_636 m_637 m_638 m_41 m_639 ⟨rfl, rfl⟩ hd_M_thrown rfl ⟨Nat.le_of_ble_eq_true rfl, Nat.le_of_ble_eq_true rfl⟩ rfl (Nat.le_of_ble_eq_true rfl) d_law_570 hcs) (fun r3 u3 h3 => ?_)
  obtain ⟨rfl, h3⟩ := h3
  have h3 := h3.symm
  subst h3
  refine w_iload C 1 d_law_573 rfl ?_
  refine w_icmp_eq_t C 580 d_law_575 (by decide) e0 ?_
  refine w_iload C 1 d_law_580 rfl ?_
  refine w_if_ne C 604 d_law_582 (by decide) (fun _ => ?_) (fun hr0 => ?_)
  · refine w_goto C 1549 d_law_604 (by decide) ?_
    refine w_lv [2, 3, 4, 5, 6] rfl ?_
    exact k _ _ _ hR2
  have e2 := ov_0 (e1 hr0)
  refine w_aload_n C 3 d_law_585 rfl rfl ?_
  refine w_iconst (v := 0) C d_law_586 rfl ?_
  refine la_O C rfl d_law_587 ?_
  refine w_iload C 0 d_law_588 rfl ?_
  refine w_if_eq C 597 d_law_590 (by decide) (fun hb0 => ?_) (fun hb0 => ?_)
  · have hb1 := hb0
    refine w_lconst (v := 0) C d_law_597 rfl ?_
    refine w_lcmp C d_law_598 ?_
    refine w_if_eq_t C 604 d_law_599 (by decide) (lg_same (by rw [e2, hb1]; rfl)) ?_
    refine w_goto C 1549 d_law_604 (by decide) ?_
    refine w_lv [2, 3, 4, 5, 6] rfl ?_
    exact k _ _ _ hR2
  · have hb1 := hb2.resolve_left hb0
    refine w_lconst (v := 1) C d_law_593 rfl ?_
    refine w_goto C 598 d_law_594 (by decide) ?_
    refine w_lcmp C d_law_598 ?_
    refine w_if_eq_t C 604 d_law_599 (by decide) (lg_same (by rw [e2, hb1]; rfl)) ?_
    refine w_goto C 1549 d_law_604 (by decide) ?_
    refine w_lv [2, 3, 4, 5, 6] rfl ?_
    exact k _ _ _ hR2
set_option maxHeartbeats 4000000 in
set_option maxRecDepth 100000 in
theorem q_wake {p : Program} {l : Launch} {e : Env} {s : State} {m : MethodId} {args : Array Value} {below : List Frame} {meth : Method} {c : Code} {Q : State → Prop} {D : va_G} {cs : Nat → ClassId} {ad : Nat → Nat} {A : Nat → Prop} {b L : Nat} {xs : Nat → Int32} (C : Cx p s m args meth c D cs ad A code 7 "TwinRegisterLaw") (X : LX s A b L xs) (hl : l.stackTraces = false) (hL : L ≤ 3072) {i cells slots : Nat} {st mt : St} {ov : Nat → Int64} (hR : Rel st mt) (hi : i + 6 ≤ L) (hcs : cells + 6 ≤ 637624 ∧ slots + 36 ≤ 7183232) (k : ∀ (st2 mt2 : St) (ov2 : Nat → Int64), Rel st2 mt2 → Wg p l e room_1 s m args below meth c Q D cs ad A 7 (cells + 6) (slots + 36) 1549 (lvI b ad i) [] st2 mt2 ov2) : Wg p l e room_1 s m args below meth c Q D cs ad A 7 cells slots 607 (lvI b ad i) [] st mt ov := by
  refine w_aload_n C 3 d_law_607 rfl rfl ?_
  refine w_aload_n C 4 d_law_608 rfl rfl ?_
  refine w_iload C 0 d_law_609 rfl ?_
  refine w_iconst (v := 1) C d_law_611 rfl ?_
  refine w_iadd C d_law_612 ?_
  refine w_sld C X (ix1 i) (by omega) hL d_law_613 ?_
  refine w_aload_n C 1 d_law_614 rfl rfl ?_
  refine w_callLi C (w_runSW C (c_L_wake hl) m_444 m_445 m_35 m_446 ⟨rfl, rfl⟩ hd_L_wake rfl ⟨Nat.le_of_ble_eq_true rfl, Nat.le_of_ble_eq_true rfl⟩ rfl (Nat.le_of_ble_eq_true rfl) d_law_615 ⟨Nat.le_trans (Nat.add_le_add_left (Nat.le_of_ble_eq_true rfl) cells) hcs.1, Nat.le_trans (Nat.add_le_add_left (Nat.le_of_ble_eq_true rfl) slots) hcs.2⟩) (fun r w hw => ?_)
  refine w_widen (k2 := cells + 6) (n2 := slots + 36) (Nat.add_le_add_left (Nat.le_of_ble_eq_true rfl) cells) (Nat.add_le_add_left (Nat.le_of_ble_eq_true rfl) slots) ?_
  refine w_istore (lv2 := [(5, .int r), (4, .int (nI i)), (3, .ref (ad 71)), (2, .ref (ad 50)), (1, .ref (ad 0)), (0, .ref b)]) C d_law_618 (by decide) rfl ?_
  refine w_aload_n C 3 d_law_620 rfl rfl ?_
  refine w_aload_n C 5 d_law_621 rfl rfl ?_
  refine w_iload C 1 d_law_622 rfl ?_
  refine w_iconst (v := 1) C d_law_624 rfl ?_
  refine w_iadd C d_law_625 ?_
  refine w_sld C X (ix1 i) (by omega) hL d_law_626 ?_
  refine w_callMi C (w_runV C (c_M_wake ) (by omega) e_M rfl rfl m_700 m_701 m_702 m_41 m_703 ⟨rfl, rfl⟩ hd_M_wake rfl ⟨Nat.le_of_ble_eq_true rfl, Nat.le_of_ble_eq_true rfl⟩ rfl (Nat.le_of_ble_eq_true rfl) d_law_627 hcs) (fun b2 u hu => ?_)
  obtain ⟨e0, e1, hR2⟩ := z_wake hR hw hu
  refine w_istore (lv2 := [(6, .int b2), (5, .int r), (4, .int (nI i)), (3, .ref (ad 71)), (2, .ref (ad 50)), (1, .ref (ad 0)), (0, .ref b)]) C d_law_630 (by decide) rfl ?_
  refine w_aload_n C 4 d_law_632 rfl rfl ?_
  refine w_callMi C (w_runV C c_M_thrown (by omega) e_M rfl rfl m_636 m_637 m_638 m_41 m_639 ⟨rfl, rfl⟩ hd_M_thrown rfl ⟨Nat.le_of_ble_eq_true rfl, Nat.le_of_ble_eq_true rfl⟩ rfl (Nat.le_of_ble_eq_true rfl) d_law_633 hcs) (fun r3 u3 h3 => ?_)
  obtain ⟨rfl, h3⟩ := h3
  have h3 := h3.symm
  subst h3
  refine w_iload C 1 d_law_636 rfl ?_
  refine w_icmp_eq_t C 643 d_law_638 (by decide) e0 ?_
  refine w_iload C 1 d_law_643 rfl ?_
  refine w_if_ne C 660 d_law_645 (by decide) (fun _ => ?_) (fun hr0 => ?_)
  · refine w_goto C 1549 d_law_660 (by decide) ?_
    refine w_lv [2, 3, 4, 5, 6] rfl ?_
    exact k _ _ _ hR2
  have e2 := ov_0 (e1 hr0)
  refine w_aload_n C 3 d_law_648 rfl rfl ?_
  refine w_iconst (v := 0) C d_law_649 rfl ?_
  refine la_O C rfl d_law_650 ?_
  refine w_iload C 0 d_law_651 rfl ?_
  refine w_i2l C d_law_653 ?_
  refine w_lcmp C d_law_654 ?_
  refine w_if_eq_t C 660 d_law_655 (by decide) (lg_same e2) ?_
  refine w_goto C 1549 d_law_660 (by decide) ?_
  refine w_lv [2, 3, 4, 5, 6] rfl ?_
  exact k _ _ _ hR2
set_option maxHeartbeats 4000000 in
set_option maxRecDepth 100000 in
theorem q_setGroup {p : Program} {l : Launch} {e : Env} {s : State} {m : MethodId} {args : Array Value} {below : List Frame} {meth : Method} {c : Code} {Q : State → Prop} {D : va_G} {cs : Nat → ClassId} {ad : Nat → Nat} {A : Nat → Prop} {b L : Nat} {xs : Nat → Int32} (C : Cx p s m args meth c D cs ad A code 7 "TwinRegisterLaw") (X : LX s A b L xs) (hl : l.stackTraces = false) (hL : L ≤ 3072) {i cells slots : Nat} {st mt : St} {ov : Nat → Int64} (hR : Rel st mt) (hi : i + 6 ≤ L) (hcs : cells + 6 ≤ 637624 ∧ slots + 36 ≤ 7183232) (k : ∀ (st2 mt2 : St) (ov2 : Nat → Int64), Rel st2 mt2 → Wg p l e room_1 s m args below meth c Q D cs ad A 7 (cells + 6) (slots + 36) 1549 (lvI b ad i) [] st2 mt2 ov2) : Wg p l e room_1 s m args below meth c Q D cs ad A 7 cells slots 663 (lvI b ad i) [] st mt ov := by
  refine w_aload_n C 3 d_law_663 rfl rfl ?_
  refine w_aload_n C 4 d_law_664 rfl rfl ?_
  refine w_iload C 0 d_law_665 rfl ?_
  refine w_iconst (v := 1) C d_law_667 rfl ?_
  refine w_iadd C d_law_668 ?_
  refine w_sld C X (ix1 i) (by omega) hL d_law_669 ?_
  refine w_aload_n C 4 d_law_670 rfl rfl ?_
  refine w_iload C 0 d_law_671 rfl ?_
  refine w_iconst (v := 2) C d_law_673 rfl ?_
  refine w_iadd C d_law_674 ?_
  refine w_sld C X (ix2 i) (by omega) hL d_law_675 ?_
  refine w_aload_n C 4 d_law_676 rfl rfl ?_
  refine w_iload C 0 d_law_677 rfl ?_
  refine w_iconst (v := 3) C d_law_679 rfl ?_
  refine w_iadd C d_law_680 ?_
  refine w_sld C X (ix3 i) (by omega) hL d_law_681 ?_
  refine w_aload_n C 4 d_law_682 rfl rfl ?_
  refine w_iload C 0 d_law_683 rfl ?_
  refine w_iconst (v := 4) C d_law_685 rfl ?_
  refine w_iadd C d_law_686 ?_
  refine w_sld C X (ix4 i) (by omega) hL d_law_687 ?_
  refine w_aload_n C 1 d_law_688 rfl rfl ?_
  refine w_callLi C (w_runSW C (c_L_setGroup hl) m_455 m_456 m_35 m_457 ⟨rfl, rfl⟩ hd_L_setGroup rfl ⟨Nat.le_of_ble_eq_true rfl, Nat.le_of_ble_eq_true rfl⟩ rfl (Nat.le_of_ble_eq_true rfl) d_law_689 ⟨Nat.le_trans (Nat.add_le_add_left (Nat.le_of_ble_eq_true rfl) cells) hcs.1, Nat.le_trans (Nat.add_le_add_left (Nat.le_of_ble_eq_true rfl) slots) hcs.2⟩) (fun r w hw => ?_)
  refine w_widen (k2 := cells + 6) (n2 := slots + 36) (Nat.add_le_add_left (Nat.le_of_ble_eq_true rfl) cells) (Nat.add_le_add_left (Nat.le_of_ble_eq_true rfl) slots) ?_
  refine w_istore (lv2 := [(5, .int r), (4, .int (nI i)), (3, .ref (ad 71)), (2, .ref (ad 50)), (1, .ref (ad 0)), (0, .ref b)]) C d_law_692 (by decide) rfl ?_
  refine w_aload_n C 3 d_law_694 rfl rfl ?_
  refine w_aload_n C 5 d_law_695 rfl rfl ?_
  refine w_iload C 1 d_law_696 rfl ?_
  refine w_iconst (v := 1) C d_law_698 rfl ?_
  refine w_iadd C d_law_699 ?_
  refine w_sld C X (ix1 i) (by omega) hL d_law_700 ?_
  refine w_aload_n C 5 d_law_701 rfl rfl ?_
  refine w_iload C 1 d_law_702 rfl ?_
  refine w_iconst (v := 2) C d_law_704 rfl ?_
  refine w_iadd C d_law_705 ?_
  refine w_sld C X (ix2 i) (by omega) hL d_law_706 ?_
  refine w_aload_n C 5 d_law_707 rfl rfl ?_
  refine w_iload C 1 d_law_708 rfl ?_
  refine w_iconst (v := 3) C d_law_710 rfl ?_
  refine w_iadd C d_law_711 ?_
  refine w_sld C X (ix3 i) (by omega) hL d_law_712 ?_
  refine w_aload_n C 5 d_law_713 rfl rfl ?_
  refine w_iload C 1 d_law_714 rfl ?_
  refine w_iconst (v := 4) C d_law_716 rfl ?_
  refine w_iadd C d_law_717 ?_
  refine w_sld C X (ix4 i) (by omega) hL d_law_718 ?_
  refine w_callMi C (w_runV C (c_M_setGroup ) (by omega) e_M rfl rfl m_708 m_709 m_710 m_41 m_711 ⟨rfl, rfl⟩ hd_M_setGroup rfl ⟨Nat.le_of_ble_eq_true rfl, Nat.le_of_ble_eq_true rfl⟩ rfl (Nat.le_of_ble_eq_true rfl) d_law_719 hcs) (fun b2 u hu => ?_)
  obtain ⟨e0, e1, hR2⟩ := z_setGroup hR hw hu
  refine w_istore (lv2 := [(6, .int b2), (5, .int r), (4, .int (nI i)), (3, .ref (ad 71)), (2, .ref (ad 50)), (1, .ref (ad 0)), (0, .ref b)]) C d_law_722 (by decide) rfl ?_
  refine w_aload_n C 4 d_law_724 rfl rfl ?_
  refine w_callMi C (w_runV C c_M_thrown (by omega) e_M rfl rfl m_636 m_637 m_638 m_41 m_639 ⟨rfl, rfl⟩ hd_M_thrown rfl ⟨Nat.le_of_ble_eq_true rfl, Nat.le_of_ble_eq_true rfl⟩ rfl (Nat.le_of_ble_eq_true rfl) d_law_725 hcs) (fun r3 u3 h3 => ?_)
  obtain ⟨rfl, h3⟩ := h3
  have h3 := h3.symm
  subst h3
  refine w_iload C 1 d_law_728 rfl ?_
  refine w_icmp_eq_t C 735 d_law_730 (by decide) e0 ?_
  refine w_iload C 1 d_law_735 rfl ?_
  refine w_if_ne C 752 d_law_737 (by decide) (fun _ => ?_) (fun hr0 => ?_)
  · refine w_goto C 1549 d_law_752 (by decide) ?_
    refine w_lv [2, 3, 4, 5, 6] rfl ?_
    exact k _ _ _ hR2
  have e2 := ov_0 (e1 hr0)
  refine w_aload_n C 3 d_law_740 rfl rfl ?_
  refine w_iconst (v := 0) C d_law_741 rfl ?_
  refine la_O C rfl d_law_742 ?_
  refine w_iload C 0 d_law_743 rfl ?_
  refine w_i2l C d_law_745 ?_
  refine w_lcmp C d_law_746 ?_
  refine w_if_eq_t C 752 d_law_747 (by decide) (lg_same e2) ?_
  refine w_goto C 1549 d_law_752 (by decide) ?_
  refine w_lv [2, 3, 4, 5, 6] rfl ?_
  exact k _ _ _ hR2
set_option maxHeartbeats 4000000 in
set_option maxRecDepth 100000 in
theorem q_addJob {p : Program} {l : Launch} {e : Env} {s : State} {m : MethodId} {args : Array Value} {below : List Frame} {meth : Method} {c : Code} {Q : State → Prop} {D : va_G} {cs : Nat → ClassId} {ad : Nat → Nat} {A : Nat → Prop} {b L : Nat} {xs : Nat → Int32} (C : Cx p s m args meth c D cs ad A code 7 "TwinRegisterLaw") (X : LX s A b L xs) (hl : l.stackTraces = false) (hL : L ≤ 3072) {i cells slots : Nat} {st mt : St} {ov : Nat → Int64} (hR : Rel st mt) (hi : i + 6 ≤ L) (hcs : cells + 6 ≤ 637624 ∧ slots + 36 ≤ 7183232) (k : ∀ (st2 mt2 : St) (ov2 : Nat → Int64), Rel st2 mt2 → Wg p l e room_1 s m args below meth c Q D cs ad A 7 (cells + 6) (slots + 36) 1549 (lvI b ad i) [] st2 mt2 ov2) : Wg p l e room_1 s m args below meth c Q D cs ad A 7 cells slots 755 (lvI b ad i) [] st mt ov := by
  obtain ⟨jc, hjc, hj0, hm0, -⟩ := hR.2.2.2.2
  refine w_aload_n C 3 d_law_755 rfl rfl ?_
  refine w_aload_n C 4 d_law_756 rfl rfl ?_
  refine w_iload C 0 d_law_757 rfl ?_
  refine w_iconst (v := 1) C d_law_759 rfl ?_
  refine w_iadd C d_law_760 ?_
  refine w_sld C X (ix1 i) (by omega) hL d_law_761 ?_
  refine w_aload_n C 4 d_law_762 rfl rfl ?_
  refine w_iload C 0 d_law_763 rfl ?_
  refine w_iconst (v := 2) C d_law_765 rfl ?_
  refine w_iadd C d_law_766 ?_
  refine w_sld C X (ix2 i) (by omega) hL d_law_767 ?_
  refine w_aload_n C 4 d_law_768 rfl rfl ?_
  refine w_iload C 0 d_law_769 rfl ?_
  refine w_iconst (v := 3) C d_law_771 rfl ?_
  refine w_iadd C d_law_772 ?_
  refine w_sld C X (ix3 i) (by omega) hL d_law_773 ?_
  refine w_aload_n C 4 d_law_774 rfl rfl ?_
  refine w_iload C 0 d_law_775 rfl ?_
  refine w_iconst (v := 4) C d_law_777 rfl ?_
  refine w_iadd C d_law_778 ?_
  refine w_sld C X (ix4 i) (by omega) hL d_law_779 ?_
  refine w_aload_n C 4 d_law_780 rfl rfl ?_
  refine w_iload C 0 d_law_781 rfl ?_
  refine w_iconst (v := 5) C d_law_783 rfl ?_
  refine w_iadd C d_law_784 ?_
  refine w_sld C X (ix5 i) (by omega) hL d_law_785 ?_
  refine w_aload_n C 1 d_law_786 rfl rfl ?_
  refine w_callLi C (w_runSW C (c_L_addJob hjc hj0 hl) m_470 m_471 m_35 m_472 ⟨rfl, rfl⟩ hd_L_addJob rfl ⟨Nat.le_of_ble_eq_true rfl, Nat.le_of_ble_eq_true rfl⟩ rfl (Nat.le_of_ble_eq_true rfl) d_law_787 ⟨Nat.le_trans (Nat.add_le_add_left (Nat.le_of_ble_eq_true rfl) cells) hcs.1, Nat.le_trans (Nat.add_le_add_left (Nat.le_of_ble_eq_true rfl) slots) hcs.2⟩) (fun r w hw => ?_)
  refine w_widen (k2 := cells + 6) (n2 := slots + 36) (Nat.add_le_add_left (Nat.le_of_ble_eq_true rfl) cells) (Nat.add_le_add_left (Nat.le_of_ble_eq_true rfl) slots) ?_
  refine w_istore (lv2 := [(5, .int r), (4, .int (nI i)), (3, .ref (ad 71)), (2, .ref (ad 50)), (1, .ref (ad 0)), (0, .ref b)]) C d_law_790 (by decide) rfl ?_
  refine w_aload_n C 3 d_law_792 rfl rfl ?_
  refine w_aload_n C 5 d_law_793 rfl rfl ?_
  refine w_iload C 1 d_law_794 rfl ?_
  refine w_iconst (v := 1) C d_law_796 rfl ?_
  refine w_iadd C d_law_797 ?_
  refine w_sld C X (ix1 i) (by omega) hL d_law_798 ?_
  refine w_aload_n C 5 d_law_799 rfl rfl ?_
  refine w_iload C 1 d_law_800 rfl ?_
  refine w_iconst (v := 2) C d_law_802 rfl ?_
  refine w_iadd C d_law_803 ?_
  refine w_sld C X (ix2 i) (by omega) hL d_law_804 ?_
  refine w_aload_n C 5 d_law_805 rfl rfl ?_
  refine w_iload C 1 d_law_806 rfl ?_
  refine w_iconst (v := 3) C d_law_808 rfl ?_
  refine w_iadd C d_law_809 ?_
  refine w_sld C X (ix3 i) (by omega) hL d_law_810 ?_
  refine w_aload_n C 5 d_law_811 rfl rfl ?_
  refine w_iload C 1 d_law_812 rfl ?_
  refine w_iconst (v := 4) C d_law_814 rfl ?_
  refine w_iadd C d_law_815 ?_
  refine w_sld C X (ix4 i) (by omega) hL d_law_816 ?_
  refine w_aload_n C 5 d_law_817 rfl rfl ?_
  refine w_iload C 1 d_law_818 rfl ?_
  refine w_iconst (v := 5) C d_law_820 rfl ?_
  refine w_iadd C d_law_821 ?_
  refine w_sld C X (ix5 i) (by omega) hL d_law_822 ?_
  refine w_callMi C (w_runV C (c_M_addJob hjc hm0) (by omega) e_M rfl rfl m_719 m_720 m_721 m_41 m_722 ⟨rfl, rfl⟩ hd_M_addJob rfl ⟨Nat.le_of_ble_eq_true rfl, Nat.le_of_ble_eq_true rfl⟩ rfl (Nat.le_of_ble_eq_true rfl) d_law_823 hcs) (fun b2 u hu => ?_)
  obtain ⟨e0, e1, hR2⟩ := z_addJob hjc hj0 hR hw hu
  refine w_istore (lv2 := [(6, .int b2), (5, .int r), (4, .int (nI i)), (3, .ref (ad 71)), (2, .ref (ad 50)), (1, .ref (ad 0)), (0, .ref b)]) C d_law_826 (by decide) rfl ?_
  refine w_aload_n C 4 d_law_828 rfl rfl ?_
  refine w_callMi C (w_runV C c_M_thrown (by omega) e_M rfl rfl m_636 m_637 m_638 m_41 m_639 ⟨rfl, rfl⟩ hd_M_thrown rfl ⟨Nat.le_of_ble_eq_true rfl, Nat.le_of_ble_eq_true rfl⟩ rfl (Nat.le_of_ble_eq_true rfl) d_law_829 hcs) (fun r3 u3 h3 => ?_)
  obtain ⟨rfl, h3⟩ := h3
  have h3 := h3.symm
  subst h3
  refine w_iload C 1 d_law_832 rfl ?_
  refine w_icmp_eq_t C 839 d_law_834 (by decide) e0 ?_
  refine w_iload C 1 d_law_839 rfl ?_
  refine w_if_ne C 856 d_law_841 (by decide) (fun _ => ?_) (fun hr0 => ?_)
  · refine w_goto C 1549 d_law_856 (by decide) ?_
    refine w_lv [2, 3, 4, 5, 6] rfl ?_
    exact k _ _ _ hR2
  have e2 := ov_0 (e1 hr0)
  refine w_aload_n C 3 d_law_844 rfl rfl ?_
  refine w_iconst (v := 0) C d_law_845 rfl ?_
  refine la_O C rfl d_law_846 ?_
  refine w_iload C 0 d_law_847 rfl ?_
  refine w_i2l C d_law_849 ?_
  refine w_lcmp C d_law_850 ?_
  refine w_if_eq_t C 856 d_law_851 (by decide) (lg_same e2) ?_
  refine w_goto C 1549 d_law_856 (by decide) ?_
  refine w_lv [2, 3, 4, 5, 6] rfl ?_
  exact k _ _ _ hR2
set_option maxHeartbeats 4000000 in
set_option maxRecDepth 100000 in
theorem q_wave {p : Program} {l : Launch} {e : Env} {s : State} {m : MethodId} {args : Array Value} {below : List Frame} {meth : Method} {c : Code} {Q : State → Prop} {D : va_G} {cs : Nat → ClassId} {ad : Nat → Nat} {A : Nat → Prop} {b L : Nat} {xs : Nat → Int32} (C : Cx p s m args meth c D cs ad A code 7 "TwinRegisterLaw") (X : LX s A b L xs) (hl : l.stackTraces = false) (hL : L ≤ 3072) {i cells slots : Nat} {st mt : St} {ov : Nat → Int64} (hR : Rel st mt) (hi : i + 6 ≤ L) (hcs : cells + 6 ≤ 637624 ∧ slots + 36 ≤ 7183232) (k : ∀ (st2 mt2 : St) (ov2 : Nat → Int64), Rel st2 mt2 → Wg p l e room_1 s m args below meth c Q D cs ad A 7 (cells + 6) (slots + 36) 1549 (lvI b ad i) [] st2 mt2 ov2) : Wg p l e room_1 s m args below meth c Q D cs ad A 7 cells slots 859 (lvI b ad i) [] st mt ov := by
  obtain ⟨jc, hjc, hj0, hm0, -⟩ := hR.2.2.2.2
  refine w_aload_n C 3 d_law_859 rfl rfl ?_
  refine w_callTi C (w_runV C (c_T_wave (Rel_okS hR) hjc hj0) (by omega) e_T rfl rfl m_187 m_188 m_189 m_36 m_190 ⟨rfl, rfl⟩ hd_T_wave rfl ⟨Nat.le_of_ble_eq_true rfl, Nat.le_of_ble_eq_true rfl⟩ rfl (Nat.le_of_ble_eq_true rfl) d_law_860 ⟨Nat.le_trans (Nat.add_le_add_left (Nat.le_of_ble_eq_true rfl) cells) hcs.1, Nat.le_trans (Nat.add_le_add_left (Nat.le_of_ble_eq_true rfl) slots) hcs.2⟩) (fun r w hw => ?_)
  refine w_widen (k2 := cells + 6) (n2 := slots + 36) (Nat.add_le_add_left (Nat.le_of_ble_eq_true rfl) cells) (Nat.add_le_add_left (Nat.le_of_ble_eq_true rfl) slots) ?_
  refine w_aload_n C 2 d_law_863 rfl rfl ?_
  refine w_callMi C (w_runV C (c_M_wave (Rel_okM (Rel_thr (c := 0) hR)) hjc ((thr_12 mt 0).trans hm0)) (by omega) e_M rfl rfl m_723 m_724 m_725 m_41 m_726 ⟨rfl, rfl⟩ hd_M_wave rfl ⟨Nat.le_of_ble_eq_true rfl, Nat.le_of_ble_eq_true rfl⟩ rfl (Nat.le_of_ble_eq_true rfl) d_law_864 hcs) (fun b2 u hu => ?_)
  obtain ⟨e0, e1, hR2⟩ := z_wave (ov := ov) hjc hj0 hR hw hu
  refine w_icmp_eq_t C 1549 d_law_867 (by decide) e0 ?_
  exact k _ _ _ hR2
set_option maxHeartbeats 4000000 in
set_option maxRecDepth 100000 in
theorem q_cancel {p : Program} {l : Launch} {e : Env} {s : State} {m : MethodId} {args : Array Value} {below : List Frame} {meth : Method} {c : Code} {Q : State → Prop} {D : va_G} {cs : Nat → ClassId} {ad : Nat → Nat} {A : Nat → Prop} {b L : Nat} {xs : Nat → Int32} (C : Cx p s m args meth c D cs ad A code 7 "TwinRegisterLaw") (X : LX s A b L xs) (hl : l.stackTraces = false) (hL : L ≤ 3072) {i cells slots : Nat} {st mt : St} {ov : Nat → Int64} (hR : Rel st mt) (hi : i + 6 ≤ L) (hcs : cells + 6 ≤ 637624 ∧ slots + 36 ≤ 7183232) (k : ∀ (st2 mt2 : St) (ov2 : Nat → Int64), Rel st2 mt2 → Wg p l e room_1 s m args below meth c Q D cs ad A 7 (cells + 6) (slots + 36) 1549 (lvI b ad i) [] st2 mt2 ov2) : Wg p l e room_1 s m args below meth c Q D cs ad A 7 cells slots 872 (lvI b ad i) [] st mt ov := by
  obtain ⟨jc, hjc, hj0, hm0, -⟩ := hR.2.2.2.2
  refine w_aload_n C 3 d_law_872 rfl rfl ?_
  refine w_aload_n C 4 d_law_873 rfl rfl ?_
  refine w_iload C 0 d_law_874 rfl ?_
  refine w_iconst (v := 1) C d_law_876 rfl ?_
  refine w_iadd C d_law_877 ?_
  refine w_sld C X (ix1 i) (by omega) hL d_law_878 ?_
  refine w_aload_n C 1 d_law_879 rfl rfl ?_
  refine w_callLi C (w_runSW C (c_L_cancel hjc hj0 hl) m_478 m_479 m_35 m_480 ⟨rfl, rfl⟩ hd_L_cancel rfl ⟨Nat.le_of_ble_eq_true rfl, Nat.le_of_ble_eq_true rfl⟩ rfl (Nat.le_of_ble_eq_true rfl) d_law_880 ⟨Nat.le_trans (Nat.add_le_add_left (Nat.le_of_ble_eq_true rfl) cells) hcs.1, Nat.le_trans (Nat.add_le_add_left (Nat.le_of_ble_eq_true rfl) slots) hcs.2⟩) (fun r w hw => ?_)
  refine w_widen (k2 := cells + 6) (n2 := slots + 36) (Nat.add_le_add_left (Nat.le_of_ble_eq_true rfl) cells) (Nat.add_le_add_left (Nat.le_of_ble_eq_true rfl) slots) ?_
  refine w_istore (lv2 := [(5, .int r), (4, .int (nI i)), (3, .ref (ad 71)), (2, .ref (ad 50)), (1, .ref (ad 0)), (0, .ref b)]) C d_law_883 (by decide) rfl ?_
  refine w_aload_n C 3 d_law_885 rfl rfl ?_
  refine w_aload_n C 5 d_law_886 rfl rfl ?_
  refine w_iload C 1 d_law_887 rfl ?_
  refine w_iconst (v := 1) C d_law_889 rfl ?_
  refine w_iadd C d_law_890 ?_
  refine w_sld C X (ix1 i) (by omega) hL d_law_891 ?_
  refine w_callMi C (w_runV C (c_M_cancel hjc hm0) (by omega) e_M rfl rfl m_735 m_736 m_737 m_41 m_738 ⟨rfl, rfl⟩ hd_M_cancel rfl ⟨Nat.le_of_ble_eq_true rfl, Nat.le_of_ble_eq_true rfl⟩ rfl (Nat.le_of_ble_eq_true rfl) d_law_892 hcs) (fun b2 u hu => ?_)
  obtain ⟨e0, e1, hR2⟩ := z_cancel hjc hj0 hR hw hu
  refine w_istore (lv2 := [(6, .int b2), (5, .int r), (4, .int (nI i)), (3, .ref (ad 71)), (2, .ref (ad 50)), (1, .ref (ad 0)), (0, .ref b)]) C d_law_895 (by decide) rfl ?_
  refine w_aload_n C 4 d_law_897 rfl rfl ?_
  refine w_callMi C (w_runV C c_M_thrown (by omega) e_M rfl rfl m_636 m_637 m_638 m_41 m_639 ⟨rfl, rfl⟩ hd_M_thrown rfl ⟨Nat.le_of_ble_eq_true rfl, Nat.le_of_ble_eq_true rfl⟩ rfl (Nat.le_of_ble_eq_true rfl) d_law_898 hcs) (fun r3 u3 h3 => ?_)
  obtain ⟨rfl, h3⟩ := h3
  have h3 := h3.symm
  subst h3
  refine w_iload C 1 d_law_901 rfl ?_
  refine w_icmp_eq_t C 908 d_law_903 (by decide) e0 ?_
  refine w_iload C 1 d_law_908 rfl ?_
  refine w_if_ne C 925 d_law_910 (by decide) (fun _ => ?_) (fun hr0 => ?_)
  · refine w_goto C 1549 d_law_925 (by decide) ?_
    refine w_lv [2, 3, 4, 5, 6] rfl ?_
    exact k _ _ _ hR2
  have e2 := ov_0 (e1 hr0)
  refine w_aload_n C 3 d_law_913 rfl rfl ?_
  refine w_iconst (v := 0) C d_law_914 rfl ?_
  refine la_O C rfl d_law_915 ?_
  refine w_iload C 0 d_law_916 rfl ?_
  refine w_i2l C d_law_918 ?_
  refine w_lcmp C d_law_919 ?_
  refine w_if_eq_t C 925 d_law_920 (by decide) (lg_same e2) ?_
  refine w_goto C 1549 d_law_925 (by decide) ?_
  refine w_lv [2, 3, 4, 5, 6] rfl ?_
  exact k _ _ _ hR2
set_option maxHeartbeats 4000000 in
set_option maxRecDepth 100000 in
theorem q_version {p : Program} {l : Launch} {e : Env} {s : State} {m : MethodId} {args : Array Value} {below : List Frame} {meth : Method} {c : Code} {Q : State → Prop} {D : va_G} {cs : Nat → ClassId} {ad : Nat → Nat} {A : Nat → Prop} {b L : Nat} {xs : Nat → Int32} (C : Cx p s m args meth c D cs ad A code 7 "TwinRegisterLaw") (X : LX s A b L xs) (hl : l.stackTraces = false) (hL : L ≤ 3072) {i cells slots : Nat} {st mt : St} {ov : Nat → Int64} (hR : Rel st mt) (hi : i + 6 ≤ L) (hcs : cells + 6 ≤ 637624 ∧ slots + 36 ≤ 7183232) (k : ∀ (st2 mt2 : St) (ov2 : Nat → Int64), Rel st2 mt2 → Wg p l e room_1 s m args below meth c Q D cs ad A 7 (cells + 6) (slots + 36) 1549 (lvI b ad i) [] st2 mt2 ov2) : Wg p l e room_1 s m args below meth c Q D cs ad A 7 cells slots 928 (lvI b ad i) [] st mt ov := by
  refine w_aload_n C 3 d_law_928 rfl rfl ?_
  refine w_aload_n C 4 d_law_929 rfl rfl ?_
  refine w_iload C 0 d_law_930 rfl ?_
  refine w_iconst (v := 1) C d_law_932 rfl ?_
  refine w_iadd C d_law_933 ?_
  refine w_sld C X (ix1 i) (by omega) hL d_law_934 ?_
  refine w_aload_n C 1 d_law_935 rfl rfl ?_
  refine w_callLi C (w_runSW C (c_L_version hl) m_491 m_492 m_35 m_493 ⟨rfl, rfl⟩ hd_L_version rfl ⟨Nat.le_of_ble_eq_true rfl, Nat.le_of_ble_eq_true rfl⟩ rfl (Nat.le_of_ble_eq_true rfl) d_law_936 ⟨Nat.le_trans (Nat.add_le_add_left (Nat.le_of_ble_eq_true rfl) cells) hcs.1, Nat.le_trans (Nat.add_le_add_left (Nat.le_of_ble_eq_true rfl) slots) hcs.2⟩) (fun r w hw => ?_)
  refine w_widen (k2 := cells + 6) (n2 := slots + 36) (Nat.add_le_add_left (Nat.le_of_ble_eq_true rfl) cells) (Nat.add_le_add_left (Nat.le_of_ble_eq_true rfl) slots) ?_
  refine w_istore (lv2 := [(5, .int r), (4, .int (nI i)), (3, .ref (ad 71)), (2, .ref (ad 50)), (1, .ref (ad 0)), (0, .ref b)]) C d_law_939 (by decide) rfl ?_
  refine w_aload_n C 3 d_law_941 rfl rfl ?_
  refine w_aload_n C 5 d_law_942 rfl rfl ?_
  refine w_iload C 1 d_law_943 rfl ?_
  refine w_iconst (v := 1) C d_law_945 rfl ?_
  refine w_iadd C d_law_946 ?_
  refine w_sld C X (ix1 i) (by omega) hL d_law_947 ?_
  refine w_callMi C (w_runV C (c_M_version ) (by omega) e_M rfl rfl m_743 m_744 m_745 m_41 m_746 ⟨rfl, rfl⟩ hd_M_version rfl ⟨Nat.le_of_ble_eq_true rfl, Nat.le_of_ble_eq_true rfl⟩ rfl (Nat.le_of_ble_eq_true rfl) d_law_948 hcs) (fun b2 u hu => ?_)
  obtain ⟨e0, e1, hR2⟩ := z_version hR hw hu
  refine w_istore (lv2 := [(6, .int b2), (5, .int r), (4, .int (nI i)), (3, .ref (ad 71)), (2, .ref (ad 50)), (1, .ref (ad 0)), (0, .ref b)]) C d_law_951 (by decide) rfl ?_
  refine w_aload_n C 4 d_law_953 rfl rfl ?_
  refine w_callMi C (w_runV C c_M_thrown (by omega) e_M rfl rfl m_636 m_637 m_638 m_41 m_639 ⟨rfl, rfl⟩ hd_M_thrown rfl ⟨Nat.le_of_ble_eq_true rfl, Nat.le_of_ble_eq_true rfl⟩ rfl (Nat.le_of_ble_eq_true rfl) d_law_954 hcs) (fun r3 u3 h3 => ?_)
  obtain ⟨rfl, h3⟩ := h3
  have h3 := h3.symm
  subst h3
  refine w_iload C 1 d_law_957 rfl ?_
  refine w_icmp_eq_t C 964 d_law_959 (by decide) e0 ?_
  refine w_iload C 1 d_law_964 rfl ?_
  refine w_if_ne C 981 d_law_966 (by decide) (fun _ => ?_) (fun hr0 => ?_)
  · refine w_goto C 1549 d_law_981 (by decide) ?_
    refine w_lv [2, 3, 4, 5, 6] rfl ?_
    exact k _ _ _ hR2
  have e2 := ov_0 (e1 hr0)
  refine w_aload_n C 3 d_law_969 rfl rfl ?_
  refine w_iconst (v := 0) C d_law_970 rfl ?_
  refine la_O C rfl d_law_971 ?_
  refine w_iload C 0 d_law_972 rfl ?_
  refine w_i2l C d_law_974 ?_
  refine w_lcmp C d_law_975 ?_
  refine w_if_eq_t C 981 d_law_976 (by decide) (lg_same e2) ?_
  refine w_goto C 1549 d_law_981 (by decide) ?_
  refine w_lv [2, 3, 4, 5, 6] rfl ?_
  exact k _ _ _ hR2
set_option maxHeartbeats 4000000 in
set_option maxRecDepth 100000 in
theorem q_heard {p : Program} {l : Launch} {e : Env} {s : State} {m : MethodId} {args : Array Value} {below : List Frame} {meth : Method} {c : Code} {Q : State → Prop} {D : va_G} {cs : Nat → ClassId} {ad : Nat → Nat} {A : Nat → Prop} {b L : Nat} {xs : Nat → Int32} (C : Cx p s m args meth c D cs ad A code 7 "TwinRegisterLaw") (X : LX s A b L xs) (hl : l.stackTraces = false) (hL : L ≤ 3072) {i cells slots : Nat} {st mt : St} {ov : Nat → Int64} (hR : Rel st mt) (hi : i + 6 ≤ L) (hcs : cells + 6 ≤ 637624 ∧ slots + 36 ≤ 7183232) (k : ∀ (st2 mt2 : St) (ov2 : Nat → Int64), Rel st2 mt2 → Wg p l e room_1 s m args below meth c Q D cs ad A 7 (cells + 6) (slots + 36) 1549 (lvI b ad i) [] st2 mt2 ov2) : Wg p l e room_1 s m args below meth c Q D cs ad A 7 cells slots 984 (lvI b ad i) [] st mt ov := by
  refine w_aload_n C 3 d_law_984 rfl rfl ?_
  refine w_aload_n C 4 d_law_985 rfl rfl ?_
  refine w_iload C 0 d_law_986 rfl ?_
  refine w_iconst (v := 1) C d_law_988 rfl ?_
  refine w_iadd C d_law_989 ?_
  refine w_sld C X (ix1 i) (by omega) hL d_law_990 ?_
  refine w_aload_n C 1 d_law_991 rfl rfl ?_
  refine w_callLi C (w_runSW C (c_L_heard hl) m_498 m_499 m_35 m_500 ⟨rfl, rfl⟩ hd_L_heard rfl ⟨Nat.le_of_ble_eq_true rfl, Nat.le_of_ble_eq_true rfl⟩ rfl (Nat.le_of_ble_eq_true rfl) d_law_992 ⟨Nat.le_trans (Nat.add_le_add_left (Nat.le_of_ble_eq_true rfl) cells) hcs.1, Nat.le_trans (Nat.add_le_add_left (Nat.le_of_ble_eq_true rfl) slots) hcs.2⟩) (fun r w hw => ?_)
  refine w_widen (k2 := cells + 6) (n2 := slots + 36) (Nat.add_le_add_left (Nat.le_of_ble_eq_true rfl) cells) (Nat.add_le_add_left (Nat.le_of_ble_eq_true rfl) slots) ?_
  refine w_istore (lv2 := [(5, .int r), (4, .int (nI i)), (3, .ref (ad 71)), (2, .ref (ad 50)), (1, .ref (ad 0)), (0, .ref b)]) C d_law_995 (by decide) rfl ?_
  refine w_aload_n C 3 d_law_997 rfl rfl ?_
  refine w_aload_n C 5 d_law_998 rfl rfl ?_
  refine w_iload C 1 d_law_999 rfl ?_
  refine w_iconst (v := 1) C d_law_1001 rfl ?_
  refine w_iadd C d_law_1002 ?_
  refine w_sld C X (ix1 i) (by omega) hL d_law_1003 ?_
  refine w_callMi C (w_runV C (c_M_heard ) (by omega) e_M rfl rfl m_751 m_752 m_753 m_41 m_754 ⟨rfl, rfl⟩ hd_M_heard rfl ⟨Nat.le_of_ble_eq_true rfl, Nat.le_of_ble_eq_true rfl⟩ rfl (Nat.le_of_ble_eq_true rfl) d_law_1004 hcs) (fun b2 u hu => ?_)
  obtain ⟨e0, e1, hR2⟩ := z_heard hR hw hu
  refine w_istore (lv2 := [(6, .int b2), (5, .int r), (4, .int (nI i)), (3, .ref (ad 71)), (2, .ref (ad 50)), (1, .ref (ad 0)), (0, .ref b)]) C d_law_1007 (by decide) rfl ?_
  refine w_aload_n C 4 d_law_1009 rfl rfl ?_
  refine w_callMi C (w_runV C c_M_thrown (by omega) e_M rfl rfl m_636 m_637 m_638 m_41 m_639 ⟨rfl, rfl⟩ hd_M_thrown rfl ⟨Nat.le_of_ble_eq_true rfl, Nat.le_of_ble_eq_true rfl⟩ rfl (Nat.le_of_ble_eq_true rfl) d_law_1010 hcs) (fun r3 u3 h3 => ?_)
  obtain ⟨rfl, h3⟩ := h3
  have h3 := h3.symm
  subst h3
  refine w_iload C 1 d_law_1013 rfl ?_
  refine w_icmp_eq_t C 1020 d_law_1015 (by decide) e0 ?_
  refine w_iload C 1 d_law_1020 rfl ?_
  refine w_if_ne C 1037 d_law_1022 (by decide) (fun _ => ?_) (fun hr0 => ?_)
  · refine w_goto C 1549 d_law_1037 (by decide) ?_
    refine w_lv [2, 3, 4, 5, 6] rfl ?_
    exact k _ _ _ hR2
  have e2 := ov_0 (e1 hr0)
  refine w_aload_n C 3 d_law_1025 rfl rfl ?_
  refine w_iconst (v := 0) C d_law_1026 rfl ?_
  refine la_O C rfl d_law_1027 ?_
  refine w_iload C 0 d_law_1028 rfl ?_
  refine w_i2l C d_law_1030 ?_
  refine w_lcmp C d_law_1031 ?_
  refine w_if_eq_t C 1037 d_law_1032 (by decide) (lg_same e2) ?_
  refine w_goto C 1549 d_law_1037 (by decide) ?_
  refine w_lv [2, 3, 4, 5, 6] rfl ?_
  exact k _ _ _ hR2
set_option maxHeartbeats 4000000 in
set_option maxRecDepth 100000 in
theorem q_wished {p : Program} {l : Launch} {e : Env} {s : State} {m : MethodId} {args : Array Value} {below : List Frame} {meth : Method} {c : Code} {Q : State → Prop} {D : va_G} {cs : Nat → ClassId} {ad : Nat → Nat} {A : Nat → Prop} {b L : Nat} {xs : Nat → Int32} (C : Cx p s m args meth c D cs ad A code 7 "TwinRegisterLaw") (X : LX s A b L xs) (hl : l.stackTraces = false) (hL : L ≤ 3072) {i cells slots : Nat} {st mt : St} {ov : Nat → Int64} (hR : Rel st mt) (hi : i + 6 ≤ L) (hcs : cells + 6 ≤ 637624 ∧ slots + 36 ≤ 7183232) (k : ∀ (st2 mt2 : St) (ov2 : Nat → Int64), Rel st2 mt2 → Wg p l e room_1 s m args below meth c Q D cs ad A 7 (cells + 6) (slots + 36) 1549 (lvI b ad i) [] st2 mt2 ov2) : Wg p l e room_1 s m args below meth c Q D cs ad A 7 cells slots 1040 (lvI b ad i) [] st mt ov := by
  refine w_aload_n C 3 d_law_1040 rfl rfl ?_
  refine w_aload_n C 4 d_law_1041 rfl rfl ?_
  refine w_iload C 0 d_law_1042 rfl ?_
  refine w_iconst (v := 1) C d_law_1044 rfl ?_
  refine w_iadd C d_law_1045 ?_
  refine w_sld C X (ix1 i) (by omega) hL d_law_1046 ?_
  refine w_aload_n C 4 d_law_1047 rfl rfl ?_
  refine w_iload C 0 d_law_1048 rfl ?_
  refine w_iconst (v := 2) C d_law_1050 rfl ?_
  refine w_iadd C d_law_1051 ?_
  refine w_sld C X (ix2 i) (by omega) hL d_law_1052 ?_
  refine w_aload_n C 1 d_law_1053 rfl rfl ?_
  refine w_callLi C (w_runSW C (c_L_wished hl) m_505 m_506 m_35 m_507 ⟨rfl, rfl⟩ hd_L_wished rfl ⟨Nat.le_of_ble_eq_true rfl, Nat.le_of_ble_eq_true rfl⟩ rfl (Nat.le_of_ble_eq_true rfl) d_law_1054 ⟨Nat.le_trans (Nat.add_le_add_left (Nat.le_of_ble_eq_true rfl) cells) hcs.1, Nat.le_trans (Nat.add_le_add_left (Nat.le_of_ble_eq_true rfl) slots) hcs.2⟩) (fun r w hw => ?_)
  refine w_widen (k2 := cells + 6) (n2 := slots + 36) (Nat.add_le_add_left (Nat.le_of_ble_eq_true rfl) cells) (Nat.add_le_add_left (Nat.le_of_ble_eq_true rfl) slots) ?_
  refine w_istore (lv2 := [(5, .int r), (4, .int (nI i)), (3, .ref (ad 71)), (2, .ref (ad 50)), (1, .ref (ad 0)), (0, .ref b)]) C d_law_1057 (by decide) rfl ?_
  refine w_aload_n C 3 d_law_1059 rfl rfl ?_
  refine w_aload_n C 5 d_law_1060 rfl rfl ?_
  refine w_iload C 1 d_law_1061 rfl ?_
  refine w_iconst (v := 1) C d_law_1063 rfl ?_
  refine w_iadd C d_law_1064 ?_
  refine w_sld C X (ix1 i) (by omega) hL d_law_1065 ?_
  refine w_aload_n C 5 d_law_1066 rfl rfl ?_
  refine w_iload C 1 d_law_1067 rfl ?_
  refine w_iconst (v := 2) C d_law_1069 rfl ?_
  refine w_iadd C d_law_1070 ?_
  refine w_sld C X (ix2 i) (by omega) hL d_law_1071 ?_
  refine w_callMi C (w_runV C (c_M_wished ) (by omega) e_M rfl rfl m_755 m_756 m_757 m_41 m_758 ⟨rfl, rfl⟩ hd_M_wished rfl ⟨Nat.le_of_ble_eq_true rfl, Nat.le_of_ble_eq_true rfl⟩ rfl (Nat.le_of_ble_eq_true rfl) d_law_1072 hcs) (fun b2 u hu => ?_)
  obtain ⟨e0, e1, hR2⟩ := z_wished hR hw hu
  refine w_istore (lv2 := [(6, .int b2), (5, .int r), (4, .int (nI i)), (3, .ref (ad 71)), (2, .ref (ad 50)), (1, .ref (ad 0)), (0, .ref b)]) C d_law_1075 (by decide) rfl ?_
  refine w_aload_n C 4 d_law_1077 rfl rfl ?_
  refine w_callMi C (w_runV C c_M_thrown (by omega) e_M rfl rfl m_636 m_637 m_638 m_41 m_639 ⟨rfl, rfl⟩ hd_M_thrown rfl ⟨Nat.le_of_ble_eq_true rfl, Nat.le_of_ble_eq_true rfl⟩ rfl (Nat.le_of_ble_eq_true rfl) d_law_1078 hcs) (fun r3 u3 h3 => ?_)
  obtain ⟨rfl, h3⟩ := h3
  have h3 := h3.symm
  subst h3
  refine w_iload C 1 d_law_1081 rfl ?_
  refine w_icmp_eq_t C 1088 d_law_1083 (by decide) e0 ?_
  refine w_iload C 1 d_law_1088 rfl ?_
  refine w_if_ne C 1105 d_law_1090 (by decide) (fun _ => ?_) (fun hr0 => ?_)
  · refine w_goto C 1549 d_law_1105 (by decide) ?_
    refine w_lv [2, 3, 4, 5, 6] rfl ?_
    exact k _ _ _ hR2
  have e2 := ov_0 (e1 hr0)
  refine w_aload_n C 3 d_law_1093 rfl rfl ?_
  refine w_iconst (v := 0) C d_law_1094 rfl ?_
  refine la_O C rfl d_law_1095 ?_
  refine w_iload C 0 d_law_1096 rfl ?_
  refine w_i2l C d_law_1098 ?_
  refine w_lcmp C d_law_1099 ?_
  refine w_if_eq_t C 1105 d_law_1100 (by decide) (lg_same e2) ?_
  refine w_goto C 1549 d_law_1105 (by decide) ?_
  refine w_lv [2, 3, 4, 5, 6] rfl ?_
  exact k _ _ _ hR2
set_option maxHeartbeats 4000000 in
set_option maxRecDepth 100000 in
theorem q_reported {p : Program} {l : Launch} {e : Env} {s : State} {m : MethodId} {args : Array Value} {below : List Frame} {meth : Method} {c : Code} {Q : State → Prop} {D : va_G} {cs : Nat → ClassId} {ad : Nat → Nat} {A : Nat → Prop} {b L : Nat} {xs : Nat → Int32} (C : Cx p s m args meth c D cs ad A code 7 "TwinRegisterLaw") (X : LX s A b L xs) (hl : l.stackTraces = false) (hL : L ≤ 3072) {i cells slots : Nat} {st mt : St} {ov : Nat → Int64} (hR : Rel st mt) (hi : i + 6 ≤ L) (hcs : cells + 6 ≤ 637624 ∧ slots + 36 ≤ 7183232) (k : ∀ (st2 mt2 : St) (ov2 : Nat → Int64), Rel st2 mt2 → Wg p l e room_1 s m args below meth c Q D cs ad A 7 (cells + 6) (slots + 36) 1549 (lvI b ad i) [] st2 mt2 ov2) : Wg p l e room_1 s m args below meth c Q D cs ad A 7 cells slots 1108 (lvI b ad i) [] st mt ov := by
  refine w_aload_n C 3 d_law_1108 rfl rfl ?_
  refine w_aload_n C 4 d_law_1109 rfl rfl ?_
  refine w_iload C 0 d_law_1110 rfl ?_
  refine w_iconst (v := 1) C d_law_1112 rfl ?_
  refine w_iadd C d_law_1113 ?_
  refine w_sld C X (ix1 i) (by omega) hL d_law_1114 ?_
  refine w_aload_n C 4 d_law_1115 rfl rfl ?_
  refine w_iload C 0 d_law_1116 rfl ?_
  refine w_iconst (v := 2) C d_law_1118 rfl ?_
  refine w_iadd C d_law_1119 ?_
  refine w_sld C X (ix2 i) (by omega) hL d_law_1120 ?_
  refine w_aload_n C 1 d_law_1121 rfl rfl ?_
  refine w_callLi C (w_runSW C (c_L_reported hl) m_512 m_513 m_35 m_514 ⟨rfl, rfl⟩ hd_L_reported rfl ⟨Nat.le_of_ble_eq_true rfl, Nat.le_of_ble_eq_true rfl⟩ rfl (Nat.le_of_ble_eq_true rfl) d_law_1122 ⟨Nat.le_trans (Nat.add_le_add_left (Nat.le_of_ble_eq_true rfl) cells) hcs.1, Nat.le_trans (Nat.add_le_add_left (Nat.le_of_ble_eq_true rfl) slots) hcs.2⟩) (fun r w hw => ?_)
  refine w_widen (k2 := cells + 6) (n2 := slots + 36) (Nat.add_le_add_left (Nat.le_of_ble_eq_true rfl) cells) (Nat.add_le_add_left (Nat.le_of_ble_eq_true rfl) slots) ?_
  refine w_istore (lv2 := [(5, .int r), (4, .int (nI i)), (3, .ref (ad 71)), (2, .ref (ad 50)), (1, .ref (ad 0)), (0, .ref b)]) C d_law_1125 (by decide) rfl ?_
  refine w_aload_n C 3 d_law_1127 rfl rfl ?_
  refine w_aload_n C 5 d_law_1128 rfl rfl ?_
  refine w_iload C 1 d_law_1129 rfl ?_
  refine w_iconst (v := 1) C d_law_1131 rfl ?_
  refine w_iadd C d_law_1132 ?_
  refine w_sld C X (ix1 i) (by omega) hL d_law_1133 ?_
  refine w_aload_n C 5 d_law_1134 rfl rfl ?_
  refine w_iload C 1 d_law_1135 rfl ?_
  refine w_iconst (v := 2) C d_law_1137 rfl ?_
  refine w_iadd C d_law_1138 ?_
  refine w_sld C X (ix2 i) (by omega) hL d_law_1139 ?_
  refine w_callMi C (w_runV C (c_M_reported ) (by omega) e_M rfl rfl m_763 m_764 m_765 m_41 m_766 ⟨rfl, rfl⟩ hd_M_reported rfl ⟨Nat.le_of_ble_eq_true rfl, Nat.le_of_ble_eq_true rfl⟩ rfl (Nat.le_of_ble_eq_true rfl) d_law_1140 hcs) (fun b2 u hu => ?_)
  obtain ⟨e0, e1, hR2⟩ := z_reported hR hw hu
  refine w_istore (lv2 := [(6, .int b2), (5, .int r), (4, .int (nI i)), (3, .ref (ad 71)), (2, .ref (ad 50)), (1, .ref (ad 0)), (0, .ref b)]) C d_law_1143 (by decide) rfl ?_
  refine w_aload_n C 4 d_law_1145 rfl rfl ?_
  refine w_callMi C (w_runV C c_M_thrown (by omega) e_M rfl rfl m_636 m_637 m_638 m_41 m_639 ⟨rfl, rfl⟩ hd_M_thrown rfl ⟨Nat.le_of_ble_eq_true rfl, Nat.le_of_ble_eq_true rfl⟩ rfl (Nat.le_of_ble_eq_true rfl) d_law_1146 hcs) (fun r3 u3 h3 => ?_)
  obtain ⟨rfl, h3⟩ := h3
  have h3 := h3.symm
  subst h3
  refine w_iload C 1 d_law_1149 rfl ?_
  refine w_icmp_eq_t C 1156 d_law_1151 (by decide) e0 ?_
  refine w_iload C 1 d_law_1156 rfl ?_
  refine w_if_ne C 1173 d_law_1158 (by decide) (fun _ => ?_) (fun hr0 => ?_)
  · refine w_goto C 1549 d_law_1173 (by decide) ?_
    refine w_lv [2, 3, 4, 5, 6] rfl ?_
    exact k _ _ _ hR2
  have e2 := ov_0 (e1 hr0)
  refine w_aload_n C 3 d_law_1161 rfl rfl ?_
  refine w_iconst (v := 0) C d_law_1162 rfl ?_
  refine la_O C rfl d_law_1163 ?_
  refine w_iload C 0 d_law_1164 rfl ?_
  refine w_i2l C d_law_1166 ?_
  refine w_lcmp C d_law_1167 ?_
  refine w_if_eq_t C 1173 d_law_1168 (by decide) (lg_same e2) ?_
  refine w_goto C 1549 d_law_1173 (by decide) ?_
  refine w_lv [2, 3, 4, 5, 6] rfl ?_
  exact k _ _ _ hR2
set_option maxHeartbeats 4000000 in
set_option maxRecDepth 100000 in
theorem q_why {p : Program} {l : Launch} {e : Env} {s : State} {m : MethodId} {args : Array Value} {below : List Frame} {meth : Method} {c : Code} {Q : State → Prop} {D : va_G} {cs : Nat → ClassId} {ad : Nat → Nat} {A : Nat → Prop} {b L : Nat} {xs : Nat → Int32} (C : Cx p s m args meth c D cs ad A code 7 "TwinRegisterLaw") (X : LX s A b L xs) (hl : l.stackTraces = false) (hL : L ≤ 3072) {i cells slots : Nat} {st mt : St} {ov : Nat → Int64} (hR : Rel st mt) (hi : i + 6 ≤ L) (hcs : cells + 6 ≤ 637624 ∧ slots + 36 ≤ 7183232) (k : ∀ (st2 mt2 : St) (ov2 : Nat → Int64), Rel st2 mt2 → Wg p l e room_1 s m args below meth c Q D cs ad A 7 (cells + 6) (slots + 36) 1549 (lvI b ad i) [] st2 mt2 ov2) : Wg p l e room_1 s m args below meth c Q D cs ad A 7 cells slots 1176 (lvI b ad i) [] st mt ov := by
  refine w_aload_n C 3 d_law_1176 rfl rfl ?_
  refine w_aload_n C 4 d_law_1177 rfl rfl ?_
  refine w_iload C 0 d_law_1178 rfl ?_
  refine w_iconst (v := 1) C d_law_1180 rfl ?_
  refine w_iadd C d_law_1181 ?_
  refine w_sld C X (ix1 i) (by omega) hL d_law_1182 ?_
  refine w_aload_n C 4 d_law_1183 rfl rfl ?_
  refine w_iload C 0 d_law_1184 rfl ?_
  refine w_iconst (v := 2) C d_law_1186 rfl ?_
  refine w_iadd C d_law_1187 ?_
  refine w_sld C X (ix2 i) (by omega) hL d_law_1188 ?_
  refine w_aload_n C 1 d_law_1189 rfl rfl ?_
  refine w_callLi C (w_runSW C (c_L_why hl) m_519 m_520 m_35 m_521 ⟨rfl, rfl⟩ hd_L_why rfl ⟨Nat.le_of_ble_eq_true rfl, Nat.le_of_ble_eq_true rfl⟩ rfl (Nat.le_of_ble_eq_true rfl) d_law_1190 ⟨Nat.le_trans (Nat.add_le_add_left (Nat.le_of_ble_eq_true rfl) cells) hcs.1, Nat.le_trans (Nat.add_le_add_left (Nat.le_of_ble_eq_true rfl) slots) hcs.2⟩) (fun r w hw => ?_)
  refine w_widen (k2 := cells + 6) (n2 := slots + 36) (Nat.add_le_add_left (Nat.le_of_ble_eq_true rfl) cells) (Nat.add_le_add_left (Nat.le_of_ble_eq_true rfl) slots) ?_
  refine w_istore (lv2 := [(5, .int r), (4, .int (nI i)), (3, .ref (ad 71)), (2, .ref (ad 50)), (1, .ref (ad 0)), (0, .ref b)]) C d_law_1193 (by decide) rfl ?_
  refine w_aload_n C 3 d_law_1195 rfl rfl ?_
  refine w_aload_n C 5 d_law_1196 rfl rfl ?_
  refine w_iload C 1 d_law_1197 rfl ?_
  refine w_iconst (v := 1) C d_law_1199 rfl ?_
  refine w_iadd C d_law_1200 ?_
  refine w_sld C X (ix1 i) (by omega) hL d_law_1201 ?_
  refine w_aload_n C 5 d_law_1202 rfl rfl ?_
  refine w_iload C 1 d_law_1203 rfl ?_
  refine w_iconst (v := 2) C d_law_1205 rfl ?_
  refine w_iadd C d_law_1206 ?_
  refine w_sld C X (ix2 i) (by omega) hL d_law_1207 ?_
  refine w_callMi C (w_runV C (c_M_why ) (by omega) e_M rfl rfl m_767 m_768 m_769 m_41 m_770 ⟨rfl, rfl⟩ hd_M_why rfl ⟨Nat.le_of_ble_eq_true rfl, Nat.le_of_ble_eq_true rfl⟩ rfl (Nat.le_of_ble_eq_true rfl) d_law_1208 hcs) (fun b2 u hu => ?_)
  obtain ⟨e0, e1, hR2⟩ := z_why hR hw hu
  refine w_istore (lv2 := [(6, .int b2), (5, .int r), (4, .int (nI i)), (3, .ref (ad 71)), (2, .ref (ad 50)), (1, .ref (ad 0)), (0, .ref b)]) C d_law_1211 (by decide) rfl ?_
  refine w_aload_n C 4 d_law_1213 rfl rfl ?_
  refine w_callMi C (w_runV C c_M_thrown (by omega) e_M rfl rfl m_636 m_637 m_638 m_41 m_639 ⟨rfl, rfl⟩ hd_M_thrown rfl ⟨Nat.le_of_ble_eq_true rfl, Nat.le_of_ble_eq_true rfl⟩ rfl (Nat.le_of_ble_eq_true rfl) d_law_1214 hcs) (fun r3 u3 h3 => ?_)
  obtain ⟨rfl, h3⟩ := h3
  have h3 := h3.symm
  subst h3
  refine w_iload C 1 d_law_1217 rfl ?_
  refine w_icmp_eq_t C 1224 d_law_1219 (by decide) e0 ?_
  refine w_iload C 1 d_law_1224 rfl ?_
  refine w_if_ne C 1241 d_law_1226 (by decide) (fun _ => ?_) (fun hr0 => ?_)
  · refine w_goto C 1549 d_law_1241 (by decide) ?_
    refine w_lv [2, 3, 4, 5, 6] rfl ?_
    exact k _ _ _ hR2
  have e2 := ov_0 (e1 hr0)
  refine w_aload_n C 3 d_law_1229 rfl rfl ?_
  refine w_iconst (v := 0) C d_law_1230 rfl ?_
  refine la_O C rfl d_law_1231 ?_
  refine w_iload C 0 d_law_1232 rfl ?_
  refine w_i2l C d_law_1234 ?_
  refine w_lcmp C d_law_1235 ?_
  refine w_if_eq_t C 1241 d_law_1236 (by decide) (lg_same e2) ?_
  refine w_goto C 1549 d_law_1241 (by decide) ?_
  refine w_lv [2, 3, 4, 5, 6] rfl ?_
  exact k _ _ _ hR2
set_option maxHeartbeats 4000000 in
set_option maxRecDepth 100000 in
theorem q_differences {p : Program} {l : Launch} {e : Env} {s : State} {m : MethodId} {args : Array Value} {below : List Frame} {meth : Method} {c : Code} {Q : State → Prop} {D : va_G} {cs : Nat → ClassId} {ad : Nat → Nat} {A : Nat → Prop} {b L : Nat} {xs : Nat → Int32} (C : Cx p s m args meth c D cs ad A code 7 "TwinRegisterLaw") (X : LX s A b L xs) (hl : l.stackTraces = false) (hL : L ≤ 3072) {i cells slots : Nat} {st mt : St} {ov : Nat → Int64} (hR : Rel st mt) (hi : i + 6 ≤ L) (hcs : cells + 6 ≤ 637624 ∧ slots + 36 ≤ 7183232) (k : ∀ (st2 mt2 : St) (ov2 : Nat → Int64), Rel st2 mt2 → Wg p l e room_1 s m args below meth c Q D cs ad A 7 (cells + 6) (slots + 36) 1549 (lvI b ad i) [] st2 mt2 ov2) : Wg p l e room_1 s m args below meth c Q D cs ad A 7 cells slots 1244 (lvI b ad i) [] st mt ov := by
  refine w_aload_n C 3 d_law_1244 rfl rfl ?_
  refine w_aload_n C 4 d_law_1245 rfl rfl ?_
  refine w_iload C 0 d_law_1246 rfl ?_
  refine w_iconst (v := 1) C d_law_1248 rfl ?_
  refine w_iadd C d_law_1249 ?_
  refine w_sld C X (ix1 i) (by omega) hL d_law_1250 ?_
  refine w_aload_n C 1 d_law_1251 rfl rfl ?_
  refine w_callLi C (w_runSW C (c_L_differences hl) m_526 m_527 m_35 m_528 ⟨rfl, rfl⟩ hd_L_differences rfl ⟨Nat.le_of_ble_eq_true rfl, Nat.le_of_ble_eq_true rfl⟩ rfl (Nat.le_of_ble_eq_true rfl) d_law_1252 ⟨Nat.le_trans (Nat.add_le_add_left (Nat.le_of_ble_eq_true rfl) cells) hcs.1, Nat.le_trans (Nat.add_le_add_left (Nat.le_of_ble_eq_true rfl) slots) hcs.2⟩) (fun r w hw => ?_)
  refine w_widen (k2 := cells + 6) (n2 := slots + 36) (Nat.add_le_add_left (Nat.le_of_ble_eq_true rfl) cells) (Nat.add_le_add_left (Nat.le_of_ble_eq_true rfl) slots) ?_
  refine w_istore (lv2 := [(5, .int r), (4, .int (nI i)), (3, .ref (ad 71)), (2, .ref (ad 50)), (1, .ref (ad 0)), (0, .ref b)]) C d_law_1255 (by decide) rfl ?_
  refine w_aload_n C 3 d_law_1257 rfl rfl ?_
  refine w_aload_n C 5 d_law_1258 rfl rfl ?_
  refine w_iload C 1 d_law_1259 rfl ?_
  refine w_iconst (v := 1) C d_law_1261 rfl ?_
  refine w_iadd C d_law_1262 ?_
  refine w_sld C X (ix1 i) (by omega) hL d_law_1263 ?_
  refine w_callMi C (w_runV C (c_M_differences ) (by omega) e_M rfl rfl m_771 m_772 m_773 m_41 m_774 ⟨rfl, rfl⟩ hd_M_differences rfl ⟨Nat.le_of_ble_eq_true rfl, Nat.le_of_ble_eq_true rfl⟩ rfl (Nat.le_of_ble_eq_true rfl) d_law_1264 hcs) (fun b2 u hu => ?_)
  obtain ⟨e0, e1, hR2⟩ := z_differences hR hw hu
  refine w_istore (lv2 := [(6, .int b2), (5, .int r), (4, .int (nI i)), (3, .ref (ad 71)), (2, .ref (ad 50)), (1, .ref (ad 0)), (0, .ref b)]) C d_law_1267 (by decide) rfl ?_
  refine w_aload_n C 4 d_law_1269 rfl rfl ?_
  refine w_callMi C (w_runV C c_M_thrown (by omega) e_M rfl rfl m_636 m_637 m_638 m_41 m_639 ⟨rfl, rfl⟩ hd_M_thrown rfl ⟨Nat.le_of_ble_eq_true rfl, Nat.le_of_ble_eq_true rfl⟩ rfl (Nat.le_of_ble_eq_true rfl) d_law_1270 hcs) (fun r3 u3 h3 => ?_)
  obtain ⟨rfl, h3⟩ := h3
  have h3 := h3.symm
  subst h3
  refine w_iload C 1 d_law_1273 rfl ?_
  refine w_icmp_eq_t C 1280 d_law_1275 (by decide) e0 ?_
  refine w_iload C 1 d_law_1280 rfl ?_
  refine w_if_ne C 1297 d_law_1282 (by decide) (fun _ => ?_) (fun hr0 => ?_)
  · refine w_goto C 1549 d_law_1297 (by decide) ?_
    refine w_lv [2, 3, 4, 5, 6] rfl ?_
    exact k _ _ _ hR2
  have e2 := ov_0 (e1 hr0)
  refine w_aload_n C 3 d_law_1285 rfl rfl ?_
  refine w_iconst (v := 0) C d_law_1286 rfl ?_
  refine la_O C rfl d_law_1287 ?_
  refine w_iload C 0 d_law_1288 rfl ?_
  refine w_i2l C d_law_1290 ?_
  refine w_lcmp C d_law_1291 ?_
  refine w_if_eq_t C 1297 d_law_1292 (by decide) (lg_same e2) ?_
  refine w_goto C 1549 d_law_1297 (by decide) ?_
  refine w_lv [2, 3, 4, 5, 6] rfl ?_
  exact k _ _ _ hR2
set_option maxHeartbeats 4000000 in
set_option maxRecDepth 100000 in
theorem q_differencesAnew {p : Program} {l : Launch} {e : Env} {s : State} {m : MethodId} {args : Array Value} {below : List Frame} {meth : Method} {c : Code} {Q : State → Prop} {D : va_G} {cs : Nat → ClassId} {ad : Nat → Nat} {A : Nat → Prop} {b L : Nat} {xs : Nat → Int32} (C : Cx p s m args meth c D cs ad A code 7 "TwinRegisterLaw") (X : LX s A b L xs) (hl : l.stackTraces = false) (hL : L ≤ 3072) {i cells slots : Nat} {st mt : St} {ov : Nat → Int64} (hR : Rel st mt) (hi : i + 6 ≤ L) (hcs : cells + 6 ≤ 637624 ∧ slots + 36 ≤ 7183232) (k : ∀ (st2 mt2 : St) (ov2 : Nat → Int64), Rel st2 mt2 → Wg p l e room_1 s m args below meth c Q D cs ad A 7 (cells + 6) (slots + 36) 1549 (lvI b ad i) [] st2 mt2 ov2) : Wg p l e room_1 s m args below meth c Q D cs ad A 7 cells slots 1300 (lvI b ad i) [] st mt ov := by
  refine w_aload_n C 3 d_law_1300 rfl rfl ?_
  refine w_aload_n C 4 d_law_1301 rfl rfl ?_
  refine w_iload C 0 d_law_1302 rfl ?_
  refine w_iconst (v := 1) C d_law_1304 rfl ?_
  refine w_iadd C d_law_1305 ?_
  refine w_sld C X (ix1 i) (by omega) hL d_law_1306 ?_
  refine w_aload_n C 1 d_law_1307 rfl rfl ?_
  refine w_callLi C (w_runSW C (c_L_differencesAnew hl) m_533 m_534 m_35 m_535 ⟨rfl, rfl⟩ hd_L_differencesAnew rfl ⟨Nat.le_of_ble_eq_true rfl, Nat.le_of_ble_eq_true rfl⟩ rfl (Nat.le_of_ble_eq_true rfl) d_law_1308 ⟨Nat.le_trans (Nat.add_le_add_left (Nat.le_of_ble_eq_true rfl) cells) hcs.1, Nat.le_trans (Nat.add_le_add_left (Nat.le_of_ble_eq_true rfl) slots) hcs.2⟩) (fun r w hw => ?_)
  refine w_widen (k2 := cells + 6) (n2 := slots + 36) (Nat.add_le_add_left (Nat.le_of_ble_eq_true rfl) cells) (Nat.add_le_add_left (Nat.le_of_ble_eq_true rfl) slots) ?_
  refine w_istore (lv2 := [(5, .int r), (4, .int (nI i)), (3, .ref (ad 71)), (2, .ref (ad 50)), (1, .ref (ad 0)), (0, .ref b)]) C d_law_1311 (by decide) rfl ?_
  refine w_aload_n C 3 d_law_1313 rfl rfl ?_
  refine w_aload_n C 5 d_law_1314 rfl rfl ?_
  refine w_iload C 1 d_law_1315 rfl ?_
  refine w_iconst (v := 1) C d_law_1317 rfl ?_
  refine w_iadd C d_law_1318 ?_
  refine w_sld C X (ix1 i) (by omega) hL d_law_1319 ?_
  refine w_callMi C (w_runV C (c_M_differencesAnew ) (by omega) e_M rfl rfl m_775 m_776 m_777 m_41 m_778 ⟨rfl, rfl⟩ hd_M_differencesAnew rfl ⟨Nat.le_of_ble_eq_true rfl, Nat.le_of_ble_eq_true rfl⟩ rfl (Nat.le_of_ble_eq_true rfl) d_law_1320 hcs) (fun b2 u hu => ?_)
  obtain ⟨e0, e1, hR2⟩ := z_differencesAnew hR hw hu
  refine w_istore (lv2 := [(6, .int b2), (5, .int r), (4, .int (nI i)), (3, .ref (ad 71)), (2, .ref (ad 50)), (1, .ref (ad 0)), (0, .ref b)]) C d_law_1323 (by decide) rfl ?_
  refine w_aload_n C 4 d_law_1325 rfl rfl ?_
  refine w_callMi C (w_runV C c_M_thrown (by omega) e_M rfl rfl m_636 m_637 m_638 m_41 m_639 ⟨rfl, rfl⟩ hd_M_thrown rfl ⟨Nat.le_of_ble_eq_true rfl, Nat.le_of_ble_eq_true rfl⟩ rfl (Nat.le_of_ble_eq_true rfl) d_law_1326 hcs) (fun r3 u3 h3 => ?_)
  obtain ⟨rfl, h3⟩ := h3
  have h3 := h3.symm
  subst h3
  refine w_iload C 1 d_law_1329 rfl ?_
  refine w_icmp_eq_t C 1336 d_law_1331 (by decide) e0 ?_
  refine w_iload C 1 d_law_1336 rfl ?_
  refine w_if_ne C 1353 d_law_1338 (by decide) (fun _ => ?_) (fun hr0 => ?_)
  · refine w_goto C 1549 d_law_1353 (by decide) ?_
    refine w_lv [2, 3, 4, 5, 6] rfl ?_
    exact k _ _ _ hR2
  have e2 := ov_0 (e1 hr0)
  refine w_aload_n C 3 d_law_1341 rfl rfl ?_
  refine w_iconst (v := 0) C d_law_1342 rfl ?_
  refine la_O C rfl d_law_1343 ?_
  refine w_iload C 0 d_law_1344 rfl ?_
  refine w_i2l C d_law_1346 ?_
  refine w_lcmp C d_law_1347 ?_
  refine w_if_eq_t C 1353 d_law_1348 (by decide) (lg_same e2) ?_
  refine w_goto C 1549 d_law_1353 (by decide) ?_
  refine w_lv [2, 3, 4, 5, 6] rfl ?_
  exact k _ _ _ hR2
set_option maxHeartbeats 4000000 in
set_option maxRecDepth 100000 in
theorem q_members {p : Program} {l : Launch} {e : Env} {s : State} {m : MethodId} {args : Array Value} {below : List Frame} {meth : Method} {c : Code} {Q : State → Prop} {D : va_G} {cs : Nat → ClassId} {ad : Nat → Nat} {A : Nat → Prop} {b L : Nat} {xs : Nat → Int32} (C : Cx p s m args meth c D cs ad A code 7 "TwinRegisterLaw") (X : LX s A b L xs) (hl : l.stackTraces = false) (hL : L ≤ 3072) {i cells slots : Nat} {st mt : St} {ov : Nat → Int64} (hR : Rel st mt) (hi : i + 6 ≤ L) (hcs : cells + 6 ≤ 637624 ∧ slots + 36 ≤ 7183232) (k : ∀ (st2 mt2 : St) (ov2 : Nat → Int64), Rel st2 mt2 → Wg p l e room_1 s m args below meth c Q D cs ad A 7 (cells + 6) (slots + 36) 1549 (lvI b ad i) [] st2 mt2 ov2) : Wg p l e room_1 s m args below meth c Q D cs ad A 7 cells slots 1356 (lvI b ad i) [] st mt ov := by
  refine w_aload_n C 3 d_law_1356 rfl rfl ?_
  refine w_aload_n C 4 d_law_1357 rfl rfl ?_
  refine w_iload C 0 d_law_1358 rfl ?_
  refine w_iconst (v := 1) C d_law_1360 rfl ?_
  refine w_iadd C d_law_1361 ?_
  refine w_sld C X (ix1 i) (by omega) hL d_law_1362 ?_
  refine w_aload_n C 1 d_law_1363 rfl rfl ?_
  refine w_callLi C (w_runSW C (c_L_members (Rel_okS hR) hl) m_541 m_542 m_35 m_543 ⟨rfl, rfl⟩ hd_L_members rfl ⟨Nat.le_of_ble_eq_true rfl, Nat.le_of_ble_eq_true rfl⟩ rfl (Nat.le_of_ble_eq_true rfl) d_law_1364 ⟨Nat.le_trans (Nat.add_le_add_left (Nat.le_of_ble_eq_true rfl) cells) hcs.1, Nat.le_trans (Nat.add_le_add_left (Nat.le_of_ble_eq_true rfl) slots) hcs.2⟩) (fun r w hw => ?_)
  refine w_widen (k2 := cells + 6) (n2 := slots + 36) (Nat.add_le_add_left (Nat.le_of_ble_eq_true rfl) cells) (Nat.add_le_add_left (Nat.le_of_ble_eq_true rfl) slots) ?_
  refine w_istore (lv2 := [(5, .int r), (4, .int (nI i)), (3, .ref (ad 71)), (2, .ref (ad 50)), (1, .ref (ad 0)), (0, .ref b)]) C d_law_1367 (by decide) rfl ?_
  refine w_aload_n C 3 d_law_1369 rfl rfl ?_
  refine w_aload_n C 5 d_law_1370 rfl rfl ?_
  refine w_iload C 1 d_law_1371 rfl ?_
  refine w_iconst (v := 1) C d_law_1373 rfl ?_
  refine w_iadd C d_law_1374 ?_
  refine w_sld C X (ix1 i) (by omega) hL d_law_1375 ?_
  refine w_callMi C (w_runV C (c_M_members (Rel_okM (Rel_thr (c := 0) hR))) (by omega) e_M rfl rfl m_779 m_780 m_781 m_41 m_782 ⟨rfl, rfl⟩ hd_M_members rfl ⟨Nat.le_of_ble_eq_true rfl, Nat.le_of_ble_eq_true rfl⟩ rfl (Nat.le_of_ble_eq_true rfl) d_law_1376 hcs) (fun b2 u hu => ?_)
  obtain ⟨e0, e1, hR2⟩ := z_members hR hw hu
  refine w_istore (lv2 := [(6, .int b2), (5, .int r), (4, .int (nI i)), (3, .ref (ad 71)), (2, .ref (ad 50)), (1, .ref (ad 0)), (0, .ref b)]) C d_law_1379 (by decide) rfl ?_
  refine w_aload_n C 4 d_law_1381 rfl rfl ?_
  refine w_callMi C (w_runV C c_M_thrown (by omega) e_M rfl rfl m_636 m_637 m_638 m_41 m_639 ⟨rfl, rfl⟩ hd_M_thrown rfl ⟨Nat.le_of_ble_eq_true rfl, Nat.le_of_ble_eq_true rfl⟩ rfl (Nat.le_of_ble_eq_true rfl) d_law_1382 hcs) (fun r3 u3 h3 => ?_)
  obtain ⟨rfl, h3⟩ := h3
  have h3 := h3.symm
  subst h3
  refine w_iload C 1 d_law_1385 rfl ?_
  refine w_icmp_eq_t C 1392 d_law_1387 (by decide) e0 ?_
  refine w_iload C 1 d_law_1392 rfl ?_
  refine w_if_ne C 1409 d_law_1394 (by decide) (fun _ => ?_) (fun hr0 => ?_)
  · refine w_goto C 1549 d_law_1409 (by decide) ?_
    refine w_lv [2, 3, 4, 5, 6] rfl ?_
    exact k _ _ _ hR2
  have e2 := ov_0 (e1 hr0)
  refine w_aload_n C 3 d_law_1397 rfl rfl ?_
  refine w_iconst (v := 0) C d_law_1398 rfl ?_
  refine la_O C rfl d_law_1399 ?_
  refine w_iload C 0 d_law_1400 rfl ?_
  refine w_i2l C d_law_1402 ?_
  refine w_lcmp C d_law_1403 ?_
  refine w_if_eq_t C 1409 d_law_1404 (by decide) (lg_same e2) ?_
  refine w_goto C 1549 d_law_1409 (by decide) ?_
  refine w_lv [2, 3, 4, 5, 6] rfl ?_
  exact k _ _ _ hR2
set_option maxHeartbeats 4000000 in
set_option maxRecDepth 100000 in
theorem q_jobs {p : Program} {l : Launch} {e : Env} {s : State} {m : MethodId} {args : Array Value} {below : List Frame} {meth : Method} {c : Code} {Q : State → Prop} {D : va_G} {cs : Nat → ClassId} {ad : Nat → Nat} {A : Nat → Prop} {b L : Nat} {xs : Nat → Int32} (C : Cx p s m args meth c D cs ad A code 7 "TwinRegisterLaw") (X : LX s A b L xs) (hl : l.stackTraces = false) (hL : L ≤ 3072) {i cells slots : Nat} {st mt : St} {ov : Nat → Int64} (hR : Rel st mt) (hi : i + 6 ≤ L) (hcs : cells + 6 ≤ 637624 ∧ slots + 36 ≤ 7183232) (k : ∀ (st2 mt2 : St) (ov2 : Nat → Int64), Rel st2 mt2 → Wg p l e room_1 s m args below meth c Q D cs ad A 7 (cells + 6) (slots + 36) 1549 (lvI b ad i) [] st2 mt2 ov2) : Wg p l e room_1 s m args below meth c Q D cs ad A 7 cells slots 1412 (lvI b ad i) [] st mt ov := by
  refine w_aload_n C 3 d_law_1412 rfl rfl ?_
  refine w_callTi C (w_runV C (c_T_jobs ) (by omega) e_T rfl rfl m_233 m_234 m_235 m_36 m_236 ⟨rfl, rfl⟩ hd_T_jobs rfl ⟨Nat.le_of_ble_eq_true rfl, Nat.le_of_ble_eq_true rfl⟩ rfl (Nat.le_of_ble_eq_true rfl) d_law_1413 ⟨Nat.le_trans (Nat.add_le_add_left (Nat.le_of_ble_eq_true rfl) cells) hcs.1, Nat.le_trans (Nat.add_le_add_left (Nat.le_of_ble_eq_true rfl) slots) hcs.2⟩) (fun r w hw => ?_)
  refine w_widen (k2 := cells + 6) (n2 := slots + 36) (Nat.add_le_add_left (Nat.le_of_ble_eq_true rfl) cells) (Nat.add_le_add_left (Nat.le_of_ble_eq_true rfl) slots) ?_
  refine w_aload_n C 2 d_law_1416 rfl rfl ?_
  refine w_callMi C (w_runV C (c_M_jobs ) (by omega) e_M rfl rfl m_783 m_784 m_785 m_41 m_786 ⟨rfl, rfl⟩ hd_M_jobs rfl ⟨Nat.le_of_ble_eq_true rfl, Nat.le_of_ble_eq_true rfl⟩ rfl (Nat.le_of_ble_eq_true rfl) d_law_1417 hcs) (fun b2 u hu => ?_)
  obtain ⟨rfl, hw⟩ := hw
  have hw := hw.symm
  subst hw
  obtain ⟨hu, rfl⟩ := hu
  subst hu
  have e0 : st 0 4 = thr mt 0 0 12 := by
    obtain ⟨jc, -, g1, g2, -⟩ := hR.2.2.2.2
    rw [thr_12, g1, g2]
  have hR2 := Rel_thr (c := 0) hR
  refine w_icmp_eq_t C 1549 d_law_1420 (by decide) e0 ?_
  exact k _ _ _ hR2
set_option maxHeartbeats 4000000 in
set_option maxRecDepth 100000 in
theorem q_state {p : Program} {l : Launch} {e : Env} {s : State} {m : MethodId} {args : Array Value} {below : List Frame} {meth : Method} {c : Code} {Q : State → Prop} {D : va_G} {cs : Nat → ClassId} {ad : Nat → Nat} {A : Nat → Prop} {b L : Nat} {xs : Nat → Int32} (C : Cx p s m args meth c D cs ad A code 7 "TwinRegisterLaw") (X : LX s A b L xs) (hl : l.stackTraces = false) (hL : L ≤ 3072) {i cells slots : Nat} {st mt : St} {ov : Nat → Int64} (hR : Rel st mt) (hi : i + 6 ≤ L) (hcs : cells + 6 ≤ 637624 ∧ slots + 36 ≤ 7183232) (k : ∀ (st2 mt2 : St) (ov2 : Nat → Int64), Rel st2 mt2 → Wg p l e room_1 s m args below meth c Q D cs ad A 7 (cells + 6) (slots + 36) 1549 (lvI b ad i) [] st2 mt2 ov2) : Wg p l e room_1 s m args below meth c Q D cs ad A 7 cells slots 1425 (lvI b ad i) [] st mt ov := by
  obtain ⟨jc, hjc, hj0, hm0, -⟩ := hR.2.2.2.2
  refine w_aload_n C 3 d_law_1425 rfl rfl ?_
  refine w_aload_n C 4 d_law_1426 rfl rfl ?_
  refine w_iload C 0 d_law_1427 rfl ?_
  refine w_iconst (v := 1) C d_law_1429 rfl ?_
  refine w_iadd C d_law_1430 ?_
  refine w_sld C X (ix1 i) (by omega) hL d_law_1431 ?_
  refine w_aload_n C 1 d_law_1432 rfl rfl ?_
  refine w_callLi C (w_runSW C (c_L_state hjc hj0 hl) m_548 m_549 m_35 m_550 ⟨rfl, rfl⟩ hd_L_state rfl ⟨Nat.le_of_ble_eq_true rfl, Nat.le_of_ble_eq_true rfl⟩ rfl (Nat.le_of_ble_eq_true rfl) d_law_1433 ⟨Nat.le_trans (Nat.add_le_add_left (Nat.le_of_ble_eq_true rfl) cells) hcs.1, Nat.le_trans (Nat.add_le_add_left (Nat.le_of_ble_eq_true rfl) slots) hcs.2⟩) (fun r w hw => ?_)
  refine w_widen (k2 := cells + 6) (n2 := slots + 36) (Nat.add_le_add_left (Nat.le_of_ble_eq_true rfl) cells) (Nat.add_le_add_left (Nat.le_of_ble_eq_true rfl) slots) ?_
  refine w_istore (lv2 := [(5, .int r), (4, .int (nI i)), (3, .ref (ad 71)), (2, .ref (ad 50)), (1, .ref (ad 0)), (0, .ref b)]) C d_law_1436 (by decide) rfl ?_
  refine w_aload_n C 3 d_law_1438 rfl rfl ?_
  refine w_aload_n C 5 d_law_1439 rfl rfl ?_
  refine w_iload C 1 d_law_1440 rfl ?_
  refine w_iconst (v := 1) C d_law_1442 rfl ?_
  refine w_iadd C d_law_1443 ?_
  refine w_sld C X (ix1 i) (by omega) hL d_law_1444 ?_
  refine w_callMi C (w_runV C (c_M_state hjc hm0) (by omega) e_M rfl rfl m_787 m_788 m_789 m_41 m_790 ⟨rfl, rfl⟩ hd_M_state rfl ⟨Nat.le_of_ble_eq_true rfl, Nat.le_of_ble_eq_true rfl⟩ rfl (Nat.le_of_ble_eq_true rfl) d_law_1445 hcs) (fun b2 u hu => ?_)
  obtain ⟨e0, e1, hR2⟩ := z_state hjc hj0 hR hw hu
  refine w_istore (lv2 := [(6, .int b2), (5, .int r), (4, .int (nI i)), (3, .ref (ad 71)), (2, .ref (ad 50)), (1, .ref (ad 0)), (0, .ref b)]) C d_law_1448 (by decide) rfl ?_
  refine w_aload_n C 4 d_law_1450 rfl rfl ?_
  refine w_callMi C (w_runV C c_M_thrown (by omega) e_M rfl rfl m_636 m_637 m_638 m_41 m_639 ⟨rfl, rfl⟩ hd_M_thrown rfl ⟨Nat.le_of_ble_eq_true rfl, Nat.le_of_ble_eq_true rfl⟩ rfl (Nat.le_of_ble_eq_true rfl) d_law_1451 hcs) (fun r3 u3 h3 => ?_)
  obtain ⟨rfl, h3⟩ := h3
  have h3 := h3.symm
  subst h3
  refine w_iload C 1 d_law_1454 rfl ?_
  refine w_icmp_eq_t C 1461 d_law_1456 (by decide) e0 ?_
  refine w_iload C 1 d_law_1461 rfl ?_
  refine w_if_ne C 1478 d_law_1463 (by decide) (fun _ => ?_) (fun hr0 => ?_)
  · refine w_goto C 1549 d_law_1478 (by decide) ?_
    refine w_lv [2, 3, 4, 5, 6] rfl ?_
    exact k _ _ _ hR2
  have e2 := ov_0 (e1 hr0)
  refine w_aload_n C 3 d_law_1466 rfl rfl ?_
  refine w_iconst (v := 0) C d_law_1467 rfl ?_
  refine la_O C rfl d_law_1468 ?_
  refine w_iload C 0 d_law_1469 rfl ?_
  refine w_i2l C d_law_1471 ?_
  refine w_lcmp C d_law_1472 ?_
  refine w_if_eq_t C 1478 d_law_1473 (by decide) (lg_same e2) ?_
  refine w_goto C 1549 d_law_1478 (by decide) ?_
  refine w_lv [2, 3, 4, 5, 6] rfl ?_
  exact k _ _ _ hR2
set_option maxHeartbeats 4000000 in
set_option maxRecDepth 100000 in
theorem q_devices {p : Program} {l : Launch} {e : Env} {s : State} {m : MethodId} {args : Array Value} {below : List Frame} {meth : Method} {c : Code} {Q : State → Prop} {D : va_G} {cs : Nat → ClassId} {ad : Nat → Nat} {A : Nat → Prop} {b L : Nat} {xs : Nat → Int32} (C : Cx p s m args meth c D cs ad A code 7 "TwinRegisterLaw") (X : LX s A b L xs) (hl : l.stackTraces = false) (hL : L ≤ 3072) {i cells slots : Nat} {st mt : St} {ov : Nat → Int64} (hR : Rel st mt) (hi : i + 6 ≤ L) (hcs : cells + 6 ≤ 637624 ∧ slots + 36 ≤ 7183232) (k : ∀ (st2 mt2 : St) (ov2 : Nat → Int64), Rel st2 mt2 → Wg p l e room_1 s m args below meth c Q D cs ad A 7 (cells + 6) (slots + 36) 1549 (lvI b ad i) [] st2 mt2 ov2) : Wg p l e room_1 s m args below meth c Q D cs ad A 7 cells slots 1481 (lvI b ad i) [] st mt ov := by
  obtain ⟨jc, hjc, hj0, hm0, -⟩ := hR.2.2.2.2
  refine w_aload_n C 3 d_law_1481 rfl rfl ?_
  refine w_aload_n C 4 d_law_1482 rfl rfl ?_
  refine w_iload C 0 d_law_1483 rfl ?_
  refine w_iconst (v := 1) C d_law_1485 rfl ?_
  refine w_iadd C d_law_1486 ?_
  refine w_sld C X (ix1 i) (by omega) hL d_law_1487 ?_
  refine w_aload_n C 4 d_law_1488 rfl rfl ?_
  refine w_iload C 0 d_law_1489 rfl ?_
  refine w_iconst (v := 2) C d_law_1491 rfl ?_
  refine w_iadd C d_law_1492 ?_
  refine w_sld C X (ix2 i) (by omega) hL d_law_1493 ?_
  refine w_aload_n C 1 d_law_1494 rfl rfl ?_
  refine w_callLi C (w_runSW C (c_L_devices hjc hj0 hl) m_555 m_556 m_35 m_557 ⟨rfl, rfl⟩ hd_L_devices rfl ⟨Nat.le_of_ble_eq_true rfl, Nat.le_of_ble_eq_true rfl⟩ rfl (Nat.le_of_ble_eq_true rfl) d_law_1495 ⟨Nat.le_trans (Nat.add_le_add_left (Nat.le_of_ble_eq_true rfl) cells) hcs.1, Nat.le_trans (Nat.add_le_add_left (Nat.le_of_ble_eq_true rfl) slots) hcs.2⟩) (fun r w hw => ?_)
  refine w_widen (k2 := cells + 6) (n2 := slots + 36) (Nat.add_le_add_left (Nat.le_of_ble_eq_true rfl) cells) (Nat.add_le_add_left (Nat.le_of_ble_eq_true rfl) slots) ?_
  refine w_istore (lv2 := [(5, .int r), (4, .int (nI i)), (3, .ref (ad 71)), (2, .ref (ad 50)), (1, .ref (ad 0)), (0, .ref b)]) C d_law_1498 (by decide) rfl ?_
  refine w_aload_n C 3 d_law_1500 rfl rfl ?_
  refine w_aload_n C 5 d_law_1501 rfl rfl ?_
  refine w_iload C 1 d_law_1502 rfl ?_
  refine w_iconst (v := 1) C d_law_1504 rfl ?_
  refine w_iadd C d_law_1505 ?_
  refine w_sld C X (ix1 i) (by omega) hL d_law_1506 ?_
  refine w_aload_n C 5 d_law_1507 rfl rfl ?_
  refine w_iload C 1 d_law_1508 rfl ?_
  refine w_iconst (v := 2) C d_law_1510 rfl ?_
  refine w_iadd C d_law_1511 ?_
  refine w_sld C X (ix2 i) (by omega) hL d_law_1512 ?_
  refine w_callMi C (w_runV C (c_M_devices hjc hm0) (by omega) e_M rfl rfl m_791 m_792 m_793 m_41 m_794 ⟨rfl, rfl⟩ hd_M_devices rfl ⟨Nat.le_of_ble_eq_true rfl, Nat.le_of_ble_eq_true rfl⟩ rfl (Nat.le_of_ble_eq_true rfl) d_law_1513 hcs) (fun b2 u hu => ?_)
  obtain ⟨e0, e1, hR2⟩ := z_devices hjc hj0 hR hw hu
  refine w_istore (lv2 := [(6, .int b2), (5, .int r), (4, .int (nI i)), (3, .ref (ad 71)), (2, .ref (ad 50)), (1, .ref (ad 0)), (0, .ref b)]) C d_law_1516 (by decide) rfl ?_
  refine w_aload_n C 4 d_law_1518 rfl rfl ?_
  refine w_callMi C (w_runV C c_M_thrown (by omega) e_M rfl rfl m_636 m_637 m_638 m_41 m_639 ⟨rfl, rfl⟩ hd_M_thrown rfl ⟨Nat.le_of_ble_eq_true rfl, Nat.le_of_ble_eq_true rfl⟩ rfl (Nat.le_of_ble_eq_true rfl) d_law_1519 hcs) (fun r3 u3 h3 => ?_)
  obtain ⟨rfl, h3⟩ := h3
  have h3 := h3.symm
  subst h3
  refine w_iload C 1 d_law_1522 rfl ?_
  refine w_icmp_eq_t C 1529 d_law_1524 (by decide) e0 ?_
  refine w_iload C 1 d_law_1529 rfl ?_
  refine w_if_ne C 1546 d_law_1531 (by decide) (fun _ => ?_) (fun hr0 => ?_)
  · refine w_goto C 1549 d_law_1546 (by decide) ?_
    refine w_lv [2, 3, 4, 5, 6] rfl ?_
    exact k _ _ _ hR2
  have e2 := ov_0 (e1 hr0)
  refine w_aload_n C 3 d_law_1534 rfl rfl ?_
  refine w_iconst (v := 0) C d_law_1535 rfl ?_
  refine la_O C rfl d_law_1536 ?_
  refine w_iload C 0 d_law_1537 rfl ?_
  refine w_i2l C d_law_1539 ?_
  refine w_lcmp C d_law_1540 ?_
  refine w_if_eq_t C 1546 d_law_1541 (by decide) (lg_same e2) ?_
  refine w_goto C 1549 d_law_1546 (by decide) ?_
  refine w_lv [2, 3, 4, 5, 6] rfl ?_
  exact k _ _ _ hR2
