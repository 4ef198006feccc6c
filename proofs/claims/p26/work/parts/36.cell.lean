/-! ===== the script, which lies outside the world ===== -/
def LX (s : State) (A : Nat → Prop) (b L : Nat) (xs : Nat → Int32) : Prop := va_X b L xs s s.heap ∧ b < s.heap.size ∧ ¬ A b
section LAWROWS
variable {p : Program} {l : Launch} {e : Env} {R : Room} {s : State} {m : MethodId} {args : Array Value} {below : List Frame} {meth : Method} {c : Code} {Q : State → Prop} {D : va_G} {cs : Nat → ClassId} {ad : Nat → Nat} {A : Nat → Prop} {nL : Nat} {cc : ByteArray} {own : String} {cells slots : Nat} {pc : Nat} {lv : List (Nat × Value)} {stk : List Value} {st mt : Nat → Nat → Int32} {ov : Nat → Int64}
theorem w_sld (C : Cx p s m args meth c D cs ad A cc nL own) {b L : Nat} {xs : Nat → Int32} (X : LX s A b L xs) {x : Int32} {j : Nat} (hx : x = nI j) (hj : j < L) (hL : L ≤ 260) (d : decode cc pc = .ok (.iaload, 1)) (k : Wg p l e R s m args below meth c Q D cs ad A nL cells slots (pc + 1) lv (.int (xs j) :: stk) st mt ov) : Wg p l e R s m args below meth c Q D cs ad A nL cells slots pc lv (.int x :: .ref b :: stk) st mt ov := by
  intro H locs ls hP hS hl
  subst hx
  refine va_sld C.1 C.2.1 X.1 X.2.1 X.2.2 hS (vp_in_nI hj (by omega)) d ?_
  rw [nI_clamp (by omega)]
  exact k H locs ls hP hS hl
theorem w_slen (C : Cx p s m args meth c D cs ad A cc nL own) {b L : Nat} {xs : Nat → Int32} (X : LX s A b L xs) (d : decode cc pc = .ok (.arraylength, 1)) (k : Wg p l e R s m args below meth c Q D cs ad A nL cells slots (pc + 1) lv (.int (nI L) :: stk) st mt ov) : Wg p l e R s m args below meth c Q D cs ad A nL cells slots pc lv (.ref b :: stk) st mt ov :=
  fun H locs ls hP hS hl => va_slen C.1 C.2.1 X.1 X.2.1 X.2.2 hS d (k H locs ls hP hS hl)
def gPreC (D : va_G) (cs : Nat → ClassId) (ad : Nat → Nat) (st mt : Nat → Nat → Int32) (ov : Nat → Int64) (b L : Nat) (xs : Nat → Int32) (sz : Nat) (U : State) : Prop :=
  gPre D cs ad st mt ov sz U ∧ va_X b L xs U U.heap ∧ b < sz ∧ ¬ gA ad 60 sz b
theorem gPreC_blind {as : List Value} {b L : Nat} {xs : Nat → Int32} {sz : Nat} : FrameBlind (va_Pc as (gPreC D cs ad st mt ov b L xs sz)) := by
  intro a U g mk h
  obtain ⟨h1, h2, h3, h4, h5⟩ := h
  obtain ⟨-, g2⟩ := gPre_blind (as := as) a U g mk ⟨h1, h2⟩
  exact ⟨h1, g2, va_X.moved (u := U) (U := U.calling g mk a) (Vm.Alike.refl U.vm) h3, h4, h5⟩
def gC (l : Launch) (y : MethodName) (cc : ByteArray) (maxL : Nat) (ret : Option FieldType) (rm : Room) (mc ms : Nat) (as : List Value) (D : va_G) (cs : Nat → ClassId) (ad : Nat → Nat) (st mt : Nat → Nat → Int32) (ov : Nat → Int64) (b L : Nat) (xs : Nat → Int32) (Qf : Nat → Array Value → State → Outcome → State → Prop) : Prop :=
  ∀ sz : Nat, Met l y (Cond.code y cc maxL ret :: ag_all) rm (va_Pc as (gPreC D cs ad st mt ov b L xs sz)) (Qf sz) mc ms (gA ad 60 sz)
end LAWROWS
theorem gC_of {l : Launch} {y : MethodName} {cc : ByteArray} {maxL : Nat} {ret : Option FieldType} {rm : Room} {mc ms : Nat} {as : List Value} {D : va_G} {cs : Nat → ClassId} {ad : Nat → Nat} {st mt : Nat → Nat → Int32} {ov : Nat → Int64} {Qf : Nat → Array Value → State → Outcome → State → Prop} {own : String} {b L : Nat} {xs : Nat → Int32} (hy : plainName y.cls = true) (hown : y.cls = own) (hlen : (lg_sl as).length ≤ maxL) (body : ∀ (p : Program) (e : Env) (s : State) (m : MethodId) (args : Array Value) (below : List Frame) (meth : Method) (c : Code), Cx p s m args meth c D cs ad (gA ad 60 s.heap.size) cc maxL own → meth.sig.returnType = ret → LX s (gA ad 60 s.heap.size) b L xs → Wg p l e rm s m args below meth c (MQ below (Qf s.heap.size) args s mc ms (gA ad 60 s.heap.size)) D cs ad (gA ad 60 s.heap.size) maxL 0 0 0 (lv_args 0 as) [] st mt ov) : gC l y cc maxL ret rm mc ms as D cs ad st mt ov b L xs Qf := by
  intro sz
  refine Met.ofW (cc := cc) (maxL := maxL) (ret := ret) hy rfl ?_
  intro p e s m args below meth c s₁ B hml hv
  obtain ⟨rfl, ⟨rfl, hP, hK, hE, hJ⟩, hX, hb9, hA9⟩ := hv
  have hts := atoms_spec (ws := Cond.code y cc maxL ret :: ag_all) B.pre
  rw [lg_entry_eq]
  exact body p e s m _ below meth c ⟨B.exec, B.bytes, hml, by rw [← hown]; exact findClass_of_methodNamed B.named, fun w h => hts w (List.mem_cons_of_mem _ h), hE, hK, gA_ij hJ, fun q h => Or.inr h, B.notSynchronized⟩ B.returns ⟨hX, hb9, hA9⟩ s.heap [] _ hP va_S.rf (lv_entry as hlen)
section CALLC
variable {p : Program} {l : Launch} {e : Env} {R : Room} {s : State} {m : MethodId} {args : Array Value} {below : List Frame} {meth : Method} {c : Code} {Q : State → Prop} {D : va_G} {cs : Nat → ClassId} {ad : Nat → Nat} {A : Nat → Prop} {nL : Nat} {cc : ByteArray} {own : String} {cells slots : Nat} {pc : Nat} {lv : List (Nat × Value)} {stk : List Value} {st mt : Nat → Nat → Int32} {ov : Nat → Int64}
variable {mc ms : Nat} {rest : List Value}
theorem w_runSC (C : Cx p s m args meth c D cs ad A cc nL own) {b L : Nat} {xs : Nat → Int32} (X : LX s A b L xs) {y : MethodName} {bytes : ByteArray} {maxL n index : Nat} {ret : Option FieldType} {rm : Room} {Qf : Nat → Array Value → State → Outcome → State → Prop} {As : List Value} (hM : gC l y bytes maxL ret rm mc ms As D cs ad st mt ov b L xs Qf) (w1 : Cond.methodLink own index y ∈ ag_all) (w2 : Cond.static y ∈ ag_all) (w4 : Cond.initialized y.cls ∈ ag_all) (w5 : Cond.code y bytes maxL ret ∈ ag_all) (hrm : rm.cells = mc ∧ rm.slots = ms) (hd : y.cls ≠ "java/lang/invoke/MethodHandle" ∧ y.cls ≠ "java/lang/invoke/VarHandle" ∧ (parseMethodDescriptor y.desc).map (fun d => d.parameters.length) = some n) (hn : As.length = n) (hR : rm.frames + 1 ≤ R.frames ∧ 8 + (maxL + 11) + rm.locals ≤ R.locals) (hst : stk = As.reverse ++ rest) (hW : (rest.map fun v => v.category).sum ≤ 8) (d : decode cc pc = .ok (.invokestatic index, 3)) (hf : cells + mc ≤ R.cells ∧ slots + ms ≤ R.slots) : Rn p l e R s m args below meth c D cs ad A cells slots mc ms pc stk rest st mt ov (fun sz => Qf sz As.toArray) := by
  intro H locs ls hP hS hls
  have hts := C.2.2.2.2.1
  have hij : ij ad 60 A := C.2.2.2.2.2.2.2.1
  have hpre : ∀ U : State, U.heap = H → s.WarmedH U.vm → va_Pc As (gPreC D cs ad st mt ov b L xs H.size) As.toArray U := by
    intro U hU hW
    obtain ⟨g1, g2⟩ := cx_pre C (as := As) hP hS U hU hW
    refine ⟨g1, g2, ?_, Nat.lt_of_lt_of_le X.2.1 hS.1, fun z => ?_⟩
    · rw [hU]
      exact va_X.moved hW.alike (va_X.kept X.1 (hS.2.1 b X.2.1 X.2.2))
    · rcases z with ⟨i, hi, e⟩ | z
      · exact X.2.2 (by rw [e]; exact hij.2 i hi)
      · have := X.2.1
        have := hS.1
        omega
  exact va_runS (As := As) (rest := rest) ⟨C.1, C.2.1, C.2.2.1, C.2.2.2.1, hts⟩ (hM H.size) ⟨callB_of (Ts := ag_all) (ws := (Cond.code y bytes maxL ret :: ag_all)) n hts (gi_all (y := y) w5) rfl hrm.1 hrm.2 (hts _ w4) (hts _ w1) hd hR, hts _ w2⟩ ⟨gPreC_blind, hpre⟩ rfl hn (hls.trans C.2.2.1) hst (lv_room hW) d hf
end CALLC
set_option maxHeartbeats 4000000 in
set_option maxRecDepth 100000 in
theorem c_L_cell {l : Launch} {D : va_G} {cs : Nat → ClassId} {ad : Nat → Nat} {st mt : Nat → Nat → Int32} {ov : Nat → Int64} {b L : Nat} {xs : Nat → Int32} (hL : L ≤ 260) {k : Nat} (hk : k < 1000) : gC l y_L_cell b_L_cell 2 (some .int) ({ frames := 0, cells := 0, slots := 0, locals := 0 } : Room) 0 0 [.ref b, .int (nI k)] D cs ad st mt ov b L xs (QMi D cs ad st ov (fun r u => u = mt)) := by
  refine gC_of (own := "TwinRegisterLaw") (by decide +kernel) rfl (Nat.le_of_ble_eq_true rfl) ?_
  intro p e s m args below meth c C hr X
  refine w_lv (lv2 := [(0, .ref b), (1, .int (nI k))]) [0, 1] rfl ?_
  refine w_iload_n C 1 d_L_cell_0 rfl rfl ?_
  refine w_aload_n C 0 d_L_cell_1 rfl rfl ?_
  refine w_slen C X d_L_cell_2 ?_
  refine w_icmp_ge C 12 d_L_cell_3 (by decide) (fun h3 => ?_) (fun h3 => ?_)
  · skip
    refine w_ldc (v := 1205059557) C m_177 d_L_cell_12 ?_
    refine w_iload_n C 1 d_L_cell_14 rfl rfl ?_
    refine w_iconst (v := 5) C d_L_cell_15 rfl ?_
    refine w_iadd C d_L_cell_16 ?_
    refine w_imul C d_L_cell_17 ?_
    exact w_iretM C hr d_L_cell_18 (rfl)
  · skip
    refine w_aload_n C 0 d_L_cell_6 rfl rfl ?_
    refine w_iload_n C 1 d_L_cell_7 rfl rfl ?_
    refine w_sld C X rfl (by rcases Nat.lt_or_ge k L with z | z; exact z; exact absurd (nI_le z (by omega)) h3) hL d_L_cell_8 ?_
    refine w_goto C 18 d_L_cell_9 (by decide) ?_
    exact w_iretM C hr d_L_cell_18 (rfl)
