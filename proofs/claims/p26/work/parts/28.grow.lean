/-! ===== a world that grows: the cell of place i lies at base + i ===== -/
abbrev kad (base : Nat) : Nat → Nat := fun i => base + i
abbrev kA (base : Nat) : Nat → Prop := fun q => base ≤ q
theorem k_ij (base n : Nat) : ij (kad base) n (kA base) :=
  ⟨fun i j _ _ h => Nat.add_left_cancel h, fun i _ => Nat.le_add_right base i⟩
theorem k_up (base n : Nat) : va_up (kad base) n (base + n) = kad base := by
  funext j
  by_cases h : j = n
  · subst h
    exact va_up_self _ _ _
  · exact va_up_ne _ _ h
def ax_A (U : State) : Prop := va_AO "TwinRegister$Device" U ∧ va_AO "TwinRegister$Group" U ∧ va_AO "TwinRegister$Job" U
theorem ax_A.moved {s U : State} (hv : s.vm.Alike U.vm) (h : ax_A s) : ax_A U := ⟨h.1.moved hv, h.2.1.moved hv, h.2.2.moved hv⟩
theorem ra_one {s : State} {a b : ClassId} {ty : FieldType} (h1 : va_RA s a ty) (h2 : va_RA s b ty) : a = b := by
  cases ty with
  | object C =>
    obtain ⟨_, _, _, _, _, e1⟩ := h1
    obtain ⟨_, _, _, _, _, e2⟩ := h2
    exact Option.some.inj (e1.symm.trans e2)
  | _ => exact Option.some.inj (h1.symm.trans h2)
def Kg (p : Program) (l : Launch) (e : Env) (R : Room) (s : State) (m : MethodId) (args : Array Value) (below : List Frame) (meth : Method) (c : Code) (Q : State → Prop) (D : va_G) (base nL : Nat) (cells slots : Nat) (pc : Nat) (lv : List (Nat × Value)) (stk : List Value) (n : Nat) (E : Nat → va_E) : Prop :=
  ∀ (H : Heap) (locs : List Loc) (ls : Array Slot), va_P D gcl (iw (kad base) n E) H → va_S (kA base) s.heap H locs → lv_has ls nL lv → W p l e R s m args below meth c H locs cells slots Q (F0 m pc ls stk)
section GROW
variable {p : Program} {l : Launch} {e : Env} {R : Room} {s : State} {m : MethodId} {args : Array Value} {below : List Frame} {meth : Method} {c : Code} {Q : State → Prop} {D : va_G} {cs : Nat → ClassId} {base : Nat} {nL : Nat} {cc : ByteArray} {own : String} {cells slots : Nat} {pc : Nat} {lv : List (Nat × Value)} {stk : List Value} {n : Nat} {E : Nat → va_E}
theorem k_bound {H : Heap} {locs : List Loc} {g : JFrame} (k : H.size ≤ s.heap.size + cells → W p l e R s m args below meth c H locs cells slots Q g) : W p l e R s m args below meth c H locs cells slots Q g := by
  intro T hT X
  refine k ?_ T hT X
  have h := X.same.2.2.1
  rw [← hT]
  exact h
theorem k_E {E2 : Nat → va_E} (h : ∀ i, i < n → E i = E2 i) (k : Kg p l e R s m args below meth c Q D base nL cells slots pc lv stk n E2) : Kg p l e R s m args below meth c Q D base nL cells slots pc lv stk n E :=
  fun H locs ls hP => k H locs ls (by rw [← iw_ext (fun _ _ => rfl) h]; exact hP)
/-- the one new cell lies next -/
theorem k_at {q : Nat} {e0 : va_E} {H1 : Heap} (hP : va_P D gcl (iw (kad base) n E ++ [(q, e0)]) H1) (hD : va_D (kA base) (iw (kad base) n E ++ [(q, e0)])) (hz : H1.size ≤ base + n + 1) : q = base + n := by
  have hn : (iw (kad base) n E ++ [(q, e0)])[n]? = some (q, e0) := by
    rw [List.getElem?_append_right (by rw [iw_len]; exact Nat.le_refl _), iw_len, Nat.sub_self]
    rfl
  have h1 : base ≤ q := hD.2 n _ hn
  have h2 : q < H1.size := (hP n _ hn).lt
  rcases Nat.lt_or_ge q (base + n) with h | h
  · exfalso
    have hi : (iw (kad base) n E ++ [(q, e0)])[q - base]? = some (base + (q - base), E (q - base)) := by
      rw [List.getElem?_append_left (by rw [iw_len]; omega), iw_get (by omega)]
    have := hD.1 (q - base) n _ _ hi hn (show base + (q - base) = q by omega)
    omega
  · omega
theorem k_next {q : Nat} {e0 : va_E} : q = base + n → iw (kad base) n E ++ [(q, e0)] = iw (kad base) (n + 1) (va_up E n e0) := by
  rintro rfl
  rw [iw_push, k_up]
theorem k_iconst (C : Cx p s m args meth c D cs (kad base) (kA base) cc nL own) {nn : Int} {v : Int32} (d : decode cc pc = .ok (.iconst nn, 1)) (hv : Int32.ofInt nn = v) (k : Kg p l e R s m args below meth c Q D base nL cells slots (pc + 1) lv (.int v :: stk) n E) : Kg p l e R s m args below meth c Q D base nL cells slots pc lv stk n E :=
  fun H locs ls hP hS hl => lv_iconst C.1 C.2.1 d hv (k H locs ls hP hS hl)
theorem k_bipush (C : Cx p s m args meth c D cs (kad base) (kA base) cc nL own) {nn : Int} {v : Int32} (d : decode cc pc = .ok (.bipush nn, 2)) (hv : (Int8.ofInt nn).toInt32 = v) (k : Kg p l e R s m args below meth c Q D base nL cells slots (pc + 2) lv (.int v :: stk) n E) : Kg p l e R s m args below meth c Q D base nL cells slots pc lv stk n E :=
  fun H locs ls hP hS hl => lv_bipush C.1 C.2.1 d hv (k H locs ls hP hS hl)
theorem k_iload_n (C : Cx p s m args meth c D cs (kad base) (kA base) cc nL own) {q : Fin 4} {i : Nat} {x : Int32} (j : Nat) (d : decode cc pc = .ok (.iload_n q, 1)) (hi : (q : Nat) = i) (hj : lv[j]? = some (i, .int x)) (k : Kg p l e R s m args below meth c Q D base nL cells slots (pc + 1) lv (.int x :: stk) n E) : Kg p l e R s m args below meth c Q D base nL cells slots pc lv stk n E :=
  fun H locs ls hP hS hl => lv_iload_n C.1 C.2.1 d hi (lv_at hl j hj) (k H locs ls hP hS hl)
theorem k_istore_n (C : Cx p s m args meth c D cs (kad base) (kA base) cc nL own) {q : Fin 4} {i : Nat} {x : Int32} {lv2 : List (Nat × Value)} (d : decode cc pc = .ok (.istore_n q, 1)) (hi : (q : Nat) = i) (hn : i < nL) (hf : (i, Value.int x) :: lv.filter (fun q => !(q.1 == i) && !(q.1 + 1 == i && q.2.category == 2)) = lv2) (k : Kg p l e R s m args below meth c Q D base nL cells slots (pc + 1) lv2 stk n E) : Kg p l e R s m args below meth c Q D base nL cells slots pc lv (.int x :: stk) n E :=
  fun H locs ls hP hS hl => lv_istore_n C.1 C.2.1 d hi hl hn hf (fun ls2 hl2 => k H locs ls2 hP hS hl2)
theorem k_istore (C : Cx p s m args meth c D cs (kad base) (kA base) cc nL own) {i : Nat} {x : Int32} {lv2 : List (Nat × Value)} (d : decode cc pc = .ok (.istore i, 2)) (hn : i < nL) (hf : (i, Value.int x) :: lv.filter (fun q => !(q.1 == i) && !(q.1 + 1 == i && q.2.category == 2)) = lv2) (k : Kg p l e R s m args below meth c Q D base nL cells slots (pc + 2) lv2 stk n E) : Kg p l e R s m args below meth c Q D base nL cells slots pc lv (.int x :: stk) n E :=
  fun H locs ls hP hS hl => lv_istore C.1 C.2.1 d hl hn hf (fun ls2 hl2 => k H locs ls2 hP hS hl2)
theorem k_aload_n (C : Cx p s m args meth c D cs (kad base) (kA base) cc nL own) {q : Fin 4} {i : Nat} {x : Nat} (j : Nat) (d : decode cc pc = .ok (.aload_n q, 1)) (hi : (q : Nat) = i) (hj : lv[j]? = some (i, .ref x)) (k : Kg p l e R s m args below meth c Q D base nL cells slots (pc + 1) lv (.ref x :: stk) n E) : Kg p l e R s m args below meth c Q D base nL cells slots pc lv stk n E :=
  fun H locs ls hP hS hl => lv_aload_n C.1 C.2.1 d hi (lv_at hl j hj) (k H locs ls hP hS hl)
theorem k_astore_n (C : Cx p s m args meth c D cs (kad base) (kA base) cc nL own) {q : Fin 4} {i : Nat} {x : Nat} {lv2 : List (Nat × Value)} (d : decode cc pc = .ok (.astore_n q, 1)) (hi : (q : Nat) = i) (hn : i < nL) (hf : (i, Value.ref x) :: lv.filter (fun q => !(q.1 == i) && !(q.1 + 1 == i && q.2.category == 2)) = lv2) (k : Kg p l e R s m args below meth c Q D base nL cells slots (pc + 1) lv2 stk n E) : Kg p l e R s m args below meth c Q D base nL cells slots pc lv (.ref x :: stk) n E :=
  fun H locs ls hP hS hl => lv_astore_n C.1 C.2.1 d hi hl hn hf (fun ls2 hl2 => k H locs ls2 hP hS hl2)
theorem k_astore (C : Cx p s m args meth c D cs (kad base) (kA base) cc nL own) {i : Nat} {x : Nat} {lv2 : List (Nat × Value)} (d : decode cc pc = .ok (.astore i, 2)) (hn : i < nL) (hf : (i, Value.ref x) :: lv.filter (fun q => !(q.1 == i) && !(q.1 + 1 == i && q.2.category == 2)) = lv2) (k : Kg p l e R s m args below meth c Q D base nL cells slots (pc + 2) lv2 stk n E) : Kg p l e R s m args below meth c Q D base nL cells slots pc lv (.ref x :: stk) n E :=
  fun H locs ls hP hS hl => lv_astore C.1 C.2.1 d hl hn hf (fun ls2 hl2 => k H locs ls2 hP hS hl2)
theorem k_iinc (C : Cx p s m args meth c D cs (kad base) (kA base) cc nL own) {i : Nat} {nn : Int} {x v : Int32} {lv2 : List (Nat × Value)} (j : Nat) (d : decode cc pc = .ok (.iinc i nn, 3)) (hj : lv[j]? = some (i, .int x)) (hv : x + Int32.ofInt nn = v) (hn : i < nL) (hf : (i, Value.int v) :: lv.filter (fun q => !(q.1 == i) && !(q.1 + 1 == i && q.2.category == 2)) = lv2) (k : Kg p l e R s m args below meth c Q D base nL cells slots (pc + 3) lv2 stk n E) : Kg p l e R s m args below meth c Q D base nL cells slots pc lv stk n E :=
  fun H locs ls hP hS hl => lv_iinc C.1 C.2.1 d hl hj hv hn hf (fun ls2 hl2 => k H locs ls2 hP hS hl2)
theorem k_dup (C : Cx p s m args meth c D cs (kad base) (kA base) cc nL own) {va : Value} (d : decode cc pc = .ok (.dup, 1)) (hc : va.category = 1) (k : Kg p l e R s m args below meth c Q D base nL cells slots (pc + 1) lv (va :: va :: stk) n E) : Kg p l e R s m args below meth c Q D base nL cells slots pc lv (va :: stk) n E :=
  fun H locs ls hP hS hl => lv_dup C.1 C.2.1 d hc (k H locs ls hP hS hl)
theorem k_goto (C : Cx p s m args meth c D cs (kad base) (kA base) cc nL own) {off : Int} (tgt : Nat) (d : decode cc pc = .ok (.goto off, 3)) (ht : (pc : Int) + off = (tgt : Int)) (k : Kg p l e R s m args below meth c Q D base nL cells slots tgt lv stk n E) : Kg p l e R s m args below meth c Q D base nL cells slots pc lv stk n E :=
  fun H locs ls hP hS hl => lv_goto C.1 C.2.1 d ht (k H locs ls hP hS hl)
theorem k_icmp_ge (C : Cx p s m args meth c D cs (kad base) (kA base) cc nL own) {off : Int} {x y : Int32} (tgt : Nat) (d : decode cc pc = .ok (.if_icmp .ge off, 3)) (ht : (pc : Int) + off = (tgt : Int)) (kt : y ≤ x → Kg p l e R s m args below meth c Q D base nL cells slots tgt lv stk n E) (kf : ¬ (y ≤ x) → Kg p l e R s m args below meth c Q D base nL cells slots (pc + 3) lv stk n E) : Kg p l e R s m args below meth c Q D base nL cells slots pc lv (.int y :: .int x :: stk) n E :=
  fun H locs ls hP hS hl => lv_icmp_ge C.1 C.2.1 d ht (fun h => kt h H locs ls hP hS hl) (fun h => kf h H locs ls hP hS hl)
theorem k_pc {pc2 : Nat} (h : pc = pc2) (k : Kg p l e R s m args below meth c Q D base nL cells slots pc2 lv stk n E) : Kg p l e R s m args below meth c Q D base nL cells slots pc lv stk n E := by rw [h]; exact k
theorem k_lv {lv2 : List (Nat × Value)} (js : List Nat) (h : lv_pick lv js = lv2) (k : Kg p l e R s m args below meth c Q D base nL cells slots pc lv2 stk n E) : Kg p l e R s m args below meth c Q D base nL cells slots pc lv stk n E := fun H locs ls hP hS hl => k H locs ls hP hS (lv_sub hl js h)
theorem k_widen {k2 n2 : Nat} (h1 : cells ≤ k2) (h2 : slots ≤ n2) (k : Kg p l e R s m args below meth c Q D base nL k2 n2 pc lv stk n E) : Kg p l e R s m args below meth c Q D base nL cells slots pc lv stk n E := fun H locs ls hP hS hl => W.widen h1 h2 (k H locs ls hP hS hl)

theorem k_objInit (C : Cx p s m args meth c D cs (kad base) (kA base) cc nL own) {index : Nat} {a : Nat} (w1 : Cond.methodLink own index Lib.objectInit ∈ ag_all) (w2 : Cond.instanceMethod Lib.objectInit ∈ ag_all) (w3 : Cond.code Lib.objectInit ⟨#[0xb1]⟩ 1 none ∈ ag_all) (hR : 1 ≤ R.frames ∧ 12 ≤ R.locals) (d : decode cc pc = .ok (.invokespecial index, 3)) (k : Kg p l e R s m args below meth c Q D base nL cells slots (pc + 3) lv [] n E) : Kg p l e R s m args below meth c Q D base nL cells slots pc lv [.ref a] n E :=
  fun H locs ls hP hS hl => W.objInit C.1 C.2.1 C.2.2.2.1 (C.2.2.2.2.1 _ w1) (C.2.2.2.2.1 _ w2) (C.2.2.2.2.1 _ w3) rfl (hl.1.trans C.2.2.1.symm) rfl d hR.1 hR.2 (k H locs ls hP hS hl)
theorem k_new (C : Cx p s m args meth c D cs (kad base) (kA base) cc nL own) {C0 : String} {T : u_T} {N ci index : Nat} {fs : List Value} (hin : ∀ w ∈ u_ws C0 T N, w ∈ ag_all) (ty : Nat → FieldType) (hty : ∀ k, k < N → parseFieldDescriptor (T k).2.2.1 = some (ty k)) (w1 : Cond.classLink own index C0 ∈ ag_all) (w2 : Cond.instantiable C0 N ∈ ag_all) (w3 : Cond.initialized C0 ∈ ag_all) (hc : gcl[ci]? = some (C0, T, N)) (hfs : ∀ j, j < N → defaultValue (ty j) = vp_V fs j) (hz : s.heap.size + cells ≤ base + n) (hf : cells + 1 ≤ R.cells ∧ slots + N ≤ R.slots) (d : decode cc pc = .ok (.new index, 3))
    (k : Kg p l e R s m args below meth c Q D base nL (cells + 1) (slots + N) (pc + 3) lv (.ref (base + n) :: stk) (n + 1) (va_up E n (.inr (ci, fs)))) : Kg p l e R s m args below meth c Q D base nL cells slots pc lv stk n E := by
  intro H locs ls hP hS hl
  refine va_new C.1 C.2.1 C.2.2.2.2.1 hin ty hty C.2.2.2.1 (C.2.2.2.2.1 _ w1) (C.2.2.2.2.1 _ w2) (C.2.2.2.2.1 _ w3) C.2.2.2.2.2.2.1 hP (iw_D (k_ij base n)) hS C.2.2.2.2.2.2.2.2.1 hc hfs hf.1 hf.2 d (fun q H1 hP1 hD1 hS1 => k_bound (fun hb => ?_))
  have hq := k_at hP1 hD1 (by omega)
  rw [k_next hq] at hP1
  rw [hq]
  exact k H1 locs ls hP1 hS1 hl
theorem k_newa (C : Cx p s m args meth c D cs (kad base) (kA base) cc nL own) {atype : ArrayType} {ty : FieldType} {x : Int32} {t0 N : Nat} {a0 : vp_A} (w1 : Cond.arrayClass ty ∈ ag_all) (hty : newarray.typeOf atype = ty) (ht : (gty cs)[t0]? = some (cs t0, ty)) (ha : ∀ cA : ClassId, vp_cell cA a0 = arrV cA N (fun _ => defaultValue ty)) (hx : ¬ x < 0 ∧ x.toNatClampNeg = N) (hbytes : N * componentBytes ty ≤ 536870912) (hz : s.heap.size + cells ≤ base + n) (hf : cells + 1 ≤ R.cells ∧ slots + N ≤ R.slots) (d : decode cc pc = .ok (.newarray atype, 2))
    (k : Kg p l e R s m args below meth c Q D base nL (cells + 1) (slots + N) (pc + 2) lv (.ref (base + n) :: stk) (n + 1) (va_up E n (.inl (cs t0, a0)))) : Kg p l e R s m args below meth c Q D base nL cells slots pc lv (.int x :: stk) n E := by
  intro H locs ls hP hS hl
  refine va_newa C.1 C.2.1 (by rw [hty]; exact C.2.2.2.2.1 _ w1) hty C.2.2.2.2.2.2.1 hP (iw_D (k_ij base n)) hS C.2.2.2.2.2.2.2.2.1 ha hx.1 hx.2 hbytes hf.1 hf.2 d (fun q cA H1 hK1 hP1 hD1 hS1 => k_bound (fun hb => ?_))
  have hq := k_at hP1 hD1 (by omega)
  have e1 : cA = cs t0 := ra_one (hK1.2 6 (cA, ty) rfl).2 (C.2.2.2.2.2.2.1.2 t0 _ ht).2
  subst e1
  rw [k_next hq] at hP1
  rw [hq]
  exact k H1 locs ls hP1 hS1 hl
theorem k_newq (C : Cx p s m args meth c D cs (kad base) (kA base) cc nL own) {C0 : String} {index : Nat} {x : Int32} {t0 N : Nat} (w1 : Cond.classLink own index C0 ∈ ag_all) (ho : va_AO C0 s) (ht : (gty cs)[t0]? = some (cs t0, .object C0)) (hx : ¬ x < 0 ∧ x.toNatClampNeg = N) (hbytes : N * 4 ≤ 536870912) (hz : s.heap.size + cells ≤ base + n) (hf : cells + 1 ≤ R.cells ∧ slots + N ≤ R.slots) (d : decode cc pc = .ok (.anewarray index, 3))
    (k : Kg p l e R s m args below meth c Q D base nL (cells + 1) (slots + N) (pc + 3) lv (.ref (base + n) :: stk) (n + 1) (va_up E n (.inl (cs t0, N, .inr (.inr (.inr (.inr (fun _ => none)))))))) : Kg p l e R s m args below meth c Q D base nL cells slots pc lv (.int x :: stk) n E := by
  intro H locs ls hP hS hl
  refine va_newq C.1 C.2.1 C.2.2.2.1 (C.2.2.2.2.1 _ w1) ho C.2.2.2.2.2.2.1 hP (iw_D (k_ij base n)) hS C.2.2.2.2.2.2.2.2.1 hx.1 hx.2 hbytes hf.1 hf.2 d (fun q cA H1 hK1 hP1 hD1 hS1 => k_bound (fun hb => ?_))
  have hq := k_at hP1 hD1 (by omega)
  have e1 : cA = cs t0 := ra_one (hK1.2 6 (cA, .object C0) rfl).2 (C.2.2.2.2.2.2.1.2 t0 _ ht).2
  subst e1
  rw [k_next hq] at hP1
  rw [hq]
  exact k H1 locs ls hP1 hS1 hl
theorem k_put (C : Cx p s m args meth c D cs (kad base) (kA base) cc nL own) {C0 : String} {T : u_T} {N ci index : Nat} {fs : List Value} {v : Value} {ty : FieldType} (q0 : Nat) (j : Nat) (hin : ∀ w ∈ u_ws C0 T N, w ∈ ag_all) (ty0 : Nat → FieldType) (hty : ∀ k, k < N → parseFieldDescriptor (T k).2.2.1 = some (ty0 k)) (hnm : ∀ a, a < N → ∀ b, b < N → a ≠ b → (T a).2.1 ≠ (T b).2.1) (hc : gcl[ci]? = some (C0, T, N)) (hq0 : q0 < n) (he : E q0 = .inr (ci, fs)) (hj : j < N) (hlk : Cond.fieldLink own index C0 (T j).2.1 (T j).2.2.1 ∈ ag_all) (hT : (T j).1 = C0) (hd : parseFieldDescriptor (T j).2.2.1 = some ty) (hnf : narrow ty v = v ∧ fits ty v = true) (hl0 : j < fs.length) (hfin : (T j).2.2.2 = false ∨ ((T j).2.2.2 = true ∧ meth.name = "<init>" ∧ own = C0)) (d : decode cc pc = .ok (.putfield index, 3))
    (k : Kg p l e R s m args below meth c Q D base nL cells slots (pc + 3) lv stk n (va_up E q0 (.inr (ci, fs.set j v)))) : Kg p l e R s m args below meth c Q D base nL cells slots pc lv (v :: .ref (base + q0) :: stk) n E := by
  intro H locs ls hP hS hl
  have hw : (iw (kad base) n E)[q0]? = some (base + q0, .inr (ci, fs)) := (iw_get hq0).trans (congrArg (fun z => some (base + q0, z)) he)
  rcases hfin with hf | ⟨hf, hm, ho⟩
  · refine va_put C.1 C.2.1 C.2.2.2.2.1 hin ty0 hty hnm C.2.2.2.1 C.2.2.2.2.2.2.1 hP (iw_D (k_ij base n)) hS q0 hw hc j hj (C.2.2.2.2.1 _ hlk) (fun x h => by rw [hT] at h; exact h) hf hd hnf.1 hnf.2 hl0 d (fun H1 locs1 hP1 hD1 hS1 => ?_)
    rw [show (base + q0) = kad base q0 from rfl, iw_set] at hP1
    exact k H1 locs1 ls hP1 hS1 hl
  · refine va_putF C.1 C.2.1 C.2.2.2.2.1 hin ty0 hty hnm C.2.2.2.1 C.2.2.2.2.2.2.1 hP (iw_D (k_ij base n)) hS q0 hw hc j hj (C.2.2.2.2.1 _ hlk) (fun x h => by rw [hT] at h; exact h) hf hm (hT.trans ho.symm) hd hnf.1 hnf.2 hl0 d (fun H1 locs1 hP1 hD1 hS1 => ?_)
    rw [show (base + q0) = kad base q0 from rfl, iw_set] at hP1
    exact k H1 locs1 ls hP1 hS1 hl
theorem k_get (C : Cx p s m args meth c D cs (kad base) (kA base) cc nL own) {C0 : String} {T : u_T} {N ci index : Nat} {fs : List Value} {v : Value} (q0 : Nat) (j : Nat) (hin : ∀ w ∈ u_ws C0 T N, w ∈ ag_all) (hc : gcl[ci]? = some (C0, T, N)) (hq0 : q0 < n) (he : E q0 = .inr (ci, fs)) (hj : j < N) (hlk : Cond.fieldLink own index C0 (T j).2.1 (T j).2.2.1 ∈ ag_all) (hT : (T j).1 = C0) (hv : fs[j]? = some v) (d : decode cc pc = .ok (.getfield index, 3))
    (k : Kg p l e R s m args below meth c Q D base nL cells slots (pc + 3) lv (v :: stk) n E) : Kg p l e R s m args below meth c Q D base nL cells slots pc lv (.ref (base + q0) :: stk) n E :=
  fun H locs ls hP hS hl => va_get C.1 C.2.1 C.2.2.2.2.1 hin C.2.2.2.1 C.2.2.2.2.2.2.1 hP q0 ((iw_get hq0).trans (congrArg (fun z => some (base + q0, z)) he)) hc j hj (C.2.2.2.2.1 _ hlk) (fun x h => by rw [hT] at h; exact h) hv d (k H locs ls hP hS hl)
theorem k_iast (C : Cx p s m args meth c D cs (kad base) (kA base) cc nL own) {x v : Int32} {N : Nat} {f : Nat → Int32} (q0 j : Nat) (hq0 : q0 < n) (he : E q0 = .inl (cs 0, N, .inl f)) (hx : x = nI j) (hj : j < N) (hN : N < 2 ^ 31) (d : decode cc pc = .ok (.iastore, 1))
    (k : Kg p l e R s m args below meth c Q D base nL cells slots (pc + 1) lv stk n (va_up E q0 (.inl (cs 0, N, .inl (upd f j v))))) : Kg p l e R s m args below meth c Q D base nL cells slots pc lv (.int v :: .int x :: .ref (base + q0) :: stk) n E := by
  intro H locs ls hP hS hl
  subst hx
  refine va_iast C.1 C.2.1 C.2.2.2.2.2.2.1 hP (iw_D (k_ij base n)) hS q0 0 ((iw_get hq0).trans (congrArg (fun z => some (base + q0, z)) he)) rfl (vp_in_nI hj hN) d (fun H1 locs1 hP1 hD1 hS1 => ?_)
  rw [nI_clamp (by omega), show (base + q0) = kad base q0 from rfl, iw_set] at hP1
  exact k H1 locs1 ls hP1 hS1 hl
theorem k_aast (C : Cx p s m args meth c D cs (kad base) (kA base) cc nL own) {x : Int32} {N t0 ci : Nat} {r : vw_C} {vs : List Value} {f : Nat → Option Nat} (q0 qv j : Nat) (hq0 : q0 < n) (he : E q0 = .inl (cs t0, N, .inr (.inr (.inr (.inr f))))) (ht : (gty cs)[t0]? = some (cs t0, .object r.1)) (hqv : qv < n) (hv : E qv = .inr (ci, vs)) (hc : gcl[ci]? = some r) (hx : x = nI j) (hj : j < N) (hN : N < 2 ^ 31) (d : decode cc pc = .ok (.aastore, 1))
    (k : Kg p l e R s m args below meth c Q D base nL cells slots (pc + 1) lv stk n (va_up E q0 (.inl (cs t0, N, .inr (.inr (.inr (.inr (va_up f j (some (base + qv))))))))) ) : Kg p l e R s m args below meth c Q D base nL cells slots pc lv (.ref (base + qv) :: .int x :: .ref (base + q0) :: stk) n E := by
  intro H locs ls hP hS hl
  subst hx
  refine va_astq C.1 C.2.1 C.2.2.2.2.2.2.1 hP (iw_D (k_ij base n)) hS q0 t0 qv ci ((iw_get hq0).trans (congrArg (fun z => some (base + q0, z)) he)) ht ((iw_get hqv).trans (congrArg (fun z => some (base + qv, z)) hv)) hc (vp_in_nI hj hN) d (fun H1 locs1 hP1 hD1 hS1 => ?_)
  rw [nI_clamp (by omega), show (base + q0) = kad base q0 from rfl, iw_set] at hP1
  exact k H1 locs1 ls hP1 hS1 hl
/-! contracts of what makes objects -/
def kPre (D : va_G) (cs : Nat → ClassId) (base n : Nat) (E : Nat → va_E) (U : State) : Prop :=
  U.heap.size = base + n ∧ va_P D gcl (iw (kad base) n E) U.heap ∧ va_K D gcl (gty cs) U ∧ ax_E (kA base) U U.heap ∧ ax_A U
theorem kPre_blind {as : List Value} : FrameBlind (va_Pc as (kPre D cs base n E)) := by
  intro a U g mk h
  obtain ⟨h1, h2, h3, h4, h5, h6⟩ := h
  exact ⟨h1, h2, h3, va_K.moved (u := U) (U := U.calling g mk a) (Vm.Alike.refl U.vm) h4, ax_E.vm (s := U) (U := U.calling g mk a) rfl h5, ax_A.moved (s := U) (U := U.calling g mk a) (Vm.Alike.refl U.vm) h6⟩
abbrev kS : Type := Nat × (Nat → va_E)
def kQ (D : va_G) (base : Nat) (post : kS → Prop) : Array Value → State → Outcome → State → Prop := va_Qv post (fun (u : kS) (t : State) => va_P D gcl (iw (kad base) u.1 u.2) t.heap) (kA base)
def kM (l : Launch) (y : MethodName) (bytes : ByteArray) (maxL : Nat) (rm : Room) (mc ms : Nat) (as : List Value) (D : va_G) (cs : Nat → ClassId) (base n : Nat) (E : Nat → va_E) (post : kS → Prop) : Prop :=
  Met l y (Cond.code y bytes maxL none :: ag_all) rm (va_Pc as (kPre D cs base n E)) (kQ D base post) mc ms (kA base)
theorem kM_of {y : MethodName} {bytes : ByteArray} {maxL : Nat} {rm : Room} {mc ms : Nat} {as : List Value} {post : kS → Prop} (hy : plainName y.cls = true) (hown : y.cls = own) (hlen : (lg_sl as).length ≤ maxL)
    (body : ∀ (p : Program) (e : Env) (s : State) (m : MethodId) (args : Array Value) (below : List Frame) (meth : Method) (c : Code), Cx p s m args meth c D cs (kad base) (kA base) bytes maxL own → meth.sig.returnType = none → meth.name = y.name → s.heap.size = base + n → ax_A s → Kg p l e rm s m args below meth c (MQ below (kQ D base post) args s mc ms (kA base)) D base maxL 0 0 0 (lv_args 0 as) [] n E) : kM l y bytes maxL rm mc ms as D cs base n E post := by
  refine Met.ofW (cc := bytes) (maxL := maxL) (ret := none) hy rfl ?_
  intro p e s m args below meth c s₁ B hml hv
  obtain ⟨rfl, hz, hP, hK, hE, hA⟩ := hv
  have hts := atoms_spec (ws := Cond.code y bytes maxL none :: ag_all) B.pre
  rw [lg_entry_eq]
  exact body p e s m _ below meth c ⟨B.exec, B.bytes, hml, by rw [← hown]; exact findClass_of_methodNamed B.named, fun w h => hts w (List.mem_cons_of_mem _ h), hE, hK, k_ij base 60, fun q h => Nat.le_trans (by rw [hz]; exact Nat.le_add_right base n) h, B.notSynchronized⟩ B.returns (name_of_methodNamed B.named B.method).1 hz hA s.heap [] _ hP va_S.rf (lv_entry as hlen)
theorem k_pre (C : Cx p s m args meth c D cs (kad base) (kA base) cc nL own) (hA : ax_A s) {H : Heap} {locs : List Loc} {as : List Value} (hz : H.size = base + n) (hP : va_P D gcl (iw (kad base) n E) H) (hS : va_S (kA base) s.heap H locs) : ∀ U : State, U.heap = H → s.WarmedH U.vm → va_Pc as (kPre D cs base n E) as.toArray U := by
  intro U hU hW
  exact ⟨rfl, by rw [hU]; exact hz, by rw [hU]; exact hP, va_K.moved hW.alike C.2.2.2.2.2.2.1, by rw [hU]; exact ax_E.warm hW C.2.2.2.2.2.1 hS.2.1 (fun _ h => h), ax_A.moved hW.alike hA⟩
theorem k_size {H : Heap} {locs : List Loc} (hb : base ≤ s.heap.size) (hz : s.heap.size + cells ≤ base + n) (hle : H.size ≤ s.heap.size + cells) (hP : va_P D gcl (iw (kad base) n E) H) (hS : va_S (kA base) s.heap H locs) : H.size = base + n := by
  cases n with
  | zero =>
    have := hS.1
    omega
  | succ n =>
    have h1 : base + n < H.size := (hP n _ (iw_get (Nat.lt_succ_self n))).lt
    omega
theorem k_base (C : Cx p s m args meth c D cs (kad base) (kA base) cc nL own) : base ≤ s.heap.size := C.2.2.2.2.2.2.2.2.1 _ (Nat.le_refl _)
/-- a nest mate's constructor -/
theorem k_makeN (C : Cx p s m args meth c D cs (kad base) (kA base) cc nL own) (hA : ax_A s) {y : MethodName} {bytes : ByteArray} {maxL mc ms index : Nat} {rm : Room} {post : kS → Prop} {b : Nat} {host : String} (hM : kM l y bytes maxL rm mc ms [.ref b] D cs base n E post) (w1 : Cond.methodLinkNest own index y host ∈ ax_all) (w2 : Cond.instanceMethod y ∈ ag_all) (w4 : Cond.initialized y.cls ∈ ag_all) (w5 : Cond.code y bytes maxL none ∈ ag_all) (hrm : rm.cells = mc ∧ rm.slots = ms) (hy : y.name = "<init>") (hd : y.cls ≠ "java/lang/invoke/MethodHandle" ∧ y.cls ≠ "java/lang/invoke/VarHandle" ∧ (parseMethodDescriptor y.desc).map (fun d => d.parameters.length) = some 0) (hR : rm.frames + 1 ≤ R.frames ∧ 8 + (maxL + 11) + rm.locals ≤ R.locals) (hW : (stk.map fun v => v.category).sum ≤ 8) (hz : s.heap.size + cells ≤ base + n) (hf : cells + mc ≤ R.cells ∧ slots + ms ≤ R.slots) (d : decode cc pc = .ok (.invokespecial index, 3))
    (k : ∀ u : kS, post u → Kg p l e R s m args below meth c Q D base nL (cells + mc) (slots + ms) (pc + 3) lv stk u.1 u.2) : Kg p l e R s m args below meth c Q D base nL cells slots pc lv (.ref b :: stk) n E := by
  intro H locs ls hP hS hl
  refine k_bound (fun hle => ?_)
  have hH := k_size (k_base C) hz hle hP hS
  have hts := C.2.2.2.2.1
  have r : va_Run p l e R s m args below meth c H locs cells slots mc ms (F0 m pc ls (.ref b :: stk)) stk (kQ D base post [Value.ref b].toArray) (kA base) := va_runIN (As := []) (rest := stk) ⟨C.1, C.2.1, C.2.2.1, C.2.2.2.1, hts⟩ hM ⟨va_cnB (Ts := ag_all) (ws := (Cond.code y bytes maxL none :: ag_all)) 0 hts (gi_all (y := y) w5) rfl hrm.1 hrm.2 (C.2.2.2.2.2.1.1 _ w1) (hts _ w4) hd hR, hy, hts _ w2⟩ ⟨kPre_blind, k_pre C hA hH hP hS⟩ rfl rfl (hl.1) rfl (lv_room hW) d hf
  exact va_callv r hS (fun q _ h => h) (fun q h => h) (fun u t H1 locs1 ht _ hq hB _ _ hS1 => k u hq H1 locs1 ls (by rw [← ht]; exact hB) hS1 hl)
theorem k_make (C : Cx p s m args meth c D cs (kad base) (kA base) cc nL own) (hA : ax_A s) {y : MethodName} {bytes : ByteArray} {maxL mc ms index : Nat} {rm : Room} {post : kS → Prop} {b : Nat} (hM : kM l y bytes maxL rm mc ms [.ref b] D cs base n E post) (w1 : Cond.methodLink own index y ∈ ag_all) (w2 : Cond.instanceMethod y ∈ ag_all) (w4 : Cond.initialized y.cls ∈ ag_all) (w5 : Cond.code y bytes maxL none ∈ ag_all) (hrm : rm.cells = mc ∧ rm.slots = ms) (hy : y.name = "<init>") (hd : y.cls ≠ "java/lang/invoke/MethodHandle" ∧ y.cls ≠ "java/lang/invoke/VarHandle" ∧ (parseMethodDescriptor y.desc).map (fun d => d.parameters.length) = some 0) (hR : rm.frames + 1 ≤ R.frames ∧ 8 + (maxL + 11) + rm.locals ≤ R.locals) (hW : (stk.map fun v => v.category).sum ≤ 8) (hz : s.heap.size + cells ≤ base + n) (hf : cells + mc ≤ R.cells ∧ slots + ms ≤ R.slots) (d : decode cc pc = .ok (.invokespecial index, 3))
    (k : ∀ u : kS, post u → Kg p l e R s m args below meth c Q D base nL (cells + mc) (slots + ms) (pc + 3) lv stk u.1 u.2) : Kg p l e R s m args below meth c Q D base nL cells slots pc lv (.ref b :: stk) n E := by
  intro H locs ls hP hS hl
  refine k_bound (fun hle => ?_)
  have hH := k_size (k_base C) hz hle hP hS
  have hts := C.2.2.2.2.1
  have r : va_Run p l e R s m args below meth c H locs cells slots mc ms (F0 m pc ls (.ref b :: stk)) stk (kQ D base post [Value.ref b].toArray) (kA base) := va_runI (As := []) (rest := stk) ⟨C.1, C.2.1, C.2.2.1, C.2.2.2.1, hts⟩ hM ⟨callB_of (Ts := ag_all) (ws := (Cond.code y bytes maxL none :: ag_all)) 0 hts (gi_all (y := y) w5) rfl hrm.1 hrm.2 (hts _ w4) (hts _ w1) hd hR, hy, hts _ w2⟩ ⟨kPre_blind, k_pre C hA hH hP hS⟩ rfl rfl (hl.1) rfl (lv_room hW) d hf
  exact va_callv r hS (fun q _ h => h) (fun q h => h) (fun u t H1 locs1 ht _ hq hB _ _ hS1 => k u hq H1 locs1 ls (by rw [← ht]; exact hB) hS1 hl)
theorem k_vret (C : Cx p s m args meth c D cs (kad base) (kA base) cc nL own) {post : kS → Prop} (hr : meth.sig.returnType = none) (d : decode cc pc = .ok (.return_, 1)) (hq : post (n, E)) : Kg p l e R s m args below meth c (MQ below (kQ D base post) args s cells slots (kA base)) D base nL cells slots pc lv [] n E :=
  fun H locs ls hP hS hl => W.vret C.1 C.2.1 hr (fun t ht _ => ⟨⟨(n, E), rfl, hq, by show va_P D gcl _ t.heap; rw [ht]; exact hP⟩, hS.F ht⟩) hS.2.2 d C.2.2.2.2.2.2.2.2.2
end GROW
