/-! ===== at the start both sides agree ===== -/
theorem Rel_0 : Rel st0 mt0 := by
  have z : ∀ a, a ≠ 11 → mt0 a = fun _ => 0 := fun a h => if_neg h
  have ng : ∀ k, k < 12 → neg 12 k = -1 := fun k hk => if_pos hk
  refine ⟨fun q hq => ?_, ⟨fun k hk => ?_, ?_⟩, fun g hg => ?_, ⟨fun j hj => ?_, 0, by omega, ?_, ?_, fun j _ hj => ?_⟩⟩
  · have w1 : st0 (4 + 4 * q + 1) = neg 12 := st0_w (by omega) (by omega) (by omega)
    have w2 : st0 (4 + 4 * q + 2) = neg 12 := st0_w (by omega) (by omega) (by omega)
    have w3 : st0 (4 + 4 * q + 3) = fun _ => 0 := st0_r (by omega) (by omega)
    have w0 : st0 (4 + 4 * q) = fun _ => 0 := st0_d (by omega) (by omega)
    refine ⟨⟨fun k hk => ?_, ?_⟩, ?_⟩
    · rw [w1, w2, w3, z 1 (by decide), z 2 (by decide), z 3 (by decide), ng k hk]
      exact ⟨rfl, rfl, rfl, Or.inl rfl, Or.inl rfl, ⟨0, by decide, rfl⟩⟩
    · rw [w0, z 4 (by decide), z 5 (by decide), z 6 (by decide), z 7 (by decide)]
      exact ⟨rfl, rfl, rfl, rfl, Or.inl rfl⟩
    · rw [w0, mskF_cong (p := unl st0 q) (p2 := fun _ => false) 12 (fun k hk => ?_)]
      · decide
      · unfold unl
        rw [w1, ng k hk]
        rfl
  · have e1 : st0 1 1 = 0 := rfl
    rw [hasF_bi (by omega), e1, bi_0, z 8 (by decide)]
    exact ⟨rfl, fun h => by cases h⟩
  · exact lim_0 12
  · rw [st0_g (by omega) (by omega), z 9 (by decide), z 10 (by decide)]
    refine ⟨rfl, rfl, ?_, ⟨0, by decide, rfl⟩⟩
    rcases (by omega : g = 0 ∨ g = 1 ∨ g = 2 ∨ g = 3) with rfl | rfl | rfl | rfl <;> rfl
  · unfold JobR
    rw [st0_j (by omega), z 12 (by decide), z 13 (by decide), z 14 (by decide), z 15 (by decide), z 16 (by decide), z 17 (by decide), z 18 (by decide), z 19 (by decide), z 20 (by decide)]
    exact ⟨⟨rfl, rfl, rfl, rfl, rfl, rfl, rfl, rfl, rfl⟩, ⟨⟨0, by decide, rfl⟩, ⟨0, by decide, rfl⟩, Or.inr ⟨0, by decide, rfl⟩⟩, lim_0 8, lim_0 8, lim_0 8⟩
  · rfl
  · rfl
  · rw [st0_j (by omega)]
theorem k_toW {p : Program} {l : Launch} {e : Env} {R : Room} {s : State} {m : MethodId} {args : Array Value} {below : List Frame} {meth : Method} {c : Code} {Q : State → Prop} {D : va_G} {cs : Nat → ClassId} {base nL cells slots pc : Nat} {lv : List (Nat × Value)} {stk : List Value} {E : Nat → va_E} {st mt : St} {ov : Nat → Int64} (h : ∀ i, i < 72 → E i = gE (kad base) cs st mt ov i) (k : Wg p l e R s m args below meth c Q D cs (kad base) (kA base) nL cells slots pc lv stk st mt ov) : Kg p l e R s m args below meth c Q D base nL cells slots pc lv stk 72 E :=
  fun H locs ls hP hS hl => k H locs ls (by rw [← iw_ext (fun _ _ => rfl) h]; exact hP) hS hl
theorem cls_prim {args : Array Value} {s : State} {ty : FieldType} (h : (Cond.arrayClass ty).before args s = true) : ∃ cA : ClassId, ArrOfT s cA ty ∧ s.vm.findClass ("[" ++ ty.toString) = some cA := by
  obtain ⟨cA, kA, comp, h1, h2, h3⟩ := Cond.arrayClass_spec h
  exact ⟨cA, fun n z => ⟨(fun k h => by cases h), kA, h2, comp, h3⟩, h1⟩
theorem cls_obj {args : Array Value} {s : State} {C0 : String} (h : (Cond.arrayOver (.object C0)).before args s = true) : ∃ cA : ClassId, ArrOfT s cA (.object C0) ∧ va_RA s cA (.object C0) := by
  obtain ⟨comp, cA, kA, h1, -, h2, h3, h4⟩ := Cond.arrayOver_spec h
  exact ⟨cA, fun n z => ⟨(fun k h => by cases h), kA, h2, comp, h3⟩, kA, comp, h2, h3, h1, h4⟩
theorem str_at {args : Array Value} {s : State} {k : Nat} {tx : String} (h1 : (Cond.stringRef "TwinRegister" k tx).before args s = true) (h2 : (Cond.exactly (.string "TwinRegister" k) "java/lang/String").before args s = true) : ∃ a : Nat, vk_R "TwinRegister" k tx a s := by
  obtain ⟨a, c, cA, kA, q1, -⟩ := Cond.exactly_spec (args := args) (first := s) (o := none) (s := s) (idx := []) (t := .string "TwinRegister" k) (cls := "java/lang/String") h2
  exact ⟨a, vk_R.of h1 q1⟩
set_option maxHeartbeats 4000000 in
set_option maxRecDepth 100000 in
theorem ax_start {args : Array Value} {s : State} (hts : ∀ w ∈ lw_tbl, w.before args s = true) (hgv : (Jvm.Cond.and given_1 narrow_1).before args s = true) : ax_E (kA s.heap.size) s s.heap := by
  have hs := flat_of_before _ hgv
  refine ⟨fun w hw => va_Nw.of (ax_on (List.mem_filter.mp hw).2) (hts w (List.mem_filter.mp hw).1), fun q hq => ?_, fun q hq => ?_, ?_, ?_⟩
  · simp only [ax_strs, List.mem_cons, List.mem_nil_iff, or_false] at hq
    rcases hq with rfl | rfl | rfl | rfl | rfl | rfl | rfl | rfl | rfl | rfl | rfl | rfl
    · exact str_at (hts _ (by decide +kernel)) (hs _ (by decide +kernel))
    · exact str_at (hts _ (by decide +kernel)) (hs _ (by decide +kernel))
    · exact str_at (hts _ (by decide +kernel)) (hs _ (by decide +kernel))
    · exact str_at (hts _ (by decide +kernel)) (hs _ (by decide +kernel))
    · exact str_at (hts _ (by decide +kernel)) (hs _ (by decide +kernel))
    · exact str_at (hts _ (by decide +kernel)) (hs _ (by decide +kernel))
    · exact str_at (hts _ (by decide +kernel)) (hs _ (by decide +kernel))
    · exact str_at (hts _ (by decide +kernel)) (hs _ (by decide +kernel))
    · exact str_at (hts _ (by decide +kernel)) (hs _ (by decide +kernel))
    · exact str_at (hts _ (by decide +kernel)) (hs _ (by decide +kernel))
    · exact str_at (hts _ (by decide +kernel)) (hs _ (by decide +kernel))
    · exact str_at (hts _ (by decide +kernel)) (hs _ (by decide +kernel))
  · simp only [ax_ncs, List.mem_cons, List.mem_nil_iff, or_false] at hq
    rcases hq with rfl | rfl | rfl
    · exact va_Nc.of (hs _ (by decide +kernel))
    · exact va_Nc.of (hs _ (by decide +kernel))
    · exact va_Nc.of (hs _ (by decide +kernel))
  · exact vx_Zqof (hts _ (by decide +kernel)) (hts _ (by decide +kernel)) (hs _ (by decide +kernel)) (fun a h1 h2 => absurd h1 (Nat.not_lt.mpr h2))
  · exact vx_Zqof (hts _ (by decide +kernel)) (hts _ (by decide +kernel)) (hs _ (by decide +kernel)) (fun a h1 h2 => absurd h1 (Nat.not_lt.mpr h2))
