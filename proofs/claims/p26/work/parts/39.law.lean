/-! THE CLAIM OUT OF ONE WALK OF THE LAW'S BODY. Your part is whole_start (and what it stands on); all else here is the same for every law, but numbers. -/
def R_law : String := "TwinRegisterLaw"
def lw_P (b : Addr) (xs : List Int32) (args : Array Value) (s : State) : Prop := args = #[.ref b] ∧ s.IntsAt b xs ∧ xs.length ≤ 260 ∧ (Jvm.Cond.and given_1 narrow_1).before args s = true
def lw_Q (_ : Array Value) (s : State) (o : Outcome) (t : State) : Prop := o = .returned (some (.int 1)) ∧ Framed s o t [] room_1.cells room_1.slots
def lw_Z (below : List Frame) (a : Array Value) (s : State) : State → Prop := fun t => ∃ o, t.status = .running ∧ Ended t below o ∧ lw_Q a s o t
/-- the law's own end, with 1 on the stack, nothing written that was there before, its room as the claim has it -/
theorem lw_ret {p : Program} {l : Launch} {e : Env} {s : State} {m : MethodId} {below : List Frame} {meth : Method} {c : Code} {b : Nat} (hx : p.tables.exec = Jvm.exec) (hb : c.code = code) (hr : meth.sig.returnType = ret) (hlocks : meth.locks = false) {pc : Nat} {H : Heap} {ls : Array Slot} (hdg : decode code pc = .ok (.ireturn, 1)) : W p l e room_1 s m #[Value.ref b] below meth c H [] room_1.cells room_1.slots (lw_Z below #[Value.ref b] s) (F0 m pc ls [.int 1]) := by
  intro T hT X
  obtain ⟨fs, hret, hrun, hended, hW, hframe⟩ := X.leave (v := some (.int 1)) (hlocks := hlocks) (fun h => by rw [hr] at h; cases h)
  have hmeth' : T.vm.method? m = some meth := X.method'
  refine ⟨T.setFrames fs, ?_, .returned (some (.int 1)), hrun, hended, rfl, ⟨_, rfl⟩, hW, hframe⟩
  jvm_step X.here [X.here.top, hx, hb, hdg, hmeth', hr, ret, narrow_b1]
  (try refine ⟨rfl, ?_⟩); (try refine ⟨rfl, ?_⟩)
  first | (intro acts; rw [hret _ acts rfl rfl rfl]) | rw [hret _ _ rfl rfl rfl]
  exact Steps.refl _
/-- what holds at the law's entry: the machine, the code, the tables' words (any of lw_tbl by 'hts w (by decide +kernel)'), the script of L ints xs at the cell b, what the Statement gives of the start (any of its parts by flat_of_before) -/
def lw_At (p : Program) (s : State) (m : MethodId) (meth : Method) (c : Code) (b L : Nat) (xs : Nat → Int32) : Prop :=
  p.tables.exec = Jvm.exec ∧ c.code = code ∧ meth.sig.returnType = ret ∧ c.maxLocals = 17 ∧ s.vm.findClass R_law = some m.cls ∧ (∀ w ∈ lw_tbl, w.before #[Value.ref b] s = true) ∧ va_X b L xs s s.heap ∧ b < s.heap.size ∧ meth.locks = false ∧ (Jvm.Cond.and given_1 narrow_1).before #[Value.ref b] s = true
set_option maxHeartbeats 4000000 in
set_option maxRecDepth 100000 in
theorem whole_start {p : Program} {e : Env} {s : State} {m : MethodId} {below : List Frame} {meth : Method} {c : Code} (l : Launch) (hflags : l.flags = flags0) {b L : Nat} {xs : Nat → Int32} (hL : L ≤ 260) (C0 : lw_At p s m meth c b L xs) : W p l e room_1 s m #[Value.ref b] below meth c s.heap [] 0 0 (lw_Z below #[Value.ref b] s) (entryFrame m ([Value.ref b] : List Value).toArray 17) := by
  obtain ⟨hx, hb, hr, hml, hown, hts, hX, hbl, hlocks, hgv⟩ := C0
  have hl : l.stackTraces = false := by
    unfold Launch.stackTraces
    rw [hflags]
    decide +kernel
  have hag : ∀ w ∈ ag_all, w.before #[Value.ref b] s = true := fun w hw => hts w (List.mem_filter.mp hw).1
  obtain ⟨cT, sT, kT⟩ := u_known hag i_T (hag _ m_37)
  obtain ⟨cF, sF, kF⟩ := u_known hag i_F (hag _ m_45)
  obtain ⟨cD, sD, kD⟩ := u_known hag i_D (hag _ m_61)
  obtain ⟨cG, sG, kG⟩ := u_known hag i_G (hag _ m_101)
  obtain ⟨cJ, sJ, kJ⟩ := u_known hag i_J (hag _ m_121)
  obtain ⟨aI, oI, fI⟩ := cls_prim (hag _ m_58)
  have hAO : ax_A s := ⟨va_AO.of (hts _ (by decide +kernel)), va_AO.of (hts _ (by decide +kernel)), va_AO.of (hts _ (by decide +kernel))⟩
  obtain ⟨aD, oD, fD⟩ := cls_obj (args := #[Value.ref b]) hAO.1.use
  obtain ⟨aG, oG, fG⟩ := cls_obj (args := #[Value.ref b]) hAO.2.1.use
  obtain ⟨aB, oB, fB⟩ := cls_obj (args := #[Value.ref b]) hAO.2.2.use
  let D : va_G := (fun n => match n with | 0 => cT | 1 => cF | 2 => cD | 3 => cG | _ => cJ, fun n => match n with | 0 => sT | 1 => sF | 2 => sD | 3 => sG | _ => sJ)
  let cs : Nat → ClassId := fun n => match n with | 0 => aI | 1 => aI | 2 => aI | 3 => aD | 4 => aG | _ => aB
  have hK : va_K D gcl (gty cs) s := by
    refine ⟨fun n q hq => ?_, fun n q hq => ?_⟩
    · have hn : n < 5 := (List.getElem?_eq_some_iff.mp hq).1
      rcases (by omega : n = 0 ∨ n = 1 ∨ n = 2 ∨ n = 3 ∨ n = 4) with rfl | rfl | rfl | rfl | rfl <;> cases hq
      · exact kT
      · exact kF
      · exact kD
      · exact kG
      · exact kJ
    · have hn : n < 6 := (List.getElem?_eq_some_iff.mp hq).1
      rcases (by omega : n = 0 ∨ n = 1 ∨ n = 2 ∨ n = 3 ∨ n = 4 ∨ n = 5) with rfl | rfl | rfl | rfl | rfl | rfl <;> cases hq
      · exact ⟨oI, fI⟩
      · exact ⟨oI, fI⟩
      · exact ⟨oI, fI⟩
      · exact ⟨oD, fD⟩
      · exact ⟨oG, fG⟩
      · exact ⟨oB, fB⟩
  generalize D = D at hK
  generalize cs = cs at hK
  have C : Cx p s m #[Value.ref b] meth c D cs (kad s.heap.size) (kA s.heap.size) code 17 "TwinRegisterLaw" := ⟨hx, hb, hml, hown, hag, ax_start hts hgv, hK, k_ij s.heap.size 60, fun q h => h, hlocks⟩
  have X : LX s (kA s.heap.size) b L xs := ⟨hX, hbl, fun h => absurd hbl (Nat.not_lt.mpr h)⟩
  have hend : ∀ (cells slots : Nat) (lv : List (Nat × Value)) (st mt : St), cells ≤ room_1.cells → slots ≤ room_1.slots → Wg p l e room_1 s m #[Value.ref b] below meth c (lw_Z below #[Value.ref b] s) D cs (kad s.heap.size) (kA s.heap.size) 17 cells slots 275 lv [.int 1] st mt (fun _ => 0) := by
    intro cells slots lv st mt h1 h2
    refine w_widen h1 h2 ?_
    intro H locs ls hP hS hl2
    exact va_forget hS.2.2 (lw_ret hx hb hr hlocks d_law_275)
  suffices k : Kg p l e room_1 s m #[Value.ref b] below meth c (lw_Z below #[Value.ref b] s) D s.heap.size 17 0 0 0 (lv_args 0 [Value.ref b]) [] 0 (fun _ => .inr (0, [])) by
    rw [lg_entry_eq]
    exact k s.heap [] _ (fun n q hq => by cases hq) va_S.rf (lv_entry [Value.ref b] (Nat.le_of_ble_eq_true rfl))
  refine k_lv (lv2 := [(0, .ref b)]) [0] rfl ?_
  refine k_new (ci := 0) (fs := [.null, .null, .null, .null, .int 0]) C i_T ft_T ft_T_ok m_36 m_37 m_24 rfl df_T (by omega) ⟨Nat.le_of_ble_eq_true rfl, Nat.le_of_ble_eq_true rfl⟩ d_law_0 ?_
  refine k_dup C d_law_3 rfl ?_
  refine k_make C hAO (c_T_init (va_up_self _ _ _)) m_38 m_39 m_24 m_40 ⟨rfl, rfl⟩ rfl hd_T_init ⟨Nat.le_of_ble_eq_true rfl, Nat.le_of_ble_eq_true rfl⟩ (Nat.le_of_ble_eq_true rfl) (by omega) ⟨Nat.le_of_ble_eq_true rfl, Nat.le_of_ble_eq_true rfl⟩ d_law_4 (fun u hu => ?_)
  subst hu
  dsimp only
  refine k_astore_n (lv2 := [(1, .ref (s.heap.size + 0)), (0, .ref b)]) C d_law_7 rfl (by decide) rfl ?_
  refine k_bipush (v := 60) C d_law_8 rfl ?_
  refine k_newa (t0 := 0) (N := 60) (a0 := (60, .inl (fun _ => 0))) C m_58 rfl rfl (fun _ => rfl) ⟨by decide, by decide⟩ (by decide) (by omega) ⟨Nat.le_of_ble_eq_true rfl, Nat.le_of_ble_eq_true rfl⟩ d_law_10 ?_
  refine k_astore_n (lv2 := [(2, .ref (s.heap.size + 50)), (1, .ref (s.heap.size + 0)), (0, .ref b)]) C d_law_12 rfl (by decide) rfl ?_
  refine k_iconst (v := 5) C d_law_13 rfl ?_
  refine k_newa (t0 := 0) (N := 5) (a0 := (5, .inl (fun _ => 0))) C m_58 rfl rfl (fun _ => rfl) ⟨by decide, by decide⟩ (by decide) (by omega) ⟨Nat.le_of_ble_eq_true rfl, Nat.le_of_ble_eq_true rfl⟩ d_law_14 ?_
  refine k_astore_n (lv2 := [(3, .ref (s.heap.size + 51)), (2, .ref (s.heap.size + 50)), (1, .ref (s.heap.size + 0)), (0, .ref b)]) C d_law_16 rfl (by decide) rfl ?_
  refine k_iconst (v := 5) C d_law_17 rfl ?_
  refine k_newa (t0 := 0) (N := 5) (a0 := (5, .inl (fun _ => 0))) C m_58 rfl rfl (fun _ => rfl) ⟨by decide, by decide⟩ (by decide) (by omega) ⟨Nat.le_of_ble_eq_true rfl, Nat.le_of_ble_eq_true rfl⟩ d_law_18 ?_
  refine k_astore (lv2 := [(4, .ref (s.heap.size + 52)), (3, .ref (s.heap.size + 51)), (2, .ref (s.heap.size + 50)), (1, .ref (s.heap.size + 0)), (0, .ref b)]) C d_law_20 (by decide) rfl ?_
  refine k_iconst (v := 5) C d_law_22 rfl ?_
  refine k_newa (t0 := 0) (N := 5) (a0 := (5, .inl (fun _ => 0))) C m_58 rfl rfl (fun _ => rfl) ⟨by decide, by decide⟩ (by decide) (by omega) ⟨Nat.le_of_ble_eq_true rfl, Nat.le_of_ble_eq_true rfl⟩ d_law_23 ?_
  refine k_astore (lv2 := [(5, .ref (s.heap.size + 53)), (4, .ref (s.heap.size + 52)), (3, .ref (s.heap.size + 51)), (2, .ref (s.heap.size + 50)), (1, .ref (s.heap.size + 0)), (0, .ref b)]) C d_law_25 (by decide) rfl ?_
  refine k_bipush (v := 12) C d_law_27 rfl ?_
  refine k_newa (t0 := 0) (N := 12) (a0 := (12, .inl (fun _ => 0))) C m_58 rfl rfl (fun _ => rfl) ⟨by decide, by decide⟩ (by decide) (by omega) ⟨Nat.le_of_ble_eq_true rfl, Nat.le_of_ble_eq_true rfl⟩ d_law_29 ?_
  refine k_astore (lv2 := [(6, .ref (s.heap.size + 54)), (5, .ref (s.heap.size + 53)), (4, .ref (s.heap.size + 52)), (3, .ref (s.heap.size + 51)), (2, .ref (s.heap.size + 50)), (1, .ref (s.heap.size + 0)), (0, .ref b)]) C d_law_31 (by decide) rfl ?_
  refine k_iconst (v := 4) C d_law_33 rfl ?_
  refine k_newa (t0 := 0) (N := 4) (a0 := (4, .inl (fun _ => 0))) C m_58 rfl rfl (fun _ => rfl) ⟨by decide, by decide⟩ (by decide) (by omega) ⟨Nat.le_of_ble_eq_true rfl, Nat.le_of_ble_eq_true rfl⟩ d_law_34 ?_
  refine k_astore (lv2 := [(7, .ref (s.heap.size + 55)), (6, .ref (s.heap.size + 54)), (5, .ref (s.heap.size + 53)), (4, .ref (s.heap.size + 52)), (3, .ref (s.heap.size + 51)), (2, .ref (s.heap.size + 50)), (1, .ref (s.heap.size + 0)), (0, .ref b)]) C d_law_36 (by decide) rfl ?_
  refine k_bipush (v := 8) C d_law_38 rfl ?_
  refine k_newa (t0 := 0) (N := 8) (a0 := (8, .inl (fun _ => 0))) C m_58 rfl rfl (fun _ => rfl) ⟨by decide, by decide⟩ (by decide) (by omega) ⟨Nat.le_of_ble_eq_true rfl, Nat.le_of_ble_eq_true rfl⟩ d_law_40 ?_
  refine k_astore (lv2 := [(8, .ref (s.heap.size + 56)), (7, .ref (s.heap.size + 55)), (6, .ref (s.heap.size + 54)), (5, .ref (s.heap.size + 53)), (4, .ref (s.heap.size + 52)), (3, .ref (s.heap.size + 51)), (2, .ref (s.heap.size + 50)), (1, .ref (s.heap.size + 0)), (0, .ref b)]) C d_law_42 (by decide) rfl ?_
  refine k_bipush (v := 8) C d_law_44 rfl ?_
  refine k_newa (t0 := 0) (N := 8) (a0 := (8, .inl (fun _ => 0))) C m_58 rfl rfl (fun _ => rfl) ⟨by decide, by decide⟩ (by decide) (by omega) ⟨Nat.le_of_ble_eq_true rfl, Nat.le_of_ble_eq_true rfl⟩ d_law_46 ?_
  refine k_astore (lv2 := [(9, .ref (s.heap.size + 57)), (8, .ref (s.heap.size + 56)), (7, .ref (s.heap.size + 55)), (6, .ref (s.heap.size + 54)), (5, .ref (s.heap.size + 53)), (4, .ref (s.heap.size + 52)), (3, .ref (s.heap.size + 51)), (2, .ref (s.heap.size + 50)), (1, .ref (s.heap.size + 0)), (0, .ref b)]) C d_law_48 (by decide) rfl ?_
  refine k_bipush (v := 8) C d_law_50 rfl ?_
  refine k_newa (t0 := 0) (N := 8) (a0 := (8, .inl (fun _ => 0))) C m_58 rfl rfl (fun _ => rfl) ⟨by decide, by decide⟩ (by decide) (by omega) ⟨Nat.le_of_ble_eq_true rfl, Nat.le_of_ble_eq_true rfl⟩ d_law_52 ?_
  refine k_astore (lv2 := [(10, .ref (s.heap.size + 58)), (9, .ref (s.heap.size + 57)), (8, .ref (s.heap.size + 56)), (7, .ref (s.heap.size + 55)), (6, .ref (s.heap.size + 54)), (5, .ref (s.heap.size + 53)), (4, .ref (s.heap.size + 52)), (3, .ref (s.heap.size + 51)), (2, .ref (s.heap.size + 50)), (1, .ref (s.heap.size + 0)), (0, .ref b)]) C d_law_54 (by decide) rfl ?_
  refine k_iconst (v := 1) C d_law_56 rfl ?_
  refine k_newa (t0 := 0) (N := 1) (a0 := (1, .inl (fun _ => 0))) C m_58 rfl rfl (fun _ => rfl) ⟨by decide, by decide⟩ (by decide) (by omega) ⟨Nat.le_of_ble_eq_true rfl, Nat.le_of_ble_eq_true rfl⟩ d_law_57 ?_
  refine k_astore (lv2 := [(11, .ref (s.heap.size + 59)), (10, .ref (s.heap.size + 58)), (9, .ref (s.heap.size + 57)), (8, .ref (s.heap.size + 56)), (7, .ref (s.heap.size + 55)), (6, .ref (s.heap.size + 54)), (5, .ref (s.heap.size + 53)), (4, .ref (s.heap.size + 52)), (3, .ref (s.heap.size + 51)), (2, .ref (s.heap.size + 50)), (1, .ref (s.heap.size + 0)), (0, .ref b)]) C d_law_59 (by decide) rfl ?_
  refine k_widen (k2 := 60) (n2 := 591) (Nat.le_of_ble_eq_true rfl) (Nat.le_of_ble_eq_true rfl) ?_
  refine k_lv (lv2 := [(0, .ref b), (1, .ref (kad s.heap.size 0)), (2, .ref (kad s.heap.size 50)), (3, .ref (kad s.heap.size 51)), (4, .ref (kad s.heap.size 52)), (5, .ref (kad s.heap.size 53)), (6, .ref (kad s.heap.size 54)), (7, .ref (kad s.heap.size 55)), (8, .ref (kad s.heap.size 56)), (9, .ref (kad s.heap.size 57)), (10, .ref (kad s.heap.size 58)), (11, .ref (kad s.heap.size 59))]) [11, 10, 9, 8, 7, 6, 5, 4, 3, 2, 1, 0] rfl ?_
  refine k_toW (st := st0) (mt := mtz) (ov := fun _ => 0) (fun i hi => ?_) (law_rest C X hl hL hend)
  by_cases h50 : i < 50
  · have hne : ∀ j, 50 ≤ j → ¬ i = j := fun j h1 h2 => by omega
    unfold gE
    rw [if_pos h50]
    repeat rw [va_up_ne _ _ (hne _ (by decide))]
  · have h2 : i = 50 ∨ i = 51 ∨ i = 52 ∨ i = 53 ∨ i = 54 ∨ i = 55 ∨ i = 56 ∨ i = 57 ∨ i = 58 ∨ i = 59 := by omega
    rcases h2 with rfl | rfl | rfl | rfl | rfl | rfl | rfl | rfl | rfl | rfl <;> rfl
set_option maxHeartbeats 4000000 in
theorem lw_walk (l : Launch) (hflags : l.flags = flags0) (b : Addr) (xs : List Int32) : MetFree l x (headSpec (Jvm.Cond.code x code maxLocals ret :: tables_1) room_1) (lw_P b xs) (fun _ _ _ _ _ => True) lw_Q := by
  refine MetFree.of_bodyS (code := code) (maxLocals := maxLocals) (ret := ret) (by decide) ?_ ?_
  · intro args s m h hn
    obtain ⟨meth, c, h1, h2, h3, h4, h5, h6, -, -⟩ := Cond.code_spec hn (atoms_spec (ws := Jvm.Cond.code x code maxLocals ret :: tables_1) h _ List.mem_cons_self)
    exact ⟨meth, c, h1, h2, h3, h4, h5, h6⟩
  · intro p e s m args below meth c s₁ B hml0 hP _
    obtain ⟨rfl, hx, hbd, hgv⟩ := hP
    obtain ⟨scr, harrAt, hlist, hof, hsmall⟩ := hx
    obtain ⟨hcb, hkn, -, -⟩ := State.arrayAt?_spec harrAt
    have hown : s.vm.findClass R_law = some m.cls := findClass_of_methodNamed B.named
    have hts0 : ∀ c ∈ (Jvm.Cond.code x code maxLocals ret :: tables_1), c.before #[Value.ref b] s = true := atoms_spec (ws := Jvm.Cond.code x code maxLocals ret :: tables_1) B.pre
    have hts : ∀ w ∈ lw_tbl, w.before #[Value.ref b] s = true := k2_hts_sels lw_privs (fun w hw => hts0 w (List.mem_cons_of_mem _ hw)) lw_privs_ok
    have hml : c.maxLocals = 17 := B.maxLocals_eq (hts0 _ List.mem_cons_self)
    have X₀ : Stand p l e room_1 s m #[Value.ref b] below meth c s₁ [] 0 0 := Stand.of_body B
    have hh0 : s₁.heap = s.heap := by rw [B.state]; rfl
    have hsz : scr.slots.size = xs.length := by rw [← Array.length_toList, hlist, List.length_map]
    have hval : ∀ j : Nat, j < xs.length → scr.slots[j]? = some (.int (xs.getD j 0)) := fun j hj => by
      rw [← Array.getElem?_toList, hlist]
      simp [hj]
    have hbl : b < s.heap.size := (Array.getElem?_eq_some_iff.mp hcb).1
    have hX : va_X b xs.length (fun j => xs.getD j 0) s s.heap := ⟨scr, hcb, hof, hkn, hsz, hval⟩
    have K : W p l e room_1 s m #[Value.ref b] below meth c s₁.heap [] 0 0 (lw_Z below #[Value.ref b] s) (entryFrame m ([Value.ref b] : List Value).toArray 17) := by
      rw [hh0]
      exact whole_start l hflags hbd ⟨B.exec, B.bytes, B.returns, hml, hown, hts, hX, hbl, B.notSynchronized, hgv⟩
    obtain ⟨t, a1, o, b1, b2, b3⟩ := K s₁ rfl X₀
    exact ⟨t, o, a1, b1, b2, b3⟩
theorem lw_pre_spec {args : Array Value} {s : State} (h : (Jvm.Cond.and given_1 narrow_1).before args s = true) (hr : rest_1_c.before args s = true) : ∃ (b : Addr) (xs : List Int32), lw_P b xs args s := by
  have hs := flat_of_before _ h
  have hq := flat_of_before _ hr
  have hc : (Cond.count 1).before args s = true := hs _ (by decide +kernel)
  have harr : (Cond.arrayOf (.arg 0) .int).before args s = true := hs _ (by decide +kernel)
  have hle : (Cond.le (.length (.arg 0)) (.int 260)).before args s = true := hs _ (by decide +kernel)
  have hlen : (Cond.isInt (.length (.arg 0))).before args s = true := hq _ (by decide +kernel)
  have hall : (Cond.all (.arg 0) (.isInt (.elem (.arg 0) (.index 0)))).before args s = true := hq _ (by decide +kernel)
  obtain ⟨b, xs, hb, hx⟩ := State.ints_of_pre rfl harr hlen hall
  have hsm : xs.length < 2 ^ 31 := hx.choose_spec.2.2.2
  have hev : (Term.length (.arg 0)).eval args s none [] s = some (.int xs.length.toInt32) := hx.length_eval hb
  have hv := Cond.le_ints hev (show (Term.int 260).eval args s none [] s = some (.int 260) from rfl)
  have hd : xs.length.toInt32 ≤ 260 := by
    simpa [Cond.before, Cond.holds, hv] using hle
  have hN : xs.length ≤ 260 := (Int32.ofNat_le_ofNat hsm (by decide)).mp (show Int32.ofNat xs.length ≤ Int32.ofNat 260 from hd)
  exact ⟨b, xs, Cond.one_arg hc (show args[0]? = some (.ref b) from hb), hx, hN, h⟩
theorem lw_comes (l : Launch) (hflags : l.flags = flags0) : Comes l x (Jvm.Cond.code x code maxLocals ret :: tables_1) room_1 (fun tb e args s => Calls_1 tb e args s ∧ rest_1 tb e args s ∧ Pre_1 tb e args s)
    (fun _ _ args s o t => lw_Q args s o t) := by
  intro p e ha hc hk s m args below hf hfit hheap happ hpre
  obtain ⟨b, xs, hP⟩ := lw_pre_spec hpre.2.2 hpre.2.1
  obtain ⟨k, o, h1, h2, h3, hQ⟩ := lw_walk l hflags b xs p e ha hc hk s m args below hf ((Spec.applies_iff_loose hf).mp happ).1 hP trivial
  exact ⟨k, o, h1, h2, h3, hQ⟩
theorem lw_frame {s t : State} {o : Outcome} {args : Array Value} (h : Framed s o t [] room_1.cells room_1.slots) :
    Framed s o t (fieldLocs frame_1_writes args s ++ arrayLocs frame_1_arrays args s ++ staticLocs frame_1_statics s) room_1.cells room_1.slots := h
theorem lw_limb (L : Cond) (hL : ∀ (args : Array Value) (s t : State), L.after args s (.returned (some (.int 1))) t = true) :
    ArmFor flags0 classFile x code maxLocals ret World_1 tables_1 room_1 Calls_1 rest_1 Pre_1
      (fun tb e a s o t => postC L tb e a s o t ∧ Framed s o t (fieldLocs frame_1_writes a s ++ arrayLocs frame_1_arrays a s ++ staticLocs frame_1_statics s) room_1.cells room_1.slots) := by
  intro l hflags _ _ p e ha hc hk s m args below hf hfit hheap happ hpre
  obtain ⟨k, o, h1, h2, h3, rfl, hF⟩ := lw_comes l hflags p e ha hc hk s m args below hf hfit hheap happ hpre
  exact ⟨k, _, h1, h2, h3, hL args s _, lw_frame hF⟩
theorem i_vc : Claimed_1_1 ∧ Claimed_1_2 := ⟨lw_limb limb_1_1 (fun args s t => by simp [limb_1_1, Cond.after, Cond.holds, Cond.value]), lw_limb limb_1_2 (fun args s t => Cond.after_iff.mpr (by
  first | (rw [show limb_1_2 = Cond.eq .result (.int 1) from rfl, Cond.eq_ints (x := 1) (y := 1) rfl rfl]; simp; done) | (simp [limb_1_2, Cond.value, Term.eval]; done)))⟩
