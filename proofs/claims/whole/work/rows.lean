section
-- ===== PART A: goes FIRST, ahead of the names: the tables' words, and 'selects' of the private methods out of them =====
/-- a private method of a class that the tables say can be made, by its rows of tables_1 -/
def lw_okq (q : MethodName × Nat) : Prop := (q.1.cls ≠ "java/lang/invoke/MethodHandle" ∧ q.1.cls ≠ "java/lang/invoke/VarHandle") ∧ Cond.instantiable q.1.cls q.2 ∈ tables_1 ∧ Cond.privateMethod q.1 ∈ tables_1 ∧ Cond.instanceMethod q.1 ∈ tables_1
theorem lw_p0 : lw_okq (⟨"TwinRegister", "advance", "(LTwinRegister$Job;)I"⟩, 5) := ⟨⟨by decide +kernel, by decide +kernel⟩, List.mem_of_getElem? (i := 15) (by decide +kernel), List.mem_of_getElem? (i := 157) (by decide +kernel), List.mem_of_getElem? (i := 158) (by decide +kernel)⟩
theorem lw_p1 : lw_okq (⟨"TwinRegister", "judgeStarted", "(LTwinRegister$Job;)V"⟩, 5) := ⟨⟨by decide +kernel, by decide +kernel⟩, List.mem_of_getElem? (i := 15) (by decide +kernel), List.mem_of_getElem? (i := 161) (by decide +kernel), List.mem_of_getElem? (i := 162) (by decide +kernel)⟩
theorem lw_p2 : lw_okq (⟨"TwinRegister$Job", "open", "()I"⟩, 9) := ⟨⟨by decide +kernel, by decide +kernel⟩, List.mem_of_getElem? (i := 99) (by decide +kernel), List.mem_of_getElem? (i := 165) (by decide +kernel), List.mem_of_getElem? (i := 166) (by decide +kernel)⟩
theorem lw_p3 : lw_okq (⟨"TwinRegister", "startMore", "(LTwinRegister$Job;)I"⟩, 5) := ⟨⟨by decide +kernel, by decide +kernel⟩, List.mem_of_getElem? (i := 15) (by decide +kernel), List.mem_of_getElem? (i := 175) (by decide +kernel), List.mem_of_getElem? (i := 176) (by decide +kernel)⟩
theorem lw_p4 : lw_okq (⟨"TwinRegister", "membersOf", "(LTwinRegister$Group;)I"⟩, 5) := ⟨⟨by decide +kernel, by decide +kernel⟩, List.mem_of_getElem? (i := 15) (by decide +kernel), List.mem_of_getElem? (i := 179) (by decide +kernel), List.mem_of_getElem? (i := 180) (by decide +kernel)⟩
theorem lw_p5 : lw_okq (⟨"TwinRegister$Group", "admits", "(LTwinRegister$Device;)Z"⟩, 3) := ⟨⟨by decide +kernel, by decide +kernel⟩, List.mem_of_getElem? (i := 79) (by decide +kernel), List.mem_of_getElem? (i := 183) (by decide +kernel), List.mem_of_getElem? (i := 184) (by decide +kernel)⟩
theorem lw_p6 : lw_okq (⟨"TwinRegister$Device", "takeWish", "(II)V"⟩, 8) := ⟨⟨by decide +kernel, by decide +kernel⟩, List.mem_of_getElem? (i := 39) (by decide +kernel), List.mem_of_getElem? (i := 187) (by decide +kernel), List.mem_of_getElem? (i := 188) (by decide +kernel)⟩
theorem lw_p7 : lw_okq (⟨"TwinRegister$Device", "keepDifference", "(I)V"⟩, 8) := ⟨⟨by decide +kernel, by decide +kernel⟩, List.mem_of_getElem? (i := 39) (by decide +kernel), List.mem_of_getElem? (i := 191) (by decide +kernel), List.mem_of_getElem? (i := 192) (by decide +kernel)⟩
theorem lw_p8 : lw_okq (⟨"TwinRegister$Device", "comparesUnlike", "(I)Z"⟩, 8) := ⟨⟨by decide +kernel, by decide +kernel⟩, List.mem_of_getElem? (i := 39) (by decide +kernel), List.mem_of_getElem? (i := 195) (by decide +kernel), List.mem_of_getElem? (i := 196) (by decide +kernel)⟩
theorem lw_p9 : lw_okq (⟨"java/lang/Throwable", "fillInStackTrace", "(I)Ljava/lang/Throwable;"⟩, 6) := ⟨⟨by decide +kernel, by decide +kernel⟩, List.mem_of_getElem? (i := 253) (by decide +kernel), List.mem_of_getElem? (i := 251) (by decide +kernel), List.mem_of_getElem? (i := 252) (by decide +kernel)⟩
theorem lw_p10 : lw_okq (⟨"TwinRegister$Draft", "assign", "(II)V"⟩, 2) := ⟨⟨by decide +kernel, by decide +kernel⟩, List.mem_of_getElem? (i := 23) (by decide +kernel), List.mem_of_getElem? (i := 302) (by decide +kernel), List.mem_of_getElem? (i := 303) (by decide +kernel)⟩
theorem lw_p11 : lw_okq (⟨"TwinRegister$Draft", "count", "()I"⟩, 2) := ⟨⟨by decide +kernel, by decide +kernel⟩, List.mem_of_getElem? (i := 23) (by decide +kernel), List.mem_of_getElem? (i := 306) (by decide +kernel), List.mem_of_getElem? (i := 307) (by decide +kernel)⟩
theorem lw_p12 : lw_okq (⟨"TwinRegister", "deviceAt", "(I)LTwinRegister$Device;"⟩, 5) := ⟨⟨by decide +kernel, by decide +kernel⟩, List.mem_of_getElem? (i := 15) (by decide +kernel), List.mem_of_getElem? (i := 327) (by decide +kernel), List.mem_of_getElem? (i := 328) (by decide +kernel)⟩
theorem lw_p13 : lw_okq (⟨"TwinRegister", "mergeWish", "(LTwinRegister$Device;)V"⟩, 5) := ⟨⟨by decide +kernel, by decide +kernel⟩, List.mem_of_getElem? (i := 15) (by decide +kernel), List.mem_of_getElem? (i := 349) (by decide +kernel), List.mem_of_getElem? (i := 350) (by decide +kernel)⟩
theorem lw_p14 : lw_okq (⟨"TwinRegister$Draft", "has", "(I)Z"⟩, 2) := ⟨⟨by decide +kernel, by decide +kernel⟩, List.mem_of_getElem? (i := 23) (by decide +kernel), List.mem_of_getElem? (i := 353) (by decide +kernel), List.mem_of_getElem? (i := 354) (by decide +kernel)⟩
theorem lw_p15 : lw_okq (⟨"TwinRegister$Draft", "empty", "()V"⟩, 2) := ⟨⟨by decide +kernel, by decide +kernel⟩, List.mem_of_getElem? (i := 23) (by decide +kernel), List.mem_of_getElem? (i := 357) (by decide +kernel), List.mem_of_getElem? (i := 358) (by decide +kernel)⟩
def lw_privs_1 : List (MethodName × Nat) := [(⟨"TwinRegister", "advance", "(LTwinRegister$Job;)I"⟩, 5), (⟨"TwinRegister", "judgeStarted", "(LTwinRegister$Job;)V"⟩, 5), (⟨"TwinRegister$Job", "open", "()I"⟩, 9), (⟨"TwinRegister", "startMore", "(LTwinRegister$Job;)I"⟩, 5), (⟨"TwinRegister", "membersOf", "(LTwinRegister$Group;)I"⟩, 5), (⟨"TwinRegister$Group", "admits", "(LTwinRegister$Device;)Z"⟩, 3), (⟨"TwinRegister$Device", "takeWish", "(II)V"⟩, 8), (⟨"TwinRegister$Device", "keepDifference", "(I)V"⟩, 8), (⟨"TwinRegister$Device", "comparesUnlike", "(I)Z"⟩, 8), (⟨"java/lang/Throwable", "fillInStackTrace", "(I)Ljava/lang/Throwable;"⟩, 6), (⟨"TwinRegister$Draft", "assign", "(II)V"⟩, 2), (⟨"TwinRegister$Draft", "count", "()I"⟩, 2), (⟨"TwinRegister", "deviceAt", "(I)LTwinRegister$Device;"⟩, 5), (⟨"TwinRegister", "mergeWish", "(LTwinRegister$Device;)V"⟩, 5), (⟨"TwinRegister$Draft", "has", "(I)Z"⟩, 2), (⟨"TwinRegister$Draft", "empty", "()V"⟩, 2)]
theorem lw_r1 : ∀ q ∈ lw_privs_1, lw_okq q := List.forall_mem_cons.mpr ⟨lw_p0, List.forall_mem_cons.mpr ⟨lw_p1, List.forall_mem_cons.mpr ⟨lw_p2, List.forall_mem_cons.mpr ⟨lw_p3, List.forall_mem_cons.mpr ⟨lw_p4, List.forall_mem_cons.mpr ⟨lw_p5, List.forall_mem_cons.mpr ⟨lw_p6, List.forall_mem_cons.mpr ⟨lw_p7, List.forall_mem_cons.mpr ⟨lw_p8, List.forall_mem_cons.mpr ⟨lw_p9, List.forall_mem_cons.mpr ⟨lw_p10, List.forall_mem_cons.mpr ⟨lw_p11, List.forall_mem_cons.mpr ⟨lw_p12, List.forall_mem_cons.mpr ⟨lw_p13, List.forall_mem_cons.mpr ⟨lw_p14, List.forall_mem_cons.mpr ⟨lw_p15, fun _ h => absurd h List.not_mem_nil⟩⟩⟩⟩⟩⟩⟩⟩⟩⟩⟩⟩⟩⟩⟩⟩
theorem lw_p16 : lw_okq (⟨"TwinRegister", "mergeReport", "(LTwinRegister$Device;)V"⟩, 5) := ⟨⟨by decide +kernel, by decide +kernel⟩, List.mem_of_getElem? (i := 15) (by decide +kernel), List.mem_of_getElem? (i := 372) (by decide +kernel), List.mem_of_getElem? (i := 373) (by decide +kernel)⟩
theorem lw_p17 : lw_okq (⟨"TwinRegister$Device", "takeReport", "(II)V"⟩, 8) := ⟨⟨by decide +kernel, by decide +kernel⟩, List.mem_of_getElem? (i := 39) (by decide +kernel), List.mem_of_getElem? (i := 376) (by decide +kernel), List.mem_of_getElem? (i := 377) (by decide +kernel)⟩
theorem lw_p18 : lw_okq (⟨"TwinRegister$Device", "differsAt", "(I)Z"⟩, 8) := ⟨⟨by decide +kernel, by decide +kernel⟩, List.mem_of_getElem? (i := 39) (by decide +kernel), List.mem_of_getElem? (i := 387) (by decide +kernel), List.mem_of_getElem? (i := 388) (by decide +kernel)⟩
theorem lw_p19 : lw_okq (⟨"TwinRegister$Device", "takeRefusal", "(II)V"⟩, 8) := ⟨⟨by decide +kernel, by decide +kernel⟩, List.mem_of_getElem? (i := 39) (by decide +kernel), List.mem_of_getElem? (i := 399) (by decide +kernel), List.mem_of_getElem? (i := 400) (by decide +kernel)⟩
theorem lw_p20 : lw_okq (⟨"TwinRegister$Device", "heardVersion", "()I"⟩, 8) := ⟨⟨by decide +kernel, by decide +kernel⟩, List.mem_of_getElem? (i := 39) (by decide +kernel), List.mem_of_getElem? (i := 417) (by decide +kernel), List.mem_of_getElem? (i := 418) (by decide +kernel)⟩
theorem lw_p21 : lw_okq (⟨"TwinRegister", "groupAt", "(I)LTwinRegister$Group;"⟩, 5) := ⟨⟨by decide +kernel, by decide +kernel⟩, List.mem_of_getElem? (i := 15) (by decide +kernel), List.mem_of_getElem? (i := 428) (by decide +kernel), List.mem_of_getElem? (i := 429) (by decide +kernel)⟩
theorem lw_p22 : lw_okq (⟨"TwinRegister", "jobAt", "(I)LTwinRegister$Job;"⟩, 5) := ⟨⟨by decide +kernel, by decide +kernel⟩, List.mem_of_getElem? (i := 15) (by decide +kernel), List.mem_of_getElem? (i := 451) (by decide +kernel), List.mem_of_getElem? (i := 452) (by decide +kernel)⟩
theorem lw_p23 : lw_okq (⟨"TwinRegisterModel", "drafted", "()I"⟩, 22) := ⟨⟨by decide +kernel, by decide +kernel⟩, List.mem_of_getElem? (i := 528) (by decide +kernel), List.mem_of_getElem? (i := 616) (by decide +kernel), List.mem_of_getElem? (i := 617) (by decide +kernel)⟩
theorem lw_p24 : lw_okq (⟨"TwinRegisterModel", "wishes", "(III)V"⟩, 22) := ⟨⟨by decide +kernel, by decide +kernel⟩, List.mem_of_getElem? (i := 528) (by decide +kernel), List.mem_of_getElem? (i := 631) (by decide +kernel), List.mem_of_getElem? (i := 632) (by decide +kernel)⟩
theorem lw_p25 : lw_okq (⟨"TwinRegisterModel", "empties", "()V"⟩, 22) := ⟨⟨by decide +kernel, by decide +kernel⟩, List.mem_of_getElem? (i := 528) (by decide +kernel), List.mem_of_getElem? (i := 635) (by decide +kernel), List.mem_of_getElem? (i := 636) (by decide +kernel)⟩
theorem lw_p26 : lw_okq (⟨"TwinRegisterModel", "differing", "(I)I"⟩, 22) := ⟨⟨by decide +kernel, by decide +kernel⟩, List.mem_of_getElem? (i := 528) (by decide +kernel), List.mem_of_getElem? (i := 643) (by decide +kernel), List.mem_of_getElem? (i := 644) (by decide +kernel)⟩
theorem lw_p27 : lw_okq (⟨"TwinRegisterModel", "differs", "(II)Z"⟩, 22) := ⟨⟨by decide +kernel, by decide +kernel⟩, List.mem_of_getElem? (i := 528) (by decide +kernel), List.mem_of_getElem? (i := 647) (by decide +kernel), List.mem_of_getElem? (i := 648) (by decide +kernel)⟩
theorem lw_p28 : lw_okq (⟨"TwinRegisterModel", "heardOf", "(I)I"⟩, 22) := ⟨⟨by decide +kernel, by decide +kernel⟩, List.mem_of_getElem? (i := 528) (by decide +kernel), List.mem_of_getElem? (i := 670) (by decide +kernel), List.mem_of_getElem? (i := 671) (by decide +kernel)⟩
theorem lw_p29 : lw_okq (⟨"TwinRegisterModel", "membersOf", "(I)I"⟩, 22) := ⟨⟨by decide +kernel, by decide +kernel⟩, List.mem_of_getElem? (i := 528) (by decide +kernel), List.mem_of_getElem? (i := 681) (by decide +kernel), List.mem_of_getElem? (i := 682) (by decide +kernel)⟩
theorem lw_p30 : lw_okq (⟨"TwinRegisterModel", "looks", "(I)V"⟩, 22) := ⟨⟨by decide +kernel, by decide +kernel⟩, List.mem_of_getElem? (i := 528) (by decide +kernel), List.mem_of_getElem? (i := 693) (by decide +kernel), List.mem_of_getElem? (i := 694) (by decide +kernel)⟩
theorem lw_p31 : lw_okq (⟨"TwinRegisterModel", "starts", "(I)I"⟩, 22) := ⟨⟨by decide +kernel, by decide +kernel⟩, List.mem_of_getElem? (i := 528) (by decide +kernel), List.mem_of_getElem? (i := 697) (by decide +kernel), List.mem_of_getElem? (i := 698) (by decide +kernel)⟩
def lw_privs_2 : List (MethodName × Nat) := [(⟨"TwinRegister", "mergeReport", "(LTwinRegister$Device;)V"⟩, 5), (⟨"TwinRegister$Device", "takeReport", "(II)V"⟩, 8), (⟨"TwinRegister$Device", "differsAt", "(I)Z"⟩, 8), (⟨"TwinRegister$Device", "takeRefusal", "(II)V"⟩, 8), (⟨"TwinRegister$Device", "heardVersion", "()I"⟩, 8), (⟨"TwinRegister", "groupAt", "(I)LTwinRegister$Group;"⟩, 5), (⟨"TwinRegister", "jobAt", "(I)LTwinRegister$Job;"⟩, 5), (⟨"TwinRegisterModel", "drafted", "()I"⟩, 22), (⟨"TwinRegisterModel", "wishes", "(III)V"⟩, 22), (⟨"TwinRegisterModel", "empties", "()V"⟩, 22), (⟨"TwinRegisterModel", "differing", "(I)I"⟩, 22), (⟨"TwinRegisterModel", "differs", "(II)Z"⟩, 22), (⟨"TwinRegisterModel", "heardOf", "(I)I"⟩, 22), (⟨"TwinRegisterModel", "membersOf", "(I)I"⟩, 22), (⟨"TwinRegisterModel", "looks", "(I)V"⟩, 22), (⟨"TwinRegisterModel", "starts", "(I)I"⟩, 22)]
theorem lw_r2 : ∀ q ∈ lw_privs_2, lw_okq q := List.forall_mem_cons.mpr ⟨lw_p16, List.forall_mem_cons.mpr ⟨lw_p17, List.forall_mem_cons.mpr ⟨lw_p18, List.forall_mem_cons.mpr ⟨lw_p19, List.forall_mem_cons.mpr ⟨lw_p20, List.forall_mem_cons.mpr ⟨lw_p21, List.forall_mem_cons.mpr ⟨lw_p22, List.forall_mem_cons.mpr ⟨lw_p23, List.forall_mem_cons.mpr ⟨lw_p24, List.forall_mem_cons.mpr ⟨lw_p25, List.forall_mem_cons.mpr ⟨lw_p26, List.forall_mem_cons.mpr ⟨lw_p27, List.forall_mem_cons.mpr ⟨lw_p28, List.forall_mem_cons.mpr ⟨lw_p29, List.forall_mem_cons.mpr ⟨lw_p30, List.forall_mem_cons.mpr ⟨lw_p31, fun _ h => absurd h List.not_mem_nil⟩⟩⟩⟩⟩⟩⟩⟩⟩⟩⟩⟩⟩⟩⟩⟩
theorem lw_p32 : lw_okq (⟨"TwinRegisterModel", "isJob", "(I)Z"⟩, 22) := ⟨⟨by decide +kernel, by decide +kernel⟩, List.mem_of_getElem? (i := 528) (by decide +kernel), List.mem_of_getElem? (i := 705) (by decide +kernel), List.mem_of_getElem? (i := 706) (by decide +kernel)⟩
theorem lw_p33 : lw_okq (⟨"TwinRegisterModel", "asks", "(I)Z"⟩, 22) := ⟨⟨by decide +kernel, by decide +kernel⟩, List.mem_of_getElem? (i := 528) (by decide +kernel), List.mem_of_getElem? (i := 713) (by decide +kernel), List.mem_of_getElem? (i := 714) (by decide +kernel)⟩
theorem lw_p34 : lw_okq (⟨"TwinRegisterModel", "asksLeaf", "(II)Z"⟩, 22) := ⟨⟨by decide +kernel, by decide +kernel⟩, List.mem_of_getElem? (i := 528) (by decide +kernel), List.mem_of_getElem? (i := 725) (by decide +kernel), List.mem_of_getElem? (i := 726) (by decide +kernel)⟩
def lw_privs_3 : List (MethodName × Nat) := [(⟨"TwinRegisterModel", "isJob", "(I)Z"⟩, 22), (⟨"TwinRegisterModel", "asks", "(I)Z"⟩, 22), (⟨"TwinRegisterModel", "asksLeaf", "(II)Z"⟩, 22)]
theorem lw_r3 : ∀ q ∈ lw_privs_3, lw_okq q := List.forall_mem_cons.mpr ⟨lw_p32, List.forall_mem_cons.mpr ⟨lw_p33, List.forall_mem_cons.mpr ⟨lw_p34, fun _ h => absurd h List.not_mem_nil⟩⟩⟩
def lw_privs : List (MethodName × Nat) := lw_privs_1 ++ (lw_privs_2 ++ (lw_privs_3))
def lw_tbl : List Cond := k2_sels lw_privs ++ tables_1
theorem lw_privs_ok : ∀ q ∈ lw_privs, lw_okq q := by
  show ∀ q ∈ lw_privs_1 ++ (lw_privs_2 ++ (lw_privs_3)), lw_okq q
  exact List.forall_mem_append.mpr ⟨lw_r1, List.forall_mem_append.mpr ⟨lw_r2, lw_r3⟩⟩
-- ===== end of PART A =====
/-- the words that every state behind keeps -/
def ag_all : List Cond := lw_tbl.filter goodWord
theorem ag_in {w : Cond} (i : Nat) (h : lw_tbl[i]? = some w) (g : goodWord w = true) : w ∈ ag_all := List.mem_filter.mpr ⟨List.mem_of_getElem? h, g⟩
theorem ag_good {w : Cond} (h : w ∈ ag_all) : goodWord w = true := (List.mem_filter.mp h).2
/-- words on nest mates, casts, declared methods: kept too, but by laws of their own -/
def ax_k : Cond → Bool
  | .fieldLinkNest .. => true
  | .methodLinkNest .. => true
  | .castable .. => true
  | .declares .. => true
  | _ => false
def ax_all : List Cond := lw_tbl.filter ax_k
theorem ax_in {w : Cond} (i : Nat) (h : lw_tbl[i]? = some w) (g : ax_k w = true) : w ∈ ax_all := List.mem_filter.mpr ⟨List.mem_of_getElem? h, g⟩
end
section
/-! ===== BEGIN words of one list among another's, by their places ===== -/
theorem goodIn_r {big : List Cond} (ws : List Cond) (ps : List Nat) (hp : ws = ps.filterMap (fun i => big[i]?)) (h : ws.all goodWord = true) : GoodIn big ws := by
  intro w hw
  have h1 := List.all_eq_true.mp h w hw
  rw [hp] at hw
  obtain ⟨i, -, hi⟩ := List.mem_filterMap.mp hw
  have hm : w ∈ big := by first | exact List.mem_of_getElem? hi | exact List.getElem?_mem hi
  exact ⟨hm, good_of_word h1⟩
theorem goodIn_app {big a b : List Cond} (ha : GoodIn big a) (hb : GoodIn big b) : GoodIn big (a ++ b) := fun w h => (List.mem_append.mp h).elim (ha w) (hb w)
theorem goodIn_ca {big a b : List Cond} {c : Cond} (ha : GoodIn big (c :: a)) (hb : GoodIn big b) : GoodIn big (c :: (a ++ b)) := fun w h => (List.mem_cons.mp h).elim (fun e => ha w (List.mem_cons.mpr (Or.inl e))) (fun h => (List.mem_append.mp h).elim (fun h => ha w (List.mem_cons.mpr (Or.inr h))) (hb w))
theorem goodIn_sub {big ws : List Cond} (hm : ∀ w ∈ ws, w ∈ big) (h : ws.all goodWord = true) : GoodIn big ws := fun w hw => ⟨hm w hw, good_of_word (List.all_eq_true.mp h w hw)⟩
/-! ===== END ===== -/
/-! ===== BEGIN exceptions that leave a method, and their catching by the caller (launches without stack traces) ===== -/
section VXA
/-! The laws vx_back, vx_callV, vx_callS, vx_callSW, vx_throw0, vx_throwS follow proofs of the library, with one case more: JvmDerived/Free/Laws.lean (Back.of_free), Shelf42/LK1.lean (callV, callS), Shelf/KitTraced.lean (throwNew0V, throwNewS). -/
/-- where a method has thrown q: the class by its name, the cell, what was written, the world -/
def vx_T (XC : String → State → State → Prop) (st : State) (q : Addr) (t : State) (mc ms : Nat) (free : Addr → Prop) : Prop :=
  ∃ (E : String) (ce : Cell) (L : List Loc), XC E st t ∧ t.heap[q]? = some ce ∧ ce.vm = .none ∧ st.vm.findClass E = some ce.cls ∧ st.WarmedH t.vm ∧ st.sameButNew ({ t with vm := st.vm } : State) L mc ms ∧ ∀ z ∈ L, free z.base
def vx_Q (Qc : Array Value → State → Outcome → State → Prop) (XC : String → State → State → Prop) (mc ms : Nat) (free : Addr → Prop) : Array Value → State → Outcome → State → Prop := fun a st o t =>
  (Qc a st o t ∧ ∃ L, FrameEnd st o t L mc ms ∧ ∀ q ∈ L, free q.base) ∨ ∃ q, o = .threw q ∧ vx_T XC st q t mc ms free
/-- a callee that returns or throws -/
def vx_Met (l : Launch) (y : MethodName) (ws : List Cond) (rm : Room) (Pc : Array Value → State → Prop) (Qc : Array Value → State → Outcome → State → Prop) (XC : String → State → State → Prop) (mc ms : Nat) (free : Addr → Prop) : Prop :=
  MetFree l y (headSpec ws rm) Pc (fun _ _ _ _ _ => True) (vx_Q Qc XC mc ms free)
def vx_Post (XC : String → State → State → Prop) (mc ms : Nat) (free : Addr → Prop) : Pt → Array Value → Addr → Pt → Prop := fun A a q B =>
  ∃ (g : JFrame) (mk : MethodId) (t : State) (L : List Loc) (E : String) (ce : Cell), B.U.heap = t.heap ∧ B.U.vm = t.vm ∧ XC E (A.U.calling g mk a) t ∧ t.heap[q]? = some ce ∧ ce.vm = .none ∧ A.U.vm.findClass E = some ce.cls ∧ B.locs = A.locs ++ L ∧ (∀ z ∈ L, free z.base) ∧ B.cells = A.cells + mc ∧ B.slots = A.slots + ms
def vx_Back (l : Launch) (R : Room) (p : Program) (e : Env) (below : List Frame) (s : State) (sargs : Array Value) (y : MethodName) (len W9 : Nat)
    (Pre : Pt → Array Value → Prop) (Post : Pt → Array Value → Option Value → Pt → Prop) (PostX : Pt → Array Value → Addr → Pt → Prop) : Prop :=
  ∀ (m : MethodId) (meth : Method) (c : Code) (A : Pt) (g : JFrame) (ig : Instr) (mk : MethodId) (a : Array Value),
    Stand p l e R s m sargs below meth c A.U A.locs A.cells A.slots → g.method = m → g.locals.size = c.maxLocals → decode c.code g.pc = .ok (ig, len) →
    2 * g.monitorRoom + (g.stack.map fun v => v.category).sum ≤ W9 → A.U.methodNamed? y = some mk → Pre A a →
    (∃ (v : Option Value) (B : Pt), Stand p l e R s m sargs below meth c B.U B.locs B.cells B.slots ∧ Post A a v B ∧
      Steps p.tables e below (doInvoke e (A.U.setTop g) [] mk a).1 (B.U.setTop { g with pc := g.pc + len, stack := v.toList ++ g.stack })) ∨
    (∃ (q : Addr) (B : Pt), Stand p l e R s m sargs below meth c B.U B.locs B.cells B.slots ∧ PostX A a q B ∧
      Steps p.tables e below (doInvoke e (A.U.setTop g) [] mk a).1 ((B.U.setTop g).pushFrame (.throwing q)))
section Payer
variable {l : Launch} {R : Room} {p : Program} {e : Env} {below : List Frame} {s : State} {sargs : Array Value} {y : MethodName} {len W9 : Nat}
theorem vx_back {ws : List Cond} {rm : Room} {Pc : Array Value → State → Prop} {Qc : Array Value → State → Outcome → State → Prop} {XC : String → State → State → Prop} {mc ms : Nat} {free : Addr → Prop} {bytes : ByteArray} {maxL : Nat} {ret : Option FieldType}
    (hM : vx_Met l y ws rm Pc Qc XC mc ms free) (hblind : FrameBlind Pc) (hrc : rm.cells = mc) (hrs : rm.slots = ms)
    (hframes : rm.frames + 1 ≤ R.frames) (hlocals : W9 + (maxL + 11) + rm.locals ≤ R.locals)
    (hws : ∀ w ∈ ws, ∀ a' U, s.WarmedH U.vm → w.before a' U = true) (hcode : Cond.code y bytes maxL ret ∈ ws) (hinit : ∀ a' U, s.WarmedH U.vm → (Cond.initialized y.cls).before a' U = true) :
    vx_Back l R p e below s sargs y len W9 (PreOf R mc ms Pc) (PostOf Qc mc ms free) (vx_Post XC mc ms free) := by
  intro m meth c A g ig mk a X hg hsize hdg hW hn hp
  have h1 : (headSpec ws rm).pre.before a A.U = true := atoms_intro fun w hw => hws w hw _ _ X.warmed
  have h2 : (Cond.code y bytes maxL ret).before a A.U = true := hws _ hcode _ _ X.warmed
  have h3 : (Cond.initialized y.cls).before a A.U = true := hinit _ _ X.warmed
  have h4 : A.cells + (headSpec ws rm).room.cells ≤ R.cells := by rw [show (headSpec ws rm).room.cells = mc from hrc]; exact hp.1
  have h5 : A.slots + (headSpec ws rm).room.slots ≤ R.slots := by rw [show (headSpec ws rm).room.slots = ms from hrs]; exact hp.2.1
  have hPc : Pc a (A.U.calling g mk a) := hblind _ _ _ _ hp.2.2
  obtain ⟨U, Ls, c0, s0⟩ := A
  dsimp only [Pt.U, Pt.locs, Pt.cells, Pt.slots] at h1 h2 h3 h4 h5 X hn hPc ⊢
  obtain ⟨methY, cY, hmY, hcY, -, hlY, -, -, -, -⟩ := Cond.code_spec hn h2
  obtain ⟨kY, hkY, -⟩ := className_of_methodNamed hn
  have hinitY : kY.init = .initialized := Cond.initialized_spec (findClass_of_methodNamed hn) hkY h3
  have h : At U g.method c below := by rw [hg]; exact X.here
  have hlocals9 : W9 + (maxL + 11) + (headSpec ws rm).room.locals ≤ R.locals := hlocals
  have happ : (headSpec ws rm).appliesLoose y e.platform (U.calling g mk a) = true :=
    Spec.appliesLoose_calling (g := g) h hdg hn hkY hinitY
      (X.room_calling (g := g) (R' := (headSpec ws rm).room) hsize hmY hcY hframes (by rw [hlY]; omega) h4 h5) h1
  obtain ⟨mid, hmid⟩ := h.above
  have hfr : (U.setTop g).frames = (.java g :: mid) ++ below := by rw [State.frames_setTop' g h.top, hmid]; rfl
  obtain ⟨o, s₂, hsteps, -, hend, hq⟩ := Steps.callFree hM p X.admits X.cas X.clock (acts := []) hfr happ hPc trivial
  have hq' : vx_Q Qc XC mc ms free a (U.calling g mk a) o s₂ := hq
  rw [State.frames_setTop' g h.top] at hend
  obtain ⟨g₀, hg0⟩ := Option.isSome_iff_exists.mp h.top
  obtain ⟨r, hr⟩ := State.topJava?_eq_some.mp hg0
  have hr' : (({ U with heap := s₂.heap, slotsUsed := s₂.slotsUsed } : State).setVm s₂.vm).frames = .java g₀ :: r := hr
  rcases hq' with ⟨hqc, L, hfe, hL⟩ | ⟨q, rfl, E, ce, L, hx, hce, hcv, hcl, hW₂, hsm, hL⟩
  · obtain ⟨⟨v, rfl⟩, hW₂, e2, q2, q3, q4, q5, q6⟩ := id hfe
    have e3 : s₂ = ({ (U.calling g mk a).setFrames s₂.frames with heap := s₂.heap, slotsUsed := s₂.slotsUsed } : State).setVm s₂.vm := by
      have : s₂ = ({ s₂ with vm := (U.calling g mk a).vm } : State).setVm s₂.vm := rfl
      rw [e2] at this
      exact this
    obtain ⟨c₂, i₂, len₂, hc₂, hd₂, hf₂⟩ := hend
    have hW' : U.WarmedH s₂.vm := hW₂
    have hcc : c₂ = c := by
      have h1 : s₂.code? g.method = U.code? g.method := by
        rw [State.code?_eq, State.code?_eq, hW'.alike.method?]
      exact Option.some.inj (hc₂.symm.trans (h1.trans h.code))
    subst hcc
    have hlen : len₂ = len := by rw [hdg] at hd₂; cases hd₂; rfl
    subst hlen
    have hs₂ : s₂ = (({ U with heap := s₂.heap, slotsUsed := s₂.slotsUsed } : State).setVm s₂.vm).setTop { g with pc := g.pc + len₂, stack := v.toList ++ g.stack } := by
      refine e3.trans ?_
      rw [hf₂, State.calling_eq h.top, State.setFrames_setFrames, State.setTop_of_frames _ hr', hr]
      rfl
    have hsame : U.sameButNew ({ U with heap := s₂.heap, slotsUsed := s₂.slotsUsed } : State) L mc ms := by
      refine ⟨?_, q2, q3, q4, q5, q6⟩
      obtain ⟨t, ht, -⟩ := State.frames_cons hr
      show ({ U with heap := s₂.heap, slotsUsed := s₂.slotsUsed } : State) = { U.setFrames U.frames with heap := s₂.heap, slotsUsed := s₂.slotsUsed }
      rw [State.setFrames_self ht]
    subst hg
    refine Or.inl ⟨v, ⟨(({ U with heap := s₂.heap, slotsUsed := s₂.slotsUsed } : State).setVm s₂.vm), Ls ++ L, c0 + mc, s0 + ms⟩,
      ⟨X.admits, X.cas, X.clock, X.frames, X.room, X.hears, X.method, X.code, (X.here.setHeapUsed s₂.heap s₂.slotsUsed).setVm hW'.alike, X.tail, State.WarmedH.trans X.warmed hW', X.limits, X.bytes, X.same.trans (hsame.setVm s.vm)⟩,
      ⟨g, mk, s₂, L, rfl, rfl, hqc, rfl, hL, rfl, rfl⟩, ?_⟩
    show Steps p.tables e below _ ((({ U with heap := s₂.heap, slotsUsed := s₂.slotsUsed } : State).setVm s₂.vm).setTop { g with pc := g.pc + len₂, stack := v.toList ++ g.stack })
    rw [← hs₂]
    exact hsteps
  · obtain ⟨e2, q2, q3, q4, q5, q6⟩ := id hsm
    have e3 : s₂ = ({ (U.calling g mk a).setFrames s₂.frames with heap := s₂.heap, slotsUsed := s₂.slotsUsed } : State).setVm s₂.vm := by
      have : s₂ = ({ s₂ with vm := (U.calling g mk a).vm } : State).setVm s₂.vm := rfl
      rw [e2] at this
      exact this
    have hf₂ : s₂.frames = .throwing q :: .java g :: U.frames.tail := hend
    have hW' : U.WarmedH s₂.vm := hW₂
    have hs₂ : s₂ = ((({ U with heap := s₂.heap, slotsUsed := s₂.slotsUsed } : State).setVm s₂.vm).setTop g).pushFrame (.throwing q) := by
      refine e3.trans ?_
      rw [hf₂, State.calling_eq h.top, State.setFrames_setFrames, State.pushFrame, State.frames_setTop _ hr', State.setTop_of_frames _ hr', State.setFrames_setFrames, hr]
      rfl
    have hsame : U.sameButNew ({ U with heap := s₂.heap, slotsUsed := s₂.slotsUsed } : State) L mc ms := by
      refine ⟨?_, q2, q3, q4, q5, q6⟩
      obtain ⟨t, ht, -⟩ := State.frames_cons hr
      show ({ U with heap := s₂.heap, slotsUsed := s₂.slotsUsed } : State) = { U.setFrames U.frames with heap := s₂.heap, slotsUsed := s₂.slotsUsed }
      rw [State.setFrames_self ht]
    subst hg
    refine Or.inr ⟨q, ⟨(({ U with heap := s₂.heap, slotsUsed := s₂.slotsUsed } : State).setVm s₂.vm), Ls ++ L, c0 + mc, s0 + ms⟩,
      ⟨X.admits, X.cas, X.clock, X.frames, X.room, X.hears, X.method, X.code, (X.here.setHeapUsed s₂.heap s₂.slotsUsed).setVm hW'.alike, X.tail, State.WarmedH.trans X.warmed hW', X.limits, X.bytes, X.same.trans (hsame.setVm s.vm)⟩,
      ⟨g, mk, s₂, L, E, ce, rfl, rfl, hx, hce, hcv, hcl, rfl, hL, rfl, rfl⟩, ?_⟩
    show Steps p.tables e below _ (((({ U with heap := s₂.heap, slotsUsed := s₂.slotsUsed } : State).setVm s₂.vm).setTop g).pushFrame (.throwing q))
    rw [← hs₂]
    exact hsteps
end Payer
section Calls
variable {p : Program} {l : Launch} {e : Env} {R : Room} {s : State} {m : MethodId} {args : Array Value} {below : List Frame} {meth : Method} {c : Code} {T : State} {locs : List Loc} {cells slots : Nat}
theorem vx_callV (X : Stand p l e R s m args below meth c T locs cells slots) (hexec : p.tables.exec = Jvm.exec) {own C : String} {index : Nat} {y : MethodName} {bytes : ByteArray} {maxL : Nat} {ret : Option FieldType}
    (hown : s.vm.findClass own = some m.cls) (hlink : (Cond.methodLink own index y).before args s = true) (hinst : (Cond.instanceMethod y).before args s = true) (hsel : (Cond.selects C y y).before args s = true)
    (hcode : (Cond.code y bytes maxL ret).before args s = true) (hy : y.cls ≠ "java/lang/invoke/MethodHandle" ∧ y.cls ≠ "java/lang/invoke/VarHandle")
    {W9 : Nat} {Pre : Pt → Array Value → Prop} {Post : Pt → Array Value → Option Value → Pt → Prop} {PostX : Pt → Array Value → Addr → Pt → Prop} (hK : vx_Back l R p e below s args y 3 W9 Pre Post PostX)
    {b : Addr} {cellB : Cell} (hcell : T.heap[b]? = some cellB) (hobj : cellB.vm.isStatics = false) (hcls : s.vm.findClass C = some cellB.cls)
    {g : JFrame} (hg : g.method = m) (hsize : g.locals.size = c.maxLocals) {argsL rest : List Value} (hlen : ∀ sig, parseMethodDescriptor y.desc = some sig → argsL.length = sig.parameters.length)
    (hstack : g.stack = argsL.reverse ++ .ref b :: rest) (hW : 2 * g.monitorRoom + (rest.map fun v => v.category).sum ≤ W9) (hdg : decode c.code g.pc = .ok (.invokevirtual index, 3))
    (hpre : ∀ vm₁, s.WarmedH vm₁ → Pre ⟨T.setVm vm₁, locs, cells, slots⟩ (Value.ref b :: argsL).toArray) :
    (∃ (v : Option Value) (vm₁ : Vm) (B : Pt), s.WarmedH vm₁ ∧ Stand p l e R s m args below meth c B.U B.locs B.cells B.slots ∧ Post ⟨T.setVm vm₁, locs, cells, slots⟩ (Value.ref b :: argsL).toArray v B ∧
      ∀ target, Steps p.tables e below (B.U.setTop { g with pc := g.pc + 3, stack := v.toList ++ rest }) target → Steps p.tables e below (T.setTop g) target) ∨
    (∃ (q : Addr) (vm₁ : Vm) (B : Pt), s.WarmedH vm₁ ∧ Stand p l e R s m args below meth c B.U B.locs B.cells B.slots ∧ PostX ⟨T.setVm vm₁, locs, cells, slots⟩ (Value.ref b :: argsL).toArray q B ∧
      Steps p.tables e below (T.setTop g) ((B.U.setTop { g with stack := rest }).pushFrame (.throwing q))) := by
  obtain ⟨mk, methM, hnamed, hmethM, hstM, habM⟩ := Cond.instanceMethod_spec hinst
  obtain ⟨methM', cM, hmethM', -, -, -, -, -, -, hsigM⟩ := Cond.code_spec hnamed hcode
  cases hmethM.symm.trans hmethM'
  obtain ⟨c2, r2, m2, q1, q2, q3, q4, kP, hkP, hkPi⟩ := Cond.selects_spec hsel
  cases hcls.symm.trans q1
  cases (State.methodFound?_of_named hnamed hy).symm.trans q2
  cases hnamed.symm.trans q3
  have hselP : selectMethod e.platform s.vm cellB.cls mk = .method mk := by rw [Launch.admits_selectMethod X.admits]; exact q4
  obtain ⟨vm₁, X₁, hstep₁⟩ := X.invokevirtual hexec hown hlink hnamed hmethM hstM hkP hkPi hy (a := b) (cell := cellB) hcell
    (fun z h => by rw [h] at hobj; cases hobj) hselP hmethM habM hkP hkPi (g := g) hg (argsL := argsL) (rest := rest) (hlen _ hsigM) hstack hdg
  rcases hK m meth c ⟨T.setVm vm₁, locs, cells, slots⟩ { g with stack := rest } (.invokevirtual index) mk (Value.ref b :: argsL).toArray X₁ hg hsize hdg hW (X₁.named hnamed) (hpre vm₁ X₁.warmed) with ⟨v, B, X', hpost, hsteps⟩ | ⟨q, B, X', hpost, hsteps⟩
  · exact Or.inl ⟨v, vm₁, B, X₁.warmed, X', hpost, fun target h => hstep₁ _ fun acts => by rw [doInvoke_state]; exact hsteps.trans h⟩
  · exact Or.inr ⟨q, vm₁, B, X₁.warmed, X', hpost, hstep₁ _ fun acts => by rw [doInvoke_state]; exact hsteps⟩
theorem vx_callS (X : Stand p l e R s m args below meth c T locs cells slots) (hexec : p.tables.exec = Jvm.exec) {own : String} {index : Nat} {y : MethodName} {bytes : ByteArray} {maxL : Nat} {ret : Option FieldType}
    (hown : s.vm.findClass own = some m.cls) (hlink : (Cond.methodLink own index y).before args s = true) (hstat : (Cond.static y).before args s = true) (hinit : (Cond.initialized y.cls).before args s = true)
    (hcode : (Cond.code y bytes maxL ret).before args s = true) (hy : y.cls ≠ "java/lang/invoke/MethodHandle" ∧ y.cls ≠ "java/lang/invoke/VarHandle")
    {W9 : Nat} {Pre : Pt → Array Value → Prop} {Post : Pt → Array Value → Option Value → Pt → Prop} {PostX : Pt → Array Value → Addr → Pt → Prop} (hK : vx_Back l R p e below s args y 3 W9 Pre Post PostX)
    {g : JFrame} (hg : g.method = m) (hsize : g.locals.size = c.maxLocals) {argsL rest : List Value} (hlen : ∀ sig, parseMethodDescriptor y.desc = some sig → argsL.length = sig.parameters.length)
    (hstack : g.stack = argsL.reverse ++ rest) (hW : 2 * g.monitorRoom + (rest.map fun v => v.category).sum ≤ W9) (hdg : decode c.code g.pc = .ok (.invokestatic index, 3))
    (hpre : ∀ vm₁, s.WarmedH vm₁ → Pre ⟨T.setVm vm₁, locs, cells, slots⟩ argsL.toArray) :
    (∃ (v : Option Value) (vm₁ : Vm) (B : Pt), s.WarmedH vm₁ ∧ Stand p l e R s m args below meth c B.U B.locs B.cells B.slots ∧ Post ⟨T.setVm vm₁, locs, cells, slots⟩ argsL.toArray v B ∧
      ∀ target, Steps p.tables e below (B.U.setTop { g with pc := g.pc + 3, stack := v.toList ++ rest }) target → Steps p.tables e below (T.setTop g) target) ∨
    (∃ (q : Addr) (vm₁ : Vm) (B : Pt), s.WarmedH vm₁ ∧ Stand p l e R s m args below meth c B.U B.locs B.cells B.slots ∧ PostX ⟨T.setVm vm₁, locs, cells, slots⟩ argsL.toArray q B ∧
      Steps p.tables e below (T.setTop g) ((B.U.setTop { g with stack := rest }).pushFrame (.throwing q))) := by
  obtain ⟨mk, hnamed⟩ := Cond.code_named hcode
  obtain ⟨methM, cM, hmethM, -, -, -, -, -, -, hsigM⟩ := Cond.code_spec hnamed hcode
  have hstatic : methM.isStatic = true := Cond.static_spec hnamed hmethM hstat
  obtain ⟨kP, hkP, -⟩ := className_of_methodNamed hnamed
  have hinitP : kP.init = .initialized := Cond.initialized_spec (findClass_of_methodNamed hnamed) hkP hinit
  obtain ⟨vm₁, X₁, hstep₁⟩ := X.invokestatic hexec hown hlink hnamed hmethM hstatic hkP hinitP hy (g := g) hg (argsL := argsL) (rest := rest) (hlen _ hsigM) hstack hdg
  rcases hK m meth c ⟨T.setVm vm₁, locs, cells, slots⟩ { g with stack := rest } (.invokestatic index) mk argsL.toArray X₁ hg hsize hdg hW (X₁.named hnamed) (hpre vm₁ X₁.warmed) with ⟨v, B, X', hpost, hsteps⟩ | ⟨q, B, X', hpost, hsteps⟩
  · exact Or.inl ⟨v, vm₁, B, X₁.warmed, X', hpost, fun target h => hstep₁ _ fun acts => by rw [doInvoke_state]; exact hsteps.trans h⟩
  · exact Or.inr ⟨q, vm₁, B, X₁.warmed, X', hpost, hstep₁ _ fun acts => by rw [doInvoke_state]; exact hsteps⟩
end Calls
theorem vx_cls {s : State} {T : State} {vm₁ : Vm} {E : String} {k : ClassId} (hW : s.WarmedH vm₁) (h : (T.setVm vm₁).vm.findClass E = some k) : s.vm.findClass E = some k := by
  have h1 : vm₁.findClass E = some k := h
  rw [hW.alike.findClass] at h1
  exact h1
/-- the method's frame g, with q thrown over it -/
def vx_W (p : Program) (l : Launch) (e : Env) (R : Room) (s : State) (m : MethodId) (args : Array Value) (below : List Frame) (meth : Method) (c : Code) (H : Heap) (locs : List Loc) (cells slots : Nat) (Q : State → Prop) (g : JFrame) (q : Addr) : Prop :=
  ∀ T : State, T.heap = H → Stand p l e R s m args below meth c T locs cells slots → ∃ t, Steps p.tables e below ((T.setTop g).pushFrame (.throwing q)) t ∧ Q t
def vx_Run (p : Program) (l : Launch) (e : Env) (R : Room) (s : State) (m : MethodId) (args : Array Value) (below : List Frame) (meth : Method) (c : Code) (H : Heap) (locs : List Loc) (cells slots mc ms : Nat) (g : JFrame) (rest : List Value) (Qa : State → Outcome → State → Prop) (XC : String → State → State → Prop) (free : Addr → Prop) : Prop :=
  ∀ T : State, T.heap = H → Stand p l e R s m args below meth c T locs cells slots →
    (∃ (v : Option Value) (st₀ t T' : State) (L : List Loc), st₀.heap = H ∧ Stand p l e R s m args below meth c T' (locs ++ L) (cells + mc) (slots + ms) ∧ (∀ q ∈ L, free q.base) ∧ T'.heap = t.heap ∧ T'.vm = t.vm ∧ Qa st₀ (.returned v) t ∧
      Goes p e below T g T' { g with pc := g.pc + 3, stack := v.toList ++ rest }) ∨
    (∃ (q : Addr) (st₀ t T' : State) (L : List Loc) (E : String) (ce : Cell), st₀.heap = H ∧ Stand p l e R s m args below meth c T' (locs ++ L) (cells + mc) (slots + ms) ∧ (∀ z ∈ L, free z.base) ∧ T'.heap = t.heap ∧ T'.vm = t.vm ∧ XC E st₀ t ∧ t.heap[q]? = some ce ∧ ce.vm = .none ∧ s.vm.findClass E = some ce.cls ∧
      Steps p.tables e below (T.setTop g) ((T'.setTop { g with stack := rest }).pushFrame (.throwing q)))
def vx_X {S : Type} (px : S → Prop) (B : String → S → State → Prop) (A : Nat → Prop) : String → State → State → Prop := fun E st t => ∃ u : S, px u ∧ B E u t ∧ va_F A st t
section Runs
variable {p : Program} {l : Launch} {e : Env} {R : Room} {s : State} {m : MethodId} {args : Array Value} {below : List Frame} {meth : Method} {c : Code} {H : Heap} {locs : List Loc} {cells slots : Nat}
variable {y : MethodName} {bytes cc : ByteArray} {maxL nL mc ms n index : Nat} {ret : Option FieldType} {ws : List Cond} {rm : Room} {Pc : Array Value → State → Prop} {Qc : Array Value → State → Outcome → State → Prop} {XC : String → State → State → Prop} {free : Addr → Prop} {Ts : List Cond} {own C : String} {b : Addr} {As rest : List Value} {g : JFrame}
theorem vx_callBack (cb : CallB R s args own index y bytes maxL ret ws rm mc ms n) (hM : vx_Met l y ws rm Pc Qc XC mc ms free) (hbl : FrameBlind Pc) : vx_Back l R p e below s args y 3 8 (PreOf R mc ms Pc) (PostOf Qc mc ms free) (vx_Post XC mc ms free) := by
  obtain ⟨hrc, hrs, hfr, hlo, hws, hcw, -, hini, -⟩ := cb
  exact vx_back (bytes := bytes) (maxL := maxL) (ret := ret) hM hbl hrc hrs hfr hlo hws hcw (fun a' U hW => word_at hW (Or.inl (by first | rfl | simp [Cond.onTables, Cond.keeps, Cond.steady])) hini)
theorem vx_runV (S : CallFix p m c cc nL s args Ts own) (hM : vx_Met l y ws rm Pc Qc XC mc ms free) (cw : CallW R s args own C index y bytes maxL ret ws rm mc ms n) (hp : PreV s H C b Pc As)
    (hg : g.method = m) (hn : As.length = n) (hsize : g.locals.size = nL) (hstack : g.stack = As.reverse ++ .ref b :: rest) (hW : 2 * g.monitorRoom + (rest.map fun v => v.category).sum ≤ 8) (hdg : decode cc g.pc = .ok (.invokevirtual index, 3)) (hf : cells + mc ≤ R.cells ∧ slots + ms ≤ R.slots) :
    vx_Run p l e R s m args below meth c H locs cells slots mc ms g rest (Qc (Value.ref b :: As).toArray) XC free := by
  have hK : vx_Back l R p e below s args y 3 8 (PreOf R mc ms Pc) (PostOf Qc mc ms free) (vx_Post XC mc ms free) := vx_callBack cw.1 hM hp.1
  obtain ⟨⟨-, -, -, -, -, -, hcode, -, hy, hlen, hl⟩, hin, hse⟩ := cw
  obtain ⟨hx, hb, hml, ho, -⟩ := S
  obtain ⟨-, ⟨cellB, hcB, hoB, hclB⟩, hPc⟩ := hp
  intro T hT X
  rcases vx_callV X hx (C := C) (bytes := bytes) (maxL := maxL) (ret := ret) ho hl hin hse hcode hy hK (by rw [hT]; exact hcB) hoB hclB hg (hsize.trans hml.symm) (argsL := As) (rest := rest) (fun sig h => hn.trans (hlen sig h)) hstack hW (by rw [hb]; exact hdg)
    (fun vm₁ hW₁ => ⟨hf.1, hf.2, hPc (T.setVm vm₁) hT hW₁⟩) with ⟨v, vm₁, ⟨U', l2, c2, s2⟩, hW₁, X', ⟨g', mk, t, L, e1, e2, hq, h1, hL, h2, h3⟩, st⟩ | ⟨q, vm₁, ⟨U', l2, c2, s2⟩, hW₁, X', ⟨g', mk, t, L, E, ce, e1, e2, hq, hce, hcv, hcl, h1, hL, h2, h3⟩, st⟩
  · dsimp only [Pt.U, Pt.locs, Pt.cells, Pt.slots] at X' e1 e2 h1 h2 h3 st
    subst h1; subst h2; subst h3
    exact Or.inl ⟨v, (T.setVm vm₁).calling g' mk (Value.ref b :: As).toArray, t, U', L, hT, X', hL, e1, e2, hq, st⟩
  · dsimp only [Pt.U, Pt.locs, Pt.cells, Pt.slots] at X' e1 e2 h1 h2 h3 st hcl
    subst h1; subst h2; subst h3
    exact Or.inr ⟨q, (T.setVm vm₁).calling g' mk (Value.ref b :: As).toArray, t, U', L, E, ce, hT, X', hL, e1, e2, hq, hce, hcv, vx_cls hW₁ hcl, st⟩
theorem vx_runS (S : CallFix p m c cc nL s args Ts own) (hM : vx_Met l y ws rm Pc Qc XC mc ms free) (cw : CallB R s args own index y bytes maxL ret ws rm mc ms n ∧ (Cond.static y).before args s = true) (hp : PreS s H Pc As)
    (hg : g.method = m) (hn : As.length = n) (hsize : g.locals.size = nL) (hstack : g.stack = As.reverse ++ rest) (hW : 2 * g.monitorRoom + (rest.map fun v => v.category).sum ≤ 8) (hdg : decode cc g.pc = .ok (.invokestatic index, 3)) (hf : cells + mc ≤ R.cells ∧ slots + ms ≤ R.slots) :
    vx_Run p l e R s m args below meth c H locs cells slots mc ms g rest (Qc As.toArray) XC free := by
  have hK : vx_Back l R p e below s args y 3 8 (PreOf R mc ms Pc) (PostOf Qc mc ms free) (vx_Post XC mc ms free) := vx_callBack cw.1 hM hp.1
  obtain ⟨⟨-, -, -, -, -, -, hcode, hini, hy, hlen, hl⟩, hstt⟩ := cw
  obtain ⟨hx, hb, hml, ho, -⟩ := S
  intro T hT X
  rcases vx_callS X hx (bytes := bytes) (maxL := maxL) (ret := ret) ho hl hstt hini hcode hy hK hg (hsize.trans hml.symm) (argsL := As) (rest := rest) (fun sig h => hn.trans (hlen sig h)) hstack hW (by rw [hb]; exact hdg)
    (fun vm₁ hW₁ => ⟨hf.1, hf.2, hp.2 (T.setVm vm₁) hT hW₁⟩) with ⟨v, vm₁, ⟨U', l2, c2, s2⟩, hW₁, X', ⟨g', mk, t, L, e1, e2, hq, h1, hL, h2, h3⟩, st⟩ | ⟨q, vm₁, ⟨U', l2, c2, s2⟩, hW₁, X', ⟨g', mk, t, L, E, ce, e1, e2, hq, hce, hcv, hcl, h1, hL, h2, h3⟩, st⟩
  · dsimp only [Pt.U, Pt.locs, Pt.cells, Pt.slots] at X' e1 e2 h1 h2 h3 st
    subst h1; subst h2; subst h3
    exact Or.inl ⟨v, (T.setVm vm₁).calling g' mk As.toArray, t, U', L, hT, X', hL, e1, e2, hq, st⟩
  · dsimp only [Pt.U, Pt.locs, Pt.cells, Pt.slots] at X' e1 e2 h1 h2 h3 st hcl
    subst h1; subst h2; subst h3
    exact Or.inr ⟨q, (T.setVm vm₁).calling g' mk As.toArray, t, U', L, E, ce, hT, X', hL, e1, e2, hq, hce, hcv, vx_cls hW₁ hcl, st⟩
end Runs
section Rows
variable {p : Program} {l : Launch} {e : Env} {R : Room} {s : State} {m : MethodId} {args : Array Value} {below : List Frame} {meth : Method} {c : Code} {H : Heap} {locs : List Loc} {cells slots : Nat} {Q : State → Prop}
variable {mc ms : Nat} {free : Addr → Prop} {A0 A1 : Nat → Prop} {H0 : Heap} {a : Array Value} {pc : Nat} {ls : Array Slot} {st0 rest : List Value}
theorem vx_keep {st₀ t T' : State} {L : List Loc} (h0 : st₀.heap = H) (e1 : T'.heap = t.heap) (hS : va_S A0 H0 H locs) (hA : ∀ q, q < H.size → A1 q → A0 q) (hf : ∀ q, free q → A0 q) (hL : ∀ q ∈ L, free q.base) (hF : va_F A1 st₀ t) :
    H.size ≤ T'.heap.size ∧ (∀ q : Nat, q < H.size → ¬ A1 q → T'.heap[q]? = H[q]?) ∧ va_S A0 H0 T'.heap (locs ++ L) := by
  obtain ⟨hz, hk⟩ := hF
  rw [h0] at hz hk
  exact ⟨by rw [e1]; exact hz, fun q h1 h2 => by rw [e1]; exact hk q h1 h2,
    ⟨Nat.le_trans hS.1 (by rw [e1]; exact hz), fun q h1 h2 => by rw [e1, hk q (Nat.lt_of_lt_of_le h1 hS.1) (fun z => h2 (hA q (Nat.lt_of_lt_of_le h1 hS.1) z))]; exact hS.2.1 q h1 h2, fun q hq => by
      rcases List.mem_append.mp hq with h | h
      · exact hS.2.2 q h
      · exact hf _ (hL q h)⟩⟩
theorem vx_calli {S SX : Type} {post : Int32 → S → Prop} {px : SX → Prop} {B : S → State → Prop} {BX : String → SX → State → Prop} {AX : Nat → Prop} (hr : vx_Run p l e R s m args below meth c H locs cells slots mc ms (F0 m pc ls st0) rest (va_Qi post B A1 a) (vx_X px BX AX) free) (hS : va_S A0 H0 H locs) (hA : ∀ q, q < H.size → A1 q → A0 q) (hf : ∀ q, free q → A0 q) (hAX : ∀ q, q < H.size → AX q → A0 q)
    (kx : ∀ (E : String) (ce : Cell) (q9 : Addr) (u : SX) (t : State) (H1 : Heap) (locs1 : List Loc), t.heap = H1 → s.vm.Alike t.vm → px u → BX E u t → H.size ≤ H1.size → (∀ q : Nat, q < H.size → ¬ AX q → H1[q]? = H[q]?) → va_S A0 H0 H1 locs1 → H1[q9]? = some ce → ce.vm = .none → s.vm.findClass E = some ce.cls → vx_W p l e R s m args below meth c H1 locs1 (cells + mc) (slots + ms) Q (F0 m pc ls rest) q9)
    (kk : ∀ (r : Int32) (u : S) (t : State) (H1 : Heap) (locs1 : List Loc), t.heap = H1 → s.vm.Alike t.vm → post r u → B u t → H.size ≤ H1.size → (∀ q : Nat, q < H.size → ¬ A1 q → H1[q]? = H[q]?) → va_S A0 H0 H1 locs1 → W p l e R s m args below meth c H1 locs1 (cells + mc) (slots + ms) Q (F0 m (pc + 3) ls (.int r :: rest))) : W p l e R s m args below meth c H locs cells slots Q (F0 m pc ls st0) := by
  intro T hT X
  rcases hr T hT X with ⟨v, st₀, t, T', L, h0, X', hL, e1, e2, ⟨⟨r, u, hv, hp, hb⟩, hF⟩, st⟩ | ⟨q, st₀, t, T', L, E, ce, h0, X', hL, e1, e2, ⟨u, hp, hb, hF⟩, hce, hcv, hcl, st⟩
  · cases hv
    obtain ⟨k1, k2, k3⟩ := vx_keep h0 e1 hS hA hf hL hF
    obtain ⟨t2, a1, b1⟩ := kk r u t T'.heap (locs ++ L) e1.symm (by rw [← e2]; exact X'.warmed.alike) hp hb k1 k2 k3 T' rfl X'
    exact ⟨t2, st t2 a1, b1⟩
  · obtain ⟨k1, k2, k3⟩ := vx_keep h0 e1 hS hAX hf hL hF
    obtain ⟨t2, a1, b1⟩ := kx E ce q u t T'.heap (locs ++ L) e1.symm (by rw [← e2]; exact X'.warmed.alike) hp hb k1 k2 k3 (by rw [e1]; exact hce) hcv hcl T' rfl X'
    exact ⟨t2, st.trans a1, b1⟩
theorem vx_calll {S SX : Type} {post : Int64 → S → Prop} {px : SX → Prop} {B : S → State → Prop} {BX : String → SX → State → Prop} {AX : Nat → Prop} (hr : vx_Run p l e R s m args below meth c H locs cells slots mc ms (F0 m pc ls st0) rest (va_Ql post B A1 a) (vx_X px BX AX) free) (hS : va_S A0 H0 H locs) (hA : ∀ q, q < H.size → A1 q → A0 q) (hf : ∀ q, free q → A0 q) (hAX : ∀ q, q < H.size → AX q → A0 q)
    (kx : ∀ (E : String) (ce : Cell) (q9 : Addr) (u : SX) (t : State) (H1 : Heap) (locs1 : List Loc), t.heap = H1 → s.vm.Alike t.vm → px u → BX E u t → H.size ≤ H1.size → (∀ q : Nat, q < H.size → ¬ AX q → H1[q]? = H[q]?) → va_S A0 H0 H1 locs1 → H1[q9]? = some ce → ce.vm = .none → s.vm.findClass E = some ce.cls → vx_W p l e R s m args below meth c H1 locs1 (cells + mc) (slots + ms) Q (F0 m pc ls rest) q9)
    (kk : ∀ (r : Int64) (u : S) (t : State) (H1 : Heap) (locs1 : List Loc), t.heap = H1 → s.vm.Alike t.vm → post r u → B u t → H.size ≤ H1.size → (∀ q : Nat, q < H.size → ¬ A1 q → H1[q]? = H[q]?) → va_S A0 H0 H1 locs1 → W p l e R s m args below meth c H1 locs1 (cells + mc) (slots + ms) Q (F0 m (pc + 3) ls (.long r :: rest))) : W p l e R s m args below meth c H locs cells slots Q (F0 m pc ls st0) := by
  intro T hT X
  rcases hr T hT X with ⟨v, st₀, t, T', L, h0, X', hL, e1, e2, ⟨⟨r, u, hv, hp, hb⟩, hF⟩, st⟩ | ⟨q, st₀, t, T', L, E, ce, h0, X', hL, e1, e2, ⟨u, hp, hb, hF⟩, hce, hcv, hcl, st⟩
  · cases hv
    obtain ⟨k1, k2, k3⟩ := vx_keep h0 e1 hS hA hf hL hF
    obtain ⟨t2, a1, b1⟩ := kk r u t T'.heap (locs ++ L) e1.symm (by rw [← e2]; exact X'.warmed.alike) hp hb k1 k2 k3 T' rfl X'
    exact ⟨t2, st t2 a1, b1⟩
  · obtain ⟨k1, k2, k3⟩ := vx_keep h0 e1 hS hAX hf hL hF
    obtain ⟨t2, a1, b1⟩ := kx E ce q u t T'.heap (locs ++ L) e1.symm (by rw [← e2]; exact X'.warmed.alike) hp hb k1 k2 k3 (by rw [e1]; exact hce) hcv hcl T' rfl X'
    exact ⟨t2, st.trans a1, b1⟩
theorem vx_callf {S SX : Type} {post : UInt32 → S → Prop} {px : SX → Prop} {B : S → State → Prop} {BX : String → SX → State → Prop} {AX : Nat → Prop} (hr : vx_Run p l e R s m args below meth c H locs cells slots mc ms (F0 m pc ls st0) rest (va_Qf post B A1 a) (vx_X px BX AX) free) (hS : va_S A0 H0 H locs) (hA : ∀ q, q < H.size → A1 q → A0 q) (hf : ∀ q, free q → A0 q) (hAX : ∀ q, q < H.size → AX q → A0 q)
    (kx : ∀ (E : String) (ce : Cell) (q9 : Addr) (u : SX) (t : State) (H1 : Heap) (locs1 : List Loc), t.heap = H1 → s.vm.Alike t.vm → px u → BX E u t → H.size ≤ H1.size → (∀ q : Nat, q < H.size → ¬ AX q → H1[q]? = H[q]?) → va_S A0 H0 H1 locs1 → H1[q9]? = some ce → ce.vm = .none → s.vm.findClass E = some ce.cls → vx_W p l e R s m args below meth c H1 locs1 (cells + mc) (slots + ms) Q (F0 m pc ls rest) q9)
    (kk : ∀ (r : UInt32) (u : S) (t : State) (H1 : Heap) (locs1 : List Loc), t.heap = H1 → s.vm.Alike t.vm → post r u → B u t → H.size ≤ H1.size → (∀ q : Nat, q < H.size → ¬ A1 q → H1[q]? = H[q]?) → va_S A0 H0 H1 locs1 → W p l e R s m args below meth c H1 locs1 (cells + mc) (slots + ms) Q (F0 m (pc + 3) ls (.float r :: rest))) : W p l e R s m args below meth c H locs cells slots Q (F0 m pc ls st0) := by
  intro T hT X
  rcases hr T hT X with ⟨v, st₀, t, T', L, h0, X', hL, e1, e2, ⟨⟨r, u, hv, hp, hb⟩, hF⟩, st⟩ | ⟨q, st₀, t, T', L, E, ce, h0, X', hL, e1, e2, ⟨u, hp, hb, hF⟩, hce, hcv, hcl, st⟩
  · cases hv
    obtain ⟨k1, k2, k3⟩ := vx_keep h0 e1 hS hA hf hL hF
    obtain ⟨t2, a1, b1⟩ := kk r u t T'.heap (locs ++ L) e1.symm (by rw [← e2]; exact X'.warmed.alike) hp hb k1 k2 k3 T' rfl X'
    exact ⟨t2, st t2 a1, b1⟩
  · obtain ⟨k1, k2, k3⟩ := vx_keep h0 e1 hS hAX hf hL hF
    obtain ⟨t2, a1, b1⟩ := kx E ce q u t T'.heap (locs ++ L) e1.symm (by rw [← e2]; exact X'.warmed.alike) hp hb k1 k2 k3 (by rw [e1]; exact hce) hcv hcl T' rfl X'
    exact ⟨t2, st.trans a1, b1⟩
theorem vx_calld {S SX : Type} {post : UInt64 → S → Prop} {px : SX → Prop} {B : S → State → Prop} {BX : String → SX → State → Prop} {AX : Nat → Prop} (hr : vx_Run p l e R s m args below meth c H locs cells slots mc ms (F0 m pc ls st0) rest (va_Qd post B A1 a) (vx_X px BX AX) free) (hS : va_S A0 H0 H locs) (hA : ∀ q, q < H.size → A1 q → A0 q) (hf : ∀ q, free q → A0 q) (hAX : ∀ q, q < H.size → AX q → A0 q)
    (kx : ∀ (E : String) (ce : Cell) (q9 : Addr) (u : SX) (t : State) (H1 : Heap) (locs1 : List Loc), t.heap = H1 → s.vm.Alike t.vm → px u → BX E u t → H.size ≤ H1.size → (∀ q : Nat, q < H.size → ¬ AX q → H1[q]? = H[q]?) → va_S A0 H0 H1 locs1 → H1[q9]? = some ce → ce.vm = .none → s.vm.findClass E = some ce.cls → vx_W p l e R s m args below meth c H1 locs1 (cells + mc) (slots + ms) Q (F0 m pc ls rest) q9)
    (kk : ∀ (r : UInt64) (u : S) (t : State) (H1 : Heap) (locs1 : List Loc), t.heap = H1 → s.vm.Alike t.vm → post r u → B u t → H.size ≤ H1.size → (∀ q : Nat, q < H.size → ¬ A1 q → H1[q]? = H[q]?) → va_S A0 H0 H1 locs1 → W p l e R s m args below meth c H1 locs1 (cells + mc) (slots + ms) Q (F0 m (pc + 3) ls (.double r :: rest))) : W p l e R s m args below meth c H locs cells slots Q (F0 m pc ls st0) := by
  intro T hT X
  rcases hr T hT X with ⟨v, st₀, t, T', L, h0, X', hL, e1, e2, ⟨⟨r, u, hv, hp, hb⟩, hF⟩, st⟩ | ⟨q, st₀, t, T', L, E, ce, h0, X', hL, e1, e2, ⟨u, hp, hb, hF⟩, hce, hcv, hcl, st⟩
  · cases hv
    obtain ⟨k1, k2, k3⟩ := vx_keep h0 e1 hS hA hf hL hF
    obtain ⟨t2, a1, b1⟩ := kk r u t T'.heap (locs ++ L) e1.symm (by rw [← e2]; exact X'.warmed.alike) hp hb k1 k2 k3 T' rfl X'
    exact ⟨t2, st t2 a1, b1⟩
  · obtain ⟨k1, k2, k3⟩ := vx_keep h0 e1 hS hAX hf hL hF
    obtain ⟨t2, a1, b1⟩ := kx E ce q u t T'.heap (locs ++ L) e1.symm (by rw [← e2]; exact X'.warmed.alike) hp hb k1 k2 k3 (by rw [e1]; exact hce) hcv hcl T' rfl X'
    exact ⟨t2, st.trans a1, b1⟩
theorem vx_callv {S SX : Type} {post : S → Prop} {px : SX → Prop} {B : S → State → Prop} {BX : String → SX → State → Prop} {AX : Nat → Prop} (hr : vx_Run p l e R s m args below meth c H locs cells slots mc ms (F0 m pc ls st0) rest (va_Qv post B A1 a) (vx_X px BX AX) free) (hS : va_S A0 H0 H locs) (hA : ∀ q, q < H.size → A1 q → A0 q) (hf : ∀ q, free q → A0 q) (hAX : ∀ q, q < H.size → AX q → A0 q)
    (kx : ∀ (E : String) (ce : Cell) (q9 : Addr) (u : SX) (t : State) (H1 : Heap) (locs1 : List Loc), t.heap = H1 → s.vm.Alike t.vm → px u → BX E u t → H.size ≤ H1.size → (∀ q : Nat, q < H.size → ¬ AX q → H1[q]? = H[q]?) → va_S A0 H0 H1 locs1 → H1[q9]? = some ce → ce.vm = .none → s.vm.findClass E = some ce.cls → vx_W p l e R s m args below meth c H1 locs1 (cells + mc) (slots + ms) Q (F0 m pc ls rest) q9)
    (kk : ∀ (u : S) (t : State) (H1 : Heap) (locs1 : List Loc), t.heap = H1 → s.vm.Alike t.vm → post u → B u t → H.size ≤ H1.size → (∀ q : Nat, q < H.size → ¬ A1 q → H1[q]? = H[q]?) → va_S A0 H0 H1 locs1 → W p l e R s m args below meth c H1 locs1 (cells + mc) (slots + ms) Q (F0 m (pc + 3) ls (rest))) : W p l e R s m args below meth c H locs cells slots Q (F0 m pc ls st0) := by
  intro T hT X
  rcases hr T hT X with ⟨v, st₀, t, T', L, h0, X', hL, e1, e2, ⟨⟨u, hv, hp, hb⟩, hF⟩, st⟩ | ⟨q, st₀, t, T', L, E, ce, h0, X', hL, e1, e2, ⟨u, hp, hb, hF⟩, hce, hcv, hcl, st⟩
  · cases hv
    obtain ⟨k1, k2, k3⟩ := vx_keep h0 e1 hS hA hf hL hF
    obtain ⟨t2, a1, b1⟩ := kk u t T'.heap (locs ++ L) e1.symm (by rw [← e2]; exact X'.warmed.alike) hp hb k1 k2 k3 T' rfl X'
    exact ⟨t2, st t2 a1, b1⟩
  · obtain ⟨k1, k2, k3⟩ := vx_keep h0 e1 hS hAX hf hL hF
    obtain ⟨t2, a1, b1⟩ := kx E ce q u t T'.heap (locs ++ L) e1.symm (by rw [← e2]; exact X'.warmed.alike) hp hb k1 k2 k3 (by rw [e1]; exact hce) hcv hcl T' rfl X'
    exact ⟨t2, st.trans a1, b1⟩
/-- caught by the row x of this method's table; the rows ahead don't take it -/
theorem vx_catch {own name : String} {E : String} {ce : Cell} {q : Addr} (hown : s.vm.findClass own = some m.cls) (pre : List ExceptionTableEntry) (x : ExceptionTableEntry) (suf : List ExceptionTableEntry) (hsplit : c.exceptionTable.toList = pre ++ x :: suf)
    (hpass : ∀ z ∈ pre, covers z pc = false ∨ (z.catchType ≠ 0 ∧ ∃ nm : String, (Cond.classLink own z.catchType nm).before args s = true ∧ va_Nc E nm s)) (hx : covers x pc = true) (h0 : x.catchType ≠ 0)
    (hlink : (Cond.classLink own x.catchType name).before args s = true) (hcast : (Cond.castable E name).before args s = true) (hcell : H[q]? = some ce) (hv : ce.vm = .none) (hcl : s.vm.findClass E = some ce.cls)
    (kk : W p l e R s m args below meth c H locs cells slots Q (F0 m x.handlerPc ls [.ref q])) : vx_W p l e R s m args below meth c H locs cells slots Q (F0 m pc ls rest) q := by
  intro T hT X
  have hpl : e.platform.magicAccessors = ({} : Platform).magicAccessors := by rw [X.admits.platform]
  obtain ⟨c3, c4, hc3, hc4, hasg⟩ := Cond.castable_spec hcast
  cases Option.some.inj (hc3.symm.trans hcl)
  obtain ⟨c5, hc5, hcl5⟩ := Cond.classLink_spec hown hlink e.platform hpl
  cases Option.some.inj (hc4.symm.trans hc5)
  obtain ⟨vm', X', st⟩ := X.thenCaughtThrough q (g := F0 m pc ls rest) rfl (Steps.refl _) (by rw [hT]; exact hcell) (by rw [hv]; rfl) (by obtain ⟨k9, h9, -⟩ := Vm.findClass_spec hcl; exact ⟨k9, h9⟩) pre x suf hsplit
    (fun z hz => by
      rcases hpass z hz with h | ⟨hz0, nm, hl1, hn1⟩
      · exact Or.inl h
      · obtain ⟨c6, hc6, hcl6⟩ := Cond.classLink_spec hown hl1 e.platform hpl
        obtain ⟨a8, b8, h1, h2, h3⟩ := hn1
        cases Option.some.inj (h1.symm.trans hcl)
        cases Option.some.inj (h2.symm.trans hc6)
        exact Or.inr ⟨hz0, _, hcl6, h3⟩) hx (Or.inr ⟨h0, c4, hcl5, hasg⟩)
  obtain ⟨t, a1, b1⟩ := kk (T.setVm vm') hT X'
  exact ⟨t, st.trans a1, b1⟩
end Rows
section Ends
variable {p : Program} {l : Launch} {e : Env} {R : Room} {s : State} {m : MethodId} {args : Array Value} {below : List Frame} {meth : Method} {c : Code} {H : Heap} {locs : List Loc} {cells slots : Nat} {Q : State → Prop}
variable {mc ms : Nat} {free : Addr → Prop} {A0 A1 : Nat → Prop} {H0 : Heap} {a : Array Value} {ls : Array Slot} {st0 rest : List Value}
variable {Qc : Array Value → State → Outcome → State → Prop} {XC : String → State → State → Prop}
/-- what a body that may throw owes at its end -/
def vx_MQ (below : List Frame) (Qc : Array Value → State → Outcome → State → Prop) (XC : String → State → State → Prop) (a : Array Value) (s : State) (mc ms : Nat) (free : Addr → Prop) : State → Prop := fun t =>
  ∃ o, t.status = .running ∧ Ended t below o ∧ vx_Q Qc XC mc ms free a s o t
theorem vx_ret {g : JFrame} {mc ms : Nat} (k : W p l e R s m args below meth c H locs cells slots (MQ below Qc args s mc ms free) g) : W p l e R s m args below meth c H locs cells slots (vx_MQ below Qc XC args s mc ms free) g := by
  intro T hT X
  obtain ⟨t, a1, o, b1, b2, b3, b4⟩ := k T hT X
  exact ⟨t, a1, o, b1, b2, Or.inl ⟨b3, b4⟩⟩
/-- not caught here: it goes on to the caller -/
theorem vx_widen {g : JFrame} {q : Addr} {k n : Nat} (h1 : cells ≤ k) (h2 : slots ≤ n) (kk : vx_W p l e R s m args below meth c H locs k n Q g q) : vx_W p l e R s m args below meth c H locs cells slots Q g q := fun T hT X => kk T hT (stand_widen X h1 h2)
theorem vx_out {pc : Nat} {E : String} {ce : Cell} {q : Addr} {mc ms : Nat} (hout : ∀ x ∈ c.exceptionTable.toList, covers x pc = false) (hlocks : meth.locks = false) (hcell : H[q]? = some ce) (hv : ce.vm = .none) (hcl : s.vm.findClass E = some ce.cls)
    (hx : ∀ t : State, t.heap = H → s.vm.Alike t.vm → XC E s t) (hf : ∀ z ∈ locs, free z.base) (hc : cells ≤ mc) (hs : slots ≤ ms) :
    vx_W p l e R s m args below meth c H locs cells slots (vx_MQ below Qc XC args s mc ms free) (F0 m pc ls rest) q := by
  intro T hT X
  obtain ⟨st1, hrun, hend, hW, hsm⟩ := X.leaveThrown q (g := F0 m pc ls rest) rfl rfl rfl hout hlocks
  have hcell9 : (T.setFrames (.throwing q :: below)).heap[q]? = some ce := by
    show T.heap[q]? = some ce
    rw [hT]; exact hcell
  exact ⟨_, st1, .threw q, hrun, hend, Or.inr ⟨q, rfl, E, ce, locs, hx _ hT hW.alike, hcell9, hv, hcl, hW, hsm.mono hc hs, hf⟩⟩
theorem vx_frame {U : State} {k n : Nat} (h : s.sameButNew ({ U with vm := s.vm } : State) locs k n) : s.heap.size ≤ U.heap.size ∧ ∀ q : Nat, q < s.heap.size → (∀ z ∈ locs, z.base ≠ q) → U.heap[q]? = s.heap[q]? := by
  obtain ⟨-, h2, -, -, -, h6⟩ := h
  refine ⟨h2, fun q hq hz => ?_⟩
  obtain ⟨c9, e1, e2, e3, e4⟩ := h6 q _ (Array.getElem?_eq_getElem hq)
  have hs : c9.slots = (s.heap[q]).slots := Array.ext_getElem? fun i => e4 i fun hm => hz _ hm rfl
  have h9 : c9 = s.heap[q] := by
    rw [hs] at e2
    exact e2
  have e5 : U.heap[q]? = some c9 := e1
  rw [e5, h9, Array.getElem?_eq_getElem hq]
/-- the words of a throw but the four that speak of the heap -/
def vx_no (w : Cond) : Bool := decide (w ≠ .isRef (.static Bundle.tN "UNASSIGNED_STACK" Bundle.steD)) && decide (w ≠ .isRef (.static Bundle.tN "SUPPRESSED_SENTINEL" Bundle.listD)) && decide (w ≠ .laysStatic Bundle.tN "UNASSIGNED_STACK" Bundle.steD) && decide (w ≠ .laysStatic Bundle.tN "SUPPRESSED_SENTINEL" Bundle.listD)
def vx_at0 (own : String) (ic : Nat) (X : String) (names : List String) : List Cond := (Bundle.ownAtoms0 own ic X names).filter vx_no
def vx_atS (own : String) (ic : Nat) (X : String) (names : List String) : List Cond := (Bundle.ownAtoms own ic X names).filter vx_no
/-- a word that the tables alone decide, or a good one -/
def vx_ot (w : Cond) : Bool := w.onTables || goodWord w
theorem vx_ot_at {args a' : Array Value} {s U : State} {w : Cond} (hW : s.WarmedH U.vm) (hvm : s.vm = U.vm) (hg : vx_ot w = true) (h : w.before args s = true) : w.before a' U = true := by
  simp only [vx_ot, Bool.or_eq_true] at hg
  rcases hg with hg | hg
  · exact va_tabs hg hvm h
  · exact word_at hW (good_of_word hg) h
/-- a list's words: the good ones out of the method's own list, the others by premises of their own -/
theorem vx_hat {args : Array Value} {s : State} {L B : List Cond} (h1 : ∀ w ∈ L.filter goodWord, w.before args s = true) (h2 : ∀ w ∈ L.filter (fun w => !goodWord w), w ∈ B) (h3 : ∀ w ∈ B, w.before args s = true) : ∀ w ∈ L, w.before args s = true := by
  intro w hw
  by_cases g : goodWord w = true
  · exact h1 w (List.mem_filter.mpr ⟨hw, g⟩)
  · refine h3 w (h2 w (List.mem_filter.mpr ⟨hw, ?_⟩))
    show (!goodWord w) = true
    cases hgw : goodWord w
    · rfl
    · exact absurd hgw g
theorem vx_c {args : Array Value} {s : State} {w : Cond} {B : List Cond} (h : w.before args s = true) (t : ∀ w ∈ B, w.before args s = true) : ∀ w' ∈ w :: B, w'.before args s = true := fun w' h' => (List.mem_cons.mp h').elim (fun e => by rw [e]; exact h) (t w')
theorem vx_n {args : Array Value} {s : State} : ∀ w ∈ ([] : List Cond), w.before args s = true := fun _ h => nomatch h
theorem vx_own {args : Array Value} {s : State} {L : List Cond} (h1 : ∀ w ∈ L.filter vx_no, w.before args s = true)
    (hU : (Cond.isRef (.static Bundle.tN "UNASSIGNED_STACK" Bundle.steD)).before args s = true) (hN : (Cond.isRef (.static Bundle.tN "SUPPRESSED_SENTINEL" Bundle.listD)).before args s = true)
    (lU : (Cond.laysStatic Bundle.tN "UNASSIGNED_STACK" Bundle.steD).before args s = true) (lN : (Cond.laysStatic Bundle.tN "SUPPRESSED_SENTINEL" Bundle.listD).before args s = true) : ∀ w ∈ L, w.before args s = true := by
  intro w hw
  by_cases e1 : w = .isRef (.static Bundle.tN "UNASSIGNED_STACK" Bundle.steD)
  · rw [e1]; exact hU
  · by_cases e2 : w = .isRef (.static Bundle.tN "SUPPRESSED_SENTINEL" Bundle.listD)
    · rw [e2]; exact hN
    · by_cases e3 : w = .laysStatic Bundle.tN "UNASSIGNED_STACK" Bundle.steD
      · rw [e3]; exact lU
      · by_cases e4 : w = .laysStatic Bundle.tN "SUPPRESSED_SENTINEL" Bundle.listD
        · rw [e4]; exact lN
        · exact h1 w (List.mem_filter.mpr ⟨hw, by unfold vx_no; rw [decide_eq_true e1, decide_eq_true e2, decide_eq_true e3, decide_eq_true e4]; rfl⟩)
/-- where a static field lies, its class's statics cell in H -/
def vx_L (C n d : String) (A : Nat → Prop) (U : State) (H : Heap) : Prop := ∃ (c : ClassId) (k : Class) (i : Nat) (f : Field) (a : Nat) (cell : Cell), U.vm.findClass C = some c ∧ U.fieldFound? C n d = some (c, k, i, f) ∧ f.isStatic = true ∧ k.statics = some a ∧ H[a]? = some cell ∧ cell.vm.isStatics = true ∧ cell.cls = c ∧ f.slot < cell.slots.size ∧ k.staticTypes[f.slot]? = some f.type ∧ ¬ A a
theorem vx_L.moved {C n d : String} {A : Nat → Prop} {u U : State} {H : Heap} (hvm : u.vm.Alike U.vm) (h : vx_L C n d A u H) : vx_L C n d A U H := by
  obtain ⟨c, k, i, f, a, cell, h1, h2, h3, h4, h5, h6, h7, h8, h9, h10⟩ := h
  obtain ⟨k', hi', he⟩ := State.fieldFound?_setVm hvm h2
  exact ⟨c, k', i, f, a, cell, by rw [hvm.findClass]; exact h1, hi', h3, by rw [he]; exact h4, h5, h6, h7, h8, by rw [he]; exact h9, h10⟩
theorem vx_L.kept {C n d : String} {A : Nat → Prop} {U : State} {H H1 : Heap} (h : vx_L C n d A U H) (hq : ∀ a : Nat, a < H.size → ¬ A a → H1[a]? = H[a]?) : vx_L C n d A U H1 := by
  obtain ⟨c, k, i, f, a, cell, h1, h2, h3, h4, h5, h6, h7, h8, h9, h10⟩ := h
  exact ⟨c, k, i, f, a, cell, h1, h2, h3, h4, by rw [hq a (Array.getElem?_eq_some_iff.mp h5).1 h10]; exact h5, h6, h7, h8, h9, h10⟩
theorem vx_L.narrow {C n d : String} {A B : Nat → Prop} {U : State} {H : Heap} (h : vx_L C n d A U H) (hAB : ∀ q, B q → A q) : vx_L C n d B U H := by
  obtain ⟨c, k, i, f, a, cell, h1, h2, h3, h4, h5, h6, h7, h8, h9, h10⟩ := h
  exact ⟨c, k, i, f, a, cell, h1, h2, h3, h4, h5, h6, h7, h8, h9, fun z => h10 (hAB _ z)⟩
theorem vx_L.word {C n d : String} {A : Nat → Prop} {s : State} {args : Array Value} (h : vx_L C n d A s s.heap) : (Cond.laysStatic C n d).before args s = true := by
  obtain ⟨c, k, i, f, a, cell, h1, h2, h3, h4, h5, h6, h7, h8, h9, -⟩ := h
  show (Cond.laysStatic C n d).holds args s none s [] = true
  exact Cond.laysStatic_of h1 h2 h3 h4 h5 h6 h7 h8 h9
/-- .. and what it holds: null or some reference -/
def vx_Zq (C n d : String) (A : Nat → Prop) (U : State) (H : Heap) : Prop := va_Zq C n d A U H ∧ vx_L C n d A U H
theorem vx_Zq.moved {C n d : String} {A : Nat → Prop} {u U : State} {H : Heap} (hvm : u.vm.Alike U.vm) (h : vx_Zq C n d A u H) : vx_Zq C n d A U H := ⟨va_Zq.moved hvm h.1, vx_L.moved hvm h.2⟩
theorem vx_Zq.kept {C n d : String} {A : Nat → Prop} {U : State} {H H1 : Heap} (h : vx_Zq C n d A U H) (hq : ∀ a : Nat, a < H.size → ¬ A a → H1[a]? = H[a]?) : vx_Zq C n d A U H1 := ⟨va_Zq.kept h.1 hq, vx_L.kept h.2 hq⟩
theorem vx_Zq.narrow {C n d : String} {A B : Nat → Prop} {U : State} {H : Heap} (h : vx_Zq C n d A U H) (hAB : ∀ q, B q → A q) : vx_Zq C n d B U H := ⟨va_Zq.narrow h.1 hAB, vx_L.narrow h.2 hAB⟩
theorem vx_Zqof {args : Array Value} {s : State} {C n d : String} {A : Nat → Prop} (hl : (Cond.laysStatic C n d).before args s = true) (hini : (Cond.initialized C).before args s = true) (h : (Cond.isRef (.static C n d)).before args s = true) (hA : ∀ a : Nat, a < s.heap.size → ¬ A a) : vx_Zq C n d A s s.heap := by
  refine ⟨va_Zqof hl hini h hA, ?_⟩
  obtain ⟨c, k, i, f, a, cell, h1, h2, h3, h4, h5, h6, h7, h8, h9⟩ := Cond.laysStatic_spec hl
  exact ⟨c, k, i, f, a, cell, h1, h2, h3, h4, h5, h6, h7, h8, h9, hA a (Array.getElem?_eq_some_iff.mp h5).1⟩
theorem vx_isRef {C n d : String} {v : Value} {A : Nat → Prop} {s : State} {args : Array Value} (h : va_Z C n d v A s s.heap) (hv : v.isRef = true) : (Cond.isRef (.static C n d)).before args s = true := by
  obtain ⟨cf, kf, fi, f, a, cell, h1, h2, h3, h4, h5, h6, h7, -⟩ := h
  have he : (Term.static C n d).eval args s none [] s = some v := by
    simp [Term.eval, State.fieldNamed?, h1, h2, h4, h5, h6, h7]
  simp only [Cond.before, Cond.holds, Cond.value, he]
  cases v <;> simp_all [Value.isRef]
theorem vx_isRefq {C n d : String} {A : Nat → Prop} {s : State} {args : Array Value} (h : va_Zq C n d A s s.heap) : (Cond.isRef (.static C n d)).before args s = true := by
  rcases h with h | ⟨t, h⟩
  · exact vx_isRef h rfl
  · exact vx_isRef h rfl
/-- the same frame, seen from here: as if the method were called anew in this heap -/
theorem vx_rebase {T : State} (X : Stand p l e R s m args below meth c T locs cells slots) {R' : Room} (hf : R'.frames ≤ R.frames) (hl : R'.locals ≤ R.locals) (hc : cells + R'.cells ≤ R.cells) (hs : slots + R'.slots ≤ R.slots) :
    Stand p l e R' ((T.setVm s.vm).setFrames (.invoking m args :: below)) m args below meth c T [] 0 0 := by
  have htop : (T.setVm s.vm).topJava?.isSome := X.here.top
  have hF : ((T.setVm s.vm).setFrames (.invoking m args :: below)).frames = .invoking m args :: below := State.frames_setFrames _ (State.cur_lt_of_top htop)
  obtain ⟨g₀, hg0⟩ := Option.isSome_iff_exists.mp htop
  obtain ⟨r, hr⟩ := State.topJava?_eq_some.mp hg0
  have hl9 : e.platform.stackLimits (T.setVm s.vm).me = e.platform.stackLimits s.me := X.limits
  have hb9 : (T.setVm s.vm).me.stackBytes = s.me.stackBytes := X.bytes
  refine ⟨X.admits, X.cas, X.clock, hF, ?_, X.hears, X.method, X.code, X.here, X.tail, X.warmed, ?_, ?_, ?_⟩
  · have h := X.room
    have hU : ((T.setVm s.vm).setFrames (.invoking m args :: below)).localsInUse = s.localsInUse := by
      rw [State.localsInUse_invoking hF (meth := meth) (c := c) X.method X.code, State.localsInUse_invoking X.frames X.method X.code]
    simp only [State.hasRoom, Bool.and_eq_true, decide_eq_true_eq] at h ⊢
    obtain ⟨⟨⟨⟨h1, h2, h3, h4, h5, h6⟩, h7⟩, h8⟩, h9⟩ := h
    rw [X.frames, List.length_cons] at h2 h3
    have q1 := X.heapSize
    have q2 := X.used
    simp only [hF, hU, List.length_cons, State.stackLimits_setFrames, State.stackBytes_setFrames, hl9, hb9]
    refine ⟨⟨⟨⟨by omega, by omega, by omega, by omega, by omega, h6⟩, ?_⟩, ?_⟩, X.book⟩
    · show T.heap.size + R'.cells ≤ e.platform.maxCells
      omega
    · show T.slotsUsed + R'.slots ≤ e.platform.maxSlots
      omega
  · rw [State.stackLimits_setFrames]; rfl
  · rw [State.stackBytes_setFrames]; rfl
  · refine ⟨?_, Nat.le_refl _, Nat.le_refl _, ?_, ?_, fun a c9 h9 => ⟨c9, h9, rfl, rfl, fun _ _ => rfl⟩⟩
    · obtain ⟨t, ht, -⟩ := State.frames_cons hr
      show T.setVm s.vm = { ((T.setVm s.vm).setFrames (.invoking m args :: below)).setFrames (T.setVm s.vm).frames with heap := T.heap, slotsUsed := T.slotsUsed }
      rw [State.setFrames_setFrames, State.setFrames_self ht]
      rfl
    · show T.slotsUsed = T.slotsUsed + ((T.heap.toList.drop T.heap.size).map (·.slots.size)).sum
      rw [List.drop_eq_nil_of_le (Nat.le_of_eq Array.length_toList)]
      rfl
    · show ((T.heap.toList.drop T.heap.size).map (·.slots.size)).sum ≤ 0
      rw [List.drop_eq_nil_of_le (Nat.le_of_eq Array.length_toList)]
      exact Nat.le_refl _
/-- 'throw new E()': new; dup; invokespecial; athrow -/
theorem vx_throw0 {cc : ByteArray} {pc : Nat} (hexec : p.tables.exec = Jvm.exec) (hb : c.code = cc) (hl : l.stackTraces = false) {own cls : String} {names : List String} {ik ic mc ms : Nat} {A : Nat → Prop}
    (hown : s.vm.findClass own = some m.cls) (hcls : Bundle.fit cls = true) (hnames : ∀ n ∈ names, Bundle.fit n = true)
    (hk : (Cond.classLink own ik cls).before args s = true) (hini : (Cond.initialized cls).before args s = true) (hat : ∀ w ∈ vx_at0 own ic cls names, w.before args s = true)
    (hgood : ∀ w ∈ Cond.classLink own ik cls :: Cond.initialized cls :: vx_at0 own ic cls names, vx_ot w = true)
    (hU : vx_Zq Bundle.tN "UNASSIGNED_STACK" Bundle.steD A s s.heap) (hN : vx_Zq Bundle.tN "SUPPRESSED_SENTINEL" Bundle.listD A s s.heap) (hS : va_S A s.heap H locs) (hsize : ls.size = c.maxLocals)
    (d0 : decode cc pc = .ok (.new ik, 3)) (d3 : decode cc (pc + 3) = .ok (.dup, 1)) (d4 : decode cc (pc + 4) = .ok (.invokespecial ic, 3)) (d7 : decode cc (pc + 7) = .ok (.athrow, 1))
    (hout : ∀ x ∈ c.exceptionTable.toList, covers x (pc + 7) = false)
    (hRframes : names.length + 3 < R.frames) (hRlocals : (rest.map fun v => v.category).sum + (13 * (names.length + 1) + 42) ≤ R.locals) (hRcells : cells + 1 ≤ R.cells) (hRslots : slots + 6 ≤ R.slots) (hlocks : meth.locks = false)
    (hx : ∀ t : State, s.vm.Alike t.vm → H.size ≤ t.heap.size → (∀ q : Nat, q < H.size → t.heap[q]? = H[q]?) → XC cls s t)
    (hf : ∀ z ∈ locs, free z.base) (hc : cells + 1 ≤ mc) (hs : slots + 6 ≤ ms) :
    W p l e R s m args below meth c H locs cells slots (vx_MQ below Qc XC args s mc ms free) (F0 m pc ls rest) := by
  intro T hT X
  have htr : e.platform.stackTraces = false := (show e.platform.stackTraces = l.stackTraces by rw [X.admits.platform]).trans hl
  have Y := vx_rebase X (R' := { frames := R.frames, locals := R.locals, cells := 1, slots := 6 }) (Nat.le_refl _) (Nat.le_refl _) hRcells hRslots
  obtain ⟨s', hA⟩ : ∃ z, z = (T.setVm s.vm).setFrames (.invoking m args :: below) := ⟨_, rfl⟩
  rw [← hA] at Y
  have hvm : s'.vm = s.vm := by rw [hA]; rfl
  have hhp : s'.heap = H := by rw [hA]; exact hT
  have hW0 : s.WarmedH s'.vm := by rw [hvm]; exact State.WarmedH.refl s
  have hat' : ∀ w ∈ vx_at0 own ic cls names, w.before args s' = true := fun w hw => vx_ot_at hW0 hvm.symm (hgood w (List.mem_cons_of_mem _ (List.mem_cons_of_mem _ hw))) (hat w hw)
  have hk' : (Cond.classLink own ik cls).before args s' = true := vx_ot_at hW0 hvm.symm (hgood _ List.mem_cons_self) hk
  have hini' : (Cond.initialized cls).before args s' = true := vx_ot_at hW0 hvm.symm (hgood _ (List.mem_cons_of_mem _ List.mem_cons_self)) hini
  have hU' : vx_Zq Bundle.tN "UNASSIGNED_STACK" Bundle.steD A s' s'.heap := by rw [hhp]; exact vx_Zq.moved hW0.alike (hU.kept hS.2.1)
  have hN' : vx_Zq Bundle.tN "SUPPRESSED_SENTINEL" Bundle.listD A s' s'.heap := by rw [hhp]; exact vx_Zq.moved hW0.alike (hN.kept hS.2.1)
  have h : ∀ w ∈ Bundle.ownAtoms0 own ic cls names, w.before args s' = true := vx_own hat' (vx_isRefq hU'.1) (vx_isRefq hN'.1) hU'.2.word hN'.2.word
  have hown' : s'.vm.findClass own = some m.cls := by rw [hvm]; exact hown
  have hins : (Cond.instantiable cls 6).before args s' = true := h _ (by simp [Bundle.ownAtoms0])
  obtain ⟨vm₁, cX, kX, hfX, hkX, -, -, X₁, st1⟩ := Y.newCold hexec (own := own) (C := cls) (index := ik) (n := 6) hown' hk' hins hini'
    (g := F0 m pc ls rest) rfl (by rw [hb]; exact d0) (Nat.le_refl _) (Nat.le_refl _)
  generalize hT1 : (T.setVm vm₁).pushCell { cls := cX, slots := kX.instanceTypes.map defaultValue, vm := .none } = T1 at X₁ st1
  have hcat : (Value.ref T.heap.size).category = 1 := rfl
  have hcellA : T1.heap[T.heap.size]? = some (freshCell cX kX) := by rw [← hT1]; exact State.heap_pushCell_size _ _
  have d3' : decode c.code (pc + 3) = .ok (.dup, 1) := by rw [hb]; exact d3
  obtain ⟨U, hsteps, hrun, hend, hW, hsame, ce, hce, hO⟩ := X₁.ctorThrow0 hexec htr (own := own) (cls := cls) (names := names) (ic := ic) hown' hcls hnames h (fun x hx => nomatch hx) hfX hkX hcellA (by rw [hhp, hT]; exact Nat.le_refl _)
    (g := { method := m, pc := pc + 4, locals := ls, stack := .ref T.heap.size :: .ref T.heap.size :: rest, locked := none }) rfl hsize rfl rfl (rest := rest) rfl
    (by rw [hb]; exact d4) (by rw [hb]; exact d7) hout hRframes (by simp only [List.map_cons, List.sum_cons, hcat]; omega) hlocks
  obtain ⟨f1, f2⟩ := vx_frame hsame
  rw [hhp] at f1 f2
  have hWs : s.WarmedH U.vm := State.WarmedH.trans hW0 hW
  have hcl : s.vm.findClass cls = some ce.cls := by
    have h9 := hO.cls
    rw [hvm] at h9
    exact h9
  have hall : s.sameButNew ({ U with vm := s.vm } : State) locs mc ms := by
    subst hA
    obtain ⟨e1, e2⟩ := hsame
    rw [State.setFrames_setFrames] at e1
    have h2 : (T.setVm s.vm).sameButNew ({ U with vm := s.vm } : State) [] (0 + 1) (0 + 6) := ⟨e1, e2⟩
    have h3 := X.same.trans h2
    rw [List.append_nil] at h3
    exact h3.mono hc hs
  refine ⟨U, ?_, .threw T.heap.size, hrun, hend, Or.inr ⟨T.heap.size, rfl, cls, ce, locs, hx U hWs.alike f1 (fun q hq => f2 q hq (fun z hz => nomatch hz)), hce, hO.vm, hcl, hWs, hall, hf⟩⟩
  refine st1 _ ?_
  show Steps p.tables e below (T1.setTop { method := m, pc := pc + 3, locals := ls, stack := .ref T.heap.size :: rest, locked := none }) _
  jvm_step X₁.here [X₁.here.top, hexec, d3', Value.category]
  exact hsteps
/-- 'throw new E("text")': new; dup; ldc; invokespecial; athrow -/
theorem vx_throwS {cc : ByteArray} {pc : Nat} (hexec : p.tables.exec = Jvm.exec) (hb : c.code = cc) (hl : l.stackTraces = false) {own cls text : String} {names : List String} {ik is ic mc ms sa : Nat} {A : Nat → Prop}
    (hown : s.vm.findClass own = some m.cls) (hcls : Bundle.fit cls = true) (hnames : ∀ n ∈ names, Bundle.fit n = true)
    (hk : (Cond.classLink own ik cls).before args s = true) (hini : (Cond.initialized cls).before args s = true) (hstr : vk_R own is text sa s) (hat : ∀ w ∈ vx_atS own ic cls names, w.before args s = true)
    (hgood : ∀ w ∈ Cond.classLink own ik cls :: Cond.initialized cls :: vx_atS own ic cls names, vx_ot w = true)
    (hU : vx_Zq Bundle.tN "UNASSIGNED_STACK" Bundle.steD A s s.heap) (hN : vx_Zq Bundle.tN "SUPPRESSED_SENTINEL" Bundle.listD A s s.heap) (hS : va_S A s.heap H locs) (hsize : ls.size = c.maxLocals)
    (d0 : decode cc pc = .ok (.new ik, 3)) (d3 : decode cc (pc + 3) = .ok (.dup, 1)) (d4 : decode cc (pc + 4) = .ok (.ldc is, 2)) (d6 : decode cc (pc + 6) = .ok (.invokespecial ic, 3)) (d9 : decode cc (pc + 9) = .ok (.athrow, 1))
    (hout : ∀ x ∈ c.exceptionTable.toList, covers x (pc + 9) = false)
    (hRframes : names.length + 3 < R.frames) (hRlocals : (rest.map fun v => v.category).sum + (13 * (names.length + 1) + 43) ≤ R.locals) (hRcells : cells + 1 ≤ R.cells) (hRslots : slots + 6 ≤ R.slots) (hlocks : meth.locks = false)
    (hx : ∀ t : State, s.vm.Alike t.vm → H.size ≤ t.heap.size → (∀ q : Nat, q < H.size → t.heap[q]? = H[q]?) → XC cls s t)
    (hf : ∀ z ∈ locs, free z.base) (hc : cells + 1 ≤ mc) (hs : slots + 6 ≤ ms) :
    W p l e R s m args below meth c H locs cells slots (vx_MQ below Qc XC args s mc ms free) (F0 m pc ls rest) := by
  intro T hT X
  have htr : e.platform.stackTraces = false := (show e.platform.stackTraces = l.stackTraces by rw [X.admits.platform]).trans hl
  have Y := vx_rebase X (R' := { frames := R.frames, locals := R.locals, cells := 1, slots := 6 }) (Nat.le_refl _) (Nat.le_refl _) hRcells hRslots
  obtain ⟨s', hA⟩ : ∃ z, z = (T.setVm s.vm).setFrames (.invoking m args :: below) := ⟨_, rfl⟩
  rw [← hA] at Y
  have hvm : s'.vm = s.vm := by rw [hA]; rfl
  have hhp : s'.heap = H := by rw [hA]; exact hT
  have hW0 : s.WarmedH s'.vm := by rw [hvm]; exact State.WarmedH.refl s
  have hat' : ∀ w ∈ vx_atS own ic cls names, w.before args s' = true := fun w hw => vx_ot_at hW0 hvm.symm (hgood w (List.mem_cons_of_mem _ (List.mem_cons_of_mem _ hw))) (hat w hw)
  have hk' : (Cond.classLink own ik cls).before args s' = true := vx_ot_at hW0 hvm.symm (hgood _ List.mem_cons_self) hk
  have hini' : (Cond.initialized cls).before args s' = true := vx_ot_at hW0 hvm.symm (hgood _ (List.mem_cons_of_mem _ List.mem_cons_self)) hini
  have hU' : vx_Zq Bundle.tN "UNASSIGNED_STACK" Bundle.steD A s' s'.heap := by rw [hhp]; exact vx_Zq.moved hW0.alike (hU.kept hS.2.1)
  have hN' : vx_Zq Bundle.tN "SUPPRESSED_SENTINEL" Bundle.listD A s' s'.heap := by rw [hhp]; exact vx_Zq.moved hW0.alike (hN.kept hS.2.1)
  have h : ∀ w ∈ Bundle.ownAtoms own ic cls names, w.before args s' = true := vx_own hat' (vx_isRefq hU'.1) (vx_isRefq hN'.1) hU'.2.word hN'.2.word
  have hown' : s'.vm.findClass own = some m.cls := by rw [hvm]; exact hown
  have hins : (Cond.instantiable cls 6).before args s' = true := h _ (by simp [Bundle.ownAtoms])
  obtain ⟨vm₁, cX, kX, hfX, hkX, -, -, X₁, st1⟩ := Y.newCold hexec (own := own) (C := cls) (index := ik) (n := 6) hown' hk' hins hini'
    (g := F0 m pc ls rest) rfl (by rw [hb]; exact d0) (Nat.le_refl _) (Nat.le_refl _)
  generalize hT1 : (T.setVm vm₁).pushCell { cls := cX, slots := kX.instanceTypes.map defaultValue, vm := .none } = T1 at X₁ st1
  have hcat : (Value.ref T.heap.size).category = 1 := rfl
  have hcellA : T1.heap[T.heap.size]? = some (freshCell cX kX) := by rw [← hT1]; exact State.heap_pushCell_size _ _
  have d3' : decode c.code (pc + 3) = .ok (.dup, 1) := by rw [hb]; exact d3
  have d4' : decode c.code (pc + 4) = .ok (.ldc is, 2) := by rw [hb]; exact d4
  have hstr' : vk_R own is text sa s' := vk_R.warm hW0 hstr
  obtain ⟨U, hsteps, hrun, hend, hW, hsame, ce, hce, hO⟩ := X₁.ctorThrowS hexec htr (own := own) (cls := cls) (names := names) (ic := ic) hown' hcls hnames h (fun x hx => nomatch hx) hfX hkX hcellA (by rw [hhp, hT]; exact Nat.le_refl _) (msg := .ref sa) rfl
    (g := { method := m, pc := pc + 6, locals := ls, stack := .ref sa :: .ref T.heap.size :: .ref T.heap.size :: rest, locked := none }) rfl hsize rfl rfl (rest := rest) rfl
    (by rw [hb]; exact d6) (by rw [hb]; exact d9) hout hRframes (by simp only [List.map_cons, List.sum_cons, hcat]; omega) hlocks
  obtain ⟨f1, f2⟩ := vx_frame hsame
  rw [hhp] at f1 f2
  have hWs : s.WarmedH U.vm := State.WarmedH.trans hW0 hW
  have hcl : s.vm.findClass cls = some ce.cls := by
    have h9 := hO.cls
    rw [hvm] at h9
    exact h9
  have hall : s.sameButNew ({ U with vm := s.vm } : State) locs mc ms := by
    subst hA
    obtain ⟨e1, e2⟩ := hsame
    rw [State.setFrames_setFrames] at e1
    have h2 : (T.setVm s.vm).sameButNew ({ U with vm := s.vm } : State) [] (0 + 1) (0 + 6) := ⟨e1, e2⟩
    have h3 := X.same.trans h2
    rw [List.append_nil] at h3
    exact h3.mono hc hs
  refine ⟨U, ?_, .threw T.heap.size, hrun, hend, Or.inr ⟨T.heap.size, rfl, cls, ce, locs, hx U hWs.alike f1 (fun q hq => f2 q hq (fun z hz => nomatch hz)), hce, hO.vm, hcl, hWs, hall, hf⟩⟩
  refine st1 _ ?_
  show Steps p.tables e below (T1.setTop { method := m, pc := pc + 3, locals := ls, stack := .ref T.heap.size :: rest, locked := none }) _
  jvm_step X₁.here [X₁.here.top, hexec, d3', Value.category]
  exact X₁.ldcString hexec (own := own) (text := text) (index := is) (a := sa) hown' hstr'.1 hstr'.2
    (g := { method := m, pc := pc + 4, locals := ls, stack := .ref T.heap.size :: .ref T.heap.size :: rest, locked := none }) rfl d4' _ hsteps
/-- 'throw new E("text")', the text by a wide index -/
theorem vx_throwSW {cc : ByteArray} {pc : Nat} (hexec : p.tables.exec = Jvm.exec) (hb : c.code = cc) (hl : l.stackTraces = false) {own cls text : String} {names : List String} {ik is ic mc ms sa : Nat} {A : Nat → Prop}
    (hown : s.vm.findClass own = some m.cls) (hcls : Bundle.fit cls = true) (hnames : ∀ n ∈ names, Bundle.fit n = true)
    (hk : (Cond.classLink own ik cls).before args s = true) (hini : (Cond.initialized cls).before args s = true) (hstr : vk_R own is text sa s) (hat : ∀ w ∈ vx_atS own ic cls names, w.before args s = true)
    (hgood : ∀ w ∈ Cond.classLink own ik cls :: Cond.initialized cls :: vx_atS own ic cls names, vx_ot w = true)
    (hU : vx_Zq Bundle.tN "UNASSIGNED_STACK" Bundle.steD A s s.heap) (hN : vx_Zq Bundle.tN "SUPPRESSED_SENTINEL" Bundle.listD A s s.heap) (hS : va_S A s.heap H locs) (hsize : ls.size = c.maxLocals)
    (d0 : decode cc pc = .ok (.new ik, 3)) (d3 : decode cc (pc + 3) = .ok (.dup, 1)) (d4 : decode cc (pc + 4) = .ok (.ldc_w is, 3)) (d7 : decode cc (pc + 7) = .ok (.invokespecial ic, 3)) (d10 : decode cc (pc + 10) = .ok (.athrow, 1))
    (hout : ∀ x ∈ c.exceptionTable.toList, covers x (pc + 10) = false)
    (hRframes : names.length + 3 < R.frames) (hRlocals : (rest.map fun v => v.category).sum + (13 * (names.length + 1) + 43) ≤ R.locals) (hRcells : cells + 1 ≤ R.cells) (hRslots : slots + 6 ≤ R.slots) (hlocks : meth.locks = false)
    (hx : ∀ t : State, s.vm.Alike t.vm → H.size ≤ t.heap.size → (∀ q : Nat, q < H.size → t.heap[q]? = H[q]?) → XC cls s t)
    (hf : ∀ z ∈ locs, free z.base) (hc : cells + 1 ≤ mc) (hs : slots + 6 ≤ ms) :
    W p l e R s m args below meth c H locs cells slots (vx_MQ below Qc XC args s mc ms free) (F0 m pc ls rest) := by
  intro T hT X
  have htr : e.platform.stackTraces = false := (show e.platform.stackTraces = l.stackTraces by rw [X.admits.platform]).trans hl
  have Y := vx_rebase X (R' := { frames := R.frames, locals := R.locals, cells := 1, slots := 6 }) (Nat.le_refl _) (Nat.le_refl _) hRcells hRslots
  obtain ⟨s', hA⟩ : ∃ z, z = (T.setVm s.vm).setFrames (.invoking m args :: below) := ⟨_, rfl⟩
  rw [← hA] at Y
  have hvm : s'.vm = s.vm := by rw [hA]; rfl
  have hhp : s'.heap = H := by rw [hA]; exact hT
  have hW0 : s.WarmedH s'.vm := by rw [hvm]; exact State.WarmedH.refl s
  have hat' : ∀ w ∈ vx_atS own ic cls names, w.before args s' = true := fun w hw => vx_ot_at hW0 hvm.symm (hgood w (List.mem_cons_of_mem _ (List.mem_cons_of_mem _ hw))) (hat w hw)
  have hk' : (Cond.classLink own ik cls).before args s' = true := vx_ot_at hW0 hvm.symm (hgood _ List.mem_cons_self) hk
  have hini' : (Cond.initialized cls).before args s' = true := vx_ot_at hW0 hvm.symm (hgood _ (List.mem_cons_of_mem _ List.mem_cons_self)) hini
  have hU' : vx_Zq Bundle.tN "UNASSIGNED_STACK" Bundle.steD A s' s'.heap := by rw [hhp]; exact vx_Zq.moved hW0.alike (hU.kept hS.2.1)
  have hN' : vx_Zq Bundle.tN "SUPPRESSED_SENTINEL" Bundle.listD A s' s'.heap := by rw [hhp]; exact vx_Zq.moved hW0.alike (hN.kept hS.2.1)
  have h : ∀ w ∈ Bundle.ownAtoms own ic cls names, w.before args s' = true := vx_own hat' (vx_isRefq hU'.1) (vx_isRefq hN'.1) hU'.2.word hN'.2.word
  have hown' : s'.vm.findClass own = some m.cls := by rw [hvm]; exact hown
  have hins : (Cond.instantiable cls 6).before args s' = true := h _ (by simp [Bundle.ownAtoms])
  obtain ⟨vm₁, cX, kX, hfX, hkX, -, -, X₁, st1⟩ := Y.newCold hexec (own := own) (C := cls) (index := ik) (n := 6) hown' hk' hins hini'
    (g := F0 m pc ls rest) rfl (by rw [hb]; exact d0) (Nat.le_refl _) (Nat.le_refl _)
  generalize hT1 : (T.setVm vm₁).pushCell { cls := cX, slots := kX.instanceTypes.map defaultValue, vm := .none } = T1 at X₁ st1
  have hcat : (Value.ref T.heap.size).category = 1 := rfl
  have hcellA : T1.heap[T.heap.size]? = some (freshCell cX kX) := by rw [← hT1]; exact State.heap_pushCell_size _ _
  have d3' : decode c.code (pc + 3) = .ok (.dup, 1) := by rw [hb]; exact d3
  have d4' : decode c.code (pc + 4) = .ok (.ldc_w is, 3) := by rw [hb]; exact d4
  have hstr' : vk_R own is text sa s' := vk_R.warm hW0 hstr
  obtain ⟨U, hsteps, hrun, hend, hW, hsame, ce, hce, hO⟩ := X₁.ctorThrowS hexec htr (own := own) (cls := cls) (names := names) (ic := ic) hown' hcls hnames h (fun x hx => nomatch hx) hfX hkX hcellA (by rw [hhp, hT]; exact Nat.le_refl _) (msg := .ref sa) rfl
    (g := { method := m, pc := pc + 7, locals := ls, stack := .ref sa :: .ref T.heap.size :: .ref T.heap.size :: rest, locked := none }) rfl hsize rfl rfl (rest := rest) rfl
    (by rw [hb]; exact d7) (by rw [hb]; exact d10) hout hRframes (by simp only [List.map_cons, List.sum_cons, hcat]; omega) hlocks
  obtain ⟨f1, f2⟩ := vx_frame hsame
  rw [hhp] at f1 f2
  have hWs : s.WarmedH U.vm := State.WarmedH.trans hW0 hW
  have hcl : s.vm.findClass cls = some ce.cls := by
    have h9 := hO.cls
    rw [hvm] at h9
    exact h9
  have hall : s.sameButNew ({ U with vm := s.vm } : State) locs mc ms := by
    subst hA
    obtain ⟨e1, e2⟩ := hsame
    rw [State.setFrames_setFrames] at e1
    have h2 : (T.setVm s.vm).sameButNew ({ U with vm := s.vm } : State) [] (0 + 1) (0 + 6) := ⟨e1, e2⟩
    have h3 := X.same.trans h2
    rw [List.append_nil] at h3
    exact h3.mono hc hs
  refine ⟨U, ?_, .threw T.heap.size, hrun, hend, Or.inr ⟨T.heap.size, rfl, cls, ce, locs, hx U hWs.alike f1 (fun q hq => f2 q hq (fun z hz => nomatch hz)), hce, hO.vm, hcl, hWs, hall, hf⟩⟩
  refine st1 _ ?_
  show Steps p.tables e below (T1.setTop { method := m, pc := pc + 3, locals := ls, stack := .ref T.heap.size :: rest, locked := none }) _
  jvm_step X₁.here [X₁.here.top, hexec, d3', Value.category]
  exact X₁.ldcStringW hexec (own := own) (text := text) (index := is) (a := sa) hown' hstr'.1 hstr'.2
    (g := { method := m, pc := pc + 4, locals := ls, stack := .ref T.heap.size :: .ref T.heap.size :: rest, locked := none }) rfl d4' _ hsteps
end Ends
section Bodies
variable {l : Launch}
theorem vx_ofW {y : MethodName} {ws ws' : List Cond} {rm : Room} {Pc : Array Value → State → Prop} {Qc : Array Value → State → Outcome → State → Prop} {XC : String → State → State → Prop} {mc ms : Nat} {free : Addr → Prop} {cc : ByteArray} {maxL : Nat} {ret : Option FieldType}
    (hy : plainName y.cls = true) (hw : ws = Cond.code y cc maxL ret :: ws')
    (body : ∀ p e s m args below meth c s₁, BodyLoose p l y (headSpec ws rm) cc maxL ret e s m args below meth c s₁ → c.maxLocals = maxL → (∀ x ∈ c.exceptionTable.toList, False) → Pc args s →
      W p l e (headSpec ws rm).room s m args below meth c s.heap [] 0 0 (vx_MQ below Qc XC args s mc ms free) (entryFrame m args maxL)) : vx_Met l y ws rm Pc Qc XC mc ms free := by
  refine MetFree.of_bodyS (code := cc) (maxLocals := maxL) (ret := ret) hy ?_ ?_
  · intro args s m h hn
    obtain ⟨meth, c, h1, h2, h3, h4, h5, h6, -, -⟩ := Cond.code_spec hn (atoms_spec (ws := ws) h _ (by rw [hw]; exact List.mem_cons_self))
    exact ⟨meth, c, h1, h2, h3, h4, h5, h6⟩
  · intro p e s m args below meth c s₁ B hml hP _
    have hh0 : s₁.heap = s.heap := by rw [B.state]; rfl
    have ht : ∀ x ∈ c.exceptionTable.toList, False := by
      obtain ⟨meth9, c9, h1, h2, -, -, -, -, h7, -⟩ := Cond.code_spec B.named (atoms_spec (ws := ws) B.pre _ (by rw [hw]; exact List.mem_cons_self))
      cases Option.some.inj (h1.symm.trans B.method)
      cases Option.some.inj (h2.symm.trans (Stand.of_body B).code)
      intro x hx
      rw [Array.isEmpty_iff.mp h7] at hx
      cases hx
    obtain ⟨t, a1, o, b1, b2, b3⟩ := body p e s m args below meth c s₁ B hml ht hP s₁ hh0 (Stand.of_body B)
    exact ⟨t, o, a1, b1, b2, b3⟩
/-- the table of a body with handlers -/
theorem vx_table {p : Program} {x y : MethodName} {S : Spec} {cc bytes : ByteArray} {maxL maxL' : Nat} {ret ret' : Option FieldType} {e : Env} {s s₁ : State} {m : MethodId} {args : Array Value} {below : List Frame} {meth : Method} {c : Code} {hh : List (Nat × Nat × Nat × Nat)}
    (B : BodyLoose p l y S cc maxL ret e s m args below meth c s₁) (h : (Cond.codeWith y bytes maxL' ret' hh).before args s = true) : c.exceptionTable.toList = tableOf hh := by
  obtain ⟨m9, meth9, c9, hn9, h1, h2, -, -, h6, -⟩ := Cond.codeWith_spec h
  cases Option.some.inj (hn9.symm.trans B.named)
  cases Option.some.inj (h1.symm.trans B.method)
  cases Option.some.inj (h2.symm.trans (Stand.of_body B).code)
  rw [← h6, table_eq]
end Bodies
end VXA
/-! ===== END ===== -/
/-! ===== BEGIN a static call of a method with an exception table ===== -/
section VXS
variable {p : Program} {l : Launch} {e : Env} {R : Room} {s : State} {m : MethodId} {args : Array Value} {below : List Frame} {meth : Method} {c : Code} {T : State} {H : Heap} {locs : List Loc} {cells slots : Nat}
abbrev vx_CSW (R : Room) (s : State) (args : Array Value) (own : String) (index : Nat) (y : MethodName) (bytes : ByteArray) (maxL : Nat) (ret : Option FieldType) (hh : List (Nat × Nat × Nat × Nat)) (ws : List Cond) (rm : Room) (mc ms n : Nat) : Prop :=
  (rm.cells = mc ∧ rm.slots = ms ∧ rm.frames + 1 ≤ R.frames ∧ 8 + (maxL + 11) + rm.locals ≤ R.locals ∧ (∀ w ∈ ws, ∀ (a' : Array Value) (U : State), s.WarmedH U.vm → w.before a' U = true) ∧ Cond.codeWith y bytes maxL ret hh ∈ ws) ∧
  (Cond.codeWith y bytes maxL ret hh).before args s = true ∧ (Cond.initialized y.cls).before args s = true ∧ (y.cls ≠ "java/lang/invoke/MethodHandle" ∧ y.cls ≠ "java/lang/invoke/VarHandle") ∧
  (∀ sig, parseMethodDescriptor y.desc = some sig → n = sig.parameters.length) ∧ (Cond.methodLink own index y).before args s = true ∧ (Cond.static y).before args s = true
theorem vx_cwSW {own : String} {index maxL mc ms : Nat} {y : MethodName} {bytes : ByteArray} {ret : Option FieldType} {hh : List (Nat × Nat × Nat × Nat)} {Ts ws ws' : List Cond} {rm : Room} (n : Nat) (ht : ∀ w ∈ Ts, w.before args s = true) (hT : GoodIn Ts (va_wsS own index y ws)) (hw : ws = Cond.codeWith y bytes maxL ret hh :: ws') (hrc : rm.cells = mc) (hrs : rm.slots = ms)
    (hd : y.cls ≠ "java/lang/invoke/MethodHandle" ∧ y.cls ≠ "java/lang/invoke/VarHandle" ∧ (parseMethodDescriptor y.desc).map (fun d => d.parameters.length) = some n) (hR : rm.frames + 1 ≤ R.frames ∧ 8 + (maxL + 11) + rm.locals ≤ R.locals) :
    vx_CSW R s args own index y bytes maxL ret hh ws rm mc ms n := by
  have ok : ∀ w ∈ va_wsS own index y ws, w.before args s = true := fun w h => ht w (hT w h).1
  have hG : GoodIn Ts ws := fun w h => hT w (by unfold va_wsS; exact List.mem_append_right _ h)
  have hc : Cond.codeWith y bytes maxL ret hh ∈ ws := by rw [hw]; exact List.mem_cons_self
  refine ⟨⟨hrc, hrs, hR.1, hR.2, pay_in ht hG, hc⟩, ht _ (hG _ hc).1, ok _ (by simp [va_wsS]), ⟨hd.1, hd.2.1⟩, fun sig h => ?_, ok _ (by simp [va_wsS]), ok _ (by simp [va_wsS])⟩
  have h2 := hd.2.2
  rw [h] at h2
  exact (Option.some.inj h2).symm
theorem vx_callSW (X : Stand p l e R s m args below meth c T locs cells slots) (hexec : p.tables.exec = Jvm.exec) {own : String} {index : Nat} {y : MethodName} {bytes : ByteArray} {maxL : Nat} {ret : Option FieldType} {hh : List (Nat × Nat × Nat × Nat)}
    (hown : s.vm.findClass own = some m.cls) (hlink : (Cond.methodLink own index y).before args s = true) (hstat : (Cond.static y).before args s = true) (hinit : (Cond.initialized y.cls).before args s = true)
    (hcode : (Cond.codeWith y bytes maxL ret hh).before args s = true) (hy : y.cls ≠ "java/lang/invoke/MethodHandle" ∧ y.cls ≠ "java/lang/invoke/VarHandle")
    {W9 : Nat} {Pre : Pt → Array Value → Prop} {Post : Pt → Array Value → Option Value → Pt → Prop} (hK : Back l R p e below s args y 3 W9 Pre Post)
    {g : JFrame} (hg : g.method = m) (hsize : g.locals.size = c.maxLocals) {argsL rest : List Value} (hlen : ∀ sig, parseMethodDescriptor y.desc = some sig → argsL.length = sig.parameters.length)
    (hstack : g.stack = argsL.reverse ++ rest) (hW : 2 * g.monitorRoom + (rest.map fun v => v.category).sum ≤ W9) (hdg : decode c.code g.pc = .ok (.invokestatic index, 3))
    (hpre : ∀ vm₁, s.WarmedH vm₁ → Pre ⟨T.setVm vm₁, locs, cells, slots⟩ argsL.toArray) :
    ∃ (v : Option Value) (vm₁ : Vm) (B : Pt), s.WarmedH vm₁ ∧ Stand p l e R s m args below meth c B.U B.locs B.cells B.slots ∧ Post ⟨T.setVm vm₁, locs, cells, slots⟩ argsL.toArray v B ∧
      ∀ target, Steps p.tables e below (B.U.setTop { g with pc := g.pc + 3, stack := v.toList ++ rest }) target → Steps p.tables e below (T.setTop g) target := by
  obtain ⟨mk, methM, cM, hnamed, hmethM, -, -, -, -, -, -, hsigM⟩ := Cond.codeWith_spec hcode
  have hstatic : methM.isStatic = true := Cond.static_spec hnamed hmethM hstat
  obtain ⟨kP, hkP, -⟩ := className_of_methodNamed hnamed
  have hinitP : kP.init = .initialized := Cond.initialized_spec (findClass_of_methodNamed hnamed) hkP hinit
  obtain ⟨vm₁, X₁, hstep₁⟩ := X.invokestatic hexec hown hlink hnamed hmethM hstatic hkP hinitP hy (g := g) hg (argsL := argsL) (rest := rest) (hlen _ hsigM) hstack hdg
  obtain ⟨v, B, X', hpost, hsteps⟩ := hK m meth c ⟨T.setVm vm₁, locs, cells, slots⟩ { g with stack := rest } (.invokestatic index) mk argsL.toArray X₁ hg hsize hdg hW (X₁.named hnamed) (hpre vm₁ X₁.warmed)
  exact ⟨v, vm₁, B, X₁.warmed, X', hpost, fun target h => hstep₁ _ fun acts => by rw [doInvoke_state]; exact hsteps.trans h⟩
theorem vx_runSW {y : MethodName} {bytes cc : ByteArray} {maxL nL mc ms n index : Nat} {ret : Option FieldType} {hh : List (Nat × Nat × Nat × Nat)} {ws : List Cond} {rm : Room} {Pc : Array Value → State → Prop} {Qc : Array Value → State → Outcome → State → Prop} {free : Addr → Prop} {Ts : List Cond} {own : String} {As rest : List Value} {g : JFrame}
    (S : CallFix p m c cc nL s args Ts own) (hM : Met l y ws rm Pc Qc mc ms free) (cw : vx_CSW R s args own index y bytes maxL ret hh ws rm mc ms n) (hp : PreS s H Pc As)
    (hg : g.method = m) (hn : As.length = n) (hsize : g.locals.size = nL) (hstack : g.stack = As.reverse ++ rest) (hW : 2 * g.monitorRoom + (rest.map fun v => v.category).sum ≤ 8) (hdg : decode cc g.pc = .ok (.invokestatic index, 3)) (hf : cells + mc ≤ R.cells ∧ slots + ms ≤ R.slots) :
    va_Run p l e R s m args below meth c H locs cells slots mc ms g rest (Qc As.toArray) (free) := by
  obtain ⟨⟨hrc, hrs, hfr, hlo, hws, hcw⟩, hcode, hini, hy, hlen, hl, hstt⟩ := cw
  have hK : Back l R p e below s args y 3 8 (PreOf R mc ms Pc) (PostOf Qc mc ms free) := va_backW (hh := hh) (bytes := bytes) (maxL := maxL) (ret := ret) hM hp.1 hrc hrs hfr hlo hws hcw (fun a' U hW => word_at hW (Or.inl (by first | rfl | simp [Cond.onTables, Cond.keeps, Cond.steady])) hini)
  obtain ⟨hx, hb, hml, ho, -⟩ := S
  intro T hT X
  obtain ⟨v, vm₁, ⟨U', l2, c2, s2⟩, hW₁, X', ⟨g', mk, t, L, e1, e2, hq, h1, hL, h2, h3⟩, st⟩ := vx_callSW X hx (hh := hh) (bytes := bytes) (maxL := maxL) (ret := ret) ho hl hstt hini hcode hy hK hg (hsize.trans hml.symm) (argsL := As) (rest := rest) (fun sig h => hn.trans (hlen sig h)) hstack hW (by rw [hb]; exact hdg)
    (fun vm₁ hW₁ => ⟨hf.1, hf.2, hp.2 (T.setVm vm₁) hT hW₁⟩)
  dsimp only [Pt.U, Pt.locs, Pt.cells, Pt.slots] at X' e1 e2 h1 h2 h3 st
  subst h1; subst h2; subst h3
  exact ⟨v, (T.setVm vm₁).calling g' mk As.toArray, t, U', L, hT, X', hL, e1, e2, hq, st⟩
/-- not caught here, past rows that name other classes: it goes on to the caller -/
theorem vx_outP {p : Program} {l : Launch} {e : Env} {R : Room} {s : State} {m : MethodId} {args : Array Value} {below : List Frame} {meth : Method} {c : Code} {H : Heap} {locs : List Loc} {cells slots : Nat} {free : Addr → Prop} {ls : Array Slot} {rest : List Value} {Qc : Array Value → State → Outcome → State → Prop} {XC : String → State → State → Prop}
    {pc : Nat} {own E : String} {ce : Cell} {q : Addr} {mc ms : Nat} (hown : s.vm.findClass own = some m.cls) (hlocks : meth.locks = false)
    (hpass : ∀ z ∈ c.exceptionTable.toList, covers z pc = false ∨ (z.catchType ≠ 0 ∧ ∃ nm : String, (Cond.classLink own z.catchType nm).before args s = true ∧ va_Nc E nm s)) (hcell : H[q]? = some ce) (hv : ce.vm = .none) (hcl : s.vm.findClass E = some ce.cls)
    (hx : ∀ t : State, t.heap = H → s.vm.Alike t.vm → XC E s t) (hf : ∀ z ∈ locs, free z.base) (hc : cells ≤ mc) (hs : slots ≤ ms) :
    vx_W p l e R s m args below meth c H locs cells slots (vx_MQ below Qc XC args s mc ms free) (F0 m pc ls rest) q := by
  intro T hT X
  have hpl : e.platform.magicAccessors = ({} : Platform).magicAccessors := by rw [X.admits.platform]
  obtain ⟨vm', hW', X', st⟩ := X.outThrough hlocks q (g := F0 m pc ls rest) rfl rfl rfl (cell := ce) (by rw [hT]; exact hcell) (by rw [hv]; rfl)
    (by obtain ⟨k9, h9, -⟩ := Vm.findClass_spec hcl; exact ⟨k9, h9⟩) (fun z hz => by
      rcases hpass z hz with h | ⟨hz0, nm, hl1, hn1⟩
      · exact Or.inl h
      · obtain ⟨c6, hc6, hcl6⟩ := Cond.classLink_spec hown hl1 e.platform hpl
        obtain ⟨a8, b8, h1, h2, h3⟩ := hn1
        cases Option.some.inj (h1.symm.trans hcl)
        cases Option.some.inj (h2.symm.trans hc6)
        exact Or.inr ⟨hz0, _, hcl6, h3⟩)
  obtain ⟨g₀, hfr⟩ := X'.frames_eq
  have hcell9 : ((T.setVm vm').setFrames (.throwing q :: below)).heap[q]? = some ce := by
    show T.heap[q]? = some ce
    rw [hT]; exact hcell
  have hend : Ended ((T.setVm vm').setFrames (.throwing q :: below)) below (.threw q) := State.frames_setFrames _ (State.cur_lt_of_frames hfr)
  refine ⟨(T.setVm vm').setFrames (.throwing q :: below), ?_, .threw q, X'.here.running, hend, Or.inr ⟨q, rfl, E, ce, locs, hx _ hT (X'.ends _).1.alike, hcell9, hv, hcl, (X'.ends _).1, (X'.ends _).2.mono hc hs, hf⟩⟩
  rw [X.pushThrowing_eq]
  exact st
/-- a thing of a world lies in the heap -/
theorem vx_lt {D : va_G} {cl : List vw_C} {ws : va_W} {H1 : Heap} (h : va_P D cl ws H1) {k : Nat} {q : Nat × va_E} (hk : ws[k]? = some q) : q.1 < H1.size := (h k q hk).lt
end VXS
/-! ===== END ===== -/
/-! ===== BEGIN methods with a table of their own: called by a name, returning or throwing ===== -/
section VXH
/-! vx_backW, vx_callVX, vx_callSX, vx_callVW, vx_runVW, vx_runVX, vx_runSX, vx_ofWH follow the same proofs as their sisters above (Free/Laws.lean, Shelf42/LK1.lean); vx_outP calls Shelf42/NT130.lean (outThrough). -/
section
variable {l : Launch} {R : Room} {p : Program} {e : Env} {below : List Frame} {s : State} {sargs : Array Value} {y : MethodName} {len W9 : Nat}
theorem vx_backW {ws : List Cond} {rm : Room} {Pc : Array Value → State → Prop} {Qc : Array Value → State → Outcome → State → Prop} {XC : String → State → State → Prop} {mc ms : Nat} {free : Addr → Prop} {bytes : ByteArray} {maxL : Nat} {ret : Option FieldType} {hh : List (Nat × Nat × Nat × Nat)}
    (hM : vx_Met l y ws rm Pc Qc XC mc ms free) (hblind : FrameBlind Pc) (hrc : rm.cells = mc) (hrs : rm.slots = ms)
    (hframes : rm.frames + 1 ≤ R.frames) (hlocals : W9 + (maxL + 11) + rm.locals ≤ R.locals)
    (hws : ∀ w ∈ ws, ∀ a' U, s.WarmedH U.vm → w.before a' U = true) (hcode : Cond.codeWith y bytes maxL ret hh ∈ ws) (hinit : ∀ a' U, s.WarmedH U.vm → (Cond.initialized y.cls).before a' U = true) :
    vx_Back l R p e below s sargs y len W9 (PreOf R mc ms Pc) (PostOf Qc mc ms free) (vx_Post XC mc ms free) := by
  intro m meth c A g ig mk a X hg hsize hdg hW hn hp
  have h1 : (headSpec ws rm).pre.before a A.U = true := atoms_intro fun w hw => hws w hw _ _ X.warmed
  have h2 : (Cond.codeWith y bytes maxL ret hh).before a A.U = true := hws _ hcode _ _ X.warmed
  have h3 : (Cond.initialized y.cls).before a A.U = true := hinit _ _ X.warmed
  have h4 : A.cells + (headSpec ws rm).room.cells ≤ R.cells := by rw [show (headSpec ws rm).room.cells = mc from hrc]; exact hp.1
  have h5 : A.slots + (headSpec ws rm).room.slots ≤ R.slots := by rw [show (headSpec ws rm).room.slots = ms from hrs]; exact hp.2.1
  have hPc : Pc a (A.U.calling g mk a) := hblind _ _ _ _ hp.2.2
  obtain ⟨U, Ls, c0, s0⟩ := A
  dsimp only [Pt.U, Pt.locs, Pt.cells, Pt.slots] at h1 h2 h3 h4 h5 X hn hPc ⊢
  obtain ⟨m9, methY, cY, hn9, hmY, hcY, -, hlY, -⟩ := Cond.codeWith_spec h2
  cases Option.some.inj (hn9.symm.trans hn)
  obtain ⟨kY, hkY, -⟩ := className_of_methodNamed hn
  have hinitY : kY.init = .initialized := Cond.initialized_spec (findClass_of_methodNamed hn) hkY h3
  have h : At U g.method c below := by rw [hg]; exact X.here
  have hlocals9 : W9 + (maxL + 11) + (headSpec ws rm).room.locals ≤ R.locals := hlocals
  have happ : (headSpec ws rm).appliesLoose y e.platform (U.calling g mk a) = true :=
    Spec.appliesLoose_calling (g := g) h hdg hn hkY hinitY
      (X.room_calling (g := g) (R' := (headSpec ws rm).room) hsize hmY hcY hframes (by rw [hlY]; omega) h4 h5) h1
  obtain ⟨mid, hmid⟩ := h.above
  have hfr : (U.setTop g).frames = (.java g :: mid) ++ below := by rw [State.frames_setTop' g h.top, hmid]; rfl
  obtain ⟨o, s₂, hsteps, -, hend, hq⟩ := Steps.callFree hM p X.admits X.cas X.clock (acts := []) hfr happ hPc trivial
  have hq' : vx_Q Qc XC mc ms free a (U.calling g mk a) o s₂ := hq
  rw [State.frames_setTop' g h.top] at hend
  obtain ⟨g₀, hg0⟩ := Option.isSome_iff_exists.mp h.top
  obtain ⟨r, hr⟩ := State.topJava?_eq_some.mp hg0
  have hr' : (({ U with heap := s₂.heap, slotsUsed := s₂.slotsUsed } : State).setVm s₂.vm).frames = .java g₀ :: r := hr
  rcases hq' with ⟨hqc, L, hfe, hL⟩ | ⟨q, rfl, E, ce, L, hx, hce, hcv, hcl, hW₂, hsm, hL⟩
  · obtain ⟨⟨v, rfl⟩, hW₂, e2, q2, q3, q4, q5, q6⟩ := id hfe
    have e3 : s₂ = ({ (U.calling g mk a).setFrames s₂.frames with heap := s₂.heap, slotsUsed := s₂.slotsUsed } : State).setVm s₂.vm := by
      have : s₂ = ({ s₂ with vm := (U.calling g mk a).vm } : State).setVm s₂.vm := rfl
      rw [e2] at this
      exact this
    obtain ⟨c₂, i₂, len₂, hc₂, hd₂, hf₂⟩ := hend
    have hW' : U.WarmedH s₂.vm := hW₂
    have hcc : c₂ = c := by
      have h1 : s₂.code? g.method = U.code? g.method := by
        rw [State.code?_eq, State.code?_eq, hW'.alike.method?]
      exact Option.some.inj (hc₂.symm.trans (h1.trans h.code))
    subst hcc
    have hlen : len₂ = len := by rw [hdg] at hd₂; cases hd₂; rfl
    subst hlen
    have hs₂ : s₂ = (({ U with heap := s₂.heap, slotsUsed := s₂.slotsUsed } : State).setVm s₂.vm).setTop { g with pc := g.pc + len₂, stack := v.toList ++ g.stack } := by
      refine e3.trans ?_
      rw [hf₂, State.calling_eq h.top, State.setFrames_setFrames, State.setTop_of_frames _ hr', hr]
      rfl
    have hsame : U.sameButNew ({ U with heap := s₂.heap, slotsUsed := s₂.slotsUsed } : State) L mc ms := by
      refine ⟨?_, q2, q3, q4, q5, q6⟩
      obtain ⟨t, ht, -⟩ := State.frames_cons hr
      show ({ U with heap := s₂.heap, slotsUsed := s₂.slotsUsed } : State) = { U.setFrames U.frames with heap := s₂.heap, slotsUsed := s₂.slotsUsed }
      rw [State.setFrames_self ht]
    subst hg
    refine Or.inl ⟨v, ⟨(({ U with heap := s₂.heap, slotsUsed := s₂.slotsUsed } : State).setVm s₂.vm), Ls ++ L, c0 + mc, s0 + ms⟩,
      ⟨X.admits, X.cas, X.clock, X.frames, X.room, X.hears, X.method, X.code, (X.here.setHeapUsed s₂.heap s₂.slotsUsed).setVm hW'.alike, X.tail, State.WarmedH.trans X.warmed hW', X.limits, X.bytes, X.same.trans (hsame.setVm s.vm)⟩,
      ⟨g, mk, s₂, L, rfl, rfl, hqc, rfl, hL, rfl, rfl⟩, ?_⟩
    show Steps p.tables e below _ ((({ U with heap := s₂.heap, slotsUsed := s₂.slotsUsed } : State).setVm s₂.vm).setTop { g with pc := g.pc + len₂, stack := v.toList ++ g.stack })
    rw [← hs₂]
    exact hsteps
  · obtain ⟨e2, q2, q3, q4, q5, q6⟩ := id hsm
    have e3 : s₂ = ({ (U.calling g mk a).setFrames s₂.frames with heap := s₂.heap, slotsUsed := s₂.slotsUsed } : State).setVm s₂.vm := by
      have : s₂ = ({ s₂ with vm := (U.calling g mk a).vm } : State).setVm s₂.vm := rfl
      rw [e2] at this
      exact this
    have hf₂ : s₂.frames = .throwing q :: .java g :: U.frames.tail := hend
    have hW' : U.WarmedH s₂.vm := hW₂
    have hs₂ : s₂ = ((({ U with heap := s₂.heap, slotsUsed := s₂.slotsUsed } : State).setVm s₂.vm).setTop g).pushFrame (.throwing q) := by
      refine e3.trans ?_
      rw [hf₂, State.calling_eq h.top, State.setFrames_setFrames, State.pushFrame, State.frames_setTop _ hr', State.setTop_of_frames _ hr', State.setFrames_setFrames, hr]
      rfl
    have hsame : U.sameButNew ({ U with heap := s₂.heap, slotsUsed := s₂.slotsUsed } : State) L mc ms := by
      refine ⟨?_, q2, q3, q4, q5, q6⟩
      obtain ⟨t, ht, -⟩ := State.frames_cons hr
      show ({ U with heap := s₂.heap, slotsUsed := s₂.slotsUsed } : State) = { U.setFrames U.frames with heap := s₂.heap, slotsUsed := s₂.slotsUsed }
      rw [State.setFrames_self ht]
    subst hg
    refine Or.inr ⟨q, ⟨(({ U with heap := s₂.heap, slotsUsed := s₂.slotsUsed } : State).setVm s₂.vm), Ls ++ L, c0 + mc, s0 + ms⟩,
      ⟨X.admits, X.cas, X.clock, X.frames, X.room, X.hears, X.method, X.code, (X.here.setHeapUsed s₂.heap s₂.slotsUsed).setVm hW'.alike, X.tail, State.WarmedH.trans X.warmed hW', X.limits, X.bytes, X.same.trans (hsame.setVm s.vm)⟩,
      ⟨g, mk, s₂, L, E, ce, rfl, rfl, hx, hce, hcv, hcl, rfl, hL, rfl, rfl⟩, ?_⟩
    show Steps p.tables e below _ (((({ U with heap := s₂.heap, slotsUsed := s₂.slotsUsed } : State).setVm s₂.vm).setTop g).pushFrame (.throwing q))
    rw [← hs₂]
    exact hsteps
end
variable {p : Program} {l : Launch} {e : Env} {R : Room} {s : State} {m : MethodId} {args : Array Value} {below : List Frame} {meth : Method} {c : Code} {T : State} {H : Heap} {locs : List Loc} {cells slots : Nat}
theorem vx_callVX (X : Stand p l e R s m args below meth c T locs cells slots) (hexec : p.tables.exec = Jvm.exec) {own C : String} {index : Nat} {y : MethodName} {bytes : ByteArray} {maxL : Nat} {ret : Option FieldType} {hh : List (Nat × Nat × Nat × Nat)}
    (hown : s.vm.findClass own = some m.cls) (hlink : (Cond.methodLink own index y).before args s = true) (hinst : (Cond.instanceMethod y).before args s = true) (hsel : (Cond.selects C y y).before args s = true)
    (hcode : (Cond.codeWith y bytes maxL ret hh).before args s = true) (hy : y.cls ≠ "java/lang/invoke/MethodHandle" ∧ y.cls ≠ "java/lang/invoke/VarHandle")
    {W9 : Nat} {Pre : Pt → Array Value → Prop} {Post : Pt → Array Value → Option Value → Pt → Prop} {PostX : Pt → Array Value → Addr → Pt → Prop} (hK : vx_Back l R p e below s args y 3 W9 Pre Post PostX)
    {b : Addr} {cellB : Cell} (hcell : T.heap[b]? = some cellB) (hobj : cellB.vm.isStatics = false) (hcls : s.vm.findClass C = some cellB.cls)
    {g : JFrame} (hg : g.method = m) (hsize : g.locals.size = c.maxLocals) {argsL rest : List Value} (hlen : ∀ sig, parseMethodDescriptor y.desc = some sig → argsL.length = sig.parameters.length)
    (hstack : g.stack = argsL.reverse ++ .ref b :: rest) (hW : 2 * g.monitorRoom + (rest.map fun v => v.category).sum ≤ W9) (hdg : decode c.code g.pc = .ok (.invokevirtual index, 3))
    (hpre : ∀ vm₁, s.WarmedH vm₁ → Pre ⟨T.setVm vm₁, locs, cells, slots⟩ (Value.ref b :: argsL).toArray) :
    (∃ (v : Option Value) (vm₁ : Vm) (B : Pt), s.WarmedH vm₁ ∧ Stand p l e R s m args below meth c B.U B.locs B.cells B.slots ∧ Post ⟨T.setVm vm₁, locs, cells, slots⟩ (Value.ref b :: argsL).toArray v B ∧
      ∀ target, Steps p.tables e below (B.U.setTop { g with pc := g.pc + 3, stack := v.toList ++ rest }) target → Steps p.tables e below (T.setTop g) target) ∨
    (∃ (q : Addr) (vm₁ : Vm) (B : Pt), s.WarmedH vm₁ ∧ Stand p l e R s m args below meth c B.U B.locs B.cells B.slots ∧ PostX ⟨T.setVm vm₁, locs, cells, slots⟩ (Value.ref b :: argsL).toArray q B ∧
      Steps p.tables e below (T.setTop g) ((B.U.setTop { g with stack := rest }).pushFrame (.throwing q))) := by
  obtain ⟨mk, methM, hnamed, hmethM, hstM, habM⟩ := Cond.instanceMethod_spec hinst
  obtain ⟨m8, methM', cM, hn8, hmethM', -, -, -, -, -, -, hsigM⟩ := Cond.codeWith_spec hcode
  cases Option.some.inj (hn8.symm.trans hnamed)
  cases hmethM.symm.trans hmethM'
  obtain ⟨c2, r2, m2, q1, q2, q3, q4, kP, hkP, hkPi⟩ := Cond.selects_spec hsel
  cases hcls.symm.trans q1
  cases (State.methodFound?_of_named hnamed hy).symm.trans q2
  cases hnamed.symm.trans q3
  have hselP : selectMethod e.platform s.vm cellB.cls mk = .method mk := by rw [Launch.admits_selectMethod X.admits]; exact q4
  obtain ⟨vm₁, X₁, hstep₁⟩ := X.invokevirtual hexec hown hlink hnamed hmethM hstM hkP hkPi hy (a := b) (cell := cellB) hcell
    (fun z h => by rw [h] at hobj; cases hobj) hselP hmethM habM hkP hkPi (g := g) hg (argsL := argsL) (rest := rest) (hlen _ hsigM) hstack hdg
  rcases hK m meth c ⟨T.setVm vm₁, locs, cells, slots⟩ { g with stack := rest } (.invokevirtual index) mk (Value.ref b :: argsL).toArray X₁ hg hsize hdg hW (X₁.named hnamed) (hpre vm₁ X₁.warmed) with ⟨v, B, X', hpost, hsteps⟩ | ⟨q, B, X', hpost, hsteps⟩
  · exact Or.inl ⟨v, vm₁, B, X₁.warmed, X', hpost, fun target h => hstep₁ _ fun acts => by rw [doInvoke_state]; exact hsteps.trans h⟩
  · exact Or.inr ⟨q, vm₁, B, X₁.warmed, X', hpost, hstep₁ _ fun acts => by rw [doInvoke_state]; exact hsteps⟩
theorem vx_callSX (X : Stand p l e R s m args below meth c T locs cells slots) (hexec : p.tables.exec = Jvm.exec) {own : String} {index : Nat} {y : MethodName} {bytes : ByteArray} {maxL : Nat} {ret : Option FieldType} {hh : List (Nat × Nat × Nat × Nat)}
    (hown : s.vm.findClass own = some m.cls) (hlink : (Cond.methodLink own index y).before args s = true) (hstat : (Cond.static y).before args s = true) (hinit : (Cond.initialized y.cls).before args s = true)
    (hcode : (Cond.codeWith y bytes maxL ret hh).before args s = true) (hy : y.cls ≠ "java/lang/invoke/MethodHandle" ∧ y.cls ≠ "java/lang/invoke/VarHandle")
    {W9 : Nat} {Pre : Pt → Array Value → Prop} {Post : Pt → Array Value → Option Value → Pt → Prop} {PostX : Pt → Array Value → Addr → Pt → Prop} (hK : vx_Back l R p e below s args y 3 W9 Pre Post PostX)
    {g : JFrame} (hg : g.method = m) (hsize : g.locals.size = c.maxLocals) {argsL rest : List Value} (hlen : ∀ sig, parseMethodDescriptor y.desc = some sig → argsL.length = sig.parameters.length)
    (hstack : g.stack = argsL.reverse ++ rest) (hW : 2 * g.monitorRoom + (rest.map fun v => v.category).sum ≤ W9) (hdg : decode c.code g.pc = .ok (.invokestatic index, 3))
    (hpre : ∀ vm₁, s.WarmedH vm₁ → Pre ⟨T.setVm vm₁, locs, cells, slots⟩ argsL.toArray) :
    (∃ (v : Option Value) (vm₁ : Vm) (B : Pt), s.WarmedH vm₁ ∧ Stand p l e R s m args below meth c B.U B.locs B.cells B.slots ∧ Post ⟨T.setVm vm₁, locs, cells, slots⟩ argsL.toArray v B ∧
      ∀ target, Steps p.tables e below (B.U.setTop { g with pc := g.pc + 3, stack := v.toList ++ rest }) target → Steps p.tables e below (T.setTop g) target) ∨
    (∃ (q : Addr) (vm₁ : Vm) (B : Pt), s.WarmedH vm₁ ∧ Stand p l e R s m args below meth c B.U B.locs B.cells B.slots ∧ PostX ⟨T.setVm vm₁, locs, cells, slots⟩ argsL.toArray q B ∧
      Steps p.tables e below (T.setTop g) ((B.U.setTop { g with stack := rest }).pushFrame (.throwing q))) := by
  obtain ⟨mk, methM, cM, hnamed, hmethM, -, -, -, -, -, -, hsigM⟩ := Cond.codeWith_spec hcode
  have hstatic : methM.isStatic = true := Cond.static_spec hnamed hmethM hstat
  obtain ⟨kP, hkP, -⟩ := className_of_methodNamed hnamed
  have hinitP : kP.init = .initialized := Cond.initialized_spec (findClass_of_methodNamed hnamed) hkP hinit
  obtain ⟨vm₁, X₁, hstep₁⟩ := X.invokestatic hexec hown hlink hnamed hmethM hstatic hkP hinitP hy (g := g) hg (argsL := argsL) (rest := rest) (hlen _ hsigM) hstack hdg
  rcases hK m meth c ⟨T.setVm vm₁, locs, cells, slots⟩ { g with stack := rest } (.invokestatic index) mk argsL.toArray X₁ hg hsize hdg hW (X₁.named hnamed) (hpre vm₁ X₁.warmed) with ⟨v, B, X', hpost, hsteps⟩ | ⟨q, B, X', hpost, hsteps⟩
  · exact Or.inl ⟨v, vm₁, B, X₁.warmed, X', hpost, fun target h => hstep₁ _ fun acts => by rw [doInvoke_state]; exact hsteps.trans h⟩
  · exact Or.inr ⟨q, vm₁, B, X₁.warmed, X', hpost, hstep₁ _ fun acts => by rw [doInvoke_state]; exact hsteps⟩
theorem vx_callVW (X : Stand p l e R s m args below meth c T locs cells slots) (hexec : p.tables.exec = Jvm.exec) {own C : String} {index : Nat} {y : MethodName} {bytes : ByteArray} {maxL : Nat} {ret : Option FieldType} {hh : List (Nat × Nat × Nat × Nat)}
    (hown : s.vm.findClass own = some m.cls) (hlink : (Cond.methodLink own index y).before args s = true) (hinst : (Cond.instanceMethod y).before args s = true) (hsel : (Cond.selects C y y).before args s = true)
    (hcode : (Cond.codeWith y bytes maxL ret hh).before args s = true) (hy : y.cls ≠ "java/lang/invoke/MethodHandle" ∧ y.cls ≠ "java/lang/invoke/VarHandle")
    {W9 : Nat} {Pre : Pt → Array Value → Prop} {Post : Pt → Array Value → Option Value → Pt → Prop} (hK : Back l R p e below s args y 3 W9 Pre Post)
    {b : Addr} {cellB : Cell} (hcell : T.heap[b]? = some cellB) (hobj : cellB.vm.isStatics = false) (hcls : s.vm.findClass C = some cellB.cls)
    {g : JFrame} (hg : g.method = m) (hsize : g.locals.size = c.maxLocals) {argsL rest : List Value} (hlen : ∀ sig, parseMethodDescriptor y.desc = some sig → argsL.length = sig.parameters.length)
    (hstack : g.stack = argsL.reverse ++ .ref b :: rest) (hW : 2 * g.monitorRoom + (rest.map fun v => v.category).sum ≤ W9) (hdg : decode c.code g.pc = .ok (.invokevirtual index, 3))
    (hpre : ∀ vm₁, s.WarmedH vm₁ → Pre ⟨T.setVm vm₁, locs, cells, slots⟩ (Value.ref b :: argsL).toArray) :
    ∃ (v : Option Value) (vm₁ : Vm) (B : Pt), s.WarmedH vm₁ ∧ Stand p l e R s m args below meth c B.U B.locs B.cells B.slots ∧ Post ⟨T.setVm vm₁, locs, cells, slots⟩ (Value.ref b :: argsL).toArray v B ∧
      ∀ target, Steps p.tables e below (B.U.setTop { g with pc := g.pc + 3, stack := v.toList ++ rest }) target → Steps p.tables e below (T.setTop g) target := by
  obtain ⟨mk, methM, hnamed, hmethM, hstM, habM⟩ := Cond.instanceMethod_spec hinst
  obtain ⟨m8, methM', cM, hn8, hmethM', -, -, -, -, -, -, hsigM⟩ := Cond.codeWith_spec hcode
  cases Option.some.inj (hn8.symm.trans hnamed)
  cases hmethM.symm.trans hmethM'
  obtain ⟨c2, r2, m2, q1, q2, q3, q4, kP, hkP, hkPi⟩ := Cond.selects_spec hsel
  cases hcls.symm.trans q1
  cases (State.methodFound?_of_named hnamed hy).symm.trans q2
  cases hnamed.symm.trans q3
  have hselP : selectMethod e.platform s.vm cellB.cls mk = .method mk := by rw [Launch.admits_selectMethod X.admits]; exact q4
  obtain ⟨vm₁, X₁, hstep₁⟩ := X.invokevirtual hexec hown hlink hnamed hmethM hstM hkP hkPi hy (a := b) (cell := cellB) hcell
    (fun z h => by rw [h] at hobj; cases hobj) hselP hmethM habM hkP hkPi (g := g) hg (argsL := argsL) (rest := rest) (hlen _ hsigM) hstack hdg
  obtain ⟨v, B, X', hpost, hsteps⟩ := hK m meth c ⟨T.setVm vm₁, locs, cells, slots⟩ { g with stack := rest } (.invokevirtual index) mk (Value.ref b :: argsL).toArray X₁ hg hsize hdg hW (X₁.named hnamed) (hpre vm₁ X₁.warmed)
  exact ⟨v, vm₁, B, X₁.warmed, X', hpost, fun target h => hstep₁ _ fun acts => by rw [doInvoke_state]; exact hsteps.trans h⟩
abbrev vx_CVW (R : Room) (s : State) (args : Array Value) (own C : String) (index : Nat) (y : MethodName) (bytes : ByteArray) (maxL : Nat) (ret : Option FieldType) (hh : List (Nat × Nat × Nat × Nat)) (ws : List Cond) (rm : Room) (mc ms n : Nat) : Prop :=
  (rm.cells = mc ∧ rm.slots = ms ∧ rm.frames + 1 ≤ R.frames ∧ 8 + (maxL + 11) + rm.locals ≤ R.locals ∧ (∀ w ∈ ws, ∀ (a' : Array Value) (U : State), s.WarmedH U.vm → w.before a' U = true) ∧ Cond.codeWith y bytes maxL ret hh ∈ ws) ∧
  (Cond.codeWith y bytes maxL ret hh).before args s = true ∧ (Cond.initialized y.cls).before args s = true ∧ (y.cls ≠ "java/lang/invoke/MethodHandle" ∧ y.cls ≠ "java/lang/invoke/VarHandle") ∧
  (∀ sig, parseMethodDescriptor y.desc = some sig → n = sig.parameters.length) ∧ (Cond.methodLink own index y).before args s = true ∧ (Cond.instanceMethod y).before args s = true ∧ (Cond.selects C y y).before args s = true
theorem vx_cwVW {own C : String} {index maxL mc ms : Nat} {y : MethodName} {bytes : ByteArray} {ret : Option FieldType} {hh : List (Nat × Nat × Nat × Nat)} {Ts ws ws' : List Cond} {rm : Room} (n : Nat) (ht : ∀ w ∈ Ts, w.before args s = true) (hT : GoodIn Ts (wsV own index C y ws)) (hw : ws = Cond.codeWith y bytes maxL ret hh :: ws') (hrc : rm.cells = mc) (hrs : rm.slots = ms)
    (hd : y.cls = C ∧ y.cls ≠ "java/lang/invoke/MethodHandle" ∧ y.cls ≠ "java/lang/invoke/VarHandle" ∧ (parseMethodDescriptor y.desc).map (fun d => d.parameters.length) = some n) (hR : rm.frames + 1 ≤ R.frames ∧ 8 + (maxL + 11) + rm.locals ≤ R.locals) :
    vx_CVW R s args own C index y bytes maxL ret hh ws rm mc ms n := by
  obtain ⟨hC, hd⟩ := hd
  subst hC
  have ok : ∀ w ∈ wsV own index y.cls y ws, w.before args s = true := fun w h => ht w (hT w h).1
  have hG : GoodIn Ts ws := fun w h => hT w (by unfold wsV; exact List.mem_append_right _ h)
  have hc : Cond.codeWith y bytes maxL ret hh ∈ ws := by rw [hw]; exact List.mem_cons_self
  refine ⟨⟨hrc, hrs, hR.1, hR.2, pay_in ht hG, hc⟩, ht _ (hG _ hc).1, ok _ (by simp [wsV]), ⟨hd.1, hd.2.1⟩, fun sig h => ?_, ok _ (by simp [wsV]), ok _ (by simp [wsV]), ok _ (by simp [wsV])⟩
  have h2 := hd.2.2
  rw [h] at h2
  exact (Option.some.inj h2).symm
theorem vx_runVW {y : MethodName} {bytes cc : ByteArray} {maxL nL mc ms n index : Nat} {ret : Option FieldType} {hh : List (Nat × Nat × Nat × Nat)} {ws : List Cond} {rm : Room} {Pc : Array Value → State → Prop} {Qc : Array Value → State → Outcome → State → Prop} {free : Addr → Prop} {Ts : List Cond} {own C : String} {b : Addr} {As rest : List Value} {g : JFrame}
    (S : CallFix p m c cc nL s args Ts own) (hM : Met l y ws rm Pc Qc mc ms free) (cw : vx_CVW R s args own C index y bytes maxL ret hh ws rm mc ms n) (hp : PreV s H C b Pc As)
    (hg : g.method = m) (hn : As.length = n) (hsize : g.locals.size = nL) (hstack : g.stack = As.reverse ++ .ref b :: rest) (hW : 2 * g.monitorRoom + (rest.map fun v => v.category).sum ≤ 8) (hdg : decode cc g.pc = .ok (.invokevirtual index, 3)) (hf : cells + mc ≤ R.cells ∧ slots + ms ≤ R.slots) :
    va_Run p l e R s m args below meth c H locs cells slots mc ms g rest (Qc (Value.ref b :: As).toArray) free := by
  obtain ⟨⟨hrc, hrs, hfr, hlo, hws, hcw⟩, hcode, hini, hy, hlen, hl, hin, hse⟩ := cw
  have hK : Back l R p e below s args y 3 8 (PreOf R mc ms Pc) (PostOf Qc mc ms free) := va_backW (hh := hh) (bytes := bytes) (maxL := maxL) (ret := ret) hM hp.1 hrc hrs hfr hlo hws hcw (fun a' U hW => word_at hW (Or.inl (by first | rfl | simp [Cond.onTables, Cond.keeps, Cond.steady])) hini)
  obtain ⟨hx, hb, hml, ho, -⟩ := S
  obtain ⟨-, ⟨cellB, hcB, hoB, hclB⟩, hPc⟩ := hp
  intro T hT X
  obtain ⟨v, vm₁, ⟨U', l2, c2, s2⟩, hW₁, X', ⟨g', mk, t, L, e1, e2, hq, h1, hL, h2, h3⟩, st⟩ := vx_callVW X hx (C := C) (hh := hh) (bytes := bytes) (maxL := maxL) (ret := ret) ho hl hin hse hcode hy hK (by rw [hT]; exact hcB) hoB hclB hg (hsize.trans hml.symm) (argsL := As) (rest := rest) (fun sig h => hn.trans (hlen sig h)) hstack hW (by rw [hb]; exact hdg)
    (fun vm₁ hW₁ => ⟨hf.1, hf.2, hPc (T.setVm vm₁) hT hW₁⟩)
  dsimp only [Pt.U, Pt.locs, Pt.cells, Pt.slots] at X' e1 e2 h1 h2 h3 st
  subst h1; subst h2; subst h3
  exact ⟨v, (T.setVm vm₁).calling g' mk (Value.ref b :: As).toArray, t, U', L, hT, X', hL, e1, e2, hq, st⟩
section
variable {y : MethodName} {bytes cc : ByteArray} {maxL nL mc ms n index : Nat} {ret : Option FieldType} {ws : List Cond} {rm : Room} {Pc : Array Value → State → Prop} {Qc : Array Value → State → Outcome → State → Prop} {XC : String → State → State → Prop} {free : Addr → Prop} {Ts : List Cond} {own C : String} {b : Addr} {As rest : List Value} {g : JFrame}
theorem vx_runVX {hh : List (Nat × Nat × Nat × Nat)} (S : CallFix p m c cc nL s args Ts own) (hM : vx_Met l y ws rm Pc Qc XC mc ms free) (cw : vx_CVW R s args own C index y bytes maxL ret hh ws rm mc ms n) (hp : PreV s H C b Pc As)
    (hg : g.method = m) (hn : As.length = n) (hsize : g.locals.size = nL) (hstack : g.stack = As.reverse ++ .ref b :: rest) (hW : 2 * g.monitorRoom + (rest.map fun v => v.category).sum ≤ 8) (hdg : decode cc g.pc = .ok (.invokevirtual index, 3)) (hf : cells + mc ≤ R.cells ∧ slots + ms ≤ R.slots) :
    vx_Run p l e R s m args below meth c H locs cells slots mc ms g rest (Qc (Value.ref b :: As).toArray) XC free := by
  obtain ⟨⟨hrc, hrs, hfr, hlo, hws, hcw⟩, hcode, hini, hy, hlen, hl, hin, hse⟩ := cw
  have hK : vx_Back l R p e below s args y 3 8 (PreOf R mc ms Pc) (PostOf Qc mc ms free) (vx_Post XC mc ms free) := vx_backW (hh := hh) (bytes := bytes) (maxL := maxL) (ret := ret) hM hp.1 hrc hrs hfr hlo hws hcw (fun a' U hW => word_at hW (Or.inl (by first | rfl | simp [Cond.onTables, Cond.keeps, Cond.steady])) hini)
  obtain ⟨hx, hb, hml, ho, -⟩ := S
  obtain ⟨-, ⟨cellB, hcB, hoB, hclB⟩, hPc⟩ := hp
  intro T hT X
  rcases vx_callVX X hx (C := C) (hh := hh) (bytes := bytes) (maxL := maxL) (ret := ret) ho hl hin hse hcode hy hK (by rw [hT]; exact hcB) hoB hclB hg (hsize.trans hml.symm) (argsL := As) (rest := rest) (fun sig h => hn.trans (hlen sig h)) hstack hW (by rw [hb]; exact hdg)
    (fun vm₁ hW₁ => ⟨hf.1, hf.2, hPc (T.setVm vm₁) hT hW₁⟩) with ⟨v, vm₁, ⟨U', l2, c2, s2⟩, hW₁, X', ⟨g', mk, t, L, e1, e2, hq, h1, hL, h2, h3⟩, st⟩ | ⟨q, vm₁, ⟨U', l2, c2, s2⟩, hW₁, X', ⟨g', mk, t, L, E, ce, e1, e2, hq, hce, hcv, hcl, h1, hL, h2, h3⟩, st⟩
  · dsimp only [Pt.U, Pt.locs, Pt.cells, Pt.slots] at X' e1 e2 h1 h2 h3 st
    subst h1; subst h2; subst h3
    exact Or.inl ⟨v, (T.setVm vm₁).calling g' mk (Value.ref b :: As).toArray, t, U', L, hT, X', hL, e1, e2, hq, st⟩
  · dsimp only [Pt.U, Pt.locs, Pt.cells, Pt.slots] at X' e1 e2 h1 h2 h3 st hcl
    subst h1; subst h2; subst h3
    exact Or.inr ⟨q, (T.setVm vm₁).calling g' mk (Value.ref b :: As).toArray, t, U', L, E, ce, hT, X', hL, e1, e2, hq, hce, hcv, vx_cls hW₁ hcl, st⟩
theorem vx_runSX {hh : List (Nat × Nat × Nat × Nat)} (S : CallFix p m c cc nL s args Ts own) (hM : vx_Met l y ws rm Pc Qc XC mc ms free) (cw : vx_CSW R s args own index y bytes maxL ret hh ws rm mc ms n) (hp : PreS s H Pc As)
    (hg : g.method = m) (hn : As.length = n) (hsize : g.locals.size = nL) (hstack : g.stack = As.reverse ++ rest) (hW : 2 * g.monitorRoom + (rest.map fun v => v.category).sum ≤ 8) (hdg : decode cc g.pc = .ok (.invokestatic index, 3)) (hf : cells + mc ≤ R.cells ∧ slots + ms ≤ R.slots) :
    vx_Run p l e R s m args below meth c H locs cells slots mc ms g rest (Qc As.toArray) XC free := by
  obtain ⟨⟨hrc, hrs, hfr, hlo, hws, hcw⟩, hcode, hini, hy, hlen, hl, hstt⟩ := cw
  have hK : vx_Back l R p e below s args y 3 8 (PreOf R mc ms Pc) (PostOf Qc mc ms free) (vx_Post XC mc ms free) := vx_backW (hh := hh) (bytes := bytes) (maxL := maxL) (ret := ret) hM hp.1 hrc hrs hfr hlo hws hcw (fun a' U hW => word_at hW (Or.inl (by first | rfl | simp [Cond.onTables, Cond.keeps, Cond.steady])) hini)
  obtain ⟨hx, hb, hml, ho, -⟩ := S
  intro T hT X
  rcases vx_callSX X hx (hh := hh) (bytes := bytes) (maxL := maxL) (ret := ret) ho hl hstt hini hcode hy hK hg (hsize.trans hml.symm) (argsL := As) (rest := rest) (fun sig h => hn.trans (hlen sig h)) hstack hW (by rw [hb]; exact hdg)
    (fun vm₁ hW₁ => ⟨hf.1, hf.2, hp.2 (T.setVm vm₁) hT hW₁⟩) with ⟨v, vm₁, ⟨U', l2, c2, s2⟩, hW₁, X', ⟨g', mk, t, L, e1, e2, hq, h1, hL, h2, h3⟩, st⟩ | ⟨q, vm₁, ⟨U', l2, c2, s2⟩, hW₁, X', ⟨g', mk, t, L, E, ce, e1, e2, hq, hce, hcv, hcl, h1, hL, h2, h3⟩, st⟩
  · dsimp only [Pt.U, Pt.locs, Pt.cells, Pt.slots] at X' e1 e2 h1 h2 h3 st
    subst h1; subst h2; subst h3
    exact Or.inl ⟨v, (T.setVm vm₁).calling g' mk As.toArray, t, U', L, hT, X', hL, e1, e2, hq, st⟩
  · dsimp only [Pt.U, Pt.locs, Pt.cells, Pt.slots] at X' e1 e2 h1 h2 h3 st hcl
    subst h1; subst h2; subst h3
    exact Or.inr ⟨q, (T.setVm vm₁).calling g' mk As.toArray, t, U', L, E, ce, hT, X', hL, e1, e2, hq, hce, hcv, vx_cls hW₁ hcl, st⟩
end
end VXH
theorem vx_ofWH {l : Launch} {y : MethodName} {ws ws' : List Cond} {rm : Room} {Pc : Array Value → State → Prop} {Qc : Array Value → State → Outcome → State → Prop} {XC : String → State → State → Prop} {mc ms : Nat} {free : Addr → Prop} {cc : ByteArray} {maxL : Nat} {ret : Option FieldType} {hh : List (Nat × Nat × Nat × Nat)}
    (hy : plainName y.cls = true) (hw : ws = Cond.codeWith y cc maxL ret hh :: ws')
    (body : ∀ p e s m args below meth c s₁, BodyLoose p l y (headSpec ws rm) cc maxL ret e s m args below meth c s₁ → c.maxLocals = maxL → Pc args s →
      W p l e (headSpec ws rm).room s m args below meth c s.heap [] 0 0 (vx_MQ below Qc XC args s mc ms free) (entryFrame m args maxL)) : vx_Met l y ws rm Pc Qc XC mc ms free := by
  refine MetFree.of_bodyS (code := cc) (maxLocals := maxL) (ret := ret) hy ?_ ?_
  · intro args s m h hn
    obtain ⟨m9, meth, c, hn9, h1, h2, h3, h4, -, h5, h6, -⟩ := Cond.codeWith_spec (atoms_spec (ws := ws) h _ (by rw [hw]; exact List.mem_cons_self))
    cases hn.symm.trans hn9
    exact ⟨meth, c, h1, h2, h3, h4, h5, h6⟩
  · intro p e s m args below meth c s₁ B hml hP _
    have hh0 : s₁.heap = s.heap := by rw [B.state]; rfl
    obtain ⟨t, a1, o, b1, b2, b3⟩ := body p e s m args below meth c s₁ B hml hP s₁ hh0 (Stand.of_body B)
    exact ⟨t, o, a1, b1, b2, b3⟩
/-! ===== END ===== -/
/-! ===== BEGIN what the machine throws by itself, no traces kept ===== -/
section VXM
set_option maxHeartbeats 1000000 in
/-- the machine throws cls with the message text, no traces kept: from its note over the frame g to 'throwing' over the same frame (follows the proofs of Stand.vmThrowsMessage, Shelf/KitTracedVmS.lean, and Stand.throwsMessageColdBareV, StandMessageColdV.lean, without the step out of the frame) -/
theorem vx_vmAt {p : Program} {l : Launch} {e : Env} {R : Room} {s : State} {m₀ : MethodId} {args : Array Value} {below : List Frame} {meth : Method} {c : Code} {W : State} {locs : List Loc} {cells slots : Nat}
    (X : Stand p l e R s m₀ args below meth c W locs cells slots) (hexec : p.tables.exec = Jvm.exec) (htr : e.platform.stackTraces = false) {cls : String} {names : List String} {text : String}
    (hcls : Bundle.fit cls = true) (hnames : ∀ n ∈ names, Bundle.fit n = true) (hsoe : (cls == "java/lang/StackOverflowError") = false) (hoom : (cls == "java/lang/OutOfMemoryError") = false)
    (h : ∀ a ∈ Bundle.messageArmAtoms cls names, a.before args s = true)
    (hlocs : ∀ x ∈ locs, ∀ cell, s.heap[x.base]? = some cell → cell.vm.isStatics = false)
    (htext : (text == notModelled) = false) (hlimit : ¬ (stringBytes (stringToUtf16 text)).size > e.platform.arrayLengthLimit) (hheap : ¬ (stringBytes (stringToUtf16 text)).size * componentBytes .byte > e.platform.maxHeapBytes)
    {g : JFrame} (hg : g.method = m₀) (hsize : g.locals.size = c.maxLocals)
    (hRframes : names.length + 4 < R.frames) (hRlocals : 2 * g.monitorRoom + (g.stack.map fun v => v.category).sum + 10240 ≤ R.locals) (hshort : 13 * names.length + 55 ≤ 10240)
    (hRcells : cells + 3 ≤ R.cells) (hRslots : slots + ((stringBytes (stringToUtf16 text)).size + 4 + 6) ≤ R.slots) (hlocks : meth.locks = false) :
    ∃ (S : State) (q : Addr) (ce : Cell), (∀ target, Steps p.tables e below ((S.setTop g).pushFrame (.throwing q)) target → Steps p.tables e below ((W.setTop g).pushFrame (.throwNew cls (some text) none)) target) ∧
      Stand p l e R s m₀ args below meth c S locs (cells + 3) (slots + ((stringBytes (stringToUtf16 text)).size + 4 + 6)) ∧ S.heap[q]? = some ce ∧ s.vm.findClass cls = some ce.cls ∧ ce.vm = .none := by
  have howns : e.platform.frameOwnsMonitors = true := by rw [X.admits.platform]
  have hfin : e.platform.finalization = false := by rw [X.admits.platform]
  have hpl : e.platform.magicAccessors = ({} : Platform).magicAccessors := by rw [X.admits.platform]
  have a : ∀ x, x ∈ Bundle.messageArmAtoms cls names → x.holds args s none s [] = true := fun x hx => h x hx
  obtain ⟨T, Z0, L, -, Y⟩ := ThrowableC.of_atoms (args := args) howns hfin hpl (fun x hx => h x (by simp [Bundle.messageArmAtoms, hx]))
  obtain ⟨Z, M, LZ, LM, hnZ⟩ := Init0T.ofS_atoms (args := args) hpl L Y (fun x hx => h x (by simp [Bundle.messageArmAtoms, hx]))
  obtain ⟨P1, Ps, hlen, L1, hL, hP1m, hlink1, hlink⟩ := Bundle.chainS (args := args) hpl hnZ names cls hcls hnames (fun x hx => h x (by simp [Bundle.messageArmAtoms, hx]))
  obtain ⟨Zs, LZs, hn4, hfitv, hfitc⟩ := StringT.of_atoms (args := args) (fun x hx => h x (by simp [Bundle.messageArmAtoms, hx]))
  have hfound : s.vm.findClass cls = some P1.m.cls := findClass_of_methodNamed hP1m
  obtain ⟨c1, kX, hc1, hk, hord, -, -, hn6⟩ := Cond.instantiable_spec (a (.instantiable cls 6) (by simp [Bundle.messageArmAtoms]))
  cases Option.some.inj (hc1.symm.trans hfound)
  have hinit := Cond.initialized_spec hfound hk (a (.initialized cls) (by simp [Bundle.messageArmAtoms]))
  have hctor : kX.findMethod "<init>" "(Ljava/lang/String;)V" = some P1.m.idx := findMethod_of_methodNamed hP1m hk
  have hsel0 : selectMethod e.platform s.vm P1.m.cls T.fill0 = .method T.fill0 := by
    obtain ⟨c2, r2, m2, q1, q2, q3, q4, -⟩ := Cond.selects_spec (a (.selects cls Bundle.tFill0 Bundle.tFill0) (by simp [Bundle.messageArmAtoms]))
    cases Option.some.inj (q1.symm.trans hfound)
    cases Option.some.inj (q2.symm.trans (State.methodFound?_of_named Y.fill0 (by decide)))
    cases Option.some.inj (q3.symm.trans Y.fill0)
    rw [Launch.admits_selectMethod X.admits]; exact q4
  have hselF : selectMethod e.platform s.vm P1.m.cls T.fill = .method T.fill := by
    obtain ⟨c2, r2, m2, q1, q2, q3, q4, -⟩ := Cond.selects_spec (a (.selects cls Bundle.tFill Bundle.tFill) (by simp [Bundle.messageArmAtoms]))
    cases Option.some.inj (q1.symm.trans hfound)
    cases Option.some.inj (q2.symm.trans (State.methodFound?_of_named Y.fill (by decide)))
    cases Option.some.inj (q3.symm.trans Y.fill)
    rw [Launch.admits_selectMethod X.admits]; exact q4
  obtain ⟨cellS0, hcS0, hiss⟩ := Y.statics
  obtain ⟨u0, hu0⟩ := Cond.staticRefV Y.unassigned L.unassignedStatic L.statics hcS0 hiss (a (.isRef (.static Bundle.tN "UNASSIGNED_STACK" Bundle.steD)) (by simp [Bundle.messageArmAtoms]))
  obtain ⟨sen, hsen⟩ := Cond.staticRefV Y.sentinel L.sentinelStatic L.statics hcS0 hiss (a (.isRef (.static Bundle.tN "SUPPRESSED_SENTINEL" Bundle.listD)) (by simp [Bundle.messageArmAtoms]))
  obtain ⟨ci198, i198, fB, hk198, hg198, ha198, hsB, -, hnB, htB, hffB⟩ := Cond.ownField (t := .object "java/lang/Object") Y.found L.cls (by decide +kernel) (a (.fieldLink Bundle.tN 198 Bundle.tN "backtrace" "Ljava/lang/Object;") (by simp [Bundle.messageArmAtoms])) (a (.lays Bundle.tN Bundle.tN "backtrace" "Ljava/lang/Object;") (by simp [Bundle.messageArmAtoms])) e.platform hpl
  obtain ⟨cellS, hcS', heS, -, hkeep⟩ := X.same.2.2.2.2.2 T.aS cellS0 hcS0
  have hcellS : W.heap[T.aS]? = some cellS := hcS'
  have hout' : ∀ i, (⟨T.aS, i⟩ : Loc) ∉ locs := fun i hmem => by
    have := hlocs _ hmem cellS0 hcS0
    rw [hiss] at this; cases this
  have hknownS : cellS.vm ≠ .unknown := by
    rw [heS]; intro hu
    rw [show cellS0.vm = .unknown from hu] at hiss
    cases hiss
  have hvU : cellS.slots[T.fUnassigned.slot]? = some u0.v := by rw [hkeep _ (hout' _)]; exact hu0
  have hvSen : cellS.slots[T.fSentinel.slot]? = some sen.v := by rw [hkeep _ (hout' _)]; exact hsen
  obtain ⟨iM, hffM⟩ := Y.msg
  obtain ⟨tyC, dC, hdC, hdnC⟩ := Cond.laysAt hfound hk Y.cause (a (.lays cls Bundle.tN "cause" "Ljava/lang/Throwable;") (by simp [Bundle.messageArmAtoms]))
  obtain ⟨tyS, dS, hdS, hdnS⟩ := Cond.laysAt hfound hk Y.stack (a (.lays cls Bundle.tN "stackTrace" Bundle.steD) (by simp [Bundle.messageArmAtoms]))
  obtain ⟨tyP, dP, hdP, hdnP⟩ := Cond.laysAt hfound hk Y.supp (a (.lays cls Bundle.tN "suppressedExceptions" Bundle.listD) (by simp [Bundle.messageArmAtoms]))
  obtain ⟨tyM, dM, hdM, hdnM⟩ := Cond.laysAt hfound hk hffM (a (.lays cls Bundle.tN "detailMessage" "Ljava/lang/String;") (by simp [Bundle.messageArmAtoms]))
  obtain ⟨tyB, dB, hdB, hdnB⟩ := Cond.laysAt hfound hk hffB (a (.lays cls Bundle.tN "backtrace" "Ljava/lang/Object;") (by simp [Bundle.messageArmAtoms]))
  have bC := Cond.laysApart hdB hdC hdnB hdnC (by rw [hnB, Y.causeName]; decide)
  have bS := Cond.laysApart hdB hdS hdnB hdnS (by rw [hnB, Y.stackName]; decide)
  have bP := Cond.laysApart hdB hdP hdnB hdnP (by rw [hnB, Y.suppName]; decide)
  have hbk : ((preparedCellV T.toThrowableT (freshCell P1.m.cls kX) (W.heap.size + 2) u0 sen).withEntry W.cur).slots[fB.slot]? = some .null := by
    have := fresh_default (c := P1.m.cls) tyB
    rw [htB] at this
    simpa [preparedCellV, Cell.setSlot, Cell.withEntry, Array.getElem?_setIfInBounds, bC, bS, bP, bC.symm, bS.symm, bP.symm, defaultValue] using this
  have tkC := Takes.of_laid (v := .ref (W.heap.size + 2)) hk hord tyC (by rw [Y.causeType]; rfl)
  have tkS := Takes.of_laid (v := u0.v) hk hord tyS (by rw [Y.stackType]; exact fits_refV_array _ u0)
  have tkP := Takes.of_laid (v := sen.v) hk hord tyP (by rw [Y.suppType]; exact fits_refV_object _ sen)
  have tkM := Takes.of_laid (v := .ref (W.heap.size + 1)) hk hord tyM (by rw [Y.msgType]; rfl)
  have hskip : SkipFacts T e.platform s (fun u => u) u0 ((preparedCellV T.toThrowableT (freshCell P1.m.cls kX) (W.heap.size + 2) u0 sen).withEntry W.cur) := ⟨{ ci198 := ci198, i198 := i198, fBack := fB }, ⟨hk198, hg198, ha198, hsB⟩, hbk, fun _ _ => rfl⟩
  have h0 : At W g.method c below := by rw [hg]; exact X.here
  obtain ⟨hbeyond, hfreeW⟩ := X.vmMayThrow hsize (.throwNew cls (some text) none) (fun f hf => by cases hf) rfl hRlocals
  have hfr' : W.frames.length + Ps.length + 4 < (e.platform.stackLimits W.me).1 := by have := X.framesAbove hRframes; omega
  have hwd' : (stackUse (.java g :: W.frames.tail)).2 + 13 * Ps.length + 55 ≤ (e.platform.stackLimits W.me).2 := by have := X.stackAbove hsize (K := 13 * Ps.length + 55) (by omega); omega
  have hslots : W.slotsUsed + (stringBytes (stringToUtf16 text)).size + Zs.kS.instanceTypes.size + kX.instanceTypes.size ≤ e.platform.maxSlots := by
    have := X.slotsAbove hRslots
    rw [hn4, hn6]
    omega
  obtain ⟨vm', hW', st⟩ := Steps.vmThrowsMessageColdByV p (s₀ := s) (S := W) (g := g) h0 hexec T L Z LZ M LM X.warmed (t := W.cur) rfl Zs LZs P1 L1 Ps hL hlink1 hlink hsoe hoom hfound hk hinit hord hctor
    (Launch.admits_hotImplicitExceptions X.admits) hbeyond hfreeW htext hlimit hheap (X.cellsAbove hRcells) hslots (hfitv _) (hfitc _)
    (Nn := fun u => u) heapOnly_id (fun _ _ => rfl) (fun _ => rfl) (fun u x y => setCell_twice _ _ _ _) (fun _ => Nat.le_refl _) (cN := ((preparedCellV T.toThrowableT (freshCell P1.m.cls kX) (W.heap.size + 2) u0 sen).withEntry W.cur))
    hsel0 hcellS hknownS hvU tkS (fun _ hu => hu) (fun _ hu => hu) rfl rfl rfl (by simp [preparedCellV, Cell.setSlot, Cell.withEntry]) hskip (fun _ _ hA hW _ hroom _ hrest => L.nativeOff p htr hA hW hroom hrest) hselF hvSen tkC tkP tkM Y.objLocals rfl hfr' hwd'
  rw [plainBareV_eq T.toThrowableT (W.heap.size + 2) u0 sen (.ref (W.heap.size + 1)) W.cur rfl rfl] at st
  obtain ⟨-, -, w3, w4, -, -, -⟩ := withThrown_facts e.platform W Zs text P1.m.cls kX
  have X3 := ((X.pushed (bytesOf Zs.cB (stringToUtf16 text))).pushed (stringAt Zs.cS Zs.kS Zs.fv Zs.fc (stringToUtf16 text) W.heap.size)).pushed (freshCell P1.m.cls kX)
  rw [← withString_eq] at X3
  have X4 := X3.noted hW'
  have ha : (W.heap.size + 2) < ((withThrown W Zs text P1.m.cls kX).setVm vm').heap.size := by show _ < (withThrown W Zs text P1.m.cls kX).heap.size; rw [w3]; omega
  have hcell : ((withThrown W Zs text P1.m.cls kX).setVm vm').heap[(W.heap.size + 2)]? = some (freshCell P1.m.cls kX) := w4
  have X5 := ((((X4.stored hcell T.fCause.slot (.ref (W.heap.size + 2))).storedAgain ha T.fStack.slot u0.v).storedAgain ha T.fSupp.slot sen.v).storedAgain ha T.fStack.slot u0.v).storedAgain ha T.fMsg.slot (.ref (W.heap.size + 1))
  obtain ⟨g₁, hfrM⟩ := X5.frames_eq
  have hU : ((((withThrown W Zs text P1.m.cls kX).setVm vm').setCell (W.heap.size + 2) (plainBareV T.toThrowableT (freshCell P1.m.cls kX) (W.heap.size + 2) u0 sen (.ref (W.heap.size + 1)))).setTop g).pushFrame (.throwing (W.heap.size + 2)) = (((withThrown W Zs text P1.m.cls kX).setVm vm').setCell (W.heap.size + 2) (plainBareV T.toThrowableT (freshCell P1.m.cls kX) (W.heap.size + 2) u0 sen (.ref (W.heap.size + 1)))).setFrames (.throwing (W.heap.size + 2) :: .java g :: below) := by
    rw [State.pushFrame, State.frames_setTop _ hfrM, State.setTop_of_frames _ hfrM, State.setFrames_setFrames]
  have b1 : (bytesOf Zs.cB (stringToUtf16 text)).slots.size = (stringBytes (stringToUtf16 text)).size := by
    rw [(Cell.writeAll_facts _ _).2.2]; simp [bytes0]
  have b2 : (stringAt Zs.cS Zs.kS Zs.fv Zs.fc (stringToUtf16 text) W.heap.size).slots.size = 4 := by simp [string0, Cell.setSlot, hn4]
  have b3 : (freshCell P1.m.cls kX).slots.size = 6 := by simp [hn6]
  rw [b1, b2, b3] at X5
  have e9 : slots + (stringBytes (stringToUtf16 text)).size + 4 + 6 = slots + ((stringBytes (stringToUtf16 text)).size + 4 + 6) := by omega
  rw [e9] at X5
  simp only [List.append_assoc, List.cons_append, List.nil_append] at X5
  refine ⟨((withThrown W Zs text P1.m.cls kX).setVm vm').setCell (W.heap.size + 2) (plainBareV T.toThrowableT (freshCell P1.m.cls kX) (W.heap.size + 2) u0 sen (.ref (W.heap.size + 1))), W.heap.size + 2, _, fun target ht => st _ (by rw [X.tail, ← hU]; exact ht),
    X5.forget (fun y hy => ?_), heapAt_setCell_self _ ha, hfound, rfl⟩
  simp only [List.mem_cons, List.not_mem_nil, or_false] at hy
  have hge : s.heap.size ≤ W.heap.size := X.same.2.1
  rcases hy with rfl | rfl | rfl | rfl | rfl <;> exact Nat.le_trans hge (Nat.le_add_right _ 2)
set_option maxHeartbeats 1000000 in
/-- the machine throws NullPointerException, no traces kept: from its note over the frame g to 'throwing' over the same frame (follows the proof of Stand.vmThrowsNpe, Shelf42/KT2.lean; throwsNpeColdBareVAt, Shelf42/NT91.lean, called) -/
theorem vx_npeAt {p : Program} {l : Launch} {e : Env} {R : Room} {s : State} {m₀ : MethodId} {args : Array Value} {below : List Frame} {meth : Method} {c : Code} {W : State} {locs : List Loc} {cells slots : Nat}
    (X : Stand p l e R s m₀ args below meth c W locs cells slots) (hexec : p.tables.exec = Jvm.exec) (htr : e.platform.stackTraces = false) {n : Nat}
    (h : ∀ a ∈ Bundle.npeArmAtoms n, a.before args s = true)
    (hlocs : ∀ x ∈ locs, ∀ cell, s.heap[x.base]? = some cell → cell.vm.isStatics = false)
    {g : JFrame} (hg : g.method = m₀) (hsize : g.locals.size = c.maxLocals)
    (hRframes : 7 < R.frames) (hRlocals : 2 * g.monitorRoom + (g.stack.map fun v => v.category).sum + 10240 ≤ R.locals)
    (hRcells : cells + 1 ≤ R.cells) (hRslots : slots + n ≤ R.slots) (hlocks : meth.locks = false) :
    ∃ (S : State) (q : Addr) (ce : Cell), (∀ target, Steps p.tables e below ((S.setTop g).pushFrame (.throwing q)) target → Steps p.tables e below ((W.setTop g).pushFrame (.throwNew "java/lang/NullPointerException" none none)) target) ∧
      Stand p l e R s m₀ args below meth c S locs (cells + 1) (slots + n) ∧ S.heap[q]? = some ce ∧ s.vm.findClass "java/lang/NullPointerException" = some ce.cls ∧ ce.vm = .none := by
  have howns : e.platform.frameOwnsMonitors = true := by rw [X.admits.platform]
  have hfin : e.platform.finalization = false := by rw [X.admits.platform]
  have hpl : e.platform.magicAccessors = ({} : Platform).magicAccessors := by rw [X.admits.platform]
  have hpl2 : e.platform.arrayCloneIsPublic = true := by rw [X.admits.platform]
  have a' : ∀ x, x ∈ Bundle.npeArmAtoms n → x.holds args s none s [] = true := fun x hx => h x hx
  obtain ⟨T, Z, L, LZ, Y⟩ := ThrowableC.of_atoms (args := args) howns hfin hpl (fun x hx => h x (by simp [Bundle.npeArmAtoms, hx]))
  obtain ⟨N, LN, hcN, hnNF, hordN, hffS⟩ := NpeC.of_atoms (args := args) hpl hpl2 L Y (fun x hx => h x (by simp [Bundle.npeArmAtoms, hx]))
  obtain ⟨P1, L1, hP1m, hP1s⟩ := PassC.of_atoms (args := args) (s := s) hpl (X := Bundle.nN) (Y := Bundle.rN) (by decide) (by decide) LibCode.NullPointerException.Init0.at_0 LibCode.NullPointerException.Init0.at_1 LibCode.NullPointerException.Init0.at_4 (fun x hx => h x (by simp [Bundle.npeArmAtoms, hx]))
  obtain ⟨PR, LR, hPRm, hPRs⟩ := PassC.of_atoms (args := args) (s := s) hpl (X := Bundle.rN) (Y := Bundle.eN) (by decide) (by decide) LibCode.RuntimeException.Init0.at_0 LibCode.RuntimeException.Init0.at_1 LibCode.RuntimeException.Init0.at_4 (fun x hx => h x (by simp [Bundle.npeArmAtoms, hx]))
  obtain ⟨PE, LEx, hPEm, hPEs⟩ := PassC.of_atoms (args := args) (s := s) hpl (X := Bundle.eN) (Y := Bundle.tN) (by decide) (by decide) LibCode.Exception.Init0.at_0 LibCode.Exception.Init0.at_1 LibCode.Exception.Init0.at_4 (fun x hx => h x (by simp [Bundle.npeArmAtoms, hx]))
  have hfound : s.vm.findClass Bundle.nN = some P1.m.cls := findClass_of_methodNamed hP1m
  have ecls : N.cN = P1.m.cls := Option.some.inj (hcN.symm.trans hfound)
  have hk : s.vm.classes[P1.m.cls]? = some N.kN := by rw [← ecls]; exact LN.cls
  have hinit := Cond.initialized_spec hfound hk (a' (.initialized Bundle.nN) (by simp [Bundle.npeArmAtoms]))
  have hctor : N.kN.findMethod "<init>" "()V" = some P1.m.idx := findMethod_of_methodNamed hP1m hk
  obtain ⟨c1, k1, hc1, hk1, -, -, -, hn⟩ := Cond.instantiable_spec (a' (.instantiable Bundle.nN n) (by simp [Bundle.npeArmAtoms]))
  cases Option.some.inj (hc1.symm.trans hfound)
  cases Option.some.inj (hk1.symm.trans hk)
  have hfsz : (freshCell P1.m.cls N.kN).slots.size = n := by simp [hn]
  have hlink1 : P1.sup = PR.m := Option.some.inj (hP1s.symm.trans hPRm)
  have hlinkR : PR.sup = PE.m := Option.some.inj (hPRs.symm.trans hPEm)
  have hlinkE : PE.sup = Z.m T.toThrowableT := Option.some.inj (hPEs.symm.trans Y.init0)
  have hLs : ∀ P, P ∈ [PR, PE] → P.Links0 e.platform s := fun P hP => by
    simp only [List.mem_cons, List.not_mem_nil, or_false] at hP
    rcases hP with rfl | rfl
    · exact LR
    · exact LEx
  have hsel0 : selectMethod e.platform s.vm P1.m.cls T.fill0 = .method T.fill0 := by
    obtain ⟨c2, r2, m2, q1, q2, q3, q4, -⟩ := Cond.selects_spec (a' (.selects Bundle.nN Bundle.tFill0 Bundle.tFill0) (by simp [Bundle.npeArmAtoms]))
    cases Option.some.inj (q1.symm.trans hfound)
    cases Option.some.inj (q2.symm.trans (State.methodFound?_of_named Y.fill0 (by decide)))
    cases Option.some.inj (q3.symm.trans Y.fill0)
    rw [Launch.admits_selectMethod X.admits]; exact q4
  have hselF : selectMethod e.platform s.vm P1.m.cls T.fill = .method N.fill := by
    obtain ⟨c2, r2, m2, q1, q2, q3, q4, -⟩ := Cond.selects_spec (a' (.selects Bundle.nN Bundle.tFill Bundle.nFill) (by simp [Bundle.npeArmAtoms]))
    cases Option.some.inj (q1.symm.trans hfound)
    cases Option.some.inj (q2.symm.trans (State.methodFound?_of_named Y.fill (by decide)))
    cases Option.some.inj (q3.symm.trans hnNF)
    rw [Launch.admits_selectMethod X.admits]; exact q4
  obtain ⟨cellS0, hcS0, hiss⟩ := Y.statics
  obtain ⟨u0, hu0⟩ := Cond.staticRefV Y.unassigned L.unassignedStatic L.statics hcS0 hiss (a' (.isRef (.static Bundle.tN "UNASSIGNED_STACK" Bundle.steD)) (by simp [Bundle.npeArmAtoms]))
  obtain ⟨sen, hsen⟩ := Cond.staticRefV Y.sentinel L.sentinelStatic L.statics hcS0 hiss (a' (.isRef (.static Bundle.tN "SUPPRESSED_SENTINEL" Bundle.listD)) (by simp [Bundle.npeArmAtoms]))
  obtain ⟨ci198, i198, fB, hk198, hg198, ha198, hsB, -, hnB, htB, hffB⟩ := Cond.ownField (t := .object "java/lang/Object") Y.found L.cls (by decide +kernel) (a' (.fieldLink Bundle.tN 198 Bundle.tN "backtrace" Bundle.objD) (by simp [Bundle.npeArmAtoms])) (a' (.lays Bundle.tN Bundle.tN "backtrace" Bundle.objD) (by simp [Bundle.npeArmAtoms])) e.platform hpl
  obtain ⟨cellS, hcS', heS, -, hkeep⟩ := X.same.2.2.2.2.2 T.aS cellS0 hcS0
  have hcellS : W.heap[T.aS]? = some cellS := hcS'
  have hout' : ∀ i, (⟨T.aS, i⟩ : Loc) ∉ locs := fun i hmem => by
    have := hlocs _ hmem cellS0 hcS0
    rw [hiss] at this; cases this
  have hknownS : cellS.vm ≠ .unknown := by
    rw [heS]; intro hu
    rw [show cellS0.vm = .unknown from hu] at hiss
    cases hiss
  have hvU : cellS.slots[T.fUnassigned.slot]? = some u0.v := by rw [hkeep _ (hout' _)]; exact hu0
  have hvSen : cellS.slots[T.fSentinel.slot]? = some sen.v := by rw [hkeep _ (hout' _)]; exact hsen
  obtain ⟨tyC, dC, hdC, hdnC⟩ := Cond.laysAt hfound hk Y.cause (a' (.lays Bundle.nN Bundle.tN "cause" "Ljava/lang/Throwable;") (by simp [Bundle.npeArmAtoms]))
  obtain ⟨tyS, dS, hdS, hdnS⟩ := Cond.laysAt hfound hk Y.stack (a' (.lays Bundle.nN Bundle.tN "stackTrace" Bundle.steD) (by simp [Bundle.npeArmAtoms]))
  obtain ⟨tyP, dP, hdP, hdnP⟩ := Cond.laysAt hfound hk Y.supp (a' (.lays Bundle.nN Bundle.tN "suppressedExceptions" Bundle.listD) (by simp [Bundle.npeArmAtoms]))
  obtain ⟨tyX, dX, hdX, hdnX⟩ := Cond.laysAt hfound hk hffS (a' (.lays Bundle.nN Bundle.nN "extendedMessageState" "I") (by simp [Bundle.npeArmAtoms, Bundle.npeAtoms]))
  obtain ⟨hnX, htX⟩ := State.fieldFound?_type hffS (t := .int) (by decide +kernel)
  have xC := Cond.laysApart hdC hdX hdnC hdnX (by rw [hnX, Y.causeName]; decide)
  have xS := Cond.laysApart hdS hdX hdnS hdnX (by rw [hnX, Y.stackName]; decide)
  have xP := Cond.laysApart hdP hdX hdnP hdnX (by rw [hnX, Y.suppName]; decide)
  have hv0 : (freshCell P1.m.cls N.kN).slots[N.fState.slot]? = some (.int 0) := by
    have := fresh_default (c := P1.m.cls) tyX
    rw [htX] at this; exact this
  obtain ⟨tyB, dB, hdB, hdnB⟩ := Cond.laysAt hfound hk hffB (a' (.lays Bundle.nN Bundle.tN "backtrace" Bundle.objD) (by simp [Bundle.npeArmAtoms]))
  have bC := Cond.laysApart hdB hdC hdnB hdnC (by rw [hnB, Y.causeName]; decide)
  have bS := Cond.laysApart hdB hdS hdnB hdnS (by rw [hnB, Y.stackName]; decide)
  have bP := Cond.laysApart hdB hdP hdnB hdnP (by rw [hnB, Y.suppName]; decide)
  have bX := Cond.laysApart hdB hdX hdnB hdnX (by rw [hnB, hnX]; decide)
  have hbk : ((npeCell N.toNpeT (preparedCellV T.toThrowableT (freshCell P1.m.cls N.kN) W.heap.size u0 sen) W.cur).withEntry W.cur).slots[fB.slot]? = some .null := by
    have := fresh_default (c := P1.m.cls) tyB
    rw [htB] at this
    simpa [npeCell, preparedCellV, Cell.setSlot, Cell.withEntry, Array.getElem?_setIfInBounds, bC, bS, bP, bX, bC.symm, bS.symm, bP.symm, bX.symm, defaultValue] using this
  have tkC := Takes.of_laid (v := .ref W.heap.size) hk hordN tyC (by rw [Y.causeType]; rfl)
  have tkS := Takes.of_laid (v := u0.v) hk hordN tyS (by rw [Y.stackType]; exact fits_refV_array _ u0)
  have tkP := Takes.of_laid (v := sen.v) hk hordN tyP (by rw [Y.suppType]; exact fits_refV_object _ sen)
  have tkX := Takes.of_laid (v := .int 1) hk hordN tyX (by rw [htX]; rfl)
  have hskip : SkipFacts T e.platform s (fun u => u) u0 ((npeCell N.toNpeT (preparedCellV T.toThrowableT (freshCell P1.m.cls N.kN) W.heap.size u0 sen) W.cur).withEntry W.cur) := ⟨{ ci198 := ci198, i198 := i198, fBack := fB }, ⟨hk198, hg198, ha198, hsB⟩, hbk, fun _ _ => rfl⟩
  obtain ⟨vm', X3, st, -⟩ := X.throwsNpeColdBareVAt hexec hg hsize T L Z LZ N LN P1 L1 [PR, PE] hLs hlink1 ⟨hlinkR, hlinkE, trivial⟩ hfound hk hinit hordN hctor hsel0 hselF hcellS hknownS hvU hvSen
    hv0 xC xS xP tkC tkS tkP tkX Y.objLocals hskip (fun _ _ hA hW _ hroom _ hrest => L.nativeOff p htr hA hW hroom hrest) (by simpa using hRframes) hRlocals (by simp) hRcells (by rw [hn]; exact hRslots)
  have hlt : W.heap.size < ((W.pushCell (freshCell P1.m.cls N.kN)).setVm vm').heap.size := by
    show W.heap.size < (W.pushCell (freshCell P1.m.cls N.kN)).heap.size
    rw [State.heap_size_pushCell]; omega
  rw [hfsz] at X3
  obtain ⟨g₁, hfrM⟩ := X3.frames_eq
  have hU : ((((W.pushCell (freshCell P1.m.cls N.kN)).setVm vm').setCell W.heap.size (npeBareV T.toThrowableT N.toNpeT (freshCell P1.m.cls N.kN) W.heap.size u0 sen)).setTop g).pushFrame (.throwing W.heap.size) = (((W.pushCell (freshCell P1.m.cls N.kN)).setVm vm').setCell W.heap.size (npeBareV T.toThrowableT N.toNpeT (freshCell P1.m.cls N.kN) W.heap.size u0 sen)).setFrames (.throwing W.heap.size :: .java g :: below) := by
    rw [State.pushFrame, State.frames_setTop _ hfrM, State.setTop_of_frames _ hfrM, State.setFrames_setFrames]
  refine ⟨_, W.heap.size, _, fun target ht => st.trans (by rw [← hU]; exact ht), X3.forget (fun y hy => ?_), heapAt_setCell_self _ hlt, hfound, rfl⟩
  simp only [List.mem_cons, List.not_mem_nil, or_false] at hy
  have hge : s.heap.size ≤ W.heap.size := X.same.2.1
  rcases hy with rfl | rfl | rfl | rfl | rfl <;> exact hge
/-- the words of a machine's NullPointerException, but the four that speak of the heap -/
def vx_atN (n : Nat) : List Cond := (Bundle.npeArmAtoms n).filter vx_no
/-- the words of a machine's throw with a message, but the four that speak of the heap -/
def vx_atM (X : String) (names : List String) : List Cond := (Bundle.messageArmAtoms X names).filter vx_no
section
variable {p : Program} {l : Launch} {e : Env} {R : Room} {s : State} {m : MethodId} {args : Array Value} {below : List Frame} {meth : Method} {c : Code} {H : Heap} {locs : List Loc} {cells slots : Nat}
/-- a frame seen from a rebased start, seen from the first start again -/
theorem vx_back9 {T S : State} {R' : Room} {k n : Nat} (X : Stand p l e R s m args below meth c T locs cells slots) (Y : Stand p l e R' ((T.setVm s.vm).setFrames (.invoking m args :: below)) m args below meth c T [] 0 0) (Z : Stand p l e R' ((T.setVm s.vm).setFrames (.invoking m args :: below)) m args below meth c S [] k n) :
    Stand p l e R s m args below meth c S locs (cells + k) (slots + n) := by
  have hW0 : s.WarmedH ((T.setVm s.vm).setFrames (.invoking m args :: below)).vm := State.WarmedH.refl s
  refine { admits := X.admits, cas := X.cas, clock := X.clock, frames := X.frames, room := X.room, hears := X.hears, method := X.method, code := X.code, here := Z.here, tail := Z.tail, warmed := State.WarmedH.trans hW0 Z.warmed, limits := Z.limits.trans (Y.limits.symm.trans X.limits), bytes := Z.bytes.trans (Y.bytes.symm.trans X.bytes), same := ?_ }
  obtain ⟨e1, e2⟩ := Z.same
  rw [State.setFrames_setFrames] at e1
  have h2 : (T.setVm s.vm).sameButNew (S.setVm s.vm) [] k n := ⟨e1, e2⟩
  have h3 := X.same.trans h2
  rw [List.append_nil] at h3
  exact h3
/-- from the machine's note that E is thrown here with this text -/
def vx_Note (p : Program) (l : Launch) (e : Env) (R : Room) (s : State) (m : MethodId) (args : Array Value) (below : List Frame) (meth : Method) (c : Code) (H : Heap) (locs : List Loc) (cells slots : Nat) (Q : State → Prop) (g : JFrame) (E text : String) : Prop :=
  ∀ T : State, T.heap = H → Stand p l e R s m args below meth c T locs cells slots → ∃ t, Steps p.tables e below ((T.setTop g).pushFrame (.throwNew E (some text) none)) t ∧ Q t
theorem vx_vm {pc : Nat} {ls : Array Slot} {rest : List Value} {Q : State → Prop} (hexec : p.tables.exec = Jvm.exec) (hl : l.stackTraces = false) {cls text : String} {names : List String} {nb : Nat} {A : Nat → Prop}
    (hcls : Bundle.fit cls = true) (hnames : ∀ n ∈ names, Bundle.fit n = true) (hsoe : (cls == "java/lang/StackOverflowError") = false) (hoom : (cls == "java/lang/OutOfMemoryError") = false)
    (hat : ∀ w ∈ vx_atM cls names, w.before args s = true) (hgood : ∀ w ∈ vx_atM cls names, vx_ot w = true)
    (hU : vx_Zq Bundle.tN "UNASSIGNED_STACK" Bundle.steD A s s.heap) (hN : vx_Zq Bundle.tN "SUPPRESSED_SENTINEL" Bundle.listD A s s.heap) (hS : va_S A s.heap H locs) (hsize : ls.size = c.maxLocals)
    (htext : (text == notModelled) = false) (hnb : (stringBytes (stringToUtf16 text)).size ≤ nb) (hnb1 : nb ≤ 1000)
    (hRframes : names.length + 4 < R.frames) (hRlocals : (rest.map fun v => v.category).sum + 10240 ≤ R.locals) (hshort : 13 * names.length + 55 ≤ 10240) (hRcells : cells + 3 ≤ R.cells) (hRslots : slots + (nb + 10) ≤ R.slots) (hlocks : meth.locks = false)
    (k : ∀ (H1 : Heap) (q9 : Addr) (ce : Cell), H.size ≤ H1.size → (∀ q : Nat, q < H.size → H1[q]? = H[q]?) → va_S A s.heap H1 locs → H1[q9]? = some ce → ce.vm = .none → s.vm.findClass cls = some ce.cls → vx_W p l e R s m args below meth c H1 locs (cells + 3) (slots + (nb + 10)) Q (F0 m pc ls rest) q9) :
    vx_Note p l e R s m args below meth c H locs cells slots Q (F0 m pc ls rest) cls text := by
  intro T hT X
  have htr : e.platform.stackTraces = false := (show e.platform.stackTraces = l.stackTraces by rw [X.admits.platform]).trans hl
  have Y := vx_rebase X (R' := { frames := R.frames, locals := R.locals, cells := 3, slots := nb + 10 }) (Nat.le_refl _) (Nat.le_refl _) hRcells hRslots
  have hhp : ((T.setVm s.vm).setFrames (.invoking m args :: below)).heap = H := hT
  have hW0 : s.WarmedH ((T.setVm s.vm).setFrames (.invoking m args :: below)).vm := State.WarmedH.refl s
  have hat' : ∀ w ∈ vx_atM cls names, w.before args ((T.setVm s.vm).setFrames (.invoking m args :: below)) = true := fun w hw => vx_ot_at hW0 rfl (hgood w hw) (hat w hw)
  have hU' : vx_Zq Bundle.tN "UNASSIGNED_STACK" Bundle.steD A ((T.setVm s.vm).setFrames (.invoking m args :: below)) ((T.setVm s.vm).setFrames (.invoking m args :: below)).heap := by rw [hhp]; exact vx_Zq.moved hW0.alike (hU.kept hS.2.1)
  have hN' : vx_Zq Bundle.tN "SUPPRESSED_SENTINEL" Bundle.listD A ((T.setVm s.vm).setFrames (.invoking m args :: below)) ((T.setVm s.vm).setFrames (.invoking m args :: below)).heap := by rw [hhp]; exact vx_Zq.moved hW0.alike (hN.kept hS.2.1)
  obtain ⟨S, q, ce, st, Z, hce, hcl', hv⟩ := vx_vmAt Y hexec htr (cls := cls) (names := names) (text := text) hcls hnames hsoe hoom (vx_own hat' (vx_isRefq hU'.1) (vx_isRefq hN'.1) hU'.2.word hN'.2.word) (fun x hx => nomatch hx) htext
    (by rw [Launch.admits_arrayLengthLimit X.admits]; omega) (by rw [Launch.admits_maxHeapBytes X.admits]; simp only [componentBytes]; omega)
    (g := F0 m pc ls rest) rfl hsize hRframes (by show 2 * 0 + (rest.map fun v => v.category).sum + 10240 ≤ R.locals; omega) hshort (by show 0 + 3 ≤ 3; omega) (by show 0 + (_ + 4 + 6) ≤ nb + 10; omega) hlocks
  obtain ⟨f1, f2⟩ := vx_frame Z.same
  have f1' : H.size ≤ S.heap.size := by rw [← hT]; exact f1
  have f2' : ∀ q : Nat, q < H.size → S.heap[q]? = H[q]? := fun q hq => by
    rw [← hT]
    exact f2 q (by rw [← hT] at hq; exact hq) (fun z hz => nomatch hz)
  have X5 := vx_back9 X Y Z
  have X6 : Stand p l e R s m args below meth c S locs (cells + 3) (slots + (nb + 10)) := { X5 with same := X5.same.mono (by omega) (by omega) }
  obtain ⟨t, a1, b1⟩ := k S.heap q ce f1' f2' ⟨Nat.le_trans hS.1 f1', fun q h1 h2 => (f2' q (Nat.lt_of_lt_of_le h1 hS.1)).trans (hS.2.1 q h1 h2), hS.2.2⟩ hce hv hcl' S rfl X6
  exact ⟨t, st t a1, b1⟩
/-- from the machine's note that NullPointerException is thrown here -/
def vx_NoteN (p : Program) (l : Launch) (e : Env) (R : Room) (s : State) (m : MethodId) (args : Array Value) (below : List Frame) (meth : Method) (c : Code) (H : Heap) (locs : List Loc) (cells slots : Nat) (Q : State → Prop) (g : JFrame) : Prop :=
  ∀ T : State, T.heap = H → Stand p l e R s m args below meth c T locs cells slots → ∃ t, Steps p.tables e below ((T.setTop g).pushFrame (.throwNew "java/lang/NullPointerException" none none)) t ∧ Q t
theorem vx_npe {pc : Nat} {ls : Array Slot} {rest : List Value} {Q : State → Prop} (hexec : p.tables.exec = Jvm.exec) (hl : l.stackTraces = false) {nb : Nat} {A : Nat → Prop}
    (hat : ∀ w ∈ vx_atN nb, w.before args s = true) (hgood : ∀ w ∈ vx_atN nb, vx_ot w = true)
    (hU : vx_Zq Bundle.tN "UNASSIGNED_STACK" Bundle.steD A s s.heap) (hN : vx_Zq Bundle.tN "SUPPRESSED_SENTINEL" Bundle.listD A s s.heap) (hS : va_S A s.heap H locs) (hsize : ls.size = c.maxLocals)
    (hRframes : 7 < R.frames) (hRlocals : (rest.map fun v => v.category).sum + 10240 ≤ R.locals) (hRcells : cells + 1 ≤ R.cells) (hRslots : slots + nb ≤ R.slots) (hlocks : meth.locks = false)
    (k : ∀ (H1 : Heap) (q9 : Addr) (ce : Cell), H.size ≤ H1.size → (∀ q : Nat, q < H.size → H1[q]? = H[q]?) → va_S A s.heap H1 locs → H1[q9]? = some ce → ce.vm = .none → s.vm.findClass "java/lang/NullPointerException" = some ce.cls → vx_W p l e R s m args below meth c H1 locs (cells + 1) (slots + nb) Q (F0 m pc ls rest) q9) :
    vx_NoteN p l e R s m args below meth c H locs cells slots Q (F0 m pc ls rest) := by
  intro T hT X
  have htr : e.platform.stackTraces = false := (show e.platform.stackTraces = l.stackTraces by rw [X.admits.platform]).trans hl
  have Y := vx_rebase X (R' := { frames := R.frames, locals := R.locals, cells := 1, slots := nb }) (Nat.le_refl _) (Nat.le_refl _) hRcells hRslots
  have hhp : ((T.setVm s.vm).setFrames (.invoking m args :: below)).heap = H := hT
  have hW0 : s.WarmedH ((T.setVm s.vm).setFrames (.invoking m args :: below)).vm := State.WarmedH.refl s
  have hat' : ∀ w ∈ vx_atN nb, w.before args ((T.setVm s.vm).setFrames (.invoking m args :: below)) = true := fun w hw => vx_ot_at hW0 rfl (hgood w hw) (hat w hw)
  have hU' : vx_Zq Bundle.tN "UNASSIGNED_STACK" Bundle.steD A ((T.setVm s.vm).setFrames (.invoking m args :: below)) ((T.setVm s.vm).setFrames (.invoking m args :: below)).heap := by rw [hhp]; exact vx_Zq.moved hW0.alike (hU.kept hS.2.1)
  have hN' : vx_Zq Bundle.tN "SUPPRESSED_SENTINEL" Bundle.listD A ((T.setVm s.vm).setFrames (.invoking m args :: below)) ((T.setVm s.vm).setFrames (.invoking m args :: below)).heap := by rw [hhp]; exact vx_Zq.moved hW0.alike (hN.kept hS.2.1)
  obtain ⟨S, q, ce, st, Z, hce, hcl', hv⟩ := vx_npeAt Y hexec htr (n := nb) (vx_own hat' (vx_isRefq hU'.1) (vx_isRefq hN'.1) hU'.2.word hN'.2.word) (fun x hx => nomatch hx)
    (g := F0 m pc ls rest) rfl hsize hRframes (by show 2 * 0 + (rest.map fun v => v.category).sum + 10240 ≤ R.locals; omega) (by show 0 + 1 ≤ 1; omega) (by show 0 + nb ≤ nb; omega) hlocks
  obtain ⟨f1, f2⟩ := vx_frame Z.same
  have f1' : H.size ≤ S.heap.size := by rw [← hT]; exact f1
  have f2' : ∀ q : Nat, q < H.size → S.heap[q]? = H[q]? := fun q hq => by
    rw [← hT]
    exact f2 q (by rw [← hT] at hq; exact hq) (fun z hz => nomatch hz)
  have X5 := vx_back9 X Y Z
  have X6 : Stand p l e R s m args below meth c S locs (cells + 1) (slots + nb) := { X5 with same := X5.same.mono (by omega) (by omega) }
  obtain ⟨t, a1, b1⟩ := k S.heap q ce f1' f2' ⟨Nat.le_trans hS.1 f1', fun q h1 h2 => (f2' q (Nat.lt_of_lt_of_le h1 hS.1)).trans (hS.2.1 q h1 h2), hS.2.2⟩ hce hv hcl' S rfl X6
  exact ⟨t, st t a1, b1⟩
variable {Q : State → Prop} {cc : ByteArray} {pc : Nat} {ls : Array Slot} {rest : List Value}
theorem vx_idivZ (hexec : p.tables.exec = Jvm.exec) (hb : c.code = cc) {a b : Int32} (h0 : b = 0) (d : decode cc pc = .ok (.idiv, 1)) (k : vx_Note p l e R s m args below meth c H locs cells slots Q (F0 m pc ls rest) "java/lang/ArithmeticException" "/ by zero") :
    W p l e R s m args below meth c H locs cells slots Q (F0 m pc ls (.int b :: .int a :: rest)) := by
  intro T hT X
  obtain ⟨t, st, q⟩ := k T hT X
  exact ⟨t, X.idivZero hexec (g := F0 m pc ls (.int b :: .int a :: rest)) rfl (a := a) (rest := rest) (by rw [h0]) (by rw [hb]; exact d) t st, q⟩
theorem vx_iremZ (hexec : p.tables.exec = Jvm.exec) (hb : c.code = cc) {a b : Int32} (h0 : b = 0) (d : decode cc pc = .ok (.irem, 1)) (k : vx_Note p l e R s m args below meth c H locs cells slots Q (F0 m pc ls rest) "java/lang/ArithmeticException" "/ by zero") :
    W p l e R s m args below meth c H locs cells slots Q (F0 m pc ls (.int b :: .int a :: rest)) := by
  intro T hT X
  obtain ⟨t, st, q⟩ := k T hT X
  exact ⟨t, X.iremZero hexec (g := F0 m pc ls (.int b :: .int a :: rest)) rfl (a := a) (rest := rest) (by rw [h0]) (by rw [hb]; exact d) t st, q⟩
theorem vx_ldivZ (hexec : p.tables.exec = Jvm.exec) (hb : c.code = cc) {a b : Int64} (h0 : b = 0) (d : decode cc pc = .ok (.ldiv, 1)) (k : vx_Note p l e R s m args below meth c H locs cells slots Q (F0 m pc ls rest) "java/lang/ArithmeticException" "/ by zero") :
    W p l e R s m args below meth c H locs cells slots Q (F0 m pc ls (.long b :: .long a :: rest)) := by
  intro T hT X
  obtain ⟨t, st, q⟩ := k T hT X
  exact ⟨t, X.ldivZero hexec (g := F0 m pc ls (.long b :: .long a :: rest)) rfl (a := a) (rest := rest) (by rw [h0]) (by rw [hb]; exact d) t st, q⟩
theorem vx_lremZ (hexec : p.tables.exec = Jvm.exec) (hb : c.code = cc) {a b : Int64} (h0 : b = 0) (d : decode cc pc = .ok (.lrem, 1)) (k : vx_Note p l e R s m args below meth c H locs cells slots Q (F0 m pc ls rest) "java/lang/ArithmeticException" "/ by zero") :
    W p l e R s m args below meth c H locs cells slots Q (F0 m pc ls (.long b :: .long a :: rest)) := by
  intro T hT X
  obtain ⟨t, st, q⟩ := k T hT X
  exact ⟨t, X.lremZero hexec (g := F0 m pc ls (.long b :: .long a :: rest)) rfl (a := a) (rest := rest) (by rw [h0]) (by rw [hb]; exact d) t st, q⟩
theorem vx_ialdZ {D : va_G} {cl : List vw_C} {ws : va_W} {tys : List (ClassId × FieldType)} {a : Nat} (hexec : p.tables.exec = Jvm.exec) (hb : c.code = cc) (hK : va_K D cl tys s) (hP : va_P D cl ws H) (q0 t0 : Nat) {cA : ClassId} {n : Nat} {f : Nat → Int32} (ha : ws[q0]? = some (a, .inl (cA, n, .inl f))) (ht : tys[t0]? = some (cA, .int)) {i : Int32} (hout : ¬ vp_in i n) (hdg : decode cc pc = .ok (.iaload, 1))
    (k : ∀ tx : String, tx = (toString "Index " ++ toString i ++ toString " out of bounds for length " ++ toString n : String) → vx_Note p l e R s m args below meth c H locs cells slots Q (F0 m pc ls rest) "java/lang/ArrayIndexOutOfBoundsException" tx) : W p l e R s m args below meth c H locs cells slots Q (F0 m pc ls (.int i :: .ref a :: rest)) := by
  intro T hT X
  obtain ⟨t, st, q⟩ := k _ rfl T hT X
  refine ⟨t, ?_, q⟩
  have h1 := X.ialoadOut hexec (by rw [hT]; exact hP q0 _ ha) ((hK.2 t0 _ ht).1 n (fun j => .int (f j))) (j := i) (by show (i < 0 ∨ (arrV _ _ _).slots.size ≤ _); rw [arrV_size]; exact Classical.byContradiction hout) (g := F0 m pc ls (.int i :: .ref a :: rest)) rfl (rest := rest) rfl (by rw [hb]; exact hdg) t
  simp only [arrV_size] at h1
  exact h1 st
theorem vx_iastZ {D : va_G} {cl : List vw_C} {ws : va_W} {tys : List (ClassId × FieldType)} {a : Nat} (hexec : p.tables.exec = Jvm.exec) (hb : c.code = cc) (hK : va_K D cl tys s) (hP : va_P D cl ws H) (q0 t0 : Nat) {cA : ClassId} {n : Nat} {f : Nat → Int32} (ha : ws[q0]? = some (a, .inl (cA, n, .inl f))) (ht : tys[t0]? = some (cA, .int)) {i : Int32} {x : Int32} (hout : ¬ vp_in i n) (hdg : decode cc pc = .ok (.iastore, 1))
    (k : ∀ tx : String, tx = (toString "Index " ++ toString i ++ toString " out of bounds for length " ++ toString n : String) → vx_Note p l e R s m args below meth c H locs cells slots Q (F0 m pc ls rest) "java/lang/ArrayIndexOutOfBoundsException" tx) : W p l e R s m args below meth c H locs cells slots Q (F0 m pc ls (.int x :: .int i :: .ref a :: rest)) := by
  intro T hT X
  obtain ⟨t, st, q⟩ := k _ rfl T hT X
  refine ⟨t, ?_, q⟩
  have h1 := X.iastoreOut hexec (by rw [hT]; exact hP q0 _ ha) ((hK.2 t0 _ ht).1 n (fun j => .int (f j))) (j := i) (by show (i < 0 ∨ (arrV _ _ _).slots.size ≤ _); rw [arrV_size]; exact Classical.byContradiction hout) (g := F0 m pc ls (.int x :: .int i :: .ref a :: rest)) rfl (rest := rest) rfl (by rw [hb]; exact hdg) t
  simp only [arrV_size] at h1
  exact h1 st
theorem vx_baldZ {D : va_G} {cl : List vw_C} {ws : va_W} {tys : List (ClassId × FieldType)} {a : Nat} (hexec : p.tables.exec = Jvm.exec) (hb : c.code = cc) (hK : va_K D cl tys s) (hP : va_P D cl ws H) (q0 t0 : Nat) {cA : ClassId} {n : Nat} {f : Nat → Int32} (ha : ws[q0]? = some (a, .inl (cA, n, .inl f))) (ht : tys[t0]? = some (cA, .byte)) {i : Int32} (hout : ¬ vp_in i n) (hdg : decode cc pc = .ok (.baload, 1))
    (k : ∀ tx : String, tx = (toString "Index " ++ toString i ++ toString " out of bounds for length " ++ toString n : String) → vx_Note p l e R s m args below meth c H locs cells slots Q (F0 m pc ls rest) "java/lang/ArrayIndexOutOfBoundsException" tx) : W p l e R s m args below meth c H locs cells slots Q (F0 m pc ls (.int i :: .ref a :: rest)) := by
  intro T hT X
  obtain ⟨t, st, q⟩ := k _ rfl T hT X
  refine ⟨t, ?_, q⟩
  have h1 := X.baloadOut hexec (by rw [hT]; exact hP q0 _ ha) ((hK.2 t0 _ ht).1 n (fun j => .int (f j))) (j := i) (by show (i < 0 ∨ (arrV _ _ _).slots.size ≤ _); rw [arrV_size]; exact Classical.byContradiction hout) (g := F0 m pc ls (.int i :: .ref a :: rest)) rfl (rest := rest) rfl (by rw [hb]; exact hdg) t
  simp only [arrV_size] at h1
  exact h1 st
theorem vx_bastZ {D : va_G} {cl : List vw_C} {ws : va_W} {tys : List (ClassId × FieldType)} {a : Nat} (hexec : p.tables.exec = Jvm.exec) (hb : c.code = cc) (hK : va_K D cl tys s) (hP : va_P D cl ws H) (q0 t0 : Nat) {cA : ClassId} {n : Nat} {f : Nat → Int32} (ha : ws[q0]? = some (a, .inl (cA, n, .inl f))) (ht : tys[t0]? = some (cA, .byte)) {i : Int32} {x : Int32} (hout : ¬ vp_in i n) (hdg : decode cc pc = .ok (.bastore, 1))
    (k : ∀ tx : String, tx = (toString "Index " ++ toString i ++ toString " out of bounds for length " ++ toString n : String) → vx_Note p l e R s m args below meth c H locs cells slots Q (F0 m pc ls rest) "java/lang/ArrayIndexOutOfBoundsException" tx) : W p l e R s m args below meth c H locs cells slots Q (F0 m pc ls (.int x :: .int i :: .ref a :: rest)) := by
  intro T hT X
  obtain ⟨t, st, q⟩ := k _ rfl T hT X
  refine ⟨t, ?_, q⟩
  have h1 := X.bastoreOut hexec (by rw [hT]; exact hP q0 _ ha) ((hK.2 t0 _ ht).1 n (fun j => .int (f j))) (j := i) (by show (i < 0 ∨ (arrV _ _ _).slots.size ≤ _); rw [arrV_size]; exact Classical.byContradiction hout) (g := F0 m pc ls (.int x :: .int i :: .ref a :: rest)) rfl (rest := rest) rfl (by rw [hb]; exact hdg) t
  simp only [arrV_size] at h1
  exact h1 st
theorem vx_zaldZ {D : va_G} {cl : List vw_C} {ws : va_W} {tys : List (ClassId × FieldType)} {a : Nat} (hexec : p.tables.exec = Jvm.exec) (hb : c.code = cc) (hK : va_K D cl tys s) (hP : va_P D cl ws H) (q0 t0 : Nat) {cA : ClassId} {n : Nat} {f : Nat → Int32} (ha : ws[q0]? = some (a, .inl (cA, n, .inl f))) (ht : tys[t0]? = some (cA, .boolean)) {i : Int32} (hout : ¬ vp_in i n) (hdg : decode cc pc = .ok (.baload, 1))
    (k : ∀ tx : String, tx = (toString "Index " ++ toString i ++ toString " out of bounds for length " ++ toString n : String) → vx_Note p l e R s m args below meth c H locs cells slots Q (F0 m pc ls rest) "java/lang/ArrayIndexOutOfBoundsException" tx) : W p l e R s m args below meth c H locs cells slots Q (F0 m pc ls (.int i :: .ref a :: rest)) := by
  intro T hT X
  obtain ⟨t, st, q⟩ := k _ rfl T hT X
  refine ⟨t, ?_, q⟩
  have h1 := X.baloadOut hexec (by rw [hT]; exact hP q0 _ ha) ((hK.2 t0 _ ht).1 n (fun j => .int (f j))) (j := i) (by show (i < 0 ∨ (arrV _ _ _).slots.size ≤ _); rw [arrV_size]; exact Classical.byContradiction hout) (g := F0 m pc ls (.int i :: .ref a :: rest)) rfl (rest := rest) rfl (by rw [hb]; exact hdg) t
  simp only [arrV_size] at h1
  exact h1 st
theorem vx_zastZ {D : va_G} {cl : List vw_C} {ws : va_W} {tys : List (ClassId × FieldType)} {a : Nat} (hexec : p.tables.exec = Jvm.exec) (hb : c.code = cc) (hK : va_K D cl tys s) (hP : va_P D cl ws H) (q0 t0 : Nat) {cA : ClassId} {n : Nat} {f : Nat → Int32} (ha : ws[q0]? = some (a, .inl (cA, n, .inl f))) (ht : tys[t0]? = some (cA, .boolean)) {i : Int32} {x : Int32} (hout : ¬ vp_in i n) (hdg : decode cc pc = .ok (.bastore, 1))
    (k : ∀ tx : String, tx = (toString "Index " ++ toString i ++ toString " out of bounds for length " ++ toString n : String) → vx_Note p l e R s m args below meth c H locs cells slots Q (F0 m pc ls rest) "java/lang/ArrayIndexOutOfBoundsException" tx) : W p l e R s m args below meth c H locs cells slots Q (F0 m pc ls (.int x :: .int i :: .ref a :: rest)) := by
  intro T hT X
  obtain ⟨t, st, q⟩ := k _ rfl T hT X
  refine ⟨t, ?_, q⟩
  have h1 := X.bastoreOut hexec (by rw [hT]; exact hP q0 _ ha) ((hK.2 t0 _ ht).1 n (fun j => .int (f j))) (j := i) (by show (i < 0 ∨ (arrV _ _ _).slots.size ≤ _); rw [arrV_size]; exact Classical.byContradiction hout) (g := F0 m pc ls (.int x :: .int i :: .ref a :: rest)) rfl (rest := rest) rfl (by rw [hb]; exact hdg) t
  simp only [arrV_size] at h1
  exact h1 st
theorem vx_caldZ {D : va_G} {cl : List vw_C} {ws : va_W} {tys : List (ClassId × FieldType)} {a : Nat} (hexec : p.tables.exec = Jvm.exec) (hb : c.code = cc) (hK : va_K D cl tys s) (hP : va_P D cl ws H) (q0 t0 : Nat) {cA : ClassId} {n : Nat} {f : Nat → Int32} (ha : ws[q0]? = some (a, .inl (cA, n, .inl f))) (ht : tys[t0]? = some (cA, .char)) {i : Int32} (hout : ¬ vp_in i n) (hdg : decode cc pc = .ok (.caload, 1))
    (k : ∀ tx : String, tx = (toString "Index " ++ toString i ++ toString " out of bounds for length " ++ toString n : String) → vx_Note p l e R s m args below meth c H locs cells slots Q (F0 m pc ls rest) "java/lang/ArrayIndexOutOfBoundsException" tx) : W p l e R s m args below meth c H locs cells slots Q (F0 m pc ls (.int i :: .ref a :: rest)) := by
  intro T hT X
  obtain ⟨t, st, q⟩ := k _ rfl T hT X
  refine ⟨t, ?_, q⟩
  have h1 := X.caloadOut hexec (by rw [hT]; exact hP q0 _ ha) ((hK.2 t0 _ ht).1 n (fun j => .int (f j))) (j := i) (by show (i < 0 ∨ (arrV _ _ _).slots.size ≤ _); rw [arrV_size]; exact Classical.byContradiction hout) (g := F0 m pc ls (.int i :: .ref a :: rest)) rfl (rest := rest) rfl (by rw [hb]; exact hdg) t
  simp only [arrV_size] at h1
  exact h1 st
theorem vx_castZ {D : va_G} {cl : List vw_C} {ws : va_W} {tys : List (ClassId × FieldType)} {a : Nat} (hexec : p.tables.exec = Jvm.exec) (hb : c.code = cc) (hK : va_K D cl tys s) (hP : va_P D cl ws H) (q0 t0 : Nat) {cA : ClassId} {n : Nat} {f : Nat → Int32} (ha : ws[q0]? = some (a, .inl (cA, n, .inl f))) (ht : tys[t0]? = some (cA, .char)) {i : Int32} {x : Int32} (hout : ¬ vp_in i n) (hdg : decode cc pc = .ok (.castore, 1))
    (k : ∀ tx : String, tx = (toString "Index " ++ toString i ++ toString " out of bounds for length " ++ toString n : String) → vx_Note p l e R s m args below meth c H locs cells slots Q (F0 m pc ls rest) "java/lang/ArrayIndexOutOfBoundsException" tx) : W p l e R s m args below meth c H locs cells slots Q (F0 m pc ls (.int x :: .int i :: .ref a :: rest)) := by
  intro T hT X
  obtain ⟨t, st, q⟩ := k _ rfl T hT X
  refine ⟨t, ?_, q⟩
  have h1 := X.castoreOut hexec (by rw [hT]; exact hP q0 _ ha) ((hK.2 t0 _ ht).1 n (fun j => .int (f j))) (j := i) (by show (i < 0 ∨ (arrV _ _ _).slots.size ≤ _); rw [arrV_size]; exact Classical.byContradiction hout) (g := F0 m pc ls (.int x :: .int i :: .ref a :: rest)) rfl (rest := rest) rfl (by rw [hb]; exact hdg) t
  simp only [arrV_size] at h1
  exact h1 st
theorem vx_saldZ {D : va_G} {cl : List vw_C} {ws : va_W} {tys : List (ClassId × FieldType)} {a : Nat} (hexec : p.tables.exec = Jvm.exec) (hb : c.code = cc) (hK : va_K D cl tys s) (hP : va_P D cl ws H) (q0 t0 : Nat) {cA : ClassId} {n : Nat} {f : Nat → Int32} (ha : ws[q0]? = some (a, .inl (cA, n, .inl f))) (ht : tys[t0]? = some (cA, .short)) {i : Int32} (hout : ¬ vp_in i n) (hdg : decode cc pc = .ok (.saload, 1))
    (k : ∀ tx : String, tx = (toString "Index " ++ toString i ++ toString " out of bounds for length " ++ toString n : String) → vx_Note p l e R s m args below meth c H locs cells slots Q (F0 m pc ls rest) "java/lang/ArrayIndexOutOfBoundsException" tx) : W p l e R s m args below meth c H locs cells slots Q (F0 m pc ls (.int i :: .ref a :: rest)) := by
  intro T hT X
  obtain ⟨t, st, q⟩ := k _ rfl T hT X
  refine ⟨t, ?_, q⟩
  have h1 := X.saloadOut hexec (by rw [hT]; exact hP q0 _ ha) ((hK.2 t0 _ ht).1 n (fun j => .int (f j))) (j := i) (by show (i < 0 ∨ (arrV _ _ _).slots.size ≤ _); rw [arrV_size]; exact Classical.byContradiction hout) (g := F0 m pc ls (.int i :: .ref a :: rest)) rfl (rest := rest) rfl (by rw [hb]; exact hdg) t
  simp only [arrV_size] at h1
  exact h1 st
theorem vx_sastZ {D : va_G} {cl : List vw_C} {ws : va_W} {tys : List (ClassId × FieldType)} {a : Nat} (hexec : p.tables.exec = Jvm.exec) (hb : c.code = cc) (hK : va_K D cl tys s) (hP : va_P D cl ws H) (q0 t0 : Nat) {cA : ClassId} {n : Nat} {f : Nat → Int32} (ha : ws[q0]? = some (a, .inl (cA, n, .inl f))) (ht : tys[t0]? = some (cA, .short)) {i : Int32} {x : Int32} (hout : ¬ vp_in i n) (hdg : decode cc pc = .ok (.sastore, 1))
    (k : ∀ tx : String, tx = (toString "Index " ++ toString i ++ toString " out of bounds for length " ++ toString n : String) → vx_Note p l e R s m args below meth c H locs cells slots Q (F0 m pc ls rest) "java/lang/ArrayIndexOutOfBoundsException" tx) : W p l e R s m args below meth c H locs cells slots Q (F0 m pc ls (.int x :: .int i :: .ref a :: rest)) := by
  intro T hT X
  obtain ⟨t, st, q⟩ := k _ rfl T hT X
  refine ⟨t, ?_, q⟩
  have h1 := X.sastoreOut hexec (by rw [hT]; exact hP q0 _ ha) ((hK.2 t0 _ ht).1 n (fun j => .int (f j))) (j := i) (by show (i < 0 ∨ (arrV _ _ _).slots.size ≤ _); rw [arrV_size]; exact Classical.byContradiction hout) (g := F0 m pc ls (.int x :: .int i :: .ref a :: rest)) rfl (rest := rest) rfl (by rw [hb]; exact hdg) t
  simp only [arrV_size] at h1
  exact h1 st
theorem vx_laldZ {D : va_G} {cl : List vw_C} {ws : va_W} {tys : List (ClassId × FieldType)} {a : Nat} (hexec : p.tables.exec = Jvm.exec) (hb : c.code = cc) (hK : va_K D cl tys s) (hP : va_P D cl ws H) (q0 t0 : Nat) {cA : ClassId} {n : Nat} {f : Nat → Int64} (ha : ws[q0]? = some (a, .inl (cA, n, .inr (.inl f)))) (ht : tys[t0]? = some (cA, .long)) {i : Int32} (hout : ¬ vp_in i n) (hdg : decode cc pc = .ok (.laload, 1))
    (k : ∀ tx : String, tx = (toString "Index " ++ toString i ++ toString " out of bounds for length " ++ toString n : String) → vx_Note p l e R s m args below meth c H locs cells slots Q (F0 m pc ls rest) "java/lang/ArrayIndexOutOfBoundsException" tx) : W p l e R s m args below meth c H locs cells slots Q (F0 m pc ls (.int i :: .ref a :: rest)) := by
  intro T hT X
  obtain ⟨t, st, q⟩ := k _ rfl T hT X
  refine ⟨t, ?_, q⟩
  have h1 := X.laloadOut hexec (by rw [hT]; exact hP q0 _ ha) ((hK.2 t0 _ ht).1 n (fun j => .long (f j))) (j := i) (by show (i < 0 ∨ (arrV _ _ _).slots.size ≤ _); rw [arrV_size]; exact Classical.byContradiction hout) (g := F0 m pc ls (.int i :: .ref a :: rest)) rfl (rest := rest) rfl (by rw [hb]; exact hdg) t
  simp only [arrV_size] at h1
  exact h1 st
theorem vx_lastZ {D : va_G} {cl : List vw_C} {ws : va_W} {tys : List (ClassId × FieldType)} {a : Nat} (hexec : p.tables.exec = Jvm.exec) (hb : c.code = cc) (hK : va_K D cl tys s) (hP : va_P D cl ws H) (q0 t0 : Nat) {cA : ClassId} {n : Nat} {f : Nat → Int64} (ha : ws[q0]? = some (a, .inl (cA, n, .inr (.inl f)))) (ht : tys[t0]? = some (cA, .long)) {i : Int32} {x : Int64} (hout : ¬ vp_in i n) (hdg : decode cc pc = .ok (.lastore, 1))
    (k : ∀ tx : String, tx = (toString "Index " ++ toString i ++ toString " out of bounds for length " ++ toString n : String) → vx_Note p l e R s m args below meth c H locs cells slots Q (F0 m pc ls rest) "java/lang/ArrayIndexOutOfBoundsException" tx) : W p l e R s m args below meth c H locs cells slots Q (F0 m pc ls (.long x :: .int i :: .ref a :: rest)) := by
  intro T hT X
  obtain ⟨t, st, q⟩ := k _ rfl T hT X
  refine ⟨t, ?_, q⟩
  have h1 := X.lastoreOut hexec (by rw [hT]; exact hP q0 _ ha) ((hK.2 t0 _ ht).1 n (fun j => .long (f j))) (j := i) (by show (i < 0 ∨ (arrV _ _ _).slots.size ≤ _); rw [arrV_size]; exact Classical.byContradiction hout) (g := F0 m pc ls (.long x :: .int i :: .ref a :: rest)) rfl (rest := rest) rfl (by rw [hb]; exact hdg) t
  simp only [arrV_size] at h1
  exact h1 st
theorem vx_faldZ {D : va_G} {cl : List vw_C} {ws : va_W} {tys : List (ClassId × FieldType)} {a : Nat} (hexec : p.tables.exec = Jvm.exec) (hb : c.code = cc) (hK : va_K D cl tys s) (hP : va_P D cl ws H) (q0 t0 : Nat) {cA : ClassId} {n : Nat} {f : Nat → UInt32} (ha : ws[q0]? = some (a, .inl (cA, n, .inr (.inr (.inl f))))) (ht : tys[t0]? = some (cA, .float)) {i : Int32} (hout : ¬ vp_in i n) (hdg : decode cc pc = .ok (.faload, 1))
    (k : ∀ tx : String, tx = (toString "Index " ++ toString i ++ toString " out of bounds for length " ++ toString n : String) → vx_Note p l e R s m args below meth c H locs cells slots Q (F0 m pc ls rest) "java/lang/ArrayIndexOutOfBoundsException" tx) : W p l e R s m args below meth c H locs cells slots Q (F0 m pc ls (.int i :: .ref a :: rest)) := by
  intro T hT X
  obtain ⟨t, st, q⟩ := k _ rfl T hT X
  refine ⟨t, ?_, q⟩
  have h1 := X.faloadOut hexec (by rw [hT]; exact hP q0 _ ha) ((hK.2 t0 _ ht).1 n (fun j => .float (f j))) (j := i) (by show (i < 0 ∨ (arrV _ _ _).slots.size ≤ _); rw [arrV_size]; exact Classical.byContradiction hout) (g := F0 m pc ls (.int i :: .ref a :: rest)) rfl (rest := rest) rfl (by rw [hb]; exact hdg) t
  simp only [arrV_size] at h1
  exact h1 st
theorem vx_fastZ {D : va_G} {cl : List vw_C} {ws : va_W} {tys : List (ClassId × FieldType)} {a : Nat} (hexec : p.tables.exec = Jvm.exec) (hb : c.code = cc) (hK : va_K D cl tys s) (hP : va_P D cl ws H) (q0 t0 : Nat) {cA : ClassId} {n : Nat} {f : Nat → UInt32} (ha : ws[q0]? = some (a, .inl (cA, n, .inr (.inr (.inl f))))) (ht : tys[t0]? = some (cA, .float)) {i : Int32} {x : UInt32} (hout : ¬ vp_in i n) (hdg : decode cc pc = .ok (.fastore, 1))
    (k : ∀ tx : String, tx = (toString "Index " ++ toString i ++ toString " out of bounds for length " ++ toString n : String) → vx_Note p l e R s m args below meth c H locs cells slots Q (F0 m pc ls rest) "java/lang/ArrayIndexOutOfBoundsException" tx) : W p l e R s m args below meth c H locs cells slots Q (F0 m pc ls (.float x :: .int i :: .ref a :: rest)) := by
  intro T hT X
  obtain ⟨t, st, q⟩ := k _ rfl T hT X
  refine ⟨t, ?_, q⟩
  have h1 := X.fastoreOut hexec (by rw [hT]; exact hP q0 _ ha) ((hK.2 t0 _ ht).1 n (fun j => .float (f j))) (j := i) (by show (i < 0 ∨ (arrV _ _ _).slots.size ≤ _); rw [arrV_size]; exact Classical.byContradiction hout) (g := F0 m pc ls (.float x :: .int i :: .ref a :: rest)) rfl (rest := rest) rfl (by rw [hb]; exact hdg) t
  simp only [arrV_size] at h1
  exact h1 st
theorem vx_daldZ {D : va_G} {cl : List vw_C} {ws : va_W} {tys : List (ClassId × FieldType)} {a : Nat} (hexec : p.tables.exec = Jvm.exec) (hb : c.code = cc) (hK : va_K D cl tys s) (hP : va_P D cl ws H) (q0 t0 : Nat) {cA : ClassId} {n : Nat} {f : Nat → UInt64} (ha : ws[q0]? = some (a, .inl (cA, n, .inr (.inr (.inr (.inl f)))))) (ht : tys[t0]? = some (cA, .double)) {i : Int32} (hout : ¬ vp_in i n) (hdg : decode cc pc = .ok (.daload, 1))
    (k : ∀ tx : String, tx = (toString "Index " ++ toString i ++ toString " out of bounds for length " ++ toString n : String) → vx_Note p l e R s m args below meth c H locs cells slots Q (F0 m pc ls rest) "java/lang/ArrayIndexOutOfBoundsException" tx) : W p l e R s m args below meth c H locs cells slots Q (F0 m pc ls (.int i :: .ref a :: rest)) := by
  intro T hT X
  obtain ⟨t, st, q⟩ := k _ rfl T hT X
  refine ⟨t, ?_, q⟩
  have h1 := X.daloadOut hexec (by rw [hT]; exact hP q0 _ ha) ((hK.2 t0 _ ht).1 n (fun j => .double (f j))) (j := i) (by show (i < 0 ∨ (arrV _ _ _).slots.size ≤ _); rw [arrV_size]; exact Classical.byContradiction hout) (g := F0 m pc ls (.int i :: .ref a :: rest)) rfl (rest := rest) rfl (by rw [hb]; exact hdg) t
  simp only [arrV_size] at h1
  exact h1 st
theorem vx_dastZ {D : va_G} {cl : List vw_C} {ws : va_W} {tys : List (ClassId × FieldType)} {a : Nat} (hexec : p.tables.exec = Jvm.exec) (hb : c.code = cc) (hK : va_K D cl tys s) (hP : va_P D cl ws H) (q0 t0 : Nat) {cA : ClassId} {n : Nat} {f : Nat → UInt64} (ha : ws[q0]? = some (a, .inl (cA, n, .inr (.inr (.inr (.inl f)))))) (ht : tys[t0]? = some (cA, .double)) {i : Int32} {x : UInt64} (hout : ¬ vp_in i n) (hdg : decode cc pc = .ok (.dastore, 1))
    (k : ∀ tx : String, tx = (toString "Index " ++ toString i ++ toString " out of bounds for length " ++ toString n : String) → vx_Note p l e R s m args below meth c H locs cells slots Q (F0 m pc ls rest) "java/lang/ArrayIndexOutOfBoundsException" tx) : W p l e R s m args below meth c H locs cells slots Q (F0 m pc ls (.double x :: .int i :: .ref a :: rest)) := by
  intro T hT X
  obtain ⟨t, st, q⟩ := k _ rfl T hT X
  refine ⟨t, ?_, q⟩
  have h1 := X.dastoreOut hexec (by rw [hT]; exact hP q0 _ ha) ((hK.2 t0 _ ht).1 n (fun j => .double (f j))) (j := i) (by show (i < 0 ∨ (arrV _ _ _).slots.size ≤ _); rw [arrV_size]; exact Classical.byContradiction hout) (g := F0 m pc ls (.double x :: .int i :: .ref a :: rest)) rfl (rest := rest) rfl (by rw [hb]; exact hdg) t
  simp only [arrV_size] at h1
  exact h1 st
theorem vx_arraylengthN (hexec : p.tables.exec = Jvm.exec) (hb : c.code = cc) (hdg : decode cc pc = .ok (.arraylength, 1)) (k : vx_NoteN p l e R s m args below meth c H locs cells slots Q (F0 m pc ls rest)) : W p l e R s m args below meth c H locs cells slots Q (F0 m pc ls (.null :: rest)) := by
  intro T hT X
  obtain ⟨t, st, q⟩ := k T hT X
  exact ⟨t, X.arraylengthNull hexec (g := F0 m pc ls (.null :: rest)) rfl (rest := rest) rfl (by rw [hb]; exact hdg) t st, q⟩
theorem vx_ialoadN (hexec : p.tables.exec = Jvm.exec) (hb : c.code = cc) {i : Int32} (hdg : decode cc pc = .ok (.iaload, 1)) (k : vx_NoteN p l e R s m args below meth c H locs cells slots Q (F0 m pc ls rest)) : W p l e R s m args below meth c H locs cells slots Q (F0 m pc ls (.int i :: .null :: rest)) := by
  intro T hT X
  obtain ⟨t, st, q⟩ := k T hT X
  exact ⟨t, X.ialoadNull hexec (g := F0 m pc ls (.int i :: .null :: rest)) rfl (rest := rest) rfl (by rw [hb]; exact hdg) t st, q⟩
theorem vx_laloadN (hexec : p.tables.exec = Jvm.exec) (hb : c.code = cc) {i : Int32} (hdg : decode cc pc = .ok (.laload, 1)) (k : vx_NoteN p l e R s m args below meth c H locs cells slots Q (F0 m pc ls rest)) : W p l e R s m args below meth c H locs cells slots Q (F0 m pc ls (.int i :: .null :: rest)) := by
  intro T hT X
  obtain ⟨t, st, q⟩ := k T hT X
  exact ⟨t, X.laloadNull hexec (g := F0 m pc ls (.int i :: .null :: rest)) rfl (rest := rest) rfl (by rw [hb]; exact hdg) t st, q⟩
theorem vx_faloadN (hexec : p.tables.exec = Jvm.exec) (hb : c.code = cc) {i : Int32} (hdg : decode cc pc = .ok (.faload, 1)) (k : vx_NoteN p l e R s m args below meth c H locs cells slots Q (F0 m pc ls rest)) : W p l e R s m args below meth c H locs cells slots Q (F0 m pc ls (.int i :: .null :: rest)) := by
  intro T hT X
  obtain ⟨t, st, q⟩ := k T hT X
  exact ⟨t, X.faloadNull hexec (g := F0 m pc ls (.int i :: .null :: rest)) rfl (rest := rest) rfl (by rw [hb]; exact hdg) t st, q⟩
theorem vx_daloadN (hexec : p.tables.exec = Jvm.exec) (hb : c.code = cc) {i : Int32} (hdg : decode cc pc = .ok (.daload, 1)) (k : vx_NoteN p l e R s m args below meth c H locs cells slots Q (F0 m pc ls rest)) : W p l e R s m args below meth c H locs cells slots Q (F0 m pc ls (.int i :: .null :: rest)) := by
  intro T hT X
  obtain ⟨t, st, q⟩ := k T hT X
  exact ⟨t, X.daloadNull hexec (g := F0 m pc ls (.int i :: .null :: rest)) rfl (rest := rest) rfl (by rw [hb]; exact hdg) t st, q⟩
theorem vx_aaloadN (hexec : p.tables.exec = Jvm.exec) (hb : c.code = cc) {i : Int32} (hdg : decode cc pc = .ok (.aaload, 1)) (k : vx_NoteN p l e R s m args below meth c H locs cells slots Q (F0 m pc ls rest)) : W p l e R s m args below meth c H locs cells slots Q (F0 m pc ls (.int i :: .null :: rest)) := by
  intro T hT X
  obtain ⟨t, st, q⟩ := k T hT X
  exact ⟨t, X.aaloadNull hexec (g := F0 m pc ls (.int i :: .null :: rest)) rfl (rest := rest) rfl (by rw [hb]; exact hdg) t st, q⟩
theorem vx_baloadN (hexec : p.tables.exec = Jvm.exec) (hb : c.code = cc) {i : Int32} (hdg : decode cc pc = .ok (.baload, 1)) (k : vx_NoteN p l e R s m args below meth c H locs cells slots Q (F0 m pc ls rest)) : W p l e R s m args below meth c H locs cells slots Q (F0 m pc ls (.int i :: .null :: rest)) := by
  intro T hT X
  obtain ⟨t, st, q⟩ := k T hT X
  exact ⟨t, X.baloadNull hexec (g := F0 m pc ls (.int i :: .null :: rest)) rfl (rest := rest) rfl (by rw [hb]; exact hdg) t st, q⟩
theorem vx_caloadN (hexec : p.tables.exec = Jvm.exec) (hb : c.code = cc) {i : Int32} (hdg : decode cc pc = .ok (.caload, 1)) (k : vx_NoteN p l e R s m args below meth c H locs cells slots Q (F0 m pc ls rest)) : W p l e R s m args below meth c H locs cells slots Q (F0 m pc ls (.int i :: .null :: rest)) := by
  intro T hT X
  obtain ⟨t, st, q⟩ := k T hT X
  exact ⟨t, X.caloadNull hexec (g := F0 m pc ls (.int i :: .null :: rest)) rfl (rest := rest) rfl (by rw [hb]; exact hdg) t st, q⟩
theorem vx_saloadN (hexec : p.tables.exec = Jvm.exec) (hb : c.code = cc) {i : Int32} (hdg : decode cc pc = .ok (.saload, 1)) (k : vx_NoteN p l e R s m args below meth c H locs cells slots Q (F0 m pc ls rest)) : W p l e R s m args below meth c H locs cells slots Q (F0 m pc ls (.int i :: .null :: rest)) := by
  intro T hT X
  obtain ⟨t, st, q⟩ := k T hT X
  exact ⟨t, X.saloadNull hexec (g := F0 m pc ls (.int i :: .null :: rest)) rfl (rest := rest) rfl (by rw [hb]; exact hdg) t st, q⟩
theorem vx_iastoreN (hexec : p.tables.exec = Jvm.exec) (hb : c.code = cc) {x : Int32} {i : Int32} (hdg : decode cc pc = .ok (.iastore, 1)) (k : vx_NoteN p l e R s m args below meth c H locs cells slots Q (F0 m pc ls rest)) : W p l e R s m args below meth c H locs cells slots Q (F0 m pc ls (.int x :: .int i :: .null :: rest)) := by
  intro T hT X
  obtain ⟨t, st, q⟩ := k T hT X
  exact ⟨t, X.iastoreNull hexec (g := F0 m pc ls (.int x :: .int i :: .null :: rest)) rfl (rest := rest) rfl (by rw [hb]; exact hdg) t st, q⟩
theorem vx_lastoreN (hexec : p.tables.exec = Jvm.exec) (hb : c.code = cc) {x : Int64} {i : Int32} (hdg : decode cc pc = .ok (.lastore, 1)) (k : vx_NoteN p l e R s m args below meth c H locs cells slots Q (F0 m pc ls rest)) : W p l e R s m args below meth c H locs cells slots Q (F0 m pc ls (.long x :: .int i :: .null :: rest)) := by
  intro T hT X
  obtain ⟨t, st, q⟩ := k T hT X
  exact ⟨t, X.lastoreNull hexec (g := F0 m pc ls (.long x :: .int i :: .null :: rest)) rfl (rest := rest) rfl (by rw [hb]; exact hdg) t st, q⟩
theorem vx_fastoreN (hexec : p.tables.exec = Jvm.exec) (hb : c.code = cc) {x : UInt32} {i : Int32} (hdg : decode cc pc = .ok (.fastore, 1)) (k : vx_NoteN p l e R s m args below meth c H locs cells slots Q (F0 m pc ls rest)) : W p l e R s m args below meth c H locs cells slots Q (F0 m pc ls (.float x :: .int i :: .null :: rest)) := by
  intro T hT X
  obtain ⟨t, st, q⟩ := k T hT X
  exact ⟨t, X.fastoreNull hexec (g := F0 m pc ls (.float x :: .int i :: .null :: rest)) rfl (rest := rest) rfl (by rw [hb]; exact hdg) t st, q⟩
theorem vx_dastoreN (hexec : p.tables.exec = Jvm.exec) (hb : c.code = cc) {x : UInt64} {i : Int32} (hdg : decode cc pc = .ok (.dastore, 1)) (k : vx_NoteN p l e R s m args below meth c H locs cells slots Q (F0 m pc ls rest)) : W p l e R s m args below meth c H locs cells slots Q (F0 m pc ls (.double x :: .int i :: .null :: rest)) := by
  intro T hT X
  obtain ⟨t, st, q⟩ := k T hT X
  exact ⟨t, X.dastoreNull hexec (g := F0 m pc ls (.double x :: .int i :: .null :: rest)) rfl (rest := rest) rfl (by rw [hb]; exact hdg) t st, q⟩
theorem vx_bastoreN (hexec : p.tables.exec = Jvm.exec) (hb : c.code = cc) {x : Int32} {i : Int32} (hdg : decode cc pc = .ok (.bastore, 1)) (k : vx_NoteN p l e R s m args below meth c H locs cells slots Q (F0 m pc ls rest)) : W p l e R s m args below meth c H locs cells slots Q (F0 m pc ls (.int x :: .int i :: .null :: rest)) := by
  intro T hT X
  obtain ⟨t, st, q⟩ := k T hT X
  exact ⟨t, X.bastoreNull hexec (g := F0 m pc ls (.int x :: .int i :: .null :: rest)) rfl (rest := rest) rfl (by rw [hb]; exact hdg) t st, q⟩
theorem vx_castoreN (hexec : p.tables.exec = Jvm.exec) (hb : c.code = cc) {x : Int32} {i : Int32} (hdg : decode cc pc = .ok (.castore, 1)) (k : vx_NoteN p l e R s m args below meth c H locs cells slots Q (F0 m pc ls rest)) : W p l e R s m args below meth c H locs cells slots Q (F0 m pc ls (.int x :: .int i :: .null :: rest)) := by
  intro T hT X
  obtain ⟨t, st, q⟩ := k T hT X
  exact ⟨t, X.castoreNull hexec (g := F0 m pc ls (.int x :: .int i :: .null :: rest)) rfl (rest := rest) rfl (by rw [hb]; exact hdg) t st, q⟩
theorem vx_sastoreN (hexec : p.tables.exec = Jvm.exec) (hb : c.code = cc) {x : Int32} {i : Int32} (hdg : decode cc pc = .ok (.sastore, 1)) (k : vx_NoteN p l e R s m args below meth c H locs cells slots Q (F0 m pc ls rest)) : W p l e R s m args below meth c H locs cells slots Q (F0 m pc ls (.int x :: .int i :: .null :: rest)) := by
  intro T hT X
  obtain ⟨t, st, q⟩ := k T hT X
  exact ⟨t, X.sastoreNull hexec (g := F0 m pc ls (.int x :: .int i :: .null :: rest)) rfl (rest := rest) rfl (by rw [hb]; exact hdg) t st, q⟩
theorem vx_invokeN {own C : String} {index maxL : Nat} {y : MethodName} {bytes : ByteArray} {ret : Option FieldType} (hexec : p.tables.exec = Jvm.exec) (hb : c.code = cc) (hown : s.vm.findClass own = some m.cls) (hlink : (Cond.methodLink own index y).before args s = true) (hinst : (Cond.instanceMethod y).before args s = true) (hcode : (Cond.code y bytes maxL ret).before args s = true) (hsel : (Cond.selects C y y).before args s = true)
    (hx : y.cls ≠ "java/lang/invoke/MethodHandle" ∧ y.cls ≠ "java/lang/invoke/VarHandle") {As : List Value} (hlen : (parseMethodDescriptor y.desc).map (fun d => d.parameters.length) = some As.length) (hdg : decode cc pc = .ok (.invokevirtual index, 3))
    (k : vx_NoteN p l e R s m args below meth c H locs cells slots Q (F0 m pc ls rest)) {st0 : List Value} (hst : st0 = As.reverse ++ .null :: rest) : W p l e R s m args below meth c H locs cells slots Q (F0 m pc ls st0) := by
  intro T hT X
  obtain ⟨r0, r, hn, hrm, hstR, hsigR⟩ := va_Decl.of hinst hcode
  obtain ⟨c2, r2, m2, q1, q2, q3, q4, kP, hkP, hkPi⟩ := Cond.selects_spec hsel
  cases hn.symm.trans q3
  have hl9 : As.length = r.sig.parameters.length := by
    rw [hsigR] at hlen
    exact (Option.some.inj hlen).symm
  obtain ⟨vm', X1, st1⟩ := X.invokevirtualNull hexec hown hlink hn hrm hstR hkP hkPi hx (g := F0 m pc ls st0) rfl (argsL := As) (rest := rest) hl9 hst (by rw [hb]; exact hdg)
  obtain ⟨t, st, q⟩ := k (T.setVm vm') hT X1
  exact ⟨t, st1 t st, q⟩
theorem vx_newarrayZ {atype : ArrayType} (hexec : p.tables.exec = Jvm.exec) (hb : c.code = cc) {n : Int32} (h0 : n < 0) (hdg : decode cc pc = .ok (.newarray atype, 2)) (k : ∀ tx : String, tx = toString n → vx_Note p l e R s m args below meth c H locs cells slots Q (F0 m pc ls rest) "java/lang/NegativeArraySizeException" tx) : W p l e R s m args below meth c H locs cells slots Q (F0 m pc ls (.int n :: rest)) := by
  intro T hT X
  obtain ⟨t, st, q⟩ := k _ rfl T hT X
  exact ⟨t, X.newarrayNegative hexec (g := F0 m pc ls (.int n :: rest)) rfl h0 (rest := rest) rfl (by rw [hb]; exact hdg) t st, q⟩
end
end VXM
/-! ===== END ===== -/
/-! ===== BEGIN an exception as an object: made, kept, thrown later (no traces kept) ===== -/
section VXK
variable {p : Program} {l : Launch} {e : Env} {R : Room} {s : State} {m₀ : MethodId} {args : Array Value} {below : List Frame} {meth : Method} {c : Code} {W : State} {locs : List Loc} {cells slots : Nat}
set_option maxHeartbeats 1000000 in
theorem vx_ctorMadeS (X : Stand p l e R s m₀ args below meth c W locs cells slots) (hexec : p.tables.exec = Jvm.exec) (htr : e.platform.stackTraces = false) {own cls : String} {names : List String} {ic : Nat}
    (hown : s.vm.findClass own = some m₀.cls) (hcls : Bundle.fit cls = true) (hnames : ∀ n ∈ names, Bundle.fit n = true)
    (h : ∀ a ∈ Bundle.ownAtoms own ic cls names, a.before args s = true)
    (hlocs : ∀ x ∈ locs, ∀ cell, s.heap[x.base]? = some cell → cell.vm.isStatics = false)
    {a : Addr} {cX : ClassId} {kX : Class} (hfoundX : s.vm.findClass cls = some cX) (hkX : s.vm.classes[cX]? = some kX) (hcell : W.heap[a]? = some (freshCell cX kX)) (hnew : s.heap.size ≤ a)
    {msg : Value} (hmsg : msg.isRef = true)
    {g : JFrame} (hg : g.method = m₀) (hsize : g.locals.size = c.maxLocals) {rest : List Value} (hstack : g.stack = msg :: .ref a :: .ref a :: rest)
    (hd6 : decode c.code g.pc = .ok (.invokespecial ic, 3))
    (hRframes : names.length + 3 < R.frames) (hRlocals : 2 * g.monitorRoom + ((Value.ref a :: rest).map fun v => v.category).sum + (13 * (names.length + 1) + 42) ≤ R.locals) :
    ∃ (V : State) (ce : Cell) (L : List Loc), Stand p l e R s m₀ args below meth c (V.setCell a ce) (locs ++ L) cells slots ∧ (∀ y ∈ L, y.base = a) ∧ a < V.heap.size ∧ ce.cls = cX ∧ ce.vm = .none ∧
      ∀ target, Steps p.tables e below ((V.setCell a ce).setTop { g with stack := .ref a :: rest, pc := g.pc + 3 }) target → Steps p.tables e below (W.setTop g) target := by
  have howns : e.platform.frameOwnsMonitors = true := by rw [X.admits.platform]
  have hfin : e.platform.finalization = false := by rw [X.admits.platform]
  have hpl : e.platform.magicAccessors = ({} : Platform).magicAccessors := by rw [X.admits.platform]
  have a' : ∀ x, x ∈ Bundle.ownAtoms own ic cls names → x.holds args s none s [] = true := fun x hx => h x hx
  obtain ⟨T, Z0, L, -, Y⟩ := ThrowableC.of_atoms (args := args) howns hfin hpl (fun x hx => h x (by simp [Bundle.ownAtoms, hx]))
  obtain ⟨Z, M, LZ, LM, hnZ⟩ := Init0T.ofS_atoms (args := args) hpl L Y (fun x hx => h x (by simp [Bundle.ownAtoms, hx]))
  obtain ⟨P1, Ps, hlen, L1, hL, hP1m, hlink1, hlink⟩ := Bundle.chainS (args := args) hpl hnZ names cls hcls hnames (fun x hx => h x (by simp [Bundle.ownAtoms, hx]))
  have hfound : s.vm.findClass cls = some P1.m.cls := findClass_of_methodNamed hP1m
  cases Option.some.inj (hfoundX.symm.trans hfound)
  obtain ⟨c1, kX', hc1, hk, hord, -, -, hn6⟩ := Cond.instantiable_spec (a' (.instantiable cls 6) (by simp [Bundle.ownAtoms]))
  cases Option.some.inj (hc1.symm.trans hfound)
  cases Option.some.inj (hkX.symm.trans hk)
  have hsel0 : selectMethod e.platform s.vm P1.m.cls T.fill0 = .method T.fill0 := by
    obtain ⟨c2, r2, m2, q1, q2, q3, q4, -⟩ := Cond.selects_spec (a' (.selects cls Bundle.tFill0 Bundle.tFill0) (by simp [Bundle.ownAtoms]))
    cases Option.some.inj (q1.symm.trans hfound)
    cases Option.some.inj (q2.symm.trans (State.methodFound?_of_named Y.fill0 (by decide)))
    cases Option.some.inj (q3.symm.trans Y.fill0)
    rw [Launch.admits_selectMethod X.admits]; exact q4
  have hselF : selectMethod e.platform s.vm P1.m.cls T.fill = .method T.fill := by
    obtain ⟨c2, r2, m2, q1, q2, q3, q4, -⟩ := Cond.selects_spec (a' (.selects cls Bundle.tFill Bundle.tFill) (by simp [Bundle.ownAtoms]))
    cases Option.some.inj (q1.symm.trans hfound)
    cases Option.some.inj (q2.symm.trans (State.methodFound?_of_named Y.fill (by decide)))
    cases Option.some.inj (q3.symm.trans Y.fill)
    rw [Launch.admits_selectMethod X.admits]; exact q4
  obtain ⟨cellS0, hcS0, hiss⟩ := Y.statics
  obtain ⟨u0, hu0⟩ := Cond.staticRefV Y.unassigned L.unassignedStatic L.statics hcS0 hiss (a' (.isRef (.static Bundle.tN "UNASSIGNED_STACK" Bundle.steD)) (by simp [Bundle.ownAtoms]))
  obtain ⟨sen, hsen⟩ := Cond.staticRefV Y.sentinel L.sentinelStatic L.statics hcS0 hiss (a' (.isRef (.static Bundle.tN "SUPPRESSED_SENTINEL" Bundle.listD)) (by simp [Bundle.ownAtoms]))
  obtain ⟨ci198, i198, fB, hk198, hg198, ha198, hsB, -, hnB, htB, hffB⟩ := Cond.ownField (t := .object "java/lang/Object") Y.found L.cls (by decide +kernel) (a' (.fieldLink Bundle.tN 198 Bundle.tN "backtrace" "Ljava/lang/Object;") (by simp [Bundle.ownAtoms])) (a' (.lays Bundle.tN Bundle.tN "backtrace" "Ljava/lang/Object;") (by simp [Bundle.ownAtoms])) e.platform hpl
  obtain ⟨cellS, hcS', heS, -, hkeep⟩ := X.same.2.2.2.2.2 T.aS cellS0 hcS0
  have hcellS : W.heap[T.aS]? = some cellS := hcS'
  have hout' : ∀ i, (⟨T.aS, i⟩ : Loc) ∉ locs := fun i hmem => by
    have := hlocs _ hmem cellS0 hcS0
    rw [hiss] at this; cases this
  have hknownS : cellS.vm ≠ .unknown := by
    rw [heS]; intro hu
    rw [show cellS0.vm = .unknown from hu] at hiss
    cases hiss
  have hneS : T.aS ≠ a := Nat.ne_of_lt (Nat.lt_of_lt_of_le (Array.getElem?_eq_some_iff.mp hcS0).1 hnew)
  obtain ⟨iM, hffM⟩ := Y.msg
  obtain ⟨tyC, dC, hdC, hdnC⟩ := Cond.laysAt hfound hk Y.cause (a' (.lays cls Bundle.tN "cause" "Ljava/lang/Throwable;") (by simp [Bundle.ownAtoms]))
  obtain ⟨tyS, dS, hdS, hdnS⟩ := Cond.laysAt hfound hk Y.stack (a' (.lays cls Bundle.tN "stackTrace" Bundle.steD) (by simp [Bundle.ownAtoms]))
  obtain ⟨tyP, dP, hdP, hdnP⟩ := Cond.laysAt hfound hk Y.supp (a' (.lays cls Bundle.tN "suppressedExceptions" Bundle.listD) (by simp [Bundle.ownAtoms]))
  obtain ⟨tyM, dM, hdM, hdnM⟩ := Cond.laysAt hfound hk hffM (a' (.lays cls Bundle.tN "detailMessage" "Ljava/lang/String;") (by simp [Bundle.ownAtoms]))
  obtain ⟨tyB, dB, hdB, hdnB⟩ := Cond.laysAt hfound hk hffB (a' (.lays cls Bundle.tN "backtrace" "Ljava/lang/Object;") (by simp [Bundle.ownAtoms]))
  have bC := Cond.laysApart hdB hdC hdnB hdnC (by rw [hnB, Y.causeName]; decide)
  have bS := Cond.laysApart hdB hdS hdnB hdnS (by rw [hnB, Y.stackName]; decide)
  have bP := Cond.laysApart hdB hdP hdnB hdnP (by rw [hnB, Y.suppName]; decide)
  have hskip : SkipFacts T e.platform s (fun u => u) u0 ((preparedCellV T.toThrowableT (freshCell P1.m.cls kX) a u0 sen).withEntry W.cur) :=
    ⟨{ ci198 := ci198, i198 := i198, fBack := fB }, ⟨hk198, hg198, ha198, hsB⟩, by
      have := fresh_default (c := P1.m.cls) tyB
      rw [htB] at this
      simpa [preparedCellV, Cell.setSlot, Cell.withEntry, Array.getElem?_setIfInBounds, bC, bS, bP, bC.symm, bS.symm, bP.symm, defaultValue] using this, fun _ _ => rfl⟩
  obtain ⟨tm, methC, cdC, kC, vm₁, hnC, -, -, -, -, -, -, -, hW₁, st1⟩ := Steps.initColdS (tb := p.tables) (e := e) (below := below) (s := s) (U := W) X.here hexec X.warmed hpl hown (t := Bundle.initS cls) rfl rfl (Bundle.fit_spec hcls).2
    (a' (.methodLink own ic (Bundle.initS cls)) (by simp [Bundle.ownAtoms])) (h (.instanceMethod (Bundle.initS cls)) (by cases names <;> simp [Bundle.ownAtoms, Bundle.chainSAtoms, Bundle.passSAtoms])) (bytes := Bundle.six) (maxL := 2) (h (.code (Bundle.initS cls) Bundle.six 2 none) (by cases names <;> simp [Bundle.ownAtoms, Bundle.chainSAtoms, Bundle.passSAtoms]))
    (f := g) hg (a := a) (msg := msg) (rest := .ref a :: rest) hstack hd6
  cases Option.some.inj (hnC.symm.trans hP1m)
  have X₁ := X.noted hW₁
  obtain ⟨vm₂, X₂, st2⟩ := X₁.ctorMessageOffV hexec (g := { g with stack := .ref a :: rest }) hg hsize T L Z LZ M LM (P1 :: Ps)
    (fun P hP => by rcases List.mem_cons.mp hP with rfl | hP; exact L1; exact hL P hP) ⟨hlink1, hlink⟩ (u0 := u0) (sen := sen) (self := a) hmsg (cell := freshCell P1.m.cls kX) (cellS := cellS)
    hcell (fun _ => by simp) (by simp) rfl rfl hsel0 hselF hcellS hneS hknownS (by rw [hkeep _ (hout' _)]; exact hu0) (by rw [hkeep _ (hout' _)]; exact hsen)
    (Takes.of_laid hk hord tyC (by rw [Y.causeType]; rfl)) (Takes.of_laid hk hord tyS (by rw [Y.stackType]; exact fits_refV_array _ u0)) (Takes.of_laid hk hord tyP (by rw [Y.suppType]; exact fits_refV_object _ sen))
    (Takes.of_laid hk hord tyM (by rw [Y.msgType]; exact fits_refV_object _ ⟨msg, hmsg⟩)) Y.objLocals hskip htr [] hd6
    (by simp only [List.length_cons, hlen]; omega) (by simp only [List.length_cons, hlen]; exact hRlocals)
  have hlt : a < ((W.setVm vm₁).setVm vm₂).heap.size := (Array.getElem?_eq_some_iff.mp hcell).1
  refine ⟨(W.setVm vm₁).setVm vm₂, _, _, X₂, fun y hy => ?_, hlt, rfl, rfl, fun target hwalk => st1 _ (fun acts => ?_)⟩
  · simp only [List.mem_cons, List.not_mem_nil, or_false] at hy
    rcases hy with rfl | rfl | rfl | rfl | rfl <;> rfl
  · rw [doInvoke_state]
    exact st2 _ hwalk
set_option maxHeartbeats 1000000 in
theorem vx_ctorMade0 (X : Stand p l e R s m₀ args below meth c W locs cells slots) (hexec : p.tables.exec = Jvm.exec) (htr : e.platform.stackTraces = false) {own cls : String} {names : List String} {ic : Nat}
    (hown : s.vm.findClass own = some m₀.cls) (hcls : Bundle.fit cls = true) (hnames : ∀ n ∈ names, Bundle.fit n = true)
    (h : ∀ a ∈ Bundle.ownAtoms0 own ic cls names, a.before args s = true)
    (hlocs : ∀ x ∈ locs, ∀ cell, s.heap[x.base]? = some cell → cell.vm.isStatics = false)
    {a : Addr} {cX : ClassId} {kX : Class} (hfoundX : s.vm.findClass cls = some cX) (hkX : s.vm.classes[cX]? = some kX) (hcell : W.heap[a]? = some (freshCell cX kX)) (hnew : s.heap.size ≤ a)
    {g : JFrame} (hg : g.method = m₀) (hsize : g.locals.size = c.maxLocals) {rest : List Value} (hstack : g.stack = .ref a :: .ref a :: rest)
    (hd6 : decode c.code g.pc = .ok (.invokespecial ic, 3))
    (hRframes : names.length + 3 < R.frames) (hRlocals : 2 * g.monitorRoom + ((Value.ref a :: rest).map fun v => v.category).sum + (13 * (names.length + 1) + 41) ≤ R.locals) :
    ∃ (V : State) (ce : Cell) (L : List Loc), Stand p l e R s m₀ args below meth c (V.setCell a ce) (locs ++ L) cells slots ∧ (∀ y ∈ L, y.base = a) ∧ a < V.heap.size ∧ ce.cls = cX ∧ ce.vm = .none ∧
      ∀ target, Steps p.tables e below ((V.setCell a ce).setTop { g with stack := .ref a :: rest, pc := g.pc + 3 }) target → Steps p.tables e below (W.setTop g) target := by
  have howns : e.platform.frameOwnsMonitors = true := by rw [X.admits.platform]
  have hfin : e.platform.finalization = false := by rw [X.admits.platform]
  have hpl : e.platform.magicAccessors = ({} : Platform).magicAccessors := by rw [X.admits.platform]
  have a' : ∀ x, x ∈ Bundle.ownAtoms0 own ic cls names → x.holds args s none s [] = true := fun x hx => h x hx
  obtain ⟨T, Z, L, LZ, Y⟩ := ThrowableC.of_atoms (args := args) howns hfin hpl (fun x hx => h x (by simp [Bundle.ownAtoms0, hx]))
  obtain ⟨P1, Ps, hlen, L1, hL, hP1m, hlink1, hlink⟩ := Bundle.chain0 (args := args) hpl Y.init0 names cls hcls hnames (fun x hx => h x (by simp [Bundle.ownAtoms0, hx]))
  have hfound : s.vm.findClass cls = some P1.m.cls := findClass_of_methodNamed hP1m
  cases Option.some.inj (hfoundX.symm.trans hfound)
  obtain ⟨c1, kX', hc1, hk, hord, -, -, hn6⟩ := Cond.instantiable_spec (a' (.instantiable cls 6) (by simp [Bundle.ownAtoms0]))
  cases Option.some.inj (hc1.symm.trans hfound)
  cases Option.some.inj (hkX.symm.trans hk)
  have hsel0 : selectMethod e.platform s.vm P1.m.cls T.fill0 = .method T.fill0 := by
    obtain ⟨c2, r2, m2, q1, q2, q3, q4, -⟩ := Cond.selects_spec (a' (.selects cls Bundle.tFill0 Bundle.tFill0) (by simp [Bundle.ownAtoms0]))
    cases Option.some.inj (q1.symm.trans hfound)
    cases Option.some.inj (q2.symm.trans (State.methodFound?_of_named Y.fill0 (by decide)))
    cases Option.some.inj (q3.symm.trans Y.fill0)
    rw [Launch.admits_selectMethod X.admits]; exact q4
  have hselF : selectMethod e.platform s.vm P1.m.cls T.fill = .method T.fill := by
    obtain ⟨c2, r2, m2, q1, q2, q3, q4, -⟩ := Cond.selects_spec (a' (.selects cls Bundle.tFill Bundle.tFill) (by simp [Bundle.ownAtoms0]))
    cases Option.some.inj (q1.symm.trans hfound)
    cases Option.some.inj (q2.symm.trans (State.methodFound?_of_named Y.fill (by decide)))
    cases Option.some.inj (q3.symm.trans Y.fill)
    rw [Launch.admits_selectMethod X.admits]; exact q4
  obtain ⟨cellS0, hcS0, hiss⟩ := Y.statics
  obtain ⟨u0, hu0⟩ := Cond.staticRefV Y.unassigned L.unassignedStatic L.statics hcS0 hiss (a' (.isRef (.static Bundle.tN "UNASSIGNED_STACK" Bundle.steD)) (by simp [Bundle.ownAtoms0]))
  obtain ⟨sen, hsen⟩ := Cond.staticRefV Y.sentinel L.sentinelStatic L.statics hcS0 hiss (a' (.isRef (.static Bundle.tN "SUPPRESSED_SENTINEL" Bundle.listD)) (by simp [Bundle.ownAtoms0]))
  obtain ⟨ci198, i198, fB, hk198, hg198, ha198, hsB, -, hnB, htB, hffB⟩ := Cond.ownField (t := .object "java/lang/Object") Y.found L.cls (by decide +kernel) (a' (.fieldLink Bundle.tN 198 Bundle.tN "backtrace" "Ljava/lang/Object;") (by simp [Bundle.ownAtoms0])) (a' (.lays Bundle.tN Bundle.tN "backtrace" "Ljava/lang/Object;") (by simp [Bundle.ownAtoms0])) e.platform hpl
  obtain ⟨cellS, hcS', heS, -, hkeep⟩ := X.same.2.2.2.2.2 T.aS cellS0 hcS0
  have hcellS : W.heap[T.aS]? = some cellS := hcS'
  have hout' : ∀ i, (⟨T.aS, i⟩ : Loc) ∉ locs := fun i hmem => by
    have := hlocs _ hmem cellS0 hcS0
    rw [hiss] at this; cases this
  have hknownS : cellS.vm ≠ .unknown := by
    rw [heS]; intro hu
    rw [show cellS0.vm = .unknown from hu] at hiss
    cases hiss
  have hneS : T.aS ≠ a := Nat.ne_of_lt (Nat.lt_of_lt_of_le (Array.getElem?_eq_some_iff.mp hcS0).1 hnew)
  obtain ⟨iM, hffM⟩ := Y.msg
  obtain ⟨tyC, dC, hdC, hdnC⟩ := Cond.laysAt hfound hk Y.cause (a' (.lays cls Bundle.tN "cause" "Ljava/lang/Throwable;") (by simp [Bundle.ownAtoms0]))
  obtain ⟨tyS, dS, hdS, hdnS⟩ := Cond.laysAt hfound hk Y.stack (a' (.lays cls Bundle.tN "stackTrace" Bundle.steD) (by simp [Bundle.ownAtoms0]))
  obtain ⟨tyP, dP, hdP, hdnP⟩ := Cond.laysAt hfound hk Y.supp (a' (.lays cls Bundle.tN "suppressedExceptions" Bundle.listD) (by simp [Bundle.ownAtoms0]))
  obtain ⟨tyM, dM, hdM, hdnM⟩ := Cond.laysAt hfound hk hffM (a' (.lays cls Bundle.tN "detailMessage" "Ljava/lang/String;") (by simp [Bundle.ownAtoms0]))
  obtain ⟨tyB, dB, hdB, hdnB⟩ := Cond.laysAt hfound hk hffB (a' (.lays cls Bundle.tN "backtrace" "Ljava/lang/Object;") (by simp [Bundle.ownAtoms0]))
  have bC := Cond.laysApart hdB hdC hdnB hdnC (by rw [hnB, Y.causeName]; decide)
  have bS := Cond.laysApart hdB hdS hdnB hdnS (by rw [hnB, Y.stackName]; decide)
  have bP := Cond.laysApart hdB hdP hdnB hdnP (by rw [hnB, Y.suppName]; decide)
  have hskip : SkipFacts T e.platform s (fun u => u) u0 ((preparedCellV T.toThrowableT (freshCell P1.m.cls kX) a u0 sen).withEntry W.cur) :=
    ⟨{ ci198 := ci198, i198 := i198, fBack := fB }, ⟨hk198, hg198, ha198, hsB⟩, by
      have := fresh_default (c := P1.m.cls) tyB
      rw [htB] at this
      simpa [preparedCellV, Cell.setSlot, Cell.withEntry, Array.getElem?_setIfInBounds, bC, bS, bP, bC.symm, bS.symm, bP.symm, defaultValue] using this, fun _ _ => rfl⟩
  obtain ⟨tm, methC, cdC, kC, vm₁, hnC, -, -, -, -, -, -, -, hW₁, st1⟩ := Steps.initCold (tb := p.tables) (e := e) (below := below) (s := s) (U := W) X.here hexec X.warmed hpl hown (t := Bundle.init0 cls) rfl rfl (Bundle.fit_spec hcls).2
    (a' (.methodLink own ic (Bundle.init0 cls)) (by simp [Bundle.ownAtoms0])) (h (.instanceMethod (Bundle.init0 cls)) (by cases names <;> simp [Bundle.ownAtoms0, Bundle.chain0Atoms, Bundle.passAtoms])) (bytes := Bundle.five) (maxL := 1) (h (.code (Bundle.init0 cls) Bundle.five 1 none) (by cases names <;> simp [Bundle.ownAtoms0, Bundle.chain0Atoms, Bundle.passAtoms]))
    (f := g) hg (a := a) (rest := .ref a :: rest) hstack hd6
  cases Option.some.inj (hnC.symm.trans hP1m)
  have X₁ := X.noted hW₁
  obtain ⟨vm₂, X₂, st2⟩ := X₁.ctorPlainOffV hexec (g := { g with stack := .ref a :: rest }) hg hsize T L Z LZ (P1 :: Ps)
    (fun P hP => by rcases List.mem_cons.mp hP with rfl | hP; exact L1; exact hL P hP) ⟨hlink1, hlink⟩ (u0 := u0) (sen := sen) (self := a) (cell := freshCell P1.m.cls kX) (cellS := cellS)
    hcell (fun _ => by simp) (by simp) rfl rfl hsel0 hselF hcellS hneS hknownS (by rw [hkeep _ (hout' _)]; exact hu0) (by rw [hkeep _ (hout' _)]; exact hsen)
    (Takes.of_laid hk hord tyC (by rw [Y.causeType]; rfl)) (Takes.of_laid hk hord tyS (by rw [Y.stackType]; exact fits_refV_array _ u0)) (Takes.of_laid hk hord tyP (by rw [Y.suppType]; exact fits_refV_object _ sen)) Y.objLocals hskip htr [] hd6
    (by simp only [List.length_cons, hlen]; omega) (by simp only [List.length_cons, hlen]; exact hRlocals)
  have hlt : a < ((W.setVm vm₁).setVm vm₂).heap.size := (Array.getElem?_eq_some_iff.mp hcell).1
  refine ⟨(W.setVm vm₁).setVm vm₂, _, _, X₂, fun y hy => ?_, hlt, rfl, rfl, fun target hwalk => st1 _ (fun acts => ?_)⟩
  · simp only [List.mem_cons, List.not_mem_nil, or_false] at hy
    rcases hy with rfl | rfl | rfl | rfl <;> rfl
  · rw [doInvoke_state]
    exact st2 _ hwalk
end VXK
section VXK2
variable {p : Program} {l : Launch} {e : Env} {R : Room} {s : State} {m : MethodId} {args : Array Value} {below : List Frame} {meth : Method} {c : Code} {H : Heap} {locs : List Loc} {cells slots : Nat} {Q : State → Prop}
variable {ls : Array Slot} {rest : List Value} {D : va_G} {cl : List vw_C} {tys : List (ClassId × FieldType)} {ws : va_W}
/-- 'new E("text")' that isn't thrown at once: the object goes on the stack -/
theorem vx_makeS {cc : ByteArray} {pc : Nat} (hexec : p.tables.exec = Jvm.exec) (hb : c.code = cc) (hl : l.stackTraces = false) {own cls text : String} {names : List String} {ik is ic sa ci : Nat} {A : Nat → Prop} {T0 : u_T}
    (hown : s.vm.findClass own = some m.cls) (hcls : Bundle.fit cls = true) (hnames : ∀ n ∈ names, Bundle.fit n = true)
    (hk : (Cond.classLink own ik cls).before args s = true) (hini : (Cond.initialized cls).before args s = true) (hstr : vk_R own is text sa s) (hat : ∀ w ∈ vx_atS own ic cls names, w.before args s = true)
    (hgood : ∀ w ∈ Cond.classLink own ik cls :: Cond.initialized cls :: vx_atS own ic cls names, vx_ot w = true)
    (hU : vx_Zq Bundle.tN "UNASSIGNED_STACK" Bundle.steD A s s.heap) (hN : vx_Zq Bundle.tN "SUPPRESSED_SENTINEL" Bundle.listD A s s.heap) (hS : va_S A s.heap H locs) (hsize : ls.size = c.maxLocals)
    (d0 : decode cc pc = .ok (.new ik, 3)) (d3 : decode cc (pc + 3) = .ok (.dup, 1)) (d4 : decode cc (pc + 4) = .ok (.ldc is, 2)) (d6 : decode cc (pc + 6) = .ok (.invokespecial ic, 3))
    (hK : va_K D cl tys s) (hP : va_P D cl ws H) (hD : va_D A ws) (hA : ∀ q, s.heap.size ≤ q → A q) (hc : cl[ci]? = some (cls, T0, 0))
    (hRframes : names.length + 3 < R.frames) (hRlocals : (rest.map fun v => v.category).sum + (13 * (names.length + 1) + 43) ≤ R.locals) (hRcells : cells + 1 ≤ R.cells) (hRslots : slots + 6 ≤ R.slots)
    (kk : ∀ (q : Nat) (H1 : Heap), va_P D cl (ws ++ [(q, .inr (ci, []))]) H1 → va_D A (ws ++ [(q, .inr (ci, []))]) → va_S A s.heap H1 locs → W p l e R s m args below meth c H1 locs (cells + 1) (slots + 6) Q (F0 m (pc + 9) ls (.ref q :: rest))) :
    W p l e R s m args below meth c H locs cells slots Q (F0 m pc ls rest) := by
  intro T hT X
  subst hT
  have htr : e.platform.stackTraces = false := (show e.platform.stackTraces = l.stackTraces by rw [X.admits.platform]).trans hl
  have Y := vx_rebase X (R' := { frames := R.frames, locals := R.locals, cells := 1, slots := 6 }) (Nat.le_refl _) (Nat.le_refl _) hRcells hRslots
  obtain ⟨s', hA'⟩ : ∃ z, z = (T.setVm s.vm).setFrames (.invoking m args :: below) := ⟨_, rfl⟩
  rw [← hA'] at Y
  have hvm : s'.vm = s.vm := by rw [hA']; rfl
  have hhp : s'.heap = T.heap := by rw [hA']; rfl
  have hW0 : s.WarmedH s'.vm := by rw [hvm]; exact State.WarmedH.refl s
  have hat' : ∀ w ∈ vx_atS own ic cls names, w.before args s' = true := fun w hw => vx_ot_at hW0 hvm.symm (hgood w (List.mem_cons_of_mem _ (List.mem_cons_of_mem _ hw))) (hat w hw)
  have hk' : (Cond.classLink own ik cls).before args s' = true := vx_ot_at hW0 hvm.symm (hgood _ List.mem_cons_self) hk
  have hini' : (Cond.initialized cls).before args s' = true := vx_ot_at hW0 hvm.symm (hgood _ (List.mem_cons_of_mem _ List.mem_cons_self)) hini
  have hU' : vx_Zq Bundle.tN "UNASSIGNED_STACK" Bundle.steD A s' s'.heap := by rw [hhp]; exact vx_Zq.moved hW0.alike (hU.kept hS.2.1)
  have hN' : vx_Zq Bundle.tN "SUPPRESSED_SENTINEL" Bundle.listD A s' s'.heap := by rw [hhp]; exact vx_Zq.moved hW0.alike (hN.kept hS.2.1)
  have h : ∀ w ∈ Bundle.ownAtoms own ic cls names, w.before args s' = true := vx_own hat' (vx_isRefq hU'.1) (vx_isRefq hN'.1) hU'.2.word hN'.2.word
  have hown' : s'.vm.findClass own = some m.cls := by rw [hvm]; exact hown
  have hins : (Cond.instantiable cls 6).before args s' = true := h _ (by simp [Bundle.ownAtoms])
  obtain ⟨vm₁, cX, kX, hfX, hkX, -, -, X₁, st1⟩ := Y.newCold hexec (own := own) (C := cls) (index := ik) (n := 6) hown' hk' hins hini'
    (g := F0 m pc ls rest) rfl (by rw [hb]; exact d0) (Nat.le_refl _) (Nat.le_refl _)
  generalize hT1 : (T.setVm vm₁).pushCell { cls := cX, slots := kX.instanceTypes.map defaultValue, vm := .none } = T1 at X₁ st1
  have hcat : (Value.ref T.heap.size).category = 1 := rfl
  have hcellA : T1.heap[T.heap.size]? = some (freshCell cX kX) := by rw [← hT1]; exact State.heap_pushCell_size _ _
  have d3' : decode c.code (pc + 3) = .ok (.dup, 1) := by rw [hb]; exact d3
  have d4' : decode c.code (pc + 4) = .ok (.ldc is, 2) := by rw [hb]; exact d4
  have hstr' : vk_R own is text sa s' := vk_R.warm hW0 hstr
  obtain ⟨V, ce, L, Z, hL, hlt, hcl9, hvm9, st⟩ := vx_ctorMadeS X₁ hexec htr (own := own) (cls := cls) (names := names) (ic := ic) hown' hcls hnames h (fun x hx => nomatch hx) hfX hkX hcellA (by rw [hhp]; exact Nat.le_refl _) (msg := .ref sa) rfl
    (g := { method := m, pc := pc + 6, locals := ls, stack := .ref sa :: .ref T.heap.size :: .ref T.heap.size :: rest, locked := none }) rfl hsize (rest := rest) rfl
    (by rw [hb]; exact d6) hRframes (by simp only [List.map_cons, List.sum_cons, hcat]; omega)
  have Z0 := Stand.forget (locs := []) Z (fun y hy => by rw [hL y hy, hhp]; exact Nat.le_refl _)
  obtain ⟨f1, f2⟩ := vx_frame Z0.same
  rw [hhp] at f1 f2
  have hcid : ce.cls = D.1 ci := by
    rw [hcl9]
    have h1 := (hK.1 ci _ hc).2.1
    rw [hvm] at hfX
    exact Option.some.inj (hfX.symm.trans h1)
  have hh : (V.setCell T.heap.size ce).heap[T.heap.size]? = some ce := heapAt_setCell_self (s := V) ce hlt
  subst hA'
  have X5 := vx_back9 X Y Z0
  have X6 : Stand p l e R s m args below meth c (V.setCell T.heap.size ce) locs (cells + 1) (slots + 6) := { X5 with same := X5.same.mono (by omega) (by omega) }
  have hk9 : ∀ (k : Nat) (x : Nat × va_E), ws[k]? = some x → (V.setCell T.heap.size ce).heap[x.1]? = T.heap[x.1]? := fun k x hx => f2 x.1 ((hP k x hx).lt) (fun z hz => nomatch hz)
  obtain ⟨t, a1, b1⟩ := kk T.heap.size (V.setCell T.heap.size ce).heap ((hP.kept hk9).app (fun k x hx => by
      have hz : k < 1 := (List.getElem?_eq_some_iff.mp hx).1
      rw [show k = 0 by omega] at hx
      cases hx
      exact ⟨_, hc, ce, hh, hcid, hvm9, fun k hk => absurd hk (Nat.not_lt_zero k)⟩)) (hD.push hP rfl (hA _ hS.1)) ⟨Nat.le_trans hS.1 f1, fun q h1 h2 => (f2 q (Nat.lt_of_lt_of_le h1 hS.1) (fun z hz => nomatch hz)).trans (hS.2.1 q h1 h2), hS.2.2⟩ _ rfl X6
  refine ⟨t, st1 _ ?_, b1⟩
  show Steps p.tables e below (T1.setTop { method := m, pc := pc + 3, locals := ls, stack := .ref T.heap.size :: rest, locked := none }) _
  jvm_step X₁.here [X₁.here.top, hexec, d3', Value.category]
  exact X₁.ldcString hexec (own := own) (text := text) (index := is) (a := sa) hown' hstr'.1 hstr'.2
    (g := { method := m, pc := pc + 4, locals := ls, stack := .ref T.heap.size :: .ref T.heap.size :: rest, locked := none }) rfl d4' _ (st _ a1)
/-- 'new E()' that isn't thrown at once: the object goes on the stack -/
theorem vx_make0 {cc : ByteArray} {pc : Nat} (hexec : p.tables.exec = Jvm.exec) (hb : c.code = cc) (hl : l.stackTraces = false) {own cls : String} {names : List String} {ik ic ci : Nat} {A : Nat → Prop} {T0 : u_T}
    (hown : s.vm.findClass own = some m.cls) (hcls : Bundle.fit cls = true) (hnames : ∀ n ∈ names, Bundle.fit n = true)
    (hk : (Cond.classLink own ik cls).before args s = true) (hini : (Cond.initialized cls).before args s = true) (hat : ∀ w ∈ vx_at0 own ic cls names, w.before args s = true)
    (hgood : ∀ w ∈ Cond.classLink own ik cls :: Cond.initialized cls :: vx_at0 own ic cls names, vx_ot w = true)
    (hU : vx_Zq Bundle.tN "UNASSIGNED_STACK" Bundle.steD A s s.heap) (hN : vx_Zq Bundle.tN "SUPPRESSED_SENTINEL" Bundle.listD A s s.heap) (hS : va_S A s.heap H locs) (hsize : ls.size = c.maxLocals)
    (d0 : decode cc pc = .ok (.new ik, 3)) (d3 : decode cc (pc + 3) = .ok (.dup, 1)) (d4 : decode cc (pc + 4) = .ok (.invokespecial ic, 3))
    (hK : va_K D cl tys s) (hP : va_P D cl ws H) (hD : va_D A ws) (hA : ∀ q, s.heap.size ≤ q → A q) (hc : cl[ci]? = some (cls, T0, 0))
    (hRframes : names.length + 3 < R.frames) (hRlocals : (rest.map fun v => v.category).sum + (13 * (names.length + 1) + 42) ≤ R.locals) (hRcells : cells + 1 ≤ R.cells) (hRslots : slots + 6 ≤ R.slots)
    (kk : ∀ (q : Nat) (H1 : Heap), va_P D cl (ws ++ [(q, .inr (ci, []))]) H1 → va_D A (ws ++ [(q, .inr (ci, []))]) → va_S A s.heap H1 locs → W p l e R s m args below meth c H1 locs (cells + 1) (slots + 6) Q (F0 m (pc + 7) ls (.ref q :: rest))) :
    W p l e R s m args below meth c H locs cells slots Q (F0 m pc ls rest) := by
  intro T hT X
  subst hT
  have htr : e.platform.stackTraces = false := (show e.platform.stackTraces = l.stackTraces by rw [X.admits.platform]).trans hl
  have Y := vx_rebase X (R' := { frames := R.frames, locals := R.locals, cells := 1, slots := 6 }) (Nat.le_refl _) (Nat.le_refl _) hRcells hRslots
  obtain ⟨s', hA'⟩ : ∃ z, z = (T.setVm s.vm).setFrames (.invoking m args :: below) := ⟨_, rfl⟩
  rw [← hA'] at Y
  have hvm : s'.vm = s.vm := by rw [hA']; rfl
  have hhp : s'.heap = T.heap := by rw [hA']; rfl
  have hW0 : s.WarmedH s'.vm := by rw [hvm]; exact State.WarmedH.refl s
  have hat' : ∀ w ∈ vx_at0 own ic cls names, w.before args s' = true := fun w hw => vx_ot_at hW0 hvm.symm (hgood w (List.mem_cons_of_mem _ (List.mem_cons_of_mem _ hw))) (hat w hw)
  have hk' : (Cond.classLink own ik cls).before args s' = true := vx_ot_at hW0 hvm.symm (hgood _ List.mem_cons_self) hk
  have hini' : (Cond.initialized cls).before args s' = true := vx_ot_at hW0 hvm.symm (hgood _ (List.mem_cons_of_mem _ List.mem_cons_self)) hini
  have hU' : vx_Zq Bundle.tN "UNASSIGNED_STACK" Bundle.steD A s' s'.heap := by rw [hhp]; exact vx_Zq.moved hW0.alike (hU.kept hS.2.1)
  have hN' : vx_Zq Bundle.tN "SUPPRESSED_SENTINEL" Bundle.listD A s' s'.heap := by rw [hhp]; exact vx_Zq.moved hW0.alike (hN.kept hS.2.1)
  have h : ∀ w ∈ Bundle.ownAtoms0 own ic cls names, w.before args s' = true := vx_own hat' (vx_isRefq hU'.1) (vx_isRefq hN'.1) hU'.2.word hN'.2.word
  have hown' : s'.vm.findClass own = some m.cls := by rw [hvm]; exact hown
  have hins : (Cond.instantiable cls 6).before args s' = true := h _ (by simp [Bundle.ownAtoms0])
  obtain ⟨vm₁, cX, kX, hfX, hkX, -, -, X₁, st1⟩ := Y.newCold hexec (own := own) (C := cls) (index := ik) (n := 6) hown' hk' hins hini'
    (g := F0 m pc ls rest) rfl (by rw [hb]; exact d0) (Nat.le_refl _) (Nat.le_refl _)
  generalize hT1 : (T.setVm vm₁).pushCell { cls := cX, slots := kX.instanceTypes.map defaultValue, vm := .none } = T1 at X₁ st1
  have hcat : (Value.ref T.heap.size).category = 1 := rfl
  have hcellA : T1.heap[T.heap.size]? = some (freshCell cX kX) := by rw [← hT1]; exact State.heap_pushCell_size _ _
  have d3' : decode c.code (pc + 3) = .ok (.dup, 1) := by rw [hb]; exact d3
  obtain ⟨V, ce, L, Z, hL, hlt, hcl9, hvm9, st⟩ := vx_ctorMade0 X₁ hexec htr (own := own) (cls := cls) (names := names) (ic := ic) hown' hcls hnames h (fun x hx => nomatch hx) hfX hkX hcellA (by rw [hhp]; exact Nat.le_refl _)
    (g := { method := m, pc := pc + 4, locals := ls, stack := .ref T.heap.size :: .ref T.heap.size :: rest, locked := none }) rfl hsize (rest := rest) rfl
    (by rw [hb]; exact d4) hRframes (by simp only [List.map_cons, List.sum_cons, hcat]; omega)
  have Z0 := Stand.forget (locs := []) Z (fun y hy => by rw [hL y hy, hhp]; exact Nat.le_refl _)
  obtain ⟨f1, f2⟩ := vx_frame Z0.same
  rw [hhp] at f1 f2
  have hcid : ce.cls = D.1 ci := by
    rw [hcl9]
    have h1 := (hK.1 ci _ hc).2.1
    rw [hvm] at hfX
    exact Option.some.inj (hfX.symm.trans h1)
  have hh : (V.setCell T.heap.size ce).heap[T.heap.size]? = some ce := heapAt_setCell_self (s := V) ce hlt
  subst hA'
  have X5 := vx_back9 X Y Z0
  have X6 : Stand p l e R s m args below meth c (V.setCell T.heap.size ce) locs (cells + 1) (slots + 6) := { X5 with same := X5.same.mono (by omega) (by omega) }
  have hk9 : ∀ (k : Nat) (x : Nat × va_E), ws[k]? = some x → (V.setCell T.heap.size ce).heap[x.1]? = T.heap[x.1]? := fun k x hx => f2 x.1 ((hP k x hx).lt) (fun z hz => nomatch hz)
  obtain ⟨t, a1, b1⟩ := kk T.heap.size (V.setCell T.heap.size ce).heap ((hP.kept hk9).app (fun k x hx => by
      have hz : k < 1 := (List.getElem?_eq_some_iff.mp hx).1
      rw [show k = 0 by omega] at hx
      cases hx
      exact ⟨_, hc, ce, hh, hcid, hvm9, fun k hk => absurd hk (Nat.not_lt_zero k)⟩)) (hD.push hP rfl (hA _ hS.1)) ⟨Nat.le_trans hS.1 f1, fun q h1 h2 => (f2 q (Nat.lt_of_lt_of_le h1 hS.1) (fun z hz => nomatch hz)).trans (hS.2.1 q h1 h2), hS.2.2⟩ _ rfl X6
  refine ⟨t, st1 _ ?_, b1⟩
  show Steps p.tables e below (T1.setTop { method := m, pc := pc + 3, locals := ls, stack := .ref T.heap.size :: rest, locked := none }) _
  jvm_step X₁.here [X₁.here.top, hexec, d3', Value.category]
  exact st _ a1
/-- 'throw x' of an object that was made before -/
theorem vx_athrow {cc : ByteArray} {pc : Nat} (hexec : p.tables.exec = Jvm.exec) (hb : c.code = cc) {q : Addr} (hdg : decode cc pc = .ok (.athrow, 1)) (k : vx_W p l e R s m args below meth c H locs cells slots Q (F0 m pc ls rest) q) : W p l e R s m args below meth c H locs cells slots Q (F0 m pc ls (.ref q :: rest)) := by
  intro T hT X
  obtain ⟨t, st, hq⟩ := k T hT X
  refine ⟨t, ?_, hq⟩
  have hdg' : decode c.code pc = .ok (.athrow, 1) := by rw [hb]; exact hdg
  jvm_step X.here [X.here.top, hexec, hdg', athrow.wp_sem]
  exact st
end VXK2
/-! ===== END ===== -/
/-! ===== BEGIN a constructor that throws (launches without stack traces) ===== -/
section VXIA
variable {p : Program} {l : Launch} {e : Env} {R : Room} {s : State} {m : MethodId} {args : Array Value} {below : List Frame} {meth : Method} {c : Code} {T : State} {locs : List Loc} {cells slots : Nat}
theorem vx_callI (X : Stand p l e R s m args below meth c T locs cells slots) (hexec : p.tables.exec = Jvm.exec) {own : String} {index : Nat} {y : MethodName} {bytes : ByteArray} {maxL : Nat}
    (hown : s.vm.findClass own = some m.cls) (hy1 : y.name = "<init>") (hlink : (Cond.methodLink own index y).before args s = true) (hinst : (Cond.instanceMethod y).before args s = true)
    (hcode : (Cond.code y bytes maxL none).before args s = true) (hy : y.cls ≠ "java/lang/invoke/MethodHandle" ∧ y.cls ≠ "java/lang/invoke/VarHandle")
    {W9 : Nat} {Pre : Pt → Array Value → Prop} {Post : Pt → Array Value → Option Value → Pt → Prop} {PostX : Pt → Array Value → Addr → Pt → Prop} (hK : vx_Back l R p e below s args y 3 W9 Pre Post PostX)
    {g : JFrame} (hg : g.method = m) (hsize : g.locals.size = c.maxLocals) {a : Addr} {argsL rest : List Value} (hlen : ∀ sig, parseMethodDescriptor y.desc = some sig → argsL.length = sig.parameters.length)
    (hstack : g.stack = argsL.reverse ++ .ref a :: rest) (hW : 2 * g.monitorRoom + (rest.map fun v => v.category).sum ≤ W9) (hdg : decode c.code g.pc = .ok (.invokespecial index, 3))
    (hpre : ∀ vm₁, s.WarmedH vm₁ → Pre ⟨T.setVm vm₁, locs, cells, slots⟩ (Value.ref a :: argsL).toArray) :
    (∃ (v : Option Value) (vm₁ : Vm) (B : Pt), s.WarmedH vm₁ ∧ Stand p l e R s m args below meth c B.U B.locs B.cells B.slots ∧ Post ⟨T.setVm vm₁, locs, cells, slots⟩ (Value.ref a :: argsL).toArray v B ∧
      ∀ target, Steps p.tables e below (B.U.setTop { g with pc := g.pc + 3, stack := v.toList ++ rest }) target → Steps p.tables e below (T.setTop g) target) ∨
    (∃ (q : Addr) (vm₁ : Vm) (B : Pt), s.WarmedH vm₁ ∧ Stand p l e R s m args below meth c B.U B.locs B.cells B.slots ∧ PostX ⟨T.setVm vm₁, locs, cells, slots⟩ (Value.ref a :: argsL).toArray q B ∧
      Steps p.tables e below (T.setTop g) ((B.U.setTop { g with stack := rest }).pushFrame (.throwing q))) := by
  subst hg
  have hpl : e.platform.magicAccessors = ({} : Platform).magicAccessors := by rw [X.admits.platform]
  obtain ⟨mk, methM, cM, kP, vm₁, hnamed, hmethM, hcodeM, -, hlocalsM, -, hkP, -, hW₁, hstep₁⟩ := Steps.initColdArgs (e := e) X.here hexec X.warmed hpl hown hy1 hy hlink hinst hcode (f := g) rfl hlen hstack hdg
  have X₁ := X.noted hW₁
  rcases hK g.method meth c ⟨T.setVm vm₁, locs, cells, slots⟩ { g with stack := rest } (.invokespecial index) mk (Value.ref a :: argsL).toArray X₁ rfl hsize hdg hW (X₁.named hnamed) (hpre vm₁ X₁.warmed) with ⟨v, B, X', hpost, hsteps⟩ | ⟨q, B, X', hpost, hsteps⟩
  · exact Or.inl ⟨v, vm₁, B, X₁.warmed, X', hpost, fun target h => hstep₁ _ fun acts => by rw [doInvoke_state]; exact hsteps.trans h⟩
  · exact Or.inr ⟨q, vm₁, B, X₁.warmed, X', hpost, hstep₁ _ fun acts => by rw [doInvoke_state]; exact hsteps⟩
end VXIA
section VXIB
variable {p : Program} {l : Launch} {e : Env} {R : Room} {s : State} {m : MethodId} {args : Array Value} {below : List Frame} {meth : Method} {c : Code} {H : Heap} {locs : List Loc} {cells slots : Nat}
variable {y : MethodName} {bytes cc : ByteArray} {maxL nL mc ms n index : Nat} {ret : Option FieldType} {ws : List Cond} {rm : Room} {Pc : Array Value → State → Prop} {Qc : Array Value → State → Outcome → State → Prop} {XC : String → State → State → Prop} {free : Addr → Prop} {Ts : List Cond} {own C : String} {b : Addr} {As rest : List Value} {g : JFrame}
theorem vx_runI (S : CallFix p m c cc nL s args Ts own) (hM : vx_Met l y ws rm Pc Qc XC mc ms free) (cw : CallB R s args own index y bytes maxL none ws rm mc ms n ∧ y.name = "<init>" ∧ (Cond.instanceMethod y).before args s = true) (hp : PreS s H Pc (.ref b :: As))
    (hg : g.method = m) (hn : As.length = n) (hsize : g.locals.size = nL) (hstack : g.stack = As.reverse ++ .ref b :: rest) (hW : 2 * g.monitorRoom + (rest.map fun v => v.category).sum ≤ 8) (hdg : decode cc g.pc = .ok (.invokespecial index, 3)) (hf : cells + mc ≤ R.cells ∧ slots + ms ≤ R.slots) :
    vx_Run p l e R s m args below meth c H locs cells slots mc ms g rest (Qc (Value.ref b :: As).toArray) XC free := by
  have hK : vx_Back l R p e below s args y 3 8 (PreOf R mc ms Pc) (PostOf Qc mc ms free) (vx_Post XC mc ms free) := vx_callBack cw.1 hM hp.1
  obtain ⟨⟨-, -, -, -, -, -, hcode, -, hy, hlen, hl⟩, hy1, hin⟩ := cw
  obtain ⟨hx, hb, hml, ho, -⟩ := S
  have hPc := hp.2
  intro T hT X
  rcases vx_callI X hx (bytes := bytes) (maxL := maxL) ho hy1 hl hin hcode hy hK hg (hsize.trans hml.symm) (a := b) (argsL := As) (rest := rest) (fun sig h => hn.trans (hlen sig h)) hstack hW (by rw [hb]; exact hdg)
    (fun vm₁ hW₁ => ⟨hf.1, hf.2, hPc (T.setVm vm₁) hT hW₁⟩) with ⟨v, vm₁, ⟨U', l2, c2, s2⟩, hW₁, X', ⟨g', mk, t, L, e1, e2, hq, h1, hL, h2, h3⟩, st⟩ | ⟨q, vm₁, ⟨U', l2, c2, s2⟩, hW₁, X', ⟨g', mk, t, L, E, ce, e1, e2, hq, hce, hcv, hcl, h1, hL, h2, h3⟩, st⟩
  · dsimp only [Pt.U, Pt.locs, Pt.cells, Pt.slots] at X' e1 e2 h1 h2 h3 st
    subst h1; subst h2; subst h3
    exact Or.inl ⟨v, (T.setVm vm₁).calling g' mk (Value.ref b :: As).toArray, t, U', L, hT, X', hL, e1, e2, hq, st⟩
  · dsimp only [Pt.U, Pt.locs, Pt.cells, Pt.slots] at X' e1 e2 h1 h2 h3 st hcl
    subst h1; subst h2; subst h3
    exact Or.inr ⟨q, (T.setVm vm₁).calling g' mk (Value.ref b :: As).toArray, t, U', L, E, ce, hT, X', hL, e1, e2, hq, hce, hcv, vx_cls hW₁ hcl, st⟩
end VXIB
/-! ===== END ===== -/
/-! ===== BEGIN a private constructor of a nest mate that throws ===== -/
section VXIC
variable {p : Program} {l : Launch} {e : Env} {R : Room} {s : State} {m : MethodId} {args : Array Value} {below : List Frame} {meth : Method} {c : Code} {T : State} {locs : List Loc} {cells slots : Nat}
theorem vx_callIN (X : Stand p l e R s m args below meth c T locs cells slots) (hexec : p.tables.exec = Jvm.exec) {own : String} {index : Nat} {host : String} {y : MethodName} {bytes : ByteArray} {maxL : Nat}
    (hown : s.vm.findClass own = some m.cls) (hy1 : y.name = "<init>") (hlink : (Cond.methodLinkNest own index y host).before args s = true) (hinst : (Cond.instanceMethod y).before args s = true)
    (hcode : (Cond.code y bytes maxL none).before args s = true) (hy : y.cls ≠ "java/lang/invoke/MethodHandle" ∧ y.cls ≠ "java/lang/invoke/VarHandle")
    {W9 : Nat} {Pre : Pt → Array Value → Prop} {Post : Pt → Array Value → Option Value → Pt → Prop} {PostX : Pt → Array Value → Addr → Pt → Prop} (hK : vx_Back l R p e below s args y 3 W9 Pre Post PostX)
    {g : JFrame} (hg : g.method = m) (hsize : g.locals.size = c.maxLocals) {a : Addr} {argsL rest : List Value} (hlen : ∀ sig, parseMethodDescriptor y.desc = some sig → argsL.length = sig.parameters.length)
    (hstack : g.stack = argsL.reverse ++ .ref a :: rest) (hW : 2 * g.monitorRoom + (rest.map fun v => v.category).sum ≤ W9) (hdg : decode c.code g.pc = .ok (.invokespecial index, 3))
    (hpre : ∀ vm₁, s.WarmedH vm₁ → Pre ⟨T.setVm vm₁, locs, cells, slots⟩ (Value.ref a :: argsL).toArray) :
    (∃ (v : Option Value) (vm₁ : Vm) (B : Pt), s.WarmedH vm₁ ∧ Stand p l e R s m args below meth c B.U B.locs B.cells B.slots ∧ Post ⟨T.setVm vm₁, locs, cells, slots⟩ (Value.ref a :: argsL).toArray v B ∧
      ∀ target, Steps p.tables e below (B.U.setTop { g with pc := g.pc + 3, stack := v.toList ++ rest }) target → Steps p.tables e below (T.setTop g) target) ∨
    (∃ (q : Addr) (vm₁ : Vm) (B : Pt), s.WarmedH vm₁ ∧ Stand p l e R s m args below meth c B.U B.locs B.cells B.slots ∧ PostX ⟨T.setVm vm₁, locs, cells, slots⟩ (Value.ref a :: argsL).toArray q B ∧
      Steps p.tables e below (T.setTop g) ((B.U.setTop { g with stack := rest }).pushFrame (.throwing q))) := by
  subst hg
  have hpl : e.platform.magicAccessors = ({} : Platform).magicAccessors := by rw [X.admits.platform]
  obtain ⟨mk, methM, cM, kP, vm₁, hnamed, hmethM, hcodeM, -, hlocalsM, -, hkP, -, hW₁, hstep₁⟩ := Steps.initColdArgsNest (e := e) X.here hexec X.warmed hpl hown hy1 hy hlink hinst hcode (f := g) rfl hlen hstack hdg
  have X₁ := X.noted hW₁
  rcases hK g.method meth c ⟨T.setVm vm₁, locs, cells, slots⟩ { g with stack := rest } (.invokespecial index) mk (Value.ref a :: argsL).toArray X₁ rfl hsize hdg hW (X₁.named hnamed) (hpre vm₁ X₁.warmed) with ⟨v, B, X', hpost, hsteps⟩ | ⟨q, B, X', hpost, hsteps⟩
  · exact Or.inl ⟨v, vm₁, B, X₁.warmed, X', hpost, fun target h => hstep₁ _ fun acts => by rw [doInvoke_state]; exact hsteps.trans h⟩
  · exact Or.inr ⟨q, vm₁, B, X₁.warmed, X', hpost, hstep₁ _ fun acts => by rw [doInvoke_state]; exact hsteps⟩
end VXIC
section VXID
variable {p : Program} {l : Launch} {e : Env} {R : Room} {s : State} {m : MethodId} {args : Array Value} {below : List Frame} {meth : Method} {c : Code} {H : Heap} {locs : List Loc} {cells slots : Nat}
theorem vx_runIN {y : MethodName} {bytes cc : ByteArray} {maxL nL mc ms n index : Nat} {ws : List Cond} {rm : Room} {Pc : Array Value → State → Prop} {Qc : Array Value → State → Outcome → State → Prop} {XC : String → State → State → Prop} {free : Addr → Prop} {Ts : List Cond} {own host : String} {b : Addr} {As rest : List Value} {g : JFrame}
    (S : CallFix p m c cc nL s args Ts own) (hM : vx_Met l y ws rm Pc Qc XC mc ms free) (cw : va_CN R s args own index y host bytes maxL none ws rm mc ms n ∧ y.name = "<init>" ∧ (Cond.instanceMethod y).before args s = true) (hp : PreS s H Pc (.ref b :: As))
    (hg : g.method = m) (hn : As.length = n) (hsize : g.locals.size = nL) (hstack : g.stack = As.reverse ++ .ref b :: rest) (hW : 2 * g.monitorRoom + (rest.map fun v => v.category).sum ≤ 8) (hdg : decode cc g.pc = .ok (.invokespecial index, 3)) (hf : cells + mc ≤ R.cells ∧ slots + ms ≤ R.slots) :
    vx_Run p l e R s m args below meth c H locs cells slots mc ms g rest (Qc (Value.ref b :: As).toArray) XC free := by
  obtain ⟨⟨⟨hrc, hrs, hfr, hlo, hws, hcw⟩, hcode, hini, hy, hlen, hl⟩, hx1, hx2⟩ := cw
  have hK : vx_Back l R p e below s args y 3 8 (PreOf R mc ms Pc) (PostOf Qc mc ms free) (vx_Post XC mc ms free) := vx_back (bytes := bytes) (maxL := maxL) (ret := none) hM hp.1 hrc hrs hfr hlo hws hcw (fun a' U hW => word_at hW (Or.inl (by first | rfl | simp [Cond.onTables, Cond.keeps, Cond.steady])) hini)
  obtain ⟨hx, hb, hml, ho, -⟩ := S
  have hPc := hp.2
  intro T hT X
  rcases vx_callIN X hx (bytes := bytes) (maxL := maxL) ho hx1 hl hx2 hcode hy hK hg (hsize.trans hml.symm) (a := b) (argsL := As) (rest := rest) (fun sig h => hn.trans (hlen sig h)) hstack hW (by rw [hb]; exact hdg)
    (fun vm₁ hW₁ => ⟨hf.1, hf.2, hPc (T.setVm vm₁) hT hW₁⟩) with ⟨v, vm₁, ⟨U', l2, c2, s2⟩, hW₁, X', ⟨g', mk, t, L, e1, e2, hq, h1, hL, h2, h3⟩, st⟩ | ⟨q, vm₁, ⟨U', l2, c2, s2⟩, hW₁, X', ⟨g', mk, t, L, E, ce, e1, e2, hq, hce, hcv, hcl, h1, hL, h2, h3⟩, st⟩
  · dsimp only [Pt.U, Pt.locs, Pt.cells, Pt.slots] at X' e1 e2 h1 h2 h3 st
    subst h1; subst h2; subst h3
    exact Or.inl ⟨v, (T.setVm vm₁).calling g' mk (Value.ref b :: As).toArray, t, U', L, hT, X', hL, e1, e2, hq, st⟩
  · dsimp only [Pt.U, Pt.locs, Pt.cells, Pt.slots] at X' e1 e2 h1 h2 h3 st hcl
    subst h1; subst h2; subst h3
    exact Or.inr ⟨q, (T.setVm vm₁).calling g' mk (Value.ref b :: As).toArray, t, U', L, E, ce, hT, X', hL, e1, e2, hq, hce, hcv, vx_cls hW₁ hcl, st⟩
end VXID
/-! ===== END ===== -/
/-! ===== BEGIN a method of a class above, found by the receiver, that may throw (follows va_callVU, va_runU of this kit) ===== -/
section
variable {p : Program} {l : Launch} {e : Env} {R : Room} {s : State} {m : MethodId} {args : Array Value} {below : List Frame} {meth : Method} {c : Code} {H : Heap} {locs : List Loc} {cells slots : Nat}
theorem vx_callVU {T : State} {locs : List Loc} {cells slots : Nat} (X : Stand p l e R s m args below meth c T locs cells slots) (hexec : p.tables.exec = Jvm.exec) {own C owner : String} {index : Nat} {x y : MethodName} {bytes : ByteArray} {maxL : Nat} {ret : Option FieldType}
    (hown : s.vm.findClass own = some m.cls) (hlink : (Cond.methodLink own index x).before args s = true) (hsame : (Cond.sameMethod x.cls owner x.name x.desc).before args s = true)
    (hd0 : va_Decl s ⟨owner, x.name, x.desc⟩) (howner : owner ≠ "java/lang/invoke/MethodHandle" ∧ owner ≠ "java/lang/invoke/VarHandle")
    (hsel : (Cond.selects C x y).before args s = true) (hinst : (Cond.instanceMethod y).before args s = true) (hcode : (Cond.code y bytes maxL ret).before args s = true)
    {W : Nat} {Pre : Pt → Array Value → Prop} {Post : Pt → Array Value → Option Value → Pt → Prop} {PostX : Pt → Array Value → Addr → Pt → Prop} (hK : vx_Back l R p e below s args y 3 W Pre Post PostX)
    {b : Addr} {cellB : Cell} (hcell : T.heap[b]? = some cellB) (hobj : cellB.vm.isStatics = false) (hcls : s.vm.findClass C = some cellB.cls)
    {g : JFrame} (hg : g.method = m) (hsize : g.locals.size = c.maxLocals) {argsL rest : List Value} (hlen : ∀ sig, parseMethodDescriptor x.desc = some sig → argsL.length = sig.parameters.length)
    (hstack : g.stack = argsL.reverse ++ .ref b :: rest) (hW : 2 * g.monitorRoom + (rest.map fun v => v.category).sum ≤ W) (hdg : decode c.code g.pc = .ok (.invokevirtual index, 3))
    (hpre : ∀ vm₁, s.WarmedH vm₁ → Pre ⟨T.setVm vm₁, locs, cells, slots⟩ (Value.ref b :: argsL).toArray) :
    (∃ (v : Option Value) (vm₁ : Vm) (B : Pt), s.WarmedH vm₁ ∧ Stand p l e R s m args below meth c B.U B.locs B.cells B.slots ∧ Post ⟨T.setVm vm₁, locs, cells, slots⟩ (Value.ref b :: argsL).toArray v B ∧
      ∀ target, Steps p.tables e below (B.U.setTop { g with pc := g.pc + 3, stack := v.toList ++ rest }) target → Steps p.tables e below (T.setTop g) target) ∨
    (∃ (q : Addr) (vm₁ : Vm) (B : Pt), s.WarmedH vm₁ ∧ Stand p l e R s m args below meth c B.U B.locs B.cells B.slots ∧ PostX ⟨T.setVm vm₁, locs, cells, slots⟩ (Value.ref b :: argsL).toArray q B ∧
      Steps p.tables e below (T.setTop g) ((B.U.setTop { g with stack := rest }).pushFrame (.throwing q))) := by
  obtain ⟨r0, r, hn, hrm, hstR, hsigR⟩ := hd0
  obtain ⟨cn, ck, r1, hcn, hck, hni, hf, hn1⟩ := Cond.sameMethod_found hsame
  cases hn.symm.trans hn1
  obtain ⟨mk, methM, hnamed, hmethM, -, habM⟩ := Cond.instanceMethod_spec hinst
  obtain ⟨c2, r2, m2, q1, q2, q3, q4, kP, hkP, hkPi⟩ := Cond.selects_spec hsel
  cases hcls.symm.trans q1
  cases hf.symm.trans q2
  cases hnamed.symm.trans q3
  have hselP : selectMethod e.platform s.vm cellB.cls r0 = .method mk := by rw [Launch.admits_selectMethod X.admits]; exact q4
  obtain ⟨vm₁, X₁, hstep₁⟩ := X.invokevirtualUp hexec hown hlink hsame howner hn hrm hstR (a := b) (cell := cellB) hcell
    (fun z h => by rw [h] at hobj; cases hobj) hselP hmethM habM hkP hkPi (g := g) hg (argsL := argsL) (rest := rest) (hlen _ hsigR) hstack hdg
  rcases hK m meth c ⟨T.setVm vm₁, locs, cells, slots⟩ { g with stack := rest } (.invokevirtual index) mk (Value.ref b :: argsL).toArray X₁ hg hsize hdg hW (X₁.named hnamed) (hpre vm₁ X₁.warmed) with ⟨v, B, X', hpost, hsteps⟩ | ⟨q, B, X', hpost, hsteps⟩
  · exact Or.inl ⟨v, vm₁, B, X₁.warmed, X', hpost, fun target h => hstep₁ _ fun acts => by rw [doInvoke_state]; exact hsteps.trans h⟩
  · exact Or.inr ⟨q, vm₁, B, X₁.warmed, X', hpost, hstep₁ _ fun acts => by rw [doInvoke_state]; exact hsteps⟩
theorem vx_runU {x y : MethodName} {bytes cc : ByteArray} {maxL nL mc ms n index : Nat} {ret : Option FieldType} {ws : List Cond} {rm : Room} {Pc : Array Value → State → Prop} {Qc : Array Value → State → Outcome → State → Prop} {XC : String → State → State → Prop} {free : Addr → Prop} {Ts : List Cond} {own C owner : String} {b : Addr} {As rest : List Value} {g : JFrame}
    (S : CallFix p m c cc nL s args Ts own) (hM : vx_Met l y ws rm Pc Qc XC mc ms free) (cw : va_CU R s args own C owner index x y bytes maxL ret ws rm mc ms n) (hp : PreV s H C b Pc As)
    (hg : g.method = m) (hn : As.length = n) (hsize : g.locals.size = nL) (hstack : g.stack = As.reverse ++ .ref b :: rest) (hW : 2 * g.monitorRoom + (rest.map fun v => v.category).sum ≤ 8) (hdg : decode cc g.pc = .ok (.invokevirtual index, 3)) (hf : cells + mc ≤ R.cells ∧ slots + ms ≤ R.slots) :
    vx_Run p l e R s m args below meth c H locs cells slots mc ms g rest (Qc (Value.ref b :: As).toArray) XC free := by
  obtain ⟨hrc, hrs, hfr, hlo, hws, hcw⟩ := cw.back
  have hini := cw.init
  have hK : vx_Back l R p e below s args y 3 8 (PreOf R mc ms Pc) (PostOf Qc mc ms free) (vx_Post XC mc ms free) := vx_back (bytes := bytes) (maxL := maxL) (ret := ret) hM hp.1 hrc hrs hfr hlo hws hcw (fun a' U hW => word_at hW (Or.inl (by first | rfl | simp [Cond.onTables, Cond.keeps, Cond.steady])) hini)
  obtain ⟨hx, hb, hml, ho, -⟩ := S
  obtain ⟨-, ⟨cellB, hcB, hoB, hclB⟩, hPc⟩ := hp
  intro T hT X
  rcases vx_callVU X hx (C := C) (owner := owner) (bytes := bytes) (maxL := maxL) (ret := ret) ho cw.link cw.same cw.decl cw.notMH cw.sel cw.inst cw.code hK (by rw [hT]; exact hcB) hoB hclB hg (hsize.trans hml.symm) (argsL := As) (rest := rest) (fun sig h => hn.trans (cw.len sig h)) hstack hW (by rw [hb]; exact hdg)
    (fun vm₁ hW₁ => ⟨hf.1, hf.2, hPc (T.setVm vm₁) hT hW₁⟩) with ⟨v, vm₁, ⟨U', l2, c2, s2⟩, hW₁, X', ⟨g', mk, t, L, e1, e2, hq, h1, hL, h2, h3⟩, st⟩ | ⟨q, vm₁, ⟨U', l2, c2, s2⟩, hW₁, X', ⟨g', mk, t, L, E, ce, e1, e2, hq, hce, hcv, hcl, h1, hL, h2, h3⟩, st⟩
  · dsimp only [Pt.U, Pt.locs, Pt.cells, Pt.slots] at X' e1 e2 h1 h2 h3 st
    subst h1; subst h2; subst h3
    exact Or.inl ⟨v, (T.setVm vm₁).calling g' mk (Value.ref b :: As).toArray, t, U', L, hT, X', hL, e1, e2, hq, st⟩
  · dsimp only [Pt.U, Pt.locs, Pt.cells, Pt.slots] at X' e1 e2 h1 h2 h3 st hcl
    subst h1; subst h2; subst h3
    exact Or.inr ⟨q, (T.setVm vm₁).calling g' mk (Value.ref b :: As).toArray, t, U', L, E, ce, hT, X', hL, e1, e2, hq, hce, hcv, vx_cls hW₁ hcl, st⟩
end
/-! ===== END ===== -/
/-! ===== BEGIN super.m(..) that may throw (follows va_callSU, va_runSU) ===== -/
section
variable {p : Program} {l : Launch} {e : Env} {R : Room} {s : State} {m : MethodId} {args : Array Value} {below : List Frame} {meth : Method} {c : Code} {H : Heap} {locs : List Loc} {cells slots : Nat}
theorem vx_callSU {T : State} {locs : List Loc} {cells slots : Nat} (X : Stand p l e R s m args below meth c T locs cells slots) (hexec : p.tables.exec = Jvm.exec) {own : String} {index : Nat} {y : MethodName} {bytes : ByteArray} {maxL : Nat} {ret : Option FieldType}
    (hown : s.vm.findClass own = some m.cls) (hlink : (Cond.methodLink own index y).before args s = true) (hsame : (Cond.sameMethod y.cls y.cls y.name y.desc).before args s = true) (hsup : (Cond.superclass own y.cls).before args s = true)
    (hinst : (Cond.instanceMethod y).before args s = true) (hcode : (Cond.code y bytes maxL ret).before args s = true) (hno : y.name ≠ "<init>")
    {W : Nat} {Pre : Pt → Array Value → Prop} {Post : Pt → Array Value → Option Value → Pt → Prop} {PostX : Pt → Array Value → Addr → Pt → Prop} (hK : vx_Back l R p e below s args y 3 W Pre Post PostX)
    {b : Addr} {cellB : Cell} {kB : Class} (hcell : T.heap[b]? = some cellB) (hobj : cellB.vm.isStatics = false) (hkB : s.vm.classes[cellB.cls]? = some kB)
    {g : JFrame} (hg : g.method = m) (hsize : g.locals.size = c.maxLocals) {argsL rest : List Value} (hlen : ∀ sig, parseMethodDescriptor y.desc = some sig → argsL.length = sig.parameters.length)
    (hstack : g.stack = argsL.reverse ++ .ref b :: rest) (hW : 2 * g.monitorRoom + (rest.map fun v => v.category).sum ≤ W) (hdg : decode c.code g.pc = .ok (.invokespecial index, 3))
    (hpre : ∀ vm₁, s.WarmedH vm₁ → Pre ⟨T.setVm vm₁, locs, cells, slots⟩ (Value.ref b :: argsL).toArray) :
    (∃ (v : Option Value) (vm₁ : Vm) (B : Pt), s.WarmedH vm₁ ∧ Stand p l e R s m args below meth c B.U B.locs B.cells B.slots ∧ Post ⟨T.setVm vm₁, locs, cells, slots⟩ (Value.ref b :: argsL).toArray v B ∧
      ∀ target, Steps p.tables e below (B.U.setTop { g with pc := g.pc + 3, stack := v.toList ++ rest }) target → Steps p.tables e below (T.setTop g) target) ∨
    (∃ (q : Addr) (vm₁ : Vm) (B : Pt), s.WarmedH vm₁ ∧ Stand p l e R s m args below meth c B.U B.locs B.cells B.slots ∧ PostX ⟨T.setVm vm₁, locs, cells, slots⟩ (Value.ref b :: argsL).toArray q B ∧
      Steps p.tables e below (T.setTop g) ((B.U.setTop { g with stack := rest }).pushFrame (.throwing q))) := by
  obtain ⟨mk, methM, hnamed, hmethM, hstM, habM⟩ := Cond.instanceMethod_spec hinst
  obtain ⟨methM', cM, hmethM', -, -, -, -, -, -, hsigM⟩ := Cond.code_spec hnamed hcode
  cases hmethM.symm.trans hmethM'
  obtain ⟨ps, dk, kp, hps, hdk, hkp, hsuper, -, -, hnid⟩ := Cond.superclass_spec hown hsup
  have hn : s.methodNamed? ⟨y.cls, y.name, y.desc⟩ = some mk := hnamed
  have hpm : ps = mk.cls := Option.some.inj (hps.symm.trans (findClass_of_methodNamed hnamed))
  have hsub : s.vm.isSubclass ps mk.cls = true := by rw [hpm]; simp [Vm.isSubclass, Vm.isSubclassAux]
  obtain ⟨vm₁, X₁, hstep₁⟩ := X.invokespecialUp hexec hown hlink hsame hn hmethM hstM habM hno hdk hnid hps hsuper hsub (a := b) (cell := cellB) hcell
    (fun z h => by rw [h] at hobj; cases hobj) hkB (g := g) hg (argsL := argsL) (rest := rest) (hlen _ hsigM) hstack hdg
  rcases hK m meth c ⟨T.setVm vm₁, locs, cells, slots⟩ { g with stack := rest } (.invokespecial index) mk (Value.ref b :: argsL).toArray X₁ hg hsize hdg hW (X₁.named hnamed) (hpre vm₁ X₁.warmed) with ⟨v, B, X', hpost, hsteps⟩ | ⟨q, B, X', hpost, hsteps⟩
  · exact Or.inl ⟨v, vm₁, B, X₁.warmed, X', hpost, fun target h => hstep₁ _ (by rw [doInvoke_state]; exact hsteps.trans h)⟩
  · exact Or.inr ⟨q, vm₁, B, X₁.warmed, X', hpost, hstep₁ _ (by rw [doInvoke_state]; exact hsteps)⟩
theorem vx_runSU {y : MethodName} {bytes cc : ByteArray} {maxL nL mc ms n index : Nat} {ret : Option FieldType} {ws : List Cond} {rm : Room} {Pc : Array Value → State → Prop} {Qc : Array Value → State → Outcome → State → Prop} {XC : String → State → State → Prop} {free : Addr → Prop} {Ts : List Cond} {own C : String} {cC : ClassId} {b : Addr} {As rest : List Value} {g : JFrame}
    (hat : ClassAt s C cC) (S : CallFix p m c cc nL s args Ts own) (hM : vx_Met l y ws rm Pc Qc XC mc ms free) (cw : va_CS R s args own index y bytes maxL ret ws rm mc ms n) (hp : PreV s H C b Pc As)
    (hg : g.method = m) (hn : As.length = n) (hsize : g.locals.size = nL) (hstack : g.stack = As.reverse ++ .ref b :: rest) (hW : 2 * g.monitorRoom + (rest.map fun v => v.category).sum ≤ 8) (hdg : decode cc g.pc = .ok (.invokespecial index, 3)) (hf : cells + mc ≤ R.cells ∧ slots + ms ≤ R.slots) :
    vx_Run p l e R s m args below meth c H locs cells slots mc ms g rest (Qc (Value.ref b :: As).toArray) XC free := by
  obtain ⟨⟨hrc, hrs, hfr, hlo, hws, hcw⟩, hl1, hl2, hl3, hl4, hini, hcode, hno, hlen⟩ := cw
  have hK : vx_Back l R p e below s args y 3 8 (PreOf R mc ms Pc) (PostOf Qc mc ms free) (vx_Post XC mc ms free) := vx_back (bytes := bytes) (maxL := maxL) (ret := ret) hM hp.1 hrc hrs hfr hlo hws hcw (fun a' U hW => word_at hW (Or.inl (by first | rfl | simp [Cond.onTables, Cond.keeps, Cond.steady])) hini)
  obtain ⟨hx, hb, hml, ho, -⟩ := S
  obtain ⟨-, ⟨cellB, hcB, hoB, hclB⟩, hPc⟩ := hp
  obtain ⟨hfc, kB, hkB, -⟩ := hat
  cases hfc.symm.trans hclB
  intro T hT X
  rcases vx_callSU X hx (bytes := bytes) (maxL := maxL) (ret := ret) ho hl1 hl2 hl3 hl4 hcode hno hK (by rw [hT]; exact hcB) hoB hkB hg (hsize.trans hml.symm) (argsL := As) (rest := rest) (fun sig h => hn.trans (hlen sig h)) hstack hW (by rw [hb]; exact hdg)
    (fun vm₁ hW₁ => ⟨hf.1, hf.2, hPc (T.setVm vm₁) hT hW₁⟩) with ⟨v, vm₁, ⟨U', l2, c2, s2⟩, hW₁, X', ⟨g', mk, t, L, e1, e2, hq, h1, hL, h2, h3⟩, st⟩ | ⟨q, vm₁, ⟨U', l2, c2, s2⟩, hW₁, X', ⟨g', mk, t, L, E, ce, e1, e2, hq, hce, hcv, hcl, h1, hL, h2, h3⟩, st⟩
  · dsimp only [Pt.U, Pt.locs, Pt.cells, Pt.slots] at X' e1 e2 h1 h2 h3 st
    subst h1; subst h2; subst h3
    exact Or.inl ⟨v, (T.setVm vm₁).calling g' mk (Value.ref b :: As).toArray, t, U', L, hT, X', hL, e1, e2, hq, st⟩
  · dsimp only [Pt.U, Pt.locs, Pt.cells, Pt.slots] at X' e1 e2 h1 h2 h3 st hcl
    subst h1; subst h2; subst h3
    exact Or.inr ⟨q, (T.setVm vm₁).calling g' mk (Value.ref b :: As).toArray, t, U', L, E, ce, hT, X', hL, e1, e2, hq, hce, hcv, vx_cls hW₁ hcl, st⟩
end
/-! ===== END ===== -/
/-! ===== BEGIN a private method of a nest mate that may throw (follows va_callVN, va_callSN, va_runVN, va_runSN) ===== -/
section
variable {p : Program} {l : Launch} {e : Env} {R : Room} {s : State} {m : MethodId} {args : Array Value} {below : List Frame} {meth : Method} {c : Code} {H : Heap} {locs : List Loc} {cells slots : Nat}
variable {T : State}
theorem vx_callVN (X : Stand p l e R s m args below meth c T locs cells slots) (hexec : p.tables.exec = Jvm.exec) {own C : String} {index : Nat} {host : String} {y : MethodName} {bytes : ByteArray} {maxL : Nat} {ret : Option FieldType}
    (hown : s.vm.findClass own = some m.cls) (hlink : (Cond.methodLinkNest own index y host).before args s = true) (hinst : (Cond.instanceMethod y).before args s = true) (hsel : (Cond.selects C y y).before args s = true)
    (hcode : (Cond.code y bytes maxL ret).before args s = true) (hy : y.cls ≠ "java/lang/invoke/MethodHandle" ∧ y.cls ≠ "java/lang/invoke/VarHandle")
    {W : Nat} {Pre : Pt → Array Value → Prop} {Post : Pt → Array Value → Option Value → Pt → Prop} {PostX : Pt → Array Value → Addr → Pt → Prop} (hK : vx_Back l R p e below s args y 3 W Pre Post PostX)
    {b : Addr} {cellB : Cell} (hcell : T.heap[b]? = some cellB) (hobj : cellB.vm.isStatics = false) (hcls : s.vm.findClass C = some cellB.cls)
    {g : JFrame} (hg : g.method = m) (hsize : g.locals.size = c.maxLocals) {argsL rest : List Value} (hlen : ∀ sig, parseMethodDescriptor y.desc = some sig → argsL.length = sig.parameters.length)
    (hstack : g.stack = argsL.reverse ++ .ref b :: rest) (hW : 2 * g.monitorRoom + (rest.map fun v => v.category).sum ≤ W) (hdg : decode c.code g.pc = .ok (.invokevirtual index, 3))
    (hpre : ∀ vm₁, s.WarmedH vm₁ → Pre ⟨T.setVm vm₁, locs, cells, slots⟩ (Value.ref b :: argsL).toArray) :
    (∃ (v : Option Value) (vm₁ : Vm) (B : Pt), s.WarmedH vm₁ ∧ Stand p l e R s m args below meth c B.U B.locs B.cells B.slots ∧ Post ⟨T.setVm vm₁, locs, cells, slots⟩ (Value.ref b :: argsL).toArray v B ∧
      ∀ target, Steps p.tables e below (B.U.setTop { g with pc := g.pc + 3, stack := v.toList ++ rest }) target → Steps p.tables e below (T.setTop g) target) ∨
    (∃ (q : Addr) (vm₁ : Vm) (B : Pt), s.WarmedH vm₁ ∧ Stand p l e R s m args below meth c B.U B.locs B.cells B.slots ∧ PostX ⟨T.setVm vm₁, locs, cells, slots⟩ (Value.ref b :: argsL).toArray q B ∧
      Steps p.tables e below (T.setTop g) ((B.U.setTop { g with stack := rest }).pushFrame (.throwing q))) := by
  obtain ⟨mk, methM, hnamed, hmethM, hstM, habM⟩ := Cond.instanceMethod_spec hinst
  obtain ⟨methM', cM, hmethM', -, -, -, -, -, -, hsigM⟩ := Cond.code_spec hnamed hcode
  cases hmethM.symm.trans hmethM'
  obtain ⟨c2, r2, m2, q1, q2, q3, q4, kP, hkP, hkPi⟩ := Cond.selects_spec hsel
  cases hcls.symm.trans q1
  cases (State.methodFound?_of_named hnamed hy).symm.trans q2
  cases hnamed.symm.trans q3
  have hselP : selectMethod e.platform s.vm cellB.cls mk = .method mk := by rw [Launch.admits_selectMethod X.admits]; exact q4
  obtain ⟨vm₁, X₁, hstep₁⟩ := X.invokevirtualNest hexec hown hlink hnamed hmethM hstM hkP hkPi hy (a := b) (cell := cellB) hcell
    (fun z h => by rw [h] at hobj; cases hobj) hselP hmethM habM hkP hkPi (g := g) hg (argsL := argsL) (rest := rest) (hlen _ hsigM) hstack hdg
  rcases hK m meth c ⟨T.setVm vm₁, locs, cells, slots⟩ { g with stack := rest } (.invokevirtual index) mk (Value.ref b :: argsL).toArray X₁ hg hsize hdg hW (X₁.named hnamed) (hpre vm₁ X₁.warmed) with ⟨v, B, X', hpost, hsteps⟩ | ⟨q, B, X', hpost, hsteps⟩
  · exact Or.inl ⟨v, vm₁, B, X₁.warmed, X', hpost, fun target h => hstep₁ _ fun acts => by rw [doInvoke_state]; exact hsteps.trans h⟩
  · exact Or.inr ⟨q, vm₁, B, X₁.warmed, X', hpost, hstep₁ _ fun acts => by rw [doInvoke_state]; exact hsteps⟩
theorem vx_callSN (X : Stand p l e R s m args below meth c T locs cells slots) (hexec : p.tables.exec = Jvm.exec) {own : String} {index : Nat} {host : String} {y : MethodName} {bytes : ByteArray} {maxL : Nat} {ret : Option FieldType}
    (hown : s.vm.findClass own = some m.cls) (hlink : (Cond.methodLinkNest own index y host).before args s = true) (hstat : (Cond.static y).before args s = true) (hinit : (Cond.initialized y.cls).before args s = true)
    (hcode : (Cond.code y bytes maxL ret).before args s = true) (hy : y.cls ≠ "java/lang/invoke/MethodHandle" ∧ y.cls ≠ "java/lang/invoke/VarHandle")
    {W : Nat} {Pre : Pt → Array Value → Prop} {Post : Pt → Array Value → Option Value → Pt → Prop} {PostX : Pt → Array Value → Addr → Pt → Prop} (hK : vx_Back l R p e below s args y 3 W Pre Post PostX)
    {g : JFrame} (hg : g.method = m) (hsize : g.locals.size = c.maxLocals) {argsL rest : List Value} (hlen : ∀ sig, parseMethodDescriptor y.desc = some sig → argsL.length = sig.parameters.length)
    (hstack : g.stack = argsL.reverse ++ rest) (hW : 2 * g.monitorRoom + (rest.map fun v => v.category).sum ≤ W) (hdg : decode c.code g.pc = .ok (.invokestatic index, 3))
    (hpre : ∀ vm₁, s.WarmedH vm₁ → Pre ⟨T.setVm vm₁, locs, cells, slots⟩ argsL.toArray) :
    (∃ (v : Option Value) (vm₁ : Vm) (B : Pt), s.WarmedH vm₁ ∧ Stand p l e R s m args below meth c B.U B.locs B.cells B.slots ∧ Post ⟨T.setVm vm₁, locs, cells, slots⟩ argsL.toArray v B ∧
      ∀ target, Steps p.tables e below (B.U.setTop { g with pc := g.pc + 3, stack := v.toList ++ rest }) target → Steps p.tables e below (T.setTop g) target) ∨
    (∃ (q : Addr) (vm₁ : Vm) (B : Pt), s.WarmedH vm₁ ∧ Stand p l e R s m args below meth c B.U B.locs B.cells B.slots ∧ PostX ⟨T.setVm vm₁, locs, cells, slots⟩ argsL.toArray q B ∧
      Steps p.tables e below (T.setTop g) ((B.U.setTop { g with stack := rest }).pushFrame (.throwing q))) := by
  obtain ⟨mk, hnamed⟩ := Cond.code_named hcode
  obtain ⟨methM, cM, hmethM, -, -, -, -, -, -, hsigM⟩ := Cond.code_spec hnamed hcode
  have hstatic : methM.isStatic = true := Cond.static_spec hnamed hmethM hstat
  obtain ⟨kP, hkP, -⟩ := className_of_methodNamed hnamed
  have hinitP : kP.init = .initialized := Cond.initialized_spec (findClass_of_methodNamed hnamed) hkP hinit
  obtain ⟨vm₁, X₁, hstep₁⟩ := X.invokestaticNest hexec hown hlink hnamed hmethM hstatic hkP hinitP hy (g := g) hg (argsL := argsL) (rest := rest) (hlen _ hsigM) hstack hdg
  rcases hK m meth c ⟨T.setVm vm₁, locs, cells, slots⟩ { g with stack := rest } (.invokestatic index) mk argsL.toArray X₁ hg hsize hdg hW (X₁.named hnamed) (hpre vm₁ X₁.warmed) with ⟨v, B, X', hpost, hsteps⟩ | ⟨q, B, X', hpost, hsteps⟩
  · exact Or.inl ⟨v, vm₁, B, X₁.warmed, X', hpost, fun target h => hstep₁ _ fun acts => by rw [doInvoke_state]; exact hsteps.trans h⟩
  · exact Or.inr ⟨q, vm₁, B, X₁.warmed, X', hpost, hstep₁ _ fun acts => by rw [doInvoke_state]; exact hsteps⟩
theorem vx_runVN {y : MethodName} {bytes cc : ByteArray} {maxL nL mc ms n index : Nat} {ret : Option FieldType} {ws : List Cond} {rm : Room} {Pc : Array Value → State → Prop} {Qc : Array Value → State → Outcome → State → Prop} {XC : String → State → State → Prop} {free : Addr → Prop} {Ts : List Cond} {own C host : String} {b : Addr} {As rest : List Value} {g : JFrame}
    (S : CallFix p m c cc nL s args Ts own) (hM : vx_Met l y ws rm Pc Qc XC mc ms free) (cw : va_CN R s args own index y host bytes maxL ret ws rm mc ms n ∧ (Cond.instanceMethod y).before args s = true ∧ (Cond.selects C y y).before args s = true) (hp : PreV s H C b Pc As)
    (hg : g.method = m) (hn : As.length = n) (hsize : g.locals.size = nL) (hstack : g.stack = As.reverse ++ .ref b :: rest) (hW : 2 * g.monitorRoom + (rest.map fun v => v.category).sum ≤ 8) (hdg : decode cc g.pc = .ok (.invokevirtual index, 3)) (hf : cells + mc ≤ R.cells ∧ slots + ms ≤ R.slots) :
    vx_Run p l e R s m args below meth c H locs cells slots mc ms g rest (Qc (Value.ref b :: As).toArray) XC free := by
  obtain ⟨⟨⟨hrc, hrs, hfr, hlo, hws, hcw⟩, hcode, hini, hy, hlen, hl⟩, hx1, hx2⟩ := cw
  have hK : vx_Back l R p e below s args y 3 8 (PreOf R mc ms Pc) (PostOf Qc mc ms free) (vx_Post XC mc ms free) := vx_back (bytes := bytes) (maxL := maxL) (ret := ret) hM hp.1 hrc hrs hfr hlo hws hcw (fun a' U hW => word_at hW (Or.inl (by first | rfl | simp [Cond.onTables, Cond.keeps, Cond.steady])) hini)
  obtain ⟨hx, hb, hml, ho, -⟩ := S
  obtain ⟨-, ⟨cellB, hcB, hoB, hclB⟩, hPc⟩ := hp
  intro T hT X
  rcases vx_callVN X hx (C := C) (bytes := bytes) (maxL := maxL) (ret := ret) ho hl hx1 hx2 hcode hy hK (by rw [hT]; exact hcB) hoB hclB hg (hsize.trans hml.symm) (argsL := As) (rest := rest) (fun sig h => hn.trans (hlen sig h)) hstack hW (by rw [hb]; exact hdg)
    (fun vm₁ hW₁ => ⟨hf.1, hf.2, hPc (T.setVm vm₁) hT hW₁⟩) with ⟨v, vm₁, ⟨U', l2, c2, s2⟩, hW₁, X', ⟨g', mk, t, L, e1, e2, hq, h1, hL, h2, h3⟩, st⟩ | ⟨q, vm₁, ⟨U', l2, c2, s2⟩, hW₁, X', ⟨g', mk, t, L, E, ce, e1, e2, hq, hce, hcv, hcl, h1, hL, h2, h3⟩, st⟩
  · dsimp only [Pt.U, Pt.locs, Pt.cells, Pt.slots] at X' e1 e2 h1 h2 h3 st
    subst h1; subst h2; subst h3
    exact Or.inl ⟨v, (T.setVm vm₁).calling g' mk (Value.ref b :: As).toArray, t, U', L, hT, X', hL, e1, e2, hq, st⟩
  · dsimp only [Pt.U, Pt.locs, Pt.cells, Pt.slots] at X' e1 e2 h1 h2 h3 st hcl
    subst h1; subst h2; subst h3
    exact Or.inr ⟨q, (T.setVm vm₁).calling g' mk (Value.ref b :: As).toArray, t, U', L, E, ce, hT, X', hL, e1, e2, hq, hce, hcv, vx_cls hW₁ hcl, st⟩
theorem vx_runSN {y : MethodName} {bytes cc : ByteArray} {maxL nL mc ms n index : Nat} {ret : Option FieldType} {ws : List Cond} {rm : Room} {Pc : Array Value → State → Prop} {Qc : Array Value → State → Outcome → State → Prop} {XC : String → State → State → Prop} {free : Addr → Prop} {Ts : List Cond} {own host : String} {As rest : List Value} {g : JFrame}
    (S : CallFix p m c cc nL s args Ts own) (hM : vx_Met l y ws rm Pc Qc XC mc ms free) (cw : va_CN R s args own index y host bytes maxL ret ws rm mc ms n ∧ (Cond.static y).before args s = true ∧ True) (hp : PreS s H Pc As)
    (hg : g.method = m) (hn : As.length = n) (hsize : g.locals.size = nL) (hstack : g.stack = As.reverse ++ rest) (hW : 2 * g.monitorRoom + (rest.map fun v => v.category).sum ≤ 8) (hdg : decode cc g.pc = .ok (.invokestatic index, 3)) (hf : cells + mc ≤ R.cells ∧ slots + ms ≤ R.slots) :
    vx_Run p l e R s m args below meth c H locs cells slots mc ms g rest (Qc As.toArray) XC free := by
  obtain ⟨⟨⟨hrc, hrs, hfr, hlo, hws, hcw⟩, hcode, hini, hy, hlen, hl⟩, hx1, hx2⟩ := cw
  have hK : vx_Back l R p e below s args y 3 8 (PreOf R mc ms Pc) (PostOf Qc mc ms free) (vx_Post XC mc ms free) := vx_back (bytes := bytes) (maxL := maxL) (ret := ret) hM hp.1 hrc hrs hfr hlo hws hcw (fun a' U hW => word_at hW (Or.inl (by first | rfl | simp [Cond.onTables, Cond.keeps, Cond.steady])) hini)
  obtain ⟨hx, hb, hml, ho, -⟩ := S
  have hPc := hp.2
  intro T hT X
  rcases vx_callSN X hx (bytes := bytes) (maxL := maxL) (ret := ret) ho hl hx1 hini hcode hy hK hg (hsize.trans hml.symm) (argsL := As) (rest := rest) (fun sig h => hn.trans (hlen sig h)) hstack hW (by rw [hb]; exact hdg)
    (fun vm₁ hW₁ => ⟨hf.1, hf.2, hPc (T.setVm vm₁) hT hW₁⟩) with ⟨v, vm₁, ⟨U', l2, c2, s2⟩, hW₁, X', ⟨g', mk, t, L, e1, e2, hq, h1, hL, h2, h3⟩, st⟩ | ⟨q, vm₁, ⟨U', l2, c2, s2⟩, hW₁, X', ⟨g', mk, t, L, E, ce, e1, e2, hq, hce, hcv, hcl, h1, hL, h2, h3⟩, st⟩
  · dsimp only [Pt.U, Pt.locs, Pt.cells, Pt.slots] at X' e1 e2 h1 h2 h3 st
    subst h1; subst h2; subst h3
    exact Or.inl ⟨v, (T.setVm vm₁).calling g' mk As.toArray, t, U', L, hT, X', hL, e1, e2, hq, st⟩
  · dsimp only [Pt.U, Pt.locs, Pt.cells, Pt.slots] at X' e1 e2 h1 h2 h3 st hcl
    subst h1; subst h2; subst h3
    exact Or.inr ⟨q, (T.setVm vm₁).calling g' mk As.toArray, t, U', L, E, ce, hT, X', hL, e1, e2, hq, hce, hcv, vx_cls hW₁ hcl, st⟩
end
/-! ===== END ===== -/
/-! ===== BEGIN calls by an interface of methods that may throw (vx_callIF, vx_runF follow va_callIF, va_runF of this kit) ===== -/
section
variable {p : Program} {l : Launch} {e : Env} {R : Room} {s : State} {m : MethodId} {args : Array Value} {below : List Frame} {meth : Method} {c : Code} {H : Heap} {locs : List Loc} {cells slots : Nat} {Q : State → Prop}
variable {mc ms : Nat} {free : Addr → Prop} {A0 A1 : Nat → Prop} {H0 : Heap} {a : Array Value} {pc : Nat} {ls : Array Slot} {st0 rest : List Value}
def vx_Run5 (p : Program) (l : Launch) (e : Env) (R : Room) (s : State) (m : MethodId) (args : Array Value) (below : List Frame) (meth : Method) (c : Code) (H : Heap) (locs : List Loc) (cells slots mc ms : Nat) (g : JFrame) (rest : List Value) (Qa : State → Outcome → State → Prop) (XC : String → State → State → Prop) (free : Addr → Prop) : Prop :=
  ∀ T : State, T.heap = H → Stand p l e R s m args below meth c T locs cells slots →
    (∃ (v : Option Value) (st₀ t T' : State) (L : List Loc), st₀.heap = H ∧ Stand p l e R s m args below meth c T' (locs ++ L) (cells + mc) (slots + ms) ∧ (∀ q ∈ L, free q.base) ∧ T'.heap = t.heap ∧ T'.vm = t.vm ∧ Qa st₀ (.returned v) t ∧
      Goes p e below T g T' { g with pc := g.pc + 5, stack := v.toList ++ rest }) ∨
    (∃ (q : Addr) (st₀ t T' : State) (L : List Loc) (E : String) (ce : Cell), st₀.heap = H ∧ Stand p l e R s m args below meth c T' (locs ++ L) (cells + mc) (slots + ms) ∧ (∀ z ∈ L, free z.base) ∧ T'.heap = t.heap ∧ T'.vm = t.vm ∧ XC E st₀ t ∧ t.heap[q]? = some ce ∧ ce.vm = .none ∧ s.vm.findClass E = some ce.cls ∧
      Steps p.tables e below (T.setTop g) ((T'.setTop { g with stack := rest }).pushFrame (.throwing q)))
theorem vx_callIF {T : State} (X : Stand p l e R s m args below meth c T locs cells slots) (hexec : p.tables.exec = Jvm.exec) {own C : String} {index count : Nat} {x y : MethodName} {bytes : ByteArray} {maxL : Nat} {ret : Option FieldType}
    (hown : s.vm.findClass own = some m.cls) (hlink : (Cond.methodLink own index x).before args s = true) (hdecl : (Cond.declares x).before args s = true) (hface : (Cond.interfaceMethod x.cls x.cls x.name x.desc).before args s = true)
    (hsel : (Cond.selects C x y).before args s = true) (hinst : (Cond.instanceMethod y).before args s = true) (hpub : (Cond.publicMethod y).before args s = true) (hunh : (Cond.unhidden C x.name x.desc).before args s = true)
    (hcast : (Cond.castable C x.cls).before args s = true) (hcode : (Cond.code y bytes maxL ret).before args s = true) (hx : x.cls ≠ "java/lang/invoke/MethodHandle" ∧ x.cls ≠ "java/lang/invoke/VarHandle")
    {W9 : Nat} {Pre : Pt → Array Value → Prop} {Post : Pt → Array Value → Option Value → Pt → Prop} {PostX : Pt → Array Value → Addr → Pt → Prop} (hK : vx_Back l R p e below s args y 5 W9 Pre Post PostX)
    {b : Addr} {cellB : Cell} {kB : Class} (hcell : T.heap[b]? = some cellB) (hobj : cellB.vm.isStatics = false) (hcls : s.vm.findClass C = some cellB.cls) (hkB : s.vm.classes[cellB.cls]? = some kB)
    {g : JFrame} (hg : g.method = m) (hsize : g.locals.size = c.maxLocals) {argsL rest : List Value} (hlen : ∀ sig, parseMethodDescriptor x.desc = some sig → argsL.length = sig.parameters.length)
    (hstack : g.stack = argsL.reverse ++ .ref b :: rest) (hW : 2 * g.monitorRoom + (rest.map fun v => v.category).sum ≤ W9) (hdg : decode c.code g.pc = .ok (.invokeinterface index count, 5))
    (hpre : ∀ vm₁, s.WarmedH vm₁ → Pre ⟨T.setVm vm₁, locs, cells, slots⟩ (Value.ref b :: argsL).toArray) :
    (∃ (v : Option Value) (vm₁ : Vm) (B : Pt), s.WarmedH vm₁ ∧ Stand p l e R s m args below meth c B.U B.locs B.cells B.slots ∧ Post ⟨T.setVm vm₁, locs, cells, slots⟩ (Value.ref b :: argsL).toArray v B ∧
      ∀ target, Steps p.tables e below (B.U.setTop { g with pc := g.pc + 5, stack := v.toList ++ rest }) target → Steps p.tables e below (T.setTop g) target) ∨
    (∃ (q : Addr) (vm₁ : Vm) (B : Pt), s.WarmedH vm₁ ∧ Stand p l e R s m args below meth c B.U B.locs B.cells B.slots ∧ PostX ⟨T.setVm vm₁, locs, cells, slots⟩ (Value.ref b :: argsL).toArray q B ∧
      Steps p.tables e below (T.setTop g) ((B.U.setTop { g with stack := rest }).pushFrame (.throwing q))) := by
  obtain ⟨r0, r, hn, hrm, hstR, hsigR⟩ := Cond.declares_spec hdecl
  obtain ⟨cL, kL, r1, hcL, hkL, hiL, hfoundL, hn1⟩ := Cond.interfaceMethod_spec hface
  cases hn.symm.trans hn1
  have hr0cls : r0.cls = cL := Option.some.inj ((findClass_of_methodNamed hn).symm.trans hcL)
  obtain ⟨hnameR, hdescR⟩ := name_of_methodNamed hn hrm
  obtain ⟨mk, methM, hnamed, hmethM, -, habM⟩ := Cond.instanceMethod_spec hinst
  obtain ⟨c2, r2, m2, q1, q2, q3, q4, -⟩ := Cond.selects_spec hsel
  cases hcls.symm.trans q1
  cases hfoundL.symm.trans q2
  cases hnamed.symm.trans q3
  have hselP : selectMethod e.platform s.vm cellB.cls r0 = .method mk := by rw [Launch.admits_selectMethod X.admits]; exact q4
  have hpubM : hasFlag methM.accessFlags Acc.public_ = true := Cond.publicMethod_spec hnamed hmethM hpub
  have hway : ((cellB.cls :: s.vm.superclasses cellB.cls).any fun k => (declaredIn s.vm r.name r.desc k).any fun (_, z) => z.isPrivate || z.isStatic) = false := by
    rw [hnameR, hdescR]; exact Cond.unhidden_spec hcls hunh
  obtain ⟨c3, t3, w1, w2, w3⟩ := Cond.castable_spec hcast
  cases hcls.symm.trans w1
  cases hcL.symm.trans w2
  obtain ⟨vm₁, X₁, hstep₁⟩ := X.invokeinterface hexec hown hlink hn hrm hstR (by rw [hr0cls]; exact hkL) hiL hx (a := b) (cell := cellB) (kcell := kB) hcell
    (fun z h => by rw [h] at hobj; cases hobj) hkB (by rw [hr0cls]; exact w3) hselP hmethM hway hpubM habM (g := g) hg (argsL := argsL) (rest := rest) (hlen _ hsigR) hstack hdg
  rcases hK m meth c ⟨T.setVm vm₁, locs, cells, slots⟩ { g with stack := rest } (.invokeinterface index count) mk (Value.ref b :: argsL).toArray X₁ hg hsize hdg hW (X₁.named hnamed) (hpre vm₁ X₁.warmed) with ⟨v, B, X', hpost, hsteps⟩ | ⟨q, B, X', hpost, hsteps⟩
  · exact Or.inl ⟨v, vm₁, B, X₁.warmed, X', hpost, fun target h => hstep₁ _ fun acts => by rw [doInvoke_state]; exact hsteps.trans h⟩
  · exact Or.inr ⟨q, vm₁, B, X₁.warmed, X', hpost, hstep₁ _ fun acts => by rw [doInvoke_state]; exact hsteps⟩
theorem vx_runF {x y : MethodName} {bytes cc : ByteArray} {maxL nL mc ms n index count : Nat} {ret : Option FieldType} {ws : List Cond} {rm : Room} {Pc : Array Value → State → Prop} {Qc : Array Value → State → Outcome → State → Prop} {XC : String → State → State → Prop} {free : Addr → Prop} {Ts : List Cond} {own C : String} {cC : ClassId} {b : Addr} {As rest : List Value} {g : JFrame}
    (hat : ClassAt s C cC) (S : CallFix p m c cc nL s args Ts own) (hM : vx_Met l y ws rm Pc Qc XC mc ms free) (cw : va_CI R s args own C index x y bytes maxL ret ws rm mc ms n) (hp : PreV s H C b Pc As)
    (hg : g.method = m) (hn : As.length = n) (hsize : g.locals.size = nL) (hstack : g.stack = As.reverse ++ .ref b :: rest) (hW : 2 * g.monitorRoom + (rest.map fun v => v.category).sum ≤ 8) (hdg : decode cc g.pc = .ok (.invokeinterface index count, 5)) (hf : cells + mc ≤ R.cells ∧ slots + ms ≤ R.slots) :
    vx_Run5 p l e R s m args below meth c H locs cells slots mc ms g rest (Qc (Value.ref b :: As).toArray) XC free := by
  obtain ⟨hrc, hrs, hfr, hlo, hws, hcw⟩ := cw.back
  have hini := cw.init
  have hK : vx_Back l R p e below s args y 5 8 (PreOf R mc ms Pc) (PostOf Qc mc ms free) (vx_Post XC mc ms free) := vx_back (bytes := bytes) (maxL := maxL) (ret := ret) hM hp.1 hrc hrs hfr hlo hws hcw (fun a' U hW => word_at hW (Or.inl (by first | rfl | simp [Cond.onTables, Cond.keeps, Cond.steady])) hini)
  obtain ⟨hx, hb, hml, ho, -⟩ := S
  obtain ⟨-, ⟨cellB, hcB, hoB, hclB⟩, hPc⟩ := hp
  obtain ⟨hfc, kB, hkB, -⟩ := hat
  cases hfc.symm.trans hclB
  intro T hT X
  rcases vx_callIF X hx (C := C) (bytes := bytes) (maxL := maxL) (ret := ret) ho cw.link cw.decl cw.face cw.sel cw.inst cw.pub cw.unh cw.cast cw.code cw.notMH hK (by rw [hT]; exact hcB) hoB hclB hkB hg (hsize.trans hml.symm) (argsL := As) (rest := rest) (fun sig h => hn.trans (cw.len sig h)) hstack hW (by rw [hb]; exact hdg)
    (fun vm₁ hW₁ => ⟨hf.1, hf.2, hPc (T.setVm vm₁) hT hW₁⟩) with ⟨v, vm₁, ⟨U', l2, c2, s2⟩, hW₁, X', ⟨g', mk, t, L, e1, e2, hq, h1, hL, h2, h3⟩, st⟩ | ⟨q, vm₁, ⟨U', l2, c2, s2⟩, hW₁, X', ⟨g', mk, t, L, E, ce, e1, e2, hq, hce, hcv, hcl, h1, hL, h2, h3⟩, st⟩
  · dsimp only [Pt.U, Pt.locs, Pt.cells, Pt.slots] at X' e1 e2 h1 h2 h3 st
    subst h1; subst h2; subst h3
    exact Or.inl ⟨v, (T.setVm vm₁).calling g' mk (Value.ref b :: As).toArray, t, U', L, hT, X', hL, e1, e2, hq, st⟩
  · dsimp only [Pt.U, Pt.locs, Pt.cells, Pt.slots] at X' e1 e2 h1 h2 h3 st hcl
    subst h1; subst h2; subst h3
    exact Or.inr ⟨q, (T.setVm vm₁).calling g' mk (Value.ref b :: As).toArray, t, U', L, E, ce, hT, X', hL, e1, e2, hq, hce, hcv, vx_cls hW₁ hcl, st⟩
theorem vx_callFv {S SX : Type} {post : S → Prop} {px : SX → Prop} {B : S → State → Prop} {BX : String → SX → State → Prop} {AX : Nat → Prop} (hr : vx_Run5 p l e R s m args below meth c H locs cells slots mc ms (F0 m pc ls st0) rest (va_Qv post B A1 a) (vx_X px BX AX) free) (hS : va_S A0 H0 H locs) (hA : ∀ q, q < H.size → A1 q → A0 q) (hf : ∀ q, free q → A0 q) (hAX : ∀ q, q < H.size → AX q → A0 q)
    (kx : ∀ (E : String) (ce : Cell) (q9 : Addr) (u : SX) (t : State) (H1 : Heap) (locs1 : List Loc), t.heap = H1 → s.vm.Alike t.vm → px u → BX E u t → H.size ≤ H1.size → (∀ q : Nat, q < H.size → ¬ AX q → H1[q]? = H[q]?) → va_S A0 H0 H1 locs1 → H1[q9]? = some ce → ce.vm = .none → s.vm.findClass E = some ce.cls → vx_W p l e R s m args below meth c H1 locs1 (cells + mc) (slots + ms) Q (F0 m pc ls rest) q9)
    (kk : ∀ (u : S) (t : State) (H1 : Heap) (locs1 : List Loc), t.heap = H1 → s.vm.Alike t.vm → post u → B u t → H.size ≤ H1.size → (∀ q : Nat, q < H.size → ¬ A1 q → H1[q]? = H[q]?) → va_S A0 H0 H1 locs1 → W p l e R s m args below meth c H1 locs1 (cells + mc) (slots + ms) Q (F0 m (pc + 5) ls (rest))) : W p l e R s m args below meth c H locs cells slots Q (F0 m pc ls st0) := by
  intro T hT X
  rcases hr T hT X with ⟨v, st₀, t, T', L, h0, X', hL, e1, e2, ⟨⟨u, hv, hp, hb⟩, hF⟩, st⟩ | ⟨q, st₀, t, T', L, E, ce, h0, X', hL, e1, e2, ⟨u, hp, hb, hF⟩, hce, hcv, hcl, st⟩
  · cases hv
    obtain ⟨k1, k2, k3⟩ := vx_keep h0 e1 hS hA hf hL hF
    obtain ⟨t2, a1, b1⟩ := kk u t T'.heap (locs ++ L) e1.symm (by rw [← e2]; exact X'.warmed.alike) hp hb k1 k2 k3 T' rfl X'
    exact ⟨t2, st t2 a1, b1⟩
  · obtain ⟨k1, k2, k3⟩ := vx_keep h0 e1 hS hAX hf hL hF
    obtain ⟨t2, a1, b1⟩ := kx E ce q u t T'.heap (locs ++ L) e1.symm (by rw [← e2]; exact X'.warmed.alike) hp hb k1 k2 k3 (by rw [e1]; exact hce) hcv hcl T' rfl X'
    exact ⟨t2, st.trans a1, b1⟩
theorem vx_callFi {S SX : Type} {post : Int32 → S → Prop} {px : SX → Prop} {B : S → State → Prop} {BX : String → SX → State → Prop} {AX : Nat → Prop} (hr : vx_Run5 p l e R s m args below meth c H locs cells slots mc ms (F0 m pc ls st0) rest (va_Qi post B A1 a) (vx_X px BX AX) free) (hS : va_S A0 H0 H locs) (hA : ∀ q, q < H.size → A1 q → A0 q) (hf : ∀ q, free q → A0 q) (hAX : ∀ q, q < H.size → AX q → A0 q)
    (kx : ∀ (E : String) (ce : Cell) (q9 : Addr) (u : SX) (t : State) (H1 : Heap) (locs1 : List Loc), t.heap = H1 → s.vm.Alike t.vm → px u → BX E u t → H.size ≤ H1.size → (∀ q : Nat, q < H.size → ¬ AX q → H1[q]? = H[q]?) → va_S A0 H0 H1 locs1 → H1[q9]? = some ce → ce.vm = .none → s.vm.findClass E = some ce.cls → vx_W p l e R s m args below meth c H1 locs1 (cells + mc) (slots + ms) Q (F0 m pc ls rest) q9)
    (kk : ∀ (r : Int32) (u : S) (t : State) (H1 : Heap) (locs1 : List Loc), t.heap = H1 → s.vm.Alike t.vm → post r u → B u t → H.size ≤ H1.size → (∀ q : Nat, q < H.size → ¬ A1 q → H1[q]? = H[q]?) → va_S A0 H0 H1 locs1 → W p l e R s m args below meth c H1 locs1 (cells + mc) (slots + ms) Q (F0 m (pc + 5) ls (.int r :: rest))) : W p l e R s m args below meth c H locs cells slots Q (F0 m pc ls st0) := by
  intro T hT X
  rcases hr T hT X with ⟨v, st₀, t, T', L, h0, X', hL, e1, e2, ⟨⟨r, u, hv, hp, hb⟩, hF⟩, st⟩ | ⟨q, st₀, t, T', L, E, ce, h0, X', hL, e1, e2, ⟨u, hp, hb, hF⟩, hce, hcv, hcl, st⟩
  · cases hv
    obtain ⟨k1, k2, k3⟩ := vx_keep h0 e1 hS hA hf hL hF
    obtain ⟨t2, a1, b1⟩ := kk r u t T'.heap (locs ++ L) e1.symm (by rw [← e2]; exact X'.warmed.alike) hp hb k1 k2 k3 T' rfl X'
    exact ⟨t2, st t2 a1, b1⟩
  · obtain ⟨k1, k2, k3⟩ := vx_keep h0 e1 hS hAX hf hL hF
    obtain ⟨t2, a1, b1⟩ := kx E ce q u t T'.heap (locs ++ L) e1.symm (by rw [← e2]; exact X'.warmed.alike) hp hb k1 k2 k3 (by rw [e1]; exact hce) hcv hcl T' rfl X'
    exact ⟨t2, st.trans a1, b1⟩
theorem vx_callFl {S SX : Type} {post : Int64 → S → Prop} {px : SX → Prop} {B : S → State → Prop} {BX : String → SX → State → Prop} {AX : Nat → Prop} (hr : vx_Run5 p l e R s m args below meth c H locs cells slots mc ms (F0 m pc ls st0) rest (va_Ql post B A1 a) (vx_X px BX AX) free) (hS : va_S A0 H0 H locs) (hA : ∀ q, q < H.size → A1 q → A0 q) (hf : ∀ q, free q → A0 q) (hAX : ∀ q, q < H.size → AX q → A0 q)
    (kx : ∀ (E : String) (ce : Cell) (q9 : Addr) (u : SX) (t : State) (H1 : Heap) (locs1 : List Loc), t.heap = H1 → s.vm.Alike t.vm → px u → BX E u t → H.size ≤ H1.size → (∀ q : Nat, q < H.size → ¬ AX q → H1[q]? = H[q]?) → va_S A0 H0 H1 locs1 → H1[q9]? = some ce → ce.vm = .none → s.vm.findClass E = some ce.cls → vx_W p l e R s m args below meth c H1 locs1 (cells + mc) (slots + ms) Q (F0 m pc ls rest) q9)
    (kk : ∀ (r : Int64) (u : S) (t : State) (H1 : Heap) (locs1 : List Loc), t.heap = H1 → s.vm.Alike t.vm → post r u → B u t → H.size ≤ H1.size → (∀ q : Nat, q < H.size → ¬ A1 q → H1[q]? = H[q]?) → va_S A0 H0 H1 locs1 → W p l e R s m args below meth c H1 locs1 (cells + mc) (slots + ms) Q (F0 m (pc + 5) ls (.long r :: rest))) : W p l e R s m args below meth c H locs cells slots Q (F0 m pc ls st0) := by
  intro T hT X
  rcases hr T hT X with ⟨v, st₀, t, T', L, h0, X', hL, e1, e2, ⟨⟨r, u, hv, hp, hb⟩, hF⟩, st⟩ | ⟨q, st₀, t, T', L, E, ce, h0, X', hL, e1, e2, ⟨u, hp, hb, hF⟩, hce, hcv, hcl, st⟩
  · cases hv
    obtain ⟨k1, k2, k3⟩ := vx_keep h0 e1 hS hA hf hL hF
    obtain ⟨t2, a1, b1⟩ := kk r u t T'.heap (locs ++ L) e1.symm (by rw [← e2]; exact X'.warmed.alike) hp hb k1 k2 k3 T' rfl X'
    exact ⟨t2, st t2 a1, b1⟩
  · obtain ⟨k1, k2, k3⟩ := vx_keep h0 e1 hS hAX hf hL hF
    obtain ⟨t2, a1, b1⟩ := kx E ce q u t T'.heap (locs ++ L) e1.symm (by rw [← e2]; exact X'.warmed.alike) hp hb k1 k2 k3 (by rw [e1]; exact hce) hcv hcl T' rfl X'
    exact ⟨t2, st.trans a1, b1⟩
theorem vx_callFf {S SX : Type} {post : UInt32 → S → Prop} {px : SX → Prop} {B : S → State → Prop} {BX : String → SX → State → Prop} {AX : Nat → Prop} (hr : vx_Run5 p l e R s m args below meth c H locs cells slots mc ms (F0 m pc ls st0) rest (va_Qf post B A1 a) (vx_X px BX AX) free) (hS : va_S A0 H0 H locs) (hA : ∀ q, q < H.size → A1 q → A0 q) (hf : ∀ q, free q → A0 q) (hAX : ∀ q, q < H.size → AX q → A0 q)
    (kx : ∀ (E : String) (ce : Cell) (q9 : Addr) (u : SX) (t : State) (H1 : Heap) (locs1 : List Loc), t.heap = H1 → s.vm.Alike t.vm → px u → BX E u t → H.size ≤ H1.size → (∀ q : Nat, q < H.size → ¬ AX q → H1[q]? = H[q]?) → va_S A0 H0 H1 locs1 → H1[q9]? = some ce → ce.vm = .none → s.vm.findClass E = some ce.cls → vx_W p l e R s m args below meth c H1 locs1 (cells + mc) (slots + ms) Q (F0 m pc ls rest) q9)
    (kk : ∀ (r : UInt32) (u : S) (t : State) (H1 : Heap) (locs1 : List Loc), t.heap = H1 → s.vm.Alike t.vm → post r u → B u t → H.size ≤ H1.size → (∀ q : Nat, q < H.size → ¬ A1 q → H1[q]? = H[q]?) → va_S A0 H0 H1 locs1 → W p l e R s m args below meth c H1 locs1 (cells + mc) (slots + ms) Q (F0 m (pc + 5) ls (.float r :: rest))) : W p l e R s m args below meth c H locs cells slots Q (F0 m pc ls st0) := by
  intro T hT X
  rcases hr T hT X with ⟨v, st₀, t, T', L, h0, X', hL, e1, e2, ⟨⟨r, u, hv, hp, hb⟩, hF⟩, st⟩ | ⟨q, st₀, t, T', L, E, ce, h0, X', hL, e1, e2, ⟨u, hp, hb, hF⟩, hce, hcv, hcl, st⟩
  · cases hv
    obtain ⟨k1, k2, k3⟩ := vx_keep h0 e1 hS hA hf hL hF
    obtain ⟨t2, a1, b1⟩ := kk r u t T'.heap (locs ++ L) e1.symm (by rw [← e2]; exact X'.warmed.alike) hp hb k1 k2 k3 T' rfl X'
    exact ⟨t2, st t2 a1, b1⟩
  · obtain ⟨k1, k2, k3⟩ := vx_keep h0 e1 hS hAX hf hL hF
    obtain ⟨t2, a1, b1⟩ := kx E ce q u t T'.heap (locs ++ L) e1.symm (by rw [← e2]; exact X'.warmed.alike) hp hb k1 k2 k3 (by rw [e1]; exact hce) hcv hcl T' rfl X'
    exact ⟨t2, st.trans a1, b1⟩
theorem vx_callFd {S SX : Type} {post : UInt64 → S → Prop} {px : SX → Prop} {B : S → State → Prop} {BX : String → SX → State → Prop} {AX : Nat → Prop} (hr : vx_Run5 p l e R s m args below meth c H locs cells slots mc ms (F0 m pc ls st0) rest (va_Qd post B A1 a) (vx_X px BX AX) free) (hS : va_S A0 H0 H locs) (hA : ∀ q, q < H.size → A1 q → A0 q) (hf : ∀ q, free q → A0 q) (hAX : ∀ q, q < H.size → AX q → A0 q)
    (kx : ∀ (E : String) (ce : Cell) (q9 : Addr) (u : SX) (t : State) (H1 : Heap) (locs1 : List Loc), t.heap = H1 → s.vm.Alike t.vm → px u → BX E u t → H.size ≤ H1.size → (∀ q : Nat, q < H.size → ¬ AX q → H1[q]? = H[q]?) → va_S A0 H0 H1 locs1 → H1[q9]? = some ce → ce.vm = .none → s.vm.findClass E = some ce.cls → vx_W p l e R s m args below meth c H1 locs1 (cells + mc) (slots + ms) Q (F0 m pc ls rest) q9)
    (kk : ∀ (r : UInt64) (u : S) (t : State) (H1 : Heap) (locs1 : List Loc), t.heap = H1 → s.vm.Alike t.vm → post r u → B u t → H.size ≤ H1.size → (∀ q : Nat, q < H.size → ¬ A1 q → H1[q]? = H[q]?) → va_S A0 H0 H1 locs1 → W p l e R s m args below meth c H1 locs1 (cells + mc) (slots + ms) Q (F0 m (pc + 5) ls (.double r :: rest))) : W p l e R s m args below meth c H locs cells slots Q (F0 m pc ls st0) := by
  intro T hT X
  rcases hr T hT X with ⟨v, st₀, t, T', L, h0, X', hL, e1, e2, ⟨⟨r, u, hv, hp, hb⟩, hF⟩, st⟩ | ⟨q, st₀, t, T', L, E, ce, h0, X', hL, e1, e2, ⟨u, hp, hb, hF⟩, hce, hcv, hcl, st⟩
  · cases hv
    obtain ⟨k1, k2, k3⟩ := vx_keep h0 e1 hS hA hf hL hF
    obtain ⟨t2, a1, b1⟩ := kk r u t T'.heap (locs ++ L) e1.symm (by rw [← e2]; exact X'.warmed.alike) hp hb k1 k2 k3 T' rfl X'
    exact ⟨t2, st t2 a1, b1⟩
  · obtain ⟨k1, k2, k3⟩ := vx_keep h0 e1 hS hAX hf hL hF
    obtain ⟨t2, a1, b1⟩ := kx E ce q u t T'.heap (locs ++ L) e1.symm (by rw [← e2]; exact X'.warmed.alike) hp hb k1 k2 k3 (by rw [e1]; exact hce) hcv hcl T' rfl X'
    exact ⟨t2, st.trans a1, b1⟩
end
/-! ===== END ===== -/
/-! ===== BEGIN by an interface, a method with a table of its own that may throw (follows va_callIFW, va_runFW) ===== -/
section
variable {p : Program} {l : Launch} {e : Env} {R : Room} {s : State} {m : MethodId} {args : Array Value} {below : List Frame} {meth : Method} {c : Code} {H : Heap} {locs : List Loc} {cells slots : Nat}
theorem vx_callIFW {T : State} (X : Stand p l e R s m args below meth c T locs cells slots) (hexec : p.tables.exec = Jvm.exec) {own C : String} {index count : Nat} {x y : MethodName} {bytes : ByteArray} {maxL : Nat} {ret : Option FieldType} {hh : List (Nat × Nat × Nat × Nat)}
    (hown : s.vm.findClass own = some m.cls) (hlink : (Cond.methodLink own index x).before args s = true) (hdecl : (Cond.declares x).before args s = true) (hface : (Cond.interfaceMethod x.cls x.cls x.name x.desc).before args s = true)
    (hsel : (Cond.selects C x y).before args s = true) (hinst : (Cond.instanceMethod y).before args s = true) (hpub : (Cond.publicMethod y).before args s = true) (hunh : (Cond.unhidden C x.name x.desc).before args s = true)
    (hcast : (Cond.castable C x.cls).before args s = true) (hcode : (Cond.codeWith y bytes maxL ret hh).before args s = true) (hx : x.cls ≠ "java/lang/invoke/MethodHandle" ∧ x.cls ≠ "java/lang/invoke/VarHandle")
    {W : Nat} {Pre : Pt → Array Value → Prop} {Post : Pt → Array Value → Option Value → Pt → Prop} {PostX : Pt → Array Value → Addr → Pt → Prop} (hK : vx_Back l R p e below s args y 5 W Pre Post PostX)
    {b : Addr} {cellB : Cell} {kB : Class} (hcell : T.heap[b]? = some cellB) (hobj : cellB.vm.isStatics = false) (hcls : s.vm.findClass C = some cellB.cls) (hkB : s.vm.classes[cellB.cls]? = some kB)
    {g : JFrame} (hg : g.method = m) (hsize : g.locals.size = c.maxLocals) {argsL rest : List Value} (hlen : ∀ sig, parseMethodDescriptor x.desc = some sig → argsL.length = sig.parameters.length)
    (hstack : g.stack = argsL.reverse ++ .ref b :: rest) (hW : 2 * g.monitorRoom + (rest.map fun v => v.category).sum ≤ W) (hdg : decode c.code g.pc = .ok (.invokeinterface index count, 5))
    (hpre : ∀ vm₁, s.WarmedH vm₁ → Pre ⟨T.setVm vm₁, locs, cells, slots⟩ (Value.ref b :: argsL).toArray) :
    (∃ (v : Option Value) (vm₁ : Vm) (B : Pt), s.WarmedH vm₁ ∧ Stand p l e R s m args below meth c B.U B.locs B.cells B.slots ∧ Post ⟨T.setVm vm₁, locs, cells, slots⟩ (Value.ref b :: argsL).toArray v B ∧
      ∀ target, Steps p.tables e below (B.U.setTop { g with pc := g.pc + 5, stack := v.toList ++ rest }) target → Steps p.tables e below (T.setTop g) target) ∨
    (∃ (q : Addr) (vm₁ : Vm) (B : Pt), s.WarmedH vm₁ ∧ Stand p l e R s m args below meth c B.U B.locs B.cells B.slots ∧ PostX ⟨T.setVm vm₁, locs, cells, slots⟩ (Value.ref b :: argsL).toArray q B ∧
      Steps p.tables e below (T.setTop g) ((B.U.setTop { g with stack := rest }).pushFrame (.throwing q))) := by
  obtain ⟨r0, r, hn, hrm, hstR, hsigR⟩ := Cond.declares_spec hdecl
  obtain ⟨cL, kL, r1, hcL, hkL, hiL, hfoundL, hn1⟩ := Cond.interfaceMethod_spec hface
  cases hn.symm.trans hn1
  have hr0cls : r0.cls = cL := Option.some.inj ((findClass_of_methodNamed hn).symm.trans hcL)
  obtain ⟨hnameR, hdescR⟩ := name_of_methodNamed hn hrm
  obtain ⟨mk, methM, hnamed, hmethM, -, habM⟩ := Cond.instanceMethod_spec hinst
  obtain ⟨c2, r2, m2, q1, q2, q3, q4, -⟩ := Cond.selects_spec hsel
  cases hcls.symm.trans q1
  cases hfoundL.symm.trans q2
  cases hnamed.symm.trans q3
  have hselP : selectMethod e.platform s.vm cellB.cls r0 = .method mk := by rw [Launch.admits_selectMethod X.admits]; exact q4
  have hpubM : hasFlag methM.accessFlags Acc.public_ = true := Cond.publicMethod_spec hnamed hmethM hpub
  have hway : ((cellB.cls :: s.vm.superclasses cellB.cls).any fun k => (declaredIn s.vm r.name r.desc k).any fun (_, z) => z.isPrivate || z.isStatic) = false := by
    rw [hnameR, hdescR]; exact Cond.unhidden_spec hcls hunh
  obtain ⟨c3, t3, w1, w2, w3⟩ := Cond.castable_spec hcast
  cases hcls.symm.trans w1
  cases hcL.symm.trans w2
  obtain ⟨vm₁, X₁, hstep₁⟩ := X.invokeinterface hexec hown hlink hn hrm hstR (by rw [hr0cls]; exact hkL) hiL hx (a := b) (cell := cellB) (kcell := kB) hcell
    (fun z h => by rw [h] at hobj; cases hobj) hkB (by rw [hr0cls]; exact w3) hselP hmethM hway hpubM habM (g := g) hg (argsL := argsL) (rest := rest) (hlen _ hsigR) hstack hdg
  rcases hK m meth c ⟨T.setVm vm₁, locs, cells, slots⟩ { g with stack := rest } (.invokeinterface index count) mk (Value.ref b :: argsL).toArray X₁ hg hsize hdg hW (X₁.named hnamed) (hpre vm₁ X₁.warmed) with ⟨v, B, X', hpost, hsteps⟩ | ⟨q, B, X', hpost, hsteps⟩
  · exact Or.inl ⟨v, vm₁, B, X₁.warmed, X', hpost, fun target h => hstep₁ _ fun acts => by rw [doInvoke_state]; exact hsteps.trans h⟩
  · exact Or.inr ⟨q, vm₁, B, X₁.warmed, X', hpost, hstep₁ _ fun acts => by rw [doInvoke_state]; exact hsteps⟩
theorem vx_runFW {x y : MethodName} {bytes cc : ByteArray} {maxL nL mc ms n index count : Nat} {ret : Option FieldType} {hh : List (Nat × Nat × Nat × Nat)} {ws : List Cond} {rm : Room} {Pc : Array Value → State → Prop} {Qc : Array Value → State → Outcome → State → Prop} {XC : String → State → State → Prop} {free : Addr → Prop} {Ts : List Cond} {own C : String} {cC : ClassId} {b : Addr} {As rest : List Value} {g : JFrame}
    (hat : ClassAt s C cC) (S : CallFix p m c cc nL s args Ts own) (hM : vx_Met l y ws rm Pc Qc XC mc ms free) (cw : va_CIW R s args own C index x y bytes maxL ret hh ws rm mc ms n) (hp : PreV s H C b Pc As)
    (hg : g.method = m) (hn : As.length = n) (hsize : g.locals.size = nL) (hstack : g.stack = As.reverse ++ .ref b :: rest) (hW : 2 * g.monitorRoom + (rest.map fun v => v.category).sum ≤ 8) (hdg : decode cc g.pc = .ok (.invokeinterface index count, 5)) (hf : cells + mc ≤ R.cells ∧ slots + ms ≤ R.slots) :
    vx_Run5 p l e R s m args below meth c H locs cells slots mc ms g rest (Qc (Value.ref b :: As).toArray) XC free := by
  obtain ⟨hrc, hrs, hfr, hlo, hws, hcw⟩ := cw.back
  have hini := cw.init
  have hK : vx_Back l R p e below s args y 5 8 (PreOf R mc ms Pc) (PostOf Qc mc ms free) (vx_Post XC mc ms free) := vx_backW (hh := hh) (bytes := bytes) (maxL := maxL) (ret := ret) hM hp.1 hrc hrs hfr hlo hws hcw (fun a' U hW => word_at hW (Or.inl (by first | rfl | simp [Cond.onTables, Cond.keeps, Cond.steady])) hini)
  obtain ⟨hx, hb, hml, ho, -⟩ := S
  obtain ⟨-, ⟨cellB, hcB, hoB, hclB⟩, hPc⟩ := hp
  obtain ⟨hfc, kB, hkB, -⟩ := hat
  cases hfc.symm.trans hclB
  intro T hT X
  rcases vx_callIFW X hx (C := C) (hh := hh) (bytes := bytes) (maxL := maxL) (ret := ret) ho cw.link cw.decl cw.face cw.sel cw.inst cw.pub cw.unh cw.cast cw.code cw.notMH hK (by rw [hT]; exact hcB) hoB hclB hkB hg (hsize.trans hml.symm) (argsL := As) (rest := rest) (fun sig h => hn.trans (cw.len sig h)) hstack hW (by rw [hb]; exact hdg)
    (fun vm₁ hW₁ => ⟨hf.1, hf.2, hPc (T.setVm vm₁) hT hW₁⟩) with ⟨v, vm₁, ⟨U', l2, c2, s2⟩, hW₁, X', ⟨g', mk, t, L, e1, e2, hq, h1, hL, h2, h3⟩, st⟩ | ⟨q, vm₁, ⟨U', l2, c2, s2⟩, hW₁, X', ⟨g', mk, t, L, E, ce, e1, e2, hq, hce, hcv, hcl, h1, hL, h2, h3⟩, st⟩
  · dsimp only [Pt.U, Pt.locs, Pt.cells, Pt.slots] at X' e1 e2 h1 h2 h3 st
    subst h1; subst h2; subst h3
    exact Or.inl ⟨v, (T.setVm vm₁).calling g' mk (Value.ref b :: As).toArray, t, U', L, hT, X', hL, e1, e2, hq, st⟩
  · dsimp only [Pt.U, Pt.locs, Pt.cells, Pt.slots] at X' e1 e2 h1 h2 h3 st hcl
    subst h1; subst h2; subst h3
    exact Or.inr ⟨q, (T.setVm vm₁).calling g' mk (Value.ref b :: As).toArray, t, U', L, E, ce, hT, X', hL, e1, e2, hq, hce, hcv, vx_cls hW₁ hcl, st⟩
end
/-! ===== END ===== -/
/-! ===== BEGIN .. of methods that hand back an object of the pool ===== -/
section
variable {p : Program} {l : Launch} {e : Env} {R : Room} {s : State} {m : MethodId} {args : Array Value} {below : List Frame} {meth : Method} {c : Code} {H : Heap} {locs : List Loc} {cells slots : Nat} {Q : State → Prop}
variable {mc ms : Nat} {free : Addr → Prop} {A0 A1 : Nat → Prop} {H0 : Heap} {a : Array Value} {pc : Nat} {ls : Array Slot} {st0 rest : List Value}
theorem vx_callq {S SX : Type} {post : Option Nat → S → Prop} {px : SX → Prop} {B : S → State → Prop} {BX : String → SX → State → Prop} {AX : Nat → Prop} (hr : vx_Run p l e R s m args below meth c H locs cells slots mc ms (F0 m pc ls st0) rest (va_Qq post B A1 a) (vx_X px BX AX) free) (hS : va_S A0 H0 H locs) (hA : ∀ q, q < H.size → A1 q → A0 q) (hf : ∀ q, free q → A0 q) (hAX : ∀ q, q < H.size → AX q → A0 q)
    (kx : ∀ (E : String) (ce : Cell) (q9 : Addr) (u : SX) (t : State) (H1 : Heap) (locs1 : List Loc), t.heap = H1 → s.vm.Alike t.vm → px u → BX E u t → H.size ≤ H1.size → (∀ q : Nat, q < H.size → ¬ AX q → H1[q]? = H[q]?) → va_S A0 H0 H1 locs1 → H1[q9]? = some ce → ce.vm = .none → s.vm.findClass E = some ce.cls → vx_W p l e R s m args below meth c H1 locs1 (cells + mc) (slots + ms) Q (F0 m pc ls rest) q9)
    (kk : ∀ (r : Option Nat) (u : S) (t : State) (H1 : Heap) (locs1 : List Loc), t.heap = H1 → s.vm.Alike t.vm → post r u → B u t → H.size ≤ H1.size → (∀ q : Nat, q < H.size → ¬ A1 q → H1[q]? = H[q]?) → va_S A0 H0 H1 locs1 → W p l e R s m args below meth c H1 locs1 (cells + mc) (slots + ms) Q (F0 m (pc + 3) ls (va_rf r :: rest))) : W p l e R s m args below meth c H locs cells slots Q (F0 m pc ls st0) := by
  intro T hT X
  rcases hr T hT X with ⟨v, st₀, t, T', L, h0, X', hL, e1, e2, ⟨⟨r, u, hv, hp, hb⟩, hF⟩, st⟩ | ⟨q, st₀, t, T', L, E, ce, h0, X', hL, e1, e2, ⟨u, hp, hb, hF⟩, hce, hcv, hcl, st⟩
  · cases hv
    obtain ⟨k1, k2, k3⟩ := vx_keep h0 e1 hS hA hf hL hF
    obtain ⟨t2, a1, b1⟩ := kk r u t T'.heap (locs ++ L) e1.symm (by rw [← e2]; exact X'.warmed.alike) hp hb k1 k2 k3 T' rfl X'
    exact ⟨t2, st t2 a1, b1⟩
  · obtain ⟨k1, k2, k3⟩ := vx_keep h0 e1 hS hAX hf hL hF
    obtain ⟨t2, a1, b1⟩ := kx E ce q u t T'.heap (locs ++ L) e1.symm (by rw [← e2]; exact X'.warmed.alike) hp hb k1 k2 k3 (by rw [e1]; exact hce) hcv hcl T' rfl X'
    exact ⟨t2, st.trans a1, b1⟩
end
/-! ===== END ===== -/
/-! ===== BEGIN .. a constant ===== -/
section
variable {p : Program} {l : Launch} {e : Env} {R : Room} {s : State} {m : MethodId} {args : Array Value} {below : List Frame} {meth : Method} {c : Code} {H : Heap} {locs : List Loc} {cells slots : Nat} {Q : State → Prop}
variable {mc ms : Nat} {free : Addr → Prop} {A0 A1 : Nat → Prop} {H0 : Heap} {a : Array Value} {pc : Nat} {ls : Array Slot} {st0 rest : List Value}
theorem vx_calle {ad : Nat → Nat} {S SX : Type} {post : Option Nat → S → Prop} {px : SX → Prop} {B : S → State → Prop} {BX : String → SX → State → Prop} {AX : Nat → Prop} (hr : vx_Run p l e R s m args below meth c H locs cells slots mc ms (F0 m pc ls st0) rest (va_Qe ad post B A1 a) (vx_X px BX AX) free) (hS : va_S A0 H0 H locs) (hA : ∀ q, q < H.size → A1 q → A0 q) (hf : ∀ q, free q → A0 q) (hAX : ∀ q, q < H.size → AX q → A0 q)
    (kx : ∀ (E : String) (ce : Cell) (q9 : Addr) (u : SX) (t : State) (H1 : Heap) (locs1 : List Loc), t.heap = H1 → s.vm.Alike t.vm → px u → BX E u t → H.size ≤ H1.size → (∀ q : Nat, q < H.size → ¬ AX q → H1[q]? = H[q]?) → va_S A0 H0 H1 locs1 → H1[q9]? = some ce → ce.vm = .none → s.vm.findClass E = some ce.cls → vx_W p l e R s m args below meth c H1 locs1 (cells + mc) (slots + ms) Q (F0 m pc ls rest) q9)
    (kk : ∀ (r : Option Nat) (u : S) (t : State) (H1 : Heap) (locs1 : List Loc), t.heap = H1 → s.vm.Alike t.vm → post r u → B u t → H.size ≤ H1.size → (∀ q : Nat, q < H.size → ¬ A1 q → H1[q]? = H[q]?) → va_S A0 H0 H1 locs1 → W p l e R s m args below meth c H1 locs1 (cells + mc) (slots + ms) Q (F0 m (pc + 3) ls (va_re ad r :: rest))) : W p l e R s m args below meth c H locs cells slots Q (F0 m pc ls st0) := by
  intro T hT X
  rcases hr T hT X with ⟨v, st₀, t, T', L, h0, X', hL, e1, e2, ⟨⟨r, u, hv, hp, hb⟩, hF⟩, st⟩ | ⟨q, st₀, t, T', L, E, ce, h0, X', hL, e1, e2, ⟨u, hp, hb, hF⟩, hce, hcv, hcl, st⟩
  · cases hv
    obtain ⟨k1, k2, k3⟩ := vx_keep h0 e1 hS hA hf hL hF
    obtain ⟨t2, a1, b1⟩ := kk r u t T'.heap (locs ++ L) e1.symm (by rw [← e2]; exact X'.warmed.alike) hp hb k1 k2 k3 T' rfl X'
    exact ⟨t2, st t2 a1, b1⟩
  · obtain ⟨k1, k2, k3⟩ := vx_keep h0 e1 hS hAX hf hL hF
    obtain ⟨t2, a1, b1⟩ := kx E ce q u t T'.heap (locs ++ L) e1.symm (by rw [← e2]; exact X'.warmed.alike) hp hb k1 k2 k3 (by rw [e1]; exact hce) hcv hcl T' rfl X'
    exact ⟨t2, st.trans a1, b1⟩
end
/-! ===== END ===== -/
/-! ===== BEGIN .. by an interface, an object ===== -/
section
variable {p : Program} {l : Launch} {e : Env} {R : Room} {s : State} {m : MethodId} {args : Array Value} {below : List Frame} {meth : Method} {c : Code} {H : Heap} {locs : List Loc} {cells slots : Nat} {Q : State → Prop}
variable {mc ms : Nat} {free : Addr → Prop} {A0 A1 : Nat → Prop} {H0 : Heap} {a : Array Value} {pc : Nat} {ls : Array Slot} {st0 rest : List Value}
theorem vx_callFq {S SX : Type} {post : Option Nat → S → Prop} {px : SX → Prop} {B : S → State → Prop} {BX : String → SX → State → Prop} {AX : Nat → Prop} (hr : vx_Run5 p l e R s m args below meth c H locs cells slots mc ms (F0 m pc ls st0) rest (va_Qq post B A1 a) (vx_X px BX AX) free) (hS : va_S A0 H0 H locs) (hA : ∀ q, q < H.size → A1 q → A0 q) (hf : ∀ q, free q → A0 q) (hAX : ∀ q, q < H.size → AX q → A0 q)
    (kx : ∀ (E : String) (ce : Cell) (q9 : Addr) (u : SX) (t : State) (H1 : Heap) (locs1 : List Loc), t.heap = H1 → s.vm.Alike t.vm → px u → BX E u t → H.size ≤ H1.size → (∀ q : Nat, q < H.size → ¬ AX q → H1[q]? = H[q]?) → va_S A0 H0 H1 locs1 → H1[q9]? = some ce → ce.vm = .none → s.vm.findClass E = some ce.cls → vx_W p l e R s m args below meth c H1 locs1 (cells + mc) (slots + ms) Q (F0 m pc ls rest) q9)
    (kk : ∀ (r : Option Nat) (u : S) (t : State) (H1 : Heap) (locs1 : List Loc), t.heap = H1 → s.vm.Alike t.vm → post r u → B u t → H.size ≤ H1.size → (∀ q : Nat, q < H.size → ¬ A1 q → H1[q]? = H[q]?) → va_S A0 H0 H1 locs1 → W p l e R s m args below meth c H1 locs1 (cells + mc) (slots + ms) Q (F0 m (pc + 5) ls (va_rf r :: rest))) : W p l e R s m args below meth c H locs cells slots Q (F0 m pc ls st0) := by
  intro T hT X
  rcases hr T hT X with ⟨v, st₀, t, T', L, h0, X', hL, e1, e2, ⟨⟨r, u, hv, hp, hb⟩, hF⟩, st⟩ | ⟨q, st₀, t, T', L, E, ce, h0, X', hL, e1, e2, ⟨u, hp, hb, hF⟩, hce, hcv, hcl, st⟩
  · cases hv
    obtain ⟨k1, k2, k3⟩ := vx_keep h0 e1 hS hA hf hL hF
    obtain ⟨t2, a1, b1⟩ := kk r u t T'.heap (locs ++ L) e1.symm (by rw [← e2]; exact X'.warmed.alike) hp hb k1 k2 k3 T' rfl X'
    exact ⟨t2, st t2 a1, b1⟩
  · obtain ⟨k1, k2, k3⟩ := vx_keep h0 e1 hS hAX hf hL hF
    obtain ⟨t2, a1, b1⟩ := kx E ce q u t T'.heap (locs ++ L) e1.symm (by rw [← e2]; exact X'.warmed.alike) hp hb k1 k2 k3 (by rw [e1]; exact hce) hcv hcl T' rfl X'
    exact ⟨t2, st.trans a1, b1⟩
end
/-! ===== END ===== -/
/-! ===== BEGIN .. by an interface, a constant ===== -/
section
variable {p : Program} {l : Launch} {e : Env} {R : Room} {s : State} {m : MethodId} {args : Array Value} {below : List Frame} {meth : Method} {c : Code} {H : Heap} {locs : List Loc} {cells slots : Nat} {Q : State → Prop}
variable {mc ms : Nat} {free : Addr → Prop} {A0 A1 : Nat → Prop} {H0 : Heap} {a : Array Value} {pc : Nat} {ls : Array Slot} {st0 rest : List Value}
theorem vx_callFe {ad : Nat → Nat} {S SX : Type} {post : Option Nat → S → Prop} {px : SX → Prop} {B : S → State → Prop} {BX : String → SX → State → Prop} {AX : Nat → Prop} (hr : vx_Run5 p l e R s m args below meth c H locs cells slots mc ms (F0 m pc ls st0) rest (va_Qe ad post B A1 a) (vx_X px BX AX) free) (hS : va_S A0 H0 H locs) (hA : ∀ q, q < H.size → A1 q → A0 q) (hf : ∀ q, free q → A0 q) (hAX : ∀ q, q < H.size → AX q → A0 q)
    (kx : ∀ (E : String) (ce : Cell) (q9 : Addr) (u : SX) (t : State) (H1 : Heap) (locs1 : List Loc), t.heap = H1 → s.vm.Alike t.vm → px u → BX E u t → H.size ≤ H1.size → (∀ q : Nat, q < H.size → ¬ AX q → H1[q]? = H[q]?) → va_S A0 H0 H1 locs1 → H1[q9]? = some ce → ce.vm = .none → s.vm.findClass E = some ce.cls → vx_W p l e R s m args below meth c H1 locs1 (cells + mc) (slots + ms) Q (F0 m pc ls rest) q9)
    (kk : ∀ (r : Option Nat) (u : S) (t : State) (H1 : Heap) (locs1 : List Loc), t.heap = H1 → s.vm.Alike t.vm → post r u → B u t → H.size ≤ H1.size → (∀ q : Nat, q < H.size → ¬ A1 q → H1[q]? = H[q]?) → va_S A0 H0 H1 locs1 → W p l e R s m args below meth c H1 locs1 (cells + mc) (slots + ms) Q (F0 m (pc + 5) ls (va_re ad r :: rest))) : W p l e R s m args below meth c H locs cells slots Q (F0 m pc ls st0) := by
  intro T hT X
  rcases hr T hT X with ⟨v, st₀, t, T', L, h0, X', hL, e1, e2, ⟨⟨r, u, hv, hp, hb⟩, hF⟩, st⟩ | ⟨q, st₀, t, T', L, E, ce, h0, X', hL, e1, e2, ⟨u, hp, hb, hF⟩, hce, hcv, hcl, st⟩
  · cases hv
    obtain ⟨k1, k2, k3⟩ := vx_keep h0 e1 hS hA hf hL hF
    obtain ⟨t2, a1, b1⟩ := kk r u t T'.heap (locs ++ L) e1.symm (by rw [← e2]; exact X'.warmed.alike) hp hb k1 k2 k3 T' rfl X'
    exact ⟨t2, st t2 a1, b1⟩
  · obtain ⟨k1, k2, k3⟩ := vx_keep h0 e1 hS hAX hf hL hF
    obtain ⟨t2, a1, b1⟩ := kx E ce q u t T'.heap (locs ++ L) e1.symm (by rw [← e2]; exact X'.warmed.alike) hp hb k1 k2 k3 (by rw [e1]; exact hce) hcv hcl T' rfl X'
    exact ⟨t2, st.trans a1, b1⟩
end
/-! ===== END ===== -/
/-! ===== BEGIN what the machine throws by itself: null at a field, at athrow ===== -/
section VXM2
variable {p : Program} {l : Launch} {e : Env} {R : Room} {s : State} {m : MethodId} {args : Array Value} {below : List Frame} {meth : Method} {c : Code} {H : Heap} {locs : List Loc} {cells slots : Nat}
variable {Q : State → Prop} {cc : ByteArray} {pc : Nat} {ls : Array Slot} {rest : List Value}
theorem vx_getfN {D cl tys} {own ref C : String} {T : u_T} {N ci index : Nat} {Ts : List Cond} (hexec : p.tables.exec = Jvm.exec) (hb : c.code = cc) (hts : ∀ w ∈ Ts, w.before args s = true) (hin : ∀ w ∈ u_ws C T N, w ∈ Ts) (hown : s.vm.findClass own = some m.cls) (hK : va_K D cl tys s) (hc : cl[ci]? = some (C, T, N)) (k : Nat) (hk : k < N) (hlink : (Cond.fieldLink own index ref (T k).2.1 (T k).2.2.1).before args s = true) (hsame : ∀ x, s.fieldFound? (T k).1 (T k).2.1 (T k).2.2.1 = some x → s.fieldFound? ref (T k).2.1 (T k).2.2.1 = some x) (hdg : decode cc pc = .ok (.getfield index, 3)) (kk : vx_NoteN p l e R s m args below meth c H locs cells slots Q (F0 m pc ls rest)) : W p l e R s m args below meth c H locs cells slots Q (F0 m pc ls (.null :: rest)) := by
  obtain ⟨hS, hfc, kC, hkC, -⟩ := hK.1 ci _ hc
  obtain ⟨cf, kf, fi, f, hi, -⟩ := hS k hk
  intro U hU X
  obtain ⟨vm', X1, st1⟩ := X.getfieldNull hexec hown hlink (hsame _ hi) (u_facts hfc hkC (u_lays hts hin hk) hi).1 (g := F0 m pc ls (.null :: rest)) rfl (rest := rest) rfl (by rw [hb]; exact hdg)
  obtain ⟨t, st, q⟩ := kk (U.setVm vm') hU X1
  exact ⟨t, st1 t st, q⟩
theorem vx_getfNN {D cl tys} {own ref C host : String} {T : u_T} {N ci index : Nat} {Ts : List Cond} (hexec : p.tables.exec = Jvm.exec) (hb : c.code = cc) (hts : ∀ w ∈ Ts, w.before args s = true) (hin : ∀ w ∈ u_ws C T N, w ∈ Ts) (hown : s.vm.findClass own = some m.cls) (hK : va_K D cl tys s) (hc : cl[ci]? = some (C, T, N)) (k : Nat) (hk : k < N) (hlink : (Cond.fieldLinkNest own index ref (T k).2.1 (T k).2.2.1 host).before args s = true) (hsame : ∀ x, s.fieldFound? (T k).1 (T k).2.1 (T k).2.2.1 = some x → s.fieldFound? ref (T k).2.1 (T k).2.2.1 = some x) (hdg : decode cc pc = .ok (.getfield index, 3)) (kk : vx_NoteN p l e R s m args below meth c H locs cells slots Q (F0 m pc ls rest)) : W p l e R s m args below meth c H locs cells slots Q (F0 m pc ls (.null :: rest)) := by
  obtain ⟨hS, hfc, kC, hkC, -⟩ := hK.1 ci _ hc
  obtain ⟨cf, kf, fi, f, hi, -⟩ := hS k hk
  intro U hU X
  obtain ⟨vm', X1, st1⟩ := X.getfieldNullNest hexec hown hlink (hsame _ hi) (u_facts hfc hkC (u_lays hts hin hk) hi).1 (g := F0 m pc ls (.null :: rest)) rfl (rest := rest) rfl (by rw [hb]; exact hdg)
  obtain ⟨t, st, q⟩ := kk (U.setVm vm') hU X1
  exact ⟨t, st1 t st, q⟩
theorem vx_putfN {D cl tys} {own ref C : String} {T : u_T} {N ci index : Nat} {Ts : List Cond} (hexec : p.tables.exec = Jvm.exec) (hb : c.code = cc) (hts : ∀ w ∈ Ts, w.before args s = true) (hin : ∀ w ∈ u_ws C T N, w ∈ Ts) (hown : s.vm.findClass own = some m.cls) (hK : va_K D cl tys s) (hc : cl[ci]? = some (C, T, N)) (k : Nat) (hk : k < N) (hlink : (Cond.fieldLink own index ref (T k).2.1 (T k).2.2.1).before args s = true) (hsame : ∀ x, s.fieldFound? (T k).1 (T k).2.1 (T k).2.2.1 = some x → s.fieldFound? ref (T k).2.1 (T k).2.2.1 = some x) (hfin : (T k).2.2.2 = false) {v : Value} (hdg : decode cc pc = .ok (.putfield index, 3)) (kk : vx_NoteN p l e R s m args below meth c H locs cells slots Q (F0 m pc ls rest)) : W p l e R s m args below meth c H locs cells slots Q (F0 m pc ls (v :: .null :: rest)) := by
  obtain ⟨hS, hfc, kC, hkC, -⟩ := hK.1 ci _ hc
  obtain ⟨cf, kf, fi, f, hi, -⟩ := hS k hk
  have hlay := hts _ (hin _ (u_in_lay hk))
  unfold u_lay at hlay
  rw [if_neg (by rw [hfin]; decide)] at hlay
  obtain ⟨c9, k9, cf9, kf9, fi9, f9, -, -, hi9, hst9, hnf9, -⟩ := Cond.lays_spec hlay
  cases hi.symm.trans hi9
  intro U hU X
  obtain ⟨vm', X1, st1⟩ := X.putfieldNull hexec hown hlink (hsame _ hi) hst9 hnf9 (g := F0 m pc ls (v :: .null :: rest)) rfl (v := v) (rest := rest) rfl (by rw [hb]; exact hdg)
  obtain ⟨t, st, q⟩ := kk (U.setVm vm') hU X1
  exact ⟨t, st1 t st, q⟩
theorem vx_putfNN {D cl tys} {own ref C host : String} {T : u_T} {N ci index : Nat} {Ts : List Cond} (hexec : p.tables.exec = Jvm.exec) (hb : c.code = cc) (hts : ∀ w ∈ Ts, w.before args s = true) (hin : ∀ w ∈ u_ws C T N, w ∈ Ts) (hown : s.vm.findClass own = some m.cls) (hK : va_K D cl tys s) (hc : cl[ci]? = some (C, T, N)) (k : Nat) (hk : k < N) (hlink : (Cond.fieldLinkNest own index ref (T k).2.1 (T k).2.2.1 host).before args s = true) (hsame : ∀ x, s.fieldFound? (T k).1 (T k).2.1 (T k).2.2.1 = some x → s.fieldFound? ref (T k).2.1 (T k).2.2.1 = some x) (hfin : (T k).2.2.2 = false) {v : Value} (hdg : decode cc pc = .ok (.putfield index, 3)) (kk : vx_NoteN p l e R s m args below meth c H locs cells slots Q (F0 m pc ls rest)) : W p l e R s m args below meth c H locs cells slots Q (F0 m pc ls (v :: .null :: rest)) := by
  obtain ⟨hS, hfc, kC, hkC, -⟩ := hK.1 ci _ hc
  obtain ⟨cf, kf, fi, f, hi, -⟩ := hS k hk
  have hlay := hts _ (hin _ (u_in_lay hk))
  unfold u_lay at hlay
  rw [if_neg (by rw [hfin]; decide)] at hlay
  obtain ⟨c9, k9, cf9, kf9, fi9, f9, -, -, hi9, hst9, hnf9, -⟩ := Cond.lays_spec hlay
  cases hi.symm.trans hi9
  intro U hU X
  obtain ⟨vm', X1, st1⟩ := X.putfieldNullNest hexec hown hlink (hsame _ hi) hst9 hnf9 (g := F0 m pc ls (v :: .null :: rest)) rfl (v := v) (rest := rest) rfl (by rw [hb]; exact hdg)
  obtain ⟨t, st, q⟩ := kk (U.setVm vm') hU X1
  exact ⟨t, st1 t st, q⟩
theorem vx_athrowN (hexec : p.tables.exec = Jvm.exec) (hb : c.code = cc) (hdg : decode cc pc = .ok (.athrow, 1)) (k : vx_NoteN p l e R s m args below meth c H locs cells slots Q (F0 m pc ls rest)) : W p l e R s m args below meth c H locs cells slots Q (F0 m pc ls (.null :: rest)) := by
  intro T hT X
  obtain ⟨t, st, q⟩ := k T hT X
  exact ⟨t, X.athrowNull hexec (g := F0 m pc ls (.null :: rest)) rfl (rest := rest) rfl (by rw [hb]; exact hdg) t st, q⟩
end VXM2
/-! ===== END ===== -/
end
section
def y_T_init : MethodName := ⟨"TwinRegister", "<init>", "()V"⟩
abbrev b_T_init : ByteArray := prog_1_method_1_code
def y_F_init : MethodName := ⟨"TwinRegister$Draft", "<init>", "()V"⟩
abbrev b_F_init : ByteArray := prog_3_method_1_code
def y_D_init : MethodName := ⟨"TwinRegister$Device", "<init>", "()V"⟩
abbrev b_D_init : ByteArray := prog_2_method_1_code
def y_G_init : MethodName := ⟨"TwinRegister$Group", "<init>", "()V"⟩
abbrev b_G_init : ByteArray := prog_4_method_1_code
def y_J_init : MethodName := ⟨"TwinRegister$Job", "<init>", "()V"⟩
abbrev b_J_init : ByteArray := prog_5_method_1_code
def y_T_wave : MethodName := ⟨"TwinRegister", "wave", "()I"⟩
abbrev b_T_wave : ByteArray := prog_1_method_12_code
def y_T_advance : MethodName := ⟨"TwinRegister", "advance", "(LTwinRegister$Job;)I"⟩
abbrev b_T_advance : ByteArray := prog_1_method_35_code
def y_T_judgeStarted : MethodName := ⟨"TwinRegister", "judgeStarted", "(LTwinRegister$Job;)V"⟩
abbrev b_T_judgeStarted : ByteArray := prog_1_method_36_code
def y_J_open : MethodName := ⟨"TwinRegister$Job", "open", "()I"⟩
abbrev b_J_open : ByteArray := prog_5_method_2_code
def y_I_bitCount : MethodName := ⟨"java/lang/Integer", "bitCount", "(I)I"⟩
abbrev b_I_bitCount : ByteArray := prog_12_method_49_code
def y_T_startMore : MethodName := ⟨"TwinRegister", "startMore", "(LTwinRegister$Job;)I"⟩
abbrev b_T_startMore : ByteArray := prog_1_method_37_code
def y_T_membersOf : MethodName := ⟨"TwinRegister", "membersOf", "(LTwinRegister$Group;)I"⟩
abbrev b_T_membersOf : ByteArray := prog_1_method_34_code
def y_G_admits : MethodName := ⟨"TwinRegister$Group", "admits", "(LTwinRegister$Device;)Z"⟩
abbrev b_G_admits : ByteArray := prog_4_method_2_code
def y_D_takeWish : MethodName := ⟨"TwinRegister$Device", "takeWish", "(II)V"⟩
abbrev b_D_takeWish : ByteArray := prog_2_method_2_code
def y_D_keepDifference : MethodName := ⟨"TwinRegister$Device", "keepDifference", "(I)V"⟩
abbrev b_D_keepDifference : ByteArray := prog_2_method_5_code
def y_D_comparesUnlike : MethodName := ⟨"TwinRegister$Device", "comparesUnlike", "(I)Z"⟩
abbrev b_D_comparesUnlike : ByteArray := prog_2_method_7_code
def y_T_jobs : MethodName := ⟨"TwinRegister", "jobs", "()I"⟩
abbrev b_T_jobs : ByteArray := prog_1_method_22_code
def y_L_put : MethodName := ⟨"TwinRegisterLaw", "put", "(LTwinRegister;II[J)I"⟩
abbrev b_L_put : ByteArray := method_3_code
def y_T_put : MethodName := ⟨"TwinRegister", "put", "(II)I"⟩
abbrev b_T_put : ByteArray := prog_1_method_2_code
def y_T_requireLeaf : MethodName := ⟨"TwinRegister", "requireLeaf", "(I)V"⟩
abbrev b_T_requireLeaf : ByteArray := prog_1_method_29_code
def y_T_requireInRange : MethodName := ⟨"TwinRegister", "requireInRange", "(III)V"⟩
abbrev b_T_requireInRange : ByteArray := prog_1_method_30_code
def y_F_assign : MethodName := ⟨"TwinRegister$Draft", "assign", "(II)V"⟩
abbrev b_F_assign : ByteArray := prog_3_method_2_code
def y_F_count : MethodName := ⟨"TwinRegister$Draft", "count", "()I"⟩
abbrev b_F_count : ByteArray := prog_3_method_4_code
def y_L_drop : MethodName := ⟨"TwinRegisterLaw", "drop", "(LTwinRegister;I[J)I"⟩
abbrev b_L_drop : ByteArray := method_4_code
def y_T_drop : MethodName := ⟨"TwinRegister", "drop", "(I)I"⟩
abbrev b_T_drop : ByteArray := prog_1_method_3_code
def y_L_wish : MethodName := ⟨"TwinRegisterLaw", "wish", "(LTwinRegister;II[J)I"⟩
abbrev b_L_wish : ByteArray := method_5_code
def y_T_wish : MethodName := ⟨"TwinRegister", "wish", "(II)I"⟩
abbrev b_T_wish : ByteArray := prog_1_method_4_code
def y_T_deviceAt : MethodName := ⟨"TwinRegister", "deviceAt", "(I)LTwinRegister$Device;"⟩
abbrev b_T_deviceAt : ByteArray := prog_1_method_25_code
def y_T_mergeWish : MethodName := ⟨"TwinRegister", "mergeWish", "(LTwinRegister$Device;)V"⟩
abbrev b_T_mergeWish : ByteArray := prog_1_method_32_code
def y_F_has : MethodName := ⟨"TwinRegister$Draft", "has", "(I)Z"⟩
abbrev b_F_has : ByteArray := prog_3_method_3_code
def y_F_empty : MethodName := ⟨"TwinRegister$Draft", "empty", "()V"⟩
abbrev b_F_empty : ByteArray := prog_3_method_5_code
def y_L_report : MethodName := ⟨"TwinRegisterLaw", "report", "(LTwinRegister;II[J)I"⟩
abbrev b_L_report : ByteArray := method_6_code
def y_T_report : MethodName := ⟨"TwinRegister", "report", "(II)I"⟩
abbrev b_T_report : ByteArray := prog_1_method_5_code
def y_T_requireAwake : MethodName := ⟨"TwinRegister", "requireAwake", "(LTwinRegister$Device;)V"⟩
abbrev b_T_requireAwake : ByteArray := prog_1_method_31_code
def y_T_mergeReport : MethodName := ⟨"TwinRegister", "mergeReport", "(LTwinRegister$Device;)V"⟩
abbrev b_T_mergeReport : ByteArray := prog_1_method_33_code
def y_D_takeReport : MethodName := ⟨"TwinRegister$Device", "takeReport", "(II)V"⟩
abbrev b_D_takeReport : ByteArray := prog_2_method_3_code
def y_L_obey : MethodName := ⟨"TwinRegisterLaw", "obey", "(LTwinRegister;I[J)I"⟩
abbrev b_L_obey : ByteArray := method_7_code
def y_T_obey : MethodName := ⟨"TwinRegister", "obey", "(I)I"⟩
abbrev b_T_obey : ByteArray := prog_1_method_6_code
def y_D_differsAt : MethodName := ⟨"TwinRegister$Device", "differsAt", "(I)Z"⟩
abbrev b_D_differsAt : ByteArray := prog_2_method_6_code
def y_L_refuse : MethodName := ⟨"TwinRegisterLaw", "refuse", "(LTwinRegister;III[J)I"⟩
abbrev b_L_refuse : ByteArray := method_8_code
def y_T_refuse : MethodName := ⟨"TwinRegister", "refuse", "(III)I"⟩
abbrev b_T_refuse : ByteArray := prog_1_method_7_code
def y_D_takeRefusal : MethodName := ⟨"TwinRegister$Device", "takeRefusal", "(II)V"⟩
abbrev b_D_takeRefusal : ByteArray := prog_2_method_4_code
def y_L_sleep : MethodName := ⟨"TwinRegisterLaw", "sleep", "(LTwinRegister;I[J)I"⟩
abbrev b_L_sleep : ByteArray := method_9_code
def y_T_sleep : MethodName := ⟨"TwinRegister", "sleep", "(I)Z"⟩
abbrev b_T_sleep : ByteArray := prog_1_method_8_code
def y_L_wake : MethodName := ⟨"TwinRegisterLaw", "wake", "(LTwinRegister;I[J)I"⟩
abbrev b_L_wake : ByteArray := method_10_code
def y_T_wake : MethodName := ⟨"TwinRegister", "wake", "(I)I"⟩
abbrev b_T_wake : ByteArray := prog_1_method_9_code
def y_D_heardVersion : MethodName := ⟨"TwinRegister$Device", "heardVersion", "()I"⟩
abbrev b_D_heardVersion : ByteArray := prog_2_method_8_code
def y_L_setGroup : MethodName := ⟨"TwinRegisterLaw", "setGroup", "(LTwinRegister;IIII[J)I"⟩
abbrev b_L_setGroup : ByteArray := method_11_code
def y_T_setGroup : MethodName := ⟨"TwinRegister", "setGroup", "(IIII)I"⟩
abbrev b_T_setGroup : ByteArray := prog_1_method_10_code
def y_T_groupAt : MethodName := ⟨"TwinRegister", "groupAt", "(I)LTwinRegister$Group;"⟩
abbrev b_T_groupAt : ByteArray := prog_1_method_26_code
def y_T_requireGroup : MethodName := ⟨"TwinRegister", "requireGroup", "(I)V"⟩
abbrev b_T_requireGroup : ByteArray := prog_1_method_27_code
def y_L_addJob : MethodName := ⟨"TwinRegisterLaw", "addJob", "(LTwinRegister;IIIII[J)I"⟩
abbrev b_L_addJob : ByteArray := method_12_code
def y_T_addJob : MethodName := ⟨"TwinRegister", "addJob", "(IIIII)I"⟩
abbrev b_T_addJob : ByteArray := prog_1_method_11_code
def y_L_cancel : MethodName := ⟨"TwinRegisterLaw", "cancel", "(LTwinRegister;I[J)I"⟩
abbrev b_L_cancel : ByteArray := method_13_code
def y_T_cancel : MethodName := ⟨"TwinRegister", "cancel", "(I)I"⟩
abbrev b_T_cancel : ByteArray := prog_1_method_13_code
def y_T_jobAt : MethodName := ⟨"TwinRegister", "jobAt", "(I)LTwinRegister$Job;"⟩
abbrev b_T_jobAt : ByteArray := prog_1_method_28_code
def y_L_version : MethodName := ⟨"TwinRegisterLaw", "version", "(LTwinRegister;I[J)I"⟩
abbrev b_L_version : ByteArray := method_14_code
def y_T_version : MethodName := ⟨"TwinRegister", "version", "(I)I"⟩
abbrev b_T_version : ByteArray := prog_1_method_14_code
def y_L_heard : MethodName := ⟨"TwinRegisterLaw", "heard", "(LTwinRegister;I[J)I"⟩
abbrev b_L_heard : ByteArray := method_15_code
def y_T_heard : MethodName := ⟨"TwinRegister", "heard", "(I)I"⟩
abbrev b_T_heard : ByteArray := prog_1_method_15_code
def y_L_wished : MethodName := ⟨"TwinRegisterLaw", "wished", "(LTwinRegister;II[J)I"⟩
abbrev b_L_wished : ByteArray := method_16_code
def y_T_wished : MethodName := ⟨"TwinRegister", "wished", "(II)I"⟩
abbrev b_T_wished : ByteArray := prog_1_method_16_code
def y_L_reported : MethodName := ⟨"TwinRegisterLaw", "reported", "(LTwinRegister;II[J)I"⟩
abbrev b_L_reported : ByteArray := method_17_code
def y_T_reported : MethodName := ⟨"TwinRegister", "reported", "(II)I"⟩
abbrev b_T_reported : ByteArray := prog_1_method_17_code
def y_L_why : MethodName := ⟨"TwinRegisterLaw", "why", "(LTwinRegister;II[J)I"⟩
abbrev b_L_why : ByteArray := method_18_code
def y_T_why : MethodName := ⟨"TwinRegister", "why", "(II)I"⟩
abbrev b_T_why : ByteArray := prog_1_method_18_code
def y_L_differences : MethodName := ⟨"TwinRegisterLaw", "differences", "(LTwinRegister;I[J)I"⟩
abbrev b_L_differences : ByteArray := method_19_code
def y_T_differences : MethodName := ⟨"TwinRegister", "differences", "(I)I"⟩
abbrev b_T_differences : ByteArray := prog_1_method_19_code
def y_L_differencesAnew : MethodName := ⟨"TwinRegisterLaw", "differencesAnew", "(LTwinRegister;I[J)I"⟩
abbrev b_L_differencesAnew : ByteArray := method_20_code
def y_T_differencesAnew : MethodName := ⟨"TwinRegister", "differencesAnew", "(I)I"⟩
abbrev b_T_differencesAnew : ByteArray := prog_1_method_20_code
def y_L_members : MethodName := ⟨"TwinRegisterLaw", "members", "(LTwinRegister;I[J)I"⟩
abbrev b_L_members : ByteArray := method_21_code
def y_T_members : MethodName := ⟨"TwinRegister", "members", "(I)I"⟩
abbrev b_T_members : ByteArray := prog_1_method_21_code
def y_L_state : MethodName := ⟨"TwinRegisterLaw", "state", "(LTwinRegister;I[J)I"⟩
abbrev b_L_state : ByteArray := method_22_code
def y_T_state : MethodName := ⟨"TwinRegister", "state", "(I)I"⟩
abbrev b_T_state : ByteArray := prog_1_method_23_code
def y_L_devices : MethodName := ⟨"TwinRegisterLaw", "devices", "(LTwinRegister;II[J)I"⟩
abbrev b_L_devices : ByteArray := method_23_code
def y_T_devices : MethodName := ⟨"TwinRegister", "devices", "(II)I"⟩
abbrev b_T_devices : ByteArray := prog_1_method_24_code
def y_M_init : MethodName := ⟨"TwinRegisterModel", "<init>", "()V"⟩
abbrev b_M_init : ByteArray := prog_7_method_1_code
def y_M_thrown : MethodName := ⟨"TwinRegisterModel", "thrown", "()I"⟩
abbrev b_M_thrown : ByteArray := prog_7_method_2_code
def y_M_put : MethodName := ⟨"TwinRegisterModel", "put", "(II)I"⟩
abbrev b_M_put : ByteArray := prog_7_method_9_code
def y_M_isLeaf : MethodName := ⟨"TwinRegisterModel", "isLeaf", "(I)Z"⟩
abbrev b_M_isLeaf : ByteArray := prog_7_method_5_code
def y_M_in : MethodName := ⟨"TwinRegisterModel", "in", "(III)Z"⟩
abbrev b_M_in : ByteArray := prog_7_method_3_code
def y_M_drafted : MethodName := ⟨"TwinRegisterModel", "drafted", "()I"⟩
abbrev b_M_drafted : ByteArray := prog_7_method_8_code
def y_M_drop : MethodName := ⟨"TwinRegisterModel", "drop", "(I)I"⟩
abbrev b_M_drop : ByteArray := prog_7_method_10_code
def y_M_wish : MethodName := ⟨"TwinRegisterModel", "wish", "(II)I"⟩
abbrev b_M_wish : ByteArray := prog_7_method_15_code
def y_M_isDevice : MethodName := ⟨"TwinRegisterModel", "isDevice", "(I)Z"⟩
abbrev b_M_isDevice : ByteArray := prog_7_method_4_code
def y_M_wishes : MethodName := ⟨"TwinRegisterModel", "wishes", "(III)V"⟩
abbrev b_M_wishes : ByteArray := prog_7_method_14_code
def y_M_empties : MethodName := ⟨"TwinRegisterModel", "empties", "()V"⟩
abbrev b_M_empties : ByteArray := prog_7_method_11_code
def y_M_report : MethodName := ⟨"TwinRegisterModel", "report", "(II)I"⟩
abbrev b_M_report : ByteArray := prog_7_method_16_code
def y_M_differing : MethodName := ⟨"TwinRegisterModel", "differing", "(I)I"⟩
abbrev b_M_differing : ByteArray := prog_7_method_13_code
def y_M_differs : MethodName := ⟨"TwinRegisterModel", "differs", "(II)Z"⟩
abbrev b_M_differs : ByteArray := prog_7_method_12_code
def y_M_manyOf : MethodName := ⟨"TwinRegisterModel", "manyOf", "(I)I"⟩
abbrev b_M_manyOf : ByteArray := prog_7_method_7_code
def y_M_obey : MethodName := ⟨"TwinRegisterModel", "obey", "(I)I"⟩
abbrev b_M_obey : ByteArray := prog_7_method_17_code
def y_M_refuse : MethodName := ⟨"TwinRegisterModel", "refuse", "(III)I"⟩
abbrev b_M_refuse : ByteArray := prog_7_method_18_code
def y_M_sleep : MethodName := ⟨"TwinRegisterModel", "sleep", "(I)Z"⟩
abbrev b_M_sleep : ByteArray := prog_7_method_19_code
def y_M_wake : MethodName := ⟨"TwinRegisterModel", "wake", "(I)I"⟩
abbrev b_M_wake : ByteArray := prog_7_method_21_code
def y_M_heardOf : MethodName := ⟨"TwinRegisterModel", "heardOf", "(I)I"⟩
abbrev b_M_heardOf : ByteArray := prog_7_method_20_code
def y_M_setGroup : MethodName := ⟨"TwinRegisterModel", "setGroup", "(IIII)I"⟩
abbrev b_M_setGroup : ByteArray := prog_7_method_23_code
def y_M_isGroup : MethodName := ⟨"TwinRegisterModel", "isGroup", "(I)Z"⟩
abbrev b_M_isGroup : ByteArray := prog_7_method_6_code
def y_M_membersOf : MethodName := ⟨"TwinRegisterModel", "membersOf", "(I)I"⟩
abbrev b_M_membersOf : ByteArray := prog_7_method_22_code
def y_M_addJob : MethodName := ⟨"TwinRegisterModel", "addJob", "(IIIII)I"⟩
abbrev b_M_addJob : ByteArray := prog_7_method_24_code
def y_M_wave : MethodName := ⟨"TwinRegisterModel", "wave", "()I"⟩
abbrev b_M_wave : ByteArray := prog_7_method_27_code
def y_M_looks : MethodName := ⟨"TwinRegisterModel", "looks", "(I)V"⟩
abbrev b_M_looks : ByteArray := prog_7_method_25_code
def y_M_starts : MethodName := ⟨"TwinRegisterModel", "starts", "(I)I"⟩
abbrev b_M_starts : ByteArray := prog_7_method_26_code
def y_M_cancel : MethodName := ⟨"TwinRegisterModel", "cancel", "(I)I"⟩
abbrev b_M_cancel : ByteArray := prog_7_method_29_code
def y_M_isJob : MethodName := ⟨"TwinRegisterModel", "isJob", "(I)Z"⟩
abbrev b_M_isJob : ByteArray := prog_7_method_28_code
def y_M_version : MethodName := ⟨"TwinRegisterModel", "version", "(I)I"⟩
abbrev b_M_version : ByteArray := prog_7_method_31_code
def y_M_asks : MethodName := ⟨"TwinRegisterModel", "asks", "(I)Z"⟩
abbrev b_M_asks : ByteArray := prog_7_method_30_code
def y_M_heard : MethodName := ⟨"TwinRegisterModel", "heard", "(I)I"⟩
abbrev b_M_heard : ByteArray := prog_7_method_32_code
def y_M_wished : MethodName := ⟨"TwinRegisterModel", "wished", "(II)I"⟩
abbrev b_M_wished : ByteArray := prog_7_method_34_code
def y_M_asksLeaf : MethodName := ⟨"TwinRegisterModel", "asksLeaf", "(II)Z"⟩
abbrev b_M_asksLeaf : ByteArray := prog_7_method_33_code
def y_M_reported : MethodName := ⟨"TwinRegisterModel", "reported", "(II)I"⟩
abbrev b_M_reported : ByteArray := prog_7_method_35_code
def y_M_why : MethodName := ⟨"TwinRegisterModel", "why", "(II)I"⟩
abbrev b_M_why : ByteArray := prog_7_method_36_code
def y_M_differences : MethodName := ⟨"TwinRegisterModel", "differences", "(I)I"⟩
abbrev b_M_differences : ByteArray := prog_7_method_37_code
def y_M_differencesAnew : MethodName := ⟨"TwinRegisterModel", "differencesAnew", "(I)I"⟩
abbrev b_M_differencesAnew : ByteArray := prog_7_method_38_code
def y_M_members : MethodName := ⟨"TwinRegisterModel", "members", "(I)I"⟩
abbrev b_M_members : ByteArray := prog_7_method_39_code
def y_M_jobs : MethodName := ⟨"TwinRegisterModel", "jobs", "()I"⟩
abbrev b_M_jobs : ByteArray := prog_7_method_40_code
def y_M_state : MethodName := ⟨"TwinRegisterModel", "state", "(I)I"⟩
abbrev b_M_state : ByteArray := prog_7_method_41_code
def y_M_devices : MethodName := ⟨"TwinRegisterModel", "devices", "(II)I"⟩
abbrev b_M_devices : ByteArray := prog_7_method_42_code
theorem m_0 : Cond.selects "TwinRegister" ⟨"TwinRegister", "advance", "(LTwinRegister$Job;)I"⟩ ⟨"TwinRegister", "advance", "(LTwinRegister$Job;)I"⟩ ∈ ag_all := ag_in 0 (by decide +kernel) (by decide +kernel)
theorem m_1 : Cond.selects "TwinRegister" ⟨"TwinRegister", "judgeStarted", "(LTwinRegister$Job;)V"⟩ ⟨"TwinRegister", "judgeStarted", "(LTwinRegister$Job;)V"⟩ ∈ ag_all := ag_in 1 (by decide +kernel) (by decide +kernel)
theorem m_2 : Cond.selects "TwinRegister$Job" ⟨"TwinRegister$Job", "open", "()I"⟩ ⟨"TwinRegister$Job", "open", "()I"⟩ ∈ ag_all := ag_in 2 (by decide +kernel) (by decide +kernel)
theorem m_3 : Cond.selects "TwinRegister" ⟨"TwinRegister", "startMore", "(LTwinRegister$Job;)I"⟩ ⟨"TwinRegister", "startMore", "(LTwinRegister$Job;)I"⟩ ∈ ag_all := ag_in 3 (by decide +kernel) (by decide +kernel)
theorem m_4 : Cond.selects "TwinRegister" ⟨"TwinRegister", "membersOf", "(LTwinRegister$Group;)I"⟩ ⟨"TwinRegister", "membersOf", "(LTwinRegister$Group;)I"⟩ ∈ ag_all := ag_in 4 (by decide +kernel) (by decide +kernel)
theorem m_5 : Cond.selects "TwinRegister$Group" ⟨"TwinRegister$Group", "admits", "(LTwinRegister$Device;)Z"⟩ ⟨"TwinRegister$Group", "admits", "(LTwinRegister$Device;)Z"⟩ ∈ ag_all := ag_in 5 (by decide +kernel) (by decide +kernel)
theorem m_6 : Cond.selects "TwinRegister$Device" ⟨"TwinRegister$Device", "takeWish", "(II)V"⟩ ⟨"TwinRegister$Device", "takeWish", "(II)V"⟩ ∈ ag_all := ag_in 6 (by decide +kernel) (by decide +kernel)
theorem m_7 : Cond.selects "TwinRegister$Device" ⟨"TwinRegister$Device", "keepDifference", "(I)V"⟩ ⟨"TwinRegister$Device", "keepDifference", "(I)V"⟩ ∈ ag_all := ag_in 7 (by decide +kernel) (by decide +kernel)
theorem m_8 : Cond.selects "TwinRegister$Device" ⟨"TwinRegister$Device", "comparesUnlike", "(I)Z"⟩ ⟨"TwinRegister$Device", "comparesUnlike", "(I)Z"⟩ ∈ ag_all := ag_in 8 (by decide +kernel) (by decide +kernel)
theorem m_9 : Cond.selects "java/lang/Throwable" ⟨"java/lang/Throwable", "fillInStackTrace", "(I)Ljava/lang/Throwable;"⟩ ⟨"java/lang/Throwable", "fillInStackTrace", "(I)Ljava/lang/Throwable;"⟩ ∈ ag_all := ag_in 9 (by decide +kernel) (by decide +kernel)
theorem m_10 : Cond.selects "TwinRegister$Draft" ⟨"TwinRegister$Draft", "assign", "(II)V"⟩ ⟨"TwinRegister$Draft", "assign", "(II)V"⟩ ∈ ag_all := ag_in 10 (by decide +kernel) (by decide +kernel)
theorem m_11 : Cond.selects "TwinRegister$Draft" ⟨"TwinRegister$Draft", "count", "()I"⟩ ⟨"TwinRegister$Draft", "count", "()I"⟩ ∈ ag_all := ag_in 11 (by decide +kernel) (by decide +kernel)
theorem m_12 : Cond.selects "TwinRegister" ⟨"TwinRegister", "deviceAt", "(I)LTwinRegister$Device;"⟩ ⟨"TwinRegister", "deviceAt", "(I)LTwinRegister$Device;"⟩ ∈ ag_all := ag_in 12 (by decide +kernel) (by decide +kernel)
theorem m_13 : Cond.selects "TwinRegister" ⟨"TwinRegister", "mergeWish", "(LTwinRegister$Device;)V"⟩ ⟨"TwinRegister", "mergeWish", "(LTwinRegister$Device;)V"⟩ ∈ ag_all := ag_in 13 (by decide +kernel) (by decide +kernel)
theorem m_14 : Cond.selects "TwinRegister$Draft" ⟨"TwinRegister$Draft", "has", "(I)Z"⟩ ⟨"TwinRegister$Draft", "has", "(I)Z"⟩ ∈ ag_all := ag_in 14 (by decide +kernel) (by decide +kernel)
theorem m_15 : Cond.selects "TwinRegister$Draft" ⟨"TwinRegister$Draft", "empty", "()V"⟩ ⟨"TwinRegister$Draft", "empty", "()V"⟩ ∈ ag_all := ag_in 15 (by decide +kernel) (by decide +kernel)
theorem m_16 : Cond.selects "TwinRegister" ⟨"TwinRegister", "mergeReport", "(LTwinRegister$Device;)V"⟩ ⟨"TwinRegister", "mergeReport", "(LTwinRegister$Device;)V"⟩ ∈ ag_all := ag_in 16 (by decide +kernel) (by decide +kernel)
theorem m_17 : Cond.selects "TwinRegister$Device" ⟨"TwinRegister$Device", "takeReport", "(II)V"⟩ ⟨"TwinRegister$Device", "takeReport", "(II)V"⟩ ∈ ag_all := ag_in 17 (by decide +kernel) (by decide +kernel)
theorem m_18 : Cond.selects "TwinRegister$Device" ⟨"TwinRegister$Device", "differsAt", "(I)Z"⟩ ⟨"TwinRegister$Device", "differsAt", "(I)Z"⟩ ∈ ag_all := ag_in 18 (by decide +kernel) (by decide +kernel)
theorem m_19 : Cond.selects "TwinRegister$Device" ⟨"TwinRegister$Device", "takeRefusal", "(II)V"⟩ ⟨"TwinRegister$Device", "takeRefusal", "(II)V"⟩ ∈ ag_all := ag_in 19 (by decide +kernel) (by decide +kernel)
theorem m_20 : Cond.selects "TwinRegister$Device" ⟨"TwinRegister$Device", "heardVersion", "()I"⟩ ⟨"TwinRegister$Device", "heardVersion", "()I"⟩ ∈ ag_all := ag_in 20 (by decide +kernel) (by decide +kernel)
theorem m_21 : Cond.selects "TwinRegister" ⟨"TwinRegister", "groupAt", "(I)LTwinRegister$Group;"⟩ ⟨"TwinRegister", "groupAt", "(I)LTwinRegister$Group;"⟩ ∈ ag_all := ag_in 21 (by decide +kernel) (by decide +kernel)
theorem m_22 : Cond.selects "TwinRegister" ⟨"TwinRegister", "jobAt", "(I)LTwinRegister$Job;"⟩ ⟨"TwinRegister", "jobAt", "(I)LTwinRegister$Job;"⟩ ∈ ag_all := ag_in 22 (by decide +kernel) (by decide +kernel)
theorem m_23 : Cond.selects "TwinRegisterModel" ⟨"TwinRegisterModel", "drafted", "()I"⟩ ⟨"TwinRegisterModel", "drafted", "()I"⟩ ∈ ag_all := ag_in 23 (by decide +kernel) (by decide +kernel)
theorem m_24 : Cond.selects "TwinRegisterModel" ⟨"TwinRegisterModel", "wishes", "(III)V"⟩ ⟨"TwinRegisterModel", "wishes", "(III)V"⟩ ∈ ag_all := ag_in 24 (by decide +kernel) (by decide +kernel)
theorem m_25 : Cond.selects "TwinRegisterModel" ⟨"TwinRegisterModel", "empties", "()V"⟩ ⟨"TwinRegisterModel", "empties", "()V"⟩ ∈ ag_all := ag_in 25 (by decide +kernel) (by decide +kernel)
theorem m_26 : Cond.selects "TwinRegisterModel" ⟨"TwinRegisterModel", "differing", "(I)I"⟩ ⟨"TwinRegisterModel", "differing", "(I)I"⟩ ∈ ag_all := ag_in 26 (by decide +kernel) (by decide +kernel)
theorem m_27 : Cond.selects "TwinRegisterModel" ⟨"TwinRegisterModel", "differs", "(II)Z"⟩ ⟨"TwinRegisterModel", "differs", "(II)Z"⟩ ∈ ag_all := ag_in 27 (by decide +kernel) (by decide +kernel)
theorem m_28 : Cond.selects "TwinRegisterModel" ⟨"TwinRegisterModel", "heardOf", "(I)I"⟩ ⟨"TwinRegisterModel", "heardOf", "(I)I"⟩ ∈ ag_all := ag_in 28 (by decide +kernel) (by decide +kernel)
theorem m_29 : Cond.selects "TwinRegisterModel" ⟨"TwinRegisterModel", "membersOf", "(I)I"⟩ ⟨"TwinRegisterModel", "membersOf", "(I)I"⟩ ∈ ag_all := ag_in 29 (by decide +kernel) (by decide +kernel)
theorem m_30 : Cond.selects "TwinRegisterModel" ⟨"TwinRegisterModel", "looks", "(I)V"⟩ ⟨"TwinRegisterModel", "looks", "(I)V"⟩ ∈ ag_all := ag_in 30 (by decide +kernel) (by decide +kernel)
theorem m_31 : Cond.selects "TwinRegisterModel" ⟨"TwinRegisterModel", "starts", "(I)I"⟩ ⟨"TwinRegisterModel", "starts", "(I)I"⟩ ∈ ag_all := ag_in 31 (by decide +kernel) (by decide +kernel)
theorem m_32 : Cond.selects "TwinRegisterModel" ⟨"TwinRegisterModel", "isJob", "(I)Z"⟩ ⟨"TwinRegisterModel", "isJob", "(I)Z"⟩ ∈ ag_all := ag_in 32 (by decide +kernel) (by decide +kernel)
theorem m_33 : Cond.selects "TwinRegisterModel" ⟨"TwinRegisterModel", "asks", "(I)Z"⟩ ⟨"TwinRegisterModel", "asks", "(I)Z"⟩ ∈ ag_all := ag_in 33 (by decide +kernel) (by decide +kernel)
theorem m_34 : Cond.selects "TwinRegisterModel" ⟨"TwinRegisterModel", "asksLeaf", "(II)Z"⟩ ⟨"TwinRegisterModel", "asksLeaf", "(II)Z"⟩ ∈ ag_all := ag_in 34 (by decide +kernel) (by decide +kernel)
theorem m_35 : (Jvm.Cond.initialized "TwinRegisterLaw") ∈ ag_all := ag_in 35 (by decide +kernel) (by decide +kernel)
theorem m_36 : (Jvm.Cond.initialized "TwinRegister") ∈ ag_all := ag_in 36 (by decide +kernel) (by decide +kernel)
theorem m_37 : (Jvm.Cond.initialized "TwinRegister$Draft") ∈ ag_all := ag_in 37 (by decide +kernel) (by decide +kernel)
theorem m_38 : (Jvm.Cond.initialized "TwinRegister$Device") ∈ ag_all := ag_in 38 (by decide +kernel) (by decide +kernel)
theorem m_39 : (Jvm.Cond.initialized "TwinRegister$Group") ∈ ag_all := ag_in 39 (by decide +kernel) (by decide +kernel)
theorem m_40 : (Jvm.Cond.initialized "TwinRegister$Job") ∈ ag_all := ag_in 40 (by decide +kernel) (by decide +kernel)
theorem m_41 : (Jvm.Cond.initialized "TwinRegisterModel") ∈ ag_all := ag_in 41 (by decide +kernel) (by decide +kernel)
theorem m_42 : (Jvm.Cond.initialized "java/lang/Throwable") ∈ ag_all := ag_in 42 (by decide +kernel) (by decide +kernel)
theorem m_43 : (Jvm.Cond.initialized "java/lang/Exception") ∈ ag_all := ag_in 43 (by decide +kernel) (by decide +kernel)
theorem m_44 : (Jvm.Cond.initialized "java/lang/RuntimeException") ∈ ag_all := ag_in 44 (by decide +kernel) (by decide +kernel)
theorem m_45 : (Jvm.Cond.initialized "java/lang/IndexOutOfBoundsException") ∈ ag_all := ag_in 45 (by decide +kernel) (by decide +kernel)
theorem m_46 : (Jvm.Cond.initialized "java/lang/IllegalArgumentException") ∈ ag_all := ag_in 46 (by decide +kernel) (by decide +kernel)
theorem m_47 : (Jvm.Cond.initialized "java/lang/Integer") ∈ ag_all := ag_in 47 (by decide +kernel) (by decide +kernel)
theorem m_48 : (Jvm.Cond.initialized "java/lang/IllegalStateException") ∈ ag_all := ag_in 48 (by decide +kernel) (by decide +kernel)
theorem m_49 : (Jvm.Cond.classLink "TwinRegisterLaw" (8 : Nat) "TwinRegister") ∈ ag_all := ag_in 49 (by decide +kernel) (by decide +kernel)
theorem m_50 : (Jvm.Cond.instantiable "TwinRegister" (5 : Nat)) ∈ ag_all := ag_in 50 (by decide +kernel) (by decide +kernel)
theorem m_51 : (Jvm.Cond.methodLink "TwinRegisterLaw" (84 : Nat) ({ cls := "TwinRegister", name := "<init>", desc := "()V" } : Jvm.MethodName)) ∈ ag_all := ag_in 51 (by decide +kernel) (by decide +kernel)
theorem m_52 : (Jvm.Cond.instanceMethod ({ cls := "TwinRegister", name := "<init>", desc := "()V" } : Jvm.MethodName)) ∈ ag_all := ag_in 52 (by decide +kernel) (by decide +kernel)
theorem m_53 : (Jvm.Cond.code ({ cls := "TwinRegister", name := "<init>", desc := "()V" } : Jvm.MethodName) prog_1_method_1_code (2 : Nat) (Option.none : Option Jvm.ClassFile.FieldType)) ∈ ag_all := ag_in 53 (by decide +kernel) (by decide +kernel)
theorem m_54 : (Jvm.Cond.methodLink "TwinRegister" (1 : Nat) ({ cls := "java/lang/Object", name := "<init>", desc := "()V" } : Jvm.MethodName)) ∈ ag_all := ag_in 54 (by decide +kernel) (by decide +kernel)
theorem m_55 : (Jvm.Cond.instanceMethod ({ cls := "java/lang/Object", name := "<init>", desc := "()V" } : Jvm.MethodName)) ∈ ag_all := ag_in 55 (by decide +kernel) (by decide +kernel)
theorem m_56 : (Jvm.Cond.code ({ cls := "java/lang/Object", name := "<init>", desc := "()V" } : Jvm.MethodName) object_method_1_code (1 : Nat) (Option.none : Option Jvm.ClassFile.FieldType)) ∈ ag_all := ag_in 56 (by decide +kernel) (by decide +kernel)
theorem m_57 : (Jvm.Cond.classLink "TwinRegister" (7 : Nat) "TwinRegister$Draft") ∈ ag_all := ag_in 57 (by decide +kernel) (by decide +kernel)
theorem m_58 : (Jvm.Cond.instantiable "TwinRegister$Draft" (2 : Nat)) ∈ ag_all := ag_in 58 (by decide +kernel) (by decide +kernel)
theorem m_59 : (Jvm.Cond.methodLinkNest "TwinRegister" (9 : Nat) ({ cls := "TwinRegister$Draft", name := "<init>", desc := "()V" } : Jvm.MethodName) "TwinRegister") ∈ ax_all := ax_in 59 (by decide +kernel) (by decide +kernel)
theorem m_60 : (Jvm.Cond.instanceMethod ({ cls := "TwinRegister$Draft", name := "<init>", desc := "()V" } : Jvm.MethodName)) ∈ ag_all := ag_in 60 (by decide +kernel) (by decide +kernel)
theorem m_61 : (Jvm.Cond.code ({ cls := "TwinRegister$Draft", name := "<init>", desc := "()V" } : Jvm.MethodName) prog_3_method_1_code (1 : Nat) (Option.none : Option Jvm.ClassFile.FieldType)) ∈ ag_all := ag_in 61 (by decide +kernel) (by decide +kernel)
theorem m_62 : (Jvm.Cond.methodLink "TwinRegister$Draft" (3 : Nat) ({ cls := "java/lang/Object", name := "<init>", desc := "()V" } : Jvm.MethodName)) ∈ ag_all := ag_in 62 (by decide +kernel) (by decide +kernel)
theorem m_63 : (Jvm.Cond.fieldLink "TwinRegister$Draft" (9 : Nat) "TwinRegister$Draft" "values" "[I") ∈ ag_all := ag_in 63 (by decide +kernel) (by decide +kernel)
theorem m_64 : (Jvm.Cond.fieldLinkNest "TwinRegister" (216 : Nat) "TwinRegister$Draft" "values" "[I" "TwinRegister") ∈ ax_all := ax_in 64 (by decide +kernel) (by decide +kernel)
theorem m_65 : (Jvm.Cond.fieldLink "TwinRegister$Draft" (15 : Nat) "TwinRegister$Draft" "leaves" "I") ∈ ag_all := ag_in 65 (by decide +kernel) (by decide +kernel)
theorem m_66 : (Jvm.Cond.laysFinal "TwinRegister$Draft" "TwinRegister$Draft" "values" "[I") ∈ ag_all := ag_in 66 (by decide +kernel) (by decide +kernel)
theorem m_67 : (Jvm.Cond.soleField "TwinRegister$Draft" "values") ∈ ag_all := ag_in 67 (by decide +kernel) (by decide +kernel)
theorem m_68 : (Jvm.Cond.lays "TwinRegister$Draft" "TwinRegister$Draft" "leaves" "I") ∈ ag_all := ag_in 68 (by decide +kernel) (by decide +kernel)
theorem m_69 : (Jvm.Cond.soleField "TwinRegister$Draft" "leaves") ∈ ag_all := ag_in 69 (by decide +kernel) (by decide +kernel)
theorem m_70 : (Jvm.Cond.superclass "TwinRegister$Draft" "java/lang/Object") ∈ ag_all := ag_in 70 (by decide +kernel) (by decide +kernel)
theorem m_71 : (Jvm.Cond.arrayClass Jvm.ClassFile.FieldType.int) ∈ ag_all := ag_in 71 (by decide +kernel) (by decide +kernel)
theorem m_72 : (Jvm.Cond.classLink "TwinRegister" (16 : Nat) "TwinRegister$Device") ∈ ag_all := ag_in 72 (by decide +kernel) (by decide +kernel)
theorem m_74 : (Jvm.Cond.instantiable "TwinRegister$Device" (8 : Nat)) ∈ ag_all := ag_in 74 (by decide +kernel) (by decide +kernel)
theorem m_75 : (Jvm.Cond.methodLinkNest "TwinRegister" (22 : Nat) ({ cls := "TwinRegister$Device", name := "<init>", desc := "()V" } : Jvm.MethodName) "TwinRegister") ∈ ax_all := ax_in 75 (by decide +kernel) (by decide +kernel)
theorem m_76 : (Jvm.Cond.instanceMethod ({ cls := "TwinRegister$Device", name := "<init>", desc := "()V" } : Jvm.MethodName)) ∈ ag_all := ag_in 76 (by decide +kernel) (by decide +kernel)
theorem m_77 : (Jvm.Cond.code ({ cls := "TwinRegister$Device", name := "<init>", desc := "()V" } : Jvm.MethodName) prog_2_method_1_code (2 : Nat) (Option.none : Option Jvm.ClassFile.FieldType)) ∈ ag_all := ag_in 77 (by decide +kernel) (by decide +kernel)
theorem m_78 : (Jvm.Cond.methodLink "TwinRegister$Device" (3 : Nat) ({ cls := "java/lang/Object", name := "<init>", desc := "()V" } : Jvm.MethodName)) ∈ ag_all := ag_in 78 (by decide +kernel) (by decide +kernel)
theorem m_79 : (Jvm.Cond.fieldLink "TwinRegister$Device" (9 : Nat) "TwinRegister$Device" "wishedValues" "[I") ∈ ag_all := ag_in 79 (by decide +kernel) (by decide +kernel)
theorem m_80 : (Jvm.Cond.fieldLinkNest "TwinRegister" (107 : Nat) "TwinRegister$Device" "wishedValues" "[I" "TwinRegister") ∈ ax_all := ax_in 80 (by decide +kernel) (by decide +kernel)
theorem m_81 : (Jvm.Cond.fieldLink "TwinRegister$Device" (15 : Nat) "TwinRegister$Device" "reportedValues" "[I") ∈ ag_all := ag_in 81 (by decide +kernel) (by decide +kernel)
theorem m_82 : (Jvm.Cond.fieldLinkNest "TwinRegister$Group" (21 : Nat) "TwinRegister$Device" "reportedValues" "[I" "TwinRegister") ∈ ax_all := ax_in 82 (by decide +kernel) (by decide +kernel)
theorem m_83 : (Jvm.Cond.fieldLinkNest "TwinRegister" (180 : Nat) "TwinRegister$Device" "reportedValues" "[I" "TwinRegister") ∈ ax_all := ax_in 83 (by decide +kernel) (by decide +kernel)
theorem m_84 : (Jvm.Cond.fieldLink "TwinRegister$Device" (18 : Nat) "TwinRegister$Device" "reasons" "[I") ∈ ag_all := ag_in 84 (by decide +kernel) (by decide +kernel)
theorem m_85 : (Jvm.Cond.fieldLinkNest "TwinRegister" (183 : Nat) "TwinRegister$Device" "reasons" "[I" "TwinRegister") ∈ ax_all := ax_in 85 (by decide +kernel) (by decide +kernel)
theorem m_86 : (Jvm.Cond.fieldLink "TwinRegister$Device" (29 : Nat) "TwinRegister$Device" "differing" "I") ∈ ag_all := ag_in 86 (by decide +kernel) (by decide +kernel)
theorem m_87 : (Jvm.Cond.fieldLinkNest "TwinRegister" (94 : Nat) "TwinRegister$Device" "differing" "I" "TwinRegister") ∈ ax_all := ax_in 87 (by decide +kernel) (by decide +kernel)
theorem m_88 : (Jvm.Cond.fieldLinkNest "TwinRegister" (73 : Nat) "TwinRegister$Device" "latestVersion" "I" "TwinRegister") ∈ ax_all := ax_in 88 (by decide +kernel) (by decide +kernel)
theorem m_89 : (Jvm.Cond.fieldLink "TwinRegister$Device" (40 : Nat) "TwinRegister$Device" "latestVersion" "I") ∈ ag_all := ag_in 89 (by decide +kernel) (by decide +kernel)
theorem m_90 : (Jvm.Cond.fieldLink "TwinRegister$Device" (37 : Nat) "TwinRegister$Device" "versionBeforeSleep" "I") ∈ ag_all := ag_in 90 (by decide +kernel) (by decide +kernel)
theorem m_91 : (Jvm.Cond.fieldLinkNest "TwinRegister" (123 : Nat) "TwinRegister$Device" "versionBeforeSleep" "I" "TwinRegister") ∈ ax_all := ax_in 91 (by decide +kernel) (by decide +kernel)
theorem m_92 : (Jvm.Cond.fieldLinkNest "TwinRegister" (85 : Nat) "TwinRegister$Device" "latestReport" "I" "TwinRegister") ∈ ax_all := ax_in 92 (by decide +kernel) (by decide +kernel)
theorem m_93 : (Jvm.Cond.fieldLink "TwinRegister$Device" (33 : Nat) "TwinRegister$Device" "asleep" "Z") ∈ ag_all := ag_in 93 (by decide +kernel) (by decide +kernel)
theorem m_94 : (Jvm.Cond.fieldLinkNest "TwinRegister" (119 : Nat) "TwinRegister$Device" "asleep" "Z" "TwinRegister") ∈ ax_all := ax_in 94 (by decide +kernel) (by decide +kernel)
theorem m_95 : (Jvm.Cond.laysFinal "TwinRegister$Device" "TwinRegister$Device" "wishedValues" "[I") ∈ ag_all := ag_in 95 (by decide +kernel) (by decide +kernel)
theorem m_96 : (Jvm.Cond.soleField "TwinRegister$Device" "wishedValues") ∈ ag_all := ag_in 96 (by decide +kernel) (by decide +kernel)
theorem m_97 : (Jvm.Cond.laysFinal "TwinRegister$Device" "TwinRegister$Device" "reportedValues" "[I") ∈ ag_all := ag_in 97 (by decide +kernel) (by decide +kernel)
theorem m_98 : (Jvm.Cond.soleField "TwinRegister$Device" "reportedValues") ∈ ag_all := ag_in 98 (by decide +kernel) (by decide +kernel)
theorem m_99 : (Jvm.Cond.laysFinal "TwinRegister$Device" "TwinRegister$Device" "reasons" "[I") ∈ ag_all := ag_in 99 (by decide +kernel) (by decide +kernel)
theorem m_100 : (Jvm.Cond.soleField "TwinRegister$Device" "reasons") ∈ ag_all := ag_in 100 (by decide +kernel) (by decide +kernel)
theorem m_101 : (Jvm.Cond.lays "TwinRegister$Device" "TwinRegister$Device" "differing" "I") ∈ ag_all := ag_in 101 (by decide +kernel) (by decide +kernel)
theorem m_102 : (Jvm.Cond.soleField "TwinRegister$Device" "differing") ∈ ag_all := ag_in 102 (by decide +kernel) (by decide +kernel)
theorem m_103 : (Jvm.Cond.lays "TwinRegister$Device" "TwinRegister$Device" "latestVersion" "I") ∈ ag_all := ag_in 103 (by decide +kernel) (by decide +kernel)
theorem m_104 : (Jvm.Cond.soleField "TwinRegister$Device" "latestVersion") ∈ ag_all := ag_in 104 (by decide +kernel) (by decide +kernel)
theorem m_105 : (Jvm.Cond.lays "TwinRegister$Device" "TwinRegister$Device" "versionBeforeSleep" "I") ∈ ag_all := ag_in 105 (by decide +kernel) (by decide +kernel)
theorem m_106 : (Jvm.Cond.soleField "TwinRegister$Device" "versionBeforeSleep") ∈ ag_all := ag_in 106 (by decide +kernel) (by decide +kernel)
theorem m_107 : (Jvm.Cond.lays "TwinRegister$Device" "TwinRegister$Device" "latestReport" "I") ∈ ag_all := ag_in 107 (by decide +kernel) (by decide +kernel)
theorem m_108 : (Jvm.Cond.soleField "TwinRegister$Device" "latestReport") ∈ ag_all := ag_in 108 (by decide +kernel) (by decide +kernel)
theorem m_109 : (Jvm.Cond.lays "TwinRegister$Device" "TwinRegister$Device" "asleep" "Z") ∈ ag_all := ag_in 109 (by decide +kernel) (by decide +kernel)
theorem m_110 : (Jvm.Cond.soleField "TwinRegister$Device" "asleep") ∈ ag_all := ag_in 110 (by decide +kernel) (by decide +kernel)
theorem m_111 : (Jvm.Cond.superclass "TwinRegister$Device" "java/lang/Object") ∈ ag_all := ag_in 111 (by decide +kernel) (by decide +kernel)
theorem m_112 : (Jvm.Cond.classLink "TwinRegister" (23 : Nat) "TwinRegister$Group") ∈ ag_all := ag_in 112 (by decide +kernel) (by decide +kernel)
theorem m_114 : (Jvm.Cond.instantiable "TwinRegister$Group" (3 : Nat)) ∈ ag_all := ag_in 114 (by decide +kernel) (by decide +kernel)
theorem m_115 : (Jvm.Cond.methodLinkNest "TwinRegister" (29 : Nat) ({ cls := "TwinRegister$Group", name := "<init>", desc := "()V" } : Jvm.MethodName) "TwinRegister") ∈ ax_all := ax_in 115 (by decide +kernel) (by decide +kernel)
theorem m_116 : (Jvm.Cond.instanceMethod ({ cls := "TwinRegister$Group", name := "<init>", desc := "()V" } : Jvm.MethodName)) ∈ ag_all := ag_in 116 (by decide +kernel) (by decide +kernel)
theorem m_117 : (Jvm.Cond.code ({ cls := "TwinRegister$Group", name := "<init>", desc := "()V" } : Jvm.MethodName) prog_4_method_1_code (1 : Nat) (Option.none : Option Jvm.ClassFile.FieldType)) ∈ ag_all := ag_in 117 (by decide +kernel) (by decide +kernel)
theorem m_118 : (Jvm.Cond.methodLink "TwinRegister$Group" (3 : Nat) ({ cls := "java/lang/Object", name := "<init>", desc := "()V" } : Jvm.MethodName)) ∈ ag_all := ag_in 118 (by decide +kernel) (by decide +kernel)
theorem m_119 : (Jvm.Cond.fieldLink "TwinRegister$Group" (9 : Nat) "TwinRegister$Group" "leaf" "I") ∈ ag_all := ag_in 119 (by decide +kernel) (by decide +kernel)
theorem m_120 : (Jvm.Cond.fieldLinkNest "TwinRegister" (133 : Nat) "TwinRegister$Group" "leaf" "I" "TwinRegister") ∈ ax_all := ax_in 120 (by decide +kernel) (by decide +kernel)
theorem m_121 : (Jvm.Cond.fieldLink "TwinRegister$Group" (15 : Nat) "TwinRegister$Group" "low" "I") ∈ ag_all := ag_in 121 (by decide +kernel) (by decide +kernel)
theorem m_122 : (Jvm.Cond.fieldLinkNest "TwinRegister" (136 : Nat) "TwinRegister$Group" "low" "I" "TwinRegister") ∈ ax_all := ax_in 122 (by decide +kernel) (by decide +kernel)
theorem m_123 : (Jvm.Cond.fieldLink "TwinRegister$Group" (18 : Nat) "TwinRegister$Group" "high" "I") ∈ ag_all := ag_in 123 (by decide +kernel) (by decide +kernel)
theorem m_124 : (Jvm.Cond.fieldLinkNest "TwinRegister" (139 : Nat) "TwinRegister$Group" "high" "I" "TwinRegister") ∈ ax_all := ax_in 124 (by decide +kernel) (by decide +kernel)
theorem m_125 : (Jvm.Cond.lays "TwinRegister$Group" "TwinRegister$Group" "leaf" "I") ∈ ag_all := ag_in 125 (by decide +kernel) (by decide +kernel)
theorem m_126 : (Jvm.Cond.soleField "TwinRegister$Group" "leaf") ∈ ag_all := ag_in 126 (by decide +kernel) (by decide +kernel)
theorem m_127 : (Jvm.Cond.lays "TwinRegister$Group" "TwinRegister$Group" "low" "I") ∈ ag_all := ag_in 127 (by decide +kernel) (by decide +kernel)
theorem m_128 : (Jvm.Cond.soleField "TwinRegister$Group" "low") ∈ ag_all := ag_in 128 (by decide +kernel) (by decide +kernel)
theorem m_129 : (Jvm.Cond.lays "TwinRegister$Group" "TwinRegister$Group" "high" "I") ∈ ag_all := ag_in 129 (by decide +kernel) (by decide +kernel)
theorem m_130 : (Jvm.Cond.soleField "TwinRegister$Group" "high") ∈ ag_all := ag_in 130 (by decide +kernel) (by decide +kernel)
theorem m_131 : (Jvm.Cond.superclass "TwinRegister$Group" "java/lang/Object") ∈ ag_all := ag_in 131 (by decide +kernel) (by decide +kernel)
theorem m_132 : (Jvm.Cond.classLink "TwinRegister" (30 : Nat) "TwinRegister$Job") ∈ ag_all := ag_in 132 (by decide +kernel) (by decide +kernel)
theorem m_134 : (Jvm.Cond.instantiable "TwinRegister$Job" (9 : Nat)) ∈ ag_all := ag_in 134 (by decide +kernel) (by decide +kernel)
theorem m_135 : (Jvm.Cond.methodLinkNest "TwinRegister" (36 : Nat) ({ cls := "TwinRegister$Job", name := "<init>", desc := "()V" } : Jvm.MethodName) "TwinRegister") ∈ ax_all := ax_in 135 (by decide +kernel) (by decide +kernel)
theorem m_136 : (Jvm.Cond.instanceMethod ({ cls := "TwinRegister$Job", name := "<init>", desc := "()V" } : Jvm.MethodName)) ∈ ag_all := ag_in 136 (by decide +kernel) (by decide +kernel)
theorem m_137 : (Jvm.Cond.code ({ cls := "TwinRegister$Job", name := "<init>", desc := "()V" } : Jvm.MethodName) prog_5_method_1_code (1 : Nat) (Option.none : Option Jvm.ClassFile.FieldType)) ∈ ag_all := ag_in 137 (by decide +kernel) (by decide +kernel)
theorem m_138 : (Jvm.Cond.methodLink "TwinRegister$Job" (3 : Nat) ({ cls := "java/lang/Object", name := "<init>", desc := "()V" } : Jvm.MethodName)) ∈ ag_all := ag_in 138 (by decide +kernel) (by decide +kernel)
theorem m_139 : (Jvm.Cond.fieldLinkNest "TwinRegister" (151 : Nat) "TwinRegister$Job" "group" "I" "TwinRegister") ∈ ax_all := ax_in 139 (by decide +kernel) (by decide +kernel)
theorem m_140 : (Jvm.Cond.fieldLinkNest "TwinRegister" (154 : Nat) "TwinRegister$Job" "leaf" "I" "TwinRegister") ∈ ax_all := ax_in 140 (by decide +kernel) (by decide +kernel)
theorem m_141 : (Jvm.Cond.fieldLinkNest "TwinRegister" (155 : Nat) "TwinRegister$Job" "value" "I" "TwinRegister") ∈ ax_all := ax_in 141 (by decide +kernel) (by decide +kernel)
theorem m_142 : (Jvm.Cond.fieldLinkNest "TwinRegister" (158 : Nat) "TwinRegister$Job" "rate" "I" "TwinRegister") ∈ ax_all := ax_in 142 (by decide +kernel) (by decide +kernel)
theorem m_143 : (Jvm.Cond.fieldLinkNest "TwinRegister" (161 : Nat) "TwinRegister$Job" "bound" "I" "TwinRegister") ∈ ax_all := ax_in 143 (by decide +kernel) (by decide +kernel)
theorem m_144 : (Jvm.Cond.fieldLink "TwinRegister$Job" (9 : Nat) "TwinRegister$Job" "condition" "I") ∈ ag_all := ag_in 144 (by decide +kernel) (by decide +kernel)
theorem m_145 : (Jvm.Cond.fieldLinkNest "TwinRegister" (164 : Nat) "TwinRegister$Job" "condition" "I" "TwinRegister") ∈ ax_all := ax_in 145 (by decide +kernel) (by decide +kernel)
theorem m_146 : (Jvm.Cond.fieldLink "TwinRegister$Job" (15 : Nat) "TwinRegister$Job" "started" "I") ∈ ag_all := ag_in 146 (by decide +kernel) (by decide +kernel)
theorem m_147 : (Jvm.Cond.fieldLinkNest "TwinRegister" (189 : Nat) "TwinRegister$Job" "started" "I" "TwinRegister") ∈ ax_all := ax_in 147 (by decide +kernel) (by decide +kernel)
theorem m_148 : (Jvm.Cond.fieldLink "TwinRegister$Job" (18 : Nat) "TwinRegister$Job" "done" "I") ∈ ag_all := ag_in 148 (by decide +kernel) (by decide +kernel)
theorem m_149 : (Jvm.Cond.fieldLinkNest "TwinRegister" (192 : Nat) "TwinRegister$Job" "done" "I" "TwinRegister") ∈ ax_all := ax_in 149 (by decide +kernel) (by decide +kernel)
theorem m_150 : (Jvm.Cond.fieldLink "TwinRegister$Job" (21 : Nat) "TwinRegister$Job" "failed" "I") ∈ ag_all := ag_in 150 (by decide +kernel) (by decide +kernel)
theorem m_151 : (Jvm.Cond.fieldLinkNest "TwinRegister" (195 : Nat) "TwinRegister$Job" "failed" "I" "TwinRegister") ∈ ax_all := ax_in 151 (by decide +kernel) (by decide +kernel)
theorem m_152 : (Jvm.Cond.lays "TwinRegister$Job" "TwinRegister$Job" "group" "I") ∈ ag_all := ag_in 152 (by decide +kernel) (by decide +kernel)
theorem m_153 : (Jvm.Cond.soleField "TwinRegister$Job" "group") ∈ ag_all := ag_in 153 (by decide +kernel) (by decide +kernel)
theorem m_154 : (Jvm.Cond.lays "TwinRegister$Job" "TwinRegister$Job" "leaf" "I") ∈ ag_all := ag_in 154 (by decide +kernel) (by decide +kernel)
theorem m_155 : (Jvm.Cond.soleField "TwinRegister$Job" "leaf") ∈ ag_all := ag_in 155 (by decide +kernel) (by decide +kernel)
theorem m_156 : (Jvm.Cond.lays "TwinRegister$Job" "TwinRegister$Job" "value" "I") ∈ ag_all := ag_in 156 (by decide +kernel) (by decide +kernel)
theorem m_157 : (Jvm.Cond.soleField "TwinRegister$Job" "value") ∈ ag_all := ag_in 157 (by decide +kernel) (by decide +kernel)
theorem m_158 : (Jvm.Cond.lays "TwinRegister$Job" "TwinRegister$Job" "rate" "I") ∈ ag_all := ag_in 158 (by decide +kernel) (by decide +kernel)
theorem m_159 : (Jvm.Cond.soleField "TwinRegister$Job" "rate") ∈ ag_all := ag_in 159 (by decide +kernel) (by decide +kernel)
theorem m_160 : (Jvm.Cond.lays "TwinRegister$Job" "TwinRegister$Job" "bound" "I") ∈ ag_all := ag_in 160 (by decide +kernel) (by decide +kernel)
theorem m_161 : (Jvm.Cond.soleField "TwinRegister$Job" "bound") ∈ ag_all := ag_in 161 (by decide +kernel) (by decide +kernel)
theorem m_162 : (Jvm.Cond.lays "TwinRegister$Job" "TwinRegister$Job" "condition" "I") ∈ ag_all := ag_in 162 (by decide +kernel) (by decide +kernel)
theorem m_163 : (Jvm.Cond.soleField "TwinRegister$Job" "condition") ∈ ag_all := ag_in 163 (by decide +kernel) (by decide +kernel)
theorem m_164 : (Jvm.Cond.lays "TwinRegister$Job" "TwinRegister$Job" "started" "I") ∈ ag_all := ag_in 164 (by decide +kernel) (by decide +kernel)
theorem m_165 : (Jvm.Cond.soleField "TwinRegister$Job" "started") ∈ ag_all := ag_in 165 (by decide +kernel) (by decide +kernel)
theorem m_166 : (Jvm.Cond.lays "TwinRegister$Job" "TwinRegister$Job" "done" "I") ∈ ag_all := ag_in 166 (by decide +kernel) (by decide +kernel)
theorem m_167 : (Jvm.Cond.soleField "TwinRegister$Job" "done") ∈ ag_all := ag_in 167 (by decide +kernel) (by decide +kernel)
theorem m_168 : (Jvm.Cond.lays "TwinRegister$Job" "TwinRegister$Job" "failed" "I") ∈ ag_all := ag_in 168 (by decide +kernel) (by decide +kernel)
theorem m_169 : (Jvm.Cond.soleField "TwinRegister$Job" "failed") ∈ ag_all := ag_in 169 (by decide +kernel) (by decide +kernel)
theorem m_170 : (Jvm.Cond.superclass "TwinRegister$Job" "java/lang/Object") ∈ ag_all := ag_in 170 (by decide +kernel) (by decide +kernel)
theorem m_171 : (Jvm.Cond.fieldLink "TwinRegister" (10 : Nat) "TwinRegister" "draft" "LTwinRegister$Draft;") ∈ ag_all := ag_in 171 (by decide +kernel) (by decide +kernel)
theorem m_172 : (Jvm.Cond.fieldLink "TwinRegister" (18 : Nat) "TwinRegister" "deviceRows" "[LTwinRegister$Device;") ∈ ag_all := ag_in 172 (by decide +kernel) (by decide +kernel)
theorem m_173 : (Jvm.Cond.fieldLink "TwinRegister" (25 : Nat) "TwinRegister" "groupRows" "[LTwinRegister$Group;") ∈ ag_all := ag_in 173 (by decide +kernel) (by decide +kernel)
theorem m_174 : (Jvm.Cond.fieldLink "TwinRegister" (32 : Nat) "TwinRegister" "jobRows" "[LTwinRegister$Job;") ∈ ag_all := ag_in 174 (by decide +kernel) (by decide +kernel)
theorem m_175 : (Jvm.Cond.fieldLink "TwinRegister" (37 : Nat) "TwinRegister" "jobCount" "I") ∈ ag_all := ag_in 175 (by decide +kernel) (by decide +kernel)
theorem m_176 : (Jvm.Cond.laysFinal "TwinRegister" "TwinRegister" "draft" "LTwinRegister$Draft;") ∈ ag_all := ag_in 176 (by decide +kernel) (by decide +kernel)
theorem m_177 : (Jvm.Cond.soleField "TwinRegister" "draft") ∈ ag_all := ag_in 177 (by decide +kernel) (by decide +kernel)
theorem m_178 : (Jvm.Cond.laysFinal "TwinRegister" "TwinRegister" "deviceRows" "[LTwinRegister$Device;") ∈ ag_all := ag_in 178 (by decide +kernel) (by decide +kernel)
theorem m_179 : (Jvm.Cond.soleField "TwinRegister" "deviceRows") ∈ ag_all := ag_in 179 (by decide +kernel) (by decide +kernel)
theorem m_180 : (Jvm.Cond.laysFinal "TwinRegister" "TwinRegister" "groupRows" "[LTwinRegister$Group;") ∈ ag_all := ag_in 180 (by decide +kernel) (by decide +kernel)
theorem m_181 : (Jvm.Cond.soleField "TwinRegister" "groupRows") ∈ ag_all := ag_in 181 (by decide +kernel) (by decide +kernel)
theorem m_182 : (Jvm.Cond.laysFinal "TwinRegister" "TwinRegister" "jobRows" "[LTwinRegister$Job;") ∈ ag_all := ag_in 182 (by decide +kernel) (by decide +kernel)
theorem m_183 : (Jvm.Cond.soleField "TwinRegister" "jobRows") ∈ ag_all := ag_in 183 (by decide +kernel) (by decide +kernel)
theorem m_184 : (Jvm.Cond.lays "TwinRegister" "TwinRegister" "jobCount" "I") ∈ ag_all := ag_in 184 (by decide +kernel) (by decide +kernel)
theorem m_185 : (Jvm.Cond.soleField "TwinRegister" "jobCount") ∈ ag_all := ag_in 185 (by decide +kernel) (by decide +kernel)
theorem m_186 : (Jvm.Cond.superclass "TwinRegister" "java/lang/Object") ∈ ag_all := ag_in 186 (by decide +kernel) (by decide +kernel)
theorem m_187 : (Jvm.Cond.methodLink "TwinRegisterLaw" (129 : Nat) ({ cls := "TwinRegister", name := "wave", desc := "()I" } : Jvm.MethodName)) ∈ ag_all := ag_in 187 (by decide +kernel) (by decide +kernel)
theorem m_188 : (Jvm.Cond.instanceMethod ({ cls := "TwinRegister", name := "wave", desc := "()I" } : Jvm.MethodName)) ∈ ag_all := ag_in 188 (by decide +kernel) (by decide +kernel)
theorem m_189 : (Jvm.Cond.selects "TwinRegister" ({ cls := "TwinRegister", name := "wave", desc := "()I" } : Jvm.MethodName) ({ cls := "TwinRegister", name := "wave", desc := "()I" } : Jvm.MethodName)) ∈ ag_all := ag_in 189 (by decide +kernel) (by decide +kernel)
theorem m_190 : (Jvm.Cond.code ({ cls := "TwinRegister", name := "wave", desc := "()I" } : Jvm.MethodName) prog_1_method_12_code (3 : Nat) (Option.some Jvm.ClassFile.FieldType.int)) ∈ ag_all := ag_in 190 (by decide +kernel) (by decide +kernel)
theorem m_191 : (Jvm.Cond.methodLink "TwinRegister" (167 : Nat) ({ cls := "TwinRegister", name := "advance", desc := "(LTwinRegister$Job;)I" } : Jvm.MethodName)) ∈ ag_all := ag_in 191 (by decide +kernel) (by decide +kernel)
theorem m_193 : (Jvm.Cond.instanceMethod ({ cls := "TwinRegister", name := "advance", desc := "(LTwinRegister$Job;)I" } : Jvm.MethodName)) ∈ ag_all := ag_in 193 (by decide +kernel) (by decide +kernel)
theorem m_194 : (Jvm.Cond.code ({ cls := "TwinRegister", name := "advance", desc := "(LTwinRegister$Job;)I" } : Jvm.MethodName) prog_1_method_35_code (2 : Nat) (Option.some Jvm.ClassFile.FieldType.int)) ∈ ag_all := ag_in 194 (by decide +kernel) (by decide +kernel)
theorem m_195 : (Jvm.Cond.methodLink "TwinRegister" (226 : Nat) ({ cls := "TwinRegister", name := "judgeStarted", desc := "(LTwinRegister$Job;)V" } : Jvm.MethodName)) ∈ ag_all := ag_in 195 (by decide +kernel) (by decide +kernel)
theorem m_197 : (Jvm.Cond.instanceMethod ({ cls := "TwinRegister", name := "judgeStarted", desc := "(LTwinRegister$Job;)V" } : Jvm.MethodName)) ∈ ag_all := ag_in 197 (by decide +kernel) (by decide +kernel)
theorem m_198 : (Jvm.Cond.code ({ cls := "TwinRegister", name := "judgeStarted", desc := "(LTwinRegister$Job;)V" } : Jvm.MethodName) prog_1_method_36_code (6 : Nat) (Option.none : Option Jvm.ClassFile.FieldType)) ∈ ag_all := ag_in 198 (by decide +kernel) (by decide +kernel)
theorem m_199 : (Jvm.Cond.methodLinkNest "TwinRegister" (177 : Nat) ({ cls := "TwinRegister$Job", name := "open", desc := "()I" } : Jvm.MethodName) "TwinRegister") ∈ ax_all := ax_in 199 (by decide +kernel) (by decide +kernel)
theorem m_201 : (Jvm.Cond.instanceMethod ({ cls := "TwinRegister$Job", name := "open", desc := "()I" } : Jvm.MethodName)) ∈ ag_all := ag_in 201 (by decide +kernel) (by decide +kernel)
theorem m_202 : (Jvm.Cond.code ({ cls := "TwinRegister$Job", name := "open", desc := "()I" } : Jvm.MethodName) prog_5_method_2_code (1 : Nat) (Option.some Jvm.ClassFile.FieldType.int)) ∈ ag_all := ag_in 202 (by decide +kernel) (by decide +kernel)
theorem m_203 : (Jvm.Cond.methodLink "TwinRegister" (97 : Nat) ({ cls := "java/lang/Integer", name := "bitCount", desc := "(I)I" } : Jvm.MethodName)) ∈ ag_all := ag_in 203 (by decide +kernel) (by decide +kernel)
theorem m_204 : (Jvm.Cond.static ({ cls := "java/lang/Integer", name := "bitCount", desc := "(I)I" } : Jvm.MethodName)) ∈ ag_all := ag_in 204 (by decide +kernel) (by decide +kernel)
theorem m_205 : (Jvm.Cond.code ({ cls := "java/lang/Integer", name := "bitCount", desc := "(I)I" } : Jvm.MethodName) prog_12_method_49_code (1 : Nat) (Option.some Jvm.ClassFile.FieldType.int)) ∈ ag_all := ag_in 205 (by decide +kernel) (by decide +kernel)
theorem m_206 : (Jvm.Cond.constant "java/lang/Integer" (265 : Nat) (1431655765 : Int32)) ∈ ag_all := ag_in 206 (by decide +kernel) (by decide +kernel)
theorem m_207 : (Jvm.Cond.constant "java/lang/Integer" (266 : Nat) (858993459 : Int32)) ∈ ag_all := ag_in 207 (by decide +kernel) (by decide +kernel)
theorem m_208 : (Jvm.Cond.constant "java/lang/Integer" (267 : Nat) (252645135 : Int32)) ∈ ag_all := ag_in 208 (by decide +kernel) (by decide +kernel)
theorem m_209 : (Jvm.Cond.methodLink "TwinRegister" (230 : Nat) ({ cls := "TwinRegister", name := "startMore", desc := "(LTwinRegister$Job;)I" } : Jvm.MethodName)) ∈ ag_all := ag_in 209 (by decide +kernel) (by decide +kernel)
theorem m_211 : (Jvm.Cond.instanceMethod ({ cls := "TwinRegister", name := "startMore", desc := "(LTwinRegister$Job;)I" } : Jvm.MethodName)) ∈ ag_all := ag_in 211 (by decide +kernel) (by decide +kernel)
theorem m_212 : (Jvm.Cond.code ({ cls := "TwinRegister", name := "startMore", desc := "(LTwinRegister$Job;)I" } : Jvm.MethodName) prog_1_method_37_code (6 : Nat) (Option.some Jvm.ClassFile.FieldType.int)) ∈ ag_all := ag_in 212 (by decide +kernel) (by decide +kernel)
theorem m_213 : (Jvm.Cond.methodLink "TwinRegister" (142 : Nat) ({ cls := "TwinRegister", name := "membersOf", desc := "(LTwinRegister$Group;)I" } : Jvm.MethodName)) ∈ ag_all := ag_in 213 (by decide +kernel) (by decide +kernel)
theorem m_215 : (Jvm.Cond.instanceMethod ({ cls := "TwinRegister", name := "membersOf", desc := "(LTwinRegister$Group;)I" } : Jvm.MethodName)) ∈ ag_all := ag_in 215 (by decide +kernel) (by decide +kernel)
theorem m_216 : (Jvm.Cond.code ({ cls := "TwinRegister", name := "membersOf", desc := "(LTwinRegister$Group;)I" } : Jvm.MethodName) prog_1_method_34_code (4 : Nat) (Option.some Jvm.ClassFile.FieldType.int)) ∈ ag_all := ag_in 216 (by decide +kernel) (by decide +kernel)
theorem m_217 : (Jvm.Cond.methodLinkNest "TwinRegister" (222 : Nat) ({ cls := "TwinRegister$Group", name := "admits", desc := "(LTwinRegister$Device;)Z" } : Jvm.MethodName) "TwinRegister") ∈ ax_all := ax_in 217 (by decide +kernel) (by decide +kernel)
theorem m_219 : (Jvm.Cond.instanceMethod ({ cls := "TwinRegister$Group", name := "admits", desc := "(LTwinRegister$Device;)Z" } : Jvm.MethodName)) ∈ ag_all := ag_in 219 (by decide +kernel) (by decide +kernel)
theorem m_220 : (Jvm.Cond.code ({ cls := "TwinRegister$Group", name := "admits", desc := "(LTwinRegister$Device;)Z" } : Jvm.MethodName) prog_4_method_2_code (3 : Nat) (Option.some Jvm.ClassFile.FieldType.boolean)) ∈ ag_all := ag_in 220 (by decide +kernel) (by decide +kernel)
theorem m_221 : (Jvm.Cond.methodLinkNest "TwinRegister" (219 : Nat) ({ cls := "TwinRegister$Device", name := "takeWish", desc := "(II)V" } : Jvm.MethodName) "TwinRegister") ∈ ax_all := ax_in 221 (by decide +kernel) (by decide +kernel)
theorem m_223 : (Jvm.Cond.instanceMethod ({ cls := "TwinRegister$Device", name := "takeWish", desc := "(II)V" } : Jvm.MethodName)) ∈ ag_all := ag_in 223 (by decide +kernel) (by decide +kernel)
theorem m_224 : (Jvm.Cond.code ({ cls := "TwinRegister$Device", name := "takeWish", desc := "(II)V" } : Jvm.MethodName) prog_2_method_2_code (3 : Nat) (Option.none : Option Jvm.ClassFile.FieldType)) ∈ ag_all := ag_in 224 (by decide +kernel) (by decide +kernel)
theorem m_225 : (Jvm.Cond.methodLink "TwinRegister$Device" (21 : Nat) ({ cls := "TwinRegister$Device", name := "keepDifference", desc := "(I)V" } : Jvm.MethodName)) ∈ ag_all := ag_in 225 (by decide +kernel) (by decide +kernel)
theorem m_227 : (Jvm.Cond.instanceMethod ({ cls := "TwinRegister$Device", name := "keepDifference", desc := "(I)V" } : Jvm.MethodName)) ∈ ag_all := ag_in 227 (by decide +kernel) (by decide +kernel)
theorem m_228 : (Jvm.Cond.code ({ cls := "TwinRegister$Device", name := "keepDifference", desc := "(I)V" } : Jvm.MethodName) prog_2_method_5_code (2 : Nat) (Option.none : Option Jvm.ClassFile.FieldType)) ∈ ag_all := ag_in 228 (by decide +kernel) (by decide +kernel)
theorem m_229 : (Jvm.Cond.methodLink "TwinRegister$Device" (25 : Nat) ({ cls := "TwinRegister$Device", name := "comparesUnlike", desc := "(I)Z" } : Jvm.MethodName)) ∈ ag_all := ag_in 229 (by decide +kernel) (by decide +kernel)
theorem m_231 : (Jvm.Cond.instanceMethod ({ cls := "TwinRegister$Device", name := "comparesUnlike", desc := "(I)Z" } : Jvm.MethodName)) ∈ ag_all := ag_in 231 (by decide +kernel) (by decide +kernel)
theorem m_232 : (Jvm.Cond.code ({ cls := "TwinRegister$Device", name := "comparesUnlike", desc := "(I)Z" } : Jvm.MethodName) prog_2_method_7_code (2 : Nat) (Option.some Jvm.ClassFile.FieldType.boolean)) ∈ ag_all := ag_in 232 (by decide +kernel) (by decide +kernel)
theorem m_233 : (Jvm.Cond.methodLink "TwinRegisterLaw" (160 : Nat) ({ cls := "TwinRegister", name := "jobs", desc := "()I" } : Jvm.MethodName)) ∈ ag_all := ag_in 233 (by decide +kernel) (by decide +kernel)
theorem m_234 : (Jvm.Cond.instanceMethod ({ cls := "TwinRegister", name := "jobs", desc := "()I" } : Jvm.MethodName)) ∈ ag_all := ag_in 234 (by decide +kernel) (by decide +kernel)
theorem m_235 : (Jvm.Cond.selects "TwinRegister" ({ cls := "TwinRegister", name := "jobs", desc := "()I" } : Jvm.MethodName) ({ cls := "TwinRegister", name := "jobs", desc := "()I" } : Jvm.MethodName)) ∈ ag_all := ag_in 235 (by decide +kernel) (by decide +kernel)
theorem m_236 : (Jvm.Cond.code ({ cls := "TwinRegister", name := "jobs", desc := "()I" } : Jvm.MethodName) prog_1_method_22_code (1 : Nat) (Option.some Jvm.ClassFile.FieldType.int)) ∈ ag_all := ag_in 236 (by decide +kernel) (by decide +kernel)
theorem m_237 : (Jvm.Cond.methodLink "TwinRegisterLaw" (88 : Nat) ({ cls := "TwinRegisterLaw", name := "put", desc := "(LTwinRegister;II[J)I" } : Jvm.MethodName)) ∈ ag_all := ag_in 237 (by decide +kernel) (by decide +kernel)
theorem m_238 : (Jvm.Cond.static ({ cls := "TwinRegisterLaw", name := "put", desc := "(LTwinRegister;II[J)I" } : Jvm.MethodName)) ∈ ag_all := ag_in 238 (by decide +kernel) (by decide +kernel)
theorem m_239 : (Jvm.Cond.codeWith ({ cls := "TwinRegisterLaw", name := "put", desc := "(LTwinRegister;II[J)I" } : Jvm.MethodName) method_3_code (5 : Nat) (Option.some Jvm.ClassFile.FieldType.int) [((0 : Nat), (10 : Nat), (13 : Nat), (13 : Nat)), ((0 : Nat), (10 : Nat), (17 : Nat), (15 : Nat))]) ∈ ag_all := ag_in 239 (by decide +kernel) (by decide +kernel)
theorem m_240 : (Jvm.Cond.classLink "TwinRegisterLaw" (13 : Nat) "java/lang/IndexOutOfBoundsException") ∈ ag_all := ag_in 240 (by decide +kernel) (by decide +kernel)
theorem m_241 : (Jvm.Cond.classLink "TwinRegisterLaw" (15 : Nat) "java/lang/IllegalArgumentException") ∈ ag_all := ag_in 241 (by decide +kernel) (by decide +kernel)
theorem m_242 : (Jvm.Cond.methodLink "TwinRegisterLaw" (7 : Nat) ({ cls := "TwinRegister", name := "put", desc := "(II)I" } : Jvm.MethodName)) ∈ ag_all := ag_in 242 (by decide +kernel) (by decide +kernel)
theorem m_243 : (Jvm.Cond.instanceMethod ({ cls := "TwinRegister", name := "put", desc := "(II)I" } : Jvm.MethodName)) ∈ ag_all := ag_in 243 (by decide +kernel) (by decide +kernel)
theorem m_244 : (Jvm.Cond.selects "TwinRegister" ({ cls := "TwinRegister", name := "put", desc := "(II)I" } : Jvm.MethodName) ({ cls := "TwinRegister", name := "put", desc := "(II)I" } : Jvm.MethodName)) ∈ ag_all := ag_in 244 (by decide +kernel) (by decide +kernel)
theorem m_245 : (Jvm.Cond.code ({ cls := "TwinRegister", name := "put", desc := "(II)I" } : Jvm.MethodName) prog_1_method_2_code (3 : Nat) (Option.some Jvm.ClassFile.FieldType.int)) ∈ ag_all := ag_in 245 (by decide +kernel) (by decide +kernel)
theorem m_246 : (Jvm.Cond.methodLink "TwinRegister" (41 : Nat) ({ cls := "TwinRegister", name := "requireLeaf", desc := "(I)V" } : Jvm.MethodName)) ∈ ag_all := ag_in 246 (by decide +kernel) (by decide +kernel)
theorem m_247 : (Jvm.Cond.static ({ cls := "TwinRegister", name := "requireLeaf", desc := "(I)V" } : Jvm.MethodName)) ∈ ag_all := ag_in 247 (by decide +kernel) (by decide +kernel)
theorem m_248 : (Jvm.Cond.code ({ cls := "TwinRegister", name := "requireLeaf", desc := "(I)V" } : Jvm.MethodName) prog_1_method_29_code (1 : Nat) (Option.none : Option Jvm.ClassFile.FieldType)) ∈ ag_all := ag_in 248 (by decide +kernel) (by decide +kernel)
theorem m_249 : (Jvm.Cond.classLink "TwinRegister" (57 : Nat) "java/lang/IndexOutOfBoundsException") ∈ ag_all := ag_in 249 (by decide +kernel) (by decide +kernel)
theorem m_250 : (Jvm.Cond.instantiable "java/lang/IndexOutOfBoundsException" (6 : Nat)) ∈ ag_all := ag_in 250 (by decide +kernel) (by decide +kernel)
theorem m_251 : (Jvm.Cond.castable "java/lang/IndexOutOfBoundsException" "java/lang/IndexOutOfBoundsException") ∈ ax_all := ax_in 251 (by decide +kernel) (by decide +kernel)
theorem m_252 : (Jvm.Cond.declares ({ cls := "java/lang/RuntimeException", name := "<init>", desc := "()V" } : Jvm.MethodName)) ∈ ax_all := ax_in 252 (by decide +kernel) (by decide +kernel)
theorem m_253 : (Jvm.Cond.declares ({ cls := "java/lang/RuntimeException", name := "<init>", desc := "(Ljava/lang/String;)V" } : Jvm.MethodName)) ∈ ax_all := ax_in 253 (by decide +kernel) (by decide +kernel)
theorem m_254 : (Jvm.Cond.declares ({ cls := "java/lang/Exception", name := "<init>", desc := "()V" } : Jvm.MethodName)) ∈ ax_all := ax_in 254 (by decide +kernel) (by decide +kernel)
theorem m_255 : (Jvm.Cond.declares ({ cls := "java/lang/Exception", name := "<init>", desc := "(Ljava/lang/String;)V" } : Jvm.MethodName)) ∈ ax_all := ax_in 255 (by decide +kernel) (by decide +kernel)
theorem m_256 : (Jvm.Cond.declares ({ cls := "java/lang/Throwable", name := "<init>", desc := "()V" } : Jvm.MethodName)) ∈ ax_all := ax_in 256 (by decide +kernel) (by decide +kernel)
theorem m_257 : (Jvm.Cond.declares ({ cls := "java/lang/Throwable", name := "<init>", desc := "(Ljava/lang/String;)V" } : Jvm.MethodName)) ∈ ax_all := ax_in 257 (by decide +kernel) (by decide +kernel)
theorem m_258 : (Jvm.Cond.selects "java/lang/IndexOutOfBoundsException" ({ cls := "java/lang/Throwable", name := "fillInStackTrace", desc := "(I)Ljava/lang/Throwable;" } : Jvm.MethodName) ({ cls := "java/lang/Throwable", name := "fillInStackTrace", desc := "(I)Ljava/lang/Throwable;" } : Jvm.MethodName)) ∈ ag_all := ag_in 258 (by decide +kernel) (by decide +kernel)
theorem m_259 : (Jvm.Cond.selects "java/lang/IndexOutOfBoundsException" ({ cls := "java/lang/Throwable", name := "fillInStackTrace", desc := "()Ljava/lang/Throwable;" } : Jvm.MethodName) ({ cls := "java/lang/Throwable", name := "fillInStackTrace", desc := "()Ljava/lang/Throwable;" } : Jvm.MethodName)) ∈ ag_all := ag_in 259 (by decide +kernel) (by decide +kernel)
theorem m_260 : (Jvm.Cond.lays "java/lang/IndexOutOfBoundsException" "java/lang/Throwable" "cause" "Ljava/lang/Throwable;") ∈ ag_all := ag_in 260 (by decide +kernel) (by decide +kernel)
theorem m_261 : (Jvm.Cond.lays "java/lang/Throwable" "java/lang/Throwable" "cause" "Ljava/lang/Throwable;") ∈ ag_all := ag_in 261 (by decide +kernel) (by decide +kernel)
theorem m_262 : (Jvm.Cond.lays "java/lang/IndexOutOfBoundsException" "java/lang/Throwable" "stackTrace" "[Ljava/lang/StackTraceElement;") ∈ ag_all := ag_in 262 (by decide +kernel) (by decide +kernel)
theorem m_263 : (Jvm.Cond.lays "java/lang/Throwable" "java/lang/Throwable" "stackTrace" "[Ljava/lang/StackTraceElement;") ∈ ag_all := ag_in 263 (by decide +kernel) (by decide +kernel)
theorem m_264 : (Jvm.Cond.lays "java/lang/IndexOutOfBoundsException" "java/lang/Throwable" "suppressedExceptions" "Ljava/util/List;") ∈ ag_all := ag_in 264 (by decide +kernel) (by decide +kernel)
theorem m_265 : (Jvm.Cond.lays "java/lang/Throwable" "java/lang/Throwable" "suppressedExceptions" "Ljava/util/List;") ∈ ag_all := ag_in 265 (by decide +kernel) (by decide +kernel)
theorem m_266 : (Jvm.Cond.lays "java/lang/IndexOutOfBoundsException" "java/lang/Throwable" "detailMessage" "Ljava/lang/String;") ∈ ag_all := ag_in 266 (by decide +kernel) (by decide +kernel)
theorem m_267 : (Jvm.Cond.lays "java/lang/Throwable" "java/lang/Throwable" "detailMessage" "Ljava/lang/String;") ∈ ag_all := ag_in 267 (by decide +kernel) (by decide +kernel)
theorem m_268 : (Jvm.Cond.lays "java/lang/IndexOutOfBoundsException" "java/lang/Throwable" "backtrace" "Ljava/lang/Object;") ∈ ag_all := ag_in 268 (by decide +kernel) (by decide +kernel)
theorem m_269 : (Jvm.Cond.lays "java/lang/Throwable" "java/lang/Throwable" "backtrace" "Ljava/lang/Object;") ∈ ag_all := ag_in 269 (by decide +kernel) (by decide +kernel)
theorem m_270 : (Jvm.Cond.fieldLink "java/lang/Throwable" (198 : Nat) "java/lang/Throwable" "backtrace" "Ljava/lang/Object;") ∈ ag_all := ag_in 270 (by decide +kernel) (by decide +kernel)
theorem m_271 : (Jvm.Cond.superclass "java/lang/Throwable" "java/lang/Object") ∈ ag_all := ag_in 271 (by decide +kernel) (by decide +kernel)
theorem m_272 : (Jvm.Cond.instanceMethod ({ cls := "java/lang/Throwable", name := "<init>", desc := "()V" } : Jvm.MethodName)) ∈ ag_all := ag_in 272 (by decide +kernel) (by decide +kernel)
theorem m_273 : (Jvm.Cond.code ({ cls := "java/lang/Throwable", name := "<init>", desc := "()V" } : Jvm.MethodName) prog_15_method_1_code (1 : Nat) (Option.none : Option Jvm.ClassFile.FieldType)) ∈ ag_all := ag_in 273 (by decide +kernel) (by decide +kernel)
theorem m_274 : (Jvm.Cond.methodLink "java/lang/Throwable" (1 : Nat) ({ cls := "java/lang/Object", name := "<init>", desc := "()V" } : Jvm.MethodName)) ∈ ag_all := ag_in 274 (by decide +kernel) (by decide +kernel)
theorem m_275 : (Jvm.Cond.fieldLink "java/lang/Throwable" (13 : Nat) "java/lang/Throwable" "UNASSIGNED_STACK" "[Ljava/lang/StackTraceElement;") ∈ ag_all := ag_in 275 (by decide +kernel) (by decide +kernel)
theorem m_277 : (Jvm.Cond.fieldLink "java/lang/Throwable" (20 : Nat) "java/lang/Throwable" "SUPPRESSED_SENTINEL" "Ljava/util/List;") ∈ ag_all := ag_in 277 (by decide +kernel) (by decide +kernel)
theorem m_279 : (Jvm.Cond.methodLink "java/lang/Throwable" (27 : Nat) ({ cls := "java/lang/Throwable", name := "fillInStackTrace", desc := "()Ljava/lang/Throwable;" } : Jvm.MethodName)) ∈ ag_all := ag_in 279 (by decide +kernel) (by decide +kernel)
theorem m_280 : (Jvm.Cond.instanceMethod ({ cls := "java/lang/Throwable", name := "fillInStackTrace", desc := "()Ljava/lang/Throwable;" } : Jvm.MethodName)) ∈ ag_all := ag_in 280 (by decide +kernel) (by decide +kernel)
theorem m_281 : (Jvm.Cond.sameMethod "java/lang/Throwable" "java/lang/Throwable" "fillInStackTrace" "()Ljava/lang/Throwable;") ∈ ag_all := ag_in 281 (by decide +kernel) (by decide +kernel)
theorem m_282 : (Jvm.Cond.selects "java/lang/IllegalArgumentException" ({ cls := "java/lang/Throwable", name := "fillInStackTrace", desc := "()Ljava/lang/Throwable;" } : Jvm.MethodName) ({ cls := "java/lang/Throwable", name := "fillInStackTrace", desc := "()Ljava/lang/Throwable;" } : Jvm.MethodName)) ∈ ag_all := ag_in 282 (by decide +kernel) (by decide +kernel)
theorem m_283 : (Jvm.Cond.selects "java/lang/IllegalStateException" ({ cls := "java/lang/Throwable", name := "fillInStackTrace", desc := "()Ljava/lang/Throwable;" } : Jvm.MethodName) ({ cls := "java/lang/Throwable", name := "fillInStackTrace", desc := "()Ljava/lang/Throwable;" } : Jvm.MethodName)) ∈ ag_all := ag_in 283 (by decide +kernel) (by decide +kernel)
theorem m_284 : (Jvm.Cond.codeSync ({ cls := "java/lang/Throwable", name := "fillInStackTrace", desc := "()Ljava/lang/Throwable;" } : Jvm.MethodName) prog_15_method_18_code (1 : Nat) (Option.some (Jvm.ClassFile.FieldType.object "java/lang/Throwable"))) ∈ ag_all := ag_in 284 (by decide +kernel) (by decide +kernel)
theorem m_285 : (Jvm.Cond.methodLink "java/lang/Throwable" (202 : Nat) ({ cls := "java/lang/Throwable", name := "fillInStackTrace", desc := "(I)Ljava/lang/Throwable;" } : Jvm.MethodName)) ∈ ag_all := ag_in 285 (by decide +kernel) (by decide +kernel)
theorem m_287 : (Jvm.Cond.instanceMethod ({ cls := "java/lang/Throwable", name := "fillInStackTrace", desc := "(I)Ljava/lang/Throwable;" } : Jvm.MethodName)) ∈ ag_all := ag_in 287 (by decide +kernel) (by decide +kernel)
theorem m_288 : (Jvm.Cond.instantiable "java/lang/Throwable" (6 : Nat)) ∈ ag_all := ag_in 288 (by decide +kernel) (by decide +kernel)
theorem m_289 : (Jvm.Cond.native ({ cls := "java/lang/Throwable", name := "fillInStackTrace", desc := "(I)Ljava/lang/Throwable;" } : Jvm.MethodName)) ∈ ag_all := ag_in 289 (by decide +kernel) (by decide +kernel)
theorem m_291 : (Jvm.Cond.methodLink "TwinRegister" (61 : Nat) ({ cls := "java/lang/IndexOutOfBoundsException", name := "<init>", desc := "(Ljava/lang/String;)V" } : Jvm.MethodName)) ∈ ag_all := ag_in 291 (by decide +kernel) (by decide +kernel)
theorem m_292 : (Jvm.Cond.instanceMethod ({ cls := "java/lang/IndexOutOfBoundsException", name := "<init>", desc := "(Ljava/lang/String;)V" } : Jvm.MethodName)) ∈ ag_all := ag_in 292 (by decide +kernel) (by decide +kernel)
theorem m_293 : (Jvm.Cond.code ({ cls := "java/lang/IndexOutOfBoundsException", name := "<init>", desc := "(Ljava/lang/String;)V" } : Jvm.MethodName) prog_11_method_2_code (2 : Nat) (Option.none : Option Jvm.ClassFile.FieldType)) ∈ ag_all := ag_in 293 (by decide +kernel) (by decide +kernel)
theorem m_294 : (Jvm.Cond.methodLink "java/lang/IndexOutOfBoundsException" (7 : Nat) ({ cls := "java/lang/RuntimeException", name := "<init>", desc := "(Ljava/lang/String;)V" } : Jvm.MethodName)) ∈ ag_all := ag_in 294 (by decide +kernel) (by decide +kernel)
theorem m_295 : (Jvm.Cond.instanceMethod ({ cls := "java/lang/RuntimeException", name := "<init>", desc := "(Ljava/lang/String;)V" } : Jvm.MethodName)) ∈ ag_all := ag_in 295 (by decide +kernel) (by decide +kernel)
theorem m_296 : (Jvm.Cond.code ({ cls := "java/lang/RuntimeException", name := "<init>", desc := "(Ljava/lang/String;)V" } : Jvm.MethodName) prog_13_method_2_code (2 : Nat) (Option.none : Option Jvm.ClassFile.FieldType)) ∈ ag_all := ag_in 296 (by decide +kernel) (by decide +kernel)
theorem m_297 : (Jvm.Cond.methodLink "java/lang/RuntimeException" (7 : Nat) ({ cls := "java/lang/Exception", name := "<init>", desc := "(Ljava/lang/String;)V" } : Jvm.MethodName)) ∈ ag_all := ag_in 297 (by decide +kernel) (by decide +kernel)
theorem m_298 : (Jvm.Cond.instanceMethod ({ cls := "java/lang/Exception", name := "<init>", desc := "(Ljava/lang/String;)V" } : Jvm.MethodName)) ∈ ag_all := ag_in 298 (by decide +kernel) (by decide +kernel)
theorem m_299 : (Jvm.Cond.code ({ cls := "java/lang/Exception", name := "<init>", desc := "(Ljava/lang/String;)V" } : Jvm.MethodName) prog_8_method_2_code (2 : Nat) (Option.none : Option Jvm.ClassFile.FieldType)) ∈ ag_all := ag_in 299 (by decide +kernel) (by decide +kernel)
theorem m_300 : (Jvm.Cond.methodLink "java/lang/Exception" (7 : Nat) ({ cls := "java/lang/Throwable", name := "<init>", desc := "(Ljava/lang/String;)V" } : Jvm.MethodName)) ∈ ag_all := ag_in 300 (by decide +kernel) (by decide +kernel)
theorem m_301 : (Jvm.Cond.instanceMethod ({ cls := "java/lang/Throwable", name := "<init>", desc := "(Ljava/lang/String;)V" } : Jvm.MethodName)) ∈ ag_all := ag_in 301 (by decide +kernel) (by decide +kernel)
theorem m_302 : (Jvm.Cond.code ({ cls := "java/lang/Throwable", name := "<init>", desc := "(Ljava/lang/String;)V" } : Jvm.MethodName) prog_15_method_2_code (2 : Nat) (Option.none : Option Jvm.ClassFile.FieldType)) ∈ ag_all := ag_in 302 (by decide +kernel) (by decide +kernel)
theorem m_303 : (Jvm.Cond.fieldLink "java/lang/Throwable" (198 : Nat) "java/lang/Throwable" "backtrace" "Ljava/lang/Object;") ∈ ag_all := ag_in 303 (by decide +kernel) (by decide +kernel)
theorem m_304 : (Jvm.Cond.fieldLink "java/lang/Throwable" (31 : Nat) "java/lang/Throwable" "detailMessage" "Ljava/lang/String;") ∈ ag_all := ag_in 304 (by decide +kernel) (by decide +kernel)
theorem m_305 : (Jvm.Cond.fieldLink "java/lang/Throwable" (7 : Nat) "java/lang/Throwable" "cause" "Ljava/lang/Throwable;") ∈ ag_all := ag_in 305 (by decide +kernel) (by decide +kernel)
theorem m_306 : (Jvm.Cond.fieldLink "java/lang/Throwable" (17 : Nat) "java/lang/Throwable" "stackTrace" "[Ljava/lang/StackTraceElement;") ∈ ag_all := ag_in 306 (by decide +kernel) (by decide +kernel)
theorem m_307 : (Jvm.Cond.fieldLink "java/lang/Throwable" (24 : Nat) "java/lang/Throwable" "suppressedExceptions" "Ljava/util/List;") ∈ ag_all := ag_in 307 (by decide +kernel) (by decide +kernel)
theorem m_308 : (Jvm.Cond.soleField "java/lang/Throwable" "backtrace") ∈ ag_all := ag_in 308 (by decide +kernel) (by decide +kernel)
theorem m_309 : (Jvm.Cond.soleField "java/lang/Throwable" "detailMessage") ∈ ag_all := ag_in 309 (by decide +kernel) (by decide +kernel)
theorem m_310 : (Jvm.Cond.soleField "java/lang/Throwable" "cause") ∈ ag_all := ag_in 310 (by decide +kernel) (by decide +kernel)
theorem m_311 : (Jvm.Cond.soleField "java/lang/Throwable" "stackTrace") ∈ ag_all := ag_in 311 (by decide +kernel) (by decide +kernel)
theorem m_312 : (Jvm.Cond.lays "java/lang/IndexOutOfBoundsException" "java/lang/Throwable" "depth" "I") ∈ ag_all := ag_in 312 (by decide +kernel) (by decide +kernel)
theorem m_313 : (Jvm.Cond.soleField "java/lang/Throwable" "depth") ∈ ag_all := ag_in 313 (by decide +kernel) (by decide +kernel)
theorem m_314 : (Jvm.Cond.soleField "java/lang/Throwable" "suppressedExceptions") ∈ ag_all := ag_in 314 (by decide +kernel) (by decide +kernel)
theorem m_315 : (Jvm.Cond.superclass "java/lang/IndexOutOfBoundsException" "java/lang/RuntimeException") ∈ ag_all := ag_in 315 (by decide +kernel) (by decide +kernel)
theorem m_316 : (Jvm.Cond.arrayClass Jvm.ClassFile.FieldType.byte) ∈ ag_all := ag_in 316 (by decide +kernel) (by decide +kernel)
theorem m_317 : (Jvm.Cond.methodLink "TwinRegister" (45 : Nat) ({ cls := "TwinRegister", name := "requireInRange", desc := "(III)V" } : Jvm.MethodName)) ∈ ag_all := ag_in 317 (by decide +kernel) (by decide +kernel)
theorem m_318 : (Jvm.Cond.static ({ cls := "TwinRegister", name := "requireInRange", desc := "(III)V" } : Jvm.MethodName)) ∈ ag_all := ag_in 318 (by decide +kernel) (by decide +kernel)
theorem m_319 : (Jvm.Cond.code ({ cls := "TwinRegister", name := "requireInRange", desc := "(III)V" } : Jvm.MethodName) prog_1_method_30_code (3 : Nat) (Option.none : Option Jvm.ClassFile.FieldType)) ∈ ag_all := ag_in 319 (by decide +kernel) (by decide +kernel)
theorem m_320 : (Jvm.Cond.classLink "TwinRegister" (206 : Nat) "java/lang/IllegalArgumentException") ∈ ag_all := ag_in 320 (by decide +kernel) (by decide +kernel)
theorem m_321 : (Jvm.Cond.instantiable "java/lang/IllegalArgumentException" (6 : Nat)) ∈ ag_all := ag_in 321 (by decide +kernel) (by decide +kernel)
theorem m_322 : (Jvm.Cond.castable "java/lang/IllegalArgumentException" "java/lang/IllegalArgumentException") ∈ ax_all := ax_in 322 (by decide +kernel) (by decide +kernel)
theorem m_323 : (Jvm.Cond.selects "java/lang/IllegalArgumentException" ({ cls := "java/lang/Throwable", name := "fillInStackTrace", desc := "(I)Ljava/lang/Throwable;" } : Jvm.MethodName) ({ cls := "java/lang/Throwable", name := "fillInStackTrace", desc := "(I)Ljava/lang/Throwable;" } : Jvm.MethodName)) ∈ ag_all := ag_in 323 (by decide +kernel) (by decide +kernel)
theorem m_324 : (Jvm.Cond.lays "java/lang/IllegalArgumentException" "java/lang/Throwable" "cause" "Ljava/lang/Throwable;") ∈ ag_all := ag_in 324 (by decide +kernel) (by decide +kernel)
theorem m_325 : (Jvm.Cond.lays "java/lang/IllegalArgumentException" "java/lang/Throwable" "stackTrace" "[Ljava/lang/StackTraceElement;") ∈ ag_all := ag_in 325 (by decide +kernel) (by decide +kernel)
theorem m_326 : (Jvm.Cond.lays "java/lang/IllegalArgumentException" "java/lang/Throwable" "suppressedExceptions" "Ljava/util/List;") ∈ ag_all := ag_in 326 (by decide +kernel) (by decide +kernel)
theorem m_327 : (Jvm.Cond.lays "java/lang/IllegalArgumentException" "java/lang/Throwable" "detailMessage" "Ljava/lang/String;") ∈ ag_all := ag_in 327 (by decide +kernel) (by decide +kernel)
theorem m_328 : (Jvm.Cond.lays "java/lang/IllegalArgumentException" "java/lang/Throwable" "backtrace" "Ljava/lang/Object;") ∈ ag_all := ag_in 328 (by decide +kernel) (by decide +kernel)
theorem m_330 : (Jvm.Cond.methodLink "TwinRegister" (210 : Nat) ({ cls := "java/lang/IllegalArgumentException", name := "<init>", desc := "(Ljava/lang/String;)V" } : Jvm.MethodName)) ∈ ag_all := ag_in 330 (by decide +kernel) (by decide +kernel)
theorem m_331 : (Jvm.Cond.instanceMethod ({ cls := "java/lang/IllegalArgumentException", name := "<init>", desc := "(Ljava/lang/String;)V" } : Jvm.MethodName)) ∈ ag_all := ag_in 331 (by decide +kernel) (by decide +kernel)
theorem m_332 : (Jvm.Cond.code ({ cls := "java/lang/IllegalArgumentException", name := "<init>", desc := "(Ljava/lang/String;)V" } : Jvm.MethodName) prog_9_method_2_code (2 : Nat) (Option.none : Option Jvm.ClassFile.FieldType)) ∈ ag_all := ag_in 332 (by decide +kernel) (by decide +kernel)
theorem m_333 : (Jvm.Cond.methodLink "java/lang/IllegalArgumentException" (7 : Nat) ({ cls := "java/lang/RuntimeException", name := "<init>", desc := "(Ljava/lang/String;)V" } : Jvm.MethodName)) ∈ ag_all := ag_in 333 (by decide +kernel) (by decide +kernel)
theorem m_334 : (Jvm.Cond.lays "java/lang/IllegalArgumentException" "java/lang/Throwable" "depth" "I") ∈ ag_all := ag_in 334 (by decide +kernel) (by decide +kernel)
theorem m_335 : (Jvm.Cond.superclass "java/lang/IllegalArgumentException" "java/lang/RuntimeException") ∈ ag_all := ag_in 335 (by decide +kernel) (by decide +kernel)
theorem m_336 : (Jvm.Cond.methodLinkNest "TwinRegister" (49 : Nat) ({ cls := "TwinRegister$Draft", name := "assign", desc := "(II)V" } : Jvm.MethodName) "TwinRegister") ∈ ax_all := ax_in 336 (by decide +kernel) (by decide +kernel)
theorem m_338 : (Jvm.Cond.instanceMethod ({ cls := "TwinRegister$Draft", name := "assign", desc := "(II)V" } : Jvm.MethodName)) ∈ ag_all := ag_in 338 (by decide +kernel) (by decide +kernel)
theorem m_339 : (Jvm.Cond.code ({ cls := "TwinRegister$Draft", name := "assign", desc := "(II)V" } : Jvm.MethodName) prog_3_method_2_code (3 : Nat) (Option.none : Option Jvm.ClassFile.FieldType)) ∈ ag_all := ag_in 339 (by decide +kernel) (by decide +kernel)
theorem m_340 : (Jvm.Cond.methodLinkNest "TwinRegister" (53 : Nat) ({ cls := "TwinRegister$Draft", name := "count", desc := "()I" } : Jvm.MethodName) "TwinRegister") ∈ ax_all := ax_in 340 (by decide +kernel) (by decide +kernel)
theorem m_342 : (Jvm.Cond.instanceMethod ({ cls := "TwinRegister$Draft", name := "count", desc := "()I" } : Jvm.MethodName)) ∈ ag_all := ag_in 342 (by decide +kernel) (by decide +kernel)
theorem m_343 : (Jvm.Cond.code ({ cls := "TwinRegister$Draft", name := "count", desc := "()I" } : Jvm.MethodName) prog_3_method_4_code (1 : Nat) (Option.some Jvm.ClassFile.FieldType.int)) ∈ ag_all := ag_in 343 (by decide +kernel) (by decide +kernel)
theorem m_344 : (Jvm.Cond.methodLink "TwinRegister$Draft" (19 : Nat) ({ cls := "java/lang/Integer", name := "bitCount", desc := "(I)I" } : Jvm.MethodName)) ∈ ag_all := ag_in 344 (by decide +kernel) (by decide +kernel)
theorem m_345 : (Jvm.Cond.methodLink "TwinRegisterLaw" (98 : Nat) ({ cls := "TwinRegisterLaw", name := "drop", desc := "(LTwinRegister;I[J)I" } : Jvm.MethodName)) ∈ ag_all := ag_in 345 (by decide +kernel) (by decide +kernel)
theorem m_346 : (Jvm.Cond.static ({ cls := "TwinRegisterLaw", name := "drop", desc := "(LTwinRegister;I[J)I" } : Jvm.MethodName)) ∈ ag_all := ag_in 346 (by decide +kernel) (by decide +kernel)
theorem m_347 : (Jvm.Cond.codeWith ({ cls := "TwinRegisterLaw", name := "drop", desc := "(LTwinRegister;I[J)I" } : Jvm.MethodName) method_4_code (4 : Nat) (Option.some Jvm.ClassFile.FieldType.int) [((0 : Nat), (9 : Nat), (12 : Nat), (13 : Nat))]) ∈ ag_all := ag_in 347 (by decide +kernel) (by decide +kernel)
theorem m_348 : (Jvm.Cond.methodLink "TwinRegisterLaw" (17 : Nat) ({ cls := "TwinRegister", name := "drop", desc := "(I)I" } : Jvm.MethodName)) ∈ ag_all := ag_in 348 (by decide +kernel) (by decide +kernel)
theorem m_349 : (Jvm.Cond.instanceMethod ({ cls := "TwinRegister", name := "drop", desc := "(I)I" } : Jvm.MethodName)) ∈ ag_all := ag_in 349 (by decide +kernel) (by decide +kernel)
theorem m_350 : (Jvm.Cond.selects "TwinRegister" ({ cls := "TwinRegister", name := "drop", desc := "(I)I" } : Jvm.MethodName) ({ cls := "TwinRegister", name := "drop", desc := "(I)I" } : Jvm.MethodName)) ∈ ag_all := ag_in 350 (by decide +kernel) (by decide +kernel)
theorem m_351 : (Jvm.Cond.code ({ cls := "TwinRegister", name := "drop", desc := "(I)I" } : Jvm.MethodName) prog_1_method_3_code (4 : Nat) (Option.some Jvm.ClassFile.FieldType.int)) ∈ ag_all := ag_in 351 (by decide +kernel) (by decide +kernel)
theorem m_353 : (Jvm.Cond.methodLink "TwinRegisterLaw" (102 : Nat) ({ cls := "TwinRegisterLaw", name := "wish", desc := "(LTwinRegister;II[J)I" } : Jvm.MethodName)) ∈ ag_all := ag_in 353 (by decide +kernel) (by decide +kernel)
theorem m_354 : (Jvm.Cond.static ({ cls := "TwinRegisterLaw", name := "wish", desc := "(LTwinRegister;II[J)I" } : Jvm.MethodName)) ∈ ag_all := ag_in 354 (by decide +kernel) (by decide +kernel)
theorem m_355 : (Jvm.Cond.codeWith ({ cls := "TwinRegisterLaw", name := "wish", desc := "(LTwinRegister;II[J)I" } : Jvm.MethodName) method_5_code (5 : Nat) (Option.some Jvm.ClassFile.FieldType.int) [((0 : Nat), (10 : Nat), (13 : Nat), (13 : Nat)), ((0 : Nat), (10 : Nat), (17 : Nat), (24 : Nat))]) ∈ ag_all := ag_in 355 (by decide +kernel) (by decide +kernel)
theorem m_356 : (Jvm.Cond.classLink "TwinRegisterLaw" (24 : Nat) "java/lang/IllegalStateException") ∈ ag_all := ag_in 356 (by decide +kernel) (by decide +kernel)
theorem m_357 : (Jvm.Cond.methodLink "TwinRegisterLaw" (21 : Nat) ({ cls := "TwinRegister", name := "wish", desc := "(II)I" } : Jvm.MethodName)) ∈ ag_all := ag_in 357 (by decide +kernel) (by decide +kernel)
theorem m_358 : (Jvm.Cond.instanceMethod ({ cls := "TwinRegister", name := "wish", desc := "(II)I" } : Jvm.MethodName)) ∈ ag_all := ag_in 358 (by decide +kernel) (by decide +kernel)
theorem m_359 : (Jvm.Cond.selects "TwinRegister" ({ cls := "TwinRegister", name := "wish", desc := "(II)I" } : Jvm.MethodName) ({ cls := "TwinRegister", name := "wish", desc := "(II)I" } : Jvm.MethodName)) ∈ ag_all := ag_in 359 (by decide +kernel) (by decide +kernel)
theorem m_360 : (Jvm.Cond.code ({ cls := "TwinRegister", name := "wish", desc := "(II)I" } : Jvm.MethodName) prog_1_method_4_code (4 : Nat) (Option.some Jvm.ClassFile.FieldType.int)) ∈ ag_all := ag_in 360 (by decide +kernel) (by decide +kernel)
theorem m_361 : (Jvm.Cond.methodLink "TwinRegister" (64 : Nat) ({ cls := "TwinRegister", name := "deviceAt", desc := "(I)LTwinRegister$Device;" } : Jvm.MethodName)) ∈ ag_all := ag_in 361 (by decide +kernel) (by decide +kernel)
theorem m_363 : (Jvm.Cond.instanceMethod ({ cls := "TwinRegister", name := "deviceAt", desc := "(I)LTwinRegister$Device;" } : Jvm.MethodName)) ∈ ag_all := ag_in 363 (by decide +kernel) (by decide +kernel)
theorem m_364 : (Jvm.Cond.code ({ cls := "TwinRegister", name := "deviceAt", desc := "(I)LTwinRegister$Device;" } : Jvm.MethodName) prog_1_method_25_code (2 : Nat) (Option.some (Jvm.ClassFile.FieldType.object "TwinRegister$Device"))) ∈ ag_all := ag_in 364 (by decide +kernel) (by decide +kernel)
theorem m_366 : (Jvm.Cond.classLink "TwinRegister" (68 : Nat) "java/lang/IllegalStateException") ∈ ag_all := ag_in 366 (by decide +kernel) (by decide +kernel)
theorem m_367 : (Jvm.Cond.instantiable "java/lang/IllegalStateException" (6 : Nat)) ∈ ag_all := ag_in 367 (by decide +kernel) (by decide +kernel)
theorem m_368 : (Jvm.Cond.castable "java/lang/IllegalStateException" "java/lang/IllegalStateException") ∈ ax_all := ax_in 368 (by decide +kernel) (by decide +kernel)
theorem m_369 : (Jvm.Cond.selects "java/lang/IllegalStateException" ({ cls := "java/lang/Throwable", name := "fillInStackTrace", desc := "(I)Ljava/lang/Throwable;" } : Jvm.MethodName) ({ cls := "java/lang/Throwable", name := "fillInStackTrace", desc := "(I)Ljava/lang/Throwable;" } : Jvm.MethodName)) ∈ ag_all := ag_in 369 (by decide +kernel) (by decide +kernel)
theorem m_370 : (Jvm.Cond.lays "java/lang/IllegalStateException" "java/lang/Throwable" "cause" "Ljava/lang/Throwable;") ∈ ag_all := ag_in 370 (by decide +kernel) (by decide +kernel)
theorem m_371 : (Jvm.Cond.lays "java/lang/IllegalStateException" "java/lang/Throwable" "stackTrace" "[Ljava/lang/StackTraceElement;") ∈ ag_all := ag_in 371 (by decide +kernel) (by decide +kernel)
theorem m_372 : (Jvm.Cond.lays "java/lang/IllegalStateException" "java/lang/Throwable" "suppressedExceptions" "Ljava/util/List;") ∈ ag_all := ag_in 372 (by decide +kernel) (by decide +kernel)
theorem m_373 : (Jvm.Cond.lays "java/lang/IllegalStateException" "java/lang/Throwable" "detailMessage" "Ljava/lang/String;") ∈ ag_all := ag_in 373 (by decide +kernel) (by decide +kernel)
theorem m_374 : (Jvm.Cond.lays "java/lang/IllegalStateException" "java/lang/Throwable" "backtrace" "Ljava/lang/Object;") ∈ ag_all := ag_in 374 (by decide +kernel) (by decide +kernel)
theorem m_376 : (Jvm.Cond.methodLink "TwinRegister" (72 : Nat) ({ cls := "java/lang/IllegalStateException", name := "<init>", desc := "(Ljava/lang/String;)V" } : Jvm.MethodName)) ∈ ag_all := ag_in 376 (by decide +kernel) (by decide +kernel)
theorem m_377 : (Jvm.Cond.instanceMethod ({ cls := "java/lang/IllegalStateException", name := "<init>", desc := "(Ljava/lang/String;)V" } : Jvm.MethodName)) ∈ ag_all := ag_in 377 (by decide +kernel) (by decide +kernel)
theorem m_378 : (Jvm.Cond.code ({ cls := "java/lang/IllegalStateException", name := "<init>", desc := "(Ljava/lang/String;)V" } : Jvm.MethodName) prog_10_method_2_code (2 : Nat) (Option.none : Option Jvm.ClassFile.FieldType)) ∈ ag_all := ag_in 378 (by decide +kernel) (by decide +kernel)
theorem m_379 : (Jvm.Cond.methodLink "java/lang/IllegalStateException" (7 : Nat) ({ cls := "java/lang/RuntimeException", name := "<init>", desc := "(Ljava/lang/String;)V" } : Jvm.MethodName)) ∈ ag_all := ag_in 379 (by decide +kernel) (by decide +kernel)
theorem m_380 : (Jvm.Cond.lays "java/lang/IllegalStateException" "java/lang/Throwable" "depth" "I") ∈ ag_all := ag_in 380 (by decide +kernel) (by decide +kernel)
theorem m_381 : (Jvm.Cond.superclass "java/lang/IllegalStateException" "java/lang/RuntimeException") ∈ ag_all := ag_in 381 (by decide +kernel) (by decide +kernel)
theorem m_383 : (Jvm.Cond.methodLink "TwinRegister" (78 : Nat) ({ cls := "TwinRegister", name := "mergeWish", desc := "(LTwinRegister$Device;)V" } : Jvm.MethodName)) ∈ ag_all := ag_in 383 (by decide +kernel) (by decide +kernel)
theorem m_385 : (Jvm.Cond.instanceMethod ({ cls := "TwinRegister", name := "mergeWish", desc := "(LTwinRegister$Device;)V" } : Jvm.MethodName)) ∈ ag_all := ag_in 385 (by decide +kernel) (by decide +kernel)
theorem m_386 : (Jvm.Cond.code ({ cls := "TwinRegister", name := "mergeWish", desc := "(LTwinRegister$Device;)V" } : Jvm.MethodName) prog_1_method_32_code (3 : Nat) (Option.none : Option Jvm.ClassFile.FieldType)) ∈ ag_all := ag_in 386 (by decide +kernel) (by decide +kernel)
theorem m_387 : (Jvm.Cond.methodLinkNest "TwinRegister" (213 : Nat) ({ cls := "TwinRegister$Draft", name := "has", desc := "(I)Z" } : Jvm.MethodName) "TwinRegister") ∈ ax_all := ax_in 387 (by decide +kernel) (by decide +kernel)
theorem m_389 : (Jvm.Cond.instanceMethod ({ cls := "TwinRegister$Draft", name := "has", desc := "(I)Z" } : Jvm.MethodName)) ∈ ag_all := ag_in 389 (by decide +kernel) (by decide +kernel)
theorem m_390 : (Jvm.Cond.code ({ cls := "TwinRegister$Draft", name := "has", desc := "(I)Z" } : Jvm.MethodName) prog_3_method_3_code (2 : Nat) (Option.some Jvm.ClassFile.FieldType.boolean)) ∈ ag_all := ag_in 390 (by decide +kernel) (by decide +kernel)
theorem m_391 : (Jvm.Cond.methodLinkNest "TwinRegister" (82 : Nat) ({ cls := "TwinRegister$Draft", name := "empty", desc := "()V" } : Jvm.MethodName) "TwinRegister") ∈ ax_all := ax_in 391 (by decide +kernel) (by decide +kernel)
theorem m_393 : (Jvm.Cond.instanceMethod ({ cls := "TwinRegister$Draft", name := "empty", desc := "()V" } : Jvm.MethodName)) ∈ ag_all := ag_in 393 (by decide +kernel) (by decide +kernel)
theorem m_394 : (Jvm.Cond.code ({ cls := "TwinRegister$Draft", name := "empty", desc := "()V" } : Jvm.MethodName) prog_3_method_5_code (1 : Nat) (Option.none : Option Jvm.ClassFile.FieldType)) ∈ ag_all := ag_in 394 (by decide +kernel) (by decide +kernel)
theorem m_395 : (Jvm.Cond.methodLink "TwinRegisterLaw" (105 : Nat) ({ cls := "TwinRegisterLaw", name := "report", desc := "(LTwinRegister;II[J)I" } : Jvm.MethodName)) ∈ ag_all := ag_in 395 (by decide +kernel) (by decide +kernel)
theorem m_396 : (Jvm.Cond.static ({ cls := "TwinRegisterLaw", name := "report", desc := "(LTwinRegister;II[J)I" } : Jvm.MethodName)) ∈ ag_all := ag_in 396 (by decide +kernel) (by decide +kernel)
theorem m_397 : (Jvm.Cond.codeWith ({ cls := "TwinRegisterLaw", name := "report", desc := "(LTwinRegister;II[J)I" } : Jvm.MethodName) method_6_code (5 : Nat) (Option.some Jvm.ClassFile.FieldType.int) [((0 : Nat), (10 : Nat), (13 : Nat), (13 : Nat)), ((0 : Nat), (10 : Nat), (17 : Nat), (15 : Nat)), ((0 : Nat), (10 : Nat), (21 : Nat), (24 : Nat))]) ∈ ag_all := ag_in 397 (by decide +kernel) (by decide +kernel)
theorem m_398 : (Jvm.Cond.methodLink "TwinRegisterLaw" (26 : Nat) ({ cls := "TwinRegister", name := "report", desc := "(II)I" } : Jvm.MethodName)) ∈ ag_all := ag_in 398 (by decide +kernel) (by decide +kernel)
theorem m_399 : (Jvm.Cond.instanceMethod ({ cls := "TwinRegister", name := "report", desc := "(II)I" } : Jvm.MethodName)) ∈ ag_all := ag_in 399 (by decide +kernel) (by decide +kernel)
theorem m_400 : (Jvm.Cond.selects "TwinRegister" ({ cls := "TwinRegister", name := "report", desc := "(II)I" } : Jvm.MethodName) ({ cls := "TwinRegister", name := "report", desc := "(II)I" } : Jvm.MethodName)) ∈ ag_all := ag_in 400 (by decide +kernel) (by decide +kernel)
theorem m_401 : (Jvm.Cond.code ({ cls := "TwinRegister", name := "report", desc := "(II)I" } : Jvm.MethodName) prog_1_method_5_code (5 : Nat) (Option.some Jvm.ClassFile.FieldType.int)) ∈ ag_all := ag_in 401 (by decide +kernel) (by decide +kernel)
theorem m_402 : (Jvm.Cond.methodLink "TwinRegister" (88 : Nat) ({ cls := "TwinRegister", name := "requireAwake", desc := "(LTwinRegister$Device;)V" } : Jvm.MethodName)) ∈ ag_all := ag_in 402 (by decide +kernel) (by decide +kernel)
theorem m_403 : (Jvm.Cond.static ({ cls := "TwinRegister", name := "requireAwake", desc := "(LTwinRegister$Device;)V" } : Jvm.MethodName)) ∈ ag_all := ag_in 403 (by decide +kernel) (by decide +kernel)
theorem m_404 : (Jvm.Cond.code ({ cls := "TwinRegister", name := "requireAwake", desc := "(LTwinRegister$Device;)V" } : Jvm.MethodName) prog_1_method_31_code (1 : Nat) (Option.none : Option Jvm.ClassFile.FieldType)) ∈ ag_all := ag_in 404 (by decide +kernel) (by decide +kernel)
theorem m_406 : (Jvm.Cond.methodLink "TwinRegister" (91 : Nat) ({ cls := "TwinRegister", name := "mergeReport", desc := "(LTwinRegister$Device;)V" } : Jvm.MethodName)) ∈ ag_all := ag_in 406 (by decide +kernel) (by decide +kernel)
theorem m_408 : (Jvm.Cond.instanceMethod ({ cls := "TwinRegister", name := "mergeReport", desc := "(LTwinRegister$Device;)V" } : Jvm.MethodName)) ∈ ag_all := ag_in 408 (by decide +kernel) (by decide +kernel)
theorem m_409 : (Jvm.Cond.code ({ cls := "TwinRegister", name := "mergeReport", desc := "(LTwinRegister$Device;)V" } : Jvm.MethodName) prog_1_method_33_code (3 : Nat) (Option.none : Option Jvm.ClassFile.FieldType)) ∈ ag_all := ag_in 409 (by decide +kernel) (by decide +kernel)
theorem m_410 : (Jvm.Cond.methodLinkNest "TwinRegister" (111 : Nat) ({ cls := "TwinRegister$Device", name := "takeReport", desc := "(II)V" } : Jvm.MethodName) "TwinRegister") ∈ ax_all := ax_in 410 (by decide +kernel) (by decide +kernel)
theorem m_412 : (Jvm.Cond.instanceMethod ({ cls := "TwinRegister$Device", name := "takeReport", desc := "(II)V" } : Jvm.MethodName)) ∈ ag_all := ag_in 412 (by decide +kernel) (by decide +kernel)
theorem m_413 : (Jvm.Cond.code ({ cls := "TwinRegister$Device", name := "takeReport", desc := "(II)V" } : Jvm.MethodName) prog_2_method_3_code (3 : Nat) (Option.none : Option Jvm.ClassFile.FieldType)) ∈ ag_all := ag_in 413 (by decide +kernel) (by decide +kernel)
theorem m_414 : (Jvm.Cond.methodLink "TwinRegisterLaw" (108 : Nat) ({ cls := "TwinRegisterLaw", name := "obey", desc := "(LTwinRegister;I[J)I" } : Jvm.MethodName)) ∈ ag_all := ag_in 414 (by decide +kernel) (by decide +kernel)
theorem m_415 : (Jvm.Cond.static ({ cls := "TwinRegisterLaw", name := "obey", desc := "(LTwinRegister;I[J)I" } : Jvm.MethodName)) ∈ ag_all := ag_in 415 (by decide +kernel) (by decide +kernel)
theorem m_416 : (Jvm.Cond.codeWith ({ cls := "TwinRegisterLaw", name := "obey", desc := "(LTwinRegister;I[J)I" } : Jvm.MethodName) method_7_code (4 : Nat) (Option.some Jvm.ClassFile.FieldType.int) [((0 : Nat), (9 : Nat), (12 : Nat), (13 : Nat)), ((0 : Nat), (9 : Nat), (15 : Nat), (24 : Nat))]) ∈ ag_all := ag_in 416 (by decide +kernel) (by decide +kernel)
theorem m_417 : (Jvm.Cond.methodLink "TwinRegisterLaw" (29 : Nat) ({ cls := "TwinRegister", name := "obey", desc := "(I)I" } : Jvm.MethodName)) ∈ ag_all := ag_in 417 (by decide +kernel) (by decide +kernel)
theorem m_418 : (Jvm.Cond.instanceMethod ({ cls := "TwinRegister", name := "obey", desc := "(I)I" } : Jvm.MethodName)) ∈ ag_all := ag_in 418 (by decide +kernel) (by decide +kernel)
theorem m_419 : (Jvm.Cond.selects "TwinRegister" ({ cls := "TwinRegister", name := "obey", desc := "(I)I" } : Jvm.MethodName) ({ cls := "TwinRegister", name := "obey", desc := "(I)I" } : Jvm.MethodName)) ∈ ag_all := ag_in 419 (by decide +kernel) (by decide +kernel)
theorem m_420 : (Jvm.Cond.code ({ cls := "TwinRegister", name := "obey", desc := "(I)I" } : Jvm.MethodName) prog_1_method_6_code (5 : Nat) (Option.some Jvm.ClassFile.FieldType.int)) ∈ ag_all := ag_in 420 (by decide +kernel) (by decide +kernel)
theorem m_421 : (Jvm.Cond.methodLinkNest "TwinRegister" (103 : Nat) ({ cls := "TwinRegister$Device", name := "differsAt", desc := "(I)Z" } : Jvm.MethodName) "TwinRegister") ∈ ax_all := ax_in 421 (by decide +kernel) (by decide +kernel)
theorem m_423 : (Jvm.Cond.instanceMethod ({ cls := "TwinRegister$Device", name := "differsAt", desc := "(I)Z" } : Jvm.MethodName)) ∈ ag_all := ag_in 423 (by decide +kernel) (by decide +kernel)
theorem m_424 : (Jvm.Cond.code ({ cls := "TwinRegister$Device", name := "differsAt", desc := "(I)Z" } : Jvm.MethodName) prog_2_method_6_code (2 : Nat) (Option.some Jvm.ClassFile.FieldType.boolean)) ∈ ag_all := ag_in 424 (by decide +kernel) (by decide +kernel)
theorem m_425 : (Jvm.Cond.methodLink "TwinRegisterLaw" (111 : Nat) ({ cls := "TwinRegisterLaw", name := "refuse", desc := "(LTwinRegister;III[J)I" } : Jvm.MethodName)) ∈ ag_all := ag_in 425 (by decide +kernel) (by decide +kernel)
theorem m_426 : (Jvm.Cond.static ({ cls := "TwinRegisterLaw", name := "refuse", desc := "(LTwinRegister;III[J)I" } : Jvm.MethodName)) ∈ ag_all := ag_in 426 (by decide +kernel) (by decide +kernel)
theorem m_427 : (Jvm.Cond.codeWith ({ cls := "TwinRegisterLaw", name := "refuse", desc := "(LTwinRegister;III[J)I" } : Jvm.MethodName) method_8_code (6 : Nat) (Option.some Jvm.ClassFile.FieldType.int) [((0 : Nat), (12 : Nat), (15 : Nat), (13 : Nat)), ((0 : Nat), (12 : Nat), (19 : Nat), (15 : Nat)), ((0 : Nat), (12 : Nat), (23 : Nat), (24 : Nat))]) ∈ ag_all := ag_in 427 (by decide +kernel) (by decide +kernel)
theorem m_428 : (Jvm.Cond.methodLink "TwinRegisterLaw" (32 : Nat) ({ cls := "TwinRegister", name := "refuse", desc := "(III)I" } : Jvm.MethodName)) ∈ ag_all := ag_in 428 (by decide +kernel) (by decide +kernel)
theorem m_429 : (Jvm.Cond.instanceMethod ({ cls := "TwinRegister", name := "refuse", desc := "(III)I" } : Jvm.MethodName)) ∈ ag_all := ag_in 429 (by decide +kernel) (by decide +kernel)
theorem m_430 : (Jvm.Cond.selects "TwinRegister" ({ cls := "TwinRegister", name := "refuse", desc := "(III)I" } : Jvm.MethodName) ({ cls := "TwinRegister", name := "refuse", desc := "(III)I" } : Jvm.MethodName)) ∈ ag_all := ag_in 430 (by decide +kernel) (by decide +kernel)
theorem m_431 : (Jvm.Cond.code ({ cls := "TwinRegister", name := "refuse", desc := "(III)I" } : Jvm.MethodName) prog_1_method_7_code (5 : Nat) (Option.some Jvm.ClassFile.FieldType.int)) ∈ ag_all := ag_in 431 (by decide +kernel) (by decide +kernel)
theorem m_433 : (Jvm.Cond.methodLinkNest "TwinRegister" (116 : Nat) ({ cls := "TwinRegister$Device", name := "takeRefusal", desc := "(II)V" } : Jvm.MethodName) "TwinRegister") ∈ ax_all := ax_in 433 (by decide +kernel) (by decide +kernel)
theorem m_435 : (Jvm.Cond.instanceMethod ({ cls := "TwinRegister$Device", name := "takeRefusal", desc := "(II)V" } : Jvm.MethodName)) ∈ ag_all := ag_in 435 (by decide +kernel) (by decide +kernel)
theorem m_436 : (Jvm.Cond.code ({ cls := "TwinRegister$Device", name := "takeRefusal", desc := "(II)V" } : Jvm.MethodName) prog_2_method_4_code (3 : Nat) (Option.none : Option Jvm.ClassFile.FieldType)) ∈ ag_all := ag_in 436 (by decide +kernel) (by decide +kernel)
theorem m_437 : (Jvm.Cond.methodLink "TwinRegisterLaw" (115 : Nat) ({ cls := "TwinRegisterLaw", name := "sleep", desc := "(LTwinRegister;I[J)I" } : Jvm.MethodName)) ∈ ag_all := ag_in 437 (by decide +kernel) (by decide +kernel)
theorem m_438 : (Jvm.Cond.static ({ cls := "TwinRegisterLaw", name := "sleep", desc := "(LTwinRegister;I[J)I" } : Jvm.MethodName)) ∈ ag_all := ag_in 438 (by decide +kernel) (by decide +kernel)
theorem m_439 : (Jvm.Cond.codeWith ({ cls := "TwinRegisterLaw", name := "sleep", desc := "(LTwinRegister;I[J)I" } : Jvm.MethodName) method_9_code (4 : Nat) (Option.some Jvm.ClassFile.FieldType.int) [((0 : Nat), (16 : Nat), (19 : Nat), (13 : Nat))]) ∈ ag_all := ag_in 439 (by decide +kernel) (by decide +kernel)
theorem m_440 : (Jvm.Cond.methodLink "TwinRegisterLaw" (36 : Nat) ({ cls := "TwinRegister", name := "sleep", desc := "(I)Z" } : Jvm.MethodName)) ∈ ag_all := ag_in 440 (by decide +kernel) (by decide +kernel)
theorem m_441 : (Jvm.Cond.instanceMethod ({ cls := "TwinRegister", name := "sleep", desc := "(I)Z" } : Jvm.MethodName)) ∈ ag_all := ag_in 441 (by decide +kernel) (by decide +kernel)
theorem m_442 : (Jvm.Cond.selects "TwinRegister" ({ cls := "TwinRegister", name := "sleep", desc := "(I)Z" } : Jvm.MethodName) ({ cls := "TwinRegister", name := "sleep", desc := "(I)Z" } : Jvm.MethodName)) ∈ ag_all := ag_in 442 (by decide +kernel) (by decide +kernel)
theorem m_443 : (Jvm.Cond.code ({ cls := "TwinRegister", name := "sleep", desc := "(I)Z" } : Jvm.MethodName) prog_1_method_8_code (4 : Nat) (Option.some Jvm.ClassFile.FieldType.boolean)) ∈ ag_all := ag_in 443 (by decide +kernel) (by decide +kernel)
theorem m_444 : (Jvm.Cond.methodLink "TwinRegisterLaw" (118 : Nat) ({ cls := "TwinRegisterLaw", name := "wake", desc := "(LTwinRegister;I[J)I" } : Jvm.MethodName)) ∈ ag_all := ag_in 444 (by decide +kernel) (by decide +kernel)
theorem m_445 : (Jvm.Cond.static ({ cls := "TwinRegisterLaw", name := "wake", desc := "(LTwinRegister;I[J)I" } : Jvm.MethodName)) ∈ ag_all := ag_in 445 (by decide +kernel) (by decide +kernel)
theorem m_446 : (Jvm.Cond.codeWith ({ cls := "TwinRegisterLaw", name := "wake", desc := "(LTwinRegister;I[J)I" } : Jvm.MethodName) method_10_code (4 : Nat) (Option.some Jvm.ClassFile.FieldType.int) [((0 : Nat), (9 : Nat), (12 : Nat), (13 : Nat))]) ∈ ag_all := ag_in 446 (by decide +kernel) (by decide +kernel)
theorem m_447 : (Jvm.Cond.methodLink "TwinRegisterLaw" (40 : Nat) ({ cls := "TwinRegister", name := "wake", desc := "(I)I" } : Jvm.MethodName)) ∈ ag_all := ag_in 447 (by decide +kernel) (by decide +kernel)
theorem m_448 : (Jvm.Cond.instanceMethod ({ cls := "TwinRegister", name := "wake", desc := "(I)I" } : Jvm.MethodName)) ∈ ag_all := ag_in 448 (by decide +kernel) (by decide +kernel)
theorem m_449 : (Jvm.Cond.selects "TwinRegister" ({ cls := "TwinRegister", name := "wake", desc := "(I)I" } : Jvm.MethodName) ({ cls := "TwinRegister", name := "wake", desc := "(I)I" } : Jvm.MethodName)) ∈ ag_all := ag_in 449 (by decide +kernel) (by decide +kernel)
theorem m_450 : (Jvm.Cond.code ({ cls := "TwinRegister", name := "wake", desc := "(I)I" } : Jvm.MethodName) prog_1_method_9_code (4 : Nat) (Option.some Jvm.ClassFile.FieldType.int)) ∈ ag_all := ag_in 450 (by decide +kernel) (by decide +kernel)
theorem m_451 : (Jvm.Cond.methodLinkNest "TwinRegister" (126 : Nat) ({ cls := "TwinRegister$Device", name := "heardVersion", desc := "()I" } : Jvm.MethodName) "TwinRegister") ∈ ax_all := ax_in 451 (by decide +kernel) (by decide +kernel)
theorem m_453 : (Jvm.Cond.instanceMethod ({ cls := "TwinRegister$Device", name := "heardVersion", desc := "()I" } : Jvm.MethodName)) ∈ ag_all := ag_in 453 (by decide +kernel) (by decide +kernel)
theorem m_454 : (Jvm.Cond.code ({ cls := "TwinRegister$Device", name := "heardVersion", desc := "()I" } : Jvm.MethodName) prog_2_method_8_code (1 : Nat) (Option.some Jvm.ClassFile.FieldType.int)) ∈ ag_all := ag_in 454 (by decide +kernel) (by decide +kernel)
theorem m_455 : (Jvm.Cond.methodLink "TwinRegisterLaw" (121 : Nat) ({ cls := "TwinRegisterLaw", name := "setGroup", desc := "(LTwinRegister;IIII[J)I" } : Jvm.MethodName)) ∈ ag_all := ag_in 455 (by decide +kernel) (by decide +kernel)
theorem m_456 : (Jvm.Cond.static ({ cls := "TwinRegisterLaw", name := "setGroup", desc := "(LTwinRegister;IIII[J)I" } : Jvm.MethodName)) ∈ ag_all := ag_in 456 (by decide +kernel) (by decide +kernel)
theorem m_457 : (Jvm.Cond.codeWith ({ cls := "TwinRegisterLaw", name := "setGroup", desc := "(LTwinRegister;IIII[J)I" } : Jvm.MethodName) method_11_code (7 : Nat) (Option.some Jvm.ClassFile.FieldType.int) [((0 : Nat), (14 : Nat), (17 : Nat), (13 : Nat)), ((0 : Nat), (14 : Nat), (21 : Nat), (15 : Nat))]) ∈ ag_all := ag_in 457 (by decide +kernel) (by decide +kernel)
theorem m_458 : (Jvm.Cond.methodLink "TwinRegisterLaw" (43 : Nat) ({ cls := "TwinRegister", name := "setGroup", desc := "(IIII)I" } : Jvm.MethodName)) ∈ ag_all := ag_in 458 (by decide +kernel) (by decide +kernel)
theorem m_459 : (Jvm.Cond.instanceMethod ({ cls := "TwinRegister", name := "setGroup", desc := "(IIII)I" } : Jvm.MethodName)) ∈ ag_all := ag_in 459 (by decide +kernel) (by decide +kernel)
theorem m_460 : (Jvm.Cond.selects "TwinRegister" ({ cls := "TwinRegister", name := "setGroup", desc := "(IIII)I" } : Jvm.MethodName) ({ cls := "TwinRegister", name := "setGroup", desc := "(IIII)I" } : Jvm.MethodName)) ∈ ag_all := ag_in 460 (by decide +kernel) (by decide +kernel)
theorem m_461 : (Jvm.Cond.code ({ cls := "TwinRegister", name := "setGroup", desc := "(IIII)I" } : Jvm.MethodName) prog_1_method_10_code (6 : Nat) (Option.some Jvm.ClassFile.FieldType.int)) ∈ ag_all := ag_in 461 (by decide +kernel) (by decide +kernel)
theorem m_462 : (Jvm.Cond.methodLink "TwinRegister" (129 : Nat) ({ cls := "TwinRegister", name := "groupAt", desc := "(I)LTwinRegister$Group;" } : Jvm.MethodName)) ∈ ag_all := ag_in 462 (by decide +kernel) (by decide +kernel)
theorem m_464 : (Jvm.Cond.instanceMethod ({ cls := "TwinRegister", name := "groupAt", desc := "(I)LTwinRegister$Group;" } : Jvm.MethodName)) ∈ ag_all := ag_in 464 (by decide +kernel) (by decide +kernel)
theorem m_465 : (Jvm.Cond.code ({ cls := "TwinRegister", name := "groupAt", desc := "(I)LTwinRegister$Group;" } : Jvm.MethodName) prog_1_method_26_code (2 : Nat) (Option.some (Jvm.ClassFile.FieldType.object "TwinRegister$Group"))) ∈ ag_all := ag_in 465 (by decide +kernel) (by decide +kernel)
theorem m_466 : (Jvm.Cond.methodLink "TwinRegister" (146 : Nat) ({ cls := "TwinRegister", name := "requireGroup", desc := "(I)V" } : Jvm.MethodName)) ∈ ag_all := ag_in 466 (by decide +kernel) (by decide +kernel)
theorem m_467 : (Jvm.Cond.static ({ cls := "TwinRegister", name := "requireGroup", desc := "(I)V" } : Jvm.MethodName)) ∈ ag_all := ag_in 467 (by decide +kernel) (by decide +kernel)
theorem m_468 : (Jvm.Cond.code ({ cls := "TwinRegister", name := "requireGroup", desc := "(I)V" } : Jvm.MethodName) prog_1_method_27_code (1 : Nat) (Option.none : Option Jvm.ClassFile.FieldType)) ∈ ag_all := ag_in 468 (by decide +kernel) (by decide +kernel)
theorem m_470 : (Jvm.Cond.methodLink "TwinRegisterLaw" (125 : Nat) ({ cls := "TwinRegisterLaw", name := "addJob", desc := "(LTwinRegister;IIIII[J)I" } : Jvm.MethodName)) ∈ ag_all := ag_in 470 (by decide +kernel) (by decide +kernel)
theorem m_471 : (Jvm.Cond.static ({ cls := "TwinRegisterLaw", name := "addJob", desc := "(LTwinRegister;IIIII[J)I" } : Jvm.MethodName)) ∈ ag_all := ag_in 471 (by decide +kernel) (by decide +kernel)
theorem m_472 : (Jvm.Cond.codeWith ({ cls := "TwinRegisterLaw", name := "addJob", desc := "(LTwinRegister;IIIII[J)I" } : Jvm.MethodName) method_12_code (8 : Nat) (Option.some Jvm.ClassFile.FieldType.int) [((0 : Nat), (16 : Nat), (19 : Nat), (13 : Nat)), ((0 : Nat), (16 : Nat), (23 : Nat), (15 : Nat)), ((0 : Nat), (16 : Nat), (27 : Nat), (24 : Nat))]) ∈ ag_all := ag_in 472 (by decide +kernel) (by decide +kernel)
theorem m_473 : (Jvm.Cond.methodLink "TwinRegisterLaw" (47 : Nat) ({ cls := "TwinRegister", name := "addJob", desc := "(IIIII)I" } : Jvm.MethodName)) ∈ ag_all := ag_in 473 (by decide +kernel) (by decide +kernel)
theorem m_474 : (Jvm.Cond.instanceMethod ({ cls := "TwinRegister", name := "addJob", desc := "(IIIII)I" } : Jvm.MethodName)) ∈ ag_all := ag_in 474 (by decide +kernel) (by decide +kernel)
theorem m_475 : (Jvm.Cond.selects "TwinRegister" ({ cls := "TwinRegister", name := "addJob", desc := "(IIIII)I" } : Jvm.MethodName) ({ cls := "TwinRegister", name := "addJob", desc := "(IIIII)I" } : Jvm.MethodName)) ∈ ag_all := ag_in 475 (by decide +kernel) (by decide +kernel)
theorem m_476 : (Jvm.Cond.code ({ cls := "TwinRegister", name := "addJob", desc := "(IIIII)I" } : Jvm.MethodName) prog_1_method_11_code (7 : Nat) (Option.some Jvm.ClassFile.FieldType.int)) ∈ ag_all := ag_in 476 (by decide +kernel) (by decide +kernel)
theorem m_478 : (Jvm.Cond.methodLink "TwinRegisterLaw" (133 : Nat) ({ cls := "TwinRegisterLaw", name := "cancel", desc := "(LTwinRegister;I[J)I" } : Jvm.MethodName)) ∈ ag_all := ag_in 478 (by decide +kernel) (by decide +kernel)
theorem m_479 : (Jvm.Cond.static ({ cls := "TwinRegisterLaw", name := "cancel", desc := "(LTwinRegister;I[J)I" } : Jvm.MethodName)) ∈ ag_all := ag_in 479 (by decide +kernel) (by decide +kernel)
theorem m_480 : (Jvm.Cond.codeWith ({ cls := "TwinRegisterLaw", name := "cancel", desc := "(LTwinRegister;I[J)I" } : Jvm.MethodName) method_13_code (4 : Nat) (Option.some Jvm.ClassFile.FieldType.int) [((0 : Nat), (9 : Nat), (12 : Nat), (13 : Nat)), ((0 : Nat), (9 : Nat), (15 : Nat), (24 : Nat))]) ∈ ag_all := ag_in 480 (by decide +kernel) (by decide +kernel)
theorem m_481 : (Jvm.Cond.methodLink "TwinRegisterLaw" (51 : Nat) ({ cls := "TwinRegister", name := "cancel", desc := "(I)I" } : Jvm.MethodName)) ∈ ag_all := ag_in 481 (by decide +kernel) (by decide +kernel)
theorem m_482 : (Jvm.Cond.instanceMethod ({ cls := "TwinRegister", name := "cancel", desc := "(I)I" } : Jvm.MethodName)) ∈ ag_all := ag_in 482 (by decide +kernel) (by decide +kernel)
theorem m_483 : (Jvm.Cond.selects "TwinRegister" ({ cls := "TwinRegister", name := "cancel", desc := "(I)I" } : Jvm.MethodName) ({ cls := "TwinRegister", name := "cancel", desc := "(I)I" } : Jvm.MethodName)) ∈ ag_all := ag_in 483 (by decide +kernel) (by decide +kernel)
theorem m_484 : (Jvm.Cond.code ({ cls := "TwinRegister", name := "cancel", desc := "(I)I" } : Jvm.MethodName) prog_1_method_13_code (3 : Nat) (Option.some Jvm.ClassFile.FieldType.int)) ∈ ag_all := ag_in 484 (by decide +kernel) (by decide +kernel)
theorem m_485 : (Jvm.Cond.methodLink "TwinRegister" (171 : Nat) ({ cls := "TwinRegister", name := "jobAt", desc := "(I)LTwinRegister$Job;" } : Jvm.MethodName)) ∈ ag_all := ag_in 485 (by decide +kernel) (by decide +kernel)
theorem m_487 : (Jvm.Cond.instanceMethod ({ cls := "TwinRegister", name := "jobAt", desc := "(I)LTwinRegister$Job;" } : Jvm.MethodName)) ∈ ag_all := ag_in 487 (by decide +kernel) (by decide +kernel)
theorem m_488 : (Jvm.Cond.code ({ cls := "TwinRegister", name := "jobAt", desc := "(I)LTwinRegister$Job;" } : Jvm.MethodName) prog_1_method_28_code (2 : Nat) (Option.some (Jvm.ClassFile.FieldType.object "TwinRegister$Job"))) ∈ ag_all := ag_in 488 (by decide +kernel) (by decide +kernel)
theorem m_491 : (Jvm.Cond.methodLink "TwinRegisterLaw" (136 : Nat) ({ cls := "TwinRegisterLaw", name := "version", desc := "(LTwinRegister;I[J)I" } : Jvm.MethodName)) ∈ ag_all := ag_in 491 (by decide +kernel) (by decide +kernel)
theorem m_492 : (Jvm.Cond.static ({ cls := "TwinRegisterLaw", name := "version", desc := "(LTwinRegister;I[J)I" } : Jvm.MethodName)) ∈ ag_all := ag_in 492 (by decide +kernel) (by decide +kernel)
theorem m_493 : (Jvm.Cond.codeWith ({ cls := "TwinRegisterLaw", name := "version", desc := "(LTwinRegister;I[J)I" } : Jvm.MethodName) method_14_code (4 : Nat) (Option.some Jvm.ClassFile.FieldType.int) [((0 : Nat), (9 : Nat), (12 : Nat), (13 : Nat))]) ∈ ag_all := ag_in 493 (by decide +kernel) (by decide +kernel)
theorem m_494 : (Jvm.Cond.methodLink "TwinRegisterLaw" (54 : Nat) ({ cls := "TwinRegister", name := "version", desc := "(I)I" } : Jvm.MethodName)) ∈ ag_all := ag_in 494 (by decide +kernel) (by decide +kernel)
theorem m_495 : (Jvm.Cond.instanceMethod ({ cls := "TwinRegister", name := "version", desc := "(I)I" } : Jvm.MethodName)) ∈ ag_all := ag_in 495 (by decide +kernel) (by decide +kernel)
theorem m_496 : (Jvm.Cond.selects "TwinRegister" ({ cls := "TwinRegister", name := "version", desc := "(I)I" } : Jvm.MethodName) ({ cls := "TwinRegister", name := "version", desc := "(I)I" } : Jvm.MethodName)) ∈ ag_all := ag_in 496 (by decide +kernel) (by decide +kernel)
theorem m_497 : (Jvm.Cond.code ({ cls := "TwinRegister", name := "version", desc := "(I)I" } : Jvm.MethodName) prog_1_method_14_code (2 : Nat) (Option.some Jvm.ClassFile.FieldType.int)) ∈ ag_all := ag_in 497 (by decide +kernel) (by decide +kernel)
theorem m_498 : (Jvm.Cond.methodLink "TwinRegisterLaw" (139 : Nat) ({ cls := "TwinRegisterLaw", name := "heard", desc := "(LTwinRegister;I[J)I" } : Jvm.MethodName)) ∈ ag_all := ag_in 498 (by decide +kernel) (by decide +kernel)
theorem m_499 : (Jvm.Cond.static ({ cls := "TwinRegisterLaw", name := "heard", desc := "(LTwinRegister;I[J)I" } : Jvm.MethodName)) ∈ ag_all := ag_in 499 (by decide +kernel) (by decide +kernel)
theorem m_500 : (Jvm.Cond.codeWith ({ cls := "TwinRegisterLaw", name := "heard", desc := "(LTwinRegister;I[J)I" } : Jvm.MethodName) method_15_code (4 : Nat) (Option.some Jvm.ClassFile.FieldType.int) [((0 : Nat), (9 : Nat), (12 : Nat), (13 : Nat))]) ∈ ag_all := ag_in 500 (by decide +kernel) (by decide +kernel)
theorem m_501 : (Jvm.Cond.methodLink "TwinRegisterLaw" (57 : Nat) ({ cls := "TwinRegister", name := "heard", desc := "(I)I" } : Jvm.MethodName)) ∈ ag_all := ag_in 501 (by decide +kernel) (by decide +kernel)
theorem m_502 : (Jvm.Cond.instanceMethod ({ cls := "TwinRegister", name := "heard", desc := "(I)I" } : Jvm.MethodName)) ∈ ag_all := ag_in 502 (by decide +kernel) (by decide +kernel)
theorem m_503 : (Jvm.Cond.selects "TwinRegister" ({ cls := "TwinRegister", name := "heard", desc := "(I)I" } : Jvm.MethodName) ({ cls := "TwinRegister", name := "heard", desc := "(I)I" } : Jvm.MethodName)) ∈ ag_all := ag_in 503 (by decide +kernel) (by decide +kernel)
theorem m_504 : (Jvm.Cond.code ({ cls := "TwinRegister", name := "heard", desc := "(I)I" } : Jvm.MethodName) prog_1_method_15_code (2 : Nat) (Option.some Jvm.ClassFile.FieldType.int)) ∈ ag_all := ag_in 504 (by decide +kernel) (by decide +kernel)
theorem m_505 : (Jvm.Cond.methodLink "TwinRegisterLaw" (142 : Nat) ({ cls := "TwinRegisterLaw", name := "wished", desc := "(LTwinRegister;II[J)I" } : Jvm.MethodName)) ∈ ag_all := ag_in 505 (by decide +kernel) (by decide +kernel)
theorem m_506 : (Jvm.Cond.static ({ cls := "TwinRegisterLaw", name := "wished", desc := "(LTwinRegister;II[J)I" } : Jvm.MethodName)) ∈ ag_all := ag_in 506 (by decide +kernel) (by decide +kernel)
theorem m_507 : (Jvm.Cond.codeWith ({ cls := "TwinRegisterLaw", name := "wished", desc := "(LTwinRegister;II[J)I" } : Jvm.MethodName) method_16_code (5 : Nat) (Option.some Jvm.ClassFile.FieldType.int) [((0 : Nat), (10 : Nat), (13 : Nat), (13 : Nat))]) ∈ ag_all := ag_in 507 (by decide +kernel) (by decide +kernel)
theorem m_508 : (Jvm.Cond.methodLink "TwinRegisterLaw" (60 : Nat) ({ cls := "TwinRegister", name := "wished", desc := "(II)I" } : Jvm.MethodName)) ∈ ag_all := ag_in 508 (by decide +kernel) (by decide +kernel)
theorem m_509 : (Jvm.Cond.instanceMethod ({ cls := "TwinRegister", name := "wished", desc := "(II)I" } : Jvm.MethodName)) ∈ ag_all := ag_in 509 (by decide +kernel) (by decide +kernel)
theorem m_510 : (Jvm.Cond.selects "TwinRegister" ({ cls := "TwinRegister", name := "wished", desc := "(II)I" } : Jvm.MethodName) ({ cls := "TwinRegister", name := "wished", desc := "(II)I" } : Jvm.MethodName)) ∈ ag_all := ag_in 510 (by decide +kernel) (by decide +kernel)
theorem m_511 : (Jvm.Cond.code ({ cls := "TwinRegister", name := "wished", desc := "(II)I" } : Jvm.MethodName) prog_1_method_16_code (4 : Nat) (Option.some Jvm.ClassFile.FieldType.int)) ∈ ag_all := ag_in 511 (by decide +kernel) (by decide +kernel)
theorem m_512 : (Jvm.Cond.methodLink "TwinRegisterLaw" (145 : Nat) ({ cls := "TwinRegisterLaw", name := "reported", desc := "(LTwinRegister;II[J)I" } : Jvm.MethodName)) ∈ ag_all := ag_in 512 (by decide +kernel) (by decide +kernel)
theorem m_513 : (Jvm.Cond.static ({ cls := "TwinRegisterLaw", name := "reported", desc := "(LTwinRegister;II[J)I" } : Jvm.MethodName)) ∈ ag_all := ag_in 513 (by decide +kernel) (by decide +kernel)
theorem m_514 : (Jvm.Cond.codeWith ({ cls := "TwinRegisterLaw", name := "reported", desc := "(LTwinRegister;II[J)I" } : Jvm.MethodName) method_17_code (5 : Nat) (Option.some Jvm.ClassFile.FieldType.int) [((0 : Nat), (10 : Nat), (13 : Nat), (13 : Nat))]) ∈ ag_all := ag_in 514 (by decide +kernel) (by decide +kernel)
theorem m_515 : (Jvm.Cond.methodLink "TwinRegisterLaw" (63 : Nat) ({ cls := "TwinRegister", name := "reported", desc := "(II)I" } : Jvm.MethodName)) ∈ ag_all := ag_in 515 (by decide +kernel) (by decide +kernel)
theorem m_516 : (Jvm.Cond.instanceMethod ({ cls := "TwinRegister", name := "reported", desc := "(II)I" } : Jvm.MethodName)) ∈ ag_all := ag_in 516 (by decide +kernel) (by decide +kernel)
theorem m_517 : (Jvm.Cond.selects "TwinRegister" ({ cls := "TwinRegister", name := "reported", desc := "(II)I" } : Jvm.MethodName) ({ cls := "TwinRegister", name := "reported", desc := "(II)I" } : Jvm.MethodName)) ∈ ag_all := ag_in 517 (by decide +kernel) (by decide +kernel)
theorem m_518 : (Jvm.Cond.code ({ cls := "TwinRegister", name := "reported", desc := "(II)I" } : Jvm.MethodName) prog_1_method_17_code (4 : Nat) (Option.some Jvm.ClassFile.FieldType.int)) ∈ ag_all := ag_in 518 (by decide +kernel) (by decide +kernel)
theorem m_519 : (Jvm.Cond.methodLink "TwinRegisterLaw" (148 : Nat) ({ cls := "TwinRegisterLaw", name := "why", desc := "(LTwinRegister;II[J)I" } : Jvm.MethodName)) ∈ ag_all := ag_in 519 (by decide +kernel) (by decide +kernel)
theorem m_520 : (Jvm.Cond.static ({ cls := "TwinRegisterLaw", name := "why", desc := "(LTwinRegister;II[J)I" } : Jvm.MethodName)) ∈ ag_all := ag_in 520 (by decide +kernel) (by decide +kernel)
theorem m_521 : (Jvm.Cond.codeWith ({ cls := "TwinRegisterLaw", name := "why", desc := "(LTwinRegister;II[J)I" } : Jvm.MethodName) method_18_code (5 : Nat) (Option.some Jvm.ClassFile.FieldType.int) [((0 : Nat), (10 : Nat), (13 : Nat), (13 : Nat))]) ∈ ag_all := ag_in 521 (by decide +kernel) (by decide +kernel)
theorem m_522 : (Jvm.Cond.methodLink "TwinRegisterLaw" (66 : Nat) ({ cls := "TwinRegister", name := "why", desc := "(II)I" } : Jvm.MethodName)) ∈ ag_all := ag_in 522 (by decide +kernel) (by decide +kernel)
theorem m_523 : (Jvm.Cond.instanceMethod ({ cls := "TwinRegister", name := "why", desc := "(II)I" } : Jvm.MethodName)) ∈ ag_all := ag_in 523 (by decide +kernel) (by decide +kernel)
theorem m_524 : (Jvm.Cond.selects "TwinRegister" ({ cls := "TwinRegister", name := "why", desc := "(II)I" } : Jvm.MethodName) ({ cls := "TwinRegister", name := "why", desc := "(II)I" } : Jvm.MethodName)) ∈ ag_all := ag_in 524 (by decide +kernel) (by decide +kernel)
theorem m_525 : (Jvm.Cond.code ({ cls := "TwinRegister", name := "why", desc := "(II)I" } : Jvm.MethodName) prog_1_method_18_code (4 : Nat) (Option.some Jvm.ClassFile.FieldType.int)) ∈ ag_all := ag_in 525 (by decide +kernel) (by decide +kernel)
theorem m_526 : (Jvm.Cond.methodLink "TwinRegisterLaw" (151 : Nat) ({ cls := "TwinRegisterLaw", name := "differences", desc := "(LTwinRegister;I[J)I" } : Jvm.MethodName)) ∈ ag_all := ag_in 526 (by decide +kernel) (by decide +kernel)
theorem m_527 : (Jvm.Cond.static ({ cls := "TwinRegisterLaw", name := "differences", desc := "(LTwinRegister;I[J)I" } : Jvm.MethodName)) ∈ ag_all := ag_in 527 (by decide +kernel) (by decide +kernel)
theorem m_528 : (Jvm.Cond.codeWith ({ cls := "TwinRegisterLaw", name := "differences", desc := "(LTwinRegister;I[J)I" } : Jvm.MethodName) method_19_code (4 : Nat) (Option.some Jvm.ClassFile.FieldType.int) [((0 : Nat), (9 : Nat), (12 : Nat), (13 : Nat))]) ∈ ag_all := ag_in 528 (by decide +kernel) (by decide +kernel)
theorem m_529 : (Jvm.Cond.methodLink "TwinRegisterLaw" (69 : Nat) ({ cls := "TwinRegister", name := "differences", desc := "(I)I" } : Jvm.MethodName)) ∈ ag_all := ag_in 529 (by decide +kernel) (by decide +kernel)
theorem m_530 : (Jvm.Cond.instanceMethod ({ cls := "TwinRegister", name := "differences", desc := "(I)I" } : Jvm.MethodName)) ∈ ag_all := ag_in 530 (by decide +kernel) (by decide +kernel)
theorem m_531 : (Jvm.Cond.selects "TwinRegister" ({ cls := "TwinRegister", name := "differences", desc := "(I)I" } : Jvm.MethodName) ({ cls := "TwinRegister", name := "differences", desc := "(I)I" } : Jvm.MethodName)) ∈ ag_all := ag_in 531 (by decide +kernel) (by decide +kernel)
theorem m_532 : (Jvm.Cond.code ({ cls := "TwinRegister", name := "differences", desc := "(I)I" } : Jvm.MethodName) prog_1_method_19_code (2 : Nat) (Option.some Jvm.ClassFile.FieldType.int)) ∈ ag_all := ag_in 532 (by decide +kernel) (by decide +kernel)
theorem m_533 : (Jvm.Cond.methodLink "TwinRegisterLaw" (154 : Nat) ({ cls := "TwinRegisterLaw", name := "differencesAnew", desc := "(LTwinRegister;I[J)I" } : Jvm.MethodName)) ∈ ag_all := ag_in 533 (by decide +kernel) (by decide +kernel)
theorem m_534 : (Jvm.Cond.static ({ cls := "TwinRegisterLaw", name := "differencesAnew", desc := "(LTwinRegister;I[J)I" } : Jvm.MethodName)) ∈ ag_all := ag_in 534 (by decide +kernel) (by decide +kernel)
theorem m_535 : (Jvm.Cond.codeWith ({ cls := "TwinRegisterLaw", name := "differencesAnew", desc := "(LTwinRegister;I[J)I" } : Jvm.MethodName) method_20_code (4 : Nat) (Option.some Jvm.ClassFile.FieldType.int) [((0 : Nat), (9 : Nat), (12 : Nat), (13 : Nat))]) ∈ ag_all := ag_in 535 (by decide +kernel) (by decide +kernel)
theorem m_536 : (Jvm.Cond.methodLink "TwinRegisterLaw" (72 : Nat) ({ cls := "TwinRegister", name := "differencesAnew", desc := "(I)I" } : Jvm.MethodName)) ∈ ag_all := ag_in 536 (by decide +kernel) (by decide +kernel)
theorem m_537 : (Jvm.Cond.instanceMethod ({ cls := "TwinRegister", name := "differencesAnew", desc := "(I)I" } : Jvm.MethodName)) ∈ ag_all := ag_in 537 (by decide +kernel) (by decide +kernel)
theorem m_538 : (Jvm.Cond.selects "TwinRegister" ({ cls := "TwinRegister", name := "differencesAnew", desc := "(I)I" } : Jvm.MethodName) ({ cls := "TwinRegister", name := "differencesAnew", desc := "(I)I" } : Jvm.MethodName)) ∈ ag_all := ag_in 538 (by decide +kernel) (by decide +kernel)
theorem m_539 : (Jvm.Cond.code ({ cls := "TwinRegister", name := "differencesAnew", desc := "(I)I" } : Jvm.MethodName) prog_1_method_20_code (5 : Nat) (Option.some Jvm.ClassFile.FieldType.int)) ∈ ag_all := ag_in 539 (by decide +kernel) (by decide +kernel)
theorem m_540 : (Jvm.Cond.methodLinkNest "TwinRegister" (186 : Nat) ({ cls := "TwinRegister$Device", name := "comparesUnlike", desc := "(I)Z" } : Jvm.MethodName) "TwinRegister") ∈ ax_all := ax_in 540 (by decide +kernel) (by decide +kernel)
theorem m_541 : (Jvm.Cond.methodLink "TwinRegisterLaw" (157 : Nat) ({ cls := "TwinRegisterLaw", name := "members", desc := "(LTwinRegister;I[J)I" } : Jvm.MethodName)) ∈ ag_all := ag_in 541 (by decide +kernel) (by decide +kernel)
theorem m_542 : (Jvm.Cond.static ({ cls := "TwinRegisterLaw", name := "members", desc := "(LTwinRegister;I[J)I" } : Jvm.MethodName)) ∈ ag_all := ag_in 542 (by decide +kernel) (by decide +kernel)
theorem m_543 : (Jvm.Cond.codeWith ({ cls := "TwinRegisterLaw", name := "members", desc := "(LTwinRegister;I[J)I" } : Jvm.MethodName) method_21_code (4 : Nat) (Option.some Jvm.ClassFile.FieldType.int) [((0 : Nat), (9 : Nat), (12 : Nat), (13 : Nat))]) ∈ ag_all := ag_in 543 (by decide +kernel) (by decide +kernel)
theorem m_544 : (Jvm.Cond.methodLink "TwinRegisterLaw" (75 : Nat) ({ cls := "TwinRegister", name := "members", desc := "(I)I" } : Jvm.MethodName)) ∈ ag_all := ag_in 544 (by decide +kernel) (by decide +kernel)
theorem m_545 : (Jvm.Cond.instanceMethod ({ cls := "TwinRegister", name := "members", desc := "(I)I" } : Jvm.MethodName)) ∈ ag_all := ag_in 545 (by decide +kernel) (by decide +kernel)
theorem m_546 : (Jvm.Cond.selects "TwinRegister" ({ cls := "TwinRegister", name := "members", desc := "(I)I" } : Jvm.MethodName) ({ cls := "TwinRegister", name := "members", desc := "(I)I" } : Jvm.MethodName)) ∈ ag_all := ag_in 546 (by decide +kernel) (by decide +kernel)
theorem m_547 : (Jvm.Cond.code ({ cls := "TwinRegister", name := "members", desc := "(I)I" } : Jvm.MethodName) prog_1_method_21_code (2 : Nat) (Option.some Jvm.ClassFile.FieldType.int)) ∈ ag_all := ag_in 547 (by decide +kernel) (by decide +kernel)
theorem m_548 : (Jvm.Cond.methodLink "TwinRegisterLaw" (164 : Nat) ({ cls := "TwinRegisterLaw", name := "state", desc := "(LTwinRegister;I[J)I" } : Jvm.MethodName)) ∈ ag_all := ag_in 548 (by decide +kernel) (by decide +kernel)
theorem m_549 : (Jvm.Cond.static ({ cls := "TwinRegisterLaw", name := "state", desc := "(LTwinRegister;I[J)I" } : Jvm.MethodName)) ∈ ag_all := ag_in 549 (by decide +kernel) (by decide +kernel)
theorem m_550 : (Jvm.Cond.codeWith ({ cls := "TwinRegisterLaw", name := "state", desc := "(LTwinRegister;I[J)I" } : Jvm.MethodName) method_22_code (4 : Nat) (Option.some Jvm.ClassFile.FieldType.int) [((0 : Nat), (9 : Nat), (12 : Nat), (13 : Nat))]) ∈ ag_all := ag_in 550 (by decide +kernel) (by decide +kernel)
theorem m_551 : (Jvm.Cond.methodLink "TwinRegisterLaw" (78 : Nat) ({ cls := "TwinRegister", name := "state", desc := "(I)I" } : Jvm.MethodName)) ∈ ag_all := ag_in 551 (by decide +kernel) (by decide +kernel)
theorem m_552 : (Jvm.Cond.instanceMethod ({ cls := "TwinRegister", name := "state", desc := "(I)I" } : Jvm.MethodName)) ∈ ag_all := ag_in 552 (by decide +kernel) (by decide +kernel)
theorem m_553 : (Jvm.Cond.selects "TwinRegister" ({ cls := "TwinRegister", name := "state", desc := "(I)I" } : Jvm.MethodName) ({ cls := "TwinRegister", name := "state", desc := "(I)I" } : Jvm.MethodName)) ∈ ag_all := ag_in 553 (by decide +kernel) (by decide +kernel)
theorem m_554 : (Jvm.Cond.code ({ cls := "TwinRegister", name := "state", desc := "(I)I" } : Jvm.MethodName) prog_1_method_23_code (2 : Nat) (Option.some Jvm.ClassFile.FieldType.int)) ∈ ag_all := ag_in 554 (by decide +kernel) (by decide +kernel)
theorem m_555 : (Jvm.Cond.methodLink "TwinRegisterLaw" (167 : Nat) ({ cls := "TwinRegisterLaw", name := "devices", desc := "(LTwinRegister;II[J)I" } : Jvm.MethodName)) ∈ ag_all := ag_in 555 (by decide +kernel) (by decide +kernel)
theorem m_556 : (Jvm.Cond.static ({ cls := "TwinRegisterLaw", name := "devices", desc := "(LTwinRegister;II[J)I" } : Jvm.MethodName)) ∈ ag_all := ag_in 556 (by decide +kernel) (by decide +kernel)
theorem m_557 : (Jvm.Cond.codeWith ({ cls := "TwinRegisterLaw", name := "devices", desc := "(LTwinRegister;II[J)I" } : Jvm.MethodName) method_23_code (5 : Nat) (Option.some Jvm.ClassFile.FieldType.int) [((0 : Nat), (10 : Nat), (13 : Nat), (13 : Nat)), ((0 : Nat), (10 : Nat), (17 : Nat), (15 : Nat))]) ∈ ag_all := ag_in 557 (by decide +kernel) (by decide +kernel)
theorem m_558 : (Jvm.Cond.methodLink "TwinRegisterLaw" (81 : Nat) ({ cls := "TwinRegister", name := "devices", desc := "(II)I" } : Jvm.MethodName)) ∈ ag_all := ag_in 558 (by decide +kernel) (by decide +kernel)
theorem m_559 : (Jvm.Cond.instanceMethod ({ cls := "TwinRegister", name := "devices", desc := "(II)I" } : Jvm.MethodName)) ∈ ag_all := ag_in 559 (by decide +kernel) (by decide +kernel)
theorem m_560 : (Jvm.Cond.selects "TwinRegister" ({ cls := "TwinRegister", name := "devices", desc := "(II)I" } : Jvm.MethodName) ({ cls := "TwinRegister", name := "devices", desc := "(II)I" } : Jvm.MethodName)) ∈ ag_all := ag_in 560 (by decide +kernel) (by decide +kernel)
theorem m_561 : (Jvm.Cond.code ({ cls := "TwinRegister", name := "devices", desc := "(II)I" } : Jvm.MethodName) prog_1_method_24_code (4 : Nat) (Option.some Jvm.ClassFile.FieldType.int)) ∈ ag_all := ag_in 561 (by decide +kernel) (by decide +kernel)
theorem m_562 : (Jvm.Cond.classLink "TwinRegisterLaw" (85 : Nat) "TwinRegisterModel") ∈ ag_all := ag_in 562 (by decide +kernel) (by decide +kernel)
theorem m_563 : (Jvm.Cond.instantiable "TwinRegisterModel" (22 : Nat)) ∈ ag_all := ag_in 563 (by decide +kernel) (by decide +kernel)
theorem m_564 : (Jvm.Cond.methodLink "TwinRegisterLaw" (87 : Nat) ({ cls := "TwinRegisterModel", name := "<init>", desc := "()V" } : Jvm.MethodName)) ∈ ag_all := ag_in 564 (by decide +kernel) (by decide +kernel)
theorem m_565 : (Jvm.Cond.instanceMethod ({ cls := "TwinRegisterModel", name := "<init>", desc := "()V" } : Jvm.MethodName)) ∈ ag_all := ag_in 565 (by decide +kernel) (by decide +kernel)
theorem m_566 : (Jvm.Cond.code ({ cls := "TwinRegisterModel", name := "<init>", desc := "()V" } : Jvm.MethodName) prog_7_method_1_code (1 : Nat) (Option.none : Option Jvm.ClassFile.FieldType)) ∈ ag_all := ag_in 566 (by decide +kernel) (by decide +kernel)
theorem m_567 : (Jvm.Cond.methodLink "TwinRegisterModel" (1 : Nat) ({ cls := "java/lang/Object", name := "<init>", desc := "()V" } : Jvm.MethodName)) ∈ ag_all := ag_in 567 (by decide +kernel) (by decide +kernel)
theorem m_568 : (Jvm.Cond.fieldLink "TwinRegisterModel" (71 : Nat) "TwinRegisterModel" "thrown" "I") ∈ ag_all := ag_in 568 (by decide +kernel) (by decide +kernel)
theorem m_569 : (Jvm.Cond.fieldLink "TwinRegisterModel" (7 : Nat) "TwinRegisterModel" "wished" "[I") ∈ ag_all := ag_in 569 (by decide +kernel) (by decide +kernel)
theorem m_570 : (Jvm.Cond.fieldLink "TwinRegisterModel" (13 : Nat) "TwinRegisterModel" "reported" "[I") ∈ ag_all := ag_in 570 (by decide +kernel) (by decide +kernel)
theorem m_571 : (Jvm.Cond.fieldLink "TwinRegisterModel" (16 : Nat) "TwinRegisterModel" "reason" "[I") ∈ ag_all := ag_in 571 (by decide +kernel) (by decide +kernel)
theorem m_572 : (Jvm.Cond.fieldLink "TwinRegisterModel" (19 : Nat) "TwinRegisterModel" "version" "[I") ∈ ag_all := ag_in 572 (by decide +kernel) (by decide +kernel)
theorem m_573 : (Jvm.Cond.fieldLink "TwinRegisterModel" (22 : Nat) "TwinRegisterModel" "heard" "[I") ∈ ag_all := ag_in 573 (by decide +kernel) (by decide +kernel)
theorem m_574 : (Jvm.Cond.fieldLink "TwinRegisterModel" (25 : Nat) "TwinRegisterModel" "isAsleep" "[Z") ∈ ag_all := ag_in 574 (by decide +kernel) (by decide +kernel)
theorem m_575 : (Jvm.Cond.fieldLink "TwinRegisterModel" (29 : Nat) "TwinRegisterModel" "latest" "[I") ∈ ag_all := ag_in 575 (by decide +kernel) (by decide +kernel)
theorem m_576 : (Jvm.Cond.fieldLink "TwinRegisterModel" (32 : Nat) "TwinRegisterModel" "draft" "[I") ∈ ag_all := ag_in 576 (by decide +kernel) (by decide +kernel)
theorem m_577 : (Jvm.Cond.fieldLink "TwinRegisterModel" (35 : Nat) "TwinRegisterModel" "groupLeaf" "[I") ∈ ag_all := ag_in 577 (by decide +kernel) (by decide +kernel)
theorem m_578 : (Jvm.Cond.fieldLink "TwinRegisterModel" (38 : Nat) "TwinRegisterModel" "low" "[I") ∈ ag_all := ag_in 578 (by decide +kernel) (by decide +kernel)
theorem m_579 : (Jvm.Cond.fieldLink "TwinRegisterModel" (41 : Nat) "TwinRegisterModel" "high" "[I") ∈ ag_all := ag_in 579 (by decide +kernel) (by decide +kernel)
theorem m_580 : (Jvm.Cond.fieldLink "TwinRegisterModel" (117 : Nat) "TwinRegisterModel" "jobs" "I") ∈ ag_all := ag_in 580 (by decide +kernel) (by decide +kernel)
theorem m_581 : (Jvm.Cond.fieldLink "TwinRegisterModel" (44 : Nat) "TwinRegisterModel" "group" "[I") ∈ ag_all := ag_in 581 (by decide +kernel) (by decide +kernel)
theorem m_582 : (Jvm.Cond.fieldLink "TwinRegisterModel" (47 : Nat) "TwinRegisterModel" "leaf" "[I") ∈ ag_all := ag_in 582 (by decide +kernel) (by decide +kernel)
theorem m_583 : (Jvm.Cond.fieldLink "TwinRegisterModel" (50 : Nat) "TwinRegisterModel" "value" "[I") ∈ ag_all := ag_in 583 (by decide +kernel) (by decide +kernel)
theorem m_584 : (Jvm.Cond.fieldLink "TwinRegisterModel" (53 : Nat) "TwinRegisterModel" "rate" "[I") ∈ ag_all := ag_in 584 (by decide +kernel) (by decide +kernel)
theorem m_585 : (Jvm.Cond.fieldLink "TwinRegisterModel" (56 : Nat) "TwinRegisterModel" "bound" "[I") ∈ ag_all := ag_in 585 (by decide +kernel) (by decide +kernel)
theorem m_586 : (Jvm.Cond.fieldLink "TwinRegisterModel" (59 : Nat) "TwinRegisterModel" "state" "[I") ∈ ag_all := ag_in 586 (by decide +kernel) (by decide +kernel)
theorem m_587 : (Jvm.Cond.fieldLink "TwinRegisterModel" (62 : Nat) "TwinRegisterModel" "started" "[I") ∈ ag_all := ag_in 587 (by decide +kernel) (by decide +kernel)
theorem m_588 : (Jvm.Cond.fieldLink "TwinRegisterModel" (65 : Nat) "TwinRegisterModel" "done" "[I") ∈ ag_all := ag_in 588 (by decide +kernel) (by decide +kernel)
theorem m_589 : (Jvm.Cond.fieldLink "TwinRegisterModel" (68 : Nat) "TwinRegisterModel" "failed" "[I") ∈ ag_all := ag_in 589 (by decide +kernel) (by decide +kernel)
theorem m_590 : (Jvm.Cond.lays "TwinRegisterModel" "TwinRegisterModel" "thrown" "I") ∈ ag_all := ag_in 590 (by decide +kernel) (by decide +kernel)
theorem m_591 : (Jvm.Cond.soleField "TwinRegisterModel" "thrown") ∈ ag_all := ag_in 591 (by decide +kernel) (by decide +kernel)
theorem m_592 : (Jvm.Cond.laysFinal "TwinRegisterModel" "TwinRegisterModel" "wished" "[I") ∈ ag_all := ag_in 592 (by decide +kernel) (by decide +kernel)
theorem m_593 : (Jvm.Cond.soleField "TwinRegisterModel" "wished") ∈ ag_all := ag_in 593 (by decide +kernel) (by decide +kernel)
theorem m_594 : (Jvm.Cond.laysFinal "TwinRegisterModel" "TwinRegisterModel" "reported" "[I") ∈ ag_all := ag_in 594 (by decide +kernel) (by decide +kernel)
theorem m_595 : (Jvm.Cond.soleField "TwinRegisterModel" "reported") ∈ ag_all := ag_in 595 (by decide +kernel) (by decide +kernel)
theorem m_596 : (Jvm.Cond.laysFinal "TwinRegisterModel" "TwinRegisterModel" "reason" "[I") ∈ ag_all := ag_in 596 (by decide +kernel) (by decide +kernel)
theorem m_597 : (Jvm.Cond.soleField "TwinRegisterModel" "reason") ∈ ag_all := ag_in 597 (by decide +kernel) (by decide +kernel)
theorem m_598 : (Jvm.Cond.laysFinal "TwinRegisterModel" "TwinRegisterModel" "version" "[I") ∈ ag_all := ag_in 598 (by decide +kernel) (by decide +kernel)
theorem m_599 : (Jvm.Cond.soleField "TwinRegisterModel" "version") ∈ ag_all := ag_in 599 (by decide +kernel) (by decide +kernel)
theorem m_600 : (Jvm.Cond.laysFinal "TwinRegisterModel" "TwinRegisterModel" "heard" "[I") ∈ ag_all := ag_in 600 (by decide +kernel) (by decide +kernel)
theorem m_601 : (Jvm.Cond.soleField "TwinRegisterModel" "heard") ∈ ag_all := ag_in 601 (by decide +kernel) (by decide +kernel)
theorem m_602 : (Jvm.Cond.laysFinal "TwinRegisterModel" "TwinRegisterModel" "isAsleep" "[Z") ∈ ag_all := ag_in 602 (by decide +kernel) (by decide +kernel)
theorem m_603 : (Jvm.Cond.soleField "TwinRegisterModel" "isAsleep") ∈ ag_all := ag_in 603 (by decide +kernel) (by decide +kernel)
theorem m_604 : (Jvm.Cond.laysFinal "TwinRegisterModel" "TwinRegisterModel" "latest" "[I") ∈ ag_all := ag_in 604 (by decide +kernel) (by decide +kernel)
theorem m_605 : (Jvm.Cond.soleField "TwinRegisterModel" "latest") ∈ ag_all := ag_in 605 (by decide +kernel) (by decide +kernel)
theorem m_606 : (Jvm.Cond.laysFinal "TwinRegisterModel" "TwinRegisterModel" "draft" "[I") ∈ ag_all := ag_in 606 (by decide +kernel) (by decide +kernel)
theorem m_607 : (Jvm.Cond.soleField "TwinRegisterModel" "draft") ∈ ag_all := ag_in 607 (by decide +kernel) (by decide +kernel)
theorem m_608 : (Jvm.Cond.laysFinal "TwinRegisterModel" "TwinRegisterModel" "groupLeaf" "[I") ∈ ag_all := ag_in 608 (by decide +kernel) (by decide +kernel)
theorem m_609 : (Jvm.Cond.soleField "TwinRegisterModel" "groupLeaf") ∈ ag_all := ag_in 609 (by decide +kernel) (by decide +kernel)
theorem m_610 : (Jvm.Cond.laysFinal "TwinRegisterModel" "TwinRegisterModel" "low" "[I") ∈ ag_all := ag_in 610 (by decide +kernel) (by decide +kernel)
theorem m_611 : (Jvm.Cond.soleField "TwinRegisterModel" "low") ∈ ag_all := ag_in 611 (by decide +kernel) (by decide +kernel)
theorem m_612 : (Jvm.Cond.laysFinal "TwinRegisterModel" "TwinRegisterModel" "high" "[I") ∈ ag_all := ag_in 612 (by decide +kernel) (by decide +kernel)
theorem m_613 : (Jvm.Cond.soleField "TwinRegisterModel" "high") ∈ ag_all := ag_in 613 (by decide +kernel) (by decide +kernel)
theorem m_614 : (Jvm.Cond.lays "TwinRegisterModel" "TwinRegisterModel" "jobs" "I") ∈ ag_all := ag_in 614 (by decide +kernel) (by decide +kernel)
theorem m_615 : (Jvm.Cond.soleField "TwinRegisterModel" "jobs") ∈ ag_all := ag_in 615 (by decide +kernel) (by decide +kernel)
theorem m_616 : (Jvm.Cond.laysFinal "TwinRegisterModel" "TwinRegisterModel" "group" "[I") ∈ ag_all := ag_in 616 (by decide +kernel) (by decide +kernel)
theorem m_617 : (Jvm.Cond.soleField "TwinRegisterModel" "group") ∈ ag_all := ag_in 617 (by decide +kernel) (by decide +kernel)
theorem m_618 : (Jvm.Cond.laysFinal "TwinRegisterModel" "TwinRegisterModel" "leaf" "[I") ∈ ag_all := ag_in 618 (by decide +kernel) (by decide +kernel)
theorem m_619 : (Jvm.Cond.soleField "TwinRegisterModel" "leaf") ∈ ag_all := ag_in 619 (by decide +kernel) (by decide +kernel)
theorem m_620 : (Jvm.Cond.laysFinal "TwinRegisterModel" "TwinRegisterModel" "value" "[I") ∈ ag_all := ag_in 620 (by decide +kernel) (by decide +kernel)
theorem m_621 : (Jvm.Cond.soleField "TwinRegisterModel" "value") ∈ ag_all := ag_in 621 (by decide +kernel) (by decide +kernel)
theorem m_622 : (Jvm.Cond.laysFinal "TwinRegisterModel" "TwinRegisterModel" "rate" "[I") ∈ ag_all := ag_in 622 (by decide +kernel) (by decide +kernel)
theorem m_623 : (Jvm.Cond.soleField "TwinRegisterModel" "rate") ∈ ag_all := ag_in 623 (by decide +kernel) (by decide +kernel)
theorem m_624 : (Jvm.Cond.laysFinal "TwinRegisterModel" "TwinRegisterModel" "bound" "[I") ∈ ag_all := ag_in 624 (by decide +kernel) (by decide +kernel)
theorem m_625 : (Jvm.Cond.soleField "TwinRegisterModel" "bound") ∈ ag_all := ag_in 625 (by decide +kernel) (by decide +kernel)
theorem m_626 : (Jvm.Cond.laysFinal "TwinRegisterModel" "TwinRegisterModel" "state" "[I") ∈ ag_all := ag_in 626 (by decide +kernel) (by decide +kernel)
theorem m_627 : (Jvm.Cond.soleField "TwinRegisterModel" "state") ∈ ag_all := ag_in 627 (by decide +kernel) (by decide +kernel)
theorem m_628 : (Jvm.Cond.laysFinal "TwinRegisterModel" "TwinRegisterModel" "started" "[I") ∈ ag_all := ag_in 628 (by decide +kernel) (by decide +kernel)
theorem m_629 : (Jvm.Cond.soleField "TwinRegisterModel" "started") ∈ ag_all := ag_in 629 (by decide +kernel) (by decide +kernel)
theorem m_630 : (Jvm.Cond.laysFinal "TwinRegisterModel" "TwinRegisterModel" "done" "[I") ∈ ag_all := ag_in 630 (by decide +kernel) (by decide +kernel)
theorem m_631 : (Jvm.Cond.soleField "TwinRegisterModel" "done") ∈ ag_all := ag_in 631 (by decide +kernel) (by decide +kernel)
theorem m_632 : (Jvm.Cond.laysFinal "TwinRegisterModel" "TwinRegisterModel" "failed" "[I") ∈ ag_all := ag_in 632 (by decide +kernel) (by decide +kernel)
theorem m_633 : (Jvm.Cond.soleField "TwinRegisterModel" "failed") ∈ ag_all := ag_in 633 (by decide +kernel) (by decide +kernel)
theorem m_634 : (Jvm.Cond.superclass "TwinRegisterModel" "java/lang/Object") ∈ ag_all := ag_in 634 (by decide +kernel) (by decide +kernel)
theorem m_635 : (Jvm.Cond.arrayClass Jvm.ClassFile.FieldType.boolean) ∈ ag_all := ag_in 635 (by decide +kernel) (by decide +kernel)
theorem m_636 : (Jvm.Cond.methodLink "TwinRegisterLaw" (94 : Nat) ({ cls := "TwinRegisterModel", name := "thrown", desc := "()I" } : Jvm.MethodName)) ∈ ag_all := ag_in 636 (by decide +kernel) (by decide +kernel)
theorem m_637 : (Jvm.Cond.instanceMethod ({ cls := "TwinRegisterModel", name := "thrown", desc := "()I" } : Jvm.MethodName)) ∈ ag_all := ag_in 637 (by decide +kernel) (by decide +kernel)
theorem m_638 : (Jvm.Cond.selects "TwinRegisterModel" ({ cls := "TwinRegisterModel", name := "thrown", desc := "()I" } : Jvm.MethodName) ({ cls := "TwinRegisterModel", name := "thrown", desc := "()I" } : Jvm.MethodName)) ∈ ag_all := ag_in 638 (by decide +kernel) (by decide +kernel)
theorem m_639 : (Jvm.Cond.code ({ cls := "TwinRegisterModel", name := "thrown", desc := "()I" } : Jvm.MethodName) prog_7_method_2_code (1 : Nat) (Option.some Jvm.ClassFile.FieldType.int)) ∈ ag_all := ag_in 639 (by decide +kernel) (by decide +kernel)
theorem m_640 : (Jvm.Cond.methodLink "TwinRegisterLaw" (93 : Nat) ({ cls := "TwinRegisterModel", name := "put", desc := "(II)I" } : Jvm.MethodName)) ∈ ag_all := ag_in 640 (by decide +kernel) (by decide +kernel)
theorem m_641 : (Jvm.Cond.instanceMethod ({ cls := "TwinRegisterModel", name := "put", desc := "(II)I" } : Jvm.MethodName)) ∈ ag_all := ag_in 641 (by decide +kernel) (by decide +kernel)
theorem m_642 : (Jvm.Cond.selects "TwinRegisterModel" ({ cls := "TwinRegisterModel", name := "put", desc := "(II)I" } : Jvm.MethodName) ({ cls := "TwinRegisterModel", name := "put", desc := "(II)I" } : Jvm.MethodName)) ∈ ag_all := ag_in 642 (by decide +kernel) (by decide +kernel)
theorem m_643 : (Jvm.Cond.code ({ cls := "TwinRegisterModel", name := "put", desc := "(II)I" } : Jvm.MethodName) prog_7_method_9_code (3 : Nat) (Option.some Jvm.ClassFile.FieldType.int)) ∈ ag_all := ag_in 643 (by decide +kernel) (by decide +kernel)
theorem m_644 : (Jvm.Cond.methodLink "TwinRegisterModel" (79 : Nat) ({ cls := "TwinRegisterModel", name := "isLeaf", desc := "(I)Z" } : Jvm.MethodName)) ∈ ag_all := ag_in 644 (by decide +kernel) (by decide +kernel)
theorem m_645 : (Jvm.Cond.static ({ cls := "TwinRegisterModel", name := "isLeaf", desc := "(I)Z" } : Jvm.MethodName)) ∈ ag_all := ag_in 645 (by decide +kernel) (by decide +kernel)
theorem m_646 : (Jvm.Cond.code ({ cls := "TwinRegisterModel", name := "isLeaf", desc := "(I)Z" } : Jvm.MethodName) prog_7_method_5_code (1 : Nat) (Option.some Jvm.ClassFile.FieldType.boolean)) ∈ ag_all := ag_in 646 (by decide +kernel) (by decide +kernel)
theorem m_647 : (Jvm.Cond.methodLink "TwinRegisterModel" (75 : Nat) ({ cls := "TwinRegisterModel", name := "in", desc := "(III)Z" } : Jvm.MethodName)) ∈ ag_all := ag_in 647 (by decide +kernel) (by decide +kernel)
theorem m_648 : (Jvm.Cond.static ({ cls := "TwinRegisterModel", name := "in", desc := "(III)Z" } : Jvm.MethodName)) ∈ ag_all := ag_in 648 (by decide +kernel) (by decide +kernel)
theorem m_649 : (Jvm.Cond.code ({ cls := "TwinRegisterModel", name := "in", desc := "(III)Z" } : Jvm.MethodName) prog_7_method_3_code (3 : Nat) (Option.some Jvm.ClassFile.FieldType.boolean)) ∈ ag_all := ag_in 649 (by decide +kernel) (by decide +kernel)
theorem m_650 : (Jvm.Cond.methodLink "TwinRegisterModel" (83 : Nat) ({ cls := "TwinRegisterModel", name := "drafted", desc := "()I" } : Jvm.MethodName)) ∈ ag_all := ag_in 650 (by decide +kernel) (by decide +kernel)
theorem m_652 : (Jvm.Cond.instanceMethod ({ cls := "TwinRegisterModel", name := "drafted", desc := "()I" } : Jvm.MethodName)) ∈ ag_all := ag_in 652 (by decide +kernel) (by decide +kernel)
theorem m_653 : (Jvm.Cond.code ({ cls := "TwinRegisterModel", name := "drafted", desc := "()I" } : Jvm.MethodName) prog_7_method_8_code (3 : Nat) (Option.some Jvm.ClassFile.FieldType.int)) ∈ ag_all := ag_in 653 (by decide +kernel) (by decide +kernel)
theorem m_654 : (Jvm.Cond.methodLink "TwinRegisterLaw" (101 : Nat) ({ cls := "TwinRegisterModel", name := "drop", desc := "(I)I" } : Jvm.MethodName)) ∈ ag_all := ag_in 654 (by decide +kernel) (by decide +kernel)
theorem m_655 : (Jvm.Cond.instanceMethod ({ cls := "TwinRegisterModel", name := "drop", desc := "(I)I" } : Jvm.MethodName)) ∈ ag_all := ag_in 655 (by decide +kernel) (by decide +kernel)
theorem m_656 : (Jvm.Cond.selects "TwinRegisterModel" ({ cls := "TwinRegisterModel", name := "drop", desc := "(I)I" } : Jvm.MethodName) ({ cls := "TwinRegisterModel", name := "drop", desc := "(I)I" } : Jvm.MethodName)) ∈ ag_all := ag_in 656 (by decide +kernel) (by decide +kernel)
theorem m_657 : (Jvm.Cond.code ({ cls := "TwinRegisterModel", name := "drop", desc := "(I)I" } : Jvm.MethodName) prog_7_method_10_code (3 : Nat) (Option.some Jvm.ClassFile.FieldType.int)) ∈ ag_all := ag_in 657 (by decide +kernel) (by decide +kernel)
theorem m_658 : (Jvm.Cond.methodLink "TwinRegisterLaw" (104 : Nat) ({ cls := "TwinRegisterModel", name := "wish", desc := "(II)I" } : Jvm.MethodName)) ∈ ag_all := ag_in 658 (by decide +kernel) (by decide +kernel)
theorem m_659 : (Jvm.Cond.instanceMethod ({ cls := "TwinRegisterModel", name := "wish", desc := "(II)I" } : Jvm.MethodName)) ∈ ag_all := ag_in 659 (by decide +kernel) (by decide +kernel)
theorem m_660 : (Jvm.Cond.selects "TwinRegisterModel" ({ cls := "TwinRegisterModel", name := "wish", desc := "(II)I" } : Jvm.MethodName) ({ cls := "TwinRegisterModel", name := "wish", desc := "(II)I" } : Jvm.MethodName)) ∈ ag_all := ag_in 660 (by decide +kernel) (by decide +kernel)
theorem m_661 : (Jvm.Cond.code ({ cls := "TwinRegisterModel", name := "wish", desc := "(II)I" } : Jvm.MethodName) prog_7_method_15_code (4 : Nat) (Option.some Jvm.ClassFile.FieldType.int)) ∈ ag_all := ag_in 661 (by decide +kernel) (by decide +kernel)
theorem m_662 : (Jvm.Cond.methodLink "TwinRegisterModel" (91 : Nat) ({ cls := "TwinRegisterModel", name := "isDevice", desc := "(I)Z" } : Jvm.MethodName)) ∈ ag_all := ag_in 662 (by decide +kernel) (by decide +kernel)
theorem m_663 : (Jvm.Cond.static ({ cls := "TwinRegisterModel", name := "isDevice", desc := "(I)Z" } : Jvm.MethodName)) ∈ ag_all := ag_in 663 (by decide +kernel) (by decide +kernel)
theorem m_664 : (Jvm.Cond.code ({ cls := "TwinRegisterModel", name := "isDevice", desc := "(I)Z" } : Jvm.MethodName) prog_7_method_4_code (1 : Nat) (Option.some Jvm.ClassFile.FieldType.boolean)) ∈ ag_all := ag_in 664 (by decide +kernel) (by decide +kernel)
theorem m_665 : (Jvm.Cond.methodLink "TwinRegisterModel" (94 : Nat) ({ cls := "TwinRegisterModel", name := "wishes", desc := "(III)V" } : Jvm.MethodName)) ∈ ag_all := ag_in 665 (by decide +kernel) (by decide +kernel)
theorem m_667 : (Jvm.Cond.instanceMethod ({ cls := "TwinRegisterModel", name := "wishes", desc := "(III)V" } : Jvm.MethodName)) ∈ ag_all := ag_in 667 (by decide +kernel) (by decide +kernel)
theorem m_668 : (Jvm.Cond.code ({ cls := "TwinRegisterModel", name := "wishes", desc := "(III)V" } : Jvm.MethodName) prog_7_method_14_code (4 : Nat) (Option.none : Option Jvm.ClassFile.FieldType)) ∈ ag_all := ag_in 668 (by decide +kernel) (by decide +kernel)
theorem m_669 : (Jvm.Cond.methodLink "TwinRegisterModel" (98 : Nat) ({ cls := "TwinRegisterModel", name := "empties", desc := "()V" } : Jvm.MethodName)) ∈ ag_all := ag_in 669 (by decide +kernel) (by decide +kernel)
theorem m_671 : (Jvm.Cond.instanceMethod ({ cls := "TwinRegisterModel", name := "empties", desc := "()V" } : Jvm.MethodName)) ∈ ag_all := ag_in 671 (by decide +kernel) (by decide +kernel)
theorem m_672 : (Jvm.Cond.code ({ cls := "TwinRegisterModel", name := "empties", desc := "()V" } : Jvm.MethodName) prog_7_method_11_code (2 : Nat) (Option.none : Option Jvm.ClassFile.FieldType)) ∈ ag_all := ag_in 672 (by decide +kernel) (by decide +kernel)
theorem m_673 : (Jvm.Cond.methodLink "TwinRegisterLaw" (107 : Nat) ({ cls := "TwinRegisterModel", name := "report", desc := "(II)I" } : Jvm.MethodName)) ∈ ag_all := ag_in 673 (by decide +kernel) (by decide +kernel)
theorem m_674 : (Jvm.Cond.instanceMethod ({ cls := "TwinRegisterModel", name := "report", desc := "(II)I" } : Jvm.MethodName)) ∈ ag_all := ag_in 674 (by decide +kernel) (by decide +kernel)
theorem m_675 : (Jvm.Cond.selects "TwinRegisterModel" ({ cls := "TwinRegisterModel", name := "report", desc := "(II)I" } : Jvm.MethodName) ({ cls := "TwinRegisterModel", name := "report", desc := "(II)I" } : Jvm.MethodName)) ∈ ag_all := ag_in 675 (by decide +kernel) (by decide +kernel)
theorem m_676 : (Jvm.Cond.code ({ cls := "TwinRegisterModel", name := "report", desc := "(II)I" } : Jvm.MethodName) prog_7_method_16_code (5 : Nat) (Option.some Jvm.ClassFile.FieldType.int)) ∈ ag_all := ag_in 676 (by decide +kernel) (by decide +kernel)
theorem m_677 : (Jvm.Cond.methodLink "TwinRegisterModel" (101 : Nat) ({ cls := "TwinRegisterModel", name := "differing", desc := "(I)I" } : Jvm.MethodName)) ∈ ag_all := ag_in 677 (by decide +kernel) (by decide +kernel)
theorem m_679 : (Jvm.Cond.instanceMethod ({ cls := "TwinRegisterModel", name := "differing", desc := "(I)I" } : Jvm.MethodName)) ∈ ag_all := ag_in 679 (by decide +kernel) (by decide +kernel)
theorem m_680 : (Jvm.Cond.code ({ cls := "TwinRegisterModel", name := "differing", desc := "(I)I" } : Jvm.MethodName) prog_7_method_13_code (4 : Nat) (Option.some Jvm.ClassFile.FieldType.int)) ∈ ag_all := ag_in 680 (by decide +kernel) (by decide +kernel)
theorem m_681 : (Jvm.Cond.methodLink "TwinRegisterModel" (87 : Nat) ({ cls := "TwinRegisterModel", name := "differs", desc := "(II)Z" } : Jvm.MethodName)) ∈ ag_all := ag_in 681 (by decide +kernel) (by decide +kernel)
theorem m_683 : (Jvm.Cond.instanceMethod ({ cls := "TwinRegisterModel", name := "differs", desc := "(II)Z" } : Jvm.MethodName)) ∈ ag_all := ag_in 683 (by decide +kernel) (by decide +kernel)
theorem m_684 : (Jvm.Cond.code ({ cls := "TwinRegisterModel", name := "differs", desc := "(II)Z" } : Jvm.MethodName) prog_7_method_12_code (4 : Nat) (Option.some Jvm.ClassFile.FieldType.boolean)) ∈ ag_all := ag_in 684 (by decide +kernel) (by decide +kernel)
theorem m_685 : (Jvm.Cond.methodLink "TwinRegisterModel" (105 : Nat) ({ cls := "TwinRegisterModel", name := "manyOf", desc := "(I)I" } : Jvm.MethodName)) ∈ ag_all := ag_in 685 (by decide +kernel) (by decide +kernel)
theorem m_686 : (Jvm.Cond.static ({ cls := "TwinRegisterModel", name := "manyOf", desc := "(I)I" } : Jvm.MethodName)) ∈ ag_all := ag_in 686 (by decide +kernel) (by decide +kernel)
theorem m_687 : (Jvm.Cond.code ({ cls := "TwinRegisterModel", name := "manyOf", desc := "(I)I" } : Jvm.MethodName) prog_7_method_7_code (3 : Nat) (Option.some Jvm.ClassFile.FieldType.int)) ∈ ag_all := ag_in 687 (by decide +kernel) (by decide +kernel)
theorem m_688 : (Jvm.Cond.methodLink "TwinRegisterLaw" (110 : Nat) ({ cls := "TwinRegisterModel", name := "obey", desc := "(I)I" } : Jvm.MethodName)) ∈ ag_all := ag_in 688 (by decide +kernel) (by decide +kernel)
theorem m_689 : (Jvm.Cond.instanceMethod ({ cls := "TwinRegisterModel", name := "obey", desc := "(I)I" } : Jvm.MethodName)) ∈ ag_all := ag_in 689 (by decide +kernel) (by decide +kernel)
theorem m_690 : (Jvm.Cond.selects "TwinRegisterModel" ({ cls := "TwinRegisterModel", name := "obey", desc := "(I)I" } : Jvm.MethodName) ({ cls := "TwinRegisterModel", name := "obey", desc := "(I)I" } : Jvm.MethodName)) ∈ ag_all := ag_in 690 (by decide +kernel) (by decide +kernel)
theorem m_691 : (Jvm.Cond.code ({ cls := "TwinRegisterModel", name := "obey", desc := "(I)I" } : Jvm.MethodName) prog_7_method_17_code (5 : Nat) (Option.some Jvm.ClassFile.FieldType.int)) ∈ ag_all := ag_in 691 (by decide +kernel) (by decide +kernel)
theorem m_692 : (Jvm.Cond.methodLink "TwinRegisterLaw" (114 : Nat) ({ cls := "TwinRegisterModel", name := "refuse", desc := "(III)I" } : Jvm.MethodName)) ∈ ag_all := ag_in 692 (by decide +kernel) (by decide +kernel)
theorem m_693 : (Jvm.Cond.instanceMethod ({ cls := "TwinRegisterModel", name := "refuse", desc := "(III)I" } : Jvm.MethodName)) ∈ ag_all := ag_in 693 (by decide +kernel) (by decide +kernel)
theorem m_694 : (Jvm.Cond.selects "TwinRegisterModel" ({ cls := "TwinRegisterModel", name := "refuse", desc := "(III)I" } : Jvm.MethodName) ({ cls := "TwinRegisterModel", name := "refuse", desc := "(III)I" } : Jvm.MethodName)) ∈ ag_all := ag_in 694 (by decide +kernel) (by decide +kernel)
theorem m_695 : (Jvm.Cond.code ({ cls := "TwinRegisterModel", name := "refuse", desc := "(III)I" } : Jvm.MethodName) prog_7_method_18_code (4 : Nat) (Option.some Jvm.ClassFile.FieldType.int)) ∈ ag_all := ag_in 695 (by decide +kernel) (by decide +kernel)
theorem m_696 : (Jvm.Cond.methodLink "TwinRegisterLaw" (117 : Nat) ({ cls := "TwinRegisterModel", name := "sleep", desc := "(I)Z" } : Jvm.MethodName)) ∈ ag_all := ag_in 696 (by decide +kernel) (by decide +kernel)
theorem m_697 : (Jvm.Cond.instanceMethod ({ cls := "TwinRegisterModel", name := "sleep", desc := "(I)Z" } : Jvm.MethodName)) ∈ ag_all := ag_in 697 (by decide +kernel) (by decide +kernel)
theorem m_698 : (Jvm.Cond.selects "TwinRegisterModel" ({ cls := "TwinRegisterModel", name := "sleep", desc := "(I)Z" } : Jvm.MethodName) ({ cls := "TwinRegisterModel", name := "sleep", desc := "(I)Z" } : Jvm.MethodName)) ∈ ag_all := ag_in 698 (by decide +kernel) (by decide +kernel)
theorem m_699 : (Jvm.Cond.code ({ cls := "TwinRegisterModel", name := "sleep", desc := "(I)Z" } : Jvm.MethodName) prog_7_method_19_code (3 : Nat) (Option.some Jvm.ClassFile.FieldType.boolean)) ∈ ag_all := ag_in 699 (by decide +kernel) (by decide +kernel)
theorem m_700 : (Jvm.Cond.methodLink "TwinRegisterLaw" (120 : Nat) ({ cls := "TwinRegisterModel", name := "wake", desc := "(I)I" } : Jvm.MethodName)) ∈ ag_all := ag_in 700 (by decide +kernel) (by decide +kernel)
theorem m_701 : (Jvm.Cond.instanceMethod ({ cls := "TwinRegisterModel", name := "wake", desc := "(I)I" } : Jvm.MethodName)) ∈ ag_all := ag_in 701 (by decide +kernel) (by decide +kernel)
theorem m_702 : (Jvm.Cond.selects "TwinRegisterModel" ({ cls := "TwinRegisterModel", name := "wake", desc := "(I)I" } : Jvm.MethodName) ({ cls := "TwinRegisterModel", name := "wake", desc := "(I)I" } : Jvm.MethodName)) ∈ ag_all := ag_in 702 (by decide +kernel) (by decide +kernel)
theorem m_703 : (Jvm.Cond.code ({ cls := "TwinRegisterModel", name := "wake", desc := "(I)I" } : Jvm.MethodName) prog_7_method_21_code (3 : Nat) (Option.some Jvm.ClassFile.FieldType.int)) ∈ ag_all := ag_in 703 (by decide +kernel) (by decide +kernel)
theorem m_704 : (Jvm.Cond.methodLink "TwinRegisterModel" (108 : Nat) ({ cls := "TwinRegisterModel", name := "heardOf", desc := "(I)I" } : Jvm.MethodName)) ∈ ag_all := ag_in 704 (by decide +kernel) (by decide +kernel)
theorem m_706 : (Jvm.Cond.instanceMethod ({ cls := "TwinRegisterModel", name := "heardOf", desc := "(I)I" } : Jvm.MethodName)) ∈ ag_all := ag_in 706 (by decide +kernel) (by decide +kernel)
theorem m_707 : (Jvm.Cond.code ({ cls := "TwinRegisterModel", name := "heardOf", desc := "(I)I" } : Jvm.MethodName) prog_7_method_20_code (2 : Nat) (Option.some Jvm.ClassFile.FieldType.int)) ∈ ag_all := ag_in 707 (by decide +kernel) (by decide +kernel)
theorem m_708 : (Jvm.Cond.methodLink "TwinRegisterLaw" (124 : Nat) ({ cls := "TwinRegisterModel", name := "setGroup", desc := "(IIII)I" } : Jvm.MethodName)) ∈ ag_all := ag_in 708 (by decide +kernel) (by decide +kernel)
theorem m_709 : (Jvm.Cond.instanceMethod ({ cls := "TwinRegisterModel", name := "setGroup", desc := "(IIII)I" } : Jvm.MethodName)) ∈ ag_all := ag_in 709 (by decide +kernel) (by decide +kernel)
theorem m_710 : (Jvm.Cond.selects "TwinRegisterModel" ({ cls := "TwinRegisterModel", name := "setGroup", desc := "(IIII)I" } : Jvm.MethodName) ({ cls := "TwinRegisterModel", name := "setGroup", desc := "(IIII)I" } : Jvm.MethodName)) ∈ ag_all := ag_in 710 (by decide +kernel) (by decide +kernel)
theorem m_711 : (Jvm.Cond.code ({ cls := "TwinRegisterModel", name := "setGroup", desc := "(IIII)I" } : Jvm.MethodName) prog_7_method_23_code (5 : Nat) (Option.some Jvm.ClassFile.FieldType.int)) ∈ ag_all := ag_in 711 (by decide +kernel) (by decide +kernel)
theorem m_712 : (Jvm.Cond.methodLink "TwinRegisterModel" (111 : Nat) ({ cls := "TwinRegisterModel", name := "isGroup", desc := "(I)Z" } : Jvm.MethodName)) ∈ ag_all := ag_in 712 (by decide +kernel) (by decide +kernel)
theorem m_713 : (Jvm.Cond.static ({ cls := "TwinRegisterModel", name := "isGroup", desc := "(I)Z" } : Jvm.MethodName)) ∈ ag_all := ag_in 713 (by decide +kernel) (by decide +kernel)
theorem m_714 : (Jvm.Cond.code ({ cls := "TwinRegisterModel", name := "isGroup", desc := "(I)Z" } : Jvm.MethodName) prog_7_method_6_code (1 : Nat) (Option.some Jvm.ClassFile.FieldType.boolean)) ∈ ag_all := ag_in 714 (by decide +kernel) (by decide +kernel)
theorem m_715 : (Jvm.Cond.methodLink "TwinRegisterModel" (114 : Nat) ({ cls := "TwinRegisterModel", name := "membersOf", desc := "(I)I" } : Jvm.MethodName)) ∈ ag_all := ag_in 715 (by decide +kernel) (by decide +kernel)
theorem m_717 : (Jvm.Cond.instanceMethod ({ cls := "TwinRegisterModel", name := "membersOf", desc := "(I)I" } : Jvm.MethodName)) ∈ ag_all := ag_in 717 (by decide +kernel) (by decide +kernel)
theorem m_718 : (Jvm.Cond.code ({ cls := "TwinRegisterModel", name := "membersOf", desc := "(I)I" } : Jvm.MethodName) prog_7_method_22_code (5 : Nat) (Option.some Jvm.ClassFile.FieldType.int)) ∈ ag_all := ag_in 718 (by decide +kernel) (by decide +kernel)
theorem m_719 : (Jvm.Cond.methodLink "TwinRegisterLaw" (128 : Nat) ({ cls := "TwinRegisterModel", name := "addJob", desc := "(IIIII)I" } : Jvm.MethodName)) ∈ ag_all := ag_in 719 (by decide +kernel) (by decide +kernel)
theorem m_720 : (Jvm.Cond.instanceMethod ({ cls := "TwinRegisterModel", name := "addJob", desc := "(IIIII)I" } : Jvm.MethodName)) ∈ ag_all := ag_in 720 (by decide +kernel) (by decide +kernel)
theorem m_721 : (Jvm.Cond.selects "TwinRegisterModel" ({ cls := "TwinRegisterModel", name := "addJob", desc := "(IIIII)I" } : Jvm.MethodName) ({ cls := "TwinRegisterModel", name := "addJob", desc := "(IIIII)I" } : Jvm.MethodName)) ∈ ag_all := ag_in 721 (by decide +kernel) (by decide +kernel)
theorem m_722 : (Jvm.Cond.code ({ cls := "TwinRegisterModel", name := "addJob", desc := "(IIIII)I" } : Jvm.MethodName) prog_7_method_24_code (7 : Nat) (Option.some Jvm.ClassFile.FieldType.int)) ∈ ag_all := ag_in 722 (by decide +kernel) (by decide +kernel)
theorem m_723 : (Jvm.Cond.methodLink "TwinRegisterLaw" (132 : Nat) ({ cls := "TwinRegisterModel", name := "wave", desc := "()I" } : Jvm.MethodName)) ∈ ag_all := ag_in 723 (by decide +kernel) (by decide +kernel)
theorem m_724 : (Jvm.Cond.instanceMethod ({ cls := "TwinRegisterModel", name := "wave", desc := "()I" } : Jvm.MethodName)) ∈ ag_all := ag_in 724 (by decide +kernel) (by decide +kernel)
theorem m_725 : (Jvm.Cond.selects "TwinRegisterModel" ({ cls := "TwinRegisterModel", name := "wave", desc := "()I" } : Jvm.MethodName) ({ cls := "TwinRegisterModel", name := "wave", desc := "()I" } : Jvm.MethodName)) ∈ ag_all := ag_in 725 (by decide +kernel) (by decide +kernel)
theorem m_726 : (Jvm.Cond.code ({ cls := "TwinRegisterModel", name := "wave", desc := "()I" } : Jvm.MethodName) prog_7_method_27_code (3 : Nat) (Option.some Jvm.ClassFile.FieldType.int)) ∈ ag_all := ag_in 726 (by decide +kernel) (by decide +kernel)
theorem m_727 : (Jvm.Cond.methodLink "TwinRegisterModel" (120 : Nat) ({ cls := "TwinRegisterModel", name := "looks", desc := "(I)V" } : Jvm.MethodName)) ∈ ag_all := ag_in 727 (by decide +kernel) (by decide +kernel)
theorem m_729 : (Jvm.Cond.instanceMethod ({ cls := "TwinRegisterModel", name := "looks", desc := "(I)V" } : Jvm.MethodName)) ∈ ag_all := ag_in 729 (by decide +kernel) (by decide +kernel)
theorem m_730 : (Jvm.Cond.code ({ cls := "TwinRegisterModel", name := "looks", desc := "(I)V" } : Jvm.MethodName) prog_7_method_25_code (5 : Nat) (Option.none : Option Jvm.ClassFile.FieldType)) ∈ ag_all := ag_in 730 (by decide +kernel) (by decide +kernel)
theorem m_731 : (Jvm.Cond.methodLink "TwinRegisterModel" (124 : Nat) ({ cls := "TwinRegisterModel", name := "starts", desc := "(I)I" } : Jvm.MethodName)) ∈ ag_all := ag_in 731 (by decide +kernel) (by decide +kernel)
theorem m_733 : (Jvm.Cond.instanceMethod ({ cls := "TwinRegisterModel", name := "starts", desc := "(I)I" } : Jvm.MethodName)) ∈ ag_all := ag_in 733 (by decide +kernel) (by decide +kernel)
theorem m_734 : (Jvm.Cond.code ({ cls := "TwinRegisterModel", name := "starts", desc := "(I)I" } : Jvm.MethodName) prog_7_method_26_code (5 : Nat) (Option.some Jvm.ClassFile.FieldType.int)) ∈ ag_all := ag_in 734 (by decide +kernel) (by decide +kernel)
theorem m_735 : (Jvm.Cond.methodLink "TwinRegisterLaw" (135 : Nat) ({ cls := "TwinRegisterModel", name := "cancel", desc := "(I)I" } : Jvm.MethodName)) ∈ ag_all := ag_in 735 (by decide +kernel) (by decide +kernel)
theorem m_736 : (Jvm.Cond.instanceMethod ({ cls := "TwinRegisterModel", name := "cancel", desc := "(I)I" } : Jvm.MethodName)) ∈ ag_all := ag_in 736 (by decide +kernel) (by decide +kernel)
theorem m_737 : (Jvm.Cond.selects "TwinRegisterModel" ({ cls := "TwinRegisterModel", name := "cancel", desc := "(I)I" } : Jvm.MethodName) ({ cls := "TwinRegisterModel", name := "cancel", desc := "(I)I" } : Jvm.MethodName)) ∈ ag_all := ag_in 737 (by decide +kernel) (by decide +kernel)
theorem m_738 : (Jvm.Cond.code ({ cls := "TwinRegisterModel", name := "cancel", desc := "(I)I" } : Jvm.MethodName) prog_7_method_29_code (2 : Nat) (Option.some Jvm.ClassFile.FieldType.int)) ∈ ag_all := ag_in 738 (by decide +kernel) (by decide +kernel)
theorem m_739 : (Jvm.Cond.methodLink "TwinRegisterModel" (127 : Nat) ({ cls := "TwinRegisterModel", name := "isJob", desc := "(I)Z" } : Jvm.MethodName)) ∈ ag_all := ag_in 739 (by decide +kernel) (by decide +kernel)
theorem m_741 : (Jvm.Cond.instanceMethod ({ cls := "TwinRegisterModel", name := "isJob", desc := "(I)Z" } : Jvm.MethodName)) ∈ ag_all := ag_in 741 (by decide +kernel) (by decide +kernel)
theorem m_742 : (Jvm.Cond.code ({ cls := "TwinRegisterModel", name := "isJob", desc := "(I)Z" } : Jvm.MethodName) prog_7_method_28_code (2 : Nat) (Option.some Jvm.ClassFile.FieldType.boolean)) ∈ ag_all := ag_in 742 (by decide +kernel) (by decide +kernel)
theorem m_743 : (Jvm.Cond.methodLink "TwinRegisterLaw" (138 : Nat) ({ cls := "TwinRegisterModel", name := "version", desc := "(I)I" } : Jvm.MethodName)) ∈ ag_all := ag_in 743 (by decide +kernel) (by decide +kernel)
theorem m_744 : (Jvm.Cond.instanceMethod ({ cls := "TwinRegisterModel", name := "version", desc := "(I)I" } : Jvm.MethodName)) ∈ ag_all := ag_in 744 (by decide +kernel) (by decide +kernel)
theorem m_745 : (Jvm.Cond.selects "TwinRegisterModel" ({ cls := "TwinRegisterModel", name := "version", desc := "(I)I" } : Jvm.MethodName) ({ cls := "TwinRegisterModel", name := "version", desc := "(I)I" } : Jvm.MethodName)) ∈ ag_all := ag_in 745 (by decide +kernel) (by decide +kernel)
theorem m_746 : (Jvm.Cond.code ({ cls := "TwinRegisterModel", name := "version", desc := "(I)I" } : Jvm.MethodName) prog_7_method_31_code (2 : Nat) (Option.some Jvm.ClassFile.FieldType.int)) ∈ ag_all := ag_in 746 (by decide +kernel) (by decide +kernel)
theorem m_747 : (Jvm.Cond.methodLink "TwinRegisterModel" (130 : Nat) ({ cls := "TwinRegisterModel", name := "asks", desc := "(I)Z" } : Jvm.MethodName)) ∈ ag_all := ag_in 747 (by decide +kernel) (by decide +kernel)
theorem m_749 : (Jvm.Cond.instanceMethod ({ cls := "TwinRegisterModel", name := "asks", desc := "(I)Z" } : Jvm.MethodName)) ∈ ag_all := ag_in 749 (by decide +kernel) (by decide +kernel)
theorem m_750 : (Jvm.Cond.code ({ cls := "TwinRegisterModel", name := "asks", desc := "(I)Z" } : Jvm.MethodName) prog_7_method_30_code (2 : Nat) (Option.some Jvm.ClassFile.FieldType.boolean)) ∈ ag_all := ag_in 750 (by decide +kernel) (by decide +kernel)
theorem m_751 : (Jvm.Cond.methodLink "TwinRegisterLaw" (141 : Nat) ({ cls := "TwinRegisterModel", name := "heard", desc := "(I)I" } : Jvm.MethodName)) ∈ ag_all := ag_in 751 (by decide +kernel) (by decide +kernel)
theorem m_752 : (Jvm.Cond.instanceMethod ({ cls := "TwinRegisterModel", name := "heard", desc := "(I)I" } : Jvm.MethodName)) ∈ ag_all := ag_in 752 (by decide +kernel) (by decide +kernel)
theorem m_753 : (Jvm.Cond.selects "TwinRegisterModel" ({ cls := "TwinRegisterModel", name := "heard", desc := "(I)I" } : Jvm.MethodName) ({ cls := "TwinRegisterModel", name := "heard", desc := "(I)I" } : Jvm.MethodName)) ∈ ag_all := ag_in 753 (by decide +kernel) (by decide +kernel)
theorem m_754 : (Jvm.Cond.code ({ cls := "TwinRegisterModel", name := "heard", desc := "(I)I" } : Jvm.MethodName) prog_7_method_32_code (2 : Nat) (Option.some Jvm.ClassFile.FieldType.int)) ∈ ag_all := ag_in 754 (by decide +kernel) (by decide +kernel)
theorem m_755 : (Jvm.Cond.methodLink "TwinRegisterLaw" (144 : Nat) ({ cls := "TwinRegisterModel", name := "wished", desc := "(II)I" } : Jvm.MethodName)) ∈ ag_all := ag_in 755 (by decide +kernel) (by decide +kernel)
theorem m_756 : (Jvm.Cond.instanceMethod ({ cls := "TwinRegisterModel", name := "wished", desc := "(II)I" } : Jvm.MethodName)) ∈ ag_all := ag_in 756 (by decide +kernel) (by decide +kernel)
theorem m_757 : (Jvm.Cond.selects "TwinRegisterModel" ({ cls := "TwinRegisterModel", name := "wished", desc := "(II)I" } : Jvm.MethodName) ({ cls := "TwinRegisterModel", name := "wished", desc := "(II)I" } : Jvm.MethodName)) ∈ ag_all := ag_in 757 (by decide +kernel) (by decide +kernel)
theorem m_758 : (Jvm.Cond.code ({ cls := "TwinRegisterModel", name := "wished", desc := "(II)I" } : Jvm.MethodName) prog_7_method_34_code (3 : Nat) (Option.some Jvm.ClassFile.FieldType.int)) ∈ ag_all := ag_in 758 (by decide +kernel) (by decide +kernel)
theorem m_759 : (Jvm.Cond.methodLink "TwinRegisterModel" (133 : Nat) ({ cls := "TwinRegisterModel", name := "asksLeaf", desc := "(II)Z" } : Jvm.MethodName)) ∈ ag_all := ag_in 759 (by decide +kernel) (by decide +kernel)
theorem m_761 : (Jvm.Cond.instanceMethod ({ cls := "TwinRegisterModel", name := "asksLeaf", desc := "(II)Z" } : Jvm.MethodName)) ∈ ag_all := ag_in 761 (by decide +kernel) (by decide +kernel)
theorem m_762 : (Jvm.Cond.code ({ cls := "TwinRegisterModel", name := "asksLeaf", desc := "(II)Z" } : Jvm.MethodName) prog_7_method_33_code (3 : Nat) (Option.some Jvm.ClassFile.FieldType.boolean)) ∈ ag_all := ag_in 762 (by decide +kernel) (by decide +kernel)
theorem m_763 : (Jvm.Cond.methodLink "TwinRegisterLaw" (147 : Nat) ({ cls := "TwinRegisterModel", name := "reported", desc := "(II)I" } : Jvm.MethodName)) ∈ ag_all := ag_in 763 (by decide +kernel) (by decide +kernel)
theorem m_764 : (Jvm.Cond.instanceMethod ({ cls := "TwinRegisterModel", name := "reported", desc := "(II)I" } : Jvm.MethodName)) ∈ ag_all := ag_in 764 (by decide +kernel) (by decide +kernel)
theorem m_765 : (Jvm.Cond.selects "TwinRegisterModel" ({ cls := "TwinRegisterModel", name := "reported", desc := "(II)I" } : Jvm.MethodName) ({ cls := "TwinRegisterModel", name := "reported", desc := "(II)I" } : Jvm.MethodName)) ∈ ag_all := ag_in 765 (by decide +kernel) (by decide +kernel)
theorem m_766 : (Jvm.Cond.code ({ cls := "TwinRegisterModel", name := "reported", desc := "(II)I" } : Jvm.MethodName) prog_7_method_35_code (3 : Nat) (Option.some Jvm.ClassFile.FieldType.int)) ∈ ag_all := ag_in 766 (by decide +kernel) (by decide +kernel)
theorem m_767 : (Jvm.Cond.methodLink "TwinRegisterLaw" (150 : Nat) ({ cls := "TwinRegisterModel", name := "why", desc := "(II)I" } : Jvm.MethodName)) ∈ ag_all := ag_in 767 (by decide +kernel) (by decide +kernel)
theorem m_768 : (Jvm.Cond.instanceMethod ({ cls := "TwinRegisterModel", name := "why", desc := "(II)I" } : Jvm.MethodName)) ∈ ag_all := ag_in 768 (by decide +kernel) (by decide +kernel)
theorem m_769 : (Jvm.Cond.selects "TwinRegisterModel" ({ cls := "TwinRegisterModel", name := "why", desc := "(II)I" } : Jvm.MethodName) ({ cls := "TwinRegisterModel", name := "why", desc := "(II)I" } : Jvm.MethodName)) ∈ ag_all := ag_in 769 (by decide +kernel) (by decide +kernel)
theorem m_770 : (Jvm.Cond.code ({ cls := "TwinRegisterModel", name := "why", desc := "(II)I" } : Jvm.MethodName) prog_7_method_36_code (3 : Nat) (Option.some Jvm.ClassFile.FieldType.int)) ∈ ag_all := ag_in 770 (by decide +kernel) (by decide +kernel)
theorem m_771 : (Jvm.Cond.methodLink "TwinRegisterLaw" (153 : Nat) ({ cls := "TwinRegisterModel", name := "differences", desc := "(I)I" } : Jvm.MethodName)) ∈ ag_all := ag_in 771 (by decide +kernel) (by decide +kernel)
theorem m_772 : (Jvm.Cond.instanceMethod ({ cls := "TwinRegisterModel", name := "differences", desc := "(I)I" } : Jvm.MethodName)) ∈ ag_all := ag_in 772 (by decide +kernel) (by decide +kernel)
theorem m_773 : (Jvm.Cond.selects "TwinRegisterModel" ({ cls := "TwinRegisterModel", name := "differences", desc := "(I)I" } : Jvm.MethodName) ({ cls := "TwinRegisterModel", name := "differences", desc := "(I)I" } : Jvm.MethodName)) ∈ ag_all := ag_in 773 (by decide +kernel) (by decide +kernel)
theorem m_774 : (Jvm.Cond.code ({ cls := "TwinRegisterModel", name := "differences", desc := "(I)I" } : Jvm.MethodName) prog_7_method_37_code (2 : Nat) (Option.some Jvm.ClassFile.FieldType.int)) ∈ ag_all := ag_in 774 (by decide +kernel) (by decide +kernel)
theorem m_775 : (Jvm.Cond.methodLink "TwinRegisterLaw" (156 : Nat) ({ cls := "TwinRegisterModel", name := "differencesAnew", desc := "(I)I" } : Jvm.MethodName)) ∈ ag_all := ag_in 775 (by decide +kernel) (by decide +kernel)
theorem m_776 : (Jvm.Cond.instanceMethod ({ cls := "TwinRegisterModel", name := "differencesAnew", desc := "(I)I" } : Jvm.MethodName)) ∈ ag_all := ag_in 776 (by decide +kernel) (by decide +kernel)
theorem m_777 : (Jvm.Cond.selects "TwinRegisterModel" ({ cls := "TwinRegisterModel", name := "differencesAnew", desc := "(I)I" } : Jvm.MethodName) ({ cls := "TwinRegisterModel", name := "differencesAnew", desc := "(I)I" } : Jvm.MethodName)) ∈ ag_all := ag_in 777 (by decide +kernel) (by decide +kernel)
theorem m_778 : (Jvm.Cond.code ({ cls := "TwinRegisterModel", name := "differencesAnew", desc := "(I)I" } : Jvm.MethodName) prog_7_method_38_code (2 : Nat) (Option.some Jvm.ClassFile.FieldType.int)) ∈ ag_all := ag_in 778 (by decide +kernel) (by decide +kernel)
theorem m_779 : (Jvm.Cond.methodLink "TwinRegisterLaw" (159 : Nat) ({ cls := "TwinRegisterModel", name := "members", desc := "(I)I" } : Jvm.MethodName)) ∈ ag_all := ag_in 779 (by decide +kernel) (by decide +kernel)
theorem m_780 : (Jvm.Cond.instanceMethod ({ cls := "TwinRegisterModel", name := "members", desc := "(I)I" } : Jvm.MethodName)) ∈ ag_all := ag_in 780 (by decide +kernel) (by decide +kernel)
theorem m_781 : (Jvm.Cond.selects "TwinRegisterModel" ({ cls := "TwinRegisterModel", name := "members", desc := "(I)I" } : Jvm.MethodName) ({ cls := "TwinRegisterModel", name := "members", desc := "(I)I" } : Jvm.MethodName)) ∈ ag_all := ag_in 781 (by decide +kernel) (by decide +kernel)
theorem m_782 : (Jvm.Cond.code ({ cls := "TwinRegisterModel", name := "members", desc := "(I)I" } : Jvm.MethodName) prog_7_method_39_code (2 : Nat) (Option.some Jvm.ClassFile.FieldType.int)) ∈ ag_all := ag_in 782 (by decide +kernel) (by decide +kernel)
theorem m_783 : (Jvm.Cond.methodLink "TwinRegisterLaw" (163 : Nat) ({ cls := "TwinRegisterModel", name := "jobs", desc := "()I" } : Jvm.MethodName)) ∈ ag_all := ag_in 783 (by decide +kernel) (by decide +kernel)
theorem m_784 : (Jvm.Cond.instanceMethod ({ cls := "TwinRegisterModel", name := "jobs", desc := "()I" } : Jvm.MethodName)) ∈ ag_all := ag_in 784 (by decide +kernel) (by decide +kernel)
theorem m_785 : (Jvm.Cond.selects "TwinRegisterModel" ({ cls := "TwinRegisterModel", name := "jobs", desc := "()I" } : Jvm.MethodName) ({ cls := "TwinRegisterModel", name := "jobs", desc := "()I" } : Jvm.MethodName)) ∈ ag_all := ag_in 785 (by decide +kernel) (by decide +kernel)
theorem m_786 : (Jvm.Cond.code ({ cls := "TwinRegisterModel", name := "jobs", desc := "()I" } : Jvm.MethodName) prog_7_method_40_code (1 : Nat) (Option.some Jvm.ClassFile.FieldType.int)) ∈ ag_all := ag_in 786 (by decide +kernel) (by decide +kernel)
theorem m_787 : (Jvm.Cond.methodLink "TwinRegisterLaw" (166 : Nat) ({ cls := "TwinRegisterModel", name := "state", desc := "(I)I" } : Jvm.MethodName)) ∈ ag_all := ag_in 787 (by decide +kernel) (by decide +kernel)
theorem m_788 : (Jvm.Cond.instanceMethod ({ cls := "TwinRegisterModel", name := "state", desc := "(I)I" } : Jvm.MethodName)) ∈ ag_all := ag_in 788 (by decide +kernel) (by decide +kernel)
theorem m_789 : (Jvm.Cond.selects "TwinRegisterModel" ({ cls := "TwinRegisterModel", name := "state", desc := "(I)I" } : Jvm.MethodName) ({ cls := "TwinRegisterModel", name := "state", desc := "(I)I" } : Jvm.MethodName)) ∈ ag_all := ag_in 789 (by decide +kernel) (by decide +kernel)
theorem m_790 : (Jvm.Cond.code ({ cls := "TwinRegisterModel", name := "state", desc := "(I)I" } : Jvm.MethodName) prog_7_method_41_code (2 : Nat) (Option.some Jvm.ClassFile.FieldType.int)) ∈ ag_all := ag_in 790 (by decide +kernel) (by decide +kernel)
theorem m_791 : (Jvm.Cond.methodLink "TwinRegisterLaw" (169 : Nat) ({ cls := "TwinRegisterModel", name := "devices", desc := "(II)I" } : Jvm.MethodName)) ∈ ag_all := ag_in 791 (by decide +kernel) (by decide +kernel)
theorem m_792 : (Jvm.Cond.instanceMethod ({ cls := "TwinRegisterModel", name := "devices", desc := "(II)I" } : Jvm.MethodName)) ∈ ag_all := ag_in 792 (by decide +kernel) (by decide +kernel)
theorem m_793 : (Jvm.Cond.selects "TwinRegisterModel" ({ cls := "TwinRegisterModel", name := "devices", desc := "(II)I" } : Jvm.MethodName) ({ cls := "TwinRegisterModel", name := "devices", desc := "(II)I" } : Jvm.MethodName)) ∈ ag_all := ag_in 793 (by decide +kernel) (by decide +kernel)
theorem m_794 : (Jvm.Cond.code ({ cls := "TwinRegisterModel", name := "devices", desc := "(II)I" } : Jvm.MethodName) prog_7_method_42_code (3 : Nat) (Option.some Jvm.ClassFile.FieldType.int)) ∈ ag_all := ag_in 794 (by decide +kernel) (by decide +kernel)
theorem m_795 : (Jvm.Cond.arrayClass Jvm.ClassFile.FieldType.long) ∈ ag_all := ag_in 795 (by decide +kernel) (by decide +kernel)
theorem m_796 : (Jvm.Cond.sameMethod "java/lang/Throwable" "java/lang/Throwable" "fillInStackTrace" "(I)Ljava/lang/Throwable;") ∈ ag_all := ag_in 796 (by decide +kernel) (by decide +kernel)
end
section
theorem d_T_init_0 : decode b_T_init 0 = .ok (.aload_n 0, 1) := by decide +kernel
theorem d_T_init_1 : decode b_T_init 1 = .ok (.invokespecial 1, 3) := by decide +kernel
theorem d_T_init_4 : decode b_T_init 4 = .ok (.aload_n 0, 1) := by decide +kernel
theorem d_T_init_5 : decode b_T_init 5 = .ok (.new 7, 3) := by decide +kernel
theorem d_T_init_8 : decode b_T_init 8 = .ok (.dup, 1) := by decide +kernel
theorem d_T_init_9 : decode b_T_init 9 = .ok (.invokespecial 9, 3) := by decide +kernel
theorem d_T_init_12 : decode b_T_init 12 = .ok (.putfield 10, 3) := by decide +kernel
theorem d_T_init_15 : decode b_T_init 15 = .ok (.aload_n 0, 1) := by decide +kernel
theorem d_T_init_16 : decode b_T_init 16 = .ok (.bipush 8, 2) := by decide +kernel
theorem d_T_init_18 : decode b_T_init 18 = .ok (.anewarray 16, 3) := by decide +kernel
theorem d_T_init_21 : decode b_T_init 21 = .ok (.putfield 18, 3) := by decide +kernel
theorem d_T_init_24 : decode b_T_init 24 = .ok (.iconst 0, 1) := by decide +kernel
theorem d_T_init_25 : decode b_T_init 25 = .ok (.istore_n 1, 1) := by decide +kernel
theorem d_T_init_26 : decode b_T_init 26 = .ok (.iload_n 1, 1) := by decide +kernel
theorem d_T_init_27 : decode b_T_init 27 = .ok (.bipush 8, 2) := by decide +kernel
theorem d_T_init_29 : decode b_T_init 29 = .ok (.if_icmp .ge 22, 3) := by decide +kernel
theorem d_T_init_32 : decode b_T_init 32 = .ok (.aload_n 0, 1) := by decide +kernel
theorem d_T_init_33 : decode b_T_init 33 = .ok (.getfield 18, 3) := by decide +kernel
theorem d_T_init_36 : decode b_T_init 36 = .ok (.iload_n 1, 1) := by decide +kernel
theorem d_T_init_37 : decode b_T_init 37 = .ok (.new 16, 3) := by decide +kernel
theorem d_T_init_40 : decode b_T_init 40 = .ok (.dup, 1) := by decide +kernel
theorem d_T_init_41 : decode b_T_init 41 = .ok (.invokespecial 22, 3) := by decide +kernel
theorem d_T_init_44 : decode b_T_init 44 = .ok (.aastore, 1) := by decide +kernel
theorem d_T_init_45 : decode b_T_init 45 = .ok (.iinc 1 1, 3) := by decide +kernel
theorem d_T_init_48 : decode b_T_init 48 = .ok (.goto (-22), 3) := by decide +kernel
theorem d_T_init_51 : decode b_T_init 51 = .ok (.aload_n 0, 1) := by decide +kernel
theorem d_T_init_52 : decode b_T_init 52 = .ok (.iconst 4, 1) := by decide +kernel
theorem d_T_init_53 : decode b_T_init 53 = .ok (.anewarray 23, 3) := by decide +kernel
theorem d_T_init_56 : decode b_T_init 56 = .ok (.putfield 25, 3) := by decide +kernel
theorem d_T_init_59 : decode b_T_init 59 = .ok (.iconst 0, 1) := by decide +kernel
theorem d_T_init_60 : decode b_T_init 60 = .ok (.istore_n 1, 1) := by decide +kernel
theorem d_T_init_61 : decode b_T_init 61 = .ok (.iload_n 1, 1) := by decide +kernel
theorem d_T_init_62 : decode b_T_init 62 = .ok (.iconst 4, 1) := by decide +kernel
theorem d_T_init_63 : decode b_T_init 63 = .ok (.if_icmp .ge 22, 3) := by decide +kernel
theorem d_T_init_66 : decode b_T_init 66 = .ok (.aload_n 0, 1) := by decide +kernel
theorem d_T_init_67 : decode b_T_init 67 = .ok (.getfield 25, 3) := by decide +kernel
theorem d_T_init_70 : decode b_T_init 70 = .ok (.iload_n 1, 1) := by decide +kernel
theorem d_T_init_71 : decode b_T_init 71 = .ok (.new 23, 3) := by decide +kernel
theorem d_T_init_74 : decode b_T_init 74 = .ok (.dup, 1) := by decide +kernel
theorem d_T_init_75 : decode b_T_init 75 = .ok (.invokespecial 29, 3) := by decide +kernel
theorem d_T_init_78 : decode b_T_init 78 = .ok (.aastore, 1) := by decide +kernel
theorem d_T_init_79 : decode b_T_init 79 = .ok (.iinc 1 1, 3) := by decide +kernel
theorem d_T_init_82 : decode b_T_init 82 = .ok (.goto (-21), 3) := by decide +kernel
theorem d_T_init_85 : decode b_T_init 85 = .ok (.aload_n 0, 1) := by decide +kernel
theorem d_T_init_86 : decode b_T_init 86 = .ok (.bipush 8, 2) := by decide +kernel
theorem d_T_init_88 : decode b_T_init 88 = .ok (.anewarray 30, 3) := by decide +kernel
theorem d_T_init_91 : decode b_T_init 91 = .ok (.putfield 32, 3) := by decide +kernel
theorem d_T_init_94 : decode b_T_init 94 = .ok (.iconst 0, 1) := by decide +kernel
theorem d_T_init_95 : decode b_T_init 95 = .ok (.istore_n 1, 1) := by decide +kernel
theorem d_T_init_96 : decode b_T_init 96 = .ok (.iload_n 1, 1) := by decide +kernel
theorem d_T_init_97 : decode b_T_init 97 = .ok (.bipush 8, 2) := by decide +kernel
theorem d_T_init_99 : decode b_T_init 99 = .ok (.if_icmp .ge 22, 3) := by decide +kernel
theorem d_T_init_102 : decode b_T_init 102 = .ok (.aload_n 0, 1) := by decide +kernel
theorem d_T_init_103 : decode b_T_init 103 = .ok (.getfield 32, 3) := by decide +kernel
theorem d_T_init_106 : decode b_T_init 106 = .ok (.iload_n 1, 1) := by decide +kernel
theorem d_T_init_107 : decode b_T_init 107 = .ok (.new 30, 3) := by decide +kernel
theorem d_T_init_110 : decode b_T_init 110 = .ok (.dup, 1) := by decide +kernel
theorem d_T_init_111 : decode b_T_init 111 = .ok (.invokespecial 36, 3) := by decide +kernel
theorem d_T_init_114 : decode b_T_init 114 = .ok (.aastore, 1) := by decide +kernel
theorem d_T_init_115 : decode b_T_init 115 = .ok (.iinc 1 1, 3) := by decide +kernel
theorem d_T_init_118 : decode b_T_init 118 = .ok (.goto (-22), 3) := by decide +kernel
theorem d_T_init_121 : decode b_T_init 121 = .ok (.aload_n 0, 1) := by decide +kernel
theorem d_T_init_122 : decode b_T_init 122 = .ok (.iconst 0, 1) := by decide +kernel
theorem d_T_init_123 : decode b_T_init 123 = .ok (.putfield 37, 3) := by decide +kernel
theorem d_T_init_126 : decode b_T_init 126 = .ok (.return_, 1) := by decide +kernel
theorem d_F_init_0 : decode b_F_init 0 = .ok (.aload_n 0, 1) := by decide +kernel
theorem d_F_init_1 : decode b_F_init 1 = .ok (.invokespecial 3, 3) := by decide +kernel
theorem d_F_init_4 : decode b_F_init 4 = .ok (.aload_n 0, 1) := by decide +kernel
theorem d_F_init_5 : decode b_F_init 5 = .ok (.bipush 12, 2) := by decide +kernel
theorem d_F_init_7 : decode b_F_init 7 = .ok (.newarray .int, 2) := by decide +kernel
theorem d_F_init_9 : decode b_F_init 9 = .ok (.putfield 9, 3) := by decide +kernel
theorem d_F_init_12 : decode b_F_init 12 = .ok (.aload_n 0, 1) := by decide +kernel
theorem d_F_init_13 : decode b_F_init 13 = .ok (.iconst 0, 1) := by decide +kernel
theorem d_F_init_14 : decode b_F_init 14 = .ok (.putfield 15, 3) := by decide +kernel
theorem d_F_init_17 : decode b_F_init 17 = .ok (.return_, 1) := by decide +kernel
theorem d_D_init_0 : decode b_D_init 0 = .ok (.aload_n 0, 1) := by decide +kernel
theorem d_D_init_1 : decode b_D_init 1 = .ok (.invokespecial 3, 3) := by decide +kernel
theorem d_D_init_4 : decode b_D_init 4 = .ok (.aload_n 0, 1) := by decide +kernel
theorem d_D_init_5 : decode b_D_init 5 = .ok (.bipush 12, 2) := by decide +kernel
theorem d_D_init_7 : decode b_D_init 7 = .ok (.newarray .int, 2) := by decide +kernel
theorem d_D_init_9 : decode b_D_init 9 = .ok (.putfield 9, 3) := by decide +kernel
theorem d_D_init_12 : decode b_D_init 12 = .ok (.aload_n 0, 1) := by decide +kernel
theorem d_D_init_13 : decode b_D_init 13 = .ok (.bipush 12, 2) := by decide +kernel
theorem d_D_init_15 : decode b_D_init 15 = .ok (.newarray .int, 2) := by decide +kernel
theorem d_D_init_17 : decode b_D_init 17 = .ok (.putfield 15, 3) := by decide +kernel
theorem d_D_init_20 : decode b_D_init 20 = .ok (.aload_n 0, 1) := by decide +kernel
theorem d_D_init_21 : decode b_D_init 21 = .ok (.bipush 12, 2) := by decide +kernel
theorem d_D_init_23 : decode b_D_init 23 = .ok (.newarray .int, 2) := by decide +kernel
theorem d_D_init_25 : decode b_D_init 25 = .ok (.putfield 18, 3) := by decide +kernel
theorem d_D_init_28 : decode b_D_init 28 = .ok (.iconst 0, 1) := by decide +kernel
theorem d_D_init_29 : decode b_D_init 29 = .ok (.istore_n 1, 1) := by decide +kernel
theorem d_D_init_30 : decode b_D_init 30 = .ok (.iload_n 1, 1) := by decide +kernel
theorem d_D_init_31 : decode b_D_init 31 = .ok (.bipush 12, 2) := by decide +kernel
theorem d_D_init_33 : decode b_D_init 33 = .ok (.if_icmp .ge 30, 3) := by decide +kernel
theorem d_D_init_36 : decode b_D_init 36 = .ok (.aload_n 0, 1) := by decide +kernel
theorem d_D_init_37 : decode b_D_init 37 = .ok (.getfield 9, 3) := by decide +kernel
theorem d_D_init_40 : decode b_D_init 40 = .ok (.iload_n 1, 1) := by decide +kernel
theorem d_D_init_41 : decode b_D_init 41 = .ok (.iconst (-1), 1) := by decide +kernel
theorem d_D_init_42 : decode b_D_init 42 = .ok (.iastore, 1) := by decide +kernel
theorem d_D_init_43 : decode b_D_init 43 = .ok (.aload_n 0, 1) := by decide +kernel
theorem d_D_init_44 : decode b_D_init 44 = .ok (.getfield 15, 3) := by decide +kernel
theorem d_D_init_47 : decode b_D_init 47 = .ok (.iload_n 1, 1) := by decide +kernel
theorem d_D_init_48 : decode b_D_init 48 = .ok (.iconst (-1), 1) := by decide +kernel
theorem d_D_init_49 : decode b_D_init 49 = .ok (.iastore, 1) := by decide +kernel
theorem d_D_init_50 : decode b_D_init 50 = .ok (.aload_n 0, 1) := by decide +kernel
theorem d_D_init_51 : decode b_D_init 51 = .ok (.getfield 18, 3) := by decide +kernel
theorem d_D_init_54 : decode b_D_init 54 = .ok (.iload_n 1, 1) := by decide +kernel
theorem d_D_init_55 : decode b_D_init 55 = .ok (.iconst 0, 1) := by decide +kernel
theorem d_D_init_56 : decode b_D_init 56 = .ok (.iastore, 1) := by decide +kernel
theorem d_D_init_57 : decode b_D_init 57 = .ok (.iinc 1 1, 3) := by decide +kernel
theorem d_D_init_60 : decode b_D_init 60 = .ok (.goto (-30), 3) := by decide +kernel
theorem d_D_init_63 : decode b_D_init 63 = .ok (.return_, 1) := by decide +kernel
theorem d_G_init_0 : decode b_G_init 0 = .ok (.aload_n 0, 1) := by decide +kernel
theorem d_G_init_1 : decode b_G_init 1 = .ok (.invokespecial 3, 3) := by decide +kernel
theorem d_G_init_4 : decode b_G_init 4 = .ok (.aload_n 0, 1) := by decide +kernel
theorem d_G_init_5 : decode b_G_init 5 = .ok (.iconst 0, 1) := by decide +kernel
theorem d_G_init_6 : decode b_G_init 6 = .ok (.putfield 9, 3) := by decide +kernel
theorem d_G_init_9 : decode b_G_init 9 = .ok (.aload_n 0, 1) := by decide +kernel
theorem d_G_init_10 : decode b_G_init 10 = .ok (.iconst 0, 1) := by decide +kernel
theorem d_G_init_11 : decode b_G_init 11 = .ok (.putfield 15, 3) := by decide +kernel
theorem d_G_init_14 : decode b_G_init 14 = .ok (.aload_n 0, 1) := by decide +kernel
theorem d_G_init_15 : decode b_G_init 15 = .ok (.bipush 99, 2) := by decide +kernel
theorem d_G_init_17 : decode b_G_init 17 = .ok (.putfield 18, 3) := by decide +kernel
theorem d_G_init_20 : decode b_G_init 20 = .ok (.return_, 1) := by decide +kernel
theorem d_J_init_0 : decode b_J_init 0 = .ok (.aload_n 0, 1) := by decide +kernel
theorem d_J_init_1 : decode b_J_init 1 = .ok (.invokespecial 3, 3) := by decide +kernel
theorem d_J_init_4 : decode b_J_init 4 = .ok (.aload_n 0, 1) := by decide +kernel
theorem d_J_init_5 : decode b_J_init 5 = .ok (.iconst 0, 1) := by decide +kernel
theorem d_J_init_6 : decode b_J_init 6 = .ok (.putfield 9, 3) := by decide +kernel
theorem d_J_init_9 : decode b_J_init 9 = .ok (.return_, 1) := by decide +kernel
theorem d_T_wave_0 : decode b_T_wave 0 = .ok (.iconst 0, 1) := by decide +kernel
theorem d_T_wave_1 : decode b_T_wave 1 = .ok (.istore_n 1, 1) := by decide +kernel
theorem d_T_wave_2 : decode b_T_wave 2 = .ok (.iconst 0, 1) := by decide +kernel
theorem d_T_wave_3 : decode b_T_wave 3 = .ok (.istore_n 2, 1) := by decide +kernel
theorem d_T_wave_4 : decode b_T_wave 4 = .ok (.iload_n 2, 1) := by decide +kernel
theorem d_T_wave_5 : decode b_T_wave 5 = .ok (.aload_n 0, 1) := by decide +kernel
theorem d_T_wave_6 : decode b_T_wave 6 = .ok (.getfield 37, 3) := by decide +kernel
theorem d_T_wave_9 : decode b_T_wave 9 = .ok (.if_icmp .ge 34, 3) := by decide +kernel
theorem d_T_wave_12 : decode b_T_wave 12 = .ok (.aload_n 0, 1) := by decide +kernel
theorem d_T_wave_13 : decode b_T_wave 13 = .ok (.getfield 32, 3) := by decide +kernel
theorem d_T_wave_16 : decode b_T_wave 16 = .ok (.iload_n 2, 1) := by decide +kernel
theorem d_T_wave_17 : decode b_T_wave 17 = .ok (.aaload, 1) := by decide +kernel
theorem d_T_wave_18 : decode b_T_wave 18 = .ok (.getfield 164, 3) := by decide +kernel
theorem d_T_wave_21 : decode b_T_wave 21 = .ok (.ifCond .ne 16, 3) := by decide +kernel
theorem d_T_wave_24 : decode b_T_wave 24 = .ok (.iload_n 1, 1) := by decide +kernel
theorem d_T_wave_25 : decode b_T_wave 25 = .ok (.aload_n 0, 1) := by decide +kernel
theorem d_T_wave_26 : decode b_T_wave 26 = .ok (.aload_n 0, 1) := by decide +kernel
theorem d_T_wave_27 : decode b_T_wave 27 = .ok (.getfield 32, 3) := by decide +kernel
theorem d_T_wave_30 : decode b_T_wave 30 = .ok (.iload_n 2, 1) := by decide +kernel
theorem d_T_wave_31 : decode b_T_wave 31 = .ok (.aaload, 1) := by decide +kernel
theorem d_T_wave_32 : decode b_T_wave 32 = .ok (.invokevirtual 167, 3) := by decide +kernel
theorem d_T_wave_35 : decode b_T_wave 35 = .ok (.iadd, 1) := by decide +kernel
theorem d_T_wave_36 : decode b_T_wave 36 = .ok (.istore_n 1, 1) := by decide +kernel
theorem d_T_wave_37 : decode b_T_wave 37 = .ok (.iinc 2 1, 3) := by decide +kernel
theorem d_T_wave_40 : decode b_T_wave 40 = .ok (.goto (-36), 3) := by decide +kernel
theorem d_T_wave_43 : decode b_T_wave 43 = .ok (.iload_n 1, 1) := by decide +kernel
theorem d_T_wave_44 : decode b_T_wave 44 = .ok (.ireturn, 1) := by decide +kernel
theorem d_T_advance_0 : decode b_T_advance 0 = .ok (.aload_n 0, 1) := by decide +kernel
theorem d_T_advance_1 : decode b_T_advance 1 = .ok (.aload_n 1, 1) := by decide +kernel
theorem d_T_advance_2 : decode b_T_advance 2 = .ok (.invokevirtual 226, 3) := by decide +kernel
theorem d_T_advance_5 : decode b_T_advance 5 = .ok (.aload_n 1, 1) := by decide +kernel
theorem d_T_advance_6 : decode b_T_advance 6 = .ok (.getfield 195, 3) := by decide +kernel
theorem d_T_advance_9 : decode b_T_advance 9 = .ok (.invokestatic 97, 3) := by decide +kernel
theorem d_T_advance_12 : decode b_T_advance 12 = .ok (.aload_n 1, 1) := by decide +kernel
theorem d_T_advance_13 : decode b_T_advance 13 = .ok (.getfield 161, 3) := by decide +kernel
theorem d_T_advance_16 : decode b_T_advance 16 = .ok (.if_icmp .lt 10, 3) := by decide +kernel
theorem d_T_advance_19 : decode b_T_advance 19 = .ok (.aload_n 1, 1) := by decide +kernel
theorem d_T_advance_20 : decode b_T_advance 20 = .ok (.iconst 1, 1) := by decide +kernel
theorem d_T_advance_21 : decode b_T_advance 21 = .ok (.putfield 164, 3) := by decide +kernel
theorem d_T_advance_24 : decode b_T_advance 24 = .ok (.iconst 0, 1) := by decide +kernel
theorem d_T_advance_25 : decode b_T_advance 25 = .ok (.ireturn, 1) := by decide +kernel
theorem d_T_advance_26 : decode b_T_advance 26 = .ok (.aload_n 0, 1) := by decide +kernel
theorem d_T_advance_27 : decode b_T_advance 27 = .ok (.aload_n 1, 1) := by decide +kernel
theorem d_T_advance_28 : decode b_T_advance 28 = .ok (.invokevirtual 230, 3) := by decide +kernel
theorem d_T_advance_31 : decode b_T_advance 31 = .ok (.ireturn, 1) := by decide +kernel
theorem d_T_judgeStarted_0 : decode b_T_judgeStarted 0 = .ok (.aload_n 1, 1) := by decide +kernel
theorem d_T_judgeStarted_1 : decode b_T_judgeStarted 1 = .ok (.invokevirtual 177, 3) := by decide +kernel
theorem d_T_judgeStarted_4 : decode b_T_judgeStarted 4 = .ok (.istore_n 2, 1) := by decide +kernel
theorem d_T_judgeStarted_5 : decode b_T_judgeStarted 5 = .ok (.iconst 0, 1) := by decide +kernel
theorem d_T_judgeStarted_6 : decode b_T_judgeStarted 6 = .ok (.istore_n 3, 1) := by decide +kernel
theorem d_T_judgeStarted_7 : decode b_T_judgeStarted 7 = .ok (.iload_n 3, 1) := by decide +kernel
theorem d_T_judgeStarted_8 : decode b_T_judgeStarted 8 = .ok (.bipush 8, 2) := by decide +kernel
theorem d_T_judgeStarted_10 : decode b_T_judgeStarted 10 = .ok (.if_icmp .ge 104, 3) := by decide +kernel
theorem d_T_judgeStarted_13 : decode b_T_judgeStarted 13 = .ok (.iconst 1, 1) := by decide +kernel
theorem d_T_judgeStarted_14 : decode b_T_judgeStarted 14 = .ok (.iload_n 3, 1) := by decide +kernel
theorem d_T_judgeStarted_15 : decode b_T_judgeStarted 15 = .ok (.ishl, 1) := by decide +kernel
theorem d_T_judgeStarted_16 : decode b_T_judgeStarted 16 = .ok (.istore 4, 2) := by decide +kernel
theorem d_T_judgeStarted_18 : decode b_T_judgeStarted 18 = .ok (.iload_n 2, 1) := by decide +kernel
theorem d_T_judgeStarted_19 : decode b_T_judgeStarted 19 = .ok (.iload 4, 2) := by decide +kernel
theorem d_T_judgeStarted_21 : decode b_T_judgeStarted 21 = .ok (.iand, 1) := by decide +kernel
theorem d_T_judgeStarted_22 : decode b_T_judgeStarted 22 = .ok (.ifCond .ne 6, 3) := by decide +kernel
theorem d_T_judgeStarted_25 : decode b_T_judgeStarted 25 = .ok (.goto 83, 3) := by decide +kernel
theorem d_T_judgeStarted_28 : decode b_T_judgeStarted 28 = .ok (.aload_n 0, 1) := by decide +kernel
theorem d_T_judgeStarted_29 : decode b_T_judgeStarted 29 = .ok (.getfield 18, 3) := by decide +kernel
theorem d_T_judgeStarted_32 : decode b_T_judgeStarted 32 = .ok (.iload_n 3, 1) := by decide +kernel
theorem d_T_judgeStarted_33 : decode b_T_judgeStarted 33 = .ok (.aaload, 1) := by decide +kernel
theorem d_T_judgeStarted_34 : decode b_T_judgeStarted 34 = .ok (.astore 5, 2) := by decide +kernel
theorem d_T_judgeStarted_36 : decode b_T_judgeStarted 36 = .ok (.aload 5, 2) := by decide +kernel
theorem d_T_judgeStarted_38 : decode b_T_judgeStarted 38 = .ok (.getfield 180, 3) := by decide +kernel
theorem d_T_judgeStarted_41 : decode b_T_judgeStarted 41 = .ok (.aload_n 1, 1) := by decide +kernel
theorem d_T_judgeStarted_42 : decode b_T_judgeStarted 42 = .ok (.getfield 154, 3) := by decide +kernel
theorem d_T_judgeStarted_45 : decode b_T_judgeStarted 45 = .ok (.iaload, 1) := by decide +kernel
theorem d_T_judgeStarted_46 : decode b_T_judgeStarted 46 = .ok (.aload_n 1, 1) := by decide +kernel
theorem d_T_judgeStarted_47 : decode b_T_judgeStarted 47 = .ok (.getfield 155, 3) := by decide +kernel
theorem d_T_judgeStarted_50 : decode b_T_judgeStarted 50 = .ok (.if_icmp .ne 17, 3) := by decide +kernel
theorem d_T_judgeStarted_53 : decode b_T_judgeStarted 53 = .ok (.aload_n 1, 1) := by decide +kernel
theorem d_T_judgeStarted_54 : decode b_T_judgeStarted 54 = .ok (.dup, 1) := by decide +kernel
theorem d_T_judgeStarted_55 : decode b_T_judgeStarted 55 = .ok (.getfield 192, 3) := by decide +kernel
theorem d_T_judgeStarted_58 : decode b_T_judgeStarted 58 = .ok (.iload 4, 2) := by decide +kernel
theorem d_T_judgeStarted_60 : decode b_T_judgeStarted 60 = .ok (.ior, 1) := by decide +kernel
theorem d_T_judgeStarted_61 : decode b_T_judgeStarted 61 = .ok (.putfield 192, 3) := by decide +kernel
theorem d_T_judgeStarted_64 : decode b_T_judgeStarted 64 = .ok (.goto 44, 3) := by decide +kernel
theorem d_T_judgeStarted_67 : decode b_T_judgeStarted 67 = .ok (.aload 5, 2) := by decide +kernel
theorem d_T_judgeStarted_69 : decode b_T_judgeStarted 69 = .ok (.getfield 107, 3) := by decide +kernel
theorem d_T_judgeStarted_72 : decode b_T_judgeStarted 72 = .ok (.aload_n 1, 1) := by decide +kernel
theorem d_T_judgeStarted_73 : decode b_T_judgeStarted 73 = .ok (.getfield 154, 3) := by decide +kernel
theorem d_T_judgeStarted_76 : decode b_T_judgeStarted 76 = .ok (.iaload, 1) := by decide +kernel
theorem d_T_judgeStarted_77 : decode b_T_judgeStarted 77 = .ok (.aload_n 1, 1) := by decide +kernel
theorem d_T_judgeStarted_78 : decode b_T_judgeStarted 78 = .ok (.getfield 155, 3) := by decide +kernel
theorem d_T_judgeStarted_81 : decode b_T_judgeStarted 81 = .ok (.if_icmp .ne 27, 3) := by decide +kernel
theorem d_T_judgeStarted_84 : decode b_T_judgeStarted 84 = .ok (.aload 5, 2) := by decide +kernel
theorem d_T_judgeStarted_86 : decode b_T_judgeStarted 86 = .ok (.getfield 183, 3) := by decide +kernel
theorem d_T_judgeStarted_89 : decode b_T_judgeStarted 89 = .ok (.aload_n 1, 1) := by decide +kernel
theorem d_T_judgeStarted_90 : decode b_T_judgeStarted 90 = .ok (.getfield 154, 3) := by decide +kernel
theorem d_T_judgeStarted_93 : decode b_T_judgeStarted 93 = .ok (.iaload, 1) := by decide +kernel
theorem d_T_judgeStarted_94 : decode b_T_judgeStarted 94 = .ok (.ifCond .eq 14, 3) := by decide +kernel
theorem d_T_judgeStarted_97 : decode b_T_judgeStarted 97 = .ok (.aload_n 1, 1) := by decide +kernel
theorem d_T_judgeStarted_98 : decode b_T_judgeStarted 98 = .ok (.dup, 1) := by decide +kernel
theorem d_T_judgeStarted_99 : decode b_T_judgeStarted 99 = .ok (.getfield 195, 3) := by decide +kernel
theorem d_T_judgeStarted_102 : decode b_T_judgeStarted 102 = .ok (.iload 4, 2) := by decide +kernel
theorem d_T_judgeStarted_104 : decode b_T_judgeStarted 104 = .ok (.ior, 1) := by decide +kernel
theorem d_T_judgeStarted_105 : decode b_T_judgeStarted 105 = .ok (.putfield 195, 3) := by decide +kernel
theorem d_T_judgeStarted_108 : decode b_T_judgeStarted 108 = .ok (.iinc 3 1, 3) := by decide +kernel
theorem d_T_judgeStarted_111 : decode b_T_judgeStarted 111 = .ok (.goto (-104), 3) := by decide +kernel
theorem d_T_judgeStarted_114 : decode b_T_judgeStarted 114 = .ok (.return_, 1) := by decide +kernel
theorem d_J_open_0 : decode b_J_open 0 = .ok (.aload_n 0, 1) := by decide +kernel
theorem d_J_open_1 : decode b_J_open 1 = .ok (.getfield 15, 3) := by decide +kernel
theorem d_J_open_4 : decode b_J_open 4 = .ok (.aload_n 0, 1) := by decide +kernel
theorem d_J_open_5 : decode b_J_open 5 = .ok (.getfield 18, 3) := by decide +kernel
theorem d_J_open_8 : decode b_J_open 8 = .ok (.iconst (-1), 1) := by decide +kernel
theorem d_J_open_9 : decode b_J_open 9 = .ok (.ixor, 1) := by decide +kernel
theorem d_J_open_10 : decode b_J_open 10 = .ok (.iand, 1) := by decide +kernel
theorem d_J_open_11 : decode b_J_open 11 = .ok (.aload_n 0, 1) := by decide +kernel
theorem d_J_open_12 : decode b_J_open 12 = .ok (.getfield 21, 3) := by decide +kernel
theorem d_J_open_15 : decode b_J_open 15 = .ok (.iconst (-1), 1) := by decide +kernel
theorem d_J_open_16 : decode b_J_open 16 = .ok (.ixor, 1) := by decide +kernel
theorem d_J_open_17 : decode b_J_open 17 = .ok (.iand, 1) := by decide +kernel
theorem d_J_open_18 : decode b_J_open 18 = .ok (.ireturn, 1) := by decide +kernel
theorem d_I_bitCount_0 : decode b_I_bitCount 0 = .ok (.iload_n 0, 1) := by decide +kernel
theorem d_I_bitCount_1 : decode b_I_bitCount 1 = .ok (.iload_n 0, 1) := by decide +kernel
theorem d_I_bitCount_2 : decode b_I_bitCount 2 = .ok (.iconst 1, 1) := by decide +kernel
theorem d_I_bitCount_3 : decode b_I_bitCount 3 = .ok (.iushr, 1) := by decide +kernel
theorem d_I_bitCount_4 : decode b_I_bitCount 4 = .ok (.ldc_w 265, 3) := by decide +kernel
theorem d_I_bitCount_7 : decode b_I_bitCount 7 = .ok (.iand, 1) := by decide +kernel
theorem d_I_bitCount_8 : decode b_I_bitCount 8 = .ok (.isub, 1) := by decide +kernel
theorem d_I_bitCount_9 : decode b_I_bitCount 9 = .ok (.istore_n 0, 1) := by decide +kernel
theorem d_I_bitCount_10 : decode b_I_bitCount 10 = .ok (.iload_n 0, 1) := by decide +kernel
theorem d_I_bitCount_11 : decode b_I_bitCount 11 = .ok (.ldc_w 266, 3) := by decide +kernel
theorem d_I_bitCount_14 : decode b_I_bitCount 14 = .ok (.iand, 1) := by decide +kernel
theorem d_I_bitCount_15 : decode b_I_bitCount 15 = .ok (.iload_n 0, 1) := by decide +kernel
theorem d_I_bitCount_16 : decode b_I_bitCount 16 = .ok (.iconst 2, 1) := by decide +kernel
theorem d_I_bitCount_17 : decode b_I_bitCount 17 = .ok (.iushr, 1) := by decide +kernel
theorem d_I_bitCount_18 : decode b_I_bitCount 18 = .ok (.ldc_w 266, 3) := by decide +kernel
theorem d_I_bitCount_21 : decode b_I_bitCount 21 = .ok (.iand, 1) := by decide +kernel
theorem d_I_bitCount_22 : decode b_I_bitCount 22 = .ok (.iadd, 1) := by decide +kernel
theorem d_I_bitCount_23 : decode b_I_bitCount 23 = .ok (.istore_n 0, 1) := by decide +kernel
theorem d_I_bitCount_24 : decode b_I_bitCount 24 = .ok (.iload_n 0, 1) := by decide +kernel
theorem d_I_bitCount_25 : decode b_I_bitCount 25 = .ok (.iload_n 0, 1) := by decide +kernel
theorem d_I_bitCount_26 : decode b_I_bitCount 26 = .ok (.iconst 4, 1) := by decide +kernel
theorem d_I_bitCount_27 : decode b_I_bitCount 27 = .ok (.iushr, 1) := by decide +kernel
theorem d_I_bitCount_28 : decode b_I_bitCount 28 = .ok (.iadd, 1) := by decide +kernel
theorem d_I_bitCount_29 : decode b_I_bitCount 29 = .ok (.ldc_w 267, 3) := by decide +kernel
theorem d_I_bitCount_32 : decode b_I_bitCount 32 = .ok (.iand, 1) := by decide +kernel
theorem d_I_bitCount_33 : decode b_I_bitCount 33 = .ok (.istore_n 0, 1) := by decide +kernel
theorem d_I_bitCount_34 : decode b_I_bitCount 34 = .ok (.iload_n 0, 1) := by decide +kernel
theorem d_I_bitCount_35 : decode b_I_bitCount 35 = .ok (.iload_n 0, 1) := by decide +kernel
theorem d_I_bitCount_36 : decode b_I_bitCount 36 = .ok (.bipush 8, 2) := by decide +kernel
theorem d_I_bitCount_38 : decode b_I_bitCount 38 = .ok (.iushr, 1) := by decide +kernel
theorem d_I_bitCount_39 : decode b_I_bitCount 39 = .ok (.iadd, 1) := by decide +kernel
theorem d_I_bitCount_40 : decode b_I_bitCount 40 = .ok (.istore_n 0, 1) := by decide +kernel
theorem d_I_bitCount_41 : decode b_I_bitCount 41 = .ok (.iload_n 0, 1) := by decide +kernel
theorem d_I_bitCount_42 : decode b_I_bitCount 42 = .ok (.iload_n 0, 1) := by decide +kernel
theorem d_I_bitCount_43 : decode b_I_bitCount 43 = .ok (.bipush 16, 2) := by decide +kernel
theorem d_I_bitCount_45 : decode b_I_bitCount 45 = .ok (.iushr, 1) := by decide +kernel
theorem d_I_bitCount_46 : decode b_I_bitCount 46 = .ok (.iadd, 1) := by decide +kernel
theorem d_I_bitCount_47 : decode b_I_bitCount 47 = .ok (.istore_n 0, 1) := by decide +kernel
theorem d_I_bitCount_48 : decode b_I_bitCount 48 = .ok (.iload_n 0, 1) := by decide +kernel
theorem d_I_bitCount_49 : decode b_I_bitCount 49 = .ok (.bipush 63, 2) := by decide +kernel
theorem d_I_bitCount_51 : decode b_I_bitCount 51 = .ok (.iand, 1) := by decide +kernel
theorem d_I_bitCount_52 : decode b_I_bitCount 52 = .ok (.ireturn, 1) := by decide +kernel
theorem d_T_startMore_0 : decode b_T_startMore 0 = .ok (.aload_n 0, 1) := by decide +kernel
theorem d_T_startMore_1 : decode b_T_startMore 1 = .ok (.aload_n 0, 1) := by decide +kernel
theorem d_T_startMore_2 : decode b_T_startMore 2 = .ok (.getfield 25, 3) := by decide +kernel
theorem d_T_startMore_5 : decode b_T_startMore 5 = .ok (.aload_n 1, 1) := by decide +kernel
theorem d_T_startMore_6 : decode b_T_startMore 6 = .ok (.getfield 151, 3) := by decide +kernel
theorem d_T_startMore_9 : decode b_T_startMore 9 = .ok (.aaload, 1) := by decide +kernel
theorem d_T_startMore_10 : decode b_T_startMore 10 = .ok (.invokevirtual 142, 3) := by decide +kernel
theorem d_T_startMore_13 : decode b_T_startMore 13 = .ok (.aload_n 1, 1) := by decide +kernel
theorem d_T_startMore_14 : decode b_T_startMore 14 = .ok (.getfield 189, 3) := by decide +kernel
theorem d_T_startMore_17 : decode b_T_startMore 17 = .ok (.iconst (-1), 1) := by decide +kernel
theorem d_T_startMore_18 : decode b_T_startMore 18 = .ok (.ixor, 1) := by decide +kernel
theorem d_T_startMore_19 : decode b_T_startMore 19 = .ok (.iand, 1) := by decide +kernel
theorem d_T_startMore_20 : decode b_T_startMore 20 = .ok (.istore_n 2, 1) := by decide +kernel
theorem d_T_startMore_21 : decode b_T_startMore 21 = .ok (.iconst 0, 1) := by decide +kernel
theorem d_T_startMore_22 : decode b_T_startMore 22 = .ok (.istore_n 3, 1) := by decide +kernel
theorem d_T_startMore_23 : decode b_T_startMore 23 = .ok (.iconst 0, 1) := by decide +kernel
theorem d_T_startMore_24 : decode b_T_startMore 24 = .ok (.istore 4, 2) := by decide +kernel
theorem d_T_startMore_26 : decode b_T_startMore 26 = .ok (.iload 4, 2) := by decide +kernel
theorem d_T_startMore_28 : decode b_T_startMore 28 = .ok (.bipush 8, 2) := by decide +kernel
theorem d_T_startMore_30 : decode b_T_startMore 30 = .ok (.if_icmp .ge 78, 3) := by decide +kernel
theorem d_T_startMore_33 : decode b_T_startMore 33 = .ok (.iload_n 3, 1) := by decide +kernel
theorem d_T_startMore_34 : decode b_T_startMore 34 = .ok (.aload_n 1, 1) := by decide +kernel
theorem d_T_startMore_35 : decode b_T_startMore 35 = .ok (.getfield 158, 3) := by decide +kernel
theorem d_T_startMore_38 : decode b_T_startMore 38 = .ok (.if_icmp .ge 70, 3) := by decide +kernel
theorem d_T_startMore_41 : decode b_T_startMore 41 = .ok (.iconst 1, 1) := by decide +kernel
theorem d_T_startMore_42 : decode b_T_startMore 42 = .ok (.iload 4, 2) := by decide +kernel
theorem d_T_startMore_44 : decode b_T_startMore 44 = .ok (.ishl, 1) := by decide +kernel
theorem d_T_startMore_45 : decode b_T_startMore 45 = .ok (.istore 5, 2) := by decide +kernel
theorem d_T_startMore_47 : decode b_T_startMore 47 = .ok (.iload_n 2, 1) := by decide +kernel
theorem d_T_startMore_48 : decode b_T_startMore 48 = .ok (.iload 5, 2) := by decide +kernel
theorem d_T_startMore_50 : decode b_T_startMore 50 = .ok (.iand, 1) := by decide +kernel
theorem d_T_startMore_51 : decode b_T_startMore 51 = .ok (.ifCond .eq 51, 3) := by decide +kernel
theorem d_T_startMore_54 : decode b_T_startMore 54 = .ok (.aload_n 0, 1) := by decide +kernel
theorem d_T_startMore_55 : decode b_T_startMore 55 = .ok (.getfield 18, 3) := by decide +kernel
theorem d_T_startMore_58 : decode b_T_startMore 58 = .ok (.iload 4, 2) := by decide +kernel
theorem d_T_startMore_60 : decode b_T_startMore 60 = .ok (.aaload, 1) := by decide +kernel
theorem d_T_startMore_61 : decode b_T_startMore 61 = .ok (.aload_n 1, 1) := by decide +kernel
theorem d_T_startMore_62 : decode b_T_startMore 62 = .ok (.getfield 154, 3) := by decide +kernel
theorem d_T_startMore_65 : decode b_T_startMore 65 = .ok (.aload_n 1, 1) := by decide +kernel
theorem d_T_startMore_66 : decode b_T_startMore 66 = .ok (.getfield 155, 3) := by decide +kernel
theorem d_T_startMore_69 : decode b_T_startMore 69 = .ok (.invokevirtual 219, 3) := by decide +kernel
theorem d_T_startMore_72 : decode b_T_startMore 72 = .ok (.aload_n 0, 1) := by decide +kernel
theorem d_T_startMore_73 : decode b_T_startMore 73 = .ok (.getfield 18, 3) := by decide +kernel
theorem d_T_startMore_76 : decode b_T_startMore 76 = .ok (.iload 4, 2) := by decide +kernel
theorem d_T_startMore_78 : decode b_T_startMore 78 = .ok (.aaload, 1) := by decide +kernel
theorem d_T_startMore_79 : decode b_T_startMore 79 = .ok (.dup, 1) := by decide +kernel
theorem d_T_startMore_80 : decode b_T_startMore 80 = .ok (.getfield 73, 3) := by decide +kernel
theorem d_T_startMore_83 : decode b_T_startMore 83 = .ok (.iconst 1, 1) := by decide +kernel
theorem d_T_startMore_84 : decode b_T_startMore 84 = .ok (.iadd, 1) := by decide +kernel
theorem d_T_startMore_85 : decode b_T_startMore 85 = .ok (.putfield 73, 3) := by decide +kernel
theorem d_T_startMore_88 : decode b_T_startMore 88 = .ok (.aload_n 1, 1) := by decide +kernel
theorem d_T_startMore_89 : decode b_T_startMore 89 = .ok (.dup, 1) := by decide +kernel
theorem d_T_startMore_90 : decode b_T_startMore 90 = .ok (.getfield 189, 3) := by decide +kernel
theorem d_T_startMore_93 : decode b_T_startMore 93 = .ok (.iload 5, 2) := by decide +kernel
theorem d_T_startMore_95 : decode b_T_startMore 95 = .ok (.ior, 1) := by decide +kernel
theorem d_T_startMore_96 : decode b_T_startMore 96 = .ok (.putfield 189, 3) := by decide +kernel
theorem d_T_startMore_99 : decode b_T_startMore 99 = .ok (.iinc 3 1, 3) := by decide +kernel
theorem d_T_startMore_102 : decode b_T_startMore 102 = .ok (.iinc 4 1, 3) := by decide +kernel
theorem d_T_startMore_105 : decode b_T_startMore 105 = .ok (.goto (-79), 3) := by decide +kernel
theorem d_T_startMore_108 : decode b_T_startMore 108 = .ok (.iload_n 3, 1) := by decide +kernel
theorem d_T_startMore_109 : decode b_T_startMore 109 = .ok (.ireturn, 1) := by decide +kernel
theorem d_T_membersOf_0 : decode b_T_membersOf 0 = .ok (.iconst 0, 1) := by decide +kernel
theorem d_T_membersOf_1 : decode b_T_membersOf 1 = .ok (.istore_n 2, 1) := by decide +kernel
theorem d_T_membersOf_2 : decode b_T_membersOf 2 = .ok (.iconst 0, 1) := by decide +kernel
theorem d_T_membersOf_3 : decode b_T_membersOf 3 = .ok (.istore_n 3, 1) := by decide +kernel
theorem d_T_membersOf_4 : decode b_T_membersOf 4 = .ok (.iload_n 3, 1) := by decide +kernel
theorem d_T_membersOf_5 : decode b_T_membersOf 5 = .ok (.bipush 8, 2) := by decide +kernel
theorem d_T_membersOf_7 : decode b_T_membersOf 7 = .ok (.if_icmp .ge 28, 3) := by decide +kernel
theorem d_T_membersOf_10 : decode b_T_membersOf 10 = .ok (.aload_n 1, 1) := by decide +kernel
theorem d_T_membersOf_11 : decode b_T_membersOf 11 = .ok (.aload_n 0, 1) := by decide +kernel
theorem d_T_membersOf_12 : decode b_T_membersOf 12 = .ok (.getfield 18, 3) := by decide +kernel
theorem d_T_membersOf_15 : decode b_T_membersOf 15 = .ok (.iload_n 3, 1) := by decide +kernel
theorem d_T_membersOf_16 : decode b_T_membersOf 16 = .ok (.aaload, 1) := by decide +kernel
theorem d_T_membersOf_17 : decode b_T_membersOf 17 = .ok (.invokevirtual 222, 3) := by decide +kernel
theorem d_T_membersOf_20 : decode b_T_membersOf 20 = .ok (.ifCond .eq 9, 3) := by decide +kernel
theorem d_T_membersOf_23 : decode b_T_membersOf 23 = .ok (.iload_n 2, 1) := by decide +kernel
theorem d_T_membersOf_24 : decode b_T_membersOf 24 = .ok (.iconst 1, 1) := by decide +kernel
theorem d_T_membersOf_25 : decode b_T_membersOf 25 = .ok (.iload_n 3, 1) := by decide +kernel
theorem d_T_membersOf_26 : decode b_T_membersOf 26 = .ok (.ishl, 1) := by decide +kernel
theorem d_T_membersOf_27 : decode b_T_membersOf 27 = .ok (.ior, 1) := by decide +kernel
theorem d_T_membersOf_28 : decode b_T_membersOf 28 = .ok (.istore_n 2, 1) := by decide +kernel
theorem d_T_membersOf_29 : decode b_T_membersOf 29 = .ok (.iinc 3 1, 3) := by decide +kernel
theorem d_T_membersOf_32 : decode b_T_membersOf 32 = .ok (.goto (-28), 3) := by decide +kernel
theorem d_T_membersOf_35 : decode b_T_membersOf 35 = .ok (.iload_n 2, 1) := by decide +kernel
theorem d_T_membersOf_36 : decode b_T_membersOf 36 = .ok (.ireturn, 1) := by decide +kernel
theorem d_G_admits_0 : decode b_G_admits 0 = .ok (.aload_n 1, 1) := by decide +kernel
theorem d_G_admits_1 : decode b_G_admits 1 = .ok (.getfield 21, 3) := by decide +kernel
theorem d_G_admits_4 : decode b_G_admits 4 = .ok (.aload_n 0, 1) := by decide +kernel
theorem d_G_admits_5 : decode b_G_admits 5 = .ok (.getfield 9, 3) := by decide +kernel
theorem d_G_admits_8 : decode b_G_admits 8 = .ok (.iaload, 1) := by decide +kernel
theorem d_G_admits_9 : decode b_G_admits 9 = .ok (.istore_n 2, 1) := by decide +kernel
theorem d_G_admits_10 : decode b_G_admits 10 = .ok (.iload_n 2, 1) := by decide +kernel
theorem d_G_admits_11 : decode b_G_admits 11 = .ok (.aload_n 0, 1) := by decide +kernel
theorem d_G_admits_12 : decode b_G_admits 12 = .ok (.getfield 15, 3) := by decide +kernel
theorem d_G_admits_15 : decode b_G_admits 15 = .ok (.if_icmp .lt 15, 3) := by decide +kernel
theorem d_G_admits_18 : decode b_G_admits 18 = .ok (.iload_n 2, 1) := by decide +kernel
theorem d_G_admits_19 : decode b_G_admits 19 = .ok (.aload_n 0, 1) := by decide +kernel
theorem d_G_admits_20 : decode b_G_admits 20 = .ok (.getfield 18, 3) := by decide +kernel
theorem d_G_admits_23 : decode b_G_admits 23 = .ok (.if_icmp .gt 7, 3) := by decide +kernel
theorem d_G_admits_26 : decode b_G_admits 26 = .ok (.iconst 1, 1) := by decide +kernel
theorem d_G_admits_27 : decode b_G_admits 27 = .ok (.goto 4, 3) := by decide +kernel
theorem d_G_admits_30 : decode b_G_admits 30 = .ok (.iconst 0, 1) := by decide +kernel
theorem d_G_admits_31 : decode b_G_admits 31 = .ok (.ireturn, 1) := by decide +kernel
theorem d_D_takeWish_0 : decode b_D_takeWish 0 = .ok (.aload_n 0, 1) := by decide +kernel
theorem d_D_takeWish_1 : decode b_D_takeWish 1 = .ok (.getfield 9, 3) := by decide +kernel
theorem d_D_takeWish_4 : decode b_D_takeWish 4 = .ok (.iload_n 1, 1) := by decide +kernel
theorem d_D_takeWish_5 : decode b_D_takeWish 5 = .ok (.iload_n 2, 1) := by decide +kernel
theorem d_D_takeWish_6 : decode b_D_takeWish 6 = .ok (.iastore, 1) := by decide +kernel
theorem d_D_takeWish_7 : decode b_D_takeWish 7 = .ok (.aload_n 0, 1) := by decide +kernel
theorem d_D_takeWish_8 : decode b_D_takeWish 8 = .ok (.getfield 18, 3) := by decide +kernel
theorem d_D_takeWish_11 : decode b_D_takeWish 11 = .ok (.iload_n 1, 1) := by decide +kernel
theorem d_D_takeWish_12 : decode b_D_takeWish 12 = .ok (.iconst 0, 1) := by decide +kernel
theorem d_D_takeWish_13 : decode b_D_takeWish 13 = .ok (.iastore, 1) := by decide +kernel
theorem d_D_takeWish_14 : decode b_D_takeWish 14 = .ok (.aload_n 0, 1) := by decide +kernel
theorem d_D_takeWish_15 : decode b_D_takeWish 15 = .ok (.iload_n 1, 1) := by decide +kernel
theorem d_D_takeWish_16 : decode b_D_takeWish 16 = .ok (.invokevirtual 21, 3) := by decide +kernel
theorem d_D_takeWish_19 : decode b_D_takeWish 19 = .ok (.return_, 1) := by decide +kernel
theorem d_D_keepDifference_0 : decode b_D_keepDifference 0 = .ok (.aload_n 0, 1) := by decide +kernel
theorem d_D_keepDifference_1 : decode b_D_keepDifference 1 = .ok (.iload_n 1, 1) := by decide +kernel
theorem d_D_keepDifference_2 : decode b_D_keepDifference 2 = .ok (.invokevirtual 25, 3) := by decide +kernel
theorem d_D_keepDifference_5 : decode b_D_keepDifference 5 = .ok (.ifCond .eq 18, 3) := by decide +kernel
theorem d_D_keepDifference_8 : decode b_D_keepDifference 8 = .ok (.aload_n 0, 1) := by decide +kernel
theorem d_D_keepDifference_9 : decode b_D_keepDifference 9 = .ok (.dup, 1) := by decide +kernel
theorem d_D_keepDifference_10 : decode b_D_keepDifference 10 = .ok (.getfield 29, 3) := by decide +kernel
theorem d_D_keepDifference_13 : decode b_D_keepDifference 13 = .ok (.iconst 1, 1) := by decide +kernel
theorem d_D_keepDifference_14 : decode b_D_keepDifference 14 = .ok (.iload_n 1, 1) := by decide +kernel
theorem d_D_keepDifference_15 : decode b_D_keepDifference 15 = .ok (.ishl, 1) := by decide +kernel
theorem d_D_keepDifference_16 : decode b_D_keepDifference 16 = .ok (.ior, 1) := by decide +kernel
theorem d_D_keepDifference_17 : decode b_D_keepDifference 17 = .ok (.putfield 29, 3) := by decide +kernel
theorem d_D_keepDifference_20 : decode b_D_keepDifference 20 = .ok (.goto 17, 3) := by decide +kernel
theorem d_D_keepDifference_23 : decode b_D_keepDifference 23 = .ok (.aload_n 0, 1) := by decide +kernel
theorem d_D_keepDifference_24 : decode b_D_keepDifference 24 = .ok (.dup, 1) := by decide +kernel
theorem d_D_keepDifference_25 : decode b_D_keepDifference 25 = .ok (.getfield 29, 3) := by decide +kernel
theorem d_D_keepDifference_28 : decode b_D_keepDifference 28 = .ok (.iconst 1, 1) := by decide +kernel
theorem d_D_keepDifference_29 : decode b_D_keepDifference 29 = .ok (.iload_n 1, 1) := by decide +kernel
theorem d_D_keepDifference_30 : decode b_D_keepDifference 30 = .ok (.ishl, 1) := by decide +kernel
theorem d_D_keepDifference_31 : decode b_D_keepDifference 31 = .ok (.iconst (-1), 1) := by decide +kernel
theorem d_D_keepDifference_32 : decode b_D_keepDifference 32 = .ok (.ixor, 1) := by decide +kernel
theorem d_D_keepDifference_33 : decode b_D_keepDifference 33 = .ok (.iand, 1) := by decide +kernel
theorem d_D_keepDifference_34 : decode b_D_keepDifference 34 = .ok (.putfield 29, 3) := by decide +kernel
theorem d_D_keepDifference_37 : decode b_D_keepDifference 37 = .ok (.return_, 1) := by decide +kernel
theorem d_D_comparesUnlike_0 : decode b_D_comparesUnlike 0 = .ok (.aload_n 0, 1) := by decide +kernel
theorem d_D_comparesUnlike_1 : decode b_D_comparesUnlike 1 = .ok (.getfield 9, 3) := by decide +kernel
theorem d_D_comparesUnlike_4 : decode b_D_comparesUnlike 4 = .ok (.iload_n 1, 1) := by decide +kernel
theorem d_D_comparesUnlike_5 : decode b_D_comparesUnlike 5 = .ok (.iaload, 1) := by decide +kernel
theorem d_D_comparesUnlike_6 : decode b_D_comparesUnlike 6 = .ok (.iconst (-1), 1) := by decide +kernel
theorem d_D_comparesUnlike_7 : decode b_D_comparesUnlike 7 = .ok (.if_icmp .eq 31, 3) := by decide +kernel
theorem d_D_comparesUnlike_10 : decode b_D_comparesUnlike 10 = .ok (.aload_n 0, 1) := by decide +kernel
theorem d_D_comparesUnlike_11 : decode b_D_comparesUnlike 11 = .ok (.getfield 15, 3) := by decide +kernel
theorem d_D_comparesUnlike_14 : decode b_D_comparesUnlike 14 = .ok (.iload_n 1, 1) := by decide +kernel
theorem d_D_comparesUnlike_15 : decode b_D_comparesUnlike 15 = .ok (.iaload, 1) := by decide +kernel
theorem d_D_comparesUnlike_16 : decode b_D_comparesUnlike 16 = .ok (.aload_n 0, 1) := by decide +kernel
theorem d_D_comparesUnlike_17 : decode b_D_comparesUnlike 17 = .ok (.getfield 9, 3) := by decide +kernel
theorem d_D_comparesUnlike_20 : decode b_D_comparesUnlike 20 = .ok (.iload_n 1, 1) := by decide +kernel
theorem d_D_comparesUnlike_21 : decode b_D_comparesUnlike 21 = .ok (.iaload, 1) := by decide +kernel
theorem d_D_comparesUnlike_22 : decode b_D_comparesUnlike 22 = .ok (.if_icmp .eq 16, 3) := by decide +kernel
theorem d_D_comparesUnlike_25 : decode b_D_comparesUnlike 25 = .ok (.aload_n 0, 1) := by decide +kernel
theorem d_D_comparesUnlike_26 : decode b_D_comparesUnlike 26 = .ok (.getfield 18, 3) := by decide +kernel
theorem d_D_comparesUnlike_29 : decode b_D_comparesUnlike 29 = .ok (.iload_n 1, 1) := by decide +kernel
theorem d_D_comparesUnlike_30 : decode b_D_comparesUnlike 30 = .ok (.iaload, 1) := by decide +kernel
theorem d_D_comparesUnlike_31 : decode b_D_comparesUnlike 31 = .ok (.ifCond .ne 7, 3) := by decide +kernel
theorem d_D_comparesUnlike_34 : decode b_D_comparesUnlike 34 = .ok (.iconst 1, 1) := by decide +kernel
theorem d_D_comparesUnlike_35 : decode b_D_comparesUnlike 35 = .ok (.goto 4, 3) := by decide +kernel
theorem d_D_comparesUnlike_38 : decode b_D_comparesUnlike 38 = .ok (.iconst 0, 1) := by decide +kernel
theorem d_D_comparesUnlike_39 : decode b_D_comparesUnlike 39 = .ok (.ireturn, 1) := by decide +kernel
theorem d_T_jobs_0 : decode b_T_jobs 0 = .ok (.aload_n 0, 1) := by decide +kernel
theorem d_T_jobs_1 : decode b_T_jobs 1 = .ok (.getfield 37, 3) := by decide +kernel
theorem d_T_jobs_4 : decode b_T_jobs 4 = .ok (.ireturn, 1) := by decide +kernel
theorem d_T_put_0 : decode b_T_put 0 = .ok (.iload_n 1, 1) := by decide +kernel
theorem d_T_put_1 : decode b_T_put 1 = .ok (.invokestatic 41, 3) := by decide +kernel
theorem d_T_put_4 : decode b_T_put 4 = .ok (.iload_n 2, 1) := by decide +kernel
theorem d_T_put_5 : decode b_T_put 5 = .ok (.iconst (-1), 1) := by decide +kernel
theorem d_T_put_6 : decode b_T_put 6 = .ok (.if_icmp .eq 10, 3) := by decide +kernel
theorem d_T_put_9 : decode b_T_put 9 = .ok (.iload_n 2, 1) := by decide +kernel
theorem d_T_put_10 : decode b_T_put 10 = .ok (.iconst 0, 1) := by decide +kernel
theorem d_T_put_11 : decode b_T_put 11 = .ok (.bipush 99, 2) := by decide +kernel
theorem d_T_put_13 : decode b_T_put 13 = .ok (.invokestatic 45, 3) := by decide +kernel
theorem d_T_put_16 : decode b_T_put 16 = .ok (.aload_n 0, 1) := by decide +kernel
theorem d_T_put_17 : decode b_T_put 17 = .ok (.getfield 10, 3) := by decide +kernel
theorem d_T_put_20 : decode b_T_put 20 = .ok (.iload_n 1, 1) := by decide +kernel
theorem d_T_put_21 : decode b_T_put 21 = .ok (.iload_n 2, 1) := by decide +kernel
theorem d_T_put_22 : decode b_T_put 22 = .ok (.invokevirtual 49, 3) := by decide +kernel
theorem d_T_put_25 : decode b_T_put 25 = .ok (.aload_n 0, 1) := by decide +kernel
theorem d_T_put_26 : decode b_T_put 26 = .ok (.getfield 10, 3) := by decide +kernel
theorem d_T_put_29 : decode b_T_put 29 = .ok (.invokevirtual 53, 3) := by decide +kernel
theorem d_T_put_32 : decode b_T_put 32 = .ok (.ireturn, 1) := by decide +kernel
theorem d_T_requireLeaf_0 : decode b_T_requireLeaf 0 = .ok (.iload_n 0, 1) := by decide +kernel
theorem d_T_requireLeaf_1 : decode b_T_requireLeaf 1 = .ok (.ifCond .lt 9, 3) := by decide +kernel
theorem d_T_requireLeaf_4 : decode b_T_requireLeaf 4 = .ok (.iload_n 0, 1) := by decide +kernel
theorem d_T_requireLeaf_5 : decode b_T_requireLeaf 5 = .ok (.bipush 12, 2) := by decide +kernel
theorem d_T_requireLeaf_7 : decode b_T_requireLeaf 7 = .ok (.if_icmp .lt 13, 3) := by decide +kernel
theorem d_T_requireLeaf_10 : decode b_T_requireLeaf 10 = .ok (.new 57, 3) := by decide +kernel
theorem d_T_requireLeaf_13 : decode b_T_requireLeaf 13 = .ok (.dup, 1) := by decide +kernel
theorem d_T_requireLeaf_14 : decode b_T_requireLeaf 14 = .ok (.ldc 204, 2) := by decide +kernel
theorem d_T_requireLeaf_16 : decode b_T_requireLeaf 16 = .ok (.invokespecial 61, 3) := by decide +kernel
theorem d_T_requireLeaf_19 : decode b_T_requireLeaf 19 = .ok (.athrow, 1) := by decide +kernel
theorem d_T_requireLeaf_20 : decode b_T_requireLeaf 20 = .ok (.return_, 1) := by decide +kernel
theorem d_T_requireInRange_0 : decode b_T_requireInRange 0 = .ok (.iload_n 0, 1) := by decide +kernel
theorem d_T_requireInRange_1 : decode b_T_requireInRange 1 = .ok (.iload_n 1, 1) := by decide +kernel
theorem d_T_requireInRange_2 : decode b_T_requireInRange 2 = .ok (.if_icmp .lt 8, 3) := by decide +kernel
theorem d_T_requireInRange_5 : decode b_T_requireInRange 5 = .ok (.iload_n 0, 1) := by decide +kernel
theorem d_T_requireInRange_6 : decode b_T_requireInRange 6 = .ok (.iload_n 2, 1) := by decide +kernel
theorem d_T_requireInRange_7 : decode b_T_requireInRange 7 = .ok (.if_icmp .le 13, 3) := by decide +kernel
theorem d_T_requireInRange_10 : decode b_T_requireInRange 10 = .ok (.new 206, 3) := by decide +kernel
theorem d_T_requireInRange_13 : decode b_T_requireInRange 13 = .ok (.dup, 1) := by decide +kernel
theorem d_T_requireInRange_14 : decode b_T_requireInRange 14 = .ok (.ldc 208, 2) := by decide +kernel
theorem d_T_requireInRange_16 : decode b_T_requireInRange 16 = .ok (.invokespecial 210, 3) := by decide +kernel
theorem d_T_requireInRange_19 : decode b_T_requireInRange 19 = .ok (.athrow, 1) := by decide +kernel
theorem d_T_requireInRange_20 : decode b_T_requireInRange 20 = .ok (.return_, 1) := by decide +kernel
theorem d_F_assign_0 : decode b_F_assign 0 = .ok (.aload_n 0, 1) := by decide +kernel
theorem d_F_assign_1 : decode b_F_assign 1 = .ok (.getfield 9, 3) := by decide +kernel
theorem d_F_assign_4 : decode b_F_assign 4 = .ok (.iload_n 1, 1) := by decide +kernel
theorem d_F_assign_5 : decode b_F_assign 5 = .ok (.iload_n 2, 1) := by decide +kernel
theorem d_F_assign_6 : decode b_F_assign 6 = .ok (.iastore, 1) := by decide +kernel
theorem d_F_assign_7 : decode b_F_assign 7 = .ok (.aload_n 0, 1) := by decide +kernel
theorem d_F_assign_8 : decode b_F_assign 8 = .ok (.dup, 1) := by decide +kernel
theorem d_F_assign_9 : decode b_F_assign 9 = .ok (.getfield 15, 3) := by decide +kernel
theorem d_F_assign_12 : decode b_F_assign 12 = .ok (.iconst 1, 1) := by decide +kernel
theorem d_F_assign_13 : decode b_F_assign 13 = .ok (.iload_n 1, 1) := by decide +kernel
theorem d_F_assign_14 : decode b_F_assign 14 = .ok (.ishl, 1) := by decide +kernel
theorem d_F_assign_15 : decode b_F_assign 15 = .ok (.ior, 1) := by decide +kernel
theorem d_F_assign_16 : decode b_F_assign 16 = .ok (.putfield 15, 3) := by decide +kernel
theorem d_F_assign_19 : decode b_F_assign 19 = .ok (.return_, 1) := by decide +kernel
theorem d_F_count_0 : decode b_F_count 0 = .ok (.aload_n 0, 1) := by decide +kernel
theorem d_F_count_1 : decode b_F_count 1 = .ok (.getfield 15, 3) := by decide +kernel
theorem d_F_count_4 : decode b_F_count 4 = .ok (.invokestatic 19, 3) := by decide +kernel
theorem d_F_count_7 : decode b_F_count 7 = .ok (.ireturn, 1) := by decide +kernel
theorem d_T_drop_0 : decode b_T_drop 0 = .ok (.iload_n 1, 1) := by decide +kernel
theorem d_T_drop_1 : decode b_T_drop 1 = .ok (.ifCond .lt 8, 3) := by decide +kernel
theorem d_T_drop_4 : decode b_T_drop 4 = .ok (.iload_n 1, 1) := by decide +kernel
theorem d_T_drop_5 : decode b_T_drop 5 = .ok (.iconst 3, 1) := by decide +kernel
theorem d_T_drop_6 : decode b_T_drop 6 = .ok (.if_icmp .lt 13, 3) := by decide +kernel
theorem d_T_drop_9 : decode b_T_drop 9 = .ok (.new 57, 3) := by decide +kernel
theorem d_T_drop_12 : decode b_T_drop 12 = .ok (.dup, 1) := by decide +kernel
theorem d_T_drop_13 : decode b_T_drop 13 = .ok (.ldc 59, 2) := by decide +kernel
theorem d_T_drop_15 : decode b_T_drop 15 = .ok (.invokespecial 61, 3) := by decide +kernel
theorem d_T_drop_18 : decode b_T_drop 18 = .ok (.athrow, 1) := by decide +kernel
theorem d_T_drop_19 : decode b_T_drop 19 = .ok (.iload_n 1, 1) := by decide +kernel
theorem d_T_drop_20 : decode b_T_drop 20 = .ok (.iconst 4, 1) := by decide +kernel
theorem d_T_drop_21 : decode b_T_drop 21 = .ok (.imul, 1) := by decide +kernel
theorem d_T_drop_22 : decode b_T_drop 22 = .ok (.istore_n 2, 1) := by decide +kernel
theorem d_T_drop_23 : decode b_T_drop 23 = .ok (.iload_n 2, 1) := by decide +kernel
theorem d_T_drop_24 : decode b_T_drop 24 = .ok (.istore_n 3, 1) := by decide +kernel
theorem d_T_drop_25 : decode b_T_drop 25 = .ok (.iload_n 3, 1) := by decide +kernel
theorem d_T_drop_26 : decode b_T_drop 26 = .ok (.iload_n 2, 1) := by decide +kernel
theorem d_T_drop_27 : decode b_T_drop 27 = .ok (.iconst 4, 1) := by decide +kernel
theorem d_T_drop_28 : decode b_T_drop 28 = .ok (.iadd, 1) := by decide +kernel
theorem d_T_drop_29 : decode b_T_drop 29 = .ok (.if_icmp .ge 18, 3) := by decide +kernel
theorem d_T_drop_32 : decode b_T_drop 32 = .ok (.aload_n 0, 1) := by decide +kernel
theorem d_T_drop_33 : decode b_T_drop 33 = .ok (.getfield 10, 3) := by decide +kernel
theorem d_T_drop_36 : decode b_T_drop 36 = .ok (.iload_n 3, 1) := by decide +kernel
theorem d_T_drop_37 : decode b_T_drop 37 = .ok (.iconst (-1), 1) := by decide +kernel
theorem d_T_drop_38 : decode b_T_drop 38 = .ok (.invokevirtual 49, 3) := by decide +kernel
theorem d_T_drop_41 : decode b_T_drop 41 = .ok (.iinc 3 1, 3) := by decide +kernel
theorem d_T_drop_44 : decode b_T_drop 44 = .ok (.goto (-19), 3) := by decide +kernel
theorem d_T_drop_47 : decode b_T_drop 47 = .ok (.aload_n 0, 1) := by decide +kernel
theorem d_T_drop_48 : decode b_T_drop 48 = .ok (.getfield 10, 3) := by decide +kernel
theorem d_T_drop_51 : decode b_T_drop 51 = .ok (.invokevirtual 53, 3) := by decide +kernel
theorem d_T_drop_54 : decode b_T_drop 54 = .ok (.ireturn, 1) := by decide +kernel
theorem d_T_wish_0 : decode b_T_wish 0 = .ok (.aload_n 0, 1) := by decide +kernel
theorem d_T_wish_1 : decode b_T_wish 1 = .ok (.iload_n 1, 1) := by decide +kernel
theorem d_T_wish_2 : decode b_T_wish 2 = .ok (.invokevirtual 64, 3) := by decide +kernel
theorem d_T_wish_5 : decode b_T_wish 5 = .ok (.astore_n 3, 1) := by decide +kernel
theorem d_T_wish_6 : decode b_T_wish 6 = .ok (.aload_n 0, 1) := by decide +kernel
theorem d_T_wish_7 : decode b_T_wish 7 = .ok (.getfield 10, 3) := by decide +kernel
theorem d_T_wish_10 : decode b_T_wish 10 = .ok (.invokevirtual 53, 3) := by decide +kernel
theorem d_T_wish_13 : decode b_T_wish 13 = .ok (.ifCond .ne 13, 3) := by decide +kernel
theorem d_T_wish_16 : decode b_T_wish 16 = .ok (.new 68, 3) := by decide +kernel
theorem d_T_wish_19 : decode b_T_wish 19 = .ok (.dup, 1) := by decide +kernel
theorem d_T_wish_20 : decode b_T_wish 20 = .ok (.ldc 70, 2) := by decide +kernel
theorem d_T_wish_22 : decode b_T_wish 22 = .ok (.invokespecial 72, 3) := by decide +kernel
theorem d_T_wish_25 : decode b_T_wish 25 = .ok (.athrow, 1) := by decide +kernel
theorem d_T_wish_26 : decode b_T_wish 26 = .ok (.iload_n 2, 1) := by decide +kernel
theorem d_T_wish_27 : decode b_T_wish 27 = .ok (.iconst (-1), 1) := by decide +kernel
theorem d_T_wish_28 : decode b_T_wish 28 = .ok (.if_icmp .eq 21, 3) := by decide +kernel
theorem d_T_wish_31 : decode b_T_wish 31 = .ok (.iload_n 2, 1) := by decide +kernel
theorem d_T_wish_32 : decode b_T_wish 32 = .ok (.aload_n 3, 1) := by decide +kernel
theorem d_T_wish_33 : decode b_T_wish 33 = .ok (.getfield 73, 3) := by decide +kernel
theorem d_T_wish_36 : decode b_T_wish 36 = .ok (.if_icmp .eq 13, 3) := by decide +kernel
theorem d_T_wish_39 : decode b_T_wish 39 = .ok (.new 68, 3) := by decide +kernel
theorem d_T_wish_42 : decode b_T_wish 42 = .ok (.dup, 1) := by decide +kernel
theorem d_T_wish_43 : decode b_T_wish 43 = .ok (.ldc 76, 2) := by decide +kernel
theorem d_T_wish_45 : decode b_T_wish 45 = .ok (.invokespecial 72, 3) := by decide +kernel
theorem d_T_wish_48 : decode b_T_wish 48 = .ok (.athrow, 1) := by decide +kernel
theorem d_T_wish_49 : decode b_T_wish 49 = .ok (.aload_n 0, 1) := by decide +kernel
theorem d_T_wish_50 : decode b_T_wish 50 = .ok (.aload_n 3, 1) := by decide +kernel
theorem d_T_wish_51 : decode b_T_wish 51 = .ok (.invokevirtual 78, 3) := by decide +kernel
theorem d_T_wish_54 : decode b_T_wish 54 = .ok (.aload_n 3, 1) := by decide +kernel
theorem d_T_wish_55 : decode b_T_wish 55 = .ok (.dup, 1) := by decide +kernel
theorem d_T_wish_56 : decode b_T_wish 56 = .ok (.getfield 73, 3) := by decide +kernel
theorem d_T_wish_59 : decode b_T_wish 59 = .ok (.iconst 1, 1) := by decide +kernel
theorem d_T_wish_60 : decode b_T_wish 60 = .ok (.iadd, 1) := by decide +kernel
theorem d_T_wish_61 : decode b_T_wish 61 = .ok (.putfield 73, 3) := by decide +kernel
theorem d_T_wish_64 : decode b_T_wish 64 = .ok (.aload_n 0, 1) := by decide +kernel
theorem d_T_wish_65 : decode b_T_wish 65 = .ok (.getfield 10, 3) := by decide +kernel
theorem d_T_wish_68 : decode b_T_wish 68 = .ok (.invokevirtual 82, 3) := by decide +kernel
theorem d_T_wish_71 : decode b_T_wish 71 = .ok (.aload_n 3, 1) := by decide +kernel
theorem d_T_wish_72 : decode b_T_wish 72 = .ok (.getfield 73, 3) := by decide +kernel
theorem d_T_wish_75 : decode b_T_wish 75 = .ok (.ireturn, 1) := by decide +kernel
theorem d_T_deviceAt_0 : decode b_T_deviceAt 0 = .ok (.iload_n 1, 1) := by decide +kernel
theorem d_T_deviceAt_1 : decode b_T_deviceAt 1 = .ok (.ifCond .lt 9, 3) := by decide +kernel
theorem d_T_deviceAt_4 : decode b_T_deviceAt 4 = .ok (.iload_n 1, 1) := by decide +kernel
theorem d_T_deviceAt_5 : decode b_T_deviceAt 5 = .ok (.bipush 8, 2) := by decide +kernel
theorem d_T_deviceAt_7 : decode b_T_deviceAt 7 = .ok (.if_icmp .lt 13, 3) := by decide +kernel
theorem d_T_deviceAt_10 : decode b_T_deviceAt 10 = .ok (.new 57, 3) := by decide +kernel
theorem d_T_deviceAt_13 : decode b_T_deviceAt 13 = .ok (.dup, 1) := by decide +kernel
theorem d_T_deviceAt_14 : decode b_T_deviceAt 14 = .ok (.ldc 198, 2) := by decide +kernel
theorem d_T_deviceAt_16 : decode b_T_deviceAt 16 = .ok (.invokespecial 61, 3) := by decide +kernel
theorem d_T_deviceAt_19 : decode b_T_deviceAt 19 = .ok (.athrow, 1) := by decide +kernel
theorem d_T_deviceAt_20 : decode b_T_deviceAt 20 = .ok (.aload_n 0, 1) := by decide +kernel
theorem d_T_deviceAt_21 : decode b_T_deviceAt 21 = .ok (.getfield 18, 3) := by decide +kernel
theorem d_T_deviceAt_24 : decode b_T_deviceAt 24 = .ok (.iload_n 1, 1) := by decide +kernel
theorem d_T_deviceAt_25 : decode b_T_deviceAt 25 = .ok (.aaload, 1) := by decide +kernel
theorem d_T_deviceAt_26 : decode b_T_deviceAt 26 = .ok (.areturn, 1) := by decide +kernel
theorem d_T_mergeWish_0 : decode b_T_mergeWish 0 = .ok (.iconst 0, 1) := by decide +kernel
theorem d_T_mergeWish_1 : decode b_T_mergeWish 1 = .ok (.istore_n 2, 1) := by decide +kernel
theorem d_T_mergeWish_2 : decode b_T_mergeWish 2 = .ok (.iload_n 2, 1) := by decide +kernel
theorem d_T_mergeWish_3 : decode b_T_mergeWish 3 = .ok (.bipush 12, 2) := by decide +kernel
theorem d_T_mergeWish_5 : decode b_T_mergeWish 5 = .ok (.if_icmp .ge 34, 3) := by decide +kernel
theorem d_T_mergeWish_8 : decode b_T_mergeWish 8 = .ok (.aload_n 0, 1) := by decide +kernel
theorem d_T_mergeWish_9 : decode b_T_mergeWish 9 = .ok (.getfield 10, 3) := by decide +kernel
theorem d_T_mergeWish_12 : decode b_T_mergeWish 12 = .ok (.iload_n 2, 1) := by decide +kernel
theorem d_T_mergeWish_13 : decode b_T_mergeWish 13 = .ok (.invokevirtual 213, 3) := by decide +kernel
theorem d_T_mergeWish_16 : decode b_T_mergeWish 16 = .ok (.ifCond .eq 17, 3) := by decide +kernel
theorem d_T_mergeWish_19 : decode b_T_mergeWish 19 = .ok (.aload_n 1, 1) := by decide +kernel
theorem d_T_mergeWish_20 : decode b_T_mergeWish 20 = .ok (.iload_n 2, 1) := by decide +kernel
theorem d_T_mergeWish_21 : decode b_T_mergeWish 21 = .ok (.aload_n 0, 1) := by decide +kernel
theorem d_T_mergeWish_22 : decode b_T_mergeWish 22 = .ok (.getfield 10, 3) := by decide +kernel
theorem d_T_mergeWish_25 : decode b_T_mergeWish 25 = .ok (.getfield 216, 3) := by decide +kernel
theorem d_T_mergeWish_28 : decode b_T_mergeWish 28 = .ok (.iload_n 2, 1) := by decide +kernel
theorem d_T_mergeWish_29 : decode b_T_mergeWish 29 = .ok (.iaload, 1) := by decide +kernel
theorem d_T_mergeWish_30 : decode b_T_mergeWish 30 = .ok (.invokevirtual 219, 3) := by decide +kernel
theorem d_T_mergeWish_33 : decode b_T_mergeWish 33 = .ok (.iinc 2 1, 3) := by decide +kernel
theorem d_T_mergeWish_36 : decode b_T_mergeWish 36 = .ok (.goto (-34), 3) := by decide +kernel
theorem d_T_mergeWish_39 : decode b_T_mergeWish 39 = .ok (.return_, 1) := by decide +kernel
theorem d_F_has_0 : decode b_F_has 0 = .ok (.aload_n 0, 1) := by decide +kernel
theorem d_F_has_1 : decode b_F_has 1 = .ok (.getfield 15, 3) := by decide +kernel
theorem d_F_has_4 : decode b_F_has 4 = .ok (.iconst 1, 1) := by decide +kernel
theorem d_F_has_5 : decode b_F_has 5 = .ok (.iload_n 1, 1) := by decide +kernel
theorem d_F_has_6 : decode b_F_has 6 = .ok (.ishl, 1) := by decide +kernel
theorem d_F_has_7 : decode b_F_has 7 = .ok (.iand, 1) := by decide +kernel
theorem d_F_has_8 : decode b_F_has 8 = .ok (.ifCond .eq 7, 3) := by decide +kernel
theorem d_F_has_11 : decode b_F_has 11 = .ok (.iconst 1, 1) := by decide +kernel
theorem d_F_has_12 : decode b_F_has 12 = .ok (.goto 4, 3) := by decide +kernel
theorem d_F_has_15 : decode b_F_has 15 = .ok (.iconst 0, 1) := by decide +kernel
theorem d_F_has_16 : decode b_F_has 16 = .ok (.ireturn, 1) := by decide +kernel
theorem d_F_empty_0 : decode b_F_empty 0 = .ok (.aload_n 0, 1) := by decide +kernel
theorem d_F_empty_1 : decode b_F_empty 1 = .ok (.iconst 0, 1) := by decide +kernel
theorem d_F_empty_2 : decode b_F_empty 2 = .ok (.putfield 15, 3) := by decide +kernel
theorem d_F_empty_5 : decode b_F_empty 5 = .ok (.return_, 1) := by decide +kernel
theorem d_T_report_0 : decode b_T_report 0 = .ok (.aload_n 0, 1) := by decide +kernel
theorem d_T_report_1 : decode b_T_report 1 = .ok (.iload_n 1, 1) := by decide +kernel
theorem d_T_report_2 : decode b_T_report 2 = .ok (.invokevirtual 64, 3) := by decide +kernel
theorem d_T_report_5 : decode b_T_report 5 = .ok (.astore_n 3, 1) := by decide +kernel
theorem d_T_report_6 : decode b_T_report 6 = .ok (.iload_n 2, 1) := by decide +kernel
theorem d_T_report_7 : decode b_T_report 7 = .ok (.iconst 1, 1) := by decide +kernel
theorem d_T_report_8 : decode b_T_report 8 = .ok (.aload_n 3, 1) := by decide +kernel
theorem d_T_report_9 : decode b_T_report 9 = .ok (.getfield 85, 3) := by decide +kernel
theorem d_T_report_12 : decode b_T_report 12 = .ok (.iconst 1, 1) := by decide +kernel
theorem d_T_report_13 : decode b_T_report 13 = .ok (.iadd, 1) := by decide +kernel
theorem d_T_report_14 : decode b_T_report 14 = .ok (.invokestatic 45, 3) := by decide +kernel
theorem d_T_report_17 : decode b_T_report 17 = .ok (.aload_n 3, 1) := by decide +kernel
theorem d_T_report_18 : decode b_T_report 18 = .ok (.invokestatic 88, 3) := by decide +kernel
theorem d_T_report_21 : decode b_T_report 21 = .ok (.iload_n 2, 1) := by decide +kernel
theorem d_T_report_22 : decode b_T_report 22 = .ok (.aload_n 3, 1) := by decide +kernel
theorem d_T_report_23 : decode b_T_report 23 = .ok (.getfield 85, 3) := by decide +kernel
theorem d_T_report_26 : decode b_T_report 26 = .ok (.if_icmp .gt 7, 3) := by decide +kernel
theorem d_T_report_29 : decode b_T_report 29 = .ok (.iconst 1, 1) := by decide +kernel
theorem d_T_report_30 : decode b_T_report 30 = .ok (.goto 4, 3) := by decide +kernel
theorem d_T_report_33 : decode b_T_report 33 = .ok (.iconst 0, 1) := by decide +kernel
theorem d_T_report_34 : decode b_T_report 34 = .ok (.istore 4, 2) := by decide +kernel
theorem d_T_report_36 : decode b_T_report 36 = .ok (.iload 4, 2) := by decide +kernel
theorem d_T_report_38 : decode b_T_report 38 = .ok (.ifCond .ne 13, 3) := by decide +kernel
theorem d_T_report_41 : decode b_T_report 41 = .ok (.aload_n 0, 1) := by decide +kernel
theorem d_T_report_42 : decode b_T_report 42 = .ok (.aload_n 3, 1) := by decide +kernel
theorem d_T_report_43 : decode b_T_report 43 = .ok (.invokevirtual 91, 3) := by decide +kernel
theorem d_T_report_46 : decode b_T_report 46 = .ok (.aload_n 3, 1) := by decide +kernel
theorem d_T_report_47 : decode b_T_report 47 = .ok (.iload_n 2, 1) := by decide +kernel
theorem d_T_report_48 : decode b_T_report 48 = .ok (.putfield 85, 3) := by decide +kernel
theorem d_T_report_51 : decode b_T_report 51 = .ok (.aload_n 0, 1) := by decide +kernel
theorem d_T_report_52 : decode b_T_report 52 = .ok (.getfield 10, 3) := by decide +kernel
theorem d_T_report_55 : decode b_T_report 55 = .ok (.invokevirtual 82, 3) := by decide +kernel
theorem d_T_report_58 : decode b_T_report 58 = .ok (.iload 4, 2) := by decide +kernel
theorem d_T_report_60 : decode b_T_report 60 = .ok (.ifCond .eq 7, 3) := by decide +kernel
theorem d_T_report_63 : decode b_T_report 63 = .ok (.iconst (-1), 1) := by decide +kernel
theorem d_T_report_64 : decode b_T_report 64 = .ok (.goto 10, 3) := by decide +kernel
theorem d_T_report_67 : decode b_T_report 67 = .ok (.aload_n 3, 1) := by decide +kernel
theorem d_T_report_68 : decode b_T_report 68 = .ok (.getfield 94, 3) := by decide +kernel
theorem d_T_report_71 : decode b_T_report 71 = .ok (.invokestatic 97, 3) := by decide +kernel
theorem d_T_report_74 : decode b_T_report 74 = .ok (.ireturn, 1) := by decide +kernel
theorem d_T_requireAwake_0 : decode b_T_requireAwake 0 = .ok (.aload_n 0, 1) := by decide +kernel
theorem d_T_requireAwake_1 : decode b_T_requireAwake 1 = .ok (.getfield 119, 3) := by decide +kernel
theorem d_T_requireAwake_4 : decode b_T_requireAwake 4 = .ok (.ifCond .eq 13, 3) := by decide +kernel
theorem d_T_requireAwake_7 : decode b_T_requireAwake 7 = .ok (.new 68, 3) := by decide +kernel
theorem d_T_requireAwake_10 : decode b_T_requireAwake 10 = .ok (.dup, 1) := by decide +kernel
theorem d_T_requireAwake_11 : decode b_T_requireAwake 11 = .ok (.ldc 211, 2) := by decide +kernel
theorem d_T_requireAwake_13 : decode b_T_requireAwake 13 = .ok (.invokespecial 72, 3) := by decide +kernel
theorem d_T_requireAwake_16 : decode b_T_requireAwake 16 = .ok (.athrow, 1) := by decide +kernel
theorem d_T_requireAwake_17 : decode b_T_requireAwake 17 = .ok (.return_, 1) := by decide +kernel
theorem d_T_mergeReport_0 : decode b_T_mergeReport 0 = .ok (.iconst 0, 1) := by decide +kernel
theorem d_T_mergeReport_1 : decode b_T_mergeReport 1 = .ok (.istore_n 2, 1) := by decide +kernel
theorem d_T_mergeReport_2 : decode b_T_mergeReport 2 = .ok (.iload_n 2, 1) := by decide +kernel
theorem d_T_mergeReport_3 : decode b_T_mergeReport 3 = .ok (.bipush 12, 2) := by decide +kernel
theorem d_T_mergeReport_5 : decode b_T_mergeReport 5 = .ok (.if_icmp .ge 34, 3) := by decide +kernel
theorem d_T_mergeReport_8 : decode b_T_mergeReport 8 = .ok (.aload_n 0, 1) := by decide +kernel
theorem d_T_mergeReport_9 : decode b_T_mergeReport 9 = .ok (.getfield 10, 3) := by decide +kernel
theorem d_T_mergeReport_12 : decode b_T_mergeReport 12 = .ok (.iload_n 2, 1) := by decide +kernel
theorem d_T_mergeReport_13 : decode b_T_mergeReport 13 = .ok (.invokevirtual 213, 3) := by decide +kernel
theorem d_T_mergeReport_16 : decode b_T_mergeReport 16 = .ok (.ifCond .eq 17, 3) := by decide +kernel
theorem d_T_mergeReport_19 : decode b_T_mergeReport 19 = .ok (.aload_n 1, 1) := by decide +kernel
theorem d_T_mergeReport_20 : decode b_T_mergeReport 20 = .ok (.iload_n 2, 1) := by decide +kernel
theorem d_T_mergeReport_21 : decode b_T_mergeReport 21 = .ok (.aload_n 0, 1) := by decide +kernel
theorem d_T_mergeReport_22 : decode b_T_mergeReport 22 = .ok (.getfield 10, 3) := by decide +kernel
theorem d_T_mergeReport_25 : decode b_T_mergeReport 25 = .ok (.getfield 216, 3) := by decide +kernel
theorem d_T_mergeReport_28 : decode b_T_mergeReport 28 = .ok (.iload_n 2, 1) := by decide +kernel
theorem d_T_mergeReport_29 : decode b_T_mergeReport 29 = .ok (.iaload, 1) := by decide +kernel
theorem d_T_mergeReport_30 : decode b_T_mergeReport 30 = .ok (.invokevirtual 111, 3) := by decide +kernel
theorem d_T_mergeReport_33 : decode b_T_mergeReport 33 = .ok (.iinc 2 1, 3) := by decide +kernel
theorem d_T_mergeReport_36 : decode b_T_mergeReport 36 = .ok (.goto (-34), 3) := by decide +kernel
theorem d_T_mergeReport_39 : decode b_T_mergeReport 39 = .ok (.return_, 1) := by decide +kernel
theorem d_D_takeReport_0 : decode b_D_takeReport 0 = .ok (.aload_n 0, 1) := by decide +kernel
theorem d_D_takeReport_1 : decode b_D_takeReport 1 = .ok (.getfield 15, 3) := by decide +kernel
theorem d_D_takeReport_4 : decode b_D_takeReport 4 = .ok (.iload_n 1, 1) := by decide +kernel
theorem d_D_takeReport_5 : decode b_D_takeReport 5 = .ok (.iload_n 2, 1) := by decide +kernel
theorem d_D_takeReport_6 : decode b_D_takeReport 6 = .ok (.iastore, 1) := by decide +kernel
theorem d_D_takeReport_7 : decode b_D_takeReport 7 = .ok (.aload_n 0, 1) := by decide +kernel
theorem d_D_takeReport_8 : decode b_D_takeReport 8 = .ok (.iload_n 1, 1) := by decide +kernel
theorem d_D_takeReport_9 : decode b_D_takeReport 9 = .ok (.invokevirtual 21, 3) := by decide +kernel
theorem d_D_takeReport_12 : decode b_D_takeReport 12 = .ok (.return_, 1) := by decide +kernel
theorem d_T_obey_0 : decode b_T_obey 0 = .ok (.aload_n 0, 1) := by decide +kernel
theorem d_T_obey_1 : decode b_T_obey 1 = .ok (.iload_n 1, 1) := by decide +kernel
theorem d_T_obey_2 : decode b_T_obey 2 = .ok (.invokevirtual 64, 3) := by decide +kernel
theorem d_T_obey_5 : decode b_T_obey 5 = .ok (.astore_n 2, 1) := by decide +kernel
theorem d_T_obey_6 : decode b_T_obey 6 = .ok (.aload_n 2, 1) := by decide +kernel
theorem d_T_obey_7 : decode b_T_obey 7 = .ok (.invokestatic 88, 3) := by decide +kernel
theorem d_T_obey_10 : decode b_T_obey 10 = .ok (.iconst 0, 1) := by decide +kernel
theorem d_T_obey_11 : decode b_T_obey 11 = .ok (.istore_n 3, 1) := by decide +kernel
theorem d_T_obey_12 : decode b_T_obey 12 = .ok (.iconst 0, 1) := by decide +kernel
theorem d_T_obey_13 : decode b_T_obey 13 = .ok (.istore 4, 2) := by decide +kernel
theorem d_T_obey_15 : decode b_T_obey 15 = .ok (.iload 4, 2) := by decide +kernel
theorem d_T_obey_17 : decode b_T_obey 17 = .ok (.bipush 12, 2) := by decide +kernel
theorem d_T_obey_19 : decode b_T_obey 19 = .ok (.if_icmp .ge 34, 3) := by decide +kernel
theorem d_T_obey_22 : decode b_T_obey 22 = .ok (.aload_n 2, 1) := by decide +kernel
theorem d_T_obey_23 : decode b_T_obey 23 = .ok (.iload 4, 2) := by decide +kernel
theorem d_T_obey_25 : decode b_T_obey 25 = .ok (.invokevirtual 103, 3) := by decide +kernel
theorem d_T_obey_28 : decode b_T_obey 28 = .ok (.ifCond .eq 19, 3) := by decide +kernel
theorem d_T_obey_31 : decode b_T_obey 31 = .ok (.aload_n 2, 1) := by decide +kernel
theorem d_T_obey_32 : decode b_T_obey 32 = .ok (.iload 4, 2) := by decide +kernel
theorem d_T_obey_34 : decode b_T_obey 34 = .ok (.aload_n 2, 1) := by decide +kernel
theorem d_T_obey_35 : decode b_T_obey 35 = .ok (.getfield 107, 3) := by decide +kernel
theorem d_T_obey_38 : decode b_T_obey 38 = .ok (.iload 4, 2) := by decide +kernel
theorem d_T_obey_40 : decode b_T_obey 40 = .ok (.iaload, 1) := by decide +kernel
theorem d_T_obey_41 : decode b_T_obey 41 = .ok (.invokevirtual 111, 3) := by decide +kernel
theorem d_T_obey_44 : decode b_T_obey 44 = .ok (.iinc 3 1, 3) := by decide +kernel
theorem d_T_obey_47 : decode b_T_obey 47 = .ok (.iinc 4 1, 3) := by decide +kernel
theorem d_T_obey_50 : decode b_T_obey 50 = .ok (.goto (-35), 3) := by decide +kernel
theorem d_T_obey_53 : decode b_T_obey 53 = .ok (.aload_n 2, 1) := by decide +kernel
theorem d_T_obey_54 : decode b_T_obey 54 = .ok (.dup, 1) := by decide +kernel
theorem d_T_obey_55 : decode b_T_obey 55 = .ok (.getfield 85, 3) := by decide +kernel
theorem d_T_obey_58 : decode b_T_obey 58 = .ok (.iconst 1, 1) := by decide +kernel
theorem d_T_obey_59 : decode b_T_obey 59 = .ok (.iadd, 1) := by decide +kernel
theorem d_T_obey_60 : decode b_T_obey 60 = .ok (.putfield 85, 3) := by decide +kernel
theorem d_T_obey_63 : decode b_T_obey 63 = .ok (.iload_n 3, 1) := by decide +kernel
theorem d_T_obey_64 : decode b_T_obey 64 = .ok (.ireturn, 1) := by decide +kernel
theorem d_D_differsAt_0 : decode b_D_differsAt 0 = .ok (.aload_n 0, 1) := by decide +kernel
theorem d_D_differsAt_1 : decode b_D_differsAt 1 = .ok (.getfield 29, 3) := by decide +kernel
theorem d_D_differsAt_4 : decode b_D_differsAt 4 = .ok (.iconst 1, 1) := by decide +kernel
theorem d_D_differsAt_5 : decode b_D_differsAt 5 = .ok (.iload_n 1, 1) := by decide +kernel
theorem d_D_differsAt_6 : decode b_D_differsAt 6 = .ok (.ishl, 1) := by decide +kernel
theorem d_D_differsAt_7 : decode b_D_differsAt 7 = .ok (.iand, 1) := by decide +kernel
theorem d_D_differsAt_8 : decode b_D_differsAt 8 = .ok (.ifCond .eq 7, 3) := by decide +kernel
theorem d_D_differsAt_11 : decode b_D_differsAt 11 = .ok (.iconst 1, 1) := by decide +kernel
theorem d_D_differsAt_12 : decode b_D_differsAt 12 = .ok (.goto 4, 3) := by decide +kernel
theorem d_D_differsAt_15 : decode b_D_differsAt 15 = .ok (.iconst 0, 1) := by decide +kernel
theorem d_D_differsAt_16 : decode b_D_differsAt 16 = .ok (.ireturn, 1) := by decide +kernel
theorem d_T_refuse_0 : decode b_T_refuse 0 = .ok (.aload_n 0, 1) := by decide +kernel
theorem d_T_refuse_1 : decode b_T_refuse 1 = .ok (.iload_n 1, 1) := by decide +kernel
theorem d_T_refuse_2 : decode b_T_refuse 2 = .ok (.invokevirtual 64, 3) := by decide +kernel
theorem d_T_refuse_5 : decode b_T_refuse 5 = .ok (.astore 4, 2) := by decide +kernel
theorem d_T_refuse_7 : decode b_T_refuse 7 = .ok (.iload_n 2, 1) := by decide +kernel
theorem d_T_refuse_8 : decode b_T_refuse 8 = .ok (.invokestatic 41, 3) := by decide +kernel
theorem d_T_refuse_11 : decode b_T_refuse 11 = .ok (.iload_n 3, 1) := by decide +kernel
theorem d_T_refuse_12 : decode b_T_refuse 12 = .ok (.iconst 1, 1) := by decide +kernel
theorem d_T_refuse_13 : decode b_T_refuse 13 = .ok (.bipush 9, 2) := by decide +kernel
theorem d_T_refuse_15 : decode b_T_refuse 15 = .ok (.invokestatic 45, 3) := by decide +kernel
theorem d_T_refuse_18 : decode b_T_refuse 18 = .ok (.aload 4, 2) := by decide +kernel
theorem d_T_refuse_20 : decode b_T_refuse 20 = .ok (.invokestatic 88, 3) := by decide +kernel
theorem d_T_refuse_23 : decode b_T_refuse 23 = .ok (.aload 4, 2) := by decide +kernel
theorem d_T_refuse_25 : decode b_T_refuse 25 = .ok (.iload_n 2, 1) := by decide +kernel
theorem d_T_refuse_26 : decode b_T_refuse 26 = .ok (.invokevirtual 103, 3) := by decide +kernel
theorem d_T_refuse_29 : decode b_T_refuse 29 = .ok (.ifCond .ne 13, 3) := by decide +kernel
theorem d_T_refuse_32 : decode b_T_refuse 32 = .ok (.new 68, 3) := by decide +kernel
theorem d_T_refuse_35 : decode b_T_refuse 35 = .ok (.dup, 1) := by decide +kernel
theorem d_T_refuse_36 : decode b_T_refuse 36 = .ok (.ldc 114, 2) := by decide +kernel
theorem d_T_refuse_38 : decode b_T_refuse 38 = .ok (.invokespecial 72, 3) := by decide +kernel
theorem d_T_refuse_41 : decode b_T_refuse 41 = .ok (.athrow, 1) := by decide +kernel
theorem d_T_refuse_42 : decode b_T_refuse 42 = .ok (.aload 4, 2) := by decide +kernel
theorem d_T_refuse_44 : decode b_T_refuse 44 = .ok (.iload_n 2, 1) := by decide +kernel
theorem d_T_refuse_45 : decode b_T_refuse 45 = .ok (.iload_n 3, 1) := by decide +kernel
theorem d_T_refuse_46 : decode b_T_refuse 46 = .ok (.invokevirtual 116, 3) := by decide +kernel
theorem d_T_refuse_49 : decode b_T_refuse 49 = .ok (.aload 4, 2) := by decide +kernel
theorem d_T_refuse_51 : decode b_T_refuse 51 = .ok (.getfield 94, 3) := by decide +kernel
theorem d_T_refuse_54 : decode b_T_refuse 54 = .ok (.invokestatic 97, 3) := by decide +kernel
theorem d_T_refuse_57 : decode b_T_refuse 57 = .ok (.ireturn, 1) := by decide +kernel
theorem d_D_takeRefusal_0 : decode b_D_takeRefusal 0 = .ok (.aload_n 0, 1) := by decide +kernel
theorem d_D_takeRefusal_1 : decode b_D_takeRefusal 1 = .ok (.getfield 18, 3) := by decide +kernel
theorem d_D_takeRefusal_4 : decode b_D_takeRefusal 4 = .ok (.iload_n 1, 1) := by decide +kernel
theorem d_D_takeRefusal_5 : decode b_D_takeRefusal 5 = .ok (.iload_n 2, 1) := by decide +kernel
theorem d_D_takeRefusal_6 : decode b_D_takeRefusal 6 = .ok (.iastore, 1) := by decide +kernel
theorem d_D_takeRefusal_7 : decode b_D_takeRefusal 7 = .ok (.aload_n 0, 1) := by decide +kernel
theorem d_D_takeRefusal_8 : decode b_D_takeRefusal 8 = .ok (.iload_n 1, 1) := by decide +kernel
theorem d_D_takeRefusal_9 : decode b_D_takeRefusal 9 = .ok (.invokevirtual 21, 3) := by decide +kernel
theorem d_D_takeRefusal_12 : decode b_D_takeRefusal 12 = .ok (.return_, 1) := by decide +kernel
theorem d_T_sleep_0 : decode b_T_sleep 0 = .ok (.aload_n 0, 1) := by decide +kernel
theorem d_T_sleep_1 : decode b_T_sleep 1 = .ok (.iload_n 1, 1) := by decide +kernel
theorem d_T_sleep_2 : decode b_T_sleep 2 = .ok (.invokevirtual 64, 3) := by decide +kernel
theorem d_T_sleep_5 : decode b_T_sleep 5 = .ok (.astore_n 2, 1) := by decide +kernel
theorem d_T_sleep_6 : decode b_T_sleep 6 = .ok (.aload_n 2, 1) := by decide +kernel
theorem d_T_sleep_7 : decode b_T_sleep 7 = .ok (.getfield 119, 3) := by decide +kernel
theorem d_T_sleep_10 : decode b_T_sleep 10 = .ok (.ifCond .ne 7, 3) := by decide +kernel
theorem d_T_sleep_13 : decode b_T_sleep 13 = .ok (.iconst 1, 1) := by decide +kernel
theorem d_T_sleep_14 : decode b_T_sleep 14 = .ok (.goto 4, 3) := by decide +kernel
theorem d_T_sleep_17 : decode b_T_sleep 17 = .ok (.iconst 0, 1) := by decide +kernel
theorem d_T_sleep_18 : decode b_T_sleep 18 = .ok (.istore_n 3, 1) := by decide +kernel
theorem d_T_sleep_19 : decode b_T_sleep 19 = .ok (.iload_n 3, 1) := by decide +kernel
theorem d_T_sleep_20 : decode b_T_sleep 20 = .ok (.ifCond .eq 16, 3) := by decide +kernel
theorem d_T_sleep_23 : decode b_T_sleep 23 = .ok (.aload_n 2, 1) := by decide +kernel
theorem d_T_sleep_24 : decode b_T_sleep 24 = .ok (.iconst 1, 1) := by decide +kernel
theorem d_T_sleep_25 : decode b_T_sleep 25 = .ok (.putfield 119, 3) := by decide +kernel
theorem d_T_sleep_28 : decode b_T_sleep 28 = .ok (.aload_n 2, 1) := by decide +kernel
theorem d_T_sleep_29 : decode b_T_sleep 29 = .ok (.aload_n 2, 1) := by decide +kernel
theorem d_T_sleep_30 : decode b_T_sleep 30 = .ok (.getfield 73, 3) := by decide +kernel
theorem d_T_sleep_33 : decode b_T_sleep 33 = .ok (.putfield 123, 3) := by decide +kernel
theorem d_T_sleep_36 : decode b_T_sleep 36 = .ok (.iload_n 3, 1) := by decide +kernel
theorem d_T_sleep_37 : decode b_T_sleep 37 = .ok (.ireturn, 1) := by decide +kernel
theorem d_T_wake_0 : decode b_T_wake 0 = .ok (.aload_n 0, 1) := by decide +kernel
theorem d_T_wake_1 : decode b_T_wake 1 = .ok (.iload_n 1, 1) := by decide +kernel
theorem d_T_wake_2 : decode b_T_wake 2 = .ok (.invokevirtual 64, 3) := by decide +kernel
theorem d_T_wake_5 : decode b_T_wake 5 = .ok (.astore_n 2, 1) := by decide +kernel
theorem d_T_wake_6 : decode b_T_wake 6 = .ok (.aload_n 2, 1) := by decide +kernel
theorem d_T_wake_7 : decode b_T_wake 7 = .ok (.getfield 73, 3) := by decide +kernel
theorem d_T_wake_10 : decode b_T_wake 10 = .ok (.aload_n 2, 1) := by decide +kernel
theorem d_T_wake_11 : decode b_T_wake 11 = .ok (.invokevirtual 126, 3) := by decide +kernel
theorem d_T_wake_14 : decode b_T_wake 14 = .ok (.isub, 1) := by decide +kernel
theorem d_T_wake_15 : decode b_T_wake 15 = .ok (.istore_n 3, 1) := by decide +kernel
theorem d_T_wake_16 : decode b_T_wake 16 = .ok (.aload_n 2, 1) := by decide +kernel
theorem d_T_wake_17 : decode b_T_wake 17 = .ok (.iconst 0, 1) := by decide +kernel
theorem d_T_wake_18 : decode b_T_wake 18 = .ok (.putfield 119, 3) := by decide +kernel
theorem d_T_wake_21 : decode b_T_wake 21 = .ok (.iload_n 3, 1) := by decide +kernel
theorem d_T_wake_22 : decode b_T_wake 22 = .ok (.ireturn, 1) := by decide +kernel
theorem d_D_heardVersion_0 : decode b_D_heardVersion 0 = .ok (.aload_n 0, 1) := by decide +kernel
theorem d_D_heardVersion_1 : decode b_D_heardVersion 1 = .ok (.getfield 33, 3) := by decide +kernel
theorem d_D_heardVersion_4 : decode b_D_heardVersion 4 = .ok (.ifCond .eq 10, 3) := by decide +kernel
theorem d_D_heardVersion_7 : decode b_D_heardVersion 7 = .ok (.aload_n 0, 1) := by decide +kernel
theorem d_D_heardVersion_8 : decode b_D_heardVersion 8 = .ok (.getfield 37, 3) := by decide +kernel
theorem d_D_heardVersion_11 : decode b_D_heardVersion 11 = .ok (.goto 7, 3) := by decide +kernel
theorem d_D_heardVersion_14 : decode b_D_heardVersion 14 = .ok (.aload_n 0, 1) := by decide +kernel
theorem d_D_heardVersion_15 : decode b_D_heardVersion 15 = .ok (.getfield 40, 3) := by decide +kernel
theorem d_D_heardVersion_18 : decode b_D_heardVersion 18 = .ok (.ireturn, 1) := by decide +kernel
theorem d_T_setGroup_0 : decode b_T_setGroup 0 = .ok (.aload_n 0, 1) := by decide +kernel
theorem d_T_setGroup_1 : decode b_T_setGroup 1 = .ok (.iload_n 1, 1) := by decide +kernel
theorem d_T_setGroup_2 : decode b_T_setGroup 2 = .ok (.invokevirtual 129, 3) := by decide +kernel
theorem d_T_setGroup_5 : decode b_T_setGroup 5 = .ok (.astore 5, 2) := by decide +kernel
theorem d_T_setGroup_7 : decode b_T_setGroup 7 = .ok (.iload_n 2, 1) := by decide +kernel
theorem d_T_setGroup_8 : decode b_T_setGroup 8 = .ok (.invokestatic 41, 3) := by decide +kernel
theorem d_T_setGroup_11 : decode b_T_setGroup 11 = .ok (.iload_n 3, 1) := by decide +kernel
theorem d_T_setGroup_12 : decode b_T_setGroup 12 = .ok (.iconst 0, 1) := by decide +kernel
theorem d_T_setGroup_13 : decode b_T_setGroup 13 = .ok (.bipush 99, 2) := by decide +kernel
theorem d_T_setGroup_15 : decode b_T_setGroup 15 = .ok (.invokestatic 45, 3) := by decide +kernel
theorem d_T_setGroup_18 : decode b_T_setGroup 18 = .ok (.iload 4, 2) := by decide +kernel
theorem d_T_setGroup_20 : decode b_T_setGroup 20 = .ok (.iload_n 3, 1) := by decide +kernel
theorem d_T_setGroup_21 : decode b_T_setGroup 21 = .ok (.bipush 99, 2) := by decide +kernel
theorem d_T_setGroup_23 : decode b_T_setGroup 23 = .ok (.invokestatic 45, 3) := by decide +kernel
theorem d_T_setGroup_26 : decode b_T_setGroup 26 = .ok (.aload 5, 2) := by decide +kernel
theorem d_T_setGroup_28 : decode b_T_setGroup 28 = .ok (.iload_n 2, 1) := by decide +kernel
theorem d_T_setGroup_29 : decode b_T_setGroup 29 = .ok (.putfield 133, 3) := by decide +kernel
theorem d_T_setGroup_32 : decode b_T_setGroup 32 = .ok (.aload 5, 2) := by decide +kernel
theorem d_T_setGroup_34 : decode b_T_setGroup 34 = .ok (.iload_n 3, 1) := by decide +kernel
theorem d_T_setGroup_35 : decode b_T_setGroup 35 = .ok (.putfield 136, 3) := by decide +kernel
theorem d_T_setGroup_38 : decode b_T_setGroup 38 = .ok (.aload 5, 2) := by decide +kernel
theorem d_T_setGroup_40 : decode b_T_setGroup 40 = .ok (.iload 4, 2) := by decide +kernel
theorem d_T_setGroup_42 : decode b_T_setGroup 42 = .ok (.putfield 139, 3) := by decide +kernel
theorem d_T_setGroup_45 : decode b_T_setGroup 45 = .ok (.aload_n 0, 1) := by decide +kernel
theorem d_T_setGroup_46 : decode b_T_setGroup 46 = .ok (.aload 5, 2) := by decide +kernel
theorem d_T_setGroup_48 : decode b_T_setGroup 48 = .ok (.invokevirtual 142, 3) := by decide +kernel
theorem d_T_setGroup_51 : decode b_T_setGroup 51 = .ok (.invokestatic 97, 3) := by decide +kernel
theorem d_T_setGroup_54 : decode b_T_setGroup 54 = .ok (.ireturn, 1) := by decide +kernel
theorem d_T_groupAt_0 : decode b_T_groupAt 0 = .ok (.iload_n 1, 1) := by decide +kernel
theorem d_T_groupAt_1 : decode b_T_groupAt 1 = .ok (.invokestatic 146, 3) := by decide +kernel
theorem d_T_groupAt_4 : decode b_T_groupAt 4 = .ok (.aload_n 0, 1) := by decide +kernel
theorem d_T_groupAt_5 : decode b_T_groupAt 5 = .ok (.getfield 25, 3) := by decide +kernel
theorem d_T_groupAt_8 : decode b_T_groupAt 8 = .ok (.iload_n 1, 1) := by decide +kernel
theorem d_T_groupAt_9 : decode b_T_groupAt 9 = .ok (.aaload, 1) := by decide +kernel
theorem d_T_groupAt_10 : decode b_T_groupAt 10 = .ok (.areturn, 1) := by decide +kernel
theorem d_T_requireGroup_0 : decode b_T_requireGroup 0 = .ok (.iload_n 0, 1) := by decide +kernel
theorem d_T_requireGroup_1 : decode b_T_requireGroup 1 = .ok (.ifCond .lt 8, 3) := by decide +kernel
theorem d_T_requireGroup_4 : decode b_T_requireGroup 4 = .ok (.iload_n 0, 1) := by decide +kernel
theorem d_T_requireGroup_5 : decode b_T_requireGroup 5 = .ok (.iconst 4, 1) := by decide +kernel
theorem d_T_requireGroup_6 : decode b_T_requireGroup 6 = .ok (.if_icmp .lt 13, 3) := by decide +kernel
theorem d_T_requireGroup_9 : decode b_T_requireGroup 9 = .ok (.new 57, 3) := by decide +kernel
theorem d_T_requireGroup_12 : decode b_T_requireGroup 12 = .ok (.dup, 1) := by decide +kernel
theorem d_T_requireGroup_13 : decode b_T_requireGroup 13 = .ok (.ldc 200, 2) := by decide +kernel
theorem d_T_requireGroup_15 : decode b_T_requireGroup 15 = .ok (.invokespecial 61, 3) := by decide +kernel
theorem d_T_requireGroup_18 : decode b_T_requireGroup 18 = .ok (.athrow, 1) := by decide +kernel
theorem d_T_requireGroup_19 : decode b_T_requireGroup 19 = .ok (.return_, 1) := by decide +kernel
theorem d_T_addJob_0 : decode b_T_addJob 0 = .ok (.iload_n 1, 1) := by decide +kernel
theorem d_T_addJob_1 : decode b_T_addJob 1 = .ok (.invokestatic 146, 3) := by decide +kernel
theorem d_T_addJob_4 : decode b_T_addJob 4 = .ok (.iload_n 2, 1) := by decide +kernel
theorem d_T_addJob_5 : decode b_T_addJob 5 = .ok (.invokestatic 41, 3) := by decide +kernel
theorem d_T_addJob_8 : decode b_T_addJob 8 = .ok (.iload_n 3, 1) := by decide +kernel
theorem d_T_addJob_9 : decode b_T_addJob 9 = .ok (.iconst 0, 1) := by decide +kernel
theorem d_T_addJob_10 : decode b_T_addJob 10 = .ok (.bipush 99, 2) := by decide +kernel
theorem d_T_addJob_12 : decode b_T_addJob 12 = .ok (.invokestatic 45, 3) := by decide +kernel
theorem d_T_addJob_15 : decode b_T_addJob 15 = .ok (.iload 4, 2) := by decide +kernel
theorem d_T_addJob_17 : decode b_T_addJob 17 = .ok (.iconst 1, 1) := by decide +kernel
theorem d_T_addJob_18 : decode b_T_addJob 18 = .ok (.bipush 8, 2) := by decide +kernel
theorem d_T_addJob_20 : decode b_T_addJob 20 = .ok (.invokestatic 45, 3) := by decide +kernel
theorem d_T_addJob_23 : decode b_T_addJob 23 = .ok (.iload 5, 2) := by decide +kernel
theorem d_T_addJob_25 : decode b_T_addJob 25 = .ok (.iconst 1, 1) := by decide +kernel
theorem d_T_addJob_26 : decode b_T_addJob 26 = .ok (.bipush 8, 2) := by decide +kernel
theorem d_T_addJob_28 : decode b_T_addJob 28 = .ok (.invokestatic 45, 3) := by decide +kernel
theorem d_T_addJob_31 : decode b_T_addJob 31 = .ok (.aload_n 0, 1) := by decide +kernel
theorem d_T_addJob_32 : decode b_T_addJob 32 = .ok (.getfield 37, 3) := by decide +kernel
theorem d_T_addJob_35 : decode b_T_addJob 35 = .ok (.bipush 8, 2) := by decide +kernel
theorem d_T_addJob_37 : decode b_T_addJob 37 = .ok (.if_icmp .lt 13, 3) := by decide +kernel
theorem d_T_addJob_40 : decode b_T_addJob 40 = .ok (.new 68, 3) := by decide +kernel
theorem d_T_addJob_43 : decode b_T_addJob 43 = .ok (.dup, 1) := by decide +kernel
theorem d_T_addJob_44 : decode b_T_addJob 44 = .ok (.ldc 149, 2) := by decide +kernel
theorem d_T_addJob_46 : decode b_T_addJob 46 = .ok (.invokespecial 72, 3) := by decide +kernel
theorem d_T_addJob_49 : decode b_T_addJob 49 = .ok (.athrow, 1) := by decide +kernel
theorem d_T_addJob_50 : decode b_T_addJob 50 = .ok (.aload_n 0, 1) := by decide +kernel
theorem d_T_addJob_51 : decode b_T_addJob 51 = .ok (.getfield 32, 3) := by decide +kernel
theorem d_T_addJob_54 : decode b_T_addJob 54 = .ok (.aload_n 0, 1) := by decide +kernel
theorem d_T_addJob_55 : decode b_T_addJob 55 = .ok (.getfield 37, 3) := by decide +kernel
theorem d_T_addJob_58 : decode b_T_addJob 58 = .ok (.aaload, 1) := by decide +kernel
theorem d_T_addJob_59 : decode b_T_addJob 59 = .ok (.astore 6, 2) := by decide +kernel
theorem d_T_addJob_61 : decode b_T_addJob 61 = .ok (.aload 6, 2) := by decide +kernel
theorem d_T_addJob_63 : decode b_T_addJob 63 = .ok (.iload_n 1, 1) := by decide +kernel
theorem d_T_addJob_64 : decode b_T_addJob 64 = .ok (.putfield 151, 3) := by decide +kernel
theorem d_T_addJob_67 : decode b_T_addJob 67 = .ok (.aload 6, 2) := by decide +kernel
theorem d_T_addJob_69 : decode b_T_addJob 69 = .ok (.iload_n 2, 1) := by decide +kernel
theorem d_T_addJob_70 : decode b_T_addJob 70 = .ok (.putfield 154, 3) := by decide +kernel
theorem d_T_addJob_73 : decode b_T_addJob 73 = .ok (.aload 6, 2) := by decide +kernel
theorem d_T_addJob_75 : decode b_T_addJob 75 = .ok (.iload_n 3, 1) := by decide +kernel
theorem d_T_addJob_76 : decode b_T_addJob 76 = .ok (.putfield 155, 3) := by decide +kernel
theorem d_T_addJob_79 : decode b_T_addJob 79 = .ok (.aload 6, 2) := by decide +kernel
theorem d_T_addJob_81 : decode b_T_addJob 81 = .ok (.iload 4, 2) := by decide +kernel
theorem d_T_addJob_83 : decode b_T_addJob 83 = .ok (.putfield 158, 3) := by decide +kernel
theorem d_T_addJob_86 : decode b_T_addJob 86 = .ok (.aload 6, 2) := by decide +kernel
theorem d_T_addJob_88 : decode b_T_addJob 88 = .ok (.iload 5, 2) := by decide +kernel
theorem d_T_addJob_90 : decode b_T_addJob 90 = .ok (.putfield 161, 3) := by decide +kernel
theorem d_T_addJob_93 : decode b_T_addJob 93 = .ok (.aload_n 0, 1) := by decide +kernel
theorem d_T_addJob_94 : decode b_T_addJob 94 = .ok (.dup, 1) := by decide +kernel
theorem d_T_addJob_95 : decode b_T_addJob 95 = .ok (.getfield 37, 3) := by decide +kernel
theorem d_T_addJob_98 : decode b_T_addJob 98 = .ok (.iconst 1, 1) := by decide +kernel
theorem d_T_addJob_99 : decode b_T_addJob 99 = .ok (.iadd, 1) := by decide +kernel
theorem d_T_addJob_100 : decode b_T_addJob 100 = .ok (.putfield 37, 3) := by decide +kernel
theorem d_T_addJob_103 : decode b_T_addJob 103 = .ok (.aload_n 0, 1) := by decide +kernel
theorem d_T_addJob_104 : decode b_T_addJob 104 = .ok (.getfield 37, 3) := by decide +kernel
theorem d_T_addJob_107 : decode b_T_addJob 107 = .ok (.iconst 1, 1) := by decide +kernel
theorem d_T_addJob_108 : decode b_T_addJob 108 = .ok (.isub, 1) := by decide +kernel
theorem d_T_addJob_109 : decode b_T_addJob 109 = .ok (.ireturn, 1) := by decide +kernel
theorem d_T_cancel_0 : decode b_T_cancel 0 = .ok (.aload_n 0, 1) := by decide +kernel
theorem d_T_cancel_1 : decode b_T_cancel 1 = .ok (.iload_n 1, 1) := by decide +kernel
theorem d_T_cancel_2 : decode b_T_cancel 2 = .ok (.invokevirtual 171, 3) := by decide +kernel
theorem d_T_cancel_5 : decode b_T_cancel 5 = .ok (.astore_n 2, 1) := by decide +kernel
theorem d_T_cancel_6 : decode b_T_cancel 6 = .ok (.aload_n 2, 1) := by decide +kernel
theorem d_T_cancel_7 : decode b_T_cancel 7 = .ok (.getfield 164, 3) := by decide +kernel
theorem d_T_cancel_10 : decode b_T_cancel 10 = .ok (.ifCond .eq 13, 3) := by decide +kernel
theorem d_T_cancel_13 : decode b_T_cancel 13 = .ok (.new 68, 3) := by decide +kernel
theorem d_T_cancel_16 : decode b_T_cancel 16 = .ok (.dup, 1) := by decide +kernel
theorem d_T_cancel_17 : decode b_T_cancel 17 = .ok (.ldc 175, 2) := by decide +kernel
theorem d_T_cancel_19 : decode b_T_cancel 19 = .ok (.invokespecial 72, 3) := by decide +kernel
theorem d_T_cancel_22 : decode b_T_cancel 22 = .ok (.athrow, 1) := by decide +kernel
theorem d_T_cancel_23 : decode b_T_cancel 23 = .ok (.aload_n 2, 1) := by decide +kernel
theorem d_T_cancel_24 : decode b_T_cancel 24 = .ok (.iconst 2, 1) := by decide +kernel
theorem d_T_cancel_25 : decode b_T_cancel 25 = .ok (.putfield 164, 3) := by decide +kernel
theorem d_T_cancel_28 : decode b_T_cancel 28 = .ok (.aload_n 2, 1) := by decide +kernel
theorem d_T_cancel_29 : decode b_T_cancel 29 = .ok (.invokevirtual 177, 3) := by decide +kernel
theorem d_T_cancel_32 : decode b_T_cancel 32 = .ok (.invokestatic 97, 3) := by decide +kernel
theorem d_T_cancel_35 : decode b_T_cancel 35 = .ok (.ireturn, 1) := by decide +kernel
theorem d_T_jobAt_0 : decode b_T_jobAt 0 = .ok (.iload_n 1, 1) := by decide +kernel
theorem d_T_jobAt_1 : decode b_T_jobAt 1 = .ok (.ifCond .lt 11, 3) := by decide +kernel
theorem d_T_jobAt_4 : decode b_T_jobAt 4 = .ok (.iload_n 1, 1) := by decide +kernel
theorem d_T_jobAt_5 : decode b_T_jobAt 5 = .ok (.aload_n 0, 1) := by decide +kernel
theorem d_T_jobAt_6 : decode b_T_jobAt 6 = .ok (.getfield 37, 3) := by decide +kernel
theorem d_T_jobAt_9 : decode b_T_jobAt 9 = .ok (.if_icmp .lt 13, 3) := by decide +kernel
theorem d_T_jobAt_12 : decode b_T_jobAt 12 = .ok (.new 57, 3) := by decide +kernel
theorem d_T_jobAt_15 : decode b_T_jobAt 15 = .ok (.dup, 1) := by decide +kernel
theorem d_T_jobAt_16 : decode b_T_jobAt 16 = .ok (.ldc 202, 2) := by decide +kernel
theorem d_T_jobAt_18 : decode b_T_jobAt 18 = .ok (.invokespecial 61, 3) := by decide +kernel
theorem d_T_jobAt_21 : decode b_T_jobAt 21 = .ok (.athrow, 1) := by decide +kernel
theorem d_T_jobAt_22 : decode b_T_jobAt 22 = .ok (.aload_n 0, 1) := by decide +kernel
theorem d_T_jobAt_23 : decode b_T_jobAt 23 = .ok (.getfield 32, 3) := by decide +kernel
theorem d_T_jobAt_26 : decode b_T_jobAt 26 = .ok (.iload_n 1, 1) := by decide +kernel
theorem d_T_jobAt_27 : decode b_T_jobAt 27 = .ok (.aaload, 1) := by decide +kernel
theorem d_T_jobAt_28 : decode b_T_jobAt 28 = .ok (.areturn, 1) := by decide +kernel
theorem d_T_version_0 : decode b_T_version 0 = .ok (.aload_n 0, 1) := by decide +kernel
theorem d_T_version_1 : decode b_T_version 1 = .ok (.iload_n 1, 1) := by decide +kernel
theorem d_T_version_2 : decode b_T_version 2 = .ok (.invokevirtual 64, 3) := by decide +kernel
theorem d_T_version_5 : decode b_T_version 5 = .ok (.getfield 73, 3) := by decide +kernel
theorem d_T_version_8 : decode b_T_version 8 = .ok (.ireturn, 1) := by decide +kernel
theorem d_T_heard_0 : decode b_T_heard 0 = .ok (.aload_n 0, 1) := by decide +kernel
theorem d_T_heard_1 : decode b_T_heard 1 = .ok (.iload_n 1, 1) := by decide +kernel
theorem d_T_heard_2 : decode b_T_heard 2 = .ok (.invokevirtual 64, 3) := by decide +kernel
theorem d_T_heard_5 : decode b_T_heard 5 = .ok (.invokevirtual 126, 3) := by decide +kernel
theorem d_T_heard_8 : decode b_T_heard 8 = .ok (.ireturn, 1) := by decide +kernel
theorem d_T_wished_0 : decode b_T_wished 0 = .ok (.aload_n 0, 1) := by decide +kernel
theorem d_T_wished_1 : decode b_T_wished 1 = .ok (.iload_n 1, 1) := by decide +kernel
theorem d_T_wished_2 : decode b_T_wished 2 = .ok (.invokevirtual 64, 3) := by decide +kernel
theorem d_T_wished_5 : decode b_T_wished 5 = .ok (.astore_n 3, 1) := by decide +kernel
theorem d_T_wished_6 : decode b_T_wished 6 = .ok (.iload_n 2, 1) := by decide +kernel
theorem d_T_wished_7 : decode b_T_wished 7 = .ok (.invokestatic 41, 3) := by decide +kernel
theorem d_T_wished_10 : decode b_T_wished 10 = .ok (.aload_n 3, 1) := by decide +kernel
theorem d_T_wished_11 : decode b_T_wished 11 = .ok (.getfield 107, 3) := by decide +kernel
theorem d_T_wished_14 : decode b_T_wished 14 = .ok (.iload_n 2, 1) := by decide +kernel
theorem d_T_wished_15 : decode b_T_wished 15 = .ok (.iaload, 1) := by decide +kernel
theorem d_T_wished_16 : decode b_T_wished 16 = .ok (.ireturn, 1) := by decide +kernel
theorem d_T_reported_0 : decode b_T_reported 0 = .ok (.aload_n 0, 1) := by decide +kernel
theorem d_T_reported_1 : decode b_T_reported 1 = .ok (.iload_n 1, 1) := by decide +kernel
theorem d_T_reported_2 : decode b_T_reported 2 = .ok (.invokevirtual 64, 3) := by decide +kernel
theorem d_T_reported_5 : decode b_T_reported 5 = .ok (.astore_n 3, 1) := by decide +kernel
theorem d_T_reported_6 : decode b_T_reported 6 = .ok (.iload_n 2, 1) := by decide +kernel
theorem d_T_reported_7 : decode b_T_reported 7 = .ok (.invokestatic 41, 3) := by decide +kernel
theorem d_T_reported_10 : decode b_T_reported 10 = .ok (.aload_n 3, 1) := by decide +kernel
theorem d_T_reported_11 : decode b_T_reported 11 = .ok (.getfield 180, 3) := by decide +kernel
theorem d_T_reported_14 : decode b_T_reported 14 = .ok (.iload_n 2, 1) := by decide +kernel
theorem d_T_reported_15 : decode b_T_reported 15 = .ok (.iaload, 1) := by decide +kernel
theorem d_T_reported_16 : decode b_T_reported 16 = .ok (.ireturn, 1) := by decide +kernel
theorem d_T_why_0 : decode b_T_why 0 = .ok (.aload_n 0, 1) := by decide +kernel
theorem d_T_why_1 : decode b_T_why 1 = .ok (.iload_n 1, 1) := by decide +kernel
theorem d_T_why_2 : decode b_T_why 2 = .ok (.invokevirtual 64, 3) := by decide +kernel
theorem d_T_why_5 : decode b_T_why 5 = .ok (.astore_n 3, 1) := by decide +kernel
theorem d_T_why_6 : decode b_T_why 6 = .ok (.iload_n 2, 1) := by decide +kernel
theorem d_T_why_7 : decode b_T_why 7 = .ok (.invokestatic 41, 3) := by decide +kernel
theorem d_T_why_10 : decode b_T_why 10 = .ok (.aload_n 3, 1) := by decide +kernel
theorem d_T_why_11 : decode b_T_why 11 = .ok (.getfield 183, 3) := by decide +kernel
theorem d_T_why_14 : decode b_T_why 14 = .ok (.iload_n 2, 1) := by decide +kernel
theorem d_T_why_15 : decode b_T_why 15 = .ok (.iaload, 1) := by decide +kernel
theorem d_T_why_16 : decode b_T_why 16 = .ok (.ireturn, 1) := by decide +kernel
theorem d_T_differences_0 : decode b_T_differences 0 = .ok (.aload_n 0, 1) := by decide +kernel
theorem d_T_differences_1 : decode b_T_differences 1 = .ok (.iload_n 1, 1) := by decide +kernel
theorem d_T_differences_2 : decode b_T_differences 2 = .ok (.invokevirtual 64, 3) := by decide +kernel
theorem d_T_differences_5 : decode b_T_differences 5 = .ok (.getfield 94, 3) := by decide +kernel
theorem d_T_differences_8 : decode b_T_differences 8 = .ok (.ireturn, 1) := by decide +kernel
theorem d_T_differencesAnew_0 : decode b_T_differencesAnew 0 = .ok (.aload_n 0, 1) := by decide +kernel
theorem d_T_differencesAnew_1 : decode b_T_differencesAnew 1 = .ok (.iload_n 1, 1) := by decide +kernel
theorem d_T_differencesAnew_2 : decode b_T_differencesAnew 2 = .ok (.invokevirtual 64, 3) := by decide +kernel
theorem d_T_differencesAnew_5 : decode b_T_differencesAnew 5 = .ok (.astore_n 2, 1) := by decide +kernel
theorem d_T_differencesAnew_6 : decode b_T_differencesAnew 6 = .ok (.iconst 0, 1) := by decide +kernel
theorem d_T_differencesAnew_7 : decode b_T_differencesAnew 7 = .ok (.istore_n 3, 1) := by decide +kernel
theorem d_T_differencesAnew_8 : decode b_T_differencesAnew 8 = .ok (.iconst 0, 1) := by decide +kernel
theorem d_T_differencesAnew_9 : decode b_T_differencesAnew 9 = .ok (.istore 4, 2) := by decide +kernel
theorem d_T_differencesAnew_11 : decode b_T_differencesAnew 11 = .ok (.iload 4, 2) := by decide +kernel
theorem d_T_differencesAnew_13 : decode b_T_differencesAnew 13 = .ok (.bipush 12, 2) := by decide +kernel
theorem d_T_differencesAnew_15 : decode b_T_differencesAnew 15 = .ok (.if_icmp .ge 25, 3) := by decide +kernel
theorem d_T_differencesAnew_18 : decode b_T_differencesAnew 18 = .ok (.aload_n 2, 1) := by decide +kernel
theorem d_T_differencesAnew_19 : decode b_T_differencesAnew 19 = .ok (.iload 4, 2) := by decide +kernel
theorem d_T_differencesAnew_21 : decode b_T_differencesAnew 21 = .ok (.invokevirtual 186, 3) := by decide +kernel
theorem d_T_differencesAnew_24 : decode b_T_differencesAnew 24 = .ok (.ifCond .eq 10, 3) := by decide +kernel
theorem d_T_differencesAnew_27 : decode b_T_differencesAnew 27 = .ok (.iload_n 3, 1) := by decide +kernel
theorem d_T_differencesAnew_28 : decode b_T_differencesAnew 28 = .ok (.iconst 1, 1) := by decide +kernel
theorem d_T_differencesAnew_29 : decode b_T_differencesAnew 29 = .ok (.iload 4, 2) := by decide +kernel
theorem d_T_differencesAnew_31 : decode b_T_differencesAnew 31 = .ok (.ishl, 1) := by decide +kernel
theorem d_T_differencesAnew_32 : decode b_T_differencesAnew 32 = .ok (.ior, 1) := by decide +kernel
theorem d_T_differencesAnew_33 : decode b_T_differencesAnew 33 = .ok (.istore_n 3, 1) := by decide +kernel
theorem d_T_differencesAnew_34 : decode b_T_differencesAnew 34 = .ok (.iinc 4 1, 3) := by decide +kernel
theorem d_T_differencesAnew_37 : decode b_T_differencesAnew 37 = .ok (.goto (-26), 3) := by decide +kernel
theorem d_T_differencesAnew_40 : decode b_T_differencesAnew 40 = .ok (.iload_n 3, 1) := by decide +kernel
theorem d_T_differencesAnew_41 : decode b_T_differencesAnew 41 = .ok (.ireturn, 1) := by decide +kernel
theorem d_T_members_0 : decode b_T_members 0 = .ok (.aload_n 0, 1) := by decide +kernel
theorem d_T_members_1 : decode b_T_members 1 = .ok (.aload_n 0, 1) := by decide +kernel
theorem d_T_members_2 : decode b_T_members 2 = .ok (.iload_n 1, 1) := by decide +kernel
theorem d_T_members_3 : decode b_T_members 3 = .ok (.invokevirtual 129, 3) := by decide +kernel
theorem d_T_members_6 : decode b_T_members 6 = .ok (.invokevirtual 142, 3) := by decide +kernel
theorem d_T_members_9 : decode b_T_members 9 = .ok (.ireturn, 1) := by decide +kernel
theorem d_T_state_0 : decode b_T_state 0 = .ok (.aload_n 0, 1) := by decide +kernel
theorem d_T_state_1 : decode b_T_state 1 = .ok (.iload_n 1, 1) := by decide +kernel
theorem d_T_state_2 : decode b_T_state 2 = .ok (.invokevirtual 171, 3) := by decide +kernel
theorem d_T_state_5 : decode b_T_state 5 = .ok (.getfield 164, 3) := by decide +kernel
theorem d_T_state_8 : decode b_T_state 8 = .ok (.ireturn, 1) := by decide +kernel
theorem d_T_devices_0 : decode b_T_devices 0 = .ok (.aload_n 0, 1) := by decide +kernel
theorem d_T_devices_1 : decode b_T_devices 1 = .ok (.iload_n 1, 1) := by decide +kernel
theorem d_T_devices_2 : decode b_T_devices 2 = .ok (.invokevirtual 171, 3) := by decide +kernel
theorem d_T_devices_5 : decode b_T_devices 5 = .ok (.astore_n 3, 1) := by decide +kernel
theorem d_T_devices_6 : decode b_T_devices 6 = .ok (.iload_n 2, 1) := by decide +kernel
theorem d_T_devices_7 : decode b_T_devices 7 = .ok (.iconst 0, 1) := by decide +kernel
theorem d_T_devices_8 : decode b_T_devices 8 = .ok (.iconst 2, 1) := by decide +kernel
theorem d_T_devices_9 : decode b_T_devices 9 = .ok (.invokestatic 45, 3) := by decide +kernel
theorem d_T_devices_12 : decode b_T_devices 12 = .ok (.iload_n 2, 1) := by decide +kernel
theorem d_T_devices_13 : decode b_T_devices 13 = .ok (.ifCond .ne 8, 3) := by decide +kernel
theorem d_T_devices_16 : decode b_T_devices 16 = .ok (.aload_n 3, 1) := by decide +kernel
theorem d_T_devices_17 : decode b_T_devices 17 = .ok (.getfield 189, 3) := by decide +kernel
theorem d_T_devices_20 : decode b_T_devices 20 = .ok (.ireturn, 1) := by decide +kernel
theorem d_T_devices_21 : decode b_T_devices 21 = .ok (.iload_n 2, 1) := by decide +kernel
theorem d_T_devices_22 : decode b_T_devices 22 = .ok (.iconst 1, 1) := by decide +kernel
theorem d_T_devices_23 : decode b_T_devices 23 = .ok (.if_icmp .ne 10, 3) := by decide +kernel
theorem d_T_devices_26 : decode b_T_devices 26 = .ok (.aload_n 3, 1) := by decide +kernel
theorem d_T_devices_27 : decode b_T_devices 27 = .ok (.getfield 192, 3) := by decide +kernel
theorem d_T_devices_30 : decode b_T_devices 30 = .ok (.goto 7, 3) := by decide +kernel
theorem d_T_devices_33 : decode b_T_devices 33 = .ok (.aload_n 3, 1) := by decide +kernel
theorem d_T_devices_34 : decode b_T_devices 34 = .ok (.getfield 195, 3) := by decide +kernel
theorem d_T_devices_37 : decode b_T_devices 37 = .ok (.ireturn, 1) := by decide +kernel
end
section
theorem d_M_init_0 : decode b_M_init 0 = .ok (.aload_n 0, 1) := by decide +kernel
theorem d_M_init_1 : decode b_M_init 1 = .ok (.invokespecial 1, 3) := by decide +kernel
theorem d_M_init_4 : decode b_M_init 4 = .ok (.aload_n 0, 1) := by decide +kernel
theorem d_M_init_5 : decode b_M_init 5 = .ok (.bipush 96, 2) := by decide +kernel
theorem d_M_init_7 : decode b_M_init 7 = .ok (.newarray .int, 2) := by decide +kernel
theorem d_M_init_9 : decode b_M_init 9 = .ok (.putfield 7, 3) := by decide +kernel
theorem d_M_init_12 : decode b_M_init 12 = .ok (.aload_n 0, 1) := by decide +kernel
theorem d_M_init_13 : decode b_M_init 13 = .ok (.bipush 96, 2) := by decide +kernel
theorem d_M_init_15 : decode b_M_init 15 = .ok (.newarray .int, 2) := by decide +kernel
theorem d_M_init_17 : decode b_M_init 17 = .ok (.putfield 13, 3) := by decide +kernel
theorem d_M_init_20 : decode b_M_init 20 = .ok (.aload_n 0, 1) := by decide +kernel
theorem d_M_init_21 : decode b_M_init 21 = .ok (.bipush 96, 2) := by decide +kernel
theorem d_M_init_23 : decode b_M_init 23 = .ok (.newarray .int, 2) := by decide +kernel
theorem d_M_init_25 : decode b_M_init 25 = .ok (.putfield 16, 3) := by decide +kernel
theorem d_M_init_28 : decode b_M_init 28 = .ok (.aload_n 0, 1) := by decide +kernel
theorem d_M_init_29 : decode b_M_init 29 = .ok (.bipush 8, 2) := by decide +kernel
theorem d_M_init_31 : decode b_M_init 31 = .ok (.newarray .int, 2) := by decide +kernel
theorem d_M_init_33 : decode b_M_init 33 = .ok (.putfield 19, 3) := by decide +kernel
theorem d_M_init_36 : decode b_M_init 36 = .ok (.aload_n 0, 1) := by decide +kernel
theorem d_M_init_37 : decode b_M_init 37 = .ok (.bipush 8, 2) := by decide +kernel
theorem d_M_init_39 : decode b_M_init 39 = .ok (.newarray .int, 2) := by decide +kernel
theorem d_M_init_41 : decode b_M_init 41 = .ok (.putfield 22, 3) := by decide +kernel
theorem d_M_init_44 : decode b_M_init 44 = .ok (.aload_n 0, 1) := by decide +kernel
theorem d_M_init_45 : decode b_M_init 45 = .ok (.bipush 8, 2) := by decide +kernel
theorem d_M_init_47 : decode b_M_init 47 = .ok (.newarray .boolean, 2) := by decide +kernel
theorem d_M_init_49 : decode b_M_init 49 = .ok (.putfield 25, 3) := by decide +kernel
theorem d_M_init_52 : decode b_M_init 52 = .ok (.aload_n 0, 1) := by decide +kernel
theorem d_M_init_53 : decode b_M_init 53 = .ok (.bipush 8, 2) := by decide +kernel
theorem d_M_init_55 : decode b_M_init 55 = .ok (.newarray .int, 2) := by decide +kernel
theorem d_M_init_57 : decode b_M_init 57 = .ok (.putfield 29, 3) := by decide +kernel
theorem d_M_init_60 : decode b_M_init 60 = .ok (.aload_n 0, 1) := by decide +kernel
theorem d_M_init_61 : decode b_M_init 61 = .ok (.bipush 12, 2) := by decide +kernel
theorem d_M_init_63 : decode b_M_init 63 = .ok (.newarray .int, 2) := by decide +kernel
theorem d_M_init_65 : decode b_M_init 65 = .ok (.putfield 32, 3) := by decide +kernel
theorem d_M_init_68 : decode b_M_init 68 = .ok (.aload_n 0, 1) := by decide +kernel
theorem d_M_init_69 : decode b_M_init 69 = .ok (.iconst 4, 1) := by decide +kernel
theorem d_M_init_70 : decode b_M_init 70 = .ok (.newarray .int, 2) := by decide +kernel
theorem d_M_init_72 : decode b_M_init 72 = .ok (.putfield 35, 3) := by decide +kernel
theorem d_M_init_75 : decode b_M_init 75 = .ok (.aload_n 0, 1) := by decide +kernel
theorem d_M_init_76 : decode b_M_init 76 = .ok (.iconst 4, 1) := by decide +kernel
theorem d_M_init_77 : decode b_M_init 77 = .ok (.newarray .int, 2) := by decide +kernel
theorem d_M_init_79 : decode b_M_init 79 = .ok (.putfield 38, 3) := by decide +kernel
theorem d_M_init_82 : decode b_M_init 82 = .ok (.aload_n 0, 1) := by decide +kernel
theorem d_M_init_83 : decode b_M_init 83 = .ok (.iconst 4, 1) := by decide +kernel
theorem d_M_init_84 : decode b_M_init 84 = .ok (.newarray .int, 2) := by decide +kernel
theorem d_M_init_86 : decode b_M_init 86 = .ok (.dup, 1) := by decide +kernel
theorem d_M_init_87 : decode b_M_init 87 = .ok (.iconst 0, 1) := by decide +kernel
theorem d_M_init_88 : decode b_M_init 88 = .ok (.bipush 99, 2) := by decide +kernel
theorem d_M_init_90 : decode b_M_init 90 = .ok (.iastore, 1) := by decide +kernel
theorem d_M_init_91 : decode b_M_init 91 = .ok (.dup, 1) := by decide +kernel
theorem d_M_init_92 : decode b_M_init 92 = .ok (.iconst 1, 1) := by decide +kernel
theorem d_M_init_93 : decode b_M_init 93 = .ok (.bipush 99, 2) := by decide +kernel
theorem d_M_init_95 : decode b_M_init 95 = .ok (.iastore, 1) := by decide +kernel
theorem d_M_init_96 : decode b_M_init 96 = .ok (.dup, 1) := by decide +kernel
theorem d_M_init_97 : decode b_M_init 97 = .ok (.iconst 2, 1) := by decide +kernel
theorem d_M_init_98 : decode b_M_init 98 = .ok (.bipush 99, 2) := by decide +kernel
theorem d_M_init_100 : decode b_M_init 100 = .ok (.iastore, 1) := by decide +kernel
theorem d_M_init_101 : decode b_M_init 101 = .ok (.dup, 1) := by decide +kernel
theorem d_M_init_102 : decode b_M_init 102 = .ok (.iconst 3, 1) := by decide +kernel
theorem d_M_init_103 : decode b_M_init 103 = .ok (.bipush 99, 2) := by decide +kernel
theorem d_M_init_105 : decode b_M_init 105 = .ok (.iastore, 1) := by decide +kernel
theorem d_M_init_106 : decode b_M_init 106 = .ok (.putfield 41, 3) := by decide +kernel
theorem d_M_init_109 : decode b_M_init 109 = .ok (.aload_n 0, 1) := by decide +kernel
theorem d_M_init_110 : decode b_M_init 110 = .ok (.bipush 8, 2) := by decide +kernel
theorem d_M_init_112 : decode b_M_init 112 = .ok (.newarray .int, 2) := by decide +kernel
theorem d_M_init_114 : decode b_M_init 114 = .ok (.putfield 44, 3) := by decide +kernel
theorem d_M_init_117 : decode b_M_init 117 = .ok (.aload_n 0, 1) := by decide +kernel
theorem d_M_init_118 : decode b_M_init 118 = .ok (.bipush 8, 2) := by decide +kernel
theorem d_M_init_120 : decode b_M_init 120 = .ok (.newarray .int, 2) := by decide +kernel
theorem d_M_init_122 : decode b_M_init 122 = .ok (.putfield 47, 3) := by decide +kernel
theorem d_M_init_125 : decode b_M_init 125 = .ok (.aload_n 0, 1) := by decide +kernel
theorem d_M_init_126 : decode b_M_init 126 = .ok (.bipush 8, 2) := by decide +kernel
theorem d_M_init_128 : decode b_M_init 128 = .ok (.newarray .int, 2) := by decide +kernel
theorem d_M_init_130 : decode b_M_init 130 = .ok (.putfield 50, 3) := by decide +kernel
theorem d_M_init_133 : decode b_M_init 133 = .ok (.aload_n 0, 1) := by decide +kernel
theorem d_M_init_134 : decode b_M_init 134 = .ok (.bipush 8, 2) := by decide +kernel
theorem d_M_init_136 : decode b_M_init 136 = .ok (.newarray .int, 2) := by decide +kernel
theorem d_M_init_138 : decode b_M_init 138 = .ok (.putfield 53, 3) := by decide +kernel
theorem d_M_init_141 : decode b_M_init 141 = .ok (.aload_n 0, 1) := by decide +kernel
theorem d_M_init_142 : decode b_M_init 142 = .ok (.bipush 8, 2) := by decide +kernel
theorem d_M_init_144 : decode b_M_init 144 = .ok (.newarray .int, 2) := by decide +kernel
theorem d_M_init_146 : decode b_M_init 146 = .ok (.putfield 56, 3) := by decide +kernel
theorem d_M_init_149 : decode b_M_init 149 = .ok (.aload_n 0, 1) := by decide +kernel
theorem d_M_init_150 : decode b_M_init 150 = .ok (.bipush 8, 2) := by decide +kernel
theorem d_M_init_152 : decode b_M_init 152 = .ok (.newarray .int, 2) := by decide +kernel
theorem d_M_init_154 : decode b_M_init 154 = .ok (.putfield 59, 3) := by decide +kernel
theorem d_M_init_157 : decode b_M_init 157 = .ok (.aload_n 0, 1) := by decide +kernel
theorem d_M_init_158 : decode b_M_init 158 = .ok (.bipush 8, 2) := by decide +kernel
theorem d_M_init_160 : decode b_M_init 160 = .ok (.newarray .int, 2) := by decide +kernel
theorem d_M_init_162 : decode b_M_init 162 = .ok (.putfield 62, 3) := by decide +kernel
theorem d_M_init_165 : decode b_M_init 165 = .ok (.aload_n 0, 1) := by decide +kernel
theorem d_M_init_166 : decode b_M_init 166 = .ok (.bipush 8, 2) := by decide +kernel
theorem d_M_init_168 : decode b_M_init 168 = .ok (.newarray .int, 2) := by decide +kernel
theorem d_M_init_170 : decode b_M_init 170 = .ok (.putfield 65, 3) := by decide +kernel
theorem d_M_init_173 : decode b_M_init 173 = .ok (.aload_n 0, 1) := by decide +kernel
theorem d_M_init_174 : decode b_M_init 174 = .ok (.bipush 8, 2) := by decide +kernel
theorem d_M_init_176 : decode b_M_init 176 = .ok (.newarray .int, 2) := by decide +kernel
theorem d_M_init_178 : decode b_M_init 178 = .ok (.putfield 68, 3) := by decide +kernel
theorem d_M_init_181 : decode b_M_init 181 = .ok (.return_, 1) := by decide +kernel
theorem d_M_thrown_0 : decode b_M_thrown 0 = .ok (.aload_n 0, 1) := by decide +kernel
theorem d_M_thrown_1 : decode b_M_thrown 1 = .ok (.getfield 71, 3) := by decide +kernel
theorem d_M_thrown_4 : decode b_M_thrown 4 = .ok (.ireturn, 1) := by decide +kernel
theorem d_M_put_0 : decode b_M_put 0 = .ok (.aload_n 0, 1) := by decide +kernel
theorem d_M_put_1 : decode b_M_put 1 = .ok (.iload_n 1, 1) := by decide +kernel
theorem d_M_put_2 : decode b_M_put 2 = .ok (.invokestatic 79, 3) := by decide +kernel
theorem d_M_put_5 : decode b_M_put 5 = .ok (.ifCond .ne 7, 3) := by decide +kernel
theorem d_M_put_8 : decode b_M_put 8 = .ok (.iconst 1, 1) := by decide +kernel
theorem d_M_put_9 : decode b_M_put 9 = .ok (.goto 18, 3) := by decide +kernel
theorem d_M_put_12 : decode b_M_put 12 = .ok (.iload_n 2, 1) := by decide +kernel
theorem d_M_put_13 : decode b_M_put 13 = .ok (.iconst (-1), 1) := by decide +kernel
theorem d_M_put_14 : decode b_M_put 14 = .ok (.bipush 99, 2) := by decide +kernel
theorem d_M_put_16 : decode b_M_put 16 = .ok (.invokestatic 75, 3) := by decide +kernel
theorem d_M_put_19 : decode b_M_put 19 = .ok (.ifCond .eq 7, 3) := by decide +kernel
theorem d_M_put_22 : decode b_M_put 22 = .ok (.iconst 0, 1) := by decide +kernel
theorem d_M_put_23 : decode b_M_put 23 = .ok (.goto 4, 3) := by decide +kernel
theorem d_M_put_26 : decode b_M_put 26 = .ok (.iconst 2, 1) := by decide +kernel
theorem d_M_put_27 : decode b_M_put 27 = .ok (.putfield 71, 3) := by decide +kernel
theorem d_M_put_30 : decode b_M_put 30 = .ok (.aload_n 0, 1) := by decide +kernel
theorem d_M_put_31 : decode b_M_put 31 = .ok (.getfield 71, 3) := by decide +kernel
theorem d_M_put_34 : decode b_M_put 34 = .ok (.ifCond .le 5, 3) := by decide +kernel
theorem d_M_put_37 : decode b_M_put 37 = .ok (.iconst 0, 1) := by decide +kernel
theorem d_M_put_38 : decode b_M_put 38 = .ok (.ireturn, 1) := by decide +kernel
theorem d_M_put_39 : decode b_M_put 39 = .ok (.aload_n 0, 1) := by decide +kernel
theorem d_M_put_40 : decode b_M_put 40 = .ok (.getfield 32, 3) := by decide +kernel
theorem d_M_put_43 : decode b_M_put 43 = .ok (.iload_n 1, 1) := by decide +kernel
theorem d_M_put_44 : decode b_M_put 44 = .ok (.iload_n 2, 1) := by decide +kernel
theorem d_M_put_45 : decode b_M_put 45 = .ok (.iconst 2, 1) := by decide +kernel
theorem d_M_put_46 : decode b_M_put 46 = .ok (.iadd, 1) := by decide +kernel
theorem d_M_put_47 : decode b_M_put 47 = .ok (.iastore, 1) := by decide +kernel
theorem d_M_put_48 : decode b_M_put 48 = .ok (.aload_n 0, 1) := by decide +kernel
theorem d_M_put_49 : decode b_M_put 49 = .ok (.invokevirtual 83, 3) := by decide +kernel
theorem d_M_put_52 : decode b_M_put 52 = .ok (.ireturn, 1) := by decide +kernel
theorem d_M_isLeaf_0 : decode b_M_isLeaf 0 = .ok (.iload_n 0, 1) := by decide +kernel
theorem d_M_isLeaf_1 : decode b_M_isLeaf 1 = .ok (.iconst 0, 1) := by decide +kernel
theorem d_M_isLeaf_2 : decode b_M_isLeaf 2 = .ok (.bipush 11, 2) := by decide +kernel
theorem d_M_isLeaf_4 : decode b_M_isLeaf 4 = .ok (.invokestatic 75, 3) := by decide +kernel
theorem d_M_isLeaf_7 : decode b_M_isLeaf 7 = .ok (.ireturn, 1) := by decide +kernel
theorem d_M_in_0 : decode b_M_in 0 = .ok (.iload_n 0, 1) := by decide +kernel
theorem d_M_in_1 : decode b_M_in 1 = .ok (.iload_n 1, 1) := by decide +kernel
theorem d_M_in_2 : decode b_M_in 2 = .ok (.if_icmp .lt 12, 3) := by decide +kernel
theorem d_M_in_5 : decode b_M_in 5 = .ok (.iload_n 0, 1) := by decide +kernel
theorem d_M_in_6 : decode b_M_in 6 = .ok (.iload_n 2, 1) := by decide +kernel
theorem d_M_in_7 : decode b_M_in 7 = .ok (.if_icmp .gt 7, 3) := by decide +kernel
theorem d_M_in_10 : decode b_M_in 10 = .ok (.iconst 1, 1) := by decide +kernel
theorem d_M_in_11 : decode b_M_in 11 = .ok (.goto 4, 3) := by decide +kernel
theorem d_M_in_14 : decode b_M_in 14 = .ok (.iconst 0, 1) := by decide +kernel
theorem d_M_in_15 : decode b_M_in 15 = .ok (.ireturn, 1) := by decide +kernel
theorem d_M_drafted_0 : decode b_M_drafted 0 = .ok (.iconst 0, 1) := by decide +kernel
theorem d_M_drafted_1 : decode b_M_drafted 1 = .ok (.istore_n 1, 1) := by decide +kernel
theorem d_M_drafted_2 : decode b_M_drafted 2 = .ok (.iconst 0, 1) := by decide +kernel
theorem d_M_drafted_3 : decode b_M_drafted 3 = .ok (.istore_n 2, 1) := by decide +kernel
theorem d_M_drafted_4 : decode b_M_drafted 4 = .ok (.iload_n 2, 1) := by decide +kernel
theorem d_M_drafted_5 : decode b_M_drafted 5 = .ok (.bipush 12, 2) := by decide +kernel
theorem d_M_drafted_7 : decode b_M_drafted 7 = .ok (.if_icmp .ge 26, 3) := by decide +kernel
theorem d_M_drafted_10 : decode b_M_drafted 10 = .ok (.iload_n 1, 1) := by decide +kernel
theorem d_M_drafted_11 : decode b_M_drafted 11 = .ok (.aload_n 0, 1) := by decide +kernel
theorem d_M_drafted_12 : decode b_M_drafted 12 = .ok (.getfield 32, 3) := by decide +kernel
theorem d_M_drafted_15 : decode b_M_drafted 15 = .ok (.iload_n 2, 1) := by decide +kernel
theorem d_M_drafted_16 : decode b_M_drafted 16 = .ok (.iaload, 1) := by decide +kernel
theorem d_M_drafted_17 : decode b_M_drafted 17 = .ok (.ifCond .le 7, 3) := by decide +kernel
theorem d_M_drafted_20 : decode b_M_drafted 20 = .ok (.iconst 1, 1) := by decide +kernel
theorem d_M_drafted_21 : decode b_M_drafted 21 = .ok (.goto 4, 3) := by decide +kernel
theorem d_M_drafted_24 : decode b_M_drafted 24 = .ok (.iconst 0, 1) := by decide +kernel
theorem d_M_drafted_25 : decode b_M_drafted 25 = .ok (.iadd, 1) := by decide +kernel
theorem d_M_drafted_26 : decode b_M_drafted 26 = .ok (.istore_n 1, 1) := by decide +kernel
theorem d_M_drafted_27 : decode b_M_drafted 27 = .ok (.iinc 2 1, 3) := by decide +kernel
theorem d_M_drafted_30 : decode b_M_drafted 30 = .ok (.goto (-26), 3) := by decide +kernel
theorem d_M_drafted_33 : decode b_M_drafted 33 = .ok (.iload_n 1, 1) := by decide +kernel
theorem d_M_drafted_34 : decode b_M_drafted 34 = .ok (.ireturn, 1) := by decide +kernel
theorem d_M_drop_0 : decode b_M_drop 0 = .ok (.aload_n 0, 1) := by decide +kernel
theorem d_M_drop_1 : decode b_M_drop 1 = .ok (.iload_n 1, 1) := by decide +kernel
theorem d_M_drop_2 : decode b_M_drop 2 = .ok (.iconst 0, 1) := by decide +kernel
theorem d_M_drop_3 : decode b_M_drop 3 = .ok (.iconst 2, 1) := by decide +kernel
theorem d_M_drop_4 : decode b_M_drop 4 = .ok (.invokestatic 75, 3) := by decide +kernel
theorem d_M_drop_7 : decode b_M_drop 7 = .ok (.ifCond .eq 7, 3) := by decide +kernel
theorem d_M_drop_10 : decode b_M_drop 10 = .ok (.iconst 0, 1) := by decide +kernel
theorem d_M_drop_11 : decode b_M_drop 11 = .ok (.goto 4, 3) := by decide +kernel
theorem d_M_drop_14 : decode b_M_drop 14 = .ok (.iconst 1, 1) := by decide +kernel
theorem d_M_drop_15 : decode b_M_drop 15 = .ok (.putfield 71, 3) := by decide +kernel
theorem d_M_drop_18 : decode b_M_drop 18 = .ok (.aload_n 0, 1) := by decide +kernel
theorem d_M_drop_19 : decode b_M_drop 19 = .ok (.getfield 71, 3) := by decide +kernel
theorem d_M_drop_22 : decode b_M_drop 22 = .ok (.ifCond .le 5, 3) := by decide +kernel
theorem d_M_drop_25 : decode b_M_drop 25 = .ok (.iconst 0, 1) := by decide +kernel
theorem d_M_drop_26 : decode b_M_drop 26 = .ok (.ireturn, 1) := by decide +kernel
theorem d_M_drop_27 : decode b_M_drop 27 = .ok (.iconst 4, 1) := by decide +kernel
theorem d_M_drop_28 : decode b_M_drop 28 = .ok (.iload_n 1, 1) := by decide +kernel
theorem d_M_drop_29 : decode b_M_drop 29 = .ok (.imul, 1) := by decide +kernel
theorem d_M_drop_30 : decode b_M_drop 30 = .ok (.istore_n 2, 1) := by decide +kernel
theorem d_M_drop_31 : decode b_M_drop 31 = .ok (.iload_n 2, 1) := by decide +kernel
theorem d_M_drop_32 : decode b_M_drop 32 = .ok (.iconst 4, 1) := by decide +kernel
theorem d_M_drop_33 : decode b_M_drop 33 = .ok (.iload_n 1, 1) := by decide +kernel
theorem d_M_drop_34 : decode b_M_drop 34 = .ok (.imul, 1) := by decide +kernel
theorem d_M_drop_35 : decode b_M_drop 35 = .ok (.iconst 4, 1) := by decide +kernel
theorem d_M_drop_36 : decode b_M_drop 36 = .ok (.iadd, 1) := by decide +kernel
theorem d_M_drop_37 : decode b_M_drop 37 = .ok (.if_icmp .ge 16, 3) := by decide +kernel
theorem d_M_drop_40 : decode b_M_drop 40 = .ok (.aload_n 0, 1) := by decide +kernel
theorem d_M_drop_41 : decode b_M_drop 41 = .ok (.getfield 32, 3) := by decide +kernel
theorem d_M_drop_44 : decode b_M_drop 44 = .ok (.iload_n 2, 1) := by decide +kernel
theorem d_M_drop_45 : decode b_M_drop 45 = .ok (.iconst 1, 1) := by decide +kernel
theorem d_M_drop_46 : decode b_M_drop 46 = .ok (.iastore, 1) := by decide +kernel
theorem d_M_drop_47 : decode b_M_drop 47 = .ok (.iinc 2 1, 3) := by decide +kernel
theorem d_M_drop_50 : decode b_M_drop 50 = .ok (.goto (-19), 3) := by decide +kernel
theorem d_M_drop_53 : decode b_M_drop 53 = .ok (.aload_n 0, 1) := by decide +kernel
theorem d_M_drop_54 : decode b_M_drop 54 = .ok (.invokevirtual 83, 3) := by decide +kernel
theorem d_M_drop_57 : decode b_M_drop 57 = .ok (.ireturn, 1) := by decide +kernel
theorem d_M_wish_0 : decode b_M_wish 0 = .ok (.aload_n 0, 1) := by decide +kernel
theorem d_M_wish_1 : decode b_M_wish 1 = .ok (.iload_n 1, 1) := by decide +kernel
theorem d_M_wish_2 : decode b_M_wish 2 = .ok (.invokestatic 91, 3) := by decide +kernel
theorem d_M_wish_5 : decode b_M_wish 5 = .ok (.ifCond .eq 7, 3) := by decide +kernel
theorem d_M_wish_8 : decode b_M_wish 8 = .ok (.iconst 0, 1) := by decide +kernel
theorem d_M_wish_9 : decode b_M_wish 9 = .ok (.goto 4, 3) := by decide +kernel
theorem d_M_wish_12 : decode b_M_wish 12 = .ok (.iconst 1, 1) := by decide +kernel
theorem d_M_wish_13 : decode b_M_wish 13 = .ok (.putfield 71, 3) := by decide +kernel
theorem d_M_wish_16 : decode b_M_wish 16 = .ok (.aload_n 0, 1) := by decide +kernel
theorem d_M_wish_17 : decode b_M_wish 17 = .ok (.getfield 71, 3) := by decide +kernel
theorem d_M_wish_20 : decode b_M_wish 20 = .ok (.ifCond .ne 34, 3) := by decide +kernel
theorem d_M_wish_23 : decode b_M_wish 23 = .ok (.aload_n 0, 1) := by decide +kernel
theorem d_M_wish_24 : decode b_M_wish 24 = .ok (.aload_n 0, 1) := by decide +kernel
theorem d_M_wish_25 : decode b_M_wish 25 = .ok (.invokevirtual 83, 3) := by decide +kernel
theorem d_M_wish_28 : decode b_M_wish 28 = .ok (.ifCond .eq 18, 3) := by decide +kernel
theorem d_M_wish_31 : decode b_M_wish 31 = .ok (.iload_n 2, 1) := by decide +kernel
theorem d_M_wish_32 : decode b_M_wish 32 = .ok (.iconst (-1), 1) := by decide +kernel
theorem d_M_wish_33 : decode b_M_wish 33 = .ok (.if_icmp .eq 17, 3) := by decide +kernel
theorem d_M_wish_36 : decode b_M_wish 36 = .ok (.iload_n 2, 1) := by decide +kernel
theorem d_M_wish_37 : decode b_M_wish 37 = .ok (.aload_n 0, 1) := by decide +kernel
theorem d_M_wish_38 : decode b_M_wish 38 = .ok (.getfield 19, 3) := by decide +kernel
theorem d_M_wish_41 : decode b_M_wish 41 = .ok (.iload_n 1, 1) := by decide +kernel
theorem d_M_wish_42 : decode b_M_wish 42 = .ok (.iaload, 1) := by decide +kernel
theorem d_M_wish_43 : decode b_M_wish 43 = .ok (.if_icmp .eq 7, 3) := by decide +kernel
theorem d_M_wish_46 : decode b_M_wish 46 = .ok (.iconst 2, 1) := by decide +kernel
theorem d_M_wish_47 : decode b_M_wish 47 = .ok (.goto 4, 3) := by decide +kernel
theorem d_M_wish_50 : decode b_M_wish 50 = .ok (.iconst 0, 1) := by decide +kernel
theorem d_M_wish_51 : decode b_M_wish 51 = .ok (.putfield 71, 3) := by decide +kernel
theorem d_M_wish_54 : decode b_M_wish 54 = .ok (.aload_n 0, 1) := by decide +kernel
theorem d_M_wish_55 : decode b_M_wish 55 = .ok (.getfield 71, 3) := by decide +kernel
theorem d_M_wish_58 : decode b_M_wish 58 = .ok (.ifCond .le 5, 3) := by decide +kernel
theorem d_M_wish_61 : decode b_M_wish 61 = .ok (.iconst 0, 1) := by decide +kernel
theorem d_M_wish_62 : decode b_M_wish 62 = .ok (.ireturn, 1) := by decide +kernel
theorem d_M_wish_63 : decode b_M_wish 63 = .ok (.iconst 0, 1) := by decide +kernel
theorem d_M_wish_64 : decode b_M_wish 64 = .ok (.istore_n 3, 1) := by decide +kernel
theorem d_M_wish_65 : decode b_M_wish 65 = .ok (.iload_n 3, 1) := by decide +kernel
theorem d_M_wish_66 : decode b_M_wish 66 = .ok (.bipush 12, 2) := by decide +kernel
theorem d_M_wish_68 : decode b_M_wish 68 = .ok (.if_icmp .ge 32, 3) := by decide +kernel
theorem d_M_wish_71 : decode b_M_wish 71 = .ok (.aload_n 0, 1) := by decide +kernel
theorem d_M_wish_72 : decode b_M_wish 72 = .ok (.getfield 32, 3) := by decide +kernel
theorem d_M_wish_75 : decode b_M_wish 75 = .ok (.iload_n 3, 1) := by decide +kernel
theorem d_M_wish_76 : decode b_M_wish 76 = .ok (.iaload, 1) := by decide +kernel
theorem d_M_wish_77 : decode b_M_wish 77 = .ok (.ifCond .le 17, 3) := by decide +kernel
theorem d_M_wish_80 : decode b_M_wish 80 = .ok (.aload_n 0, 1) := by decide +kernel
theorem d_M_wish_81 : decode b_M_wish 81 = .ok (.iload_n 1, 1) := by decide +kernel
theorem d_M_wish_82 : decode b_M_wish 82 = .ok (.iload_n 3, 1) := by decide +kernel
theorem d_M_wish_83 : decode b_M_wish 83 = .ok (.aload_n 0, 1) := by decide +kernel
theorem d_M_wish_84 : decode b_M_wish 84 = .ok (.getfield 32, 3) := by decide +kernel
theorem d_M_wish_87 : decode b_M_wish 87 = .ok (.iload_n 3, 1) := by decide +kernel
theorem d_M_wish_88 : decode b_M_wish 88 = .ok (.iaload, 1) := by decide +kernel
theorem d_M_wish_89 : decode b_M_wish 89 = .ok (.iconst 1, 1) := by decide +kernel
theorem d_M_wish_90 : decode b_M_wish 90 = .ok (.isub, 1) := by decide +kernel
theorem d_M_wish_91 : decode b_M_wish 91 = .ok (.invokevirtual 94, 3) := by decide +kernel
theorem d_M_wish_94 : decode b_M_wish 94 = .ok (.iinc 3 1, 3) := by decide +kernel
theorem d_M_wish_97 : decode b_M_wish 97 = .ok (.goto (-32), 3) := by decide +kernel
theorem d_M_wish_100 : decode b_M_wish 100 = .ok (.aload_n 0, 1) := by decide +kernel
theorem d_M_wish_101 : decode b_M_wish 101 = .ok (.invokevirtual 98, 3) := by decide +kernel
theorem d_M_wish_104 : decode b_M_wish 104 = .ok (.aload_n 0, 1) := by decide +kernel
theorem d_M_wish_105 : decode b_M_wish 105 = .ok (.getfield 19, 3) := by decide +kernel
theorem d_M_wish_108 : decode b_M_wish 108 = .ok (.iload_n 1, 1) := by decide +kernel
theorem d_M_wish_109 : decode b_M_wish 109 = .ok (.dup2, 1) := by decide +kernel
theorem d_M_wish_110 : decode b_M_wish 110 = .ok (.iaload, 1) := by decide +kernel
theorem d_M_wish_111 : decode b_M_wish 111 = .ok (.iconst 1, 1) := by decide +kernel
theorem d_M_wish_112 : decode b_M_wish 112 = .ok (.iadd, 1) := by decide +kernel
theorem d_M_wish_113 : decode b_M_wish 113 = .ok (.iastore, 1) := by decide +kernel
theorem d_M_wish_114 : decode b_M_wish 114 = .ok (.aload_n 0, 1) := by decide +kernel
theorem d_M_wish_115 : decode b_M_wish 115 = .ok (.getfield 19, 3) := by decide +kernel
theorem d_M_wish_118 : decode b_M_wish 118 = .ok (.iload_n 1, 1) := by decide +kernel
theorem d_M_wish_119 : decode b_M_wish 119 = .ok (.iaload, 1) := by decide +kernel
theorem d_M_wish_120 : decode b_M_wish 120 = .ok (.ireturn, 1) := by decide +kernel
theorem d_M_isDevice_0 : decode b_M_isDevice 0 = .ok (.iload_n 0, 1) := by decide +kernel
theorem d_M_isDevice_1 : decode b_M_isDevice 1 = .ok (.iconst 0, 1) := by decide +kernel
theorem d_M_isDevice_2 : decode b_M_isDevice 2 = .ok (.bipush 7, 2) := by decide +kernel
theorem d_M_isDevice_4 : decode b_M_isDevice 4 = .ok (.invokestatic 75, 3) := by decide +kernel
theorem d_M_isDevice_7 : decode b_M_isDevice 7 = .ok (.ireturn, 1) := by decide +kernel
theorem d_M_wishes_0 : decode b_M_wishes 0 = .ok (.aload_n 0, 1) := by decide +kernel
theorem d_M_wishes_1 : decode b_M_wishes 1 = .ok (.getfield 7, 3) := by decide +kernel
theorem d_M_wishes_4 : decode b_M_wishes 4 = .ok (.bipush 12, 2) := by decide +kernel
theorem d_M_wishes_6 : decode b_M_wishes 6 = .ok (.iload_n 1, 1) := by decide +kernel
theorem d_M_wishes_7 : decode b_M_wishes 7 = .ok (.imul, 1) := by decide +kernel
theorem d_M_wishes_8 : decode b_M_wishes 8 = .ok (.iload_n 2, 1) := by decide +kernel
theorem d_M_wishes_9 : decode b_M_wishes 9 = .ok (.iadd, 1) := by decide +kernel
theorem d_M_wishes_10 : decode b_M_wishes 10 = .ok (.iload_n 3, 1) := by decide +kernel
theorem d_M_wishes_11 : decode b_M_wishes 11 = .ok (.iastore, 1) := by decide +kernel
theorem d_M_wishes_12 : decode b_M_wishes 12 = .ok (.aload_n 0, 1) := by decide +kernel
theorem d_M_wishes_13 : decode b_M_wishes 13 = .ok (.getfield 16, 3) := by decide +kernel
theorem d_M_wishes_16 : decode b_M_wishes 16 = .ok (.bipush 12, 2) := by decide +kernel
theorem d_M_wishes_18 : decode b_M_wishes 18 = .ok (.iload_n 1, 1) := by decide +kernel
theorem d_M_wishes_19 : decode b_M_wishes 19 = .ok (.imul, 1) := by decide +kernel
theorem d_M_wishes_20 : decode b_M_wishes 20 = .ok (.iload_n 2, 1) := by decide +kernel
theorem d_M_wishes_21 : decode b_M_wishes 21 = .ok (.iadd, 1) := by decide +kernel
theorem d_M_wishes_22 : decode b_M_wishes 22 = .ok (.iconst 0, 1) := by decide +kernel
theorem d_M_wishes_23 : decode b_M_wishes 23 = .ok (.iastore, 1) := by decide +kernel
theorem d_M_wishes_24 : decode b_M_wishes 24 = .ok (.return_, 1) := by decide +kernel
theorem d_M_empties_0 : decode b_M_empties 0 = .ok (.iconst 0, 1) := by decide +kernel
theorem d_M_empties_1 : decode b_M_empties 1 = .ok (.istore_n 1, 1) := by decide +kernel
theorem d_M_empties_2 : decode b_M_empties 2 = .ok (.iload_n 1, 1) := by decide +kernel
theorem d_M_empties_3 : decode b_M_empties 3 = .ok (.bipush 12, 2) := by decide +kernel
theorem d_M_empties_5 : decode b_M_empties 5 = .ok (.if_icmp .ge 16, 3) := by decide +kernel
theorem d_M_empties_8 : decode b_M_empties 8 = .ok (.aload_n 0, 1) := by decide +kernel
theorem d_M_empties_9 : decode b_M_empties 9 = .ok (.getfield 32, 3) := by decide +kernel
theorem d_M_empties_12 : decode b_M_empties 12 = .ok (.iload_n 1, 1) := by decide +kernel
theorem d_M_empties_13 : decode b_M_empties 13 = .ok (.iconst 0, 1) := by decide +kernel
theorem d_M_empties_14 : decode b_M_empties 14 = .ok (.iastore, 1) := by decide +kernel
theorem d_M_empties_15 : decode b_M_empties 15 = .ok (.iinc 1 1, 3) := by decide +kernel
theorem d_M_empties_18 : decode b_M_empties 18 = .ok (.goto (-16), 3) := by decide +kernel
theorem d_M_empties_21 : decode b_M_empties 21 = .ok (.return_, 1) := by decide +kernel
theorem d_M_report_0 : decode b_M_report 0 = .ok (.aload_n 0, 1) := by decide +kernel
theorem d_M_report_1 : decode b_M_report 1 = .ok (.iload_n 1, 1) := by decide +kernel
theorem d_M_report_2 : decode b_M_report 2 = .ok (.invokestatic 91, 3) := by decide +kernel
theorem d_M_report_5 : decode b_M_report 5 = .ok (.ifCond .eq 7, 3) := by decide +kernel
theorem d_M_report_8 : decode b_M_report 8 = .ok (.iconst 0, 1) := by decide +kernel
theorem d_M_report_9 : decode b_M_report 9 = .ok (.goto 4, 3) := by decide +kernel
theorem d_M_report_12 : decode b_M_report 12 = .ok (.iconst 1, 1) := by decide +kernel
theorem d_M_report_13 : decode b_M_report 13 = .ok (.putfield 71, 3) := by decide +kernel
theorem d_M_report_16 : decode b_M_report 16 = .ok (.aload_n 0, 1) := by decide +kernel
theorem d_M_report_17 : decode b_M_report 17 = .ok (.getfield 71, 3) := by decide +kernel
theorem d_M_report_20 : decode b_M_report 20 = .ok (.ifCond .ne 42, 3) := by decide +kernel
theorem d_M_report_23 : decode b_M_report 23 = .ok (.aload_n 0, 1) := by decide +kernel
theorem d_M_report_24 : decode b_M_report 24 = .ok (.iload_n 2, 1) := by decide +kernel
theorem d_M_report_25 : decode b_M_report 25 = .ok (.iconst 1, 1) := by decide +kernel
theorem d_M_report_26 : decode b_M_report 26 = .ok (.if_icmp .lt 15, 3) := by decide +kernel
theorem d_M_report_29 : decode b_M_report 29 = .ok (.iload_n 2, 1) := by decide +kernel
theorem d_M_report_30 : decode b_M_report 30 = .ok (.aload_n 0, 1) := by decide +kernel
theorem d_M_report_31 : decode b_M_report 31 = .ok (.getfield 29, 3) := by decide +kernel
theorem d_M_report_34 : decode b_M_report 34 = .ok (.iload_n 1, 1) := by decide +kernel
theorem d_M_report_35 : decode b_M_report 35 = .ok (.iaload, 1) := by decide +kernel
theorem d_M_report_36 : decode b_M_report 36 = .ok (.iconst 1, 1) := by decide +kernel
theorem d_M_report_37 : decode b_M_report 37 = .ok (.iadd, 1) := by decide +kernel
theorem d_M_report_38 : decode b_M_report 38 = .ok (.if_icmp .le 7, 3) := by decide +kernel
theorem d_M_report_41 : decode b_M_report 41 = .ok (.iconst 2, 1) := by decide +kernel
theorem d_M_report_42 : decode b_M_report 42 = .ok (.goto 17, 3) := by decide +kernel
theorem d_M_report_45 : decode b_M_report 45 = .ok (.aload_n 0, 1) := by decide +kernel
theorem d_M_report_46 : decode b_M_report 46 = .ok (.getfield 25, 3) := by decide +kernel
theorem d_M_report_49 : decode b_M_report 49 = .ok (.iload_n 1, 1) := by decide +kernel
theorem d_M_report_50 : decode b_M_report 50 = .ok (.baload, 1) := by decide +kernel
theorem d_M_report_51 : decode b_M_report 51 = .ok (.ifCond .eq 7, 3) := by decide +kernel
theorem d_M_report_54 : decode b_M_report 54 = .ok (.iconst 3, 1) := by decide +kernel
theorem d_M_report_55 : decode b_M_report 55 = .ok (.goto 4, 3) := by decide +kernel
theorem d_M_report_58 : decode b_M_report 58 = .ok (.iconst 0, 1) := by decide +kernel
theorem d_M_report_59 : decode b_M_report 59 = .ok (.putfield 71, 3) := by decide +kernel
theorem d_M_report_62 : decode b_M_report 62 = .ok (.aload_n 0, 1) := by decide +kernel
theorem d_M_report_63 : decode b_M_report 63 = .ok (.getfield 71, 3) := by decide +kernel
theorem d_M_report_66 : decode b_M_report 66 = .ok (.ifCond .le 5, 3) := by decide +kernel
theorem d_M_report_69 : decode b_M_report 69 = .ok (.iconst 0, 1) := by decide +kernel
theorem d_M_report_70 : decode b_M_report 70 = .ok (.ireturn, 1) := by decide +kernel
theorem d_M_report_71 : decode b_M_report 71 = .ok (.iload_n 2, 1) := by decide +kernel
theorem d_M_report_72 : decode b_M_report 72 = .ok (.aload_n 0, 1) := by decide +kernel
theorem d_M_report_73 : decode b_M_report 73 = .ok (.getfield 29, 3) := by decide +kernel
theorem d_M_report_76 : decode b_M_report 76 = .ok (.iload_n 1, 1) := by decide +kernel
theorem d_M_report_77 : decode b_M_report 77 = .ok (.iaload, 1) := by decide +kernel
theorem d_M_report_78 : decode b_M_report 78 = .ok (.if_icmp .le 7, 3) := by decide +kernel
theorem d_M_report_81 : decode b_M_report 81 = .ok (.iconst 1, 1) := by decide +kernel
theorem d_M_report_82 : decode b_M_report 82 = .ok (.goto 4, 3) := by decide +kernel
theorem d_M_report_85 : decode b_M_report 85 = .ok (.iconst 0, 1) := by decide +kernel
theorem d_M_report_86 : decode b_M_report 86 = .ok (.istore_n 3, 1) := by decide +kernel
theorem d_M_report_87 : decode b_M_report 87 = .ok (.iconst 0, 1) := by decide +kernel
theorem d_M_report_88 : decode b_M_report 88 = .ok (.istore 4, 2) := by decide +kernel
theorem d_M_report_90 : decode b_M_report 90 = .ok (.iload 4, 2) := by decide +kernel
theorem d_M_report_92 : decode b_M_report 92 = .ok (.bipush 12, 2) := by decide +kernel
theorem d_M_report_94 : decode b_M_report 94 = .ok (.if_icmp .ge 59, 3) := by decide +kernel
theorem d_M_report_97 : decode b_M_report 97 = .ok (.iload_n 3, 1) := by decide +kernel
theorem d_M_report_98 : decode b_M_report 98 = .ok (.ifCond .eq 55, 3) := by decide +kernel
theorem d_M_report_101 : decode b_M_report 101 = .ok (.aload_n 0, 1) := by decide +kernel
theorem d_M_report_102 : decode b_M_report 102 = .ok (.getfield 13, 3) := by decide +kernel
theorem d_M_report_105 : decode b_M_report 105 = .ok (.bipush 12, 2) := by decide +kernel
theorem d_M_report_107 : decode b_M_report 107 = .ok (.iload_n 1, 1) := by decide +kernel
theorem d_M_report_108 : decode b_M_report 108 = .ok (.imul, 1) := by decide +kernel
theorem d_M_report_109 : decode b_M_report 109 = .ok (.iload 4, 2) := by decide +kernel
theorem d_M_report_111 : decode b_M_report 111 = .ok (.iadd, 1) := by decide +kernel
theorem d_M_report_112 : decode b_M_report 112 = .ok (.aload_n 0, 1) := by decide +kernel
theorem d_M_report_113 : decode b_M_report 113 = .ok (.getfield 32, 3) := by decide +kernel
theorem d_M_report_116 : decode b_M_report 116 = .ok (.iload 4, 2) := by decide +kernel
theorem d_M_report_118 : decode b_M_report 118 = .ok (.iaload, 1) := by decide +kernel
theorem d_M_report_119 : decode b_M_report 119 = .ok (.ifCond .le 15, 3) := by decide +kernel
theorem d_M_report_122 : decode b_M_report 122 = .ok (.aload_n 0, 1) := by decide +kernel
theorem d_M_report_123 : decode b_M_report 123 = .ok (.getfield 32, 3) := by decide +kernel
theorem d_M_report_126 : decode b_M_report 126 = .ok (.iload 4, 2) := by decide +kernel
theorem d_M_report_128 : decode b_M_report 128 = .ok (.iaload, 1) := by decide +kernel
theorem d_M_report_129 : decode b_M_report 129 = .ok (.iconst 1, 1) := by decide +kernel
theorem d_M_report_130 : decode b_M_report 130 = .ok (.isub, 1) := by decide +kernel
theorem d_M_report_131 : decode b_M_report 131 = .ok (.goto 15, 3) := by decide +kernel
theorem d_M_report_134 : decode b_M_report 134 = .ok (.aload_n 0, 1) := by decide +kernel
theorem d_M_report_135 : decode b_M_report 135 = .ok (.getfield 13, 3) := by decide +kernel
theorem d_M_report_138 : decode b_M_report 138 = .ok (.bipush 12, 2) := by decide +kernel
theorem d_M_report_140 : decode b_M_report 140 = .ok (.iload_n 1, 1) := by decide +kernel
theorem d_M_report_141 : decode b_M_report 141 = .ok (.imul, 1) := by decide +kernel
theorem d_M_report_142 : decode b_M_report 142 = .ok (.iload 4, 2) := by decide +kernel
theorem d_M_report_144 : decode b_M_report 144 = .ok (.iadd, 1) := by decide +kernel
theorem d_M_report_145 : decode b_M_report 145 = .ok (.iaload, 1) := by decide +kernel
theorem d_M_report_146 : decode b_M_report 146 = .ok (.iastore, 1) := by decide +kernel
theorem d_M_report_147 : decode b_M_report 147 = .ok (.iinc 4 1, 3) := by decide +kernel
theorem d_M_report_150 : decode b_M_report 150 = .ok (.goto (-60), 3) := by decide +kernel
theorem d_M_report_153 : decode b_M_report 153 = .ok (.aload_n 0, 1) := by decide +kernel
theorem d_M_report_154 : decode b_M_report 154 = .ok (.getfield 29, 3) := by decide +kernel
theorem d_M_report_157 : decode b_M_report 157 = .ok (.iload_n 1, 1) := by decide +kernel
theorem d_M_report_158 : decode b_M_report 158 = .ok (.dup2, 1) := by decide +kernel
theorem d_M_report_159 : decode b_M_report 159 = .ok (.iaload, 1) := by decide +kernel
theorem d_M_report_160 : decode b_M_report 160 = .ok (.iload_n 3, 1) := by decide +kernel
theorem d_M_report_161 : decode b_M_report 161 = .ok (.ifCond .eq 7, 3) := by decide +kernel
theorem d_M_report_164 : decode b_M_report 164 = .ok (.iconst 1, 1) := by decide +kernel
theorem d_M_report_165 : decode b_M_report 165 = .ok (.goto 4, 3) := by decide +kernel
theorem d_M_report_168 : decode b_M_report 168 = .ok (.iconst 0, 1) := by decide +kernel
theorem d_M_report_169 : decode b_M_report 169 = .ok (.iadd, 1) := by decide +kernel
theorem d_M_report_170 : decode b_M_report 170 = .ok (.iastore, 1) := by decide +kernel
theorem d_M_report_171 : decode b_M_report 171 = .ok (.aload_n 0, 1) := by decide +kernel
theorem d_M_report_172 : decode b_M_report 172 = .ok (.invokevirtual 98, 3) := by decide +kernel
theorem d_M_report_175 : decode b_M_report 175 = .ok (.iload_n 3, 1) := by decide +kernel
theorem d_M_report_176 : decode b_M_report 176 = .ok (.ifCond .eq 14, 3) := by decide +kernel
theorem d_M_report_179 : decode b_M_report 179 = .ok (.aload_n 0, 1) := by decide +kernel
theorem d_M_report_180 : decode b_M_report 180 = .ok (.iload_n 1, 1) := by decide +kernel
theorem d_M_report_181 : decode b_M_report 181 = .ok (.invokevirtual 101, 3) := by decide +kernel
theorem d_M_report_184 : decode b_M_report 184 = .ok (.invokestatic 105, 3) := by decide +kernel
theorem d_M_report_187 : decode b_M_report 187 = .ok (.goto 4, 3) := by decide +kernel
theorem d_M_report_190 : decode b_M_report 190 = .ok (.iconst (-1), 1) := by decide +kernel
theorem d_M_report_191 : decode b_M_report 191 = .ok (.ireturn, 1) := by decide +kernel
theorem d_M_differing_0 : decode b_M_differing 0 = .ok (.iconst 0, 1) := by decide +kernel
theorem d_M_differing_1 : decode b_M_differing 1 = .ok (.istore_n 2, 1) := by decide +kernel
theorem d_M_differing_2 : decode b_M_differing 2 = .ok (.iconst 0, 1) := by decide +kernel
theorem d_M_differing_3 : decode b_M_differing 3 = .ok (.istore_n 3, 1) := by decide +kernel
theorem d_M_differing_4 : decode b_M_differing 4 = .ok (.iload_n 3, 1) := by decide +kernel
theorem d_M_differing_5 : decode b_M_differing 5 = .ok (.bipush 12, 2) := by decide +kernel
theorem d_M_differing_7 : decode b_M_differing 7 = .ok (.if_icmp .ge 28, 3) := by decide +kernel
theorem d_M_differing_10 : decode b_M_differing 10 = .ok (.iload_n 2, 1) := by decide +kernel
theorem d_M_differing_11 : decode b_M_differing 11 = .ok (.aload_n 0, 1) := by decide +kernel
theorem d_M_differing_12 : decode b_M_differing 12 = .ok (.iload_n 1, 1) := by decide +kernel
theorem d_M_differing_13 : decode b_M_differing 13 = .ok (.iload_n 3, 1) := by decide +kernel
theorem d_M_differing_14 : decode b_M_differing 14 = .ok (.invokevirtual 87, 3) := by decide +kernel
theorem d_M_differing_17 : decode b_M_differing 17 = .ok (.ifCond .eq 9, 3) := by decide +kernel
theorem d_M_differing_20 : decode b_M_differing 20 = .ok (.iconst 1, 1) := by decide +kernel
theorem d_M_differing_21 : decode b_M_differing 21 = .ok (.iload_n 3, 1) := by decide +kernel
theorem d_M_differing_22 : decode b_M_differing 22 = .ok (.ishl, 1) := by decide +kernel
theorem d_M_differing_23 : decode b_M_differing 23 = .ok (.goto 4, 3) := by decide +kernel
theorem d_M_differing_26 : decode b_M_differing 26 = .ok (.iconst 0, 1) := by decide +kernel
theorem d_M_differing_27 : decode b_M_differing 27 = .ok (.ior, 1) := by decide +kernel
theorem d_M_differing_28 : decode b_M_differing 28 = .ok (.istore_n 2, 1) := by decide +kernel
theorem d_M_differing_29 : decode b_M_differing 29 = .ok (.iinc 3 1, 3) := by decide +kernel
theorem d_M_differing_32 : decode b_M_differing 32 = .ok (.goto (-28), 3) := by decide +kernel
theorem d_M_differing_35 : decode b_M_differing 35 = .ok (.iload_n 2, 1) := by decide +kernel
theorem d_M_differing_36 : decode b_M_differing 36 = .ok (.ireturn, 1) := by decide +kernel
theorem d_M_differs_0 : decode b_M_differs 0 = .ok (.bipush 12, 2) := by decide +kernel
theorem d_M_differs_2 : decode b_M_differs 2 = .ok (.iload_n 1, 1) := by decide +kernel
theorem d_M_differs_3 : decode b_M_differs 3 = .ok (.imul, 1) := by decide +kernel
theorem d_M_differs_4 : decode b_M_differs 4 = .ok (.iload_n 2, 1) := by decide +kernel
theorem d_M_differs_5 : decode b_M_differs 5 = .ok (.iadd, 1) := by decide +kernel
theorem d_M_differs_6 : decode b_M_differs 6 = .ok (.istore_n 3, 1) := by decide +kernel
theorem d_M_differs_7 : decode b_M_differs 7 = .ok (.aload_n 0, 1) := by decide +kernel
theorem d_M_differs_8 : decode b_M_differs 8 = .ok (.getfield 7, 3) := by decide +kernel
theorem d_M_differs_11 : decode b_M_differs 11 = .ok (.iload_n 3, 1) := by decide +kernel
theorem d_M_differs_12 : decode b_M_differs 12 = .ok (.iaload, 1) := by decide +kernel
theorem d_M_differs_13 : decode b_M_differs 13 = .ok (.ifCond .le 31, 3) := by decide +kernel
theorem d_M_differs_16 : decode b_M_differs 16 = .ok (.aload_n 0, 1) := by decide +kernel
theorem d_M_differs_17 : decode b_M_differs 17 = .ok (.getfield 13, 3) := by decide +kernel
theorem d_M_differs_20 : decode b_M_differs 20 = .ok (.iload_n 3, 1) := by decide +kernel
theorem d_M_differs_21 : decode b_M_differs 21 = .ok (.iaload, 1) := by decide +kernel
theorem d_M_differs_22 : decode b_M_differs 22 = .ok (.aload_n 0, 1) := by decide +kernel
theorem d_M_differs_23 : decode b_M_differs 23 = .ok (.getfield 7, 3) := by decide +kernel
theorem d_M_differs_26 : decode b_M_differs 26 = .ok (.iload_n 3, 1) := by decide +kernel
theorem d_M_differs_27 : decode b_M_differs 27 = .ok (.iaload, 1) := by decide +kernel
theorem d_M_differs_28 : decode b_M_differs 28 = .ok (.if_icmp .eq 16, 3) := by decide +kernel
theorem d_M_differs_31 : decode b_M_differs 31 = .ok (.aload_n 0, 1) := by decide +kernel
theorem d_M_differs_32 : decode b_M_differs 32 = .ok (.getfield 16, 3) := by decide +kernel
theorem d_M_differs_35 : decode b_M_differs 35 = .ok (.iload_n 3, 1) := by decide +kernel
theorem d_M_differs_36 : decode b_M_differs 36 = .ok (.iaload, 1) := by decide +kernel
theorem d_M_differs_37 : decode b_M_differs 37 = .ok (.ifCond .ne 7, 3) := by decide +kernel
theorem d_M_differs_40 : decode b_M_differs 40 = .ok (.iconst 1, 1) := by decide +kernel
theorem d_M_differs_41 : decode b_M_differs 41 = .ok (.goto 4, 3) := by decide +kernel
theorem d_M_differs_44 : decode b_M_differs 44 = .ok (.iconst 0, 1) := by decide +kernel
theorem d_M_differs_45 : decode b_M_differs 45 = .ok (.ireturn, 1) := by decide +kernel
theorem d_M_manyOf_0 : decode b_M_manyOf 0 = .ok (.iconst 0, 1) := by decide +kernel
theorem d_M_manyOf_1 : decode b_M_manyOf 1 = .ok (.istore_n 1, 1) := by decide +kernel
theorem d_M_manyOf_2 : decode b_M_manyOf 2 = .ok (.iconst 0, 1) := by decide +kernel
theorem d_M_manyOf_3 : decode b_M_manyOf 3 = .ok (.istore_n 2, 1) := by decide +kernel
theorem d_M_manyOf_4 : decode b_M_manyOf 4 = .ok (.iload_n 2, 1) := by decide +kernel
theorem d_M_manyOf_5 : decode b_M_manyOf 5 = .ok (.bipush 12, 2) := by decide +kernel
theorem d_M_manyOf_7 : decode b_M_manyOf 7 = .ok (.if_icmp .ge 17, 3) := by decide +kernel
theorem d_M_manyOf_10 : decode b_M_manyOf 10 = .ok (.iload_n 1, 1) := by decide +kernel
theorem d_M_manyOf_11 : decode b_M_manyOf 11 = .ok (.iload_n 0, 1) := by decide +kernel
theorem d_M_manyOf_12 : decode b_M_manyOf 12 = .ok (.iload_n 2, 1) := by decide +kernel
theorem d_M_manyOf_13 : decode b_M_manyOf 13 = .ok (.ishr, 1) := by decide +kernel
theorem d_M_manyOf_14 : decode b_M_manyOf 14 = .ok (.iconst 1, 1) := by decide +kernel
theorem d_M_manyOf_15 : decode b_M_manyOf 15 = .ok (.iand, 1) := by decide +kernel
theorem d_M_manyOf_16 : decode b_M_manyOf 16 = .ok (.iadd, 1) := by decide +kernel
theorem d_M_manyOf_17 : decode b_M_manyOf 17 = .ok (.istore_n 1, 1) := by decide +kernel
theorem d_M_manyOf_18 : decode b_M_manyOf 18 = .ok (.iinc 2 1, 3) := by decide +kernel
theorem d_M_manyOf_21 : decode b_M_manyOf 21 = .ok (.goto (-17), 3) := by decide +kernel
theorem d_M_manyOf_24 : decode b_M_manyOf 24 = .ok (.iload_n 1, 1) := by decide +kernel
theorem d_M_manyOf_25 : decode b_M_manyOf 25 = .ok (.ireturn, 1) := by decide +kernel
theorem d_M_obey_0 : decode b_M_obey 0 = .ok (.aload_n 0, 1) := by decide +kernel
theorem d_M_obey_1 : decode b_M_obey 1 = .ok (.iload_n 1, 1) := by decide +kernel
theorem d_M_obey_2 : decode b_M_obey 2 = .ok (.invokestatic 91, 3) := by decide +kernel
theorem d_M_obey_5 : decode b_M_obey 5 = .ok (.ifCond .ne 7, 3) := by decide +kernel
theorem d_M_obey_8 : decode b_M_obey 8 = .ok (.iconst 1, 1) := by decide +kernel
theorem d_M_obey_9 : decode b_M_obey 9 = .ok (.goto 17, 3) := by decide +kernel
theorem d_M_obey_12 : decode b_M_obey 12 = .ok (.aload_n 0, 1) := by decide +kernel
theorem d_M_obey_13 : decode b_M_obey 13 = .ok (.getfield 25, 3) := by decide +kernel
theorem d_M_obey_16 : decode b_M_obey 16 = .ok (.iload_n 1, 1) := by decide +kernel
theorem d_M_obey_17 : decode b_M_obey 17 = .ok (.baload, 1) := by decide +kernel
theorem d_M_obey_18 : decode b_M_obey 18 = .ok (.ifCond .eq 7, 3) := by decide +kernel
theorem d_M_obey_21 : decode b_M_obey 21 = .ok (.iconst 2, 1) := by decide +kernel
theorem d_M_obey_22 : decode b_M_obey 22 = .ok (.goto 4, 3) := by decide +kernel
theorem d_M_obey_25 : decode b_M_obey 25 = .ok (.iconst 0, 1) := by decide +kernel
theorem d_M_obey_26 : decode b_M_obey 26 = .ok (.putfield 71, 3) := by decide +kernel
theorem d_M_obey_29 : decode b_M_obey 29 = .ok (.aload_n 0, 1) := by decide +kernel
theorem d_M_obey_30 : decode b_M_obey 30 = .ok (.getfield 71, 3) := by decide +kernel
theorem d_M_obey_33 : decode b_M_obey 33 = .ok (.ifCond .le 5, 3) := by decide +kernel
theorem d_M_obey_36 : decode b_M_obey 36 = .ok (.iconst 0, 1) := by decide +kernel
theorem d_M_obey_37 : decode b_M_obey 37 = .ok (.ireturn, 1) := by decide +kernel
theorem d_M_obey_38 : decode b_M_obey 38 = .ok (.aload_n 0, 1) := by decide +kernel
theorem d_M_obey_39 : decode b_M_obey 39 = .ok (.iload_n 1, 1) := by decide +kernel
theorem d_M_obey_40 : decode b_M_obey 40 = .ok (.invokevirtual 101, 3) := by decide +kernel
theorem d_M_obey_43 : decode b_M_obey 43 = .ok (.istore_n 2, 1) := by decide +kernel
theorem d_M_obey_44 : decode b_M_obey 44 = .ok (.iconst 0, 1) := by decide +kernel
theorem d_M_obey_45 : decode b_M_obey 45 = .ok (.istore_n 3, 1) := by decide +kernel
theorem d_M_obey_46 : decode b_M_obey 46 = .ok (.iload_n 3, 1) := by decide +kernel
theorem d_M_obey_47 : decode b_M_obey 47 = .ok (.bipush 12, 2) := by decide +kernel
theorem d_M_obey_49 : decode b_M_obey 49 = .ok (.if_icmp .ge 50, 3) := by decide +kernel
theorem d_M_obey_52 : decode b_M_obey 52 = .ok (.bipush 12, 2) := by decide +kernel
theorem d_M_obey_54 : decode b_M_obey 54 = .ok (.iload_n 1, 1) := by decide +kernel
theorem d_M_obey_55 : decode b_M_obey 55 = .ok (.imul, 1) := by decide +kernel
theorem d_M_obey_56 : decode b_M_obey 56 = .ok (.iload_n 3, 1) := by decide +kernel
theorem d_M_obey_57 : decode b_M_obey 57 = .ok (.iadd, 1) := by decide +kernel
theorem d_M_obey_58 : decode b_M_obey 58 = .ok (.istore 4, 2) := by decide +kernel
theorem d_M_obey_60 : decode b_M_obey 60 = .ok (.aload_n 0, 1) := by decide +kernel
theorem d_M_obey_61 : decode b_M_obey 61 = .ok (.getfield 13, 3) := by decide +kernel
theorem d_M_obey_64 : decode b_M_obey 64 = .ok (.iload 4, 2) := by decide +kernel
theorem d_M_obey_66 : decode b_M_obey 66 = .ok (.iload_n 2, 1) := by decide +kernel
theorem d_M_obey_67 : decode b_M_obey 67 = .ok (.iload_n 3, 1) := by decide +kernel
theorem d_M_obey_68 : decode b_M_obey 68 = .ok (.ishr, 1) := by decide +kernel
theorem d_M_obey_69 : decode b_M_obey 69 = .ok (.iconst 1, 1) := by decide +kernel
theorem d_M_obey_70 : decode b_M_obey 70 = .ok (.iand, 1) := by decide +kernel
theorem d_M_obey_71 : decode b_M_obey 71 = .ok (.iconst 1, 1) := by decide +kernel
theorem d_M_obey_72 : decode b_M_obey 72 = .ok (.if_icmp .ne 13, 3) := by decide +kernel
theorem d_M_obey_75 : decode b_M_obey 75 = .ok (.aload_n 0, 1) := by decide +kernel
theorem d_M_obey_76 : decode b_M_obey 76 = .ok (.getfield 7, 3) := by decide +kernel
theorem d_M_obey_79 : decode b_M_obey 79 = .ok (.iload 4, 2) := by decide +kernel
theorem d_M_obey_81 : decode b_M_obey 81 = .ok (.iaload, 1) := by decide +kernel
theorem d_M_obey_82 : decode b_M_obey 82 = .ok (.goto 10, 3) := by decide +kernel
theorem d_M_obey_85 : decode b_M_obey 85 = .ok (.aload_n 0, 1) := by decide +kernel
theorem d_M_obey_86 : decode b_M_obey 86 = .ok (.getfield 13, 3) := by decide +kernel
theorem d_M_obey_89 : decode b_M_obey 89 = .ok (.iload 4, 2) := by decide +kernel
theorem d_M_obey_91 : decode b_M_obey 91 = .ok (.iaload, 1) := by decide +kernel
theorem d_M_obey_92 : decode b_M_obey 92 = .ok (.iastore, 1) := by decide +kernel
theorem d_M_obey_93 : decode b_M_obey 93 = .ok (.iinc 3 1, 3) := by decide +kernel
theorem d_M_obey_96 : decode b_M_obey 96 = .ok (.goto (-50), 3) := by decide +kernel
theorem d_M_obey_99 : decode b_M_obey 99 = .ok (.aload_n 0, 1) := by decide +kernel
theorem d_M_obey_100 : decode b_M_obey 100 = .ok (.getfield 29, 3) := by decide +kernel
theorem d_M_obey_103 : decode b_M_obey 103 = .ok (.iload_n 1, 1) := by decide +kernel
theorem d_M_obey_104 : decode b_M_obey 104 = .ok (.dup2, 1) := by decide +kernel
theorem d_M_obey_105 : decode b_M_obey 105 = .ok (.iaload, 1) := by decide +kernel
theorem d_M_obey_106 : decode b_M_obey 106 = .ok (.iconst 1, 1) := by decide +kernel
theorem d_M_obey_107 : decode b_M_obey 107 = .ok (.iadd, 1) := by decide +kernel
theorem d_M_obey_108 : decode b_M_obey 108 = .ok (.iastore, 1) := by decide +kernel
theorem d_M_obey_109 : decode b_M_obey 109 = .ok (.iload_n 2, 1) := by decide +kernel
theorem d_M_obey_110 : decode b_M_obey 110 = .ok (.invokestatic 105, 3) := by decide +kernel
theorem d_M_obey_113 : decode b_M_obey 113 = .ok (.ireturn, 1) := by decide +kernel
theorem d_M_refuse_0 : decode b_M_refuse 0 = .ok (.aload_n 0, 1) := by decide +kernel
theorem d_M_refuse_1 : decode b_M_refuse 1 = .ok (.iload_n 1, 1) := by decide +kernel
theorem d_M_refuse_2 : decode b_M_refuse 2 = .ok (.invokestatic 91, 3) := by decide +kernel
theorem d_M_refuse_5 : decode b_M_refuse 5 = .ok (.ifCond .eq 10, 3) := by decide +kernel
theorem d_M_refuse_8 : decode b_M_refuse 8 = .ok (.iload_n 2, 1) := by decide +kernel
theorem d_M_refuse_9 : decode b_M_refuse 9 = .ok (.invokestatic 79, 3) := by decide +kernel
theorem d_M_refuse_12 : decode b_M_refuse 12 = .ok (.ifCond .ne 7, 3) := by decide +kernel
theorem d_M_refuse_15 : decode b_M_refuse 15 = .ok (.iconst 1, 1) := by decide +kernel
theorem d_M_refuse_16 : decode b_M_refuse 16 = .ok (.goto 18, 3) := by decide +kernel
theorem d_M_refuse_19 : decode b_M_refuse 19 = .ok (.iload_n 3, 1) := by decide +kernel
theorem d_M_refuse_20 : decode b_M_refuse 20 = .ok (.iconst 1, 1) := by decide +kernel
theorem d_M_refuse_21 : decode b_M_refuse 21 = .ok (.bipush 9, 2) := by decide +kernel
theorem d_M_refuse_23 : decode b_M_refuse 23 = .ok (.invokestatic 75, 3) := by decide +kernel
theorem d_M_refuse_26 : decode b_M_refuse 26 = .ok (.ifCond .ne 7, 3) := by decide +kernel
theorem d_M_refuse_29 : decode b_M_refuse 29 = .ok (.iconst 2, 1) := by decide +kernel
theorem d_M_refuse_30 : decode b_M_refuse 30 = .ok (.goto 4, 3) := by decide +kernel
theorem d_M_refuse_33 : decode b_M_refuse 33 = .ok (.iconst 0, 1) := by decide +kernel
theorem d_M_refuse_34 : decode b_M_refuse 34 = .ok (.putfield 71, 3) := by decide +kernel
theorem d_M_refuse_37 : decode b_M_refuse 37 = .ok (.aload_n 0, 1) := by decide +kernel
theorem d_M_refuse_38 : decode b_M_refuse 38 = .ok (.getfield 71, 3) := by decide +kernel
theorem d_M_refuse_41 : decode b_M_refuse 41 = .ok (.ifCond .ne 30, 3) := by decide +kernel
theorem d_M_refuse_44 : decode b_M_refuse 44 = .ok (.aload_n 0, 1) := by decide +kernel
theorem d_M_refuse_45 : decode b_M_refuse 45 = .ok (.aload_n 0, 1) := by decide +kernel
theorem d_M_refuse_46 : decode b_M_refuse 46 = .ok (.getfield 25, 3) := by decide +kernel
theorem d_M_refuse_49 : decode b_M_refuse 49 = .ok (.iload_n 1, 1) := by decide +kernel
theorem d_M_refuse_50 : decode b_M_refuse 50 = .ok (.baload, 1) := by decide +kernel
theorem d_M_refuse_51 : decode b_M_refuse 51 = .ok (.ifCond .ne 12, 3) := by decide +kernel
theorem d_M_refuse_54 : decode b_M_refuse 54 = .ok (.aload_n 0, 1) := by decide +kernel
theorem d_M_refuse_55 : decode b_M_refuse 55 = .ok (.iload_n 1, 1) := by decide +kernel
theorem d_M_refuse_56 : decode b_M_refuse 56 = .ok (.iload_n 2, 1) := by decide +kernel
theorem d_M_refuse_57 : decode b_M_refuse 57 = .ok (.invokevirtual 87, 3) := by decide +kernel
theorem d_M_refuse_60 : decode b_M_refuse 60 = .ok (.ifCond .ne 7, 3) := by decide +kernel
theorem d_M_refuse_63 : decode b_M_refuse 63 = .ok (.iconst 3, 1) := by decide +kernel
theorem d_M_refuse_64 : decode b_M_refuse 64 = .ok (.goto 4, 3) := by decide +kernel
theorem d_M_refuse_67 : decode b_M_refuse 67 = .ok (.iconst 0, 1) := by decide +kernel
theorem d_M_refuse_68 : decode b_M_refuse 68 = .ok (.putfield 71, 3) := by decide +kernel
theorem d_M_refuse_71 : decode b_M_refuse 71 = .ok (.aload_n 0, 1) := by decide +kernel
theorem d_M_refuse_72 : decode b_M_refuse 72 = .ok (.getfield 71, 3) := by decide +kernel
theorem d_M_refuse_75 : decode b_M_refuse 75 = .ok (.ifCond .le 5, 3) := by decide +kernel
theorem d_M_refuse_78 : decode b_M_refuse 78 = .ok (.iconst 0, 1) := by decide +kernel
theorem d_M_refuse_79 : decode b_M_refuse 79 = .ok (.ireturn, 1) := by decide +kernel
theorem d_M_refuse_80 : decode b_M_refuse 80 = .ok (.aload_n 0, 1) := by decide +kernel
theorem d_M_refuse_81 : decode b_M_refuse 81 = .ok (.getfield 16, 3) := by decide +kernel
theorem d_M_refuse_84 : decode b_M_refuse 84 = .ok (.bipush 12, 2) := by decide +kernel
theorem d_M_refuse_86 : decode b_M_refuse 86 = .ok (.iload_n 1, 1) := by decide +kernel
theorem d_M_refuse_87 : decode b_M_refuse 87 = .ok (.imul, 1) := by decide +kernel
theorem d_M_refuse_88 : decode b_M_refuse 88 = .ok (.iload_n 2, 1) := by decide +kernel
theorem d_M_refuse_89 : decode b_M_refuse 89 = .ok (.iadd, 1) := by decide +kernel
theorem d_M_refuse_90 : decode b_M_refuse 90 = .ok (.iload_n 3, 1) := by decide +kernel
theorem d_M_refuse_91 : decode b_M_refuse 91 = .ok (.iastore, 1) := by decide +kernel
theorem d_M_refuse_92 : decode b_M_refuse 92 = .ok (.aload_n 0, 1) := by decide +kernel
theorem d_M_refuse_93 : decode b_M_refuse 93 = .ok (.iload_n 1, 1) := by decide +kernel
theorem d_M_refuse_94 : decode b_M_refuse 94 = .ok (.invokevirtual 101, 3) := by decide +kernel
theorem d_M_refuse_97 : decode b_M_refuse 97 = .ok (.invokestatic 105, 3) := by decide +kernel
theorem d_M_refuse_100 : decode b_M_refuse 100 = .ok (.ireturn, 1) := by decide +kernel
theorem d_M_sleep_0 : decode b_M_sleep 0 = .ok (.aload_n 0, 1) := by decide +kernel
theorem d_M_sleep_1 : decode b_M_sleep 1 = .ok (.iload_n 1, 1) := by decide +kernel
theorem d_M_sleep_2 : decode b_M_sleep 2 = .ok (.invokestatic 91, 3) := by decide +kernel
theorem d_M_sleep_5 : decode b_M_sleep 5 = .ok (.ifCond .eq 7, 3) := by decide +kernel
theorem d_M_sleep_8 : decode b_M_sleep 8 = .ok (.iconst 0, 1) := by decide +kernel
theorem d_M_sleep_9 : decode b_M_sleep 9 = .ok (.goto 4, 3) := by decide +kernel
theorem d_M_sleep_12 : decode b_M_sleep 12 = .ok (.iconst 1, 1) := by decide +kernel
theorem d_M_sleep_13 : decode b_M_sleep 13 = .ok (.putfield 71, 3) := by decide +kernel
theorem d_M_sleep_16 : decode b_M_sleep 16 = .ok (.aload_n 0, 1) := by decide +kernel
theorem d_M_sleep_17 : decode b_M_sleep 17 = .ok (.getfield 71, 3) := by decide +kernel
theorem d_M_sleep_20 : decode b_M_sleep 20 = .ok (.ifCond .le 5, 3) := by decide +kernel
theorem d_M_sleep_23 : decode b_M_sleep 23 = .ok (.iconst 0, 1) := by decide +kernel
theorem d_M_sleep_24 : decode b_M_sleep 24 = .ok (.ireturn, 1) := by decide +kernel
theorem d_M_sleep_25 : decode b_M_sleep 25 = .ok (.aload_n 0, 1) := by decide +kernel
theorem d_M_sleep_26 : decode b_M_sleep 26 = .ok (.getfield 25, 3) := by decide +kernel
theorem d_M_sleep_29 : decode b_M_sleep 29 = .ok (.iload_n 1, 1) := by decide +kernel
theorem d_M_sleep_30 : decode b_M_sleep 30 = .ok (.baload, 1) := by decide +kernel
theorem d_M_sleep_31 : decode b_M_sleep 31 = .ok (.ifCond .ne 7, 3) := by decide +kernel
theorem d_M_sleep_34 : decode b_M_sleep 34 = .ok (.iconst 1, 1) := by decide +kernel
theorem d_M_sleep_35 : decode b_M_sleep 35 = .ok (.goto 4, 3) := by decide +kernel
theorem d_M_sleep_38 : decode b_M_sleep 38 = .ok (.iconst 0, 1) := by decide +kernel
theorem d_M_sleep_39 : decode b_M_sleep 39 = .ok (.istore_n 2, 1) := by decide +kernel
theorem d_M_sleep_40 : decode b_M_sleep 40 = .ok (.aload_n 0, 1) := by decide +kernel
theorem d_M_sleep_41 : decode b_M_sleep 41 = .ok (.getfield 22, 3) := by decide +kernel
theorem d_M_sleep_44 : decode b_M_sleep 44 = .ok (.iload_n 1, 1) := by decide +kernel
theorem d_M_sleep_45 : decode b_M_sleep 45 = .ok (.iload_n 2, 1) := by decide +kernel
theorem d_M_sleep_46 : decode b_M_sleep 46 = .ok (.ifCond .eq 12, 3) := by decide +kernel
theorem d_M_sleep_49 : decode b_M_sleep 49 = .ok (.aload_n 0, 1) := by decide +kernel
theorem d_M_sleep_50 : decode b_M_sleep 50 = .ok (.getfield 19, 3) := by decide +kernel
theorem d_M_sleep_53 : decode b_M_sleep 53 = .ok (.iload_n 1, 1) := by decide +kernel
theorem d_M_sleep_54 : decode b_M_sleep 54 = .ok (.iaload, 1) := by decide +kernel
theorem d_M_sleep_55 : decode b_M_sleep 55 = .ok (.goto 9, 3) := by decide +kernel
theorem d_M_sleep_58 : decode b_M_sleep 58 = .ok (.aload_n 0, 1) := by decide +kernel
theorem d_M_sleep_59 : decode b_M_sleep 59 = .ok (.getfield 22, 3) := by decide +kernel
theorem d_M_sleep_62 : decode b_M_sleep 62 = .ok (.iload_n 1, 1) := by decide +kernel
theorem d_M_sleep_63 : decode b_M_sleep 63 = .ok (.iaload, 1) := by decide +kernel
theorem d_M_sleep_64 : decode b_M_sleep 64 = .ok (.iastore, 1) := by decide +kernel
theorem d_M_sleep_65 : decode b_M_sleep 65 = .ok (.aload_n 0, 1) := by decide +kernel
theorem d_M_sleep_66 : decode b_M_sleep 66 = .ok (.getfield 25, 3) := by decide +kernel
theorem d_M_sleep_69 : decode b_M_sleep 69 = .ok (.iload_n 1, 1) := by decide +kernel
theorem d_M_sleep_70 : decode b_M_sleep 70 = .ok (.iconst 1, 1) := by decide +kernel
theorem d_M_sleep_71 : decode b_M_sleep 71 = .ok (.bastore, 1) := by decide +kernel
theorem d_M_sleep_72 : decode b_M_sleep 72 = .ok (.iload_n 2, 1) := by decide +kernel
theorem d_M_sleep_73 : decode b_M_sleep 73 = .ok (.ireturn, 1) := by decide +kernel
theorem d_M_wake_0 : decode b_M_wake 0 = .ok (.aload_n 0, 1) := by decide +kernel
theorem d_M_wake_1 : decode b_M_wake 1 = .ok (.iload_n 1, 1) := by decide +kernel
theorem d_M_wake_2 : decode b_M_wake 2 = .ok (.invokestatic 91, 3) := by decide +kernel
theorem d_M_wake_5 : decode b_M_wake 5 = .ok (.ifCond .eq 7, 3) := by decide +kernel
theorem d_M_wake_8 : decode b_M_wake 8 = .ok (.iconst 0, 1) := by decide +kernel
theorem d_M_wake_9 : decode b_M_wake 9 = .ok (.goto 4, 3) := by decide +kernel
theorem d_M_wake_12 : decode b_M_wake 12 = .ok (.iconst 1, 1) := by decide +kernel
theorem d_M_wake_13 : decode b_M_wake 13 = .ok (.putfield 71, 3) := by decide +kernel
theorem d_M_wake_16 : decode b_M_wake 16 = .ok (.aload_n 0, 1) := by decide +kernel
theorem d_M_wake_17 : decode b_M_wake 17 = .ok (.getfield 71, 3) := by decide +kernel
theorem d_M_wake_20 : decode b_M_wake 20 = .ok (.ifCond .le 5, 3) := by decide +kernel
theorem d_M_wake_23 : decode b_M_wake 23 = .ok (.iconst 0, 1) := by decide +kernel
theorem d_M_wake_24 : decode b_M_wake 24 = .ok (.ireturn, 1) := by decide +kernel
theorem d_M_wake_25 : decode b_M_wake 25 = .ok (.aload_n 0, 1) := by decide +kernel
theorem d_M_wake_26 : decode b_M_wake 26 = .ok (.getfield 19, 3) := by decide +kernel
theorem d_M_wake_29 : decode b_M_wake 29 = .ok (.iload_n 1, 1) := by decide +kernel
theorem d_M_wake_30 : decode b_M_wake 30 = .ok (.iaload, 1) := by decide +kernel
theorem d_M_wake_31 : decode b_M_wake 31 = .ok (.aload_n 0, 1) := by decide +kernel
theorem d_M_wake_32 : decode b_M_wake 32 = .ok (.iload_n 1, 1) := by decide +kernel
theorem d_M_wake_33 : decode b_M_wake 33 = .ok (.invokevirtual 108, 3) := by decide +kernel
theorem d_M_wake_36 : decode b_M_wake 36 = .ok (.isub, 1) := by decide +kernel
theorem d_M_wake_37 : decode b_M_wake 37 = .ok (.istore_n 2, 1) := by decide +kernel
theorem d_M_wake_38 : decode b_M_wake 38 = .ok (.aload_n 0, 1) := by decide +kernel
theorem d_M_wake_39 : decode b_M_wake 39 = .ok (.getfield 25, 3) := by decide +kernel
theorem d_M_wake_42 : decode b_M_wake 42 = .ok (.iload_n 1, 1) := by decide +kernel
theorem d_M_wake_43 : decode b_M_wake 43 = .ok (.iconst 0, 1) := by decide +kernel
theorem d_M_wake_44 : decode b_M_wake 44 = .ok (.bastore, 1) := by decide +kernel
theorem d_M_wake_45 : decode b_M_wake 45 = .ok (.iload_n 2, 1) := by decide +kernel
theorem d_M_wake_46 : decode b_M_wake 46 = .ok (.ireturn, 1) := by decide +kernel
theorem d_M_heardOf_0 : decode b_M_heardOf 0 = .ok (.aload_n 0, 1) := by decide +kernel
theorem d_M_heardOf_1 : decode b_M_heardOf 1 = .ok (.getfield 25, 3) := by decide +kernel
theorem d_M_heardOf_4 : decode b_M_heardOf 4 = .ok (.iload_n 1, 1) := by decide +kernel
theorem d_M_heardOf_5 : decode b_M_heardOf 5 = .ok (.baload, 1) := by decide +kernel
theorem d_M_heardOf_6 : decode b_M_heardOf 6 = .ok (.ifCond .eq 12, 3) := by decide +kernel
theorem d_M_heardOf_9 : decode b_M_heardOf 9 = .ok (.aload_n 0, 1) := by decide +kernel
theorem d_M_heardOf_10 : decode b_M_heardOf 10 = .ok (.getfield 22, 3) := by decide +kernel
theorem d_M_heardOf_13 : decode b_M_heardOf 13 = .ok (.iload_n 1, 1) := by decide +kernel
theorem d_M_heardOf_14 : decode b_M_heardOf 14 = .ok (.iaload, 1) := by decide +kernel
theorem d_M_heardOf_15 : decode b_M_heardOf 15 = .ok (.goto 9, 3) := by decide +kernel
theorem d_M_heardOf_18 : decode b_M_heardOf 18 = .ok (.aload_n 0, 1) := by decide +kernel
theorem d_M_heardOf_19 : decode b_M_heardOf 19 = .ok (.getfield 19, 3) := by decide +kernel
theorem d_M_heardOf_22 : decode b_M_heardOf 22 = .ok (.iload_n 1, 1) := by decide +kernel
theorem d_M_heardOf_23 : decode b_M_heardOf 23 = .ok (.iaload, 1) := by decide +kernel
theorem d_M_heardOf_24 : decode b_M_heardOf 24 = .ok (.ireturn, 1) := by decide +kernel
theorem d_M_setGroup_0 : decode b_M_setGroup 0 = .ok (.aload_n 0, 1) := by decide +kernel
theorem d_M_setGroup_1 : decode b_M_setGroup 1 = .ok (.iload_n 1, 1) := by decide +kernel
theorem d_M_setGroup_2 : decode b_M_setGroup 2 = .ok (.invokestatic 111, 3) := by decide +kernel
theorem d_M_setGroup_5 : decode b_M_setGroup 5 = .ok (.ifCond .eq 10, 3) := by decide +kernel
theorem d_M_setGroup_8 : decode b_M_setGroup 8 = .ok (.iload_n 2, 1) := by decide +kernel
theorem d_M_setGroup_9 : decode b_M_setGroup 9 = .ok (.invokestatic 79, 3) := by decide +kernel
theorem d_M_setGroup_12 : decode b_M_setGroup 12 = .ok (.ifCond .ne 7, 3) := by decide +kernel
theorem d_M_setGroup_15 : decode b_M_setGroup 15 = .ok (.iconst 1, 1) := by decide +kernel
theorem d_M_setGroup_16 : decode b_M_setGroup 16 = .ok (.goto 29, 3) := by decide +kernel
theorem d_M_setGroup_19 : decode b_M_setGroup 19 = .ok (.iload_n 3, 1) := by decide +kernel
theorem d_M_setGroup_20 : decode b_M_setGroup 20 = .ok (.iconst 0, 1) := by decide +kernel
theorem d_M_setGroup_21 : decode b_M_setGroup 21 = .ok (.bipush 99, 2) := by decide +kernel
theorem d_M_setGroup_23 : decode b_M_setGroup 23 = .ok (.invokestatic 75, 3) := by decide +kernel
theorem d_M_setGroup_26 : decode b_M_setGroup 26 = .ok (.ifCond .eq 18, 3) := by decide +kernel
theorem d_M_setGroup_29 : decode b_M_setGroup 29 = .ok (.iload 4, 2) := by decide +kernel
theorem d_M_setGroup_31 : decode b_M_setGroup 31 = .ok (.iload_n 3, 1) := by decide +kernel
theorem d_M_setGroup_32 : decode b_M_setGroup 32 = .ok (.bipush 99, 2) := by decide +kernel
theorem d_M_setGroup_34 : decode b_M_setGroup 34 = .ok (.invokestatic 75, 3) := by decide +kernel
theorem d_M_setGroup_37 : decode b_M_setGroup 37 = .ok (.ifCond .eq 7, 3) := by decide +kernel
theorem d_M_setGroup_40 : decode b_M_setGroup 40 = .ok (.iconst 0, 1) := by decide +kernel
theorem d_M_setGroup_41 : decode b_M_setGroup 41 = .ok (.goto 4, 3) := by decide +kernel
theorem d_M_setGroup_44 : decode b_M_setGroup 44 = .ok (.iconst 2, 1) := by decide +kernel
theorem d_M_setGroup_45 : decode b_M_setGroup 45 = .ok (.putfield 71, 3) := by decide +kernel
theorem d_M_setGroup_48 : decode b_M_setGroup 48 = .ok (.aload_n 0, 1) := by decide +kernel
theorem d_M_setGroup_49 : decode b_M_setGroup 49 = .ok (.getfield 71, 3) := by decide +kernel
theorem d_M_setGroup_52 : decode b_M_setGroup 52 = .ok (.ifCond .le 5, 3) := by decide +kernel
theorem d_M_setGroup_55 : decode b_M_setGroup 55 = .ok (.iconst 0, 1) := by decide +kernel
theorem d_M_setGroup_56 : decode b_M_setGroup 56 = .ok (.ireturn, 1) := by decide +kernel
theorem d_M_setGroup_57 : decode b_M_setGroup 57 = .ok (.aload_n 0, 1) := by decide +kernel
theorem d_M_setGroup_58 : decode b_M_setGroup 58 = .ok (.getfield 35, 3) := by decide +kernel
theorem d_M_setGroup_61 : decode b_M_setGroup 61 = .ok (.iload_n 1, 1) := by decide +kernel
theorem d_M_setGroup_62 : decode b_M_setGroup 62 = .ok (.iload_n 2, 1) := by decide +kernel
theorem d_M_setGroup_63 : decode b_M_setGroup 63 = .ok (.iastore, 1) := by decide +kernel
theorem d_M_setGroup_64 : decode b_M_setGroup 64 = .ok (.aload_n 0, 1) := by decide +kernel
theorem d_M_setGroup_65 : decode b_M_setGroup 65 = .ok (.getfield 38, 3) := by decide +kernel
theorem d_M_setGroup_68 : decode b_M_setGroup 68 = .ok (.iload_n 1, 1) := by decide +kernel
theorem d_M_setGroup_69 : decode b_M_setGroup 69 = .ok (.iload_n 3, 1) := by decide +kernel
theorem d_M_setGroup_70 : decode b_M_setGroup 70 = .ok (.iastore, 1) := by decide +kernel
theorem d_M_setGroup_71 : decode b_M_setGroup 71 = .ok (.aload_n 0, 1) := by decide +kernel
theorem d_M_setGroup_72 : decode b_M_setGroup 72 = .ok (.getfield 41, 3) := by decide +kernel
theorem d_M_setGroup_75 : decode b_M_setGroup 75 = .ok (.iload_n 1, 1) := by decide +kernel
theorem d_M_setGroup_76 : decode b_M_setGroup 76 = .ok (.iload 4, 2) := by decide +kernel
theorem d_M_setGroup_78 : decode b_M_setGroup 78 = .ok (.iastore, 1) := by decide +kernel
theorem d_M_setGroup_79 : decode b_M_setGroup 79 = .ok (.aload_n 0, 1) := by decide +kernel
theorem d_M_setGroup_80 : decode b_M_setGroup 80 = .ok (.iload_n 1, 1) := by decide +kernel
theorem d_M_setGroup_81 : decode b_M_setGroup 81 = .ok (.invokevirtual 114, 3) := by decide +kernel
theorem d_M_setGroup_84 : decode b_M_setGroup 84 = .ok (.invokestatic 105, 3) := by decide +kernel
theorem d_M_setGroup_87 : decode b_M_setGroup 87 = .ok (.ireturn, 1) := by decide +kernel
theorem d_M_isGroup_0 : decode b_M_isGroup 0 = .ok (.iload_n 0, 1) := by decide +kernel
theorem d_M_isGroup_1 : decode b_M_isGroup 1 = .ok (.iconst 0, 1) := by decide +kernel
theorem d_M_isGroup_2 : decode b_M_isGroup 2 = .ok (.iconst 3, 1) := by decide +kernel
theorem d_M_isGroup_3 : decode b_M_isGroup 3 = .ok (.invokestatic 75, 3) := by decide +kernel
theorem d_M_isGroup_6 : decode b_M_isGroup 6 = .ok (.ireturn, 1) := by decide +kernel
theorem d_M_membersOf_0 : decode b_M_membersOf 0 = .ok (.iconst 0, 1) := by decide +kernel
theorem d_M_membersOf_1 : decode b_M_membersOf 1 = .ok (.istore_n 2, 1) := by decide +kernel
theorem d_M_membersOf_2 : decode b_M_membersOf 2 = .ok (.iconst 0, 1) := by decide +kernel
theorem d_M_membersOf_3 : decode b_M_membersOf 3 = .ok (.istore_n 3, 1) := by decide +kernel
theorem d_M_membersOf_4 : decode b_M_membersOf 4 = .ok (.iload_n 3, 1) := by decide +kernel
theorem d_M_membersOf_5 : decode b_M_membersOf 5 = .ok (.bipush 8, 2) := by decide +kernel
theorem d_M_membersOf_7 : decode b_M_membersOf 7 = .ok (.if_icmp .ge 59, 3) := by decide +kernel
theorem d_M_membersOf_10 : decode b_M_membersOf 10 = .ok (.aload_n 0, 1) := by decide +kernel
theorem d_M_membersOf_11 : decode b_M_membersOf 11 = .ok (.getfield 13, 3) := by decide +kernel
theorem d_M_membersOf_14 : decode b_M_membersOf 14 = .ok (.bipush 12, 2) := by decide +kernel
theorem d_M_membersOf_16 : decode b_M_membersOf 16 = .ok (.iload_n 3, 1) := by decide +kernel
theorem d_M_membersOf_17 : decode b_M_membersOf 17 = .ok (.imul, 1) := by decide +kernel
theorem d_M_membersOf_18 : decode b_M_membersOf 18 = .ok (.aload_n 0, 1) := by decide +kernel
theorem d_M_membersOf_19 : decode b_M_membersOf 19 = .ok (.getfield 35, 3) := by decide +kernel
theorem d_M_membersOf_22 : decode b_M_membersOf 22 = .ok (.iload_n 1, 1) := by decide +kernel
theorem d_M_membersOf_23 : decode b_M_membersOf 23 = .ok (.iaload, 1) := by decide +kernel
theorem d_M_membersOf_24 : decode b_M_membersOf 24 = .ok (.iadd, 1) := by decide +kernel
theorem d_M_membersOf_25 : decode b_M_membersOf 25 = .ok (.iaload, 1) := by decide +kernel
theorem d_M_membersOf_26 : decode b_M_membersOf 26 = .ok (.iconst 1, 1) := by decide +kernel
theorem d_M_membersOf_27 : decode b_M_membersOf 27 = .ok (.isub, 1) := by decide +kernel
theorem d_M_membersOf_28 : decode b_M_membersOf 28 = .ok (.istore 4, 2) := by decide +kernel
theorem d_M_membersOf_30 : decode b_M_membersOf 30 = .ok (.iload_n 2, 1) := by decide +kernel
theorem d_M_membersOf_31 : decode b_M_membersOf 31 = .ok (.iload 4, 2) := by decide +kernel
theorem d_M_membersOf_33 : decode b_M_membersOf 33 = .ok (.aload_n 0, 1) := by decide +kernel
theorem d_M_membersOf_34 : decode b_M_membersOf 34 = .ok (.getfield 38, 3) := by decide +kernel
theorem d_M_membersOf_37 : decode b_M_membersOf 37 = .ok (.iload_n 1, 1) := by decide +kernel
theorem d_M_membersOf_38 : decode b_M_membersOf 38 = .ok (.iaload, 1) := by decide +kernel
theorem d_M_membersOf_39 : decode b_M_membersOf 39 = .ok (.aload_n 0, 1) := by decide +kernel
theorem d_M_membersOf_40 : decode b_M_membersOf 40 = .ok (.getfield 41, 3) := by decide +kernel
theorem d_M_membersOf_43 : decode b_M_membersOf 43 = .ok (.iload_n 1, 1) := by decide +kernel
theorem d_M_membersOf_44 : decode b_M_membersOf 44 = .ok (.iaload, 1) := by decide +kernel
theorem d_M_membersOf_45 : decode b_M_membersOf 45 = .ok (.invokestatic 75, 3) := by decide +kernel
theorem d_M_membersOf_48 : decode b_M_membersOf 48 = .ok (.ifCond .eq 9, 3) := by decide +kernel
theorem d_M_membersOf_51 : decode b_M_membersOf 51 = .ok (.iconst 1, 1) := by decide +kernel
theorem d_M_membersOf_52 : decode b_M_membersOf 52 = .ok (.iload_n 3, 1) := by decide +kernel
theorem d_M_membersOf_53 : decode b_M_membersOf 53 = .ok (.ishl, 1) := by decide +kernel
theorem d_M_membersOf_54 : decode b_M_membersOf 54 = .ok (.goto 4, 3) := by decide +kernel
theorem d_M_membersOf_57 : decode b_M_membersOf 57 = .ok (.iconst 0, 1) := by decide +kernel
theorem d_M_membersOf_58 : decode b_M_membersOf 58 = .ok (.ior, 1) := by decide +kernel
theorem d_M_membersOf_59 : decode b_M_membersOf 59 = .ok (.istore_n 2, 1) := by decide +kernel
theorem d_M_membersOf_60 : decode b_M_membersOf 60 = .ok (.iinc 3 1, 3) := by decide +kernel
theorem d_M_membersOf_63 : decode b_M_membersOf 63 = .ok (.goto (-59), 3) := by decide +kernel
theorem d_M_membersOf_66 : decode b_M_membersOf 66 = .ok (.iload_n 2, 1) := by decide +kernel
theorem d_M_membersOf_67 : decode b_M_membersOf 67 = .ok (.ireturn, 1) := by decide +kernel
theorem d_M_addJob_0 : decode b_M_addJob 0 = .ok (.iload_n 3, 1) := by decide +kernel
theorem d_M_addJob_1 : decode b_M_addJob 1 = .ok (.iconst 0, 1) := by decide +kernel
theorem d_M_addJob_2 : decode b_M_addJob 2 = .ok (.bipush 99, 2) := by decide +kernel
theorem d_M_addJob_4 : decode b_M_addJob 4 = .ok (.invokestatic 75, 3) := by decide +kernel
theorem d_M_addJob_7 : decode b_M_addJob 7 = .ok (.ifCond .eq 29, 3) := by decide +kernel
theorem d_M_addJob_10 : decode b_M_addJob 10 = .ok (.iload 4, 2) := by decide +kernel
theorem d_M_addJob_12 : decode b_M_addJob 12 = .ok (.iconst 1, 1) := by decide +kernel
theorem d_M_addJob_13 : decode b_M_addJob 13 = .ok (.bipush 8, 2) := by decide +kernel
theorem d_M_addJob_15 : decode b_M_addJob 15 = .ok (.invokestatic 75, 3) := by decide +kernel
theorem d_M_addJob_18 : decode b_M_addJob 18 = .ok (.ifCond .eq 18, 3) := by decide +kernel
theorem d_M_addJob_21 : decode b_M_addJob 21 = .ok (.iload 5, 2) := by decide +kernel
theorem d_M_addJob_23 : decode b_M_addJob 23 = .ok (.iconst 1, 1) := by decide +kernel
theorem d_M_addJob_24 : decode b_M_addJob 24 = .ok (.bipush 8, 2) := by decide +kernel
theorem d_M_addJob_26 : decode b_M_addJob 26 = .ok (.invokestatic 75, 3) := by decide +kernel
theorem d_M_addJob_29 : decode b_M_addJob 29 = .ok (.ifCond .eq 7, 3) := by decide +kernel
theorem d_M_addJob_32 : decode b_M_addJob 32 = .ok (.iconst 1, 1) := by decide +kernel
theorem d_M_addJob_33 : decode b_M_addJob 33 = .ok (.goto 4, 3) := by decide +kernel
theorem d_M_addJob_36 : decode b_M_addJob 36 = .ok (.iconst 0, 1) := by decide +kernel
theorem d_M_addJob_37 : decode b_M_addJob 37 = .ok (.istore 6, 2) := by decide +kernel
theorem d_M_addJob_39 : decode b_M_addJob 39 = .ok (.aload_n 0, 1) := by decide +kernel
theorem d_M_addJob_40 : decode b_M_addJob 40 = .ok (.iload_n 1, 1) := by decide +kernel
theorem d_M_addJob_41 : decode b_M_addJob 41 = .ok (.invokestatic 111, 3) := by decide +kernel
theorem d_M_addJob_44 : decode b_M_addJob 44 = .ok (.ifCond .eq 10, 3) := by decide +kernel
theorem d_M_addJob_47 : decode b_M_addJob 47 = .ok (.iload_n 2, 1) := by decide +kernel
theorem d_M_addJob_48 : decode b_M_addJob 48 = .ok (.invokestatic 79, 3) := by decide +kernel
theorem d_M_addJob_51 : decode b_M_addJob 51 = .ok (.ifCond .ne 7, 3) := by decide +kernel
theorem d_M_addJob_54 : decode b_M_addJob 54 = .ok (.iconst 1, 1) := by decide +kernel
theorem d_M_addJob_55 : decode b_M_addJob 55 = .ok (.goto 26, 3) := by decide +kernel
theorem d_M_addJob_58 : decode b_M_addJob 58 = .ok (.iload 6, 2) := by decide +kernel
theorem d_M_addJob_60 : decode b_M_addJob 60 = .ok (.ifCond .ne 7, 3) := by decide +kernel
theorem d_M_addJob_63 : decode b_M_addJob 63 = .ok (.iconst 2, 1) := by decide +kernel
theorem d_M_addJob_64 : decode b_M_addJob 64 = .ok (.goto 17, 3) := by decide +kernel
theorem d_M_addJob_67 : decode b_M_addJob 67 = .ok (.aload_n 0, 1) := by decide +kernel
theorem d_M_addJob_68 : decode b_M_addJob 68 = .ok (.getfield 117, 3) := by decide +kernel
theorem d_M_addJob_71 : decode b_M_addJob 71 = .ok (.bipush 8, 2) := by decide +kernel
theorem d_M_addJob_73 : decode b_M_addJob 73 = .ok (.if_icmp .ne 7, 3) := by decide +kernel
theorem d_M_addJob_76 : decode b_M_addJob 76 = .ok (.iconst 3, 1) := by decide +kernel
theorem d_M_addJob_77 : decode b_M_addJob 77 = .ok (.goto 4, 3) := by decide +kernel
theorem d_M_addJob_80 : decode b_M_addJob 80 = .ok (.iconst 0, 1) := by decide +kernel
theorem d_M_addJob_81 : decode b_M_addJob 81 = .ok (.putfield 71, 3) := by decide +kernel
theorem d_M_addJob_84 : decode b_M_addJob 84 = .ok (.aload_n 0, 1) := by decide +kernel
theorem d_M_addJob_85 : decode b_M_addJob 85 = .ok (.getfield 71, 3) := by decide +kernel
theorem d_M_addJob_88 : decode b_M_addJob 88 = .ok (.ifCond .le 5, 3) := by decide +kernel
theorem d_M_addJob_91 : decode b_M_addJob 91 = .ok (.iconst 0, 1) := by decide +kernel
theorem d_M_addJob_92 : decode b_M_addJob 92 = .ok (.ireturn, 1) := by decide +kernel
theorem d_M_addJob_93 : decode b_M_addJob 93 = .ok (.aload_n 0, 1) := by decide +kernel
theorem d_M_addJob_94 : decode b_M_addJob 94 = .ok (.getfield 44, 3) := by decide +kernel
theorem d_M_addJob_97 : decode b_M_addJob 97 = .ok (.aload_n 0, 1) := by decide +kernel
theorem d_M_addJob_98 : decode b_M_addJob 98 = .ok (.getfield 117, 3) := by decide +kernel
theorem d_M_addJob_101 : decode b_M_addJob 101 = .ok (.iload_n 1, 1) := by decide +kernel
theorem d_M_addJob_102 : decode b_M_addJob 102 = .ok (.iastore, 1) := by decide +kernel
theorem d_M_addJob_103 : decode b_M_addJob 103 = .ok (.aload_n 0, 1) := by decide +kernel
theorem d_M_addJob_104 : decode b_M_addJob 104 = .ok (.getfield 47, 3) := by decide +kernel
theorem d_M_addJob_107 : decode b_M_addJob 107 = .ok (.aload_n 0, 1) := by decide +kernel
theorem d_M_addJob_108 : decode b_M_addJob 108 = .ok (.getfield 117, 3) := by decide +kernel
theorem d_M_addJob_111 : decode b_M_addJob 111 = .ok (.iload_n 2, 1) := by decide +kernel
theorem d_M_addJob_112 : decode b_M_addJob 112 = .ok (.iastore, 1) := by decide +kernel
theorem d_M_addJob_113 : decode b_M_addJob 113 = .ok (.aload_n 0, 1) := by decide +kernel
theorem d_M_addJob_114 : decode b_M_addJob 114 = .ok (.getfield 50, 3) := by decide +kernel
theorem d_M_addJob_117 : decode b_M_addJob 117 = .ok (.aload_n 0, 1) := by decide +kernel
theorem d_M_addJob_118 : decode b_M_addJob 118 = .ok (.getfield 117, 3) := by decide +kernel
theorem d_M_addJob_121 : decode b_M_addJob 121 = .ok (.iload_n 3, 1) := by decide +kernel
theorem d_M_addJob_122 : decode b_M_addJob 122 = .ok (.iastore, 1) := by decide +kernel
theorem d_M_addJob_123 : decode b_M_addJob 123 = .ok (.aload_n 0, 1) := by decide +kernel
theorem d_M_addJob_124 : decode b_M_addJob 124 = .ok (.getfield 53, 3) := by decide +kernel
theorem d_M_addJob_127 : decode b_M_addJob 127 = .ok (.aload_n 0, 1) := by decide +kernel
theorem d_M_addJob_128 : decode b_M_addJob 128 = .ok (.getfield 117, 3) := by decide +kernel
theorem d_M_addJob_131 : decode b_M_addJob 131 = .ok (.iload 4, 2) := by decide +kernel
theorem d_M_addJob_133 : decode b_M_addJob 133 = .ok (.iastore, 1) := by decide +kernel
theorem d_M_addJob_134 : decode b_M_addJob 134 = .ok (.aload_n 0, 1) := by decide +kernel
theorem d_M_addJob_135 : decode b_M_addJob 135 = .ok (.getfield 56, 3) := by decide +kernel
theorem d_M_addJob_138 : decode b_M_addJob 138 = .ok (.aload_n 0, 1) := by decide +kernel
theorem d_M_addJob_139 : decode b_M_addJob 139 = .ok (.getfield 117, 3) := by decide +kernel
theorem d_M_addJob_142 : decode b_M_addJob 142 = .ok (.iload 5, 2) := by decide +kernel
theorem d_M_addJob_144 : decode b_M_addJob 144 = .ok (.iastore, 1) := by decide +kernel
theorem d_M_addJob_145 : decode b_M_addJob 145 = .ok (.aload_n 0, 1) := by decide +kernel
theorem d_M_addJob_146 : decode b_M_addJob 146 = .ok (.getfield 59, 3) := by decide +kernel
theorem d_M_addJob_149 : decode b_M_addJob 149 = .ok (.aload_n 0, 1) := by decide +kernel
theorem d_M_addJob_150 : decode b_M_addJob 150 = .ok (.getfield 117, 3) := by decide +kernel
theorem d_M_addJob_153 : decode b_M_addJob 153 = .ok (.iconst 0, 1) := by decide +kernel
theorem d_M_addJob_154 : decode b_M_addJob 154 = .ok (.iastore, 1) := by decide +kernel
theorem d_M_addJob_155 : decode b_M_addJob 155 = .ok (.aload_n 0, 1) := by decide +kernel
theorem d_M_addJob_156 : decode b_M_addJob 156 = .ok (.dup, 1) := by decide +kernel
theorem d_M_addJob_157 : decode b_M_addJob 157 = .ok (.getfield 117, 3) := by decide +kernel
theorem d_M_addJob_160 : decode b_M_addJob 160 = .ok (.iconst 1, 1) := by decide +kernel
theorem d_M_addJob_161 : decode b_M_addJob 161 = .ok (.iadd, 1) := by decide +kernel
theorem d_M_addJob_162 : decode b_M_addJob 162 = .ok (.putfield 117, 3) := by decide +kernel
theorem d_M_addJob_165 : decode b_M_addJob 165 = .ok (.aload_n 0, 1) := by decide +kernel
theorem d_M_addJob_166 : decode b_M_addJob 166 = .ok (.getfield 117, 3) := by decide +kernel
theorem d_M_addJob_169 : decode b_M_addJob 169 = .ok (.iconst 1, 1) := by decide +kernel
theorem d_M_addJob_170 : decode b_M_addJob 170 = .ok (.isub, 1) := by decide +kernel
theorem d_M_addJob_171 : decode b_M_addJob 171 = .ok (.ireturn, 1) := by decide +kernel
theorem d_M_wave_0 : decode b_M_wave 0 = .ok (.aload_n 0, 1) := by decide +kernel
theorem d_M_wave_1 : decode b_M_wave 1 = .ok (.iconst 0, 1) := by decide +kernel
theorem d_M_wave_2 : decode b_M_wave 2 = .ok (.putfield 71, 3) := by decide +kernel
theorem d_M_wave_5 : decode b_M_wave 5 = .ok (.iconst 0, 1) := by decide +kernel
theorem d_M_wave_6 : decode b_M_wave 6 = .ok (.istore_n 1, 1) := by decide +kernel
theorem d_M_wave_7 : decode b_M_wave 7 = .ok (.iconst 0, 1) := by decide +kernel
theorem d_M_wave_8 : decode b_M_wave 8 = .ok (.istore_n 2, 1) := by decide +kernel
theorem d_M_wave_9 : decode b_M_wave 9 = .ok (.iload_n 2, 1) := by decide +kernel
theorem d_M_wave_10 : decode b_M_wave 10 = .ok (.aload_n 0, 1) := by decide +kernel
theorem d_M_wave_11 : decode b_M_wave 11 = .ok (.getfield 117, 3) := by decide +kernel
theorem d_M_wave_14 : decode b_M_wave 14 = .ok (.if_icmp .ge 59, 3) := by decide +kernel
theorem d_M_wave_17 : decode b_M_wave 17 = .ok (.aload_n 0, 1) := by decide +kernel
theorem d_M_wave_18 : decode b_M_wave 18 = .ok (.getfield 59, 3) := by decide +kernel
theorem d_M_wave_21 : decode b_M_wave 21 = .ok (.iload_n 2, 1) := by decide +kernel
theorem d_M_wave_22 : decode b_M_wave 22 = .ok (.iaload, 1) := by decide +kernel
theorem d_M_wave_23 : decode b_M_wave 23 = .ok (.ifCond .ne 44, 3) := by decide +kernel
theorem d_M_wave_26 : decode b_M_wave 26 = .ok (.aload_n 0, 1) := by decide +kernel
theorem d_M_wave_27 : decode b_M_wave 27 = .ok (.iload_n 2, 1) := by decide +kernel
theorem d_M_wave_28 : decode b_M_wave 28 = .ok (.invokevirtual 120, 3) := by decide +kernel
theorem d_M_wave_31 : decode b_M_wave 31 = .ok (.aload_n 0, 1) := by decide +kernel
theorem d_M_wave_32 : decode b_M_wave 32 = .ok (.getfield 68, 3) := by decide +kernel
theorem d_M_wave_35 : decode b_M_wave 35 = .ok (.iload_n 2, 1) := by decide +kernel
theorem d_M_wave_36 : decode b_M_wave 36 = .ok (.iaload, 1) := by decide +kernel
theorem d_M_wave_37 : decode b_M_wave 37 = .ok (.invokestatic 105, 3) := by decide +kernel
theorem d_M_wave_40 : decode b_M_wave 40 = .ok (.aload_n 0, 1) := by decide +kernel
theorem d_M_wave_41 : decode b_M_wave 41 = .ok (.getfield 56, 3) := by decide +kernel
theorem d_M_wave_44 : decode b_M_wave 44 = .ok (.iload_n 2, 1) := by decide +kernel
theorem d_M_wave_45 : decode b_M_wave 45 = .ok (.iaload, 1) := by decide +kernel
theorem d_M_wave_46 : decode b_M_wave 46 = .ok (.if_icmp .lt 13, 3) := by decide +kernel
theorem d_M_wave_49 : decode b_M_wave 49 = .ok (.aload_n 0, 1) := by decide +kernel
theorem d_M_wave_50 : decode b_M_wave 50 = .ok (.getfield 59, 3) := by decide +kernel
theorem d_M_wave_53 : decode b_M_wave 53 = .ok (.iload_n 2, 1) := by decide +kernel
theorem d_M_wave_54 : decode b_M_wave 54 = .ok (.iconst 1, 1) := by decide +kernel
theorem d_M_wave_55 : decode b_M_wave 55 = .ok (.iastore, 1) := by decide +kernel
theorem d_M_wave_56 : decode b_M_wave 56 = .ok (.goto 11, 3) := by decide +kernel
theorem d_M_wave_59 : decode b_M_wave 59 = .ok (.iload_n 1, 1) := by decide +kernel
theorem d_M_wave_60 : decode b_M_wave 60 = .ok (.aload_n 0, 1) := by decide +kernel
theorem d_M_wave_61 : decode b_M_wave 61 = .ok (.iload_n 2, 1) := by decide +kernel
theorem d_M_wave_62 : decode b_M_wave 62 = .ok (.invokevirtual 124, 3) := by decide +kernel
theorem d_M_wave_65 : decode b_M_wave 65 = .ok (.iadd, 1) := by decide +kernel
theorem d_M_wave_66 : decode b_M_wave 66 = .ok (.istore_n 1, 1) := by decide +kernel
theorem d_M_wave_67 : decode b_M_wave 67 = .ok (.iinc 2 1, 3) := by decide +kernel
theorem d_M_wave_70 : decode b_M_wave 70 = .ok (.goto (-61), 3) := by decide +kernel
theorem d_M_wave_73 : decode b_M_wave 73 = .ok (.iload_n 1, 1) := by decide +kernel
theorem d_M_wave_74 : decode b_M_wave 74 = .ok (.ireturn, 1) := by decide +kernel
theorem d_M_looks_0 : decode b_M_looks 0 = .ok (.iconst 0, 1) := by decide +kernel
theorem d_M_looks_1 : decode b_M_looks 1 = .ok (.istore_n 2, 1) := by decide +kernel
theorem d_M_looks_2 : decode b_M_looks 2 = .ok (.iload_n 2, 1) := by decide +kernel
theorem d_M_looks_3 : decode b_M_looks 3 = .ok (.bipush 8, 2) := by decide +kernel
theorem d_M_looks_5 : decode b_M_looks 5 = .ok (.if_icmp .ge 140, 3) := by decide +kernel
theorem d_M_looks_8 : decode b_M_looks 8 = .ok (.bipush 12, 2) := by decide +kernel
theorem d_M_looks_10 : decode b_M_looks 10 = .ok (.iload_n 2, 1) := by decide +kernel
theorem d_M_looks_11 : decode b_M_looks 11 = .ok (.imul, 1) := by decide +kernel
theorem d_M_looks_12 : decode b_M_looks 12 = .ok (.aload_n 0, 1) := by decide +kernel
theorem d_M_looks_13 : decode b_M_looks 13 = .ok (.getfield 47, 3) := by decide +kernel
theorem d_M_looks_16 : decode b_M_looks 16 = .ok (.iload_n 1, 1) := by decide +kernel
theorem d_M_looks_17 : decode b_M_looks 17 = .ok (.iaload, 1) := by decide +kernel
theorem d_M_looks_18 : decode b_M_looks 18 = .ok (.iadd, 1) := by decide +kernel
theorem d_M_looks_19 : decode b_M_looks 19 = .ok (.istore_n 3, 1) := by decide +kernel
theorem d_M_looks_20 : decode b_M_looks 20 = .ok (.aload_n 0, 1) := by decide +kernel
theorem d_M_looks_21 : decode b_M_looks 21 = .ok (.getfield 62, 3) := by decide +kernel
theorem d_M_looks_24 : decode b_M_looks 24 = .ok (.iload_n 1, 1) := by decide +kernel
theorem d_M_looks_25 : decode b_M_looks 25 = .ok (.iaload, 1) := by decide +kernel
theorem d_M_looks_26 : decode b_M_looks 26 = .ok (.aload_n 0, 1) := by decide +kernel
theorem d_M_looks_27 : decode b_M_looks 27 = .ok (.getfield 65, 3) := by decide +kernel
theorem d_M_looks_30 : decode b_M_looks 30 = .ok (.iload_n 1, 1) := by decide +kernel
theorem d_M_looks_31 : decode b_M_looks 31 = .ok (.iaload, 1) := by decide +kernel
theorem d_M_looks_32 : decode b_M_looks 32 = .ok (.iconst (-1), 1) := by decide +kernel
theorem d_M_looks_33 : decode b_M_looks 33 = .ok (.ixor, 1) := by decide +kernel
theorem d_M_looks_34 : decode b_M_looks 34 = .ok (.iand, 1) := by decide +kernel
theorem d_M_looks_35 : decode b_M_looks 35 = .ok (.aload_n 0, 1) := by decide +kernel
theorem d_M_looks_36 : decode b_M_looks 36 = .ok (.getfield 68, 3) := by decide +kernel
theorem d_M_looks_39 : decode b_M_looks 39 = .ok (.iload_n 1, 1) := by decide +kernel
theorem d_M_looks_40 : decode b_M_looks 40 = .ok (.iaload, 1) := by decide +kernel
theorem d_M_looks_41 : decode b_M_looks 41 = .ok (.iconst (-1), 1) := by decide +kernel
theorem d_M_looks_42 : decode b_M_looks 42 = .ok (.ixor, 1) := by decide +kernel
theorem d_M_looks_43 : decode b_M_looks 43 = .ok (.iand, 1) := by decide +kernel
theorem d_M_looks_44 : decode b_M_looks 44 = .ok (.iload_n 2, 1) := by decide +kernel
theorem d_M_looks_45 : decode b_M_looks 45 = .ok (.ishr, 1) := by decide +kernel
theorem d_M_looks_46 : decode b_M_looks 46 = .ok (.iconst 1, 1) := by decide +kernel
theorem d_M_looks_47 : decode b_M_looks 47 = .ok (.iand, 1) := by decide +kernel
theorem d_M_looks_48 : decode b_M_looks 48 = .ok (.iconst 1, 1) := by decide +kernel
theorem d_M_looks_49 : decode b_M_looks 49 = .ok (.if_icmp .ne 7, 3) := by decide +kernel
theorem d_M_looks_52 : decode b_M_looks 52 = .ok (.iconst 1, 1) := by decide +kernel
theorem d_M_looks_53 : decode b_M_looks 53 = .ok (.goto 4, 3) := by decide +kernel
theorem d_M_looks_56 : decode b_M_looks 56 = .ok (.iconst 0, 1) := by decide +kernel
theorem d_M_looks_57 : decode b_M_looks 57 = .ok (.istore 4, 2) := by decide +kernel
theorem d_M_looks_59 : decode b_M_looks 59 = .ok (.iload 4, 2) := by decide +kernel
theorem d_M_looks_61 : decode b_M_looks 61 = .ok (.ifCond .eq 35, 3) := by decide +kernel
theorem d_M_looks_64 : decode b_M_looks 64 = .ok (.aload_n 0, 1) := by decide +kernel
theorem d_M_looks_65 : decode b_M_looks 65 = .ok (.getfield 13, 3) := by decide +kernel
theorem d_M_looks_68 : decode b_M_looks 68 = .ok (.iload_n 3, 1) := by decide +kernel
theorem d_M_looks_69 : decode b_M_looks 69 = .ok (.iaload, 1) := by decide +kernel
theorem d_M_looks_70 : decode b_M_looks 70 = .ok (.aload_n 0, 1) := by decide +kernel
theorem d_M_looks_71 : decode b_M_looks 71 = .ok (.getfield 50, 3) := by decide +kernel
theorem d_M_looks_74 : decode b_M_looks 74 = .ok (.iload_n 1, 1) := by decide +kernel
theorem d_M_looks_75 : decode b_M_looks 75 = .ok (.iaload, 1) := by decide +kernel
theorem d_M_looks_76 : decode b_M_looks 76 = .ok (.iconst 1, 1) := by decide +kernel
theorem d_M_looks_77 : decode b_M_looks 77 = .ok (.iadd, 1) := by decide +kernel
theorem d_M_looks_78 : decode b_M_looks 78 = .ok (.if_icmp .ne 18, 3) := by decide +kernel
theorem d_M_looks_81 : decode b_M_looks 81 = .ok (.aload_n 0, 1) := by decide +kernel
theorem d_M_looks_82 : decode b_M_looks 82 = .ok (.getfield 65, 3) := by decide +kernel
theorem d_M_looks_85 : decode b_M_looks 85 = .ok (.iload_n 1, 1) := by decide +kernel
theorem d_M_looks_86 : decode b_M_looks 86 = .ok (.dup2, 1) := by decide +kernel
theorem d_M_looks_87 : decode b_M_looks 87 = .ok (.iaload, 1) := by decide +kernel
theorem d_M_looks_88 : decode b_M_looks 88 = .ok (.iconst 1, 1) := by decide +kernel
theorem d_M_looks_89 : decode b_M_looks 89 = .ok (.iload_n 2, 1) := by decide +kernel
theorem d_M_looks_90 : decode b_M_looks 90 = .ok (.ishl, 1) := by decide +kernel
theorem d_M_looks_91 : decode b_M_looks 91 = .ok (.ior, 1) := by decide +kernel
theorem d_M_looks_92 : decode b_M_looks 92 = .ok (.iastore, 1) := by decide +kernel
theorem d_M_looks_93 : decode b_M_looks 93 = .ok (.goto 46, 3) := by decide +kernel
theorem d_M_looks_96 : decode b_M_looks 96 = .ok (.iload 4, 2) := by decide +kernel
theorem d_M_looks_98 : decode b_M_looks 98 = .ok (.ifCond .eq 41, 3) := by decide +kernel
theorem d_M_looks_101 : decode b_M_looks 101 = .ok (.aload_n 0, 1) := by decide +kernel
theorem d_M_looks_102 : decode b_M_looks 102 = .ok (.getfield 7, 3) := by decide +kernel
theorem d_M_looks_105 : decode b_M_looks 105 = .ok (.iload_n 3, 1) := by decide +kernel
theorem d_M_looks_106 : decode b_M_looks 106 = .ok (.iaload, 1) := by decide +kernel
theorem d_M_looks_107 : decode b_M_looks 107 = .ok (.aload_n 0, 1) := by decide +kernel
theorem d_M_looks_108 : decode b_M_looks 108 = .ok (.getfield 50, 3) := by decide +kernel
theorem d_M_looks_111 : decode b_M_looks 111 = .ok (.iload_n 1, 1) := by decide +kernel
theorem d_M_looks_112 : decode b_M_looks 112 = .ok (.iaload, 1) := by decide +kernel
theorem d_M_looks_113 : decode b_M_looks 113 = .ok (.iconst 1, 1) := by decide +kernel
theorem d_M_looks_114 : decode b_M_looks 114 = .ok (.iadd, 1) := by decide +kernel
theorem d_M_looks_115 : decode b_M_looks 115 = .ok (.if_icmp .ne 24, 3) := by decide +kernel
theorem d_M_looks_118 : decode b_M_looks 118 = .ok (.aload_n 0, 1) := by decide +kernel
theorem d_M_looks_119 : decode b_M_looks 119 = .ok (.getfield 16, 3) := by decide +kernel
theorem d_M_looks_122 : decode b_M_looks 122 = .ok (.iload_n 3, 1) := by decide +kernel
theorem d_M_looks_123 : decode b_M_looks 123 = .ok (.iaload, 1) := by decide +kernel
theorem d_M_looks_124 : decode b_M_looks 124 = .ok (.ifCond .le 15, 3) := by decide +kernel
theorem d_M_looks_127 : decode b_M_looks 127 = .ok (.aload_n 0, 1) := by decide +kernel
theorem d_M_looks_128 : decode b_M_looks 128 = .ok (.getfield 68, 3) := by decide +kernel
theorem d_M_looks_131 : decode b_M_looks 131 = .ok (.iload_n 1, 1) := by decide +kernel
theorem d_M_looks_132 : decode b_M_looks 132 = .ok (.dup2, 1) := by decide +kernel
theorem d_M_looks_133 : decode b_M_looks 133 = .ok (.iaload, 1) := by decide +kernel
theorem d_M_looks_134 : decode b_M_looks 134 = .ok (.iconst 1, 1) := by decide +kernel
theorem d_M_looks_135 : decode b_M_looks 135 = .ok (.iload_n 2, 1) := by decide +kernel
theorem d_M_looks_136 : decode b_M_looks 136 = .ok (.ishl, 1) := by decide +kernel
theorem d_M_looks_137 : decode b_M_looks 137 = .ok (.ior, 1) := by decide +kernel
theorem d_M_looks_138 : decode b_M_looks 138 = .ok (.iastore, 1) := by decide +kernel
theorem d_M_looks_139 : decode b_M_looks 139 = .ok (.iinc 2 1, 3) := by decide +kernel
theorem d_M_looks_142 : decode b_M_looks 142 = .ok (.goto (-140), 3) := by decide +kernel
theorem d_M_looks_145 : decode b_M_looks 145 = .ok (.return_, 1) := by decide +kernel
theorem d_M_starts_0 : decode b_M_starts 0 = .ok (.iconst 0, 1) := by decide +kernel
theorem d_M_starts_1 : decode b_M_starts 1 = .ok (.istore_n 2, 1) := by decide +kernel
theorem d_M_starts_2 : decode b_M_starts 2 = .ok (.aload_n 0, 1) := by decide +kernel
theorem d_M_starts_3 : decode b_M_starts 3 = .ok (.aload_n 0, 1) := by decide +kernel
theorem d_M_starts_4 : decode b_M_starts 4 = .ok (.getfield 44, 3) := by decide +kernel
theorem d_M_starts_7 : decode b_M_starts 7 = .ok (.iload_n 1, 1) := by decide +kernel
theorem d_M_starts_8 : decode b_M_starts 8 = .ok (.iaload, 1) := by decide +kernel
theorem d_M_starts_9 : decode b_M_starts 9 = .ok (.invokevirtual 114, 3) := by decide +kernel
theorem d_M_starts_12 : decode b_M_starts 12 = .ok (.aload_n 0, 1) := by decide +kernel
theorem d_M_starts_13 : decode b_M_starts 13 = .ok (.getfield 62, 3) := by decide +kernel
theorem d_M_starts_16 : decode b_M_starts 16 = .ok (.iload_n 1, 1) := by decide +kernel
theorem d_M_starts_17 : decode b_M_starts 17 = .ok (.iaload, 1) := by decide +kernel
theorem d_M_starts_18 : decode b_M_starts 18 = .ok (.iconst (-1), 1) := by decide +kernel
theorem d_M_starts_19 : decode b_M_starts 19 = .ok (.ixor, 1) := by decide +kernel
theorem d_M_starts_20 : decode b_M_starts 20 = .ok (.iand, 1) := by decide +kernel
theorem d_M_starts_21 : decode b_M_starts 21 = .ok (.istore_n 3, 1) := by decide +kernel
theorem d_M_starts_22 : decode b_M_starts 22 = .ok (.iconst 0, 1) := by decide +kernel
theorem d_M_starts_23 : decode b_M_starts 23 = .ok (.istore 4, 2) := by decide +kernel
theorem d_M_starts_25 : decode b_M_starts 25 = .ok (.iload 4, 2) := by decide +kernel
theorem d_M_starts_27 : decode b_M_starts 27 = .ok (.bipush 8, 2) := by decide +kernel
theorem d_M_starts_29 : decode b_M_starts 29 = .ok (.if_icmp .ge 76, 3) := by decide +kernel
theorem d_M_starts_32 : decode b_M_starts 32 = .ok (.iload_n 2, 1) := by decide +kernel
theorem d_M_starts_33 : decode b_M_starts 33 = .ok (.aload_n 0, 1) := by decide +kernel
theorem d_M_starts_34 : decode b_M_starts 34 = .ok (.getfield 53, 3) := by decide +kernel
theorem d_M_starts_37 : decode b_M_starts 37 = .ok (.iload_n 1, 1) := by decide +kernel
theorem d_M_starts_38 : decode b_M_starts 38 = .ok (.iaload, 1) := by decide +kernel
theorem d_M_starts_39 : decode b_M_starts 39 = .ok (.if_icmp .ge 66, 3) := by decide +kernel
theorem d_M_starts_42 : decode b_M_starts 42 = .ok (.iload_n 3, 1) := by decide +kernel
theorem d_M_starts_43 : decode b_M_starts 43 = .ok (.iload 4, 2) := by decide +kernel
theorem d_M_starts_45 : decode b_M_starts 45 = .ok (.ishr, 1) := by decide +kernel
theorem d_M_starts_46 : decode b_M_starts 46 = .ok (.iconst 1, 1) := by decide +kernel
theorem d_M_starts_47 : decode b_M_starts 47 = .ok (.iand, 1) := by decide +kernel
theorem d_M_starts_48 : decode b_M_starts 48 = .ok (.iconst 1, 1) := by decide +kernel
theorem d_M_starts_49 : decode b_M_starts 49 = .ok (.if_icmp .ne 50, 3) := by decide +kernel
theorem d_M_starts_52 : decode b_M_starts 52 = .ok (.aload_n 0, 1) := by decide +kernel
theorem d_M_starts_53 : decode b_M_starts 53 = .ok (.getfield 62, 3) := by decide +kernel
theorem d_M_starts_56 : decode b_M_starts 56 = .ok (.iload_n 1, 1) := by decide +kernel
theorem d_M_starts_57 : decode b_M_starts 57 = .ok (.dup2, 1) := by decide +kernel
theorem d_M_starts_58 : decode b_M_starts 58 = .ok (.iaload, 1) := by decide +kernel
theorem d_M_starts_59 : decode b_M_starts 59 = .ok (.iconst 1, 1) := by decide +kernel
theorem d_M_starts_60 : decode b_M_starts 60 = .ok (.iload 4, 2) := by decide +kernel
theorem d_M_starts_62 : decode b_M_starts 62 = .ok (.ishl, 1) := by decide +kernel
theorem d_M_starts_63 : decode b_M_starts 63 = .ok (.ior, 1) := by decide +kernel
theorem d_M_starts_64 : decode b_M_starts 64 = .ok (.iastore, 1) := by decide +kernel
theorem d_M_starts_65 : decode b_M_starts 65 = .ok (.aload_n 0, 1) := by decide +kernel
theorem d_M_starts_66 : decode b_M_starts 66 = .ok (.iload 4, 2) := by decide +kernel
theorem d_M_starts_68 : decode b_M_starts 68 = .ok (.aload_n 0, 1) := by decide +kernel
theorem d_M_starts_69 : decode b_M_starts 69 = .ok (.getfield 47, 3) := by decide +kernel
theorem d_M_starts_72 : decode b_M_starts 72 = .ok (.iload_n 1, 1) := by decide +kernel
theorem d_M_starts_73 : decode b_M_starts 73 = .ok (.iaload, 1) := by decide +kernel
theorem d_M_starts_74 : decode b_M_starts 74 = .ok (.aload_n 0, 1) := by decide +kernel
theorem d_M_starts_75 : decode b_M_starts 75 = .ok (.getfield 50, 3) := by decide +kernel
theorem d_M_starts_78 : decode b_M_starts 78 = .ok (.iload_n 1, 1) := by decide +kernel
theorem d_M_starts_79 : decode b_M_starts 79 = .ok (.iaload, 1) := by decide +kernel
theorem d_M_starts_80 : decode b_M_starts 80 = .ok (.iconst 1, 1) := by decide +kernel
theorem d_M_starts_81 : decode b_M_starts 81 = .ok (.iadd, 1) := by decide +kernel
theorem d_M_starts_82 : decode b_M_starts 82 = .ok (.invokevirtual 94, 3) := by decide +kernel
theorem d_M_starts_85 : decode b_M_starts 85 = .ok (.aload_n 0, 1) := by decide +kernel
theorem d_M_starts_86 : decode b_M_starts 86 = .ok (.getfield 19, 3) := by decide +kernel
theorem d_M_starts_89 : decode b_M_starts 89 = .ok (.iload 4, 2) := by decide +kernel
theorem d_M_starts_91 : decode b_M_starts 91 = .ok (.dup2, 1) := by decide +kernel
theorem d_M_starts_92 : decode b_M_starts 92 = .ok (.iaload, 1) := by decide +kernel
theorem d_M_starts_93 : decode b_M_starts 93 = .ok (.iconst 1, 1) := by decide +kernel
theorem d_M_starts_94 : decode b_M_starts 94 = .ok (.iadd, 1) := by decide +kernel
theorem d_M_starts_95 : decode b_M_starts 95 = .ok (.iastore, 1) := by decide +kernel
theorem d_M_starts_96 : decode b_M_starts 96 = .ok (.iinc 2 1, 3) := by decide +kernel
theorem d_M_starts_99 : decode b_M_starts 99 = .ok (.iinc 4 1, 3) := by decide +kernel
theorem d_M_starts_102 : decode b_M_starts 102 = .ok (.goto (-77), 3) := by decide +kernel
theorem d_M_starts_105 : decode b_M_starts 105 = .ok (.iload_n 2, 1) := by decide +kernel
theorem d_M_starts_106 : decode b_M_starts 106 = .ok (.ireturn, 1) := by decide +kernel
theorem d_M_cancel_0 : decode b_M_cancel 0 = .ok (.aload_n 0, 1) := by decide +kernel
theorem d_M_cancel_1 : decode b_M_cancel 1 = .ok (.aload_n 0, 1) := by decide +kernel
theorem d_M_cancel_2 : decode b_M_cancel 2 = .ok (.iload_n 1, 1) := by decide +kernel
theorem d_M_cancel_3 : decode b_M_cancel 3 = .ok (.invokevirtual 127, 3) := by decide +kernel
theorem d_M_cancel_6 : decode b_M_cancel 6 = .ok (.ifCond .ne 7, 3) := by decide +kernel
theorem d_M_cancel_9 : decode b_M_cancel 9 = .ok (.iconst 1, 1) := by decide +kernel
theorem d_M_cancel_10 : decode b_M_cancel 10 = .ok (.goto 17, 3) := by decide +kernel
theorem d_M_cancel_13 : decode b_M_cancel 13 = .ok (.aload_n 0, 1) := by decide +kernel
theorem d_M_cancel_14 : decode b_M_cancel 14 = .ok (.getfield 59, 3) := by decide +kernel
theorem d_M_cancel_17 : decode b_M_cancel 17 = .ok (.iload_n 1, 1) := by decide +kernel
theorem d_M_cancel_18 : decode b_M_cancel 18 = .ok (.iaload, 1) := by decide +kernel
theorem d_M_cancel_19 : decode b_M_cancel 19 = .ok (.ifCond .ne 7, 3) := by decide +kernel
theorem d_M_cancel_22 : decode b_M_cancel 22 = .ok (.iconst 0, 1) := by decide +kernel
theorem d_M_cancel_23 : decode b_M_cancel 23 = .ok (.goto 4, 3) := by decide +kernel
theorem d_M_cancel_26 : decode b_M_cancel 26 = .ok (.iconst 2, 1) := by decide +kernel
theorem d_M_cancel_27 : decode b_M_cancel 27 = .ok (.putfield 71, 3) := by decide +kernel
theorem d_M_cancel_30 : decode b_M_cancel 30 = .ok (.aload_n 0, 1) := by decide +kernel
theorem d_M_cancel_31 : decode b_M_cancel 31 = .ok (.getfield 71, 3) := by decide +kernel
theorem d_M_cancel_34 : decode b_M_cancel 34 = .ok (.ifCond .le 5, 3) := by decide +kernel
theorem d_M_cancel_37 : decode b_M_cancel 37 = .ok (.iconst 0, 1) := by decide +kernel
theorem d_M_cancel_38 : decode b_M_cancel 38 = .ok (.ireturn, 1) := by decide +kernel
theorem d_M_cancel_39 : decode b_M_cancel 39 = .ok (.aload_n 0, 1) := by decide +kernel
theorem d_M_cancel_40 : decode b_M_cancel 40 = .ok (.getfield 59, 3) := by decide +kernel
theorem d_M_cancel_43 : decode b_M_cancel 43 = .ok (.iload_n 1, 1) := by decide +kernel
theorem d_M_cancel_44 : decode b_M_cancel 44 = .ok (.iconst 2, 1) := by decide +kernel
theorem d_M_cancel_45 : decode b_M_cancel 45 = .ok (.iastore, 1) := by decide +kernel
theorem d_M_cancel_46 : decode b_M_cancel 46 = .ok (.aload_n 0, 1) := by decide +kernel
theorem d_M_cancel_47 : decode b_M_cancel 47 = .ok (.getfield 62, 3) := by decide +kernel
theorem d_M_cancel_50 : decode b_M_cancel 50 = .ok (.iload_n 1, 1) := by decide +kernel
theorem d_M_cancel_51 : decode b_M_cancel 51 = .ok (.iaload, 1) := by decide +kernel
theorem d_M_cancel_52 : decode b_M_cancel 52 = .ok (.aload_n 0, 1) := by decide +kernel
theorem d_M_cancel_53 : decode b_M_cancel 53 = .ok (.getfield 65, 3) := by decide +kernel
theorem d_M_cancel_56 : decode b_M_cancel 56 = .ok (.iload_n 1, 1) := by decide +kernel
theorem d_M_cancel_57 : decode b_M_cancel 57 = .ok (.iaload, 1) := by decide +kernel
theorem d_M_cancel_58 : decode b_M_cancel 58 = .ok (.iconst (-1), 1) := by decide +kernel
theorem d_M_cancel_59 : decode b_M_cancel 59 = .ok (.ixor, 1) := by decide +kernel
theorem d_M_cancel_60 : decode b_M_cancel 60 = .ok (.iand, 1) := by decide +kernel
theorem d_M_cancel_61 : decode b_M_cancel 61 = .ok (.aload_n 0, 1) := by decide +kernel
theorem d_M_cancel_62 : decode b_M_cancel 62 = .ok (.getfield 68, 3) := by decide +kernel
theorem d_M_cancel_65 : decode b_M_cancel 65 = .ok (.iload_n 1, 1) := by decide +kernel
theorem d_M_cancel_66 : decode b_M_cancel 66 = .ok (.iaload, 1) := by decide +kernel
theorem d_M_cancel_67 : decode b_M_cancel 67 = .ok (.iconst (-1), 1) := by decide +kernel
theorem d_M_cancel_68 : decode b_M_cancel 68 = .ok (.ixor, 1) := by decide +kernel
theorem d_M_cancel_69 : decode b_M_cancel 69 = .ok (.iand, 1) := by decide +kernel
theorem d_M_cancel_70 : decode b_M_cancel 70 = .ok (.invokestatic 105, 3) := by decide +kernel
theorem d_M_cancel_73 : decode b_M_cancel 73 = .ok (.ireturn, 1) := by decide +kernel
theorem d_M_isJob_0 : decode b_M_isJob 0 = .ok (.iload_n 1, 1) := by decide +kernel
theorem d_M_isJob_1 : decode b_M_isJob 1 = .ok (.iconst 0, 1) := by decide +kernel
theorem d_M_isJob_2 : decode b_M_isJob 2 = .ok (.aload_n 0, 1) := by decide +kernel
theorem d_M_isJob_3 : decode b_M_isJob 3 = .ok (.getfield 117, 3) := by decide +kernel
theorem d_M_isJob_6 : decode b_M_isJob 6 = .ok (.iconst 1, 1) := by decide +kernel
theorem d_M_isJob_7 : decode b_M_isJob 7 = .ok (.isub, 1) := by decide +kernel
theorem d_M_isJob_8 : decode b_M_isJob 8 = .ok (.invokestatic 75, 3) := by decide +kernel
theorem d_M_isJob_11 : decode b_M_isJob 11 = .ok (.ireturn, 1) := by decide +kernel
theorem d_M_version_0 : decode b_M_version 0 = .ok (.aload_n 0, 1) := by decide +kernel
theorem d_M_version_1 : decode b_M_version 1 = .ok (.iload_n 1, 1) := by decide +kernel
theorem d_M_version_2 : decode b_M_version 2 = .ok (.invokevirtual 130, 3) := by decide +kernel
theorem d_M_version_5 : decode b_M_version 5 = .ok (.ifCond .eq 12, 3) := by decide +kernel
theorem d_M_version_8 : decode b_M_version 8 = .ok (.aload_n 0, 1) := by decide +kernel
theorem d_M_version_9 : decode b_M_version 9 = .ok (.getfield 19, 3) := by decide +kernel
theorem d_M_version_12 : decode b_M_version 12 = .ok (.iload_n 1, 1) := by decide +kernel
theorem d_M_version_13 : decode b_M_version 13 = .ok (.iaload, 1) := by decide +kernel
theorem d_M_version_14 : decode b_M_version 14 = .ok (.goto 4, 3) := by decide +kernel
theorem d_M_version_17 : decode b_M_version 17 = .ok (.iconst 0, 1) := by decide +kernel
theorem d_M_version_18 : decode b_M_version 18 = .ok (.ireturn, 1) := by decide +kernel
theorem d_M_asks_0 : decode b_M_asks 0 = .ok (.aload_n 0, 1) := by decide +kernel
theorem d_M_asks_1 : decode b_M_asks 1 = .ok (.iload_n 1, 1) := by decide +kernel
theorem d_M_asks_2 : decode b_M_asks 2 = .ok (.invokestatic 91, 3) := by decide +kernel
theorem d_M_asks_5 : decode b_M_asks 5 = .ok (.ifCond .eq 7, 3) := by decide +kernel
theorem d_M_asks_8 : decode b_M_asks 8 = .ok (.iconst 0, 1) := by decide +kernel
theorem d_M_asks_9 : decode b_M_asks 9 = .ok (.goto 4, 3) := by decide +kernel
theorem d_M_asks_12 : decode b_M_asks 12 = .ok (.iconst 1, 1) := by decide +kernel
theorem d_M_asks_13 : decode b_M_asks 13 = .ok (.putfield 71, 3) := by decide +kernel
theorem d_M_asks_16 : decode b_M_asks 16 = .ok (.aload_n 0, 1) := by decide +kernel
theorem d_M_asks_17 : decode b_M_asks 17 = .ok (.getfield 71, 3) := by decide +kernel
theorem d_M_asks_20 : decode b_M_asks 20 = .ok (.ifCond .ne 7, 3) := by decide +kernel
theorem d_M_asks_23 : decode b_M_asks 23 = .ok (.iconst 1, 1) := by decide +kernel
theorem d_M_asks_24 : decode b_M_asks 24 = .ok (.goto 4, 3) := by decide +kernel
theorem d_M_asks_27 : decode b_M_asks 27 = .ok (.iconst 0, 1) := by decide +kernel
theorem d_M_asks_28 : decode b_M_asks 28 = .ok (.ireturn, 1) := by decide +kernel
theorem d_M_heard_0 : decode b_M_heard 0 = .ok (.aload_n 0, 1) := by decide +kernel
theorem d_M_heard_1 : decode b_M_heard 1 = .ok (.iload_n 1, 1) := by decide +kernel
theorem d_M_heard_2 : decode b_M_heard 2 = .ok (.invokevirtual 130, 3) := by decide +kernel
theorem d_M_heard_5 : decode b_M_heard 5 = .ok (.ifCond .eq 11, 3) := by decide +kernel
theorem d_M_heard_8 : decode b_M_heard 8 = .ok (.aload_n 0, 1) := by decide +kernel
theorem d_M_heard_9 : decode b_M_heard 9 = .ok (.iload_n 1, 1) := by decide +kernel
theorem d_M_heard_10 : decode b_M_heard 10 = .ok (.invokevirtual 108, 3) := by decide +kernel
theorem d_M_heard_13 : decode b_M_heard 13 = .ok (.goto 4, 3) := by decide +kernel
theorem d_M_heard_16 : decode b_M_heard 16 = .ok (.iconst 0, 1) := by decide +kernel
theorem d_M_heard_17 : decode b_M_heard 17 = .ok (.ireturn, 1) := by decide +kernel
theorem d_M_wished_0 : decode b_M_wished 0 = .ok (.aload_n 0, 1) := by decide +kernel
theorem d_M_wished_1 : decode b_M_wished 1 = .ok (.iload_n 1, 1) := by decide +kernel
theorem d_M_wished_2 : decode b_M_wished 2 = .ok (.iload_n 2, 1) := by decide +kernel
theorem d_M_wished_3 : decode b_M_wished 3 = .ok (.invokevirtual 133, 3) := by decide +kernel
theorem d_M_wished_6 : decode b_M_wished 6 = .ok (.ifCond .eq 19, 3) := by decide +kernel
theorem d_M_wished_9 : decode b_M_wished 9 = .ok (.aload_n 0, 1) := by decide +kernel
theorem d_M_wished_10 : decode b_M_wished 10 = .ok (.getfield 7, 3) := by decide +kernel
theorem d_M_wished_13 : decode b_M_wished 13 = .ok (.bipush 12, 2) := by decide +kernel
theorem d_M_wished_15 : decode b_M_wished 15 = .ok (.iload_n 1, 1) := by decide +kernel
theorem d_M_wished_16 : decode b_M_wished 16 = .ok (.imul, 1) := by decide +kernel
theorem d_M_wished_17 : decode b_M_wished 17 = .ok (.iload_n 2, 1) := by decide +kernel
theorem d_M_wished_18 : decode b_M_wished 18 = .ok (.iadd, 1) := by decide +kernel
theorem d_M_wished_19 : decode b_M_wished 19 = .ok (.iaload, 1) := by decide +kernel
theorem d_M_wished_20 : decode b_M_wished 20 = .ok (.iconst 1, 1) := by decide +kernel
theorem d_M_wished_21 : decode b_M_wished 21 = .ok (.isub, 1) := by decide +kernel
theorem d_M_wished_22 : decode b_M_wished 22 = .ok (.goto 4, 3) := by decide +kernel
theorem d_M_wished_25 : decode b_M_wished 25 = .ok (.iconst 0, 1) := by decide +kernel
theorem d_M_wished_26 : decode b_M_wished 26 = .ok (.ireturn, 1) := by decide +kernel
theorem d_M_asksLeaf_0 : decode b_M_asksLeaf 0 = .ok (.aload_n 0, 1) := by decide +kernel
theorem d_M_asksLeaf_1 : decode b_M_asksLeaf 1 = .ok (.iload_n 1, 1) := by decide +kernel
theorem d_M_asksLeaf_2 : decode b_M_asksLeaf 2 = .ok (.invokestatic 91, 3) := by decide +kernel
theorem d_M_asksLeaf_5 : decode b_M_asksLeaf 5 = .ok (.ifCond .eq 14, 3) := by decide +kernel
theorem d_M_asksLeaf_8 : decode b_M_asksLeaf 8 = .ok (.iload_n 2, 1) := by decide +kernel
theorem d_M_asksLeaf_9 : decode b_M_asksLeaf 9 = .ok (.invokestatic 79, 3) := by decide +kernel
theorem d_M_asksLeaf_12 : decode b_M_asksLeaf 12 = .ok (.ifCond .eq 7, 3) := by decide +kernel
theorem d_M_asksLeaf_15 : decode b_M_asksLeaf 15 = .ok (.iconst 0, 1) := by decide +kernel
theorem d_M_asksLeaf_16 : decode b_M_asksLeaf 16 = .ok (.goto 4, 3) := by decide +kernel
theorem d_M_asksLeaf_19 : decode b_M_asksLeaf 19 = .ok (.iconst 1, 1) := by decide +kernel
theorem d_M_asksLeaf_20 : decode b_M_asksLeaf 20 = .ok (.putfield 71, 3) := by decide +kernel
theorem d_M_asksLeaf_23 : decode b_M_asksLeaf 23 = .ok (.aload_n 0, 1) := by decide +kernel
theorem d_M_asksLeaf_24 : decode b_M_asksLeaf 24 = .ok (.getfield 71, 3) := by decide +kernel
theorem d_M_asksLeaf_27 : decode b_M_asksLeaf 27 = .ok (.ifCond .ne 7, 3) := by decide +kernel
theorem d_M_asksLeaf_30 : decode b_M_asksLeaf 30 = .ok (.iconst 1, 1) := by decide +kernel
theorem d_M_asksLeaf_31 : decode b_M_asksLeaf 31 = .ok (.goto 4, 3) := by decide +kernel
theorem d_M_asksLeaf_34 : decode b_M_asksLeaf 34 = .ok (.iconst 0, 1) := by decide +kernel
theorem d_M_asksLeaf_35 : decode b_M_asksLeaf 35 = .ok (.ireturn, 1) := by decide +kernel
theorem d_M_reported_0 : decode b_M_reported 0 = .ok (.aload_n 0, 1) := by decide +kernel
theorem d_M_reported_1 : decode b_M_reported 1 = .ok (.iload_n 1, 1) := by decide +kernel
theorem d_M_reported_2 : decode b_M_reported 2 = .ok (.iload_n 2, 1) := by decide +kernel
theorem d_M_reported_3 : decode b_M_reported 3 = .ok (.invokevirtual 133, 3) := by decide +kernel
theorem d_M_reported_6 : decode b_M_reported 6 = .ok (.ifCond .eq 19, 3) := by decide +kernel
theorem d_M_reported_9 : decode b_M_reported 9 = .ok (.aload_n 0, 1) := by decide +kernel
theorem d_M_reported_10 : decode b_M_reported 10 = .ok (.getfield 13, 3) := by decide +kernel
theorem d_M_reported_13 : decode b_M_reported 13 = .ok (.bipush 12, 2) := by decide +kernel
theorem d_M_reported_15 : decode b_M_reported 15 = .ok (.iload_n 1, 1) := by decide +kernel
theorem d_M_reported_16 : decode b_M_reported 16 = .ok (.imul, 1) := by decide +kernel
theorem d_M_reported_17 : decode b_M_reported 17 = .ok (.iload_n 2, 1) := by decide +kernel
theorem d_M_reported_18 : decode b_M_reported 18 = .ok (.iadd, 1) := by decide +kernel
theorem d_M_reported_19 : decode b_M_reported 19 = .ok (.iaload, 1) := by decide +kernel
theorem d_M_reported_20 : decode b_M_reported 20 = .ok (.iconst 1, 1) := by decide +kernel
theorem d_M_reported_21 : decode b_M_reported 21 = .ok (.isub, 1) := by decide +kernel
theorem d_M_reported_22 : decode b_M_reported 22 = .ok (.goto 4, 3) := by decide +kernel
theorem d_M_reported_25 : decode b_M_reported 25 = .ok (.iconst 0, 1) := by decide +kernel
theorem d_M_reported_26 : decode b_M_reported 26 = .ok (.ireturn, 1) := by decide +kernel
theorem d_M_why_0 : decode b_M_why 0 = .ok (.aload_n 0, 1) := by decide +kernel
theorem d_M_why_1 : decode b_M_why 1 = .ok (.iload_n 1, 1) := by decide +kernel
theorem d_M_why_2 : decode b_M_why 2 = .ok (.iload_n 2, 1) := by decide +kernel
theorem d_M_why_3 : decode b_M_why 3 = .ok (.invokevirtual 133, 3) := by decide +kernel
theorem d_M_why_6 : decode b_M_why 6 = .ok (.ifCond .eq 17, 3) := by decide +kernel
theorem d_M_why_9 : decode b_M_why 9 = .ok (.aload_n 0, 1) := by decide +kernel
theorem d_M_why_10 : decode b_M_why 10 = .ok (.getfield 16, 3) := by decide +kernel
theorem d_M_why_13 : decode b_M_why 13 = .ok (.bipush 12, 2) := by decide +kernel
theorem d_M_why_15 : decode b_M_why 15 = .ok (.iload_n 1, 1) := by decide +kernel
theorem d_M_why_16 : decode b_M_why 16 = .ok (.imul, 1) := by decide +kernel
theorem d_M_why_17 : decode b_M_why 17 = .ok (.iload_n 2, 1) := by decide +kernel
theorem d_M_why_18 : decode b_M_why 18 = .ok (.iadd, 1) := by decide +kernel
theorem d_M_why_19 : decode b_M_why 19 = .ok (.iaload, 1) := by decide +kernel
theorem d_M_why_20 : decode b_M_why 20 = .ok (.goto 4, 3) := by decide +kernel
theorem d_M_why_23 : decode b_M_why 23 = .ok (.iconst 0, 1) := by decide +kernel
theorem d_M_why_24 : decode b_M_why 24 = .ok (.ireturn, 1) := by decide +kernel
theorem d_M_differences_0 : decode b_M_differences 0 = .ok (.aload_n 0, 1) := by decide +kernel
theorem d_M_differences_1 : decode b_M_differences 1 = .ok (.iload_n 1, 1) := by decide +kernel
theorem d_M_differences_2 : decode b_M_differences 2 = .ok (.invokevirtual 130, 3) := by decide +kernel
theorem d_M_differences_5 : decode b_M_differences 5 = .ok (.ifCond .eq 11, 3) := by decide +kernel
theorem d_M_differences_8 : decode b_M_differences 8 = .ok (.aload_n 0, 1) := by decide +kernel
theorem d_M_differences_9 : decode b_M_differences 9 = .ok (.iload_n 1, 1) := by decide +kernel
theorem d_M_differences_10 : decode b_M_differences 10 = .ok (.invokevirtual 101, 3) := by decide +kernel
theorem d_M_differences_13 : decode b_M_differences 13 = .ok (.goto 4, 3) := by decide +kernel
theorem d_M_differences_16 : decode b_M_differences 16 = .ok (.iconst 0, 1) := by decide +kernel
theorem d_M_differences_17 : decode b_M_differences 17 = .ok (.ireturn, 1) := by decide +kernel
theorem d_M_differencesAnew_0 : decode b_M_differencesAnew 0 = .ok (.aload_n 0, 1) := by decide +kernel
theorem d_M_differencesAnew_1 : decode b_M_differencesAnew 1 = .ok (.iload_n 1, 1) := by decide +kernel
theorem d_M_differencesAnew_2 : decode b_M_differencesAnew 2 = .ok (.invokevirtual 130, 3) := by decide +kernel
theorem d_M_differencesAnew_5 : decode b_M_differencesAnew 5 = .ok (.ifCond .eq 11, 3) := by decide +kernel
theorem d_M_differencesAnew_8 : decode b_M_differencesAnew 8 = .ok (.aload_n 0, 1) := by decide +kernel
theorem d_M_differencesAnew_9 : decode b_M_differencesAnew 9 = .ok (.iload_n 1, 1) := by decide +kernel
theorem d_M_differencesAnew_10 : decode b_M_differencesAnew 10 = .ok (.invokevirtual 101, 3) := by decide +kernel
theorem d_M_differencesAnew_13 : decode b_M_differencesAnew 13 = .ok (.goto 4, 3) := by decide +kernel
theorem d_M_differencesAnew_16 : decode b_M_differencesAnew 16 = .ok (.iconst 0, 1) := by decide +kernel
theorem d_M_differencesAnew_17 : decode b_M_differencesAnew 17 = .ok (.ireturn, 1) := by decide +kernel
theorem d_M_members_0 : decode b_M_members 0 = .ok (.aload_n 0, 1) := by decide +kernel
theorem d_M_members_1 : decode b_M_members 1 = .ok (.iload_n 1, 1) := by decide +kernel
theorem d_M_members_2 : decode b_M_members 2 = .ok (.invokestatic 111, 3) := by decide +kernel
theorem d_M_members_5 : decode b_M_members 5 = .ok (.ifCond .eq 7, 3) := by decide +kernel
theorem d_M_members_8 : decode b_M_members 8 = .ok (.iconst 0, 1) := by decide +kernel
theorem d_M_members_9 : decode b_M_members 9 = .ok (.goto 4, 3) := by decide +kernel
theorem d_M_members_12 : decode b_M_members 12 = .ok (.iconst 1, 1) := by decide +kernel
theorem d_M_members_13 : decode b_M_members 13 = .ok (.putfield 71, 3) := by decide +kernel
theorem d_M_members_16 : decode b_M_members 16 = .ok (.aload_n 0, 1) := by decide +kernel
theorem d_M_members_17 : decode b_M_members 17 = .ok (.getfield 71, 3) := by decide +kernel
theorem d_M_members_20 : decode b_M_members 20 = .ok (.ifCond .le 7, 3) := by decide +kernel
theorem d_M_members_23 : decode b_M_members 23 = .ok (.iconst 0, 1) := by decide +kernel
theorem d_M_members_24 : decode b_M_members 24 = .ok (.goto 8, 3) := by decide +kernel
theorem d_M_members_27 : decode b_M_members 27 = .ok (.aload_n 0, 1) := by decide +kernel
theorem d_M_members_28 : decode b_M_members 28 = .ok (.iload_n 1, 1) := by decide +kernel
theorem d_M_members_29 : decode b_M_members 29 = .ok (.invokevirtual 114, 3) := by decide +kernel
theorem d_M_members_32 : decode b_M_members 32 = .ok (.ireturn, 1) := by decide +kernel
theorem d_M_jobs_0 : decode b_M_jobs 0 = .ok (.aload_n 0, 1) := by decide +kernel
theorem d_M_jobs_1 : decode b_M_jobs 1 = .ok (.iconst 0, 1) := by decide +kernel
theorem d_M_jobs_2 : decode b_M_jobs 2 = .ok (.putfield 71, 3) := by decide +kernel
theorem d_M_jobs_5 : decode b_M_jobs 5 = .ok (.aload_n 0, 1) := by decide +kernel
theorem d_M_jobs_6 : decode b_M_jobs 6 = .ok (.getfield 117, 3) := by decide +kernel
theorem d_M_jobs_9 : decode b_M_jobs 9 = .ok (.ireturn, 1) := by decide +kernel
theorem d_M_state_0 : decode b_M_state 0 = .ok (.aload_n 0, 1) := by decide +kernel
theorem d_M_state_1 : decode b_M_state 1 = .ok (.aload_n 0, 1) := by decide +kernel
theorem d_M_state_2 : decode b_M_state 2 = .ok (.iload_n 1, 1) := by decide +kernel
theorem d_M_state_3 : decode b_M_state 3 = .ok (.invokevirtual 127, 3) := by decide +kernel
theorem d_M_state_6 : decode b_M_state 6 = .ok (.ifCond .eq 7, 3) := by decide +kernel
theorem d_M_state_9 : decode b_M_state 9 = .ok (.iconst 0, 1) := by decide +kernel
theorem d_M_state_10 : decode b_M_state 10 = .ok (.goto 4, 3) := by decide +kernel
theorem d_M_state_13 : decode b_M_state 13 = .ok (.iconst 1, 1) := by decide +kernel
theorem d_M_state_14 : decode b_M_state 14 = .ok (.putfield 71, 3) := by decide +kernel
theorem d_M_state_17 : decode b_M_state 17 = .ok (.aload_n 0, 1) := by decide +kernel
theorem d_M_state_18 : decode b_M_state 18 = .ok (.getfield 71, 3) := by decide +kernel
theorem d_M_state_21 : decode b_M_state 21 = .ok (.ifCond .le 7, 3) := by decide +kernel
theorem d_M_state_24 : decode b_M_state 24 = .ok (.iconst 0, 1) := by decide +kernel
theorem d_M_state_25 : decode b_M_state 25 = .ok (.goto 9, 3) := by decide +kernel
theorem d_M_state_28 : decode b_M_state 28 = .ok (.aload_n 0, 1) := by decide +kernel
theorem d_M_state_29 : decode b_M_state 29 = .ok (.getfield 59, 3) := by decide +kernel
theorem d_M_state_32 : decode b_M_state 32 = .ok (.iload_n 1, 1) := by decide +kernel
theorem d_M_state_33 : decode b_M_state 33 = .ok (.iaload, 1) := by decide +kernel
theorem d_M_state_34 : decode b_M_state 34 = .ok (.ireturn, 1) := by decide +kernel
theorem d_M_devices_0 : decode b_M_devices 0 = .ok (.aload_n 0, 1) := by decide +kernel
theorem d_M_devices_1 : decode b_M_devices 1 = .ok (.aload_n 0, 1) := by decide +kernel
theorem d_M_devices_2 : decode b_M_devices 2 = .ok (.iload_n 1, 1) := by decide +kernel
theorem d_M_devices_3 : decode b_M_devices 3 = .ok (.invokevirtual 127, 3) := by decide +kernel
theorem d_M_devices_6 : decode b_M_devices 6 = .ok (.ifCond .ne 7, 3) := by decide +kernel
theorem d_M_devices_9 : decode b_M_devices 9 = .ok (.iconst 1, 1) := by decide +kernel
theorem d_M_devices_10 : decode b_M_devices 10 = .ok (.goto 17, 3) := by decide +kernel
theorem d_M_devices_13 : decode b_M_devices 13 = .ok (.iload_n 2, 1) := by decide +kernel
theorem d_M_devices_14 : decode b_M_devices 14 = .ok (.iconst 0, 1) := by decide +kernel
theorem d_M_devices_15 : decode b_M_devices 15 = .ok (.iconst 2, 1) := by decide +kernel
theorem d_M_devices_16 : decode b_M_devices 16 = .ok (.invokestatic 75, 3) := by decide +kernel
theorem d_M_devices_19 : decode b_M_devices 19 = .ok (.ifCond .eq 7, 3) := by decide +kernel
theorem d_M_devices_22 : decode b_M_devices 22 = .ok (.iconst 0, 1) := by decide +kernel
theorem d_M_devices_23 : decode b_M_devices 23 = .ok (.goto 4, 3) := by decide +kernel
theorem d_M_devices_26 : decode b_M_devices 26 = .ok (.iconst 2, 1) := by decide +kernel
theorem d_M_devices_27 : decode b_M_devices 27 = .ok (.putfield 71, 3) := by decide +kernel
theorem d_M_devices_30 : decode b_M_devices 30 = .ok (.aload_n 0, 1) := by decide +kernel
theorem d_M_devices_31 : decode b_M_devices 31 = .ok (.getfield 71, 3) := by decide +kernel
theorem d_M_devices_34 : decode b_M_devices 34 = .ok (.ifCond .le 7, 3) := by decide +kernel
theorem d_M_devices_37 : decode b_M_devices 37 = .ok (.iconst 0, 1) := by decide +kernel
theorem d_M_devices_38 : decode b_M_devices 38 = .ok (.goto 36, 3) := by decide +kernel
theorem d_M_devices_41 : decode b_M_devices 41 = .ok (.iload_n 2, 1) := by decide +kernel
theorem d_M_devices_42 : decode b_M_devices 42 = .ok (.ifCond .ne 12, 3) := by decide +kernel
theorem d_M_devices_45 : decode b_M_devices 45 = .ok (.aload_n 0, 1) := by decide +kernel
theorem d_M_devices_46 : decode b_M_devices 46 = .ok (.getfield 62, 3) := by decide +kernel
theorem d_M_devices_49 : decode b_M_devices 49 = .ok (.iload_n 1, 1) := by decide +kernel
theorem d_M_devices_50 : decode b_M_devices 50 = .ok (.iaload, 1) := by decide +kernel
theorem d_M_devices_51 : decode b_M_devices 51 = .ok (.goto 23, 3) := by decide +kernel
theorem d_M_devices_54 : decode b_M_devices 54 = .ok (.iload_n 2, 1) := by decide +kernel
theorem d_M_devices_55 : decode b_M_devices 55 = .ok (.iconst 1, 1) := by decide +kernel
theorem d_M_devices_56 : decode b_M_devices 56 = .ok (.if_icmp .ne 12, 3) := by decide +kernel
theorem d_M_devices_59 : decode b_M_devices 59 = .ok (.aload_n 0, 1) := by decide +kernel
theorem d_M_devices_60 : decode b_M_devices 60 = .ok (.getfield 65, 3) := by decide +kernel
theorem d_M_devices_63 : decode b_M_devices 63 = .ok (.iload_n 1, 1) := by decide +kernel
theorem d_M_devices_64 : decode b_M_devices 64 = .ok (.iaload, 1) := by decide +kernel
theorem d_M_devices_65 : decode b_M_devices 65 = .ok (.goto 9, 3) := by decide +kernel
theorem d_M_devices_68 : decode b_M_devices 68 = .ok (.aload_n 0, 1) := by decide +kernel
theorem d_M_devices_69 : decode b_M_devices 69 = .ok (.getfield 68, 3) := by decide +kernel
theorem d_M_devices_72 : decode b_M_devices 72 = .ok (.iload_n 1, 1) := by decide +kernel
theorem d_M_devices_73 : decode b_M_devices 73 = .ok (.iaload, 1) := by decide +kernel
theorem d_M_devices_74 : decode b_M_devices 74 = .ok (.ireturn, 1) := by decide +kernel
end
section
theorem d_L_put_0 : decode b_L_put 0 = .ok (.aload_n 3, 1) := by decide +kernel
theorem d_L_put_1 : decode b_L_put 1 = .ok (.iconst 0, 1) := by decide +kernel
theorem d_L_put_2 : decode b_L_put 2 = .ok (.aload_n 0, 1) := by decide +kernel
theorem d_L_put_3 : decode b_L_put 3 = .ok (.iload_n 1, 1) := by decide +kernel
theorem d_L_put_4 : decode b_L_put 4 = .ok (.iload_n 2, 1) := by decide +kernel
theorem d_L_put_5 : decode b_L_put 5 = .ok (.invokevirtual 7, 3) := by decide +kernel
theorem d_L_put_8 : decode b_L_put 8 = .ok (.i2l, 1) := by decide +kernel
theorem d_L_put_9 : decode b_L_put 9 = .ok (.lastore, 1) := by decide +kernel
theorem d_L_put_10 : decode b_L_put 10 = .ok (.goto 11, 3) := by decide +kernel
theorem d_L_put_13 : decode b_L_put 13 = .ok (.astore 4, 2) := by decide +kernel
theorem d_L_put_15 : decode b_L_put 15 = .ok (.iconst 1, 1) := by decide +kernel
theorem d_L_put_16 : decode b_L_put 16 = .ok (.ireturn, 1) := by decide +kernel
theorem d_L_put_17 : decode b_L_put 17 = .ok (.astore 4, 2) := by decide +kernel
theorem d_L_put_19 : decode b_L_put 19 = .ok (.iconst 2, 1) := by decide +kernel
theorem d_L_put_20 : decode b_L_put 20 = .ok (.ireturn, 1) := by decide +kernel
theorem d_L_put_21 : decode b_L_put 21 = .ok (.iconst 0, 1) := by decide +kernel
theorem d_L_put_22 : decode b_L_put 22 = .ok (.ireturn, 1) := by decide +kernel
theorem d_L_drop_0 : decode b_L_drop 0 = .ok (.aload_n 2, 1) := by decide +kernel
theorem d_L_drop_1 : decode b_L_drop 1 = .ok (.iconst 0, 1) := by decide +kernel
theorem d_L_drop_2 : decode b_L_drop 2 = .ok (.aload_n 0, 1) := by decide +kernel
theorem d_L_drop_3 : decode b_L_drop 3 = .ok (.iload_n 1, 1) := by decide +kernel
theorem d_L_drop_4 : decode b_L_drop 4 = .ok (.invokevirtual 17, 3) := by decide +kernel
theorem d_L_drop_7 : decode b_L_drop 7 = .ok (.i2l, 1) := by decide +kernel
theorem d_L_drop_8 : decode b_L_drop 8 = .ok (.lastore, 1) := by decide +kernel
theorem d_L_drop_9 : decode b_L_drop 9 = .ok (.goto 6, 3) := by decide +kernel
theorem d_L_drop_12 : decode b_L_drop 12 = .ok (.astore_n 3, 1) := by decide +kernel
theorem d_L_drop_13 : decode b_L_drop 13 = .ok (.iconst 1, 1) := by decide +kernel
theorem d_L_drop_14 : decode b_L_drop 14 = .ok (.ireturn, 1) := by decide +kernel
theorem d_L_drop_15 : decode b_L_drop 15 = .ok (.iconst 0, 1) := by decide +kernel
theorem d_L_drop_16 : decode b_L_drop 16 = .ok (.ireturn, 1) := by decide +kernel
theorem d_L_wish_0 : decode b_L_wish 0 = .ok (.aload_n 3, 1) := by decide +kernel
theorem d_L_wish_1 : decode b_L_wish 1 = .ok (.iconst 0, 1) := by decide +kernel
theorem d_L_wish_2 : decode b_L_wish 2 = .ok (.aload_n 0, 1) := by decide +kernel
theorem d_L_wish_3 : decode b_L_wish 3 = .ok (.iload_n 1, 1) := by decide +kernel
theorem d_L_wish_4 : decode b_L_wish 4 = .ok (.iload_n 2, 1) := by decide +kernel
theorem d_L_wish_5 : decode b_L_wish 5 = .ok (.invokevirtual 21, 3) := by decide +kernel
theorem d_L_wish_8 : decode b_L_wish 8 = .ok (.i2l, 1) := by decide +kernel
theorem d_L_wish_9 : decode b_L_wish 9 = .ok (.lastore, 1) := by decide +kernel
theorem d_L_wish_10 : decode b_L_wish 10 = .ok (.goto 11, 3) := by decide +kernel
theorem d_L_wish_13 : decode b_L_wish 13 = .ok (.astore 4, 2) := by decide +kernel
theorem d_L_wish_15 : decode b_L_wish 15 = .ok (.iconst 1, 1) := by decide +kernel
theorem d_L_wish_16 : decode b_L_wish 16 = .ok (.ireturn, 1) := by decide +kernel
theorem d_L_wish_17 : decode b_L_wish 17 = .ok (.astore 4, 2) := by decide +kernel
theorem d_L_wish_19 : decode b_L_wish 19 = .ok (.iconst 2, 1) := by decide +kernel
theorem d_L_wish_20 : decode b_L_wish 20 = .ok (.ireturn, 1) := by decide +kernel
theorem d_L_wish_21 : decode b_L_wish 21 = .ok (.iconst 0, 1) := by decide +kernel
theorem d_L_wish_22 : decode b_L_wish 22 = .ok (.ireturn, 1) := by decide +kernel
theorem d_L_report_0 : decode b_L_report 0 = .ok (.aload_n 3, 1) := by decide +kernel
theorem d_L_report_1 : decode b_L_report 1 = .ok (.iconst 0, 1) := by decide +kernel
theorem d_L_report_2 : decode b_L_report 2 = .ok (.aload_n 0, 1) := by decide +kernel
theorem d_L_report_3 : decode b_L_report 3 = .ok (.iload_n 1, 1) := by decide +kernel
theorem d_L_report_4 : decode b_L_report 4 = .ok (.iload_n 2, 1) := by decide +kernel
theorem d_L_report_5 : decode b_L_report 5 = .ok (.invokevirtual 26, 3) := by decide +kernel
theorem d_L_report_8 : decode b_L_report 8 = .ok (.i2l, 1) := by decide +kernel
theorem d_L_report_9 : decode b_L_report 9 = .ok (.lastore, 1) := by decide +kernel
theorem d_L_report_10 : decode b_L_report 10 = .ok (.goto 15, 3) := by decide +kernel
theorem d_L_report_13 : decode b_L_report 13 = .ok (.astore 4, 2) := by decide +kernel
theorem d_L_report_15 : decode b_L_report 15 = .ok (.iconst 1, 1) := by decide +kernel
theorem d_L_report_16 : decode b_L_report 16 = .ok (.ireturn, 1) := by decide +kernel
theorem d_L_report_17 : decode b_L_report 17 = .ok (.astore 4, 2) := by decide +kernel
theorem d_L_report_19 : decode b_L_report 19 = .ok (.iconst 2, 1) := by decide +kernel
theorem d_L_report_20 : decode b_L_report 20 = .ok (.ireturn, 1) := by decide +kernel
theorem d_L_report_21 : decode b_L_report 21 = .ok (.astore 4, 2) := by decide +kernel
theorem d_L_report_23 : decode b_L_report 23 = .ok (.iconst 3, 1) := by decide +kernel
theorem d_L_report_24 : decode b_L_report 24 = .ok (.ireturn, 1) := by decide +kernel
theorem d_L_report_25 : decode b_L_report 25 = .ok (.iconst 0, 1) := by decide +kernel
theorem d_L_report_26 : decode b_L_report 26 = .ok (.ireturn, 1) := by decide +kernel
theorem d_L_obey_0 : decode b_L_obey 0 = .ok (.aload_n 2, 1) := by decide +kernel
theorem d_L_obey_1 : decode b_L_obey 1 = .ok (.iconst 0, 1) := by decide +kernel
theorem d_L_obey_2 : decode b_L_obey 2 = .ok (.aload_n 0, 1) := by decide +kernel
theorem d_L_obey_3 : decode b_L_obey 3 = .ok (.iload_n 1, 1) := by decide +kernel
theorem d_L_obey_4 : decode b_L_obey 4 = .ok (.invokevirtual 29, 3) := by decide +kernel
theorem d_L_obey_7 : decode b_L_obey 7 = .ok (.i2l, 1) := by decide +kernel
theorem d_L_obey_8 : decode b_L_obey 8 = .ok (.lastore, 1) := by decide +kernel
theorem d_L_obey_9 : decode b_L_obey 9 = .ok (.goto 9, 3) := by decide +kernel
theorem d_L_obey_12 : decode b_L_obey 12 = .ok (.astore_n 3, 1) := by decide +kernel
theorem d_L_obey_13 : decode b_L_obey 13 = .ok (.iconst 1, 1) := by decide +kernel
theorem d_L_obey_14 : decode b_L_obey 14 = .ok (.ireturn, 1) := by decide +kernel
theorem d_L_obey_15 : decode b_L_obey 15 = .ok (.astore_n 3, 1) := by decide +kernel
theorem d_L_obey_16 : decode b_L_obey 16 = .ok (.iconst 2, 1) := by decide +kernel
theorem d_L_obey_17 : decode b_L_obey 17 = .ok (.ireturn, 1) := by decide +kernel
theorem d_L_obey_18 : decode b_L_obey 18 = .ok (.iconst 0, 1) := by decide +kernel
theorem d_L_obey_19 : decode b_L_obey 19 = .ok (.ireturn, 1) := by decide +kernel
theorem d_L_refuse_0 : decode b_L_refuse 0 = .ok (.aload 4, 2) := by decide +kernel
theorem d_L_refuse_2 : decode b_L_refuse 2 = .ok (.iconst 0, 1) := by decide +kernel
theorem d_L_refuse_3 : decode b_L_refuse 3 = .ok (.aload_n 0, 1) := by decide +kernel
theorem d_L_refuse_4 : decode b_L_refuse 4 = .ok (.iload_n 1, 1) := by decide +kernel
theorem d_L_refuse_5 : decode b_L_refuse 5 = .ok (.iload_n 2, 1) := by decide +kernel
theorem d_L_refuse_6 : decode b_L_refuse 6 = .ok (.iload_n 3, 1) := by decide +kernel
theorem d_L_refuse_7 : decode b_L_refuse 7 = .ok (.invokevirtual 32, 3) := by decide +kernel
theorem d_L_refuse_10 : decode b_L_refuse 10 = .ok (.i2l, 1) := by decide +kernel
theorem d_L_refuse_11 : decode b_L_refuse 11 = .ok (.lastore, 1) := by decide +kernel
theorem d_L_refuse_12 : decode b_L_refuse 12 = .ok (.goto 15, 3) := by decide +kernel
theorem d_L_refuse_15 : decode b_L_refuse 15 = .ok (.astore 5, 2) := by decide +kernel
theorem d_L_refuse_17 : decode b_L_refuse 17 = .ok (.iconst 1, 1) := by decide +kernel
theorem d_L_refuse_18 : decode b_L_refuse 18 = .ok (.ireturn, 1) := by decide +kernel
theorem d_L_refuse_19 : decode b_L_refuse 19 = .ok (.astore 5, 2) := by decide +kernel
theorem d_L_refuse_21 : decode b_L_refuse 21 = .ok (.iconst 2, 1) := by decide +kernel
theorem d_L_refuse_22 : decode b_L_refuse 22 = .ok (.ireturn, 1) := by decide +kernel
theorem d_L_refuse_23 : decode b_L_refuse 23 = .ok (.astore 5, 2) := by decide +kernel
theorem d_L_refuse_25 : decode b_L_refuse 25 = .ok (.iconst 3, 1) := by decide +kernel
theorem d_L_refuse_26 : decode b_L_refuse 26 = .ok (.ireturn, 1) := by decide +kernel
theorem d_L_refuse_27 : decode b_L_refuse 27 = .ok (.iconst 0, 1) := by decide +kernel
theorem d_L_refuse_28 : decode b_L_refuse 28 = .ok (.ireturn, 1) := by decide +kernel
theorem d_L_sleep_0 : decode b_L_sleep 0 = .ok (.aload_n 2, 1) := by decide +kernel
theorem d_L_sleep_1 : decode b_L_sleep 1 = .ok (.iconst 0, 1) := by decide +kernel
theorem d_L_sleep_2 : decode b_L_sleep 2 = .ok (.aload_n 0, 1) := by decide +kernel
theorem d_L_sleep_3 : decode b_L_sleep 3 = .ok (.iload_n 1, 1) := by decide +kernel
theorem d_L_sleep_4 : decode b_L_sleep 4 = .ok (.invokevirtual 36, 3) := by decide +kernel
theorem d_L_sleep_7 : decode b_L_sleep 7 = .ok (.ifCond .eq 7, 3) := by decide +kernel
theorem d_L_sleep_10 : decode b_L_sleep 10 = .ok (.lconst 1, 1) := by decide +kernel
theorem d_L_sleep_11 : decode b_L_sleep 11 = .ok (.goto 4, 3) := by decide +kernel
theorem d_L_sleep_14 : decode b_L_sleep 14 = .ok (.lconst 0, 1) := by decide +kernel
theorem d_L_sleep_15 : decode b_L_sleep 15 = .ok (.lastore, 1) := by decide +kernel
theorem d_L_sleep_16 : decode b_L_sleep 16 = .ok (.goto 6, 3) := by decide +kernel
theorem d_L_sleep_19 : decode b_L_sleep 19 = .ok (.astore_n 3, 1) := by decide +kernel
theorem d_L_sleep_20 : decode b_L_sleep 20 = .ok (.iconst 1, 1) := by decide +kernel
theorem d_L_sleep_21 : decode b_L_sleep 21 = .ok (.ireturn, 1) := by decide +kernel
theorem d_L_sleep_22 : decode b_L_sleep 22 = .ok (.iconst 0, 1) := by decide +kernel
theorem d_L_sleep_23 : decode b_L_sleep 23 = .ok (.ireturn, 1) := by decide +kernel
theorem d_L_wake_0 : decode b_L_wake 0 = .ok (.aload_n 2, 1) := by decide +kernel
theorem d_L_wake_1 : decode b_L_wake 1 = .ok (.iconst 0, 1) := by decide +kernel
theorem d_L_wake_2 : decode b_L_wake 2 = .ok (.aload_n 0, 1) := by decide +kernel
theorem d_L_wake_3 : decode b_L_wake 3 = .ok (.iload_n 1, 1) := by decide +kernel
theorem d_L_wake_4 : decode b_L_wake 4 = .ok (.invokevirtual 40, 3) := by decide +kernel
theorem d_L_wake_7 : decode b_L_wake 7 = .ok (.i2l, 1) := by decide +kernel
theorem d_L_wake_8 : decode b_L_wake 8 = .ok (.lastore, 1) := by decide +kernel
theorem d_L_wake_9 : decode b_L_wake 9 = .ok (.goto 6, 3) := by decide +kernel
theorem d_L_wake_12 : decode b_L_wake 12 = .ok (.astore_n 3, 1) := by decide +kernel
theorem d_L_wake_13 : decode b_L_wake 13 = .ok (.iconst 1, 1) := by decide +kernel
theorem d_L_wake_14 : decode b_L_wake 14 = .ok (.ireturn, 1) := by decide +kernel
theorem d_L_wake_15 : decode b_L_wake 15 = .ok (.iconst 0, 1) := by decide +kernel
theorem d_L_wake_16 : decode b_L_wake 16 = .ok (.ireturn, 1) := by decide +kernel
theorem d_L_setGroup_0 : decode b_L_setGroup 0 = .ok (.aload 5, 2) := by decide +kernel
theorem d_L_setGroup_2 : decode b_L_setGroup 2 = .ok (.iconst 0, 1) := by decide +kernel
theorem d_L_setGroup_3 : decode b_L_setGroup 3 = .ok (.aload_n 0, 1) := by decide +kernel
theorem d_L_setGroup_4 : decode b_L_setGroup 4 = .ok (.iload_n 1, 1) := by decide +kernel
theorem d_L_setGroup_5 : decode b_L_setGroup 5 = .ok (.iload_n 2, 1) := by decide +kernel
theorem d_L_setGroup_6 : decode b_L_setGroup 6 = .ok (.iload_n 3, 1) := by decide +kernel
theorem d_L_setGroup_7 : decode b_L_setGroup 7 = .ok (.iload 4, 2) := by decide +kernel
theorem d_L_setGroup_9 : decode b_L_setGroup 9 = .ok (.invokevirtual 43, 3) := by decide +kernel
theorem d_L_setGroup_12 : decode b_L_setGroup 12 = .ok (.i2l, 1) := by decide +kernel
theorem d_L_setGroup_13 : decode b_L_setGroup 13 = .ok (.lastore, 1) := by decide +kernel
theorem d_L_setGroup_14 : decode b_L_setGroup 14 = .ok (.goto 11, 3) := by decide +kernel
theorem d_L_setGroup_17 : decode b_L_setGroup 17 = .ok (.astore 6, 2) := by decide +kernel
theorem d_L_setGroup_19 : decode b_L_setGroup 19 = .ok (.iconst 1, 1) := by decide +kernel
theorem d_L_setGroup_20 : decode b_L_setGroup 20 = .ok (.ireturn, 1) := by decide +kernel
theorem d_L_setGroup_21 : decode b_L_setGroup 21 = .ok (.astore 6, 2) := by decide +kernel
theorem d_L_setGroup_23 : decode b_L_setGroup 23 = .ok (.iconst 2, 1) := by decide +kernel
theorem d_L_setGroup_24 : decode b_L_setGroup 24 = .ok (.ireturn, 1) := by decide +kernel
theorem d_L_setGroup_25 : decode b_L_setGroup 25 = .ok (.iconst 0, 1) := by decide +kernel
theorem d_L_setGroup_26 : decode b_L_setGroup 26 = .ok (.ireturn, 1) := by decide +kernel
theorem d_L_addJob_0 : decode b_L_addJob 0 = .ok (.aload 6, 2) := by decide +kernel
theorem d_L_addJob_2 : decode b_L_addJob 2 = .ok (.iconst 0, 1) := by decide +kernel
theorem d_L_addJob_3 : decode b_L_addJob 3 = .ok (.aload_n 0, 1) := by decide +kernel
theorem d_L_addJob_4 : decode b_L_addJob 4 = .ok (.iload_n 1, 1) := by decide +kernel
theorem d_L_addJob_5 : decode b_L_addJob 5 = .ok (.iload_n 2, 1) := by decide +kernel
theorem d_L_addJob_6 : decode b_L_addJob 6 = .ok (.iload_n 3, 1) := by decide +kernel
theorem d_L_addJob_7 : decode b_L_addJob 7 = .ok (.iload 4, 2) := by decide +kernel
theorem d_L_addJob_9 : decode b_L_addJob 9 = .ok (.iload 5, 2) := by decide +kernel
theorem d_L_addJob_11 : decode b_L_addJob 11 = .ok (.invokevirtual 47, 3) := by decide +kernel
theorem d_L_addJob_14 : decode b_L_addJob 14 = .ok (.i2l, 1) := by decide +kernel
theorem d_L_addJob_15 : decode b_L_addJob 15 = .ok (.lastore, 1) := by decide +kernel
theorem d_L_addJob_16 : decode b_L_addJob 16 = .ok (.goto 15, 3) := by decide +kernel
theorem d_L_addJob_19 : decode b_L_addJob 19 = .ok (.astore 7, 2) := by decide +kernel
theorem d_L_addJob_21 : decode b_L_addJob 21 = .ok (.iconst 1, 1) := by decide +kernel
theorem d_L_addJob_22 : decode b_L_addJob 22 = .ok (.ireturn, 1) := by decide +kernel
theorem d_L_addJob_23 : decode b_L_addJob 23 = .ok (.astore 7, 2) := by decide +kernel
theorem d_L_addJob_25 : decode b_L_addJob 25 = .ok (.iconst 2, 1) := by decide +kernel
theorem d_L_addJob_26 : decode b_L_addJob 26 = .ok (.ireturn, 1) := by decide +kernel
theorem d_L_addJob_27 : decode b_L_addJob 27 = .ok (.astore 7, 2) := by decide +kernel
theorem d_L_addJob_29 : decode b_L_addJob 29 = .ok (.iconst 3, 1) := by decide +kernel
theorem d_L_addJob_30 : decode b_L_addJob 30 = .ok (.ireturn, 1) := by decide +kernel
theorem d_L_addJob_31 : decode b_L_addJob 31 = .ok (.iconst 0, 1) := by decide +kernel
theorem d_L_addJob_32 : decode b_L_addJob 32 = .ok (.ireturn, 1) := by decide +kernel
theorem d_L_cancel_0 : decode b_L_cancel 0 = .ok (.aload_n 2, 1) := by decide +kernel
theorem d_L_cancel_1 : decode b_L_cancel 1 = .ok (.iconst 0, 1) := by decide +kernel
theorem d_L_cancel_2 : decode b_L_cancel 2 = .ok (.aload_n 0, 1) := by decide +kernel
theorem d_L_cancel_3 : decode b_L_cancel 3 = .ok (.iload_n 1, 1) := by decide +kernel
theorem d_L_cancel_4 : decode b_L_cancel 4 = .ok (.invokevirtual 51, 3) := by decide +kernel
theorem d_L_cancel_7 : decode b_L_cancel 7 = .ok (.i2l, 1) := by decide +kernel
theorem d_L_cancel_8 : decode b_L_cancel 8 = .ok (.lastore, 1) := by decide +kernel
theorem d_L_cancel_9 : decode b_L_cancel 9 = .ok (.goto 9, 3) := by decide +kernel
theorem d_L_cancel_12 : decode b_L_cancel 12 = .ok (.astore_n 3, 1) := by decide +kernel
theorem d_L_cancel_13 : decode b_L_cancel 13 = .ok (.iconst 1, 1) := by decide +kernel
theorem d_L_cancel_14 : decode b_L_cancel 14 = .ok (.ireturn, 1) := by decide +kernel
theorem d_L_cancel_15 : decode b_L_cancel 15 = .ok (.astore_n 3, 1) := by decide +kernel
theorem d_L_cancel_16 : decode b_L_cancel 16 = .ok (.iconst 2, 1) := by decide +kernel
theorem d_L_cancel_17 : decode b_L_cancel 17 = .ok (.ireturn, 1) := by decide +kernel
theorem d_L_cancel_18 : decode b_L_cancel 18 = .ok (.iconst 0, 1) := by decide +kernel
theorem d_L_cancel_19 : decode b_L_cancel 19 = .ok (.ireturn, 1) := by decide +kernel
theorem d_L_version_0 : decode b_L_version 0 = .ok (.aload_n 2, 1) := by decide +kernel
theorem d_L_version_1 : decode b_L_version 1 = .ok (.iconst 0, 1) := by decide +kernel
theorem d_L_version_2 : decode b_L_version 2 = .ok (.aload_n 0, 1) := by decide +kernel
theorem d_L_version_3 : decode b_L_version 3 = .ok (.iload_n 1, 1) := by decide +kernel
theorem d_L_version_4 : decode b_L_version 4 = .ok (.invokevirtual 54, 3) := by decide +kernel
theorem d_L_version_7 : decode b_L_version 7 = .ok (.i2l, 1) := by decide +kernel
theorem d_L_version_8 : decode b_L_version 8 = .ok (.lastore, 1) := by decide +kernel
theorem d_L_version_9 : decode b_L_version 9 = .ok (.goto 6, 3) := by decide +kernel
theorem d_L_version_12 : decode b_L_version 12 = .ok (.astore_n 3, 1) := by decide +kernel
theorem d_L_version_13 : decode b_L_version 13 = .ok (.iconst 1, 1) := by decide +kernel
theorem d_L_version_14 : decode b_L_version 14 = .ok (.ireturn, 1) := by decide +kernel
theorem d_L_version_15 : decode b_L_version 15 = .ok (.iconst 0, 1) := by decide +kernel
theorem d_L_version_16 : decode b_L_version 16 = .ok (.ireturn, 1) := by decide +kernel
theorem d_L_heard_0 : decode b_L_heard 0 = .ok (.aload_n 2, 1) := by decide +kernel
theorem d_L_heard_1 : decode b_L_heard 1 = .ok (.iconst 0, 1) := by decide +kernel
theorem d_L_heard_2 : decode b_L_heard 2 = .ok (.aload_n 0, 1) := by decide +kernel
theorem d_L_heard_3 : decode b_L_heard 3 = .ok (.iload_n 1, 1) := by decide +kernel
theorem d_L_heard_4 : decode b_L_heard 4 = .ok (.invokevirtual 57, 3) := by decide +kernel
theorem d_L_heard_7 : decode b_L_heard 7 = .ok (.i2l, 1) := by decide +kernel
theorem d_L_heard_8 : decode b_L_heard 8 = .ok (.lastore, 1) := by decide +kernel
theorem d_L_heard_9 : decode b_L_heard 9 = .ok (.goto 6, 3) := by decide +kernel
theorem d_L_heard_12 : decode b_L_heard 12 = .ok (.astore_n 3, 1) := by decide +kernel
theorem d_L_heard_13 : decode b_L_heard 13 = .ok (.iconst 1, 1) := by decide +kernel
theorem d_L_heard_14 : decode b_L_heard 14 = .ok (.ireturn, 1) := by decide +kernel
theorem d_L_heard_15 : decode b_L_heard 15 = .ok (.iconst 0, 1) := by decide +kernel
theorem d_L_heard_16 : decode b_L_heard 16 = .ok (.ireturn, 1) := by decide +kernel
theorem d_L_wished_0 : decode b_L_wished 0 = .ok (.aload_n 3, 1) := by decide +kernel
theorem d_L_wished_1 : decode b_L_wished 1 = .ok (.iconst 0, 1) := by decide +kernel
theorem d_L_wished_2 : decode b_L_wished 2 = .ok (.aload_n 0, 1) := by decide +kernel
theorem d_L_wished_3 : decode b_L_wished 3 = .ok (.iload_n 1, 1) := by decide +kernel
theorem d_L_wished_4 : decode b_L_wished 4 = .ok (.iload_n 2, 1) := by decide +kernel
theorem d_L_wished_5 : decode b_L_wished 5 = .ok (.invokevirtual 60, 3) := by decide +kernel
theorem d_L_wished_8 : decode b_L_wished 8 = .ok (.i2l, 1) := by decide +kernel
theorem d_L_wished_9 : decode b_L_wished 9 = .ok (.lastore, 1) := by decide +kernel
theorem d_L_wished_10 : decode b_L_wished 10 = .ok (.goto 7, 3) := by decide +kernel
theorem d_L_wished_13 : decode b_L_wished 13 = .ok (.astore 4, 2) := by decide +kernel
theorem d_L_wished_15 : decode b_L_wished 15 = .ok (.iconst 1, 1) := by decide +kernel
theorem d_L_wished_16 : decode b_L_wished 16 = .ok (.ireturn, 1) := by decide +kernel
theorem d_L_wished_17 : decode b_L_wished 17 = .ok (.iconst 0, 1) := by decide +kernel
theorem d_L_wished_18 : decode b_L_wished 18 = .ok (.ireturn, 1) := by decide +kernel
theorem d_L_reported_0 : decode b_L_reported 0 = .ok (.aload_n 3, 1) := by decide +kernel
theorem d_L_reported_1 : decode b_L_reported 1 = .ok (.iconst 0, 1) := by decide +kernel
theorem d_L_reported_2 : decode b_L_reported 2 = .ok (.aload_n 0, 1) := by decide +kernel
theorem d_L_reported_3 : decode b_L_reported 3 = .ok (.iload_n 1, 1) := by decide +kernel
theorem d_L_reported_4 : decode b_L_reported 4 = .ok (.iload_n 2, 1) := by decide +kernel
theorem d_L_reported_5 : decode b_L_reported 5 = .ok (.invokevirtual 63, 3) := by decide +kernel
theorem d_L_reported_8 : decode b_L_reported 8 = .ok (.i2l, 1) := by decide +kernel
theorem d_L_reported_9 : decode b_L_reported 9 = .ok (.lastore, 1) := by decide +kernel
theorem d_L_reported_10 : decode b_L_reported 10 = .ok (.goto 7, 3) := by decide +kernel
theorem d_L_reported_13 : decode b_L_reported 13 = .ok (.astore 4, 2) := by decide +kernel
theorem d_L_reported_15 : decode b_L_reported 15 = .ok (.iconst 1, 1) := by decide +kernel
theorem d_L_reported_16 : decode b_L_reported 16 = .ok (.ireturn, 1) := by decide +kernel
theorem d_L_reported_17 : decode b_L_reported 17 = .ok (.iconst 0, 1) := by decide +kernel
theorem d_L_reported_18 : decode b_L_reported 18 = .ok (.ireturn, 1) := by decide +kernel
theorem d_L_why_0 : decode b_L_why 0 = .ok (.aload_n 3, 1) := by decide +kernel
theorem d_L_why_1 : decode b_L_why 1 = .ok (.iconst 0, 1) := by decide +kernel
theorem d_L_why_2 : decode b_L_why 2 = .ok (.aload_n 0, 1) := by decide +kernel
theorem d_L_why_3 : decode b_L_why 3 = .ok (.iload_n 1, 1) := by decide +kernel
theorem d_L_why_4 : decode b_L_why 4 = .ok (.iload_n 2, 1) := by decide +kernel
theorem d_L_why_5 : decode b_L_why 5 = .ok (.invokevirtual 66, 3) := by decide +kernel
theorem d_L_why_8 : decode b_L_why 8 = .ok (.i2l, 1) := by decide +kernel
theorem d_L_why_9 : decode b_L_why 9 = .ok (.lastore, 1) := by decide +kernel
theorem d_L_why_10 : decode b_L_why 10 = .ok (.goto 7, 3) := by decide +kernel
theorem d_L_why_13 : decode b_L_why 13 = .ok (.astore 4, 2) := by decide +kernel
theorem d_L_why_15 : decode b_L_why 15 = .ok (.iconst 1, 1) := by decide +kernel
theorem d_L_why_16 : decode b_L_why 16 = .ok (.ireturn, 1) := by decide +kernel
theorem d_L_why_17 : decode b_L_why 17 = .ok (.iconst 0, 1) := by decide +kernel
theorem d_L_why_18 : decode b_L_why 18 = .ok (.ireturn, 1) := by decide +kernel
theorem d_L_differences_0 : decode b_L_differences 0 = .ok (.aload_n 2, 1) := by decide +kernel
theorem d_L_differences_1 : decode b_L_differences 1 = .ok (.iconst 0, 1) := by decide +kernel
theorem d_L_differences_2 : decode b_L_differences 2 = .ok (.aload_n 0, 1) := by decide +kernel
theorem d_L_differences_3 : decode b_L_differences 3 = .ok (.iload_n 1, 1) := by decide +kernel
theorem d_L_differences_4 : decode b_L_differences 4 = .ok (.invokevirtual 69, 3) := by decide +kernel
theorem d_L_differences_7 : decode b_L_differences 7 = .ok (.i2l, 1) := by decide +kernel
theorem d_L_differences_8 : decode b_L_differences 8 = .ok (.lastore, 1) := by decide +kernel
theorem d_L_differences_9 : decode b_L_differences 9 = .ok (.goto 6, 3) := by decide +kernel
theorem d_L_differences_12 : decode b_L_differences 12 = .ok (.astore_n 3, 1) := by decide +kernel
theorem d_L_differences_13 : decode b_L_differences 13 = .ok (.iconst 1, 1) := by decide +kernel
theorem d_L_differences_14 : decode b_L_differences 14 = .ok (.ireturn, 1) := by decide +kernel
theorem d_L_differences_15 : decode b_L_differences 15 = .ok (.iconst 0, 1) := by decide +kernel
theorem d_L_differences_16 : decode b_L_differences 16 = .ok (.ireturn, 1) := by decide +kernel
theorem d_L_differencesAnew_0 : decode b_L_differencesAnew 0 = .ok (.aload_n 2, 1) := by decide +kernel
theorem d_L_differencesAnew_1 : decode b_L_differencesAnew 1 = .ok (.iconst 0, 1) := by decide +kernel
theorem d_L_differencesAnew_2 : decode b_L_differencesAnew 2 = .ok (.aload_n 0, 1) := by decide +kernel
theorem d_L_differencesAnew_3 : decode b_L_differencesAnew 3 = .ok (.iload_n 1, 1) := by decide +kernel
theorem d_L_differencesAnew_4 : decode b_L_differencesAnew 4 = .ok (.invokevirtual 72, 3) := by decide +kernel
theorem d_L_differencesAnew_7 : decode b_L_differencesAnew 7 = .ok (.i2l, 1) := by decide +kernel
theorem d_L_differencesAnew_8 : decode b_L_differencesAnew 8 = .ok (.lastore, 1) := by decide +kernel
theorem d_L_differencesAnew_9 : decode b_L_differencesAnew 9 = .ok (.goto 6, 3) := by decide +kernel
theorem d_L_differencesAnew_12 : decode b_L_differencesAnew 12 = .ok (.astore_n 3, 1) := by decide +kernel
theorem d_L_differencesAnew_13 : decode b_L_differencesAnew 13 = .ok (.iconst 1, 1) := by decide +kernel
theorem d_L_differencesAnew_14 : decode b_L_differencesAnew 14 = .ok (.ireturn, 1) := by decide +kernel
theorem d_L_differencesAnew_15 : decode b_L_differencesAnew 15 = .ok (.iconst 0, 1) := by decide +kernel
theorem d_L_differencesAnew_16 : decode b_L_differencesAnew 16 = .ok (.ireturn, 1) := by decide +kernel
theorem d_L_members_0 : decode b_L_members 0 = .ok (.aload_n 2, 1) := by decide +kernel
theorem d_L_members_1 : decode b_L_members 1 = .ok (.iconst 0, 1) := by decide +kernel
theorem d_L_members_2 : decode b_L_members 2 = .ok (.aload_n 0, 1) := by decide +kernel
theorem d_L_members_3 : decode b_L_members 3 = .ok (.iload_n 1, 1) := by decide +kernel
theorem d_L_members_4 : decode b_L_members 4 = .ok (.invokevirtual 75, 3) := by decide +kernel
theorem d_L_members_7 : decode b_L_members 7 = .ok (.i2l, 1) := by decide +kernel
theorem d_L_members_8 : decode b_L_members 8 = .ok (.lastore, 1) := by decide +kernel
theorem d_L_members_9 : decode b_L_members 9 = .ok (.goto 6, 3) := by decide +kernel
theorem d_L_members_12 : decode b_L_members 12 = .ok (.astore_n 3, 1) := by decide +kernel
theorem d_L_members_13 : decode b_L_members 13 = .ok (.iconst 1, 1) := by decide +kernel
theorem d_L_members_14 : decode b_L_members 14 = .ok (.ireturn, 1) := by decide +kernel
theorem d_L_members_15 : decode b_L_members 15 = .ok (.iconst 0, 1) := by decide +kernel
theorem d_L_members_16 : decode b_L_members 16 = .ok (.ireturn, 1) := by decide +kernel
theorem d_L_state_0 : decode b_L_state 0 = .ok (.aload_n 2, 1) := by decide +kernel
theorem d_L_state_1 : decode b_L_state 1 = .ok (.iconst 0, 1) := by decide +kernel
theorem d_L_state_2 : decode b_L_state 2 = .ok (.aload_n 0, 1) := by decide +kernel
theorem d_L_state_3 : decode b_L_state 3 = .ok (.iload_n 1, 1) := by decide +kernel
theorem d_L_state_4 : decode b_L_state 4 = .ok (.invokevirtual 78, 3) := by decide +kernel
theorem d_L_state_7 : decode b_L_state 7 = .ok (.i2l, 1) := by decide +kernel
theorem d_L_state_8 : decode b_L_state 8 = .ok (.lastore, 1) := by decide +kernel
theorem d_L_state_9 : decode b_L_state 9 = .ok (.goto 6, 3) := by decide +kernel
theorem d_L_state_12 : decode b_L_state 12 = .ok (.astore_n 3, 1) := by decide +kernel
theorem d_L_state_13 : decode b_L_state 13 = .ok (.iconst 1, 1) := by decide +kernel
theorem d_L_state_14 : decode b_L_state 14 = .ok (.ireturn, 1) := by decide +kernel
theorem d_L_state_15 : decode b_L_state 15 = .ok (.iconst 0, 1) := by decide +kernel
theorem d_L_state_16 : decode b_L_state 16 = .ok (.ireturn, 1) := by decide +kernel
theorem d_L_devices_0 : decode b_L_devices 0 = .ok (.aload_n 3, 1) := by decide +kernel
theorem d_L_devices_1 : decode b_L_devices 1 = .ok (.iconst 0, 1) := by decide +kernel
theorem d_L_devices_2 : decode b_L_devices 2 = .ok (.aload_n 0, 1) := by decide +kernel
theorem d_L_devices_3 : decode b_L_devices 3 = .ok (.iload_n 1, 1) := by decide +kernel
theorem d_L_devices_4 : decode b_L_devices 4 = .ok (.iload_n 2, 1) := by decide +kernel
theorem d_L_devices_5 : decode b_L_devices 5 = .ok (.invokevirtual 81, 3) := by decide +kernel
theorem d_L_devices_8 : decode b_L_devices 8 = .ok (.i2l, 1) := by decide +kernel
theorem d_L_devices_9 : decode b_L_devices 9 = .ok (.lastore, 1) := by decide +kernel
theorem d_L_devices_10 : decode b_L_devices 10 = .ok (.goto 11, 3) := by decide +kernel
theorem d_L_devices_13 : decode b_L_devices 13 = .ok (.astore 4, 2) := by decide +kernel
theorem d_L_devices_15 : decode b_L_devices 15 = .ok (.iconst 1, 1) := by decide +kernel
theorem d_L_devices_16 : decode b_L_devices 16 = .ok (.ireturn, 1) := by decide +kernel
theorem d_L_devices_17 : decode b_L_devices 17 = .ok (.astore 4, 2) := by decide +kernel
theorem d_L_devices_19 : decode b_L_devices 19 = .ok (.iconst 2, 1) := by decide +kernel
theorem d_L_devices_20 : decode b_L_devices 20 = .ok (.ireturn, 1) := by decide +kernel
theorem d_L_devices_21 : decode b_L_devices 21 = .ok (.iconst 0, 1) := by decide +kernel
theorem d_L_devices_22 : decode b_L_devices 22 = .ok (.ireturn, 1) := by decide +kernel
theorem d_law_0 : decode code 0 = .ok (.new 8, 3) := by decide +kernel
theorem d_law_3 : decode code 3 = .ok (.dup, 1) := by decide +kernel
theorem d_law_4 : decode code 4 = .ok (.invokespecial 84, 3) := by decide +kernel
theorem d_law_7 : decode code 7 = .ok (.astore_n 1, 1) := by decide +kernel
theorem d_law_8 : decode code 8 = .ok (.new 85, 3) := by decide +kernel
theorem d_law_11 : decode code 11 = .ok (.dup, 1) := by decide +kernel
theorem d_law_12 : decode code 12 = .ok (.invokespecial 87, 3) := by decide +kernel
theorem d_law_15 : decode code 15 = .ok (.astore_n 2, 1) := by decide +kernel
theorem d_law_16 : decode code 16 = .ok (.iconst 1, 1) := by decide +kernel
theorem d_law_17 : decode code 17 = .ok (.newarray .long, 2) := by decide +kernel
theorem d_law_19 : decode code 19 = .ok (.astore_n 3, 1) := by decide +kernel
theorem d_law_20 : decode code 20 = .ok (.iconst 0, 1) := by decide +kernel
theorem d_law_21 : decode code 21 = .ok (.istore 4, 2) := by decide +kernel
theorem d_law_23 : decode code 23 = .ok (.iload 4, 2) := by decide +kernel
theorem d_law_25 : decode code 25 = .ok (.aload_n 0, 1) := by decide +kernel
theorem d_law_26 : decode code 26 = .ok (.arraylength, 1) := by decide +kernel
theorem d_law_27 : decode code 27 = .ok (.bipush 6, 2) := by decide +kernel
theorem d_law_29 : decode code 29 = .ok (.isub, 1) := by decide +kernel
theorem d_law_30 : decode code 30 = .ok (.if_icmp .gt 1525, 3) := by decide +kernel
theorem d_law_33 : decode code 33 = .ok (.aload_n 0, 1) := by decide +kernel
theorem d_law_34 : decode code 34 = .ok (.iload 4, 2) := by decide +kernel
theorem d_law_36 : decode code 36 = .ok (.iaload, 1) := by decide +kernel
theorem d_law_37 : decode code 37 = .ok (.bipush 31, 2) := by decide +kernel
theorem d_law_39 : decode code 39 = .ok (.iand, 1) := by decide +kernel
theorem d_law_40 : decode code 40 = .ok (.tableswitch 1509 0 22 #[108, 176, 232, 300, 368, 424, 504, 567, 623, 715, 819, 832, 888, 944, 1000, 1068, 1136, 1204, 1260, 1316, 1372, 1385, 1441], 108) := by decide +kernel
theorem d_law_148 : decode code 148 = .ok (.aload_n 1, 1) := by decide +kernel
theorem d_law_149 : decode code 149 = .ok (.aload_n 0, 1) := by decide +kernel
theorem d_law_150 : decode code 150 = .ok (.iload 4, 2) := by decide +kernel
theorem d_law_152 : decode code 152 = .ok (.iconst 1, 1) := by decide +kernel
theorem d_law_153 : decode code 153 = .ok (.iadd, 1) := by decide +kernel
theorem d_law_154 : decode code 154 = .ok (.iaload, 1) := by decide +kernel
theorem d_law_155 : decode code 155 = .ok (.aload_n 0, 1) := by decide +kernel
theorem d_law_156 : decode code 156 = .ok (.iload 4, 2) := by decide +kernel
theorem d_law_158 : decode code 158 = .ok (.iconst 2, 1) := by decide +kernel
theorem d_law_159 : decode code 159 = .ok (.iadd, 1) := by decide +kernel
theorem d_law_160 : decode code 160 = .ok (.iaload, 1) := by decide +kernel
theorem d_law_161 : decode code 161 = .ok (.aload_n 3, 1) := by decide +kernel
theorem d_law_162 : decode code 162 = .ok (.invokestatic 88, 3) := by decide +kernel
theorem d_law_165 : decode code 165 = .ok (.istore 5, 2) := by decide +kernel
theorem d_law_167 : decode code 167 = .ok (.aload_n 2, 1) := by decide +kernel
theorem d_law_168 : decode code 168 = .ok (.aload_n 0, 1) := by decide +kernel
theorem d_law_169 : decode code 169 = .ok (.iload 4, 2) := by decide +kernel
theorem d_law_171 : decode code 171 = .ok (.iconst 1, 1) := by decide +kernel
theorem d_law_172 : decode code 172 = .ok (.iadd, 1) := by decide +kernel
theorem d_law_173 : decode code 173 = .ok (.iaload, 1) := by decide +kernel
theorem d_law_174 : decode code 174 = .ok (.aload_n 0, 1) := by decide +kernel
theorem d_law_175 : decode code 175 = .ok (.iload 4, 2) := by decide +kernel
theorem d_law_177 : decode code 177 = .ok (.iconst 2, 1) := by decide +kernel
theorem d_law_178 : decode code 178 = .ok (.iadd, 1) := by decide +kernel
theorem d_law_179 : decode code 179 = .ok (.iaload, 1) := by decide +kernel
theorem d_law_180 : decode code 180 = .ok (.invokevirtual 93, 3) := by decide +kernel
theorem d_law_183 : decode code 183 = .ok (.istore 6, 2) := by decide +kernel
theorem d_law_185 : decode code 185 = .ok (.aload_n 2, 1) := by decide +kernel
theorem d_law_186 : decode code 186 = .ok (.invokevirtual 94, 3) := by decide +kernel
theorem d_law_189 : decode code 189 = .ok (.iload 5, 2) := by decide +kernel
theorem d_law_191 : decode code 191 = .ok (.if_icmp .eq 5, 3) := by decide +kernel
theorem d_law_194 : decode code 194 = .ok (.iconst 0, 1) := by decide +kernel
theorem d_law_195 : decode code 195 = .ok (.ireturn, 1) := by decide +kernel
theorem d_law_196 : decode code 196 = .ok (.iload 5, 2) := by decide +kernel
theorem d_law_198 : decode code 198 = .ok (.ifCond .ne 15, 3) := by decide +kernel
theorem d_law_201 : decode code 201 = .ok (.aload_n 3, 1) := by decide +kernel
theorem d_law_202 : decode code 202 = .ok (.iconst 0, 1) := by decide +kernel
theorem d_law_203 : decode code 203 = .ok (.laload, 1) := by decide +kernel
theorem d_law_204 : decode code 204 = .ok (.iload 6, 2) := by decide +kernel
theorem d_law_206 : decode code 206 = .ok (.i2l, 1) := by decide +kernel
theorem d_law_207 : decode code 207 = .ok (.lcmp, 1) := by decide +kernel
theorem d_law_208 : decode code 208 = .ok (.ifCond .eq 5, 3) := by decide +kernel
theorem d_law_211 : decode code 211 = .ok (.iconst 0, 1) := by decide +kernel
theorem d_law_212 : decode code 212 = .ok (.ireturn, 1) := by decide +kernel
theorem d_law_213 : decode code 213 = .ok (.goto 1336, 3) := by decide +kernel
theorem d_law_216 : decode code 216 = .ok (.aload_n 1, 1) := by decide +kernel
theorem d_law_217 : decode code 217 = .ok (.aload_n 0, 1) := by decide +kernel
theorem d_law_218 : decode code 218 = .ok (.iload 4, 2) := by decide +kernel
theorem d_law_220 : decode code 220 = .ok (.iconst 1, 1) := by decide +kernel
theorem d_law_221 : decode code 221 = .ok (.iadd, 1) := by decide +kernel
theorem d_law_222 : decode code 222 = .ok (.iaload, 1) := by decide +kernel
theorem d_law_223 : decode code 223 = .ok (.aload_n 3, 1) := by decide +kernel
theorem d_law_224 : decode code 224 = .ok (.invokestatic 98, 3) := by decide +kernel
theorem d_law_227 : decode code 227 = .ok (.istore 5, 2) := by decide +kernel
theorem d_law_229 : decode code 229 = .ok (.aload_n 2, 1) := by decide +kernel
theorem d_law_230 : decode code 230 = .ok (.aload_n 0, 1) := by decide +kernel
theorem d_law_231 : decode code 231 = .ok (.iload 4, 2) := by decide +kernel
theorem d_law_233 : decode code 233 = .ok (.iconst 1, 1) := by decide +kernel
theorem d_law_234 : decode code 234 = .ok (.iadd, 1) := by decide +kernel
theorem d_law_235 : decode code 235 = .ok (.iaload, 1) := by decide +kernel
theorem d_law_236 : decode code 236 = .ok (.invokevirtual 101, 3) := by decide +kernel
theorem d_law_239 : decode code 239 = .ok (.istore 6, 2) := by decide +kernel
theorem d_law_241 : decode code 241 = .ok (.aload_n 2, 1) := by decide +kernel
theorem d_law_242 : decode code 242 = .ok (.invokevirtual 94, 3) := by decide +kernel
theorem d_law_245 : decode code 245 = .ok (.iload 5, 2) := by decide +kernel
theorem d_law_247 : decode code 247 = .ok (.if_icmp .eq 5, 3) := by decide +kernel
theorem d_law_250 : decode code 250 = .ok (.iconst 0, 1) := by decide +kernel
theorem d_law_251 : decode code 251 = .ok (.ireturn, 1) := by decide +kernel
theorem d_law_252 : decode code 252 = .ok (.iload 5, 2) := by decide +kernel
theorem d_law_254 : decode code 254 = .ok (.ifCond .ne 15, 3) := by decide +kernel
theorem d_law_257 : decode code 257 = .ok (.aload_n 3, 1) := by decide +kernel
theorem d_law_258 : decode code 258 = .ok (.iconst 0, 1) := by decide +kernel
theorem d_law_259 : decode code 259 = .ok (.laload, 1) := by decide +kernel
theorem d_law_260 : decode code 260 = .ok (.iload 6, 2) := by decide +kernel
theorem d_law_262 : decode code 262 = .ok (.i2l, 1) := by decide +kernel
theorem d_law_263 : decode code 263 = .ok (.lcmp, 1) := by decide +kernel
theorem d_law_264 : decode code 264 = .ok (.ifCond .eq 5, 3) := by decide +kernel
theorem d_law_267 : decode code 267 = .ok (.iconst 0, 1) := by decide +kernel
theorem d_law_268 : decode code 268 = .ok (.ireturn, 1) := by decide +kernel
theorem d_law_269 : decode code 269 = .ok (.goto 1280, 3) := by decide +kernel
theorem d_law_272 : decode code 272 = .ok (.aload_n 1, 1) := by decide +kernel
theorem d_law_273 : decode code 273 = .ok (.aload_n 0, 1) := by decide +kernel
theorem d_law_274 : decode code 274 = .ok (.iload 4, 2) := by decide +kernel
theorem d_law_276 : decode code 276 = .ok (.iconst 1, 1) := by decide +kernel
theorem d_law_277 : decode code 277 = .ok (.iadd, 1) := by decide +kernel
theorem d_law_278 : decode code 278 = .ok (.iaload, 1) := by decide +kernel
theorem d_law_279 : decode code 279 = .ok (.aload_n 0, 1) := by decide +kernel
theorem d_law_280 : decode code 280 = .ok (.iload 4, 2) := by decide +kernel
theorem d_law_282 : decode code 282 = .ok (.iconst 2, 1) := by decide +kernel
theorem d_law_283 : decode code 283 = .ok (.iadd, 1) := by decide +kernel
theorem d_law_284 : decode code 284 = .ok (.iaload, 1) := by decide +kernel
theorem d_law_285 : decode code 285 = .ok (.aload_n 3, 1) := by decide +kernel
theorem d_law_286 : decode code 286 = .ok (.invokestatic 102, 3) := by decide +kernel
theorem d_law_289 : decode code 289 = .ok (.istore 5, 2) := by decide +kernel
theorem d_law_291 : decode code 291 = .ok (.aload_n 2, 1) := by decide +kernel
theorem d_law_292 : decode code 292 = .ok (.aload_n 0, 1) := by decide +kernel
theorem d_law_293 : decode code 293 = .ok (.iload 4, 2) := by decide +kernel
theorem d_law_295 : decode code 295 = .ok (.iconst 1, 1) := by decide +kernel
theorem d_law_296 : decode code 296 = .ok (.iadd, 1) := by decide +kernel
theorem d_law_297 : decode code 297 = .ok (.iaload, 1) := by decide +kernel
theorem d_law_298 : decode code 298 = .ok (.aload_n 0, 1) := by decide +kernel
theorem d_law_299 : decode code 299 = .ok (.iload 4, 2) := by decide +kernel
theorem d_law_301 : decode code 301 = .ok (.iconst 2, 1) := by decide +kernel
theorem d_law_302 : decode code 302 = .ok (.iadd, 1) := by decide +kernel
theorem d_law_303 : decode code 303 = .ok (.iaload, 1) := by decide +kernel
theorem d_law_304 : decode code 304 = .ok (.invokevirtual 104, 3) := by decide +kernel
theorem d_law_307 : decode code 307 = .ok (.istore 6, 2) := by decide +kernel
theorem d_law_309 : decode code 309 = .ok (.aload_n 2, 1) := by decide +kernel
theorem d_law_310 : decode code 310 = .ok (.invokevirtual 94, 3) := by decide +kernel
theorem d_law_313 : decode code 313 = .ok (.iload 5, 2) := by decide +kernel
theorem d_law_315 : decode code 315 = .ok (.if_icmp .eq 5, 3) := by decide +kernel
theorem d_law_318 : decode code 318 = .ok (.iconst 0, 1) := by decide +kernel
theorem d_law_319 : decode code 319 = .ok (.ireturn, 1) := by decide +kernel
theorem d_law_320 : decode code 320 = .ok (.iload 5, 2) := by decide +kernel
theorem d_law_322 : decode code 322 = .ok (.ifCond .ne 15, 3) := by decide +kernel
theorem d_law_325 : decode code 325 = .ok (.aload_n 3, 1) := by decide +kernel
theorem d_law_326 : decode code 326 = .ok (.iconst 0, 1) := by decide +kernel
theorem d_law_327 : decode code 327 = .ok (.laload, 1) := by decide +kernel
theorem d_law_328 : decode code 328 = .ok (.iload 6, 2) := by decide +kernel
theorem d_law_330 : decode code 330 = .ok (.i2l, 1) := by decide +kernel
theorem d_law_331 : decode code 331 = .ok (.lcmp, 1) := by decide +kernel
theorem d_law_332 : decode code 332 = .ok (.ifCond .eq 5, 3) := by decide +kernel
theorem d_law_335 : decode code 335 = .ok (.iconst 0, 1) := by decide +kernel
theorem d_law_336 : decode code 336 = .ok (.ireturn, 1) := by decide +kernel
theorem d_law_337 : decode code 337 = .ok (.goto 1212, 3) := by decide +kernel
theorem d_law_340 : decode code 340 = .ok (.aload_n 1, 1) := by decide +kernel
theorem d_law_341 : decode code 341 = .ok (.aload_n 0, 1) := by decide +kernel
theorem d_law_342 : decode code 342 = .ok (.iload 4, 2) := by decide +kernel
theorem d_law_344 : decode code 344 = .ok (.iconst 1, 1) := by decide +kernel
theorem d_law_345 : decode code 345 = .ok (.iadd, 1) := by decide +kernel
theorem d_law_346 : decode code 346 = .ok (.iaload, 1) := by decide +kernel
theorem d_law_347 : decode code 347 = .ok (.aload_n 0, 1) := by decide +kernel
theorem d_law_348 : decode code 348 = .ok (.iload 4, 2) := by decide +kernel
theorem d_law_350 : decode code 350 = .ok (.iconst 2, 1) := by decide +kernel
theorem d_law_351 : decode code 351 = .ok (.iadd, 1) := by decide +kernel
theorem d_law_352 : decode code 352 = .ok (.iaload, 1) := by decide +kernel
theorem d_law_353 : decode code 353 = .ok (.aload_n 3, 1) := by decide +kernel
theorem d_law_354 : decode code 354 = .ok (.invokestatic 105, 3) := by decide +kernel
theorem d_law_357 : decode code 357 = .ok (.istore 5, 2) := by decide +kernel
theorem d_law_359 : decode code 359 = .ok (.aload_n 2, 1) := by decide +kernel
theorem d_law_360 : decode code 360 = .ok (.aload_n 0, 1) := by decide +kernel
theorem d_law_361 : decode code 361 = .ok (.iload 4, 2) := by decide +kernel
theorem d_law_363 : decode code 363 = .ok (.iconst 1, 1) := by decide +kernel
theorem d_law_364 : decode code 364 = .ok (.iadd, 1) := by decide +kernel
theorem d_law_365 : decode code 365 = .ok (.iaload, 1) := by decide +kernel
theorem d_law_366 : decode code 366 = .ok (.aload_n 0, 1) := by decide +kernel
theorem d_law_367 : decode code 367 = .ok (.iload 4, 2) := by decide +kernel
theorem d_law_369 : decode code 369 = .ok (.iconst 2, 1) := by decide +kernel
theorem d_law_370 : decode code 370 = .ok (.iadd, 1) := by decide +kernel
theorem d_law_371 : decode code 371 = .ok (.iaload, 1) := by decide +kernel
theorem d_law_372 : decode code 372 = .ok (.invokevirtual 107, 3) := by decide +kernel
theorem d_law_375 : decode code 375 = .ok (.istore 6, 2) := by decide +kernel
theorem d_law_377 : decode code 377 = .ok (.aload_n 2, 1) := by decide +kernel
theorem d_law_378 : decode code 378 = .ok (.invokevirtual 94, 3) := by decide +kernel
theorem d_law_381 : decode code 381 = .ok (.iload 5, 2) := by decide +kernel
theorem d_law_383 : decode code 383 = .ok (.if_icmp .eq 5, 3) := by decide +kernel
theorem d_law_386 : decode code 386 = .ok (.iconst 0, 1) := by decide +kernel
theorem d_law_387 : decode code 387 = .ok (.ireturn, 1) := by decide +kernel
theorem d_law_388 : decode code 388 = .ok (.iload 5, 2) := by decide +kernel
theorem d_law_390 : decode code 390 = .ok (.ifCond .ne 15, 3) := by decide +kernel
theorem d_law_393 : decode code 393 = .ok (.aload_n 3, 1) := by decide +kernel
theorem d_law_394 : decode code 394 = .ok (.iconst 0, 1) := by decide +kernel
theorem d_law_395 : decode code 395 = .ok (.laload, 1) := by decide +kernel
theorem d_law_396 : decode code 396 = .ok (.iload 6, 2) := by decide +kernel
theorem d_law_398 : decode code 398 = .ok (.i2l, 1) := by decide +kernel
theorem d_law_399 : decode code 399 = .ok (.lcmp, 1) := by decide +kernel
theorem d_law_400 : decode code 400 = .ok (.ifCond .eq 5, 3) := by decide +kernel
theorem d_law_403 : decode code 403 = .ok (.iconst 0, 1) := by decide +kernel
theorem d_law_404 : decode code 404 = .ok (.ireturn, 1) := by decide +kernel
theorem d_law_405 : decode code 405 = .ok (.goto 1144, 3) := by decide +kernel
theorem d_law_408 : decode code 408 = .ok (.aload_n 1, 1) := by decide +kernel
theorem d_law_409 : decode code 409 = .ok (.aload_n 0, 1) := by decide +kernel
theorem d_law_410 : decode code 410 = .ok (.iload 4, 2) := by decide +kernel
theorem d_law_412 : decode code 412 = .ok (.iconst 1, 1) := by decide +kernel
theorem d_law_413 : decode code 413 = .ok (.iadd, 1) := by decide +kernel
theorem d_law_414 : decode code 414 = .ok (.iaload, 1) := by decide +kernel
theorem d_law_415 : decode code 415 = .ok (.aload_n 3, 1) := by decide +kernel
theorem d_law_416 : decode code 416 = .ok (.invokestatic 108, 3) := by decide +kernel
theorem d_law_419 : decode code 419 = .ok (.istore 5, 2) := by decide +kernel
theorem d_law_421 : decode code 421 = .ok (.aload_n 2, 1) := by decide +kernel
theorem d_law_422 : decode code 422 = .ok (.aload_n 0, 1) := by decide +kernel
theorem d_law_423 : decode code 423 = .ok (.iload 4, 2) := by decide +kernel
theorem d_law_425 : decode code 425 = .ok (.iconst 1, 1) := by decide +kernel
theorem d_law_426 : decode code 426 = .ok (.iadd, 1) := by decide +kernel
theorem d_law_427 : decode code 427 = .ok (.iaload, 1) := by decide +kernel
theorem d_law_428 : decode code 428 = .ok (.invokevirtual 110, 3) := by decide +kernel
theorem d_law_431 : decode code 431 = .ok (.istore 6, 2) := by decide +kernel
theorem d_law_433 : decode code 433 = .ok (.aload_n 2, 1) := by decide +kernel
theorem d_law_434 : decode code 434 = .ok (.invokevirtual 94, 3) := by decide +kernel
theorem d_law_437 : decode code 437 = .ok (.iload 5, 2) := by decide +kernel
theorem d_law_439 : decode code 439 = .ok (.if_icmp .eq 5, 3) := by decide +kernel
theorem d_law_442 : decode code 442 = .ok (.iconst 0, 1) := by decide +kernel
theorem d_law_443 : decode code 443 = .ok (.ireturn, 1) := by decide +kernel
theorem d_law_444 : decode code 444 = .ok (.iload 5, 2) := by decide +kernel
theorem d_law_446 : decode code 446 = .ok (.ifCond .ne 15, 3) := by decide +kernel
theorem d_law_449 : decode code 449 = .ok (.aload_n 3, 1) := by decide +kernel
theorem d_law_450 : decode code 450 = .ok (.iconst 0, 1) := by decide +kernel
theorem d_law_451 : decode code 451 = .ok (.laload, 1) := by decide +kernel
theorem d_law_452 : decode code 452 = .ok (.iload 6, 2) := by decide +kernel
theorem d_law_454 : decode code 454 = .ok (.i2l, 1) := by decide +kernel
theorem d_law_455 : decode code 455 = .ok (.lcmp, 1) := by decide +kernel
theorem d_law_456 : decode code 456 = .ok (.ifCond .eq 5, 3) := by decide +kernel
theorem d_law_459 : decode code 459 = .ok (.iconst 0, 1) := by decide +kernel
theorem d_law_460 : decode code 460 = .ok (.ireturn, 1) := by decide +kernel
theorem d_law_461 : decode code 461 = .ok (.goto 1088, 3) := by decide +kernel
theorem d_law_464 : decode code 464 = .ok (.aload_n 1, 1) := by decide +kernel
theorem d_law_465 : decode code 465 = .ok (.aload_n 0, 1) := by decide +kernel
theorem d_law_466 : decode code 466 = .ok (.iload 4, 2) := by decide +kernel
theorem d_law_468 : decode code 468 = .ok (.iconst 1, 1) := by decide +kernel
theorem d_law_469 : decode code 469 = .ok (.iadd, 1) := by decide +kernel
theorem d_law_470 : decode code 470 = .ok (.iaload, 1) := by decide +kernel
theorem d_law_471 : decode code 471 = .ok (.aload_n 0, 1) := by decide +kernel
theorem d_law_472 : decode code 472 = .ok (.iload 4, 2) := by decide +kernel
theorem d_law_474 : decode code 474 = .ok (.iconst 2, 1) := by decide +kernel
theorem d_law_475 : decode code 475 = .ok (.iadd, 1) := by decide +kernel
theorem d_law_476 : decode code 476 = .ok (.iaload, 1) := by decide +kernel
theorem d_law_477 : decode code 477 = .ok (.aload_n 0, 1) := by decide +kernel
theorem d_law_478 : decode code 478 = .ok (.iload 4, 2) := by decide +kernel
theorem d_law_480 : decode code 480 = .ok (.iconst 3, 1) := by decide +kernel
theorem d_law_481 : decode code 481 = .ok (.iadd, 1) := by decide +kernel
theorem d_law_482 : decode code 482 = .ok (.iaload, 1) := by decide +kernel
theorem d_law_483 : decode code 483 = .ok (.aload_n 3, 1) := by decide +kernel
theorem d_law_484 : decode code 484 = .ok (.invokestatic 111, 3) := by decide +kernel
theorem d_law_487 : decode code 487 = .ok (.istore 5, 2) := by decide +kernel
theorem d_law_489 : decode code 489 = .ok (.aload_n 2, 1) := by decide +kernel
theorem d_law_490 : decode code 490 = .ok (.aload_n 0, 1) := by decide +kernel
theorem d_law_491 : decode code 491 = .ok (.iload 4, 2) := by decide +kernel
theorem d_law_493 : decode code 493 = .ok (.iconst 1, 1) := by decide +kernel
theorem d_law_494 : decode code 494 = .ok (.iadd, 1) := by decide +kernel
theorem d_law_495 : decode code 495 = .ok (.iaload, 1) := by decide +kernel
theorem d_law_496 : decode code 496 = .ok (.aload_n 0, 1) := by decide +kernel
theorem d_law_497 : decode code 497 = .ok (.iload 4, 2) := by decide +kernel
theorem d_law_499 : decode code 499 = .ok (.iconst 2, 1) := by decide +kernel
theorem d_law_500 : decode code 500 = .ok (.iadd, 1) := by decide +kernel
theorem d_law_501 : decode code 501 = .ok (.iaload, 1) := by decide +kernel
theorem d_law_502 : decode code 502 = .ok (.aload_n 0, 1) := by decide +kernel
theorem d_law_503 : decode code 503 = .ok (.iload 4, 2) := by decide +kernel
theorem d_law_505 : decode code 505 = .ok (.iconst 3, 1) := by decide +kernel
theorem d_law_506 : decode code 506 = .ok (.iadd, 1) := by decide +kernel
theorem d_law_507 : decode code 507 = .ok (.iaload, 1) := by decide +kernel
theorem d_law_508 : decode code 508 = .ok (.invokevirtual 114, 3) := by decide +kernel
theorem d_law_511 : decode code 511 = .ok (.istore 6, 2) := by decide +kernel
theorem d_law_513 : decode code 513 = .ok (.aload_n 2, 1) := by decide +kernel
theorem d_law_514 : decode code 514 = .ok (.invokevirtual 94, 3) := by decide +kernel
theorem d_law_517 : decode code 517 = .ok (.iload 5, 2) := by decide +kernel
theorem d_law_519 : decode code 519 = .ok (.if_icmp .eq 5, 3) := by decide +kernel
theorem d_law_522 : decode code 522 = .ok (.iconst 0, 1) := by decide +kernel
theorem d_law_523 : decode code 523 = .ok (.ireturn, 1) := by decide +kernel
theorem d_law_524 : decode code 524 = .ok (.iload 5, 2) := by decide +kernel
theorem d_law_526 : decode code 526 = .ok (.ifCond .ne 15, 3) := by decide +kernel
theorem d_law_529 : decode code 529 = .ok (.aload_n 3, 1) := by decide +kernel
theorem d_law_530 : decode code 530 = .ok (.iconst 0, 1) := by decide +kernel
theorem d_law_531 : decode code 531 = .ok (.laload, 1) := by decide +kernel
theorem d_law_532 : decode code 532 = .ok (.iload 6, 2) := by decide +kernel
theorem d_law_534 : decode code 534 = .ok (.i2l, 1) := by decide +kernel
theorem d_law_535 : decode code 535 = .ok (.lcmp, 1) := by decide +kernel
theorem d_law_536 : decode code 536 = .ok (.ifCond .eq 5, 3) := by decide +kernel
theorem d_law_539 : decode code 539 = .ok (.iconst 0, 1) := by decide +kernel
theorem d_law_540 : decode code 540 = .ok (.ireturn, 1) := by decide +kernel
theorem d_law_541 : decode code 541 = .ok (.goto 1008, 3) := by decide +kernel
theorem d_law_544 : decode code 544 = .ok (.aload_n 1, 1) := by decide +kernel
theorem d_law_545 : decode code 545 = .ok (.aload_n 0, 1) := by decide +kernel
theorem d_law_546 : decode code 546 = .ok (.iload 4, 2) := by decide +kernel
theorem d_law_548 : decode code 548 = .ok (.iconst 1, 1) := by decide +kernel
theorem d_law_549 : decode code 549 = .ok (.iadd, 1) := by decide +kernel
theorem d_law_550 : decode code 550 = .ok (.iaload, 1) := by decide +kernel
theorem d_law_551 : decode code 551 = .ok (.aload_n 3, 1) := by decide +kernel
theorem d_law_552 : decode code 552 = .ok (.invokestatic 115, 3) := by decide +kernel
theorem d_law_555 : decode code 555 = .ok (.istore 5, 2) := by decide +kernel
theorem d_law_557 : decode code 557 = .ok (.aload_n 2, 1) := by decide +kernel
theorem d_law_558 : decode code 558 = .ok (.aload_n 0, 1) := by decide +kernel
theorem d_law_559 : decode code 559 = .ok (.iload 4, 2) := by decide +kernel
theorem d_law_561 : decode code 561 = .ok (.iconst 1, 1) := by decide +kernel
theorem d_law_562 : decode code 562 = .ok (.iadd, 1) := by decide +kernel
theorem d_law_563 : decode code 563 = .ok (.iaload, 1) := by decide +kernel
theorem d_law_564 : decode code 564 = .ok (.invokevirtual 117, 3) := by decide +kernel
theorem d_law_567 : decode code 567 = .ok (.istore 6, 2) := by decide +kernel
theorem d_law_569 : decode code 569 = .ok (.aload_n 2, 1) := by decide +kernel
theorem d_law_570 : decode code 570 = .ok (.invokevirtual 94, 3) := by decide +kernel
theorem d_law_573 : decode code 573 = .ok (.iload 5, 2) := by decide +kernel
theorem d_law_575 : decode code 575 = .ok (.if_icmp .eq 5, 3) := by decide +kernel
theorem d_law_578 : decode code 578 = .ok (.iconst 0, 1) := by decide +kernel
theorem d_law_579 : decode code 579 = .ok (.ireturn, 1) := by decide +kernel
theorem d_law_580 : decode code 580 = .ok (.iload 5, 2) := by decide +kernel
theorem d_law_582 : decode code 582 = .ok (.ifCond .ne 22, 3) := by decide +kernel
theorem d_law_585 : decode code 585 = .ok (.aload_n 3, 1) := by decide +kernel
theorem d_law_586 : decode code 586 = .ok (.iconst 0, 1) := by decide +kernel
theorem d_law_587 : decode code 587 = .ok (.laload, 1) := by decide +kernel
theorem d_law_588 : decode code 588 = .ok (.iload 6, 2) := by decide +kernel
theorem d_law_590 : decode code 590 = .ok (.ifCond .eq 7, 3) := by decide +kernel
theorem d_law_593 : decode code 593 = .ok (.lconst 1, 1) := by decide +kernel
theorem d_law_594 : decode code 594 = .ok (.goto 4, 3) := by decide +kernel
theorem d_law_597 : decode code 597 = .ok (.lconst 0, 1) := by decide +kernel
theorem d_law_598 : decode code 598 = .ok (.lcmp, 1) := by decide +kernel
theorem d_law_599 : decode code 599 = .ok (.ifCond .eq 5, 3) := by decide +kernel
theorem d_law_602 : decode code 602 = .ok (.iconst 0, 1) := by decide +kernel
theorem d_law_603 : decode code 603 = .ok (.ireturn, 1) := by decide +kernel
theorem d_law_604 : decode code 604 = .ok (.goto 945, 3) := by decide +kernel
theorem d_law_607 : decode code 607 = .ok (.aload_n 1, 1) := by decide +kernel
theorem d_law_608 : decode code 608 = .ok (.aload_n 0, 1) := by decide +kernel
theorem d_law_609 : decode code 609 = .ok (.iload 4, 2) := by decide +kernel
theorem d_law_611 : decode code 611 = .ok (.iconst 1, 1) := by decide +kernel
theorem d_law_612 : decode code 612 = .ok (.iadd, 1) := by decide +kernel
theorem d_law_613 : decode code 613 = .ok (.iaload, 1) := by decide +kernel
theorem d_law_614 : decode code 614 = .ok (.aload_n 3, 1) := by decide +kernel
theorem d_law_615 : decode code 615 = .ok (.invokestatic 118, 3) := by decide +kernel
theorem d_law_618 : decode code 618 = .ok (.istore 5, 2) := by decide +kernel
theorem d_law_620 : decode code 620 = .ok (.aload_n 2, 1) := by decide +kernel
theorem d_law_621 : decode code 621 = .ok (.aload_n 0, 1) := by decide +kernel
theorem d_law_622 : decode code 622 = .ok (.iload 4, 2) := by decide +kernel
theorem d_law_624 : decode code 624 = .ok (.iconst 1, 1) := by decide +kernel
theorem d_law_625 : decode code 625 = .ok (.iadd, 1) := by decide +kernel
theorem d_law_626 : decode code 626 = .ok (.iaload, 1) := by decide +kernel
theorem d_law_627 : decode code 627 = .ok (.invokevirtual 120, 3) := by decide +kernel
theorem d_law_630 : decode code 630 = .ok (.istore 6, 2) := by decide +kernel
theorem d_law_632 : decode code 632 = .ok (.aload_n 2, 1) := by decide +kernel
theorem d_law_633 : decode code 633 = .ok (.invokevirtual 94, 3) := by decide +kernel
theorem d_law_636 : decode code 636 = .ok (.iload 5, 2) := by decide +kernel
theorem d_law_638 : decode code 638 = .ok (.if_icmp .eq 5, 3) := by decide +kernel
theorem d_law_641 : decode code 641 = .ok (.iconst 0, 1) := by decide +kernel
theorem d_law_642 : decode code 642 = .ok (.ireturn, 1) := by decide +kernel
theorem d_law_643 : decode code 643 = .ok (.iload 5, 2) := by decide +kernel
theorem d_law_645 : decode code 645 = .ok (.ifCond .ne 15, 3) := by decide +kernel
theorem d_law_648 : decode code 648 = .ok (.aload_n 3, 1) := by decide +kernel
theorem d_law_649 : decode code 649 = .ok (.iconst 0, 1) := by decide +kernel
theorem d_law_650 : decode code 650 = .ok (.laload, 1) := by decide +kernel
theorem d_law_651 : decode code 651 = .ok (.iload 6, 2) := by decide +kernel
theorem d_law_653 : decode code 653 = .ok (.i2l, 1) := by decide +kernel
theorem d_law_654 : decode code 654 = .ok (.lcmp, 1) := by decide +kernel
theorem d_law_655 : decode code 655 = .ok (.ifCond .eq 5, 3) := by decide +kernel
theorem d_law_658 : decode code 658 = .ok (.iconst 0, 1) := by decide +kernel
theorem d_law_659 : decode code 659 = .ok (.ireturn, 1) := by decide +kernel
theorem d_law_660 : decode code 660 = .ok (.goto 889, 3) := by decide +kernel
theorem d_law_663 : decode code 663 = .ok (.aload_n 1, 1) := by decide +kernel
theorem d_law_664 : decode code 664 = .ok (.aload_n 0, 1) := by decide +kernel
theorem d_law_665 : decode code 665 = .ok (.iload 4, 2) := by decide +kernel
theorem d_law_667 : decode code 667 = .ok (.iconst 1, 1) := by decide +kernel
theorem d_law_668 : decode code 668 = .ok (.iadd, 1) := by decide +kernel
theorem d_law_669 : decode code 669 = .ok (.iaload, 1) := by decide +kernel
theorem d_law_670 : decode code 670 = .ok (.aload_n 0, 1) := by decide +kernel
theorem d_law_671 : decode code 671 = .ok (.iload 4, 2) := by decide +kernel
theorem d_law_673 : decode code 673 = .ok (.iconst 2, 1) := by decide +kernel
theorem d_law_674 : decode code 674 = .ok (.iadd, 1) := by decide +kernel
theorem d_law_675 : decode code 675 = .ok (.iaload, 1) := by decide +kernel
theorem d_law_676 : decode code 676 = .ok (.aload_n 0, 1) := by decide +kernel
theorem d_law_677 : decode code 677 = .ok (.iload 4, 2) := by decide +kernel
theorem d_law_679 : decode code 679 = .ok (.iconst 3, 1) := by decide +kernel
theorem d_law_680 : decode code 680 = .ok (.iadd, 1) := by decide +kernel
theorem d_law_681 : decode code 681 = .ok (.iaload, 1) := by decide +kernel
theorem d_law_682 : decode code 682 = .ok (.aload_n 0, 1) := by decide +kernel
theorem d_law_683 : decode code 683 = .ok (.iload 4, 2) := by decide +kernel
theorem d_law_685 : decode code 685 = .ok (.iconst 4, 1) := by decide +kernel
theorem d_law_686 : decode code 686 = .ok (.iadd, 1) := by decide +kernel
theorem d_law_687 : decode code 687 = .ok (.iaload, 1) := by decide +kernel
theorem d_law_688 : decode code 688 = .ok (.aload_n 3, 1) := by decide +kernel
theorem d_law_689 : decode code 689 = .ok (.invokestatic 121, 3) := by decide +kernel
theorem d_law_692 : decode code 692 = .ok (.istore 5, 2) := by decide +kernel
theorem d_law_694 : decode code 694 = .ok (.aload_n 2, 1) := by decide +kernel
theorem d_law_695 : decode code 695 = .ok (.aload_n 0, 1) := by decide +kernel
theorem d_law_696 : decode code 696 = .ok (.iload 4, 2) := by decide +kernel
theorem d_law_698 : decode code 698 = .ok (.iconst 1, 1) := by decide +kernel
theorem d_law_699 : decode code 699 = .ok (.iadd, 1) := by decide +kernel
theorem d_law_700 : decode code 700 = .ok (.iaload, 1) := by decide +kernel
theorem d_law_701 : decode code 701 = .ok (.aload_n 0, 1) := by decide +kernel
theorem d_law_702 : decode code 702 = .ok (.iload 4, 2) := by decide +kernel
theorem d_law_704 : decode code 704 = .ok (.iconst 2, 1) := by decide +kernel
theorem d_law_705 : decode code 705 = .ok (.iadd, 1) := by decide +kernel
theorem d_law_706 : decode code 706 = .ok (.iaload, 1) := by decide +kernel
theorem d_law_707 : decode code 707 = .ok (.aload_n 0, 1) := by decide +kernel
theorem d_law_708 : decode code 708 = .ok (.iload 4, 2) := by decide +kernel
theorem d_law_710 : decode code 710 = .ok (.iconst 3, 1) := by decide +kernel
theorem d_law_711 : decode code 711 = .ok (.iadd, 1) := by decide +kernel
theorem d_law_712 : decode code 712 = .ok (.iaload, 1) := by decide +kernel
theorem d_law_713 : decode code 713 = .ok (.aload_n 0, 1) := by decide +kernel
theorem d_law_714 : decode code 714 = .ok (.iload 4, 2) := by decide +kernel
theorem d_law_716 : decode code 716 = .ok (.iconst 4, 1) := by decide +kernel
theorem d_law_717 : decode code 717 = .ok (.iadd, 1) := by decide +kernel
theorem d_law_718 : decode code 718 = .ok (.iaload, 1) := by decide +kernel
theorem d_law_719 : decode code 719 = .ok (.invokevirtual 124, 3) := by decide +kernel
theorem d_law_722 : decode code 722 = .ok (.istore 6, 2) := by decide +kernel
theorem d_law_724 : decode code 724 = .ok (.aload_n 2, 1) := by decide +kernel
theorem d_law_725 : decode code 725 = .ok (.invokevirtual 94, 3) := by decide +kernel
theorem d_law_728 : decode code 728 = .ok (.iload 5, 2) := by decide +kernel
theorem d_law_730 : decode code 730 = .ok (.if_icmp .eq 5, 3) := by decide +kernel
theorem d_law_733 : decode code 733 = .ok (.iconst 0, 1) := by decide +kernel
theorem d_law_734 : decode code 734 = .ok (.ireturn, 1) := by decide +kernel
theorem d_law_735 : decode code 735 = .ok (.iload 5, 2) := by decide +kernel
theorem d_law_737 : decode code 737 = .ok (.ifCond .ne 15, 3) := by decide +kernel
theorem d_law_740 : decode code 740 = .ok (.aload_n 3, 1) := by decide +kernel
theorem d_law_741 : decode code 741 = .ok (.iconst 0, 1) := by decide +kernel
theorem d_law_742 : decode code 742 = .ok (.laload, 1) := by decide +kernel
theorem d_law_743 : decode code 743 = .ok (.iload 6, 2) := by decide +kernel
theorem d_law_745 : decode code 745 = .ok (.i2l, 1) := by decide +kernel
theorem d_law_746 : decode code 746 = .ok (.lcmp, 1) := by decide +kernel
theorem d_law_747 : decode code 747 = .ok (.ifCond .eq 5, 3) := by decide +kernel
theorem d_law_750 : decode code 750 = .ok (.iconst 0, 1) := by decide +kernel
theorem d_law_751 : decode code 751 = .ok (.ireturn, 1) := by decide +kernel
theorem d_law_752 : decode code 752 = .ok (.goto 797, 3) := by decide +kernel
theorem d_law_755 : decode code 755 = .ok (.aload_n 1, 1) := by decide +kernel
theorem d_law_756 : decode code 756 = .ok (.aload_n 0, 1) := by decide +kernel
theorem d_law_757 : decode code 757 = .ok (.iload 4, 2) := by decide +kernel
theorem d_law_759 : decode code 759 = .ok (.iconst 1, 1) := by decide +kernel
theorem d_law_760 : decode code 760 = .ok (.iadd, 1) := by decide +kernel
theorem d_law_761 : decode code 761 = .ok (.iaload, 1) := by decide +kernel
theorem d_law_762 : decode code 762 = .ok (.aload_n 0, 1) := by decide +kernel
theorem d_law_763 : decode code 763 = .ok (.iload 4, 2) := by decide +kernel
theorem d_law_765 : decode code 765 = .ok (.iconst 2, 1) := by decide +kernel
theorem d_law_766 : decode code 766 = .ok (.iadd, 1) := by decide +kernel
theorem d_law_767 : decode code 767 = .ok (.iaload, 1) := by decide +kernel
theorem d_law_768 : decode code 768 = .ok (.aload_n 0, 1) := by decide +kernel
theorem d_law_769 : decode code 769 = .ok (.iload 4, 2) := by decide +kernel
theorem d_law_771 : decode code 771 = .ok (.iconst 3, 1) := by decide +kernel
theorem d_law_772 : decode code 772 = .ok (.iadd, 1) := by decide +kernel
theorem d_law_773 : decode code 773 = .ok (.iaload, 1) := by decide +kernel
theorem d_law_774 : decode code 774 = .ok (.aload_n 0, 1) := by decide +kernel
theorem d_law_775 : decode code 775 = .ok (.iload 4, 2) := by decide +kernel
theorem d_law_777 : decode code 777 = .ok (.iconst 4, 1) := by decide +kernel
theorem d_law_778 : decode code 778 = .ok (.iadd, 1) := by decide +kernel
theorem d_law_779 : decode code 779 = .ok (.iaload, 1) := by decide +kernel
theorem d_law_780 : decode code 780 = .ok (.aload_n 0, 1) := by decide +kernel
theorem d_law_781 : decode code 781 = .ok (.iload 4, 2) := by decide +kernel
theorem d_law_783 : decode code 783 = .ok (.iconst 5, 1) := by decide +kernel
theorem d_law_784 : decode code 784 = .ok (.iadd, 1) := by decide +kernel
theorem d_law_785 : decode code 785 = .ok (.iaload, 1) := by decide +kernel
theorem d_law_786 : decode code 786 = .ok (.aload_n 3, 1) := by decide +kernel
theorem d_law_787 : decode code 787 = .ok (.invokestatic 125, 3) := by decide +kernel
theorem d_law_790 : decode code 790 = .ok (.istore 5, 2) := by decide +kernel
theorem d_law_792 : decode code 792 = .ok (.aload_n 2, 1) := by decide +kernel
theorem d_law_793 : decode code 793 = .ok (.aload_n 0, 1) := by decide +kernel
theorem d_law_794 : decode code 794 = .ok (.iload 4, 2) := by decide +kernel
theorem d_law_796 : decode code 796 = .ok (.iconst 1, 1) := by decide +kernel
theorem d_law_797 : decode code 797 = .ok (.iadd, 1) := by decide +kernel
theorem d_law_798 : decode code 798 = .ok (.iaload, 1) := by decide +kernel
theorem d_law_799 : decode code 799 = .ok (.aload_n 0, 1) := by decide +kernel
theorem d_law_800 : decode code 800 = .ok (.iload 4, 2) := by decide +kernel
theorem d_law_802 : decode code 802 = .ok (.iconst 2, 1) := by decide +kernel
theorem d_law_803 : decode code 803 = .ok (.iadd, 1) := by decide +kernel
theorem d_law_804 : decode code 804 = .ok (.iaload, 1) := by decide +kernel
theorem d_law_805 : decode code 805 = .ok (.aload_n 0, 1) := by decide +kernel
theorem d_law_806 : decode code 806 = .ok (.iload 4, 2) := by decide +kernel
theorem d_law_808 : decode code 808 = .ok (.iconst 3, 1) := by decide +kernel
theorem d_law_809 : decode code 809 = .ok (.iadd, 1) := by decide +kernel
theorem d_law_810 : decode code 810 = .ok (.iaload, 1) := by decide +kernel
theorem d_law_811 : decode code 811 = .ok (.aload_n 0, 1) := by decide +kernel
theorem d_law_812 : decode code 812 = .ok (.iload 4, 2) := by decide +kernel
theorem d_law_814 : decode code 814 = .ok (.iconst 4, 1) := by decide +kernel
theorem d_law_815 : decode code 815 = .ok (.iadd, 1) := by decide +kernel
theorem d_law_816 : decode code 816 = .ok (.iaload, 1) := by decide +kernel
theorem d_law_817 : decode code 817 = .ok (.aload_n 0, 1) := by decide +kernel
theorem d_law_818 : decode code 818 = .ok (.iload 4, 2) := by decide +kernel
theorem d_law_820 : decode code 820 = .ok (.iconst 5, 1) := by decide +kernel
theorem d_law_821 : decode code 821 = .ok (.iadd, 1) := by decide +kernel
theorem d_law_822 : decode code 822 = .ok (.iaload, 1) := by decide +kernel
theorem d_law_823 : decode code 823 = .ok (.invokevirtual 128, 3) := by decide +kernel
theorem d_law_826 : decode code 826 = .ok (.istore 6, 2) := by decide +kernel
theorem d_law_828 : decode code 828 = .ok (.aload_n 2, 1) := by decide +kernel
theorem d_law_829 : decode code 829 = .ok (.invokevirtual 94, 3) := by decide +kernel
theorem d_law_832 : decode code 832 = .ok (.iload 5, 2) := by decide +kernel
theorem d_law_834 : decode code 834 = .ok (.if_icmp .eq 5, 3) := by decide +kernel
theorem d_law_837 : decode code 837 = .ok (.iconst 0, 1) := by decide +kernel
theorem d_law_838 : decode code 838 = .ok (.ireturn, 1) := by decide +kernel
theorem d_law_839 : decode code 839 = .ok (.iload 5, 2) := by decide +kernel
theorem d_law_841 : decode code 841 = .ok (.ifCond .ne 15, 3) := by decide +kernel
theorem d_law_844 : decode code 844 = .ok (.aload_n 3, 1) := by decide +kernel
theorem d_law_845 : decode code 845 = .ok (.iconst 0, 1) := by decide +kernel
theorem d_law_846 : decode code 846 = .ok (.laload, 1) := by decide +kernel
theorem d_law_847 : decode code 847 = .ok (.iload 6, 2) := by decide +kernel
theorem d_law_849 : decode code 849 = .ok (.i2l, 1) := by decide +kernel
theorem d_law_850 : decode code 850 = .ok (.lcmp, 1) := by decide +kernel
theorem d_law_851 : decode code 851 = .ok (.ifCond .eq 5, 3) := by decide +kernel
theorem d_law_854 : decode code 854 = .ok (.iconst 0, 1) := by decide +kernel
theorem d_law_855 : decode code 855 = .ok (.ireturn, 1) := by decide +kernel
theorem d_law_856 : decode code 856 = .ok (.goto 693, 3) := by decide +kernel
theorem d_law_859 : decode code 859 = .ok (.aload_n 1, 1) := by decide +kernel
theorem d_law_860 : decode code 860 = .ok (.invokevirtual 129, 3) := by decide +kernel
theorem d_law_863 : decode code 863 = .ok (.aload_n 2, 1) := by decide +kernel
theorem d_law_864 : decode code 864 = .ok (.invokevirtual 132, 3) := by decide +kernel
theorem d_law_867 : decode code 867 = .ok (.if_icmp .eq 682, 3) := by decide +kernel
theorem d_law_870 : decode code 870 = .ok (.iconst 0, 1) := by decide +kernel
theorem d_law_871 : decode code 871 = .ok (.ireturn, 1) := by decide +kernel
theorem d_law_872 : decode code 872 = .ok (.aload_n 1, 1) := by decide +kernel
theorem d_law_873 : decode code 873 = .ok (.aload_n 0, 1) := by decide +kernel
theorem d_law_874 : decode code 874 = .ok (.iload 4, 2) := by decide +kernel
theorem d_law_876 : decode code 876 = .ok (.iconst 1, 1) := by decide +kernel
theorem d_law_877 : decode code 877 = .ok (.iadd, 1) := by decide +kernel
theorem d_law_878 : decode code 878 = .ok (.iaload, 1) := by decide +kernel
theorem d_law_879 : decode code 879 = .ok (.aload_n 3, 1) := by decide +kernel
theorem d_law_880 : decode code 880 = .ok (.invokestatic 133, 3) := by decide +kernel
theorem d_law_883 : decode code 883 = .ok (.istore 5, 2) := by decide +kernel
theorem d_law_885 : decode code 885 = .ok (.aload_n 2, 1) := by decide +kernel
theorem d_law_886 : decode code 886 = .ok (.aload_n 0, 1) := by decide +kernel
theorem d_law_887 : decode code 887 = .ok (.iload 4, 2) := by decide +kernel
theorem d_law_889 : decode code 889 = .ok (.iconst 1, 1) := by decide +kernel
theorem d_law_890 : decode code 890 = .ok (.iadd, 1) := by decide +kernel
theorem d_law_891 : decode code 891 = .ok (.iaload, 1) := by decide +kernel
theorem d_law_892 : decode code 892 = .ok (.invokevirtual 135, 3) := by decide +kernel
theorem d_law_895 : decode code 895 = .ok (.istore 6, 2) := by decide +kernel
theorem d_law_897 : decode code 897 = .ok (.aload_n 2, 1) := by decide +kernel
theorem d_law_898 : decode code 898 = .ok (.invokevirtual 94, 3) := by decide +kernel
theorem d_law_901 : decode code 901 = .ok (.iload 5, 2) := by decide +kernel
theorem d_law_903 : decode code 903 = .ok (.if_icmp .eq 5, 3) := by decide +kernel
theorem d_law_906 : decode code 906 = .ok (.iconst 0, 1) := by decide +kernel
theorem d_law_907 : decode code 907 = .ok (.ireturn, 1) := by decide +kernel
theorem d_law_908 : decode code 908 = .ok (.iload 5, 2) := by decide +kernel
theorem d_law_910 : decode code 910 = .ok (.ifCond .ne 15, 3) := by decide +kernel
theorem d_law_913 : decode code 913 = .ok (.aload_n 3, 1) := by decide +kernel
theorem d_law_914 : decode code 914 = .ok (.iconst 0, 1) := by decide +kernel
theorem d_law_915 : decode code 915 = .ok (.laload, 1) := by decide +kernel
theorem d_law_916 : decode code 916 = .ok (.iload 6, 2) := by decide +kernel
theorem d_law_918 : decode code 918 = .ok (.i2l, 1) := by decide +kernel
theorem d_law_919 : decode code 919 = .ok (.lcmp, 1) := by decide +kernel
theorem d_law_920 : decode code 920 = .ok (.ifCond .eq 5, 3) := by decide +kernel
theorem d_law_923 : decode code 923 = .ok (.iconst 0, 1) := by decide +kernel
theorem d_law_924 : decode code 924 = .ok (.ireturn, 1) := by decide +kernel
theorem d_law_925 : decode code 925 = .ok (.goto 624, 3) := by decide +kernel
theorem d_law_928 : decode code 928 = .ok (.aload_n 1, 1) := by decide +kernel
theorem d_law_929 : decode code 929 = .ok (.aload_n 0, 1) := by decide +kernel
theorem d_law_930 : decode code 930 = .ok (.iload 4, 2) := by decide +kernel
theorem d_law_932 : decode code 932 = .ok (.iconst 1, 1) := by decide +kernel
theorem d_law_933 : decode code 933 = .ok (.iadd, 1) := by decide +kernel
theorem d_law_934 : decode code 934 = .ok (.iaload, 1) := by decide +kernel
theorem d_law_935 : decode code 935 = .ok (.aload_n 3, 1) := by decide +kernel
theorem d_law_936 : decode code 936 = .ok (.invokestatic 136, 3) := by decide +kernel
theorem d_law_939 : decode code 939 = .ok (.istore 5, 2) := by decide +kernel
theorem d_law_941 : decode code 941 = .ok (.aload_n 2, 1) := by decide +kernel
theorem d_law_942 : decode code 942 = .ok (.aload_n 0, 1) := by decide +kernel
theorem d_law_943 : decode code 943 = .ok (.iload 4, 2) := by decide +kernel
theorem d_law_945 : decode code 945 = .ok (.iconst 1, 1) := by decide +kernel
theorem d_law_946 : decode code 946 = .ok (.iadd, 1) := by decide +kernel
theorem d_law_947 : decode code 947 = .ok (.iaload, 1) := by decide +kernel
theorem d_law_948 : decode code 948 = .ok (.invokevirtual 138, 3) := by decide +kernel
theorem d_law_951 : decode code 951 = .ok (.istore 6, 2) := by decide +kernel
theorem d_law_953 : decode code 953 = .ok (.aload_n 2, 1) := by decide +kernel
theorem d_law_954 : decode code 954 = .ok (.invokevirtual 94, 3) := by decide +kernel
theorem d_law_957 : decode code 957 = .ok (.iload 5, 2) := by decide +kernel
theorem d_law_959 : decode code 959 = .ok (.if_icmp .eq 5, 3) := by decide +kernel
theorem d_law_962 : decode code 962 = .ok (.iconst 0, 1) := by decide +kernel
theorem d_law_963 : decode code 963 = .ok (.ireturn, 1) := by decide +kernel
theorem d_law_964 : decode code 964 = .ok (.iload 5, 2) := by decide +kernel
theorem d_law_966 : decode code 966 = .ok (.ifCond .ne 15, 3) := by decide +kernel
theorem d_law_969 : decode code 969 = .ok (.aload_n 3, 1) := by decide +kernel
theorem d_law_970 : decode code 970 = .ok (.iconst 0, 1) := by decide +kernel
theorem d_law_971 : decode code 971 = .ok (.laload, 1) := by decide +kernel
theorem d_law_972 : decode code 972 = .ok (.iload 6, 2) := by decide +kernel
theorem d_law_974 : decode code 974 = .ok (.i2l, 1) := by decide +kernel
theorem d_law_975 : decode code 975 = .ok (.lcmp, 1) := by decide +kernel
theorem d_law_976 : decode code 976 = .ok (.ifCond .eq 5, 3) := by decide +kernel
theorem d_law_979 : decode code 979 = .ok (.iconst 0, 1) := by decide +kernel
theorem d_law_980 : decode code 980 = .ok (.ireturn, 1) := by decide +kernel
theorem d_law_981 : decode code 981 = .ok (.goto 568, 3) := by decide +kernel
theorem d_law_984 : decode code 984 = .ok (.aload_n 1, 1) := by decide +kernel
theorem d_law_985 : decode code 985 = .ok (.aload_n 0, 1) := by decide +kernel
theorem d_law_986 : decode code 986 = .ok (.iload 4, 2) := by decide +kernel
theorem d_law_988 : decode code 988 = .ok (.iconst 1, 1) := by decide +kernel
theorem d_law_989 : decode code 989 = .ok (.iadd, 1) := by decide +kernel
theorem d_law_990 : decode code 990 = .ok (.iaload, 1) := by decide +kernel
theorem d_law_991 : decode code 991 = .ok (.aload_n 3, 1) := by decide +kernel
theorem d_law_992 : decode code 992 = .ok (.invokestatic 139, 3) := by decide +kernel
theorem d_law_995 : decode code 995 = .ok (.istore 5, 2) := by decide +kernel
theorem d_law_997 : decode code 997 = .ok (.aload_n 2, 1) := by decide +kernel
theorem d_law_998 : decode code 998 = .ok (.aload_n 0, 1) := by decide +kernel
theorem d_law_999 : decode code 999 = .ok (.iload 4, 2) := by decide +kernel
theorem d_law_1001 : decode code 1001 = .ok (.iconst 1, 1) := by decide +kernel
theorem d_law_1002 : decode code 1002 = .ok (.iadd, 1) := by decide +kernel
theorem d_law_1003 : decode code 1003 = .ok (.iaload, 1) := by decide +kernel
theorem d_law_1004 : decode code 1004 = .ok (.invokevirtual 141, 3) := by decide +kernel
theorem d_law_1007 : decode code 1007 = .ok (.istore 6, 2) := by decide +kernel
theorem d_law_1009 : decode code 1009 = .ok (.aload_n 2, 1) := by decide +kernel
theorem d_law_1010 : decode code 1010 = .ok (.invokevirtual 94, 3) := by decide +kernel
theorem d_law_1013 : decode code 1013 = .ok (.iload 5, 2) := by decide +kernel
theorem d_law_1015 : decode code 1015 = .ok (.if_icmp .eq 5, 3) := by decide +kernel
theorem d_law_1018 : decode code 1018 = .ok (.iconst 0, 1) := by decide +kernel
theorem d_law_1019 : decode code 1019 = .ok (.ireturn, 1) := by decide +kernel
theorem d_law_1020 : decode code 1020 = .ok (.iload 5, 2) := by decide +kernel
theorem d_law_1022 : decode code 1022 = .ok (.ifCond .ne 15, 3) := by decide +kernel
theorem d_law_1025 : decode code 1025 = .ok (.aload_n 3, 1) := by decide +kernel
theorem d_law_1026 : decode code 1026 = .ok (.iconst 0, 1) := by decide +kernel
theorem d_law_1027 : decode code 1027 = .ok (.laload, 1) := by decide +kernel
theorem d_law_1028 : decode code 1028 = .ok (.iload 6, 2) := by decide +kernel
theorem d_law_1030 : decode code 1030 = .ok (.i2l, 1) := by decide +kernel
theorem d_law_1031 : decode code 1031 = .ok (.lcmp, 1) := by decide +kernel
theorem d_law_1032 : decode code 1032 = .ok (.ifCond .eq 5, 3) := by decide +kernel
theorem d_law_1035 : decode code 1035 = .ok (.iconst 0, 1) := by decide +kernel
theorem d_law_1036 : decode code 1036 = .ok (.ireturn, 1) := by decide +kernel
theorem d_law_1037 : decode code 1037 = .ok (.goto 512, 3) := by decide +kernel
theorem d_law_1040 : decode code 1040 = .ok (.aload_n 1, 1) := by decide +kernel
theorem d_law_1041 : decode code 1041 = .ok (.aload_n 0, 1) := by decide +kernel
theorem d_law_1042 : decode code 1042 = .ok (.iload 4, 2) := by decide +kernel
theorem d_law_1044 : decode code 1044 = .ok (.iconst 1, 1) := by decide +kernel
theorem d_law_1045 : decode code 1045 = .ok (.iadd, 1) := by decide +kernel
theorem d_law_1046 : decode code 1046 = .ok (.iaload, 1) := by decide +kernel
theorem d_law_1047 : decode code 1047 = .ok (.aload_n 0, 1) := by decide +kernel
theorem d_law_1048 : decode code 1048 = .ok (.iload 4, 2) := by decide +kernel
theorem d_law_1050 : decode code 1050 = .ok (.iconst 2, 1) := by decide +kernel
theorem d_law_1051 : decode code 1051 = .ok (.iadd, 1) := by decide +kernel
theorem d_law_1052 : decode code 1052 = .ok (.iaload, 1) := by decide +kernel
theorem d_law_1053 : decode code 1053 = .ok (.aload_n 3, 1) := by decide +kernel
theorem d_law_1054 : decode code 1054 = .ok (.invokestatic 142, 3) := by decide +kernel
theorem d_law_1057 : decode code 1057 = .ok (.istore 5, 2) := by decide +kernel
theorem d_law_1059 : decode code 1059 = .ok (.aload_n 2, 1) := by decide +kernel
theorem d_law_1060 : decode code 1060 = .ok (.aload_n 0, 1) := by decide +kernel
theorem d_law_1061 : decode code 1061 = .ok (.iload 4, 2) := by decide +kernel
theorem d_law_1063 : decode code 1063 = .ok (.iconst 1, 1) := by decide +kernel
theorem d_law_1064 : decode code 1064 = .ok (.iadd, 1) := by decide +kernel
theorem d_law_1065 : decode code 1065 = .ok (.iaload, 1) := by decide +kernel
theorem d_law_1066 : decode code 1066 = .ok (.aload_n 0, 1) := by decide +kernel
theorem d_law_1067 : decode code 1067 = .ok (.iload 4, 2) := by decide +kernel
theorem d_law_1069 : decode code 1069 = .ok (.iconst 2, 1) := by decide +kernel
theorem d_law_1070 : decode code 1070 = .ok (.iadd, 1) := by decide +kernel
theorem d_law_1071 : decode code 1071 = .ok (.iaload, 1) := by decide +kernel
theorem d_law_1072 : decode code 1072 = .ok (.invokevirtual 144, 3) := by decide +kernel
theorem d_law_1075 : decode code 1075 = .ok (.istore 6, 2) := by decide +kernel
theorem d_law_1077 : decode code 1077 = .ok (.aload_n 2, 1) := by decide +kernel
theorem d_law_1078 : decode code 1078 = .ok (.invokevirtual 94, 3) := by decide +kernel
theorem d_law_1081 : decode code 1081 = .ok (.iload 5, 2) := by decide +kernel
theorem d_law_1083 : decode code 1083 = .ok (.if_icmp .eq 5, 3) := by decide +kernel
theorem d_law_1086 : decode code 1086 = .ok (.iconst 0, 1) := by decide +kernel
theorem d_law_1087 : decode code 1087 = .ok (.ireturn, 1) := by decide +kernel
theorem d_law_1088 : decode code 1088 = .ok (.iload 5, 2) := by decide +kernel
theorem d_law_1090 : decode code 1090 = .ok (.ifCond .ne 15, 3) := by decide +kernel
theorem d_law_1093 : decode code 1093 = .ok (.aload_n 3, 1) := by decide +kernel
theorem d_law_1094 : decode code 1094 = .ok (.iconst 0, 1) := by decide +kernel
theorem d_law_1095 : decode code 1095 = .ok (.laload, 1) := by decide +kernel
theorem d_law_1096 : decode code 1096 = .ok (.iload 6, 2) := by decide +kernel
theorem d_law_1098 : decode code 1098 = .ok (.i2l, 1) := by decide +kernel
theorem d_law_1099 : decode code 1099 = .ok (.lcmp, 1) := by decide +kernel
theorem d_law_1100 : decode code 1100 = .ok (.ifCond .eq 5, 3) := by decide +kernel
theorem d_law_1103 : decode code 1103 = .ok (.iconst 0, 1) := by decide +kernel
theorem d_law_1104 : decode code 1104 = .ok (.ireturn, 1) := by decide +kernel
theorem d_law_1105 : decode code 1105 = .ok (.goto 444, 3) := by decide +kernel
theorem d_law_1108 : decode code 1108 = .ok (.aload_n 1, 1) := by decide +kernel
theorem d_law_1109 : decode code 1109 = .ok (.aload_n 0, 1) := by decide +kernel
theorem d_law_1110 : decode code 1110 = .ok (.iload 4, 2) := by decide +kernel
theorem d_law_1112 : decode code 1112 = .ok (.iconst 1, 1) := by decide +kernel
theorem d_law_1113 : decode code 1113 = .ok (.iadd, 1) := by decide +kernel
theorem d_law_1114 : decode code 1114 = .ok (.iaload, 1) := by decide +kernel
theorem d_law_1115 : decode code 1115 = .ok (.aload_n 0, 1) := by decide +kernel
theorem d_law_1116 : decode code 1116 = .ok (.iload 4, 2) := by decide +kernel
theorem d_law_1118 : decode code 1118 = .ok (.iconst 2, 1) := by decide +kernel
theorem d_law_1119 : decode code 1119 = .ok (.iadd, 1) := by decide +kernel
theorem d_law_1120 : decode code 1120 = .ok (.iaload, 1) := by decide +kernel
theorem d_law_1121 : decode code 1121 = .ok (.aload_n 3, 1) := by decide +kernel
theorem d_law_1122 : decode code 1122 = .ok (.invokestatic 145, 3) := by decide +kernel
theorem d_law_1125 : decode code 1125 = .ok (.istore 5, 2) := by decide +kernel
theorem d_law_1127 : decode code 1127 = .ok (.aload_n 2, 1) := by decide +kernel
theorem d_law_1128 : decode code 1128 = .ok (.aload_n 0, 1) := by decide +kernel
theorem d_law_1129 : decode code 1129 = .ok (.iload 4, 2) := by decide +kernel
theorem d_law_1131 : decode code 1131 = .ok (.iconst 1, 1) := by decide +kernel
theorem d_law_1132 : decode code 1132 = .ok (.iadd, 1) := by decide +kernel
theorem d_law_1133 : decode code 1133 = .ok (.iaload, 1) := by decide +kernel
theorem d_law_1134 : decode code 1134 = .ok (.aload_n 0, 1) := by decide +kernel
theorem d_law_1135 : decode code 1135 = .ok (.iload 4, 2) := by decide +kernel
theorem d_law_1137 : decode code 1137 = .ok (.iconst 2, 1) := by decide +kernel
theorem d_law_1138 : decode code 1138 = .ok (.iadd, 1) := by decide +kernel
theorem d_law_1139 : decode code 1139 = .ok (.iaload, 1) := by decide +kernel
theorem d_law_1140 : decode code 1140 = .ok (.invokevirtual 147, 3) := by decide +kernel
theorem d_law_1143 : decode code 1143 = .ok (.istore 6, 2) := by decide +kernel
theorem d_law_1145 : decode code 1145 = .ok (.aload_n 2, 1) := by decide +kernel
theorem d_law_1146 : decode code 1146 = .ok (.invokevirtual 94, 3) := by decide +kernel
theorem d_law_1149 : decode code 1149 = .ok (.iload 5, 2) := by decide +kernel
theorem d_law_1151 : decode code 1151 = .ok (.if_icmp .eq 5, 3) := by decide +kernel
theorem d_law_1154 : decode code 1154 = .ok (.iconst 0, 1) := by decide +kernel
theorem d_law_1155 : decode code 1155 = .ok (.ireturn, 1) := by decide +kernel
theorem d_law_1156 : decode code 1156 = .ok (.iload 5, 2) := by decide +kernel
theorem d_law_1158 : decode code 1158 = .ok (.ifCond .ne 15, 3) := by decide +kernel
theorem d_law_1161 : decode code 1161 = .ok (.aload_n 3, 1) := by decide +kernel
theorem d_law_1162 : decode code 1162 = .ok (.iconst 0, 1) := by decide +kernel
theorem d_law_1163 : decode code 1163 = .ok (.laload, 1) := by decide +kernel
theorem d_law_1164 : decode code 1164 = .ok (.iload 6, 2) := by decide +kernel
theorem d_law_1166 : decode code 1166 = .ok (.i2l, 1) := by decide +kernel
theorem d_law_1167 : decode code 1167 = .ok (.lcmp, 1) := by decide +kernel
theorem d_law_1168 : decode code 1168 = .ok (.ifCond .eq 5, 3) := by decide +kernel
theorem d_law_1171 : decode code 1171 = .ok (.iconst 0, 1) := by decide +kernel
theorem d_law_1172 : decode code 1172 = .ok (.ireturn, 1) := by decide +kernel
theorem d_law_1173 : decode code 1173 = .ok (.goto 376, 3) := by decide +kernel
theorem d_law_1176 : decode code 1176 = .ok (.aload_n 1, 1) := by decide +kernel
theorem d_law_1177 : decode code 1177 = .ok (.aload_n 0, 1) := by decide +kernel
theorem d_law_1178 : decode code 1178 = .ok (.iload 4, 2) := by decide +kernel
theorem d_law_1180 : decode code 1180 = .ok (.iconst 1, 1) := by decide +kernel
theorem d_law_1181 : decode code 1181 = .ok (.iadd, 1) := by decide +kernel
theorem d_law_1182 : decode code 1182 = .ok (.iaload, 1) := by decide +kernel
theorem d_law_1183 : decode code 1183 = .ok (.aload_n 0, 1) := by decide +kernel
theorem d_law_1184 : decode code 1184 = .ok (.iload 4, 2) := by decide +kernel
theorem d_law_1186 : decode code 1186 = .ok (.iconst 2, 1) := by decide +kernel
theorem d_law_1187 : decode code 1187 = .ok (.iadd, 1) := by decide +kernel
theorem d_law_1188 : decode code 1188 = .ok (.iaload, 1) := by decide +kernel
theorem d_law_1189 : decode code 1189 = .ok (.aload_n 3, 1) := by decide +kernel
theorem d_law_1190 : decode code 1190 = .ok (.invokestatic 148, 3) := by decide +kernel
theorem d_law_1193 : decode code 1193 = .ok (.istore 5, 2) := by decide +kernel
theorem d_law_1195 : decode code 1195 = .ok (.aload_n 2, 1) := by decide +kernel
theorem d_law_1196 : decode code 1196 = .ok (.aload_n 0, 1) := by decide +kernel
theorem d_law_1197 : decode code 1197 = .ok (.iload 4, 2) := by decide +kernel
theorem d_law_1199 : decode code 1199 = .ok (.iconst 1, 1) := by decide +kernel
theorem d_law_1200 : decode code 1200 = .ok (.iadd, 1) := by decide +kernel
theorem d_law_1201 : decode code 1201 = .ok (.iaload, 1) := by decide +kernel
theorem d_law_1202 : decode code 1202 = .ok (.aload_n 0, 1) := by decide +kernel
theorem d_law_1203 : decode code 1203 = .ok (.iload 4, 2) := by decide +kernel
theorem d_law_1205 : decode code 1205 = .ok (.iconst 2, 1) := by decide +kernel
theorem d_law_1206 : decode code 1206 = .ok (.iadd, 1) := by decide +kernel
theorem d_law_1207 : decode code 1207 = .ok (.iaload, 1) := by decide +kernel
theorem d_law_1208 : decode code 1208 = .ok (.invokevirtual 150, 3) := by decide +kernel
theorem d_law_1211 : decode code 1211 = .ok (.istore 6, 2) := by decide +kernel
theorem d_law_1213 : decode code 1213 = .ok (.aload_n 2, 1) := by decide +kernel
theorem d_law_1214 : decode code 1214 = .ok (.invokevirtual 94, 3) := by decide +kernel
theorem d_law_1217 : decode code 1217 = .ok (.iload 5, 2) := by decide +kernel
theorem d_law_1219 : decode code 1219 = .ok (.if_icmp .eq 5, 3) := by decide +kernel
theorem d_law_1222 : decode code 1222 = .ok (.iconst 0, 1) := by decide +kernel
theorem d_law_1223 : decode code 1223 = .ok (.ireturn, 1) := by decide +kernel
theorem d_law_1224 : decode code 1224 = .ok (.iload 5, 2) := by decide +kernel
theorem d_law_1226 : decode code 1226 = .ok (.ifCond .ne 15, 3) := by decide +kernel
theorem d_law_1229 : decode code 1229 = .ok (.aload_n 3, 1) := by decide +kernel
theorem d_law_1230 : decode code 1230 = .ok (.iconst 0, 1) := by decide +kernel
theorem d_law_1231 : decode code 1231 = .ok (.laload, 1) := by decide +kernel
theorem d_law_1232 : decode code 1232 = .ok (.iload 6, 2) := by decide +kernel
theorem d_law_1234 : decode code 1234 = .ok (.i2l, 1) := by decide +kernel
theorem d_law_1235 : decode code 1235 = .ok (.lcmp, 1) := by decide +kernel
theorem d_law_1236 : decode code 1236 = .ok (.ifCond .eq 5, 3) := by decide +kernel
theorem d_law_1239 : decode code 1239 = .ok (.iconst 0, 1) := by decide +kernel
theorem d_law_1240 : decode code 1240 = .ok (.ireturn, 1) := by decide +kernel
theorem d_law_1241 : decode code 1241 = .ok (.goto 308, 3) := by decide +kernel
theorem d_law_1244 : decode code 1244 = .ok (.aload_n 1, 1) := by decide +kernel
theorem d_law_1245 : decode code 1245 = .ok (.aload_n 0, 1) := by decide +kernel
theorem d_law_1246 : decode code 1246 = .ok (.iload 4, 2) := by decide +kernel
theorem d_law_1248 : decode code 1248 = .ok (.iconst 1, 1) := by decide +kernel
theorem d_law_1249 : decode code 1249 = .ok (.iadd, 1) := by decide +kernel
theorem d_law_1250 : decode code 1250 = .ok (.iaload, 1) := by decide +kernel
theorem d_law_1251 : decode code 1251 = .ok (.aload_n 3, 1) := by decide +kernel
theorem d_law_1252 : decode code 1252 = .ok (.invokestatic 151, 3) := by decide +kernel
theorem d_law_1255 : decode code 1255 = .ok (.istore 5, 2) := by decide +kernel
theorem d_law_1257 : decode code 1257 = .ok (.aload_n 2, 1) := by decide +kernel
theorem d_law_1258 : decode code 1258 = .ok (.aload_n 0, 1) := by decide +kernel
theorem d_law_1259 : decode code 1259 = .ok (.iload 4, 2) := by decide +kernel
theorem d_law_1261 : decode code 1261 = .ok (.iconst 1, 1) := by decide +kernel
theorem d_law_1262 : decode code 1262 = .ok (.iadd, 1) := by decide +kernel
theorem d_law_1263 : decode code 1263 = .ok (.iaload, 1) := by decide +kernel
theorem d_law_1264 : decode code 1264 = .ok (.invokevirtual 153, 3) := by decide +kernel
theorem d_law_1267 : decode code 1267 = .ok (.istore 6, 2) := by decide +kernel
theorem d_law_1269 : decode code 1269 = .ok (.aload_n 2, 1) := by decide +kernel
theorem d_law_1270 : decode code 1270 = .ok (.invokevirtual 94, 3) := by decide +kernel
theorem d_law_1273 : decode code 1273 = .ok (.iload 5, 2) := by decide +kernel
theorem d_law_1275 : decode code 1275 = .ok (.if_icmp .eq 5, 3) := by decide +kernel
theorem d_law_1278 : decode code 1278 = .ok (.iconst 0, 1) := by decide +kernel
theorem d_law_1279 : decode code 1279 = .ok (.ireturn, 1) := by decide +kernel
theorem d_law_1280 : decode code 1280 = .ok (.iload 5, 2) := by decide +kernel
theorem d_law_1282 : decode code 1282 = .ok (.ifCond .ne 15, 3) := by decide +kernel
theorem d_law_1285 : decode code 1285 = .ok (.aload_n 3, 1) := by decide +kernel
theorem d_law_1286 : decode code 1286 = .ok (.iconst 0, 1) := by decide +kernel
theorem d_law_1287 : decode code 1287 = .ok (.laload, 1) := by decide +kernel
theorem d_law_1288 : decode code 1288 = .ok (.iload 6, 2) := by decide +kernel
theorem d_law_1290 : decode code 1290 = .ok (.i2l, 1) := by decide +kernel
theorem d_law_1291 : decode code 1291 = .ok (.lcmp, 1) := by decide +kernel
theorem d_law_1292 : decode code 1292 = .ok (.ifCond .eq 5, 3) := by decide +kernel
theorem d_law_1295 : decode code 1295 = .ok (.iconst 0, 1) := by decide +kernel
theorem d_law_1296 : decode code 1296 = .ok (.ireturn, 1) := by decide +kernel
theorem d_law_1297 : decode code 1297 = .ok (.goto 252, 3) := by decide +kernel
theorem d_law_1300 : decode code 1300 = .ok (.aload_n 1, 1) := by decide +kernel
theorem d_law_1301 : decode code 1301 = .ok (.aload_n 0, 1) := by decide +kernel
theorem d_law_1302 : decode code 1302 = .ok (.iload 4, 2) := by decide +kernel
theorem d_law_1304 : decode code 1304 = .ok (.iconst 1, 1) := by decide +kernel
theorem d_law_1305 : decode code 1305 = .ok (.iadd, 1) := by decide +kernel
theorem d_law_1306 : decode code 1306 = .ok (.iaload, 1) := by decide +kernel
theorem d_law_1307 : decode code 1307 = .ok (.aload_n 3, 1) := by decide +kernel
theorem d_law_1308 : decode code 1308 = .ok (.invokestatic 154, 3) := by decide +kernel
theorem d_law_1311 : decode code 1311 = .ok (.istore 5, 2) := by decide +kernel
theorem d_law_1313 : decode code 1313 = .ok (.aload_n 2, 1) := by decide +kernel
theorem d_law_1314 : decode code 1314 = .ok (.aload_n 0, 1) := by decide +kernel
theorem d_law_1315 : decode code 1315 = .ok (.iload 4, 2) := by decide +kernel
theorem d_law_1317 : decode code 1317 = .ok (.iconst 1, 1) := by decide +kernel
theorem d_law_1318 : decode code 1318 = .ok (.iadd, 1) := by decide +kernel
theorem d_law_1319 : decode code 1319 = .ok (.iaload, 1) := by decide +kernel
theorem d_law_1320 : decode code 1320 = .ok (.invokevirtual 156, 3) := by decide +kernel
theorem d_law_1323 : decode code 1323 = .ok (.istore 6, 2) := by decide +kernel
theorem d_law_1325 : decode code 1325 = .ok (.aload_n 2, 1) := by decide +kernel
theorem d_law_1326 : decode code 1326 = .ok (.invokevirtual 94, 3) := by decide +kernel
theorem d_law_1329 : decode code 1329 = .ok (.iload 5, 2) := by decide +kernel
theorem d_law_1331 : decode code 1331 = .ok (.if_icmp .eq 5, 3) := by decide +kernel
theorem d_law_1334 : decode code 1334 = .ok (.iconst 0, 1) := by decide +kernel
theorem d_law_1335 : decode code 1335 = .ok (.ireturn, 1) := by decide +kernel
theorem d_law_1336 : decode code 1336 = .ok (.iload 5, 2) := by decide +kernel
theorem d_law_1338 : decode code 1338 = .ok (.ifCond .ne 15, 3) := by decide +kernel
theorem d_law_1341 : decode code 1341 = .ok (.aload_n 3, 1) := by decide +kernel
theorem d_law_1342 : decode code 1342 = .ok (.iconst 0, 1) := by decide +kernel
theorem d_law_1343 : decode code 1343 = .ok (.laload, 1) := by decide +kernel
theorem d_law_1344 : decode code 1344 = .ok (.iload 6, 2) := by decide +kernel
theorem d_law_1346 : decode code 1346 = .ok (.i2l, 1) := by decide +kernel
theorem d_law_1347 : decode code 1347 = .ok (.lcmp, 1) := by decide +kernel
theorem d_law_1348 : decode code 1348 = .ok (.ifCond .eq 5, 3) := by decide +kernel
theorem d_law_1351 : decode code 1351 = .ok (.iconst 0, 1) := by decide +kernel
theorem d_law_1352 : decode code 1352 = .ok (.ireturn, 1) := by decide +kernel
theorem d_law_1353 : decode code 1353 = .ok (.goto 196, 3) := by decide +kernel
theorem d_law_1356 : decode code 1356 = .ok (.aload_n 1, 1) := by decide +kernel
theorem d_law_1357 : decode code 1357 = .ok (.aload_n 0, 1) := by decide +kernel
theorem d_law_1358 : decode code 1358 = .ok (.iload 4, 2) := by decide +kernel
theorem d_law_1360 : decode code 1360 = .ok (.iconst 1, 1) := by decide +kernel
theorem d_law_1361 : decode code 1361 = .ok (.iadd, 1) := by decide +kernel
theorem d_law_1362 : decode code 1362 = .ok (.iaload, 1) := by decide +kernel
theorem d_law_1363 : decode code 1363 = .ok (.aload_n 3, 1) := by decide +kernel
theorem d_law_1364 : decode code 1364 = .ok (.invokestatic 157, 3) := by decide +kernel
theorem d_law_1367 : decode code 1367 = .ok (.istore 5, 2) := by decide +kernel
theorem d_law_1369 : decode code 1369 = .ok (.aload_n 2, 1) := by decide +kernel
theorem d_law_1370 : decode code 1370 = .ok (.aload_n 0, 1) := by decide +kernel
theorem d_law_1371 : decode code 1371 = .ok (.iload 4, 2) := by decide +kernel
theorem d_law_1373 : decode code 1373 = .ok (.iconst 1, 1) := by decide +kernel
theorem d_law_1374 : decode code 1374 = .ok (.iadd, 1) := by decide +kernel
theorem d_law_1375 : decode code 1375 = .ok (.iaload, 1) := by decide +kernel
theorem d_law_1376 : decode code 1376 = .ok (.invokevirtual 159, 3) := by decide +kernel
theorem d_law_1379 : decode code 1379 = .ok (.istore 6, 2) := by decide +kernel
theorem d_law_1381 : decode code 1381 = .ok (.aload_n 2, 1) := by decide +kernel
theorem d_law_1382 : decode code 1382 = .ok (.invokevirtual 94, 3) := by decide +kernel
theorem d_law_1385 : decode code 1385 = .ok (.iload 5, 2) := by decide +kernel
theorem d_law_1387 : decode code 1387 = .ok (.if_icmp .eq 5, 3) := by decide +kernel
theorem d_law_1390 : decode code 1390 = .ok (.iconst 0, 1) := by decide +kernel
theorem d_law_1391 : decode code 1391 = .ok (.ireturn, 1) := by decide +kernel
theorem d_law_1392 : decode code 1392 = .ok (.iload 5, 2) := by decide +kernel
theorem d_law_1394 : decode code 1394 = .ok (.ifCond .ne 15, 3) := by decide +kernel
theorem d_law_1397 : decode code 1397 = .ok (.aload_n 3, 1) := by decide +kernel
theorem d_law_1398 : decode code 1398 = .ok (.iconst 0, 1) := by decide +kernel
theorem d_law_1399 : decode code 1399 = .ok (.laload, 1) := by decide +kernel
theorem d_law_1400 : decode code 1400 = .ok (.iload 6, 2) := by decide +kernel
theorem d_law_1402 : decode code 1402 = .ok (.i2l, 1) := by decide +kernel
theorem d_law_1403 : decode code 1403 = .ok (.lcmp, 1) := by decide +kernel
theorem d_law_1404 : decode code 1404 = .ok (.ifCond .eq 5, 3) := by decide +kernel
theorem d_law_1407 : decode code 1407 = .ok (.iconst 0, 1) := by decide +kernel
theorem d_law_1408 : decode code 1408 = .ok (.ireturn, 1) := by decide +kernel
theorem d_law_1409 : decode code 1409 = .ok (.goto 140, 3) := by decide +kernel
theorem d_law_1412 : decode code 1412 = .ok (.aload_n 1, 1) := by decide +kernel
theorem d_law_1413 : decode code 1413 = .ok (.invokevirtual 160, 3) := by decide +kernel
theorem d_law_1416 : decode code 1416 = .ok (.aload_n 2, 1) := by decide +kernel
theorem d_law_1417 : decode code 1417 = .ok (.invokevirtual 163, 3) := by decide +kernel
theorem d_law_1420 : decode code 1420 = .ok (.if_icmp .eq 129, 3) := by decide +kernel
theorem d_law_1423 : decode code 1423 = .ok (.iconst 0, 1) := by decide +kernel
theorem d_law_1424 : decode code 1424 = .ok (.ireturn, 1) := by decide +kernel
theorem d_law_1425 : decode code 1425 = .ok (.aload_n 1, 1) := by decide +kernel
theorem d_law_1426 : decode code 1426 = .ok (.aload_n 0, 1) := by decide +kernel
theorem d_law_1427 : decode code 1427 = .ok (.iload 4, 2) := by decide +kernel
theorem d_law_1429 : decode code 1429 = .ok (.iconst 1, 1) := by decide +kernel
theorem d_law_1430 : decode code 1430 = .ok (.iadd, 1) := by decide +kernel
theorem d_law_1431 : decode code 1431 = .ok (.iaload, 1) := by decide +kernel
theorem d_law_1432 : decode code 1432 = .ok (.aload_n 3, 1) := by decide +kernel
theorem d_law_1433 : decode code 1433 = .ok (.invokestatic 164, 3) := by decide +kernel
theorem d_law_1436 : decode code 1436 = .ok (.istore 5, 2) := by decide +kernel
theorem d_law_1438 : decode code 1438 = .ok (.aload_n 2, 1) := by decide +kernel
theorem d_law_1439 : decode code 1439 = .ok (.aload_n 0, 1) := by decide +kernel
theorem d_law_1440 : decode code 1440 = .ok (.iload 4, 2) := by decide +kernel
theorem d_law_1442 : decode code 1442 = .ok (.iconst 1, 1) := by decide +kernel
theorem d_law_1443 : decode code 1443 = .ok (.iadd, 1) := by decide +kernel
theorem d_law_1444 : decode code 1444 = .ok (.iaload, 1) := by decide +kernel
theorem d_law_1445 : decode code 1445 = .ok (.invokevirtual 166, 3) := by decide +kernel
theorem d_law_1448 : decode code 1448 = .ok (.istore 6, 2) := by decide +kernel
theorem d_law_1450 : decode code 1450 = .ok (.aload_n 2, 1) := by decide +kernel
theorem d_law_1451 : decode code 1451 = .ok (.invokevirtual 94, 3) := by decide +kernel
theorem d_law_1454 : decode code 1454 = .ok (.iload 5, 2) := by decide +kernel
theorem d_law_1456 : decode code 1456 = .ok (.if_icmp .eq 5, 3) := by decide +kernel
theorem d_law_1459 : decode code 1459 = .ok (.iconst 0, 1) := by decide +kernel
theorem d_law_1460 : decode code 1460 = .ok (.ireturn, 1) := by decide +kernel
theorem d_law_1461 : decode code 1461 = .ok (.iload 5, 2) := by decide +kernel
theorem d_law_1463 : decode code 1463 = .ok (.ifCond .ne 15, 3) := by decide +kernel
theorem d_law_1466 : decode code 1466 = .ok (.aload_n 3, 1) := by decide +kernel
theorem d_law_1467 : decode code 1467 = .ok (.iconst 0, 1) := by decide +kernel
theorem d_law_1468 : decode code 1468 = .ok (.laload, 1) := by decide +kernel
theorem d_law_1469 : decode code 1469 = .ok (.iload 6, 2) := by decide +kernel
theorem d_law_1471 : decode code 1471 = .ok (.i2l, 1) := by decide +kernel
theorem d_law_1472 : decode code 1472 = .ok (.lcmp, 1) := by decide +kernel
theorem d_law_1473 : decode code 1473 = .ok (.ifCond .eq 5, 3) := by decide +kernel
theorem d_law_1476 : decode code 1476 = .ok (.iconst 0, 1) := by decide +kernel
theorem d_law_1477 : decode code 1477 = .ok (.ireturn, 1) := by decide +kernel
theorem d_law_1478 : decode code 1478 = .ok (.goto 71, 3) := by decide +kernel
theorem d_law_1481 : decode code 1481 = .ok (.aload_n 1, 1) := by decide +kernel
theorem d_law_1482 : decode code 1482 = .ok (.aload_n 0, 1) := by decide +kernel
theorem d_law_1483 : decode code 1483 = .ok (.iload 4, 2) := by decide +kernel
theorem d_law_1485 : decode code 1485 = .ok (.iconst 1, 1) := by decide +kernel
theorem d_law_1486 : decode code 1486 = .ok (.iadd, 1) := by decide +kernel
theorem d_law_1487 : decode code 1487 = .ok (.iaload, 1) := by decide +kernel
theorem d_law_1488 : decode code 1488 = .ok (.aload_n 0, 1) := by decide +kernel
theorem d_law_1489 : decode code 1489 = .ok (.iload 4, 2) := by decide +kernel
theorem d_law_1491 : decode code 1491 = .ok (.iconst 2, 1) := by decide +kernel
theorem d_law_1492 : decode code 1492 = .ok (.iadd, 1) := by decide +kernel
theorem d_law_1493 : decode code 1493 = .ok (.iaload, 1) := by decide +kernel
theorem d_law_1494 : decode code 1494 = .ok (.aload_n 3, 1) := by decide +kernel
theorem d_law_1495 : decode code 1495 = .ok (.invokestatic 167, 3) := by decide +kernel
theorem d_law_1498 : decode code 1498 = .ok (.istore 5, 2) := by decide +kernel
theorem d_law_1500 : decode code 1500 = .ok (.aload_n 2, 1) := by decide +kernel
theorem d_law_1501 : decode code 1501 = .ok (.aload_n 0, 1) := by decide +kernel
theorem d_law_1502 : decode code 1502 = .ok (.iload 4, 2) := by decide +kernel
theorem d_law_1504 : decode code 1504 = .ok (.iconst 1, 1) := by decide +kernel
theorem d_law_1505 : decode code 1505 = .ok (.iadd, 1) := by decide +kernel
theorem d_law_1506 : decode code 1506 = .ok (.iaload, 1) := by decide +kernel
theorem d_law_1507 : decode code 1507 = .ok (.aload_n 0, 1) := by decide +kernel
theorem d_law_1508 : decode code 1508 = .ok (.iload 4, 2) := by decide +kernel
theorem d_law_1510 : decode code 1510 = .ok (.iconst 2, 1) := by decide +kernel
theorem d_law_1511 : decode code 1511 = .ok (.iadd, 1) := by decide +kernel
theorem d_law_1512 : decode code 1512 = .ok (.iaload, 1) := by decide +kernel
theorem d_law_1513 : decode code 1513 = .ok (.invokevirtual 169, 3) := by decide +kernel
theorem d_law_1516 : decode code 1516 = .ok (.istore 6, 2) := by decide +kernel
theorem d_law_1518 : decode code 1518 = .ok (.aload_n 2, 1) := by decide +kernel
theorem d_law_1519 : decode code 1519 = .ok (.invokevirtual 94, 3) := by decide +kernel
theorem d_law_1522 : decode code 1522 = .ok (.iload 5, 2) := by decide +kernel
theorem d_law_1524 : decode code 1524 = .ok (.if_icmp .eq 5, 3) := by decide +kernel
theorem d_law_1527 : decode code 1527 = .ok (.iconst 0, 1) := by decide +kernel
theorem d_law_1528 : decode code 1528 = .ok (.ireturn, 1) := by decide +kernel
theorem d_law_1529 : decode code 1529 = .ok (.iload 5, 2) := by decide +kernel
theorem d_law_1531 : decode code 1531 = .ok (.ifCond .ne 15, 3) := by decide +kernel
theorem d_law_1534 : decode code 1534 = .ok (.aload_n 3, 1) := by decide +kernel
theorem d_law_1535 : decode code 1535 = .ok (.iconst 0, 1) := by decide +kernel
theorem d_law_1536 : decode code 1536 = .ok (.laload, 1) := by decide +kernel
theorem d_law_1537 : decode code 1537 = .ok (.iload 6, 2) := by decide +kernel
theorem d_law_1539 : decode code 1539 = .ok (.i2l, 1) := by decide +kernel
theorem d_law_1540 : decode code 1540 = .ok (.lcmp, 1) := by decide +kernel
theorem d_law_1541 : decode code 1541 = .ok (.ifCond .eq 5, 3) := by decide +kernel
theorem d_law_1544 : decode code 1544 = .ok (.iconst 0, 1) := by decide +kernel
theorem d_law_1545 : decode code 1545 = .ok (.ireturn, 1) := by decide +kernel
theorem d_law_1546 : decode code 1546 = .ok (.goto 3, 3) := by decide +kernel
theorem d_law_1549 : decode code 1549 = .ok (.iinc 4 6, 3) := by decide +kernel
theorem d_law_1552 : decode code 1552 = .ok (.goto (-1529), 3) := by decide +kernel
theorem d_law_1555 : decode code 1555 = .ok (.iconst 1, 1) := by decide +kernel
theorem d_law_1556 : decode code 1556 = .ok (.ireturn, 1) := by decide +kernel
end
section
/-! ===== the classes that objects of the world have ===== -/
def F_T : u_T := fun k => match k with
  | 0 => ("TwinRegister", "draft", "LTwinRegister$Draft;", true)
  | 1 => ("TwinRegister", "deviceRows", "[LTwinRegister$Device;", true)
  | 2 => ("TwinRegister", "groupRows", "[LTwinRegister$Group;", true)
  | 3 => ("TwinRegister", "jobRows", "[LTwinRegister$Job;", true)
  | _ => ("TwinRegister", "jobCount", "I", false)
def ft_T : Nat → FieldType := fun k => match k with
  | 0 => .object "TwinRegister$Draft"
  | 1 => .array (.object "TwinRegister$Device")
  | 2 => .array (.object "TwinRegister$Group")
  | 3 => .array (.object "TwinRegister$Job")
  | _ => .int
theorem n_T : ∀ a, a < 5 → ∀ b, b < 5 → a ≠ b → (F_T a).2.1 ≠ (F_T b).2.1 := by decide +kernel
theorem ft_T_ok : ∀ k, k < 5 → parseFieldDescriptor (F_T k).2.2.1 = some (ft_T k) := by decide +kernel
set_option maxRecDepth 20000 in
theorem i_T : ∀ w ∈ u_ws "TwinRegister" F_T 5, w ∈ ag_all := by decide +kernel
def F_F : u_T := fun k => match k with
  | 0 => ("TwinRegister$Draft", "values", "[I", true)
  | _ => ("TwinRegister$Draft", "leaves", "I", false)
def ft_F : Nat → FieldType := fun k => match k with
  | 0 => .array (.int)
  | _ => .int
theorem n_F : ∀ a, a < 2 → ∀ b, b < 2 → a ≠ b → (F_F a).2.1 ≠ (F_F b).2.1 := by decide +kernel
theorem ft_F_ok : ∀ k, k < 2 → parseFieldDescriptor (F_F k).2.2.1 = some (ft_F k) := by decide +kernel
set_option maxRecDepth 20000 in
theorem i_F : ∀ w ∈ u_ws "TwinRegister$Draft" F_F 2, w ∈ ag_all := by decide +kernel
def F_D : u_T := fun k => match k with
  | 0 => ("TwinRegister$Device", "wishedValues", "[I", true)
  | 1 => ("TwinRegister$Device", "reportedValues", "[I", true)
  | 2 => ("TwinRegister$Device", "reasons", "[I", true)
  | 3 => ("TwinRegister$Device", "differing", "I", false)
  | 4 => ("TwinRegister$Device", "latestVersion", "I", false)
  | 5 => ("TwinRegister$Device", "versionBeforeSleep", "I", false)
  | 6 => ("TwinRegister$Device", "latestReport", "I", false)
  | _ => ("TwinRegister$Device", "asleep", "Z", false)
def ft_D : Nat → FieldType := fun k => match k with
  | 0 => .array (.int)
  | 1 => .array (.int)
  | 2 => .array (.int)
  | 3 => .int
  | 4 => .int
  | 5 => .int
  | 6 => .int
  | _ => .boolean
theorem n_D : ∀ a, a < 8 → ∀ b, b < 8 → a ≠ b → (F_D a).2.1 ≠ (F_D b).2.1 := by decide +kernel
theorem ft_D_ok : ∀ k, k < 8 → parseFieldDescriptor (F_D k).2.2.1 = some (ft_D k) := by decide +kernel
set_option maxRecDepth 20000 in
theorem i_D : ∀ w ∈ u_ws "TwinRegister$Device" F_D 8, w ∈ ag_all := by decide +kernel
def F_G : u_T := fun k => match k with
  | 0 => ("TwinRegister$Group", "leaf", "I", false)
  | 1 => ("TwinRegister$Group", "low", "I", false)
  | _ => ("TwinRegister$Group", "high", "I", false)
def ft_G : Nat → FieldType := fun k => match k with
  | 0 => .int
  | 1 => .int
  | _ => .int
theorem n_G : ∀ a, a < 3 → ∀ b, b < 3 → a ≠ b → (F_G a).2.1 ≠ (F_G b).2.1 := by decide +kernel
theorem ft_G_ok : ∀ k, k < 3 → parseFieldDescriptor (F_G k).2.2.1 = some (ft_G k) := by decide +kernel
set_option maxRecDepth 20000 in
theorem i_G : ∀ w ∈ u_ws "TwinRegister$Group" F_G 3, w ∈ ag_all := by decide +kernel
def F_J : u_T := fun k => match k with
  | 0 => ("TwinRegister$Job", "group", "I", false)
  | 1 => ("TwinRegister$Job", "leaf", "I", false)
  | 2 => ("TwinRegister$Job", "value", "I", false)
  | 3 => ("TwinRegister$Job", "rate", "I", false)
  | 4 => ("TwinRegister$Job", "bound", "I", false)
  | 5 => ("TwinRegister$Job", "condition", "I", false)
  | 6 => ("TwinRegister$Job", "started", "I", false)
  | 7 => ("TwinRegister$Job", "done", "I", false)
  | _ => ("TwinRegister$Job", "failed", "I", false)
def ft_J : Nat → FieldType := fun k => match k with
  | 0 => .int
  | 1 => .int
  | 2 => .int
  | 3 => .int
  | 4 => .int
  | 5 => .int
  | 6 => .int
  | 7 => .int
  | _ => .int
theorem n_J : ∀ a, a < 9 → ∀ b, b < 9 → a ≠ b → (F_J a).2.1 ≠ (F_J b).2.1 := by decide +kernel
theorem ft_J_ok : ∀ k, k < 9 → parseFieldDescriptor (F_J k).2.2.1 = some (ft_J k) := by decide +kernel
set_option maxRecDepth 20000 in
theorem i_J : ∀ w ∈ u_ws "TwinRegister$Job" F_J 9, w ∈ ag_all := by decide +kernel
def F_M : u_T := fun k => match k with
  | 0 => ("TwinRegisterModel", "thrown", "I", false)
  | 1 => ("TwinRegisterModel", "wished", "[I", true)
  | 2 => ("TwinRegisterModel", "reported", "[I", true)
  | 3 => ("TwinRegisterModel", "reason", "[I", true)
  | 4 => ("TwinRegisterModel", "version", "[I", true)
  | 5 => ("TwinRegisterModel", "heard", "[I", true)
  | 6 => ("TwinRegisterModel", "isAsleep", "[Z", true)
  | 7 => ("TwinRegisterModel", "latest", "[I", true)
  | 8 => ("TwinRegisterModel", "draft", "[I", true)
  | 9 => ("TwinRegisterModel", "groupLeaf", "[I", true)
  | 10 => ("TwinRegisterModel", "low", "[I", true)
  | 11 => ("TwinRegisterModel", "high", "[I", true)
  | 12 => ("TwinRegisterModel", "jobs", "I", false)
  | 13 => ("TwinRegisterModel", "group", "[I", true)
  | 14 => ("TwinRegisterModel", "leaf", "[I", true)
  | 15 => ("TwinRegisterModel", "value", "[I", true)
  | 16 => ("TwinRegisterModel", "rate", "[I", true)
  | 17 => ("TwinRegisterModel", "bound", "[I", true)
  | 18 => ("TwinRegisterModel", "state", "[I", true)
  | 19 => ("TwinRegisterModel", "started", "[I", true)
  | 20 => ("TwinRegisterModel", "done", "[I", true)
  | _ => ("TwinRegisterModel", "failed", "[I", true)
def ft_M : Nat → FieldType := fun k => match k with
  | 0 => .int
  | 1 => .array (.int)
  | 2 => .array (.int)
  | 3 => .array (.int)
  | 4 => .array (.int)
  | 5 => .array (.int)
  | 6 => .array (.boolean)
  | 7 => .array (.int)
  | 8 => .array (.int)
  | 9 => .array (.int)
  | 10 => .array (.int)
  | 11 => .array (.int)
  | 12 => .int
  | 13 => .array (.int)
  | 14 => .array (.int)
  | 15 => .array (.int)
  | 16 => .array (.int)
  | 17 => .array (.int)
  | 18 => .array (.int)
  | 19 => .array (.int)
  | 20 => .array (.int)
  | _ => .array (.int)
theorem n_M : ∀ a, a < 22 → ∀ b, b < 22 → a ≠ b → (F_M a).2.1 ≠ (F_M b).2.1 := by decide +kernel
theorem ft_M_ok : ∀ k, k < 22 → parseFieldDescriptor (F_M k).2.2.1 = some (ft_M k) := by decide +kernel
set_option maxRecDepth 20000 in
theorem i_M : ∀ w ∈ u_ws "TwinRegisterModel" F_M 22, w ∈ ag_all := by decide +kernel
abbrev gcl : List vw_C := [("TwinRegister", F_T, 5), ("TwinRegister$Draft", F_F, 2), ("TwinRegister$Device", F_D, 8), ("TwinRegister$Group", F_G, 3), ("TwinRegister$Job", F_J, 9), ("TwinRegisterModel", F_M, 22)]
abbrev gty (cs : Nat → ClassId) : List (ClassId × FieldType) := [(cs 0, .int), (cs 1, .boolean), (cs 2, .long), (cs 3, .object "TwinRegister$Device"), (cs 4, .object "TwinRegister$Group"), (cs 5, .object "TwinRegister$Job")]
/-! ===== a world by places: the cell of place i lies at ad i and holds E i ===== -/
def iw (ad : Nat → Nat) (n : Nat) (E : Nat → va_E) : va_W := (List.range n).map (fun i => (ad i, E i))
theorem iw_len {ad : Nat → Nat} {n : Nat} {E : Nat → va_E} : (iw ad n E).length = n := by simp [iw]
theorem iw_get {ad : Nat → Nat} {n : Nat} {E : Nat → va_E} {i : Nat} (h : i < n) : (iw ad n E)[i]? = some (ad i, E i) := by
  unfold iw
  rw [List.getElem?_map, List.getElem?_range h]
  rfl
theorem iw_inv {ad : Nat → Nat} {n : Nat} {E : Nat → va_E} {k : Nat} {q : Nat × va_E} (h : (iw ad n E)[k]? = some q) : k < n ∧ q = (ad k, E k) := by
  have hk : k < n := by
    have h1 := (List.getElem?_eq_some_iff.mp h).1
    rwa [iw_len] at h1
  rw [iw_get hk] at h
  exact ⟨hk, (Option.some.inj h).symm⟩
theorem iw_set {ad : Nat → Nat} {n : Nat} {E : Nat → va_E} {i : Nat} {e : va_E} : (iw ad n E).set i (ad i, e) = iw ad n (va_up E i e) := by
  apply List.ext_getElem?
  intro k
  by_cases hk : k < n
  · by_cases hi : k = i
    · subst hi
      rw [List.getElem?_set_self (by rw [iw_len]; exact hk), iw_get hk]
      simp [va_up]
    · rw [List.getElem?_set_ne (Ne.symm hi), iw_get hk, iw_get hk]
      simp [va_up, hi]
  · rw [List.getElem?_eq_none (by rw [List.length_set, iw_len]; omega), List.getElem?_eq_none (by rw [iw_len]; omega)]
theorem iw_ext {ad ad2 : Nat → Nat} {n : Nat} {E E2 : Nat → va_E} (h1 : ∀ i, i < n → ad i = ad2 i) (h2 : ∀ i, i < n → E i = E2 i) : iw ad n E = iw ad2 n E2 := by
  apply List.ext_getElem?
  intro k
  by_cases hk : k < n
  · rw [iw_get hk, iw_get hk, h1 k hk, h2 k hk]
  · rw [List.getElem?_eq_none (by rw [iw_len]; omega), List.getElem?_eq_none (by rw [iw_len]; omega)]
theorem iw_push {ad : Nat → Nat} {n : Nat} {E : Nat → va_E} {q : Nat} {e : va_E} : iw ad n E ++ [(q, e)] = iw (va_up ad n q) (n + 1) (va_up E n e) := by
  unfold iw
  rw [List.range_succ, List.map_append]
  congr 1
  · apply List.map_congr_left
    intro i hi
    have hn : ¬ i = n := by
      have := List.mem_range.mp hi
      omega
    simp [va_up, hn]
  · simp [va_up]
/-- the places are apart, and of a kind -/
def ij (ad : Nat → Nat) (n : Nat) (A : Nat → Prop) : Prop := (∀ i j, i < n → j < n → ad i = ad j → i = j) ∧ ∀ i, i < n → A (ad i)
theorem iw_D {ad : Nat → Nat} {n : Nat} {A : Nat → Prop} {E : Nat → va_E} (h : ij ad n A) : va_D A (iw ad n E) := by
  refine ⟨fun i j p q hp hq hpq => ?_, fun k q hq => ?_⟩
  · obtain ⟨h1, rfl⟩ := iw_inv hp
    obtain ⟨h2, rfl⟩ := iw_inv hq
    exact h.1 i j h1 h2 hpq
  · obtain ⟨h1, rfl⟩ := iw_inv hq
    exact h.2 k h1
theorem ij_of {ad : Nat → Nat} {n : Nat} {A : Nat → Prop} {E : Nat → va_E} (h : va_D A (iw ad n E)) : ij ad n A :=
  ⟨fun i j hi hj e => h.1 i j _ _ (iw_get hi) (iw_get hj) e, fun i hi => h.2 i _ (iw_get hi)⟩
def gA (ad : Nat → Nat) (n sz : Nat) : Nat → Prop := fun q => (∃ i, i < n ∧ q = ad i) ∨ sz ≤ q
theorem gA_ij {ad : Nat → Nat} {n sz : Nat} {A : Nat → Prop} (h : ij ad n A) : ij ad n (gA ad n sz) := ⟨h.1, fun i hi => Or.inl ⟨i, hi, rfl⟩⟩
theorem gA_in {ad : Nat → Nat} {n sz : Nat} {A : Nat → Prop} (h : ij ad n A) (hA : ∀ q, sz ≤ q → A q) : ∀ q, gA ad n sz q → A q := by
  intro q hq
  rcases hq with ⟨i, hi, rfl⟩ | hq
  · exact h.2 i hi
  · exact hA q hq
/-! ===== the memory: cell i, place k ===== -/
def up2 (st : Nat → Nat → Int32) (i k : Nat) (v : Int32) : Nat → Nat → Int32 := fun a => if a = i then upd (st a) k v else st a
theorem up2_in (st : Nat → Nat → Int32) (i k : Nat) (v : Int32) : up2 st i k v i = upd (st i) k v := by simp [up2]
theorem up2_out (st : Nat → Nat → Int32) {i k a : Nat} (v : Int32) (h : a ≠ i) : up2 st i k v a = st a := by simp [up2, h]
theorem up2_at (st : Nat → Nat → Int32) (i k : Nat) (v : Int32) (a b : Nat) : up2 st i k v a b = if a = i ∧ b = k then v else st a b := by
  unfold up2 upd
  by_cases h : a = i <;> by_cases h2 : b = k <;> simp [h, h2]
def rfs (ad : Nat → Nat) (b n w : Nat) : Nat → Option Nat := fun k => if k < n then some (ad (b + w * k)) else none
def mlen (i : Nat) : Nat := if i = 1 ∨ i = 2 ∨ i = 3 then 96 else if i = 8 then 12 else if i = 9 ∨ i = 10 ∨ i = 11 then 4 else 8
def tE (ad : Nat → Nat) (cs : Nat → ClassId) (st : Nat → Nat → Int32) (i : Nat) : va_E :=
  if i = 0 then .inr (0, [.ref (ad 1), .ref (ad 3), .ref (ad 36), .ref (ad 41), .int (st i 4)])
  else if i = 1 then .inr (1, [.ref (ad 2), .int (st i 1)])
  else if i = 2 then .inl (cs 0, 12, .inl (st i))
  else if i = 3 then .inl (cs 3, 8, .inr (.inr (.inr (.inr (rfs ad 4 8 4)))))
  else if i < 36 then
    (if i % 4 = 0 then .inr (2, [.ref (ad (i + 1)), .ref (ad (i + 2)), .ref (ad (i + 3)), .int (st i 3), .int (st i 4), .int (st i 5), .int (st i 6), .int (st i 7)])
     else .inl (cs 0, 12, .inl (st i)))
  else if i = 36 then .inl (cs 4, 4, .inr (.inr (.inr (.inr (rfs ad 37 4 1)))))
  else if i < 41 then .inr (3, [.int (st i 0), .int (st i 1), .int (st i 2)])
  else if i = 41 then .inl (cs 5, 8, .inr (.inr (.inr (.inr (rfs ad 42 8 1)))))
  else .inr (4, [.int (st i 0), .int (st i 1), .int (st i 2), .int (st i 3), .int (st i 4), .int (st i 5), .int (st i 6), .int (st i 7), .int (st i 8)])
def mE (ad : Nat → Nat) (cs : Nat → ClassId) (mt : Nat → Nat → Int32) (i : Nat) : va_E :=
  if i = 0 then .inr (5, [.int (mt i 0), .ref (ad 51), .ref (ad 52), .ref (ad 53), .ref (ad 54), .ref (ad 55), .ref (ad 56), .ref (ad 57), .ref (ad 58), .ref (ad 59), .ref (ad 60), .ref (ad 61), .int (mt i 12), .ref (ad 62), .ref (ad 63), .ref (ad 64), .ref (ad 65), .ref (ad 66), .ref (ad 67), .ref (ad 68), .ref (ad 69), .ref (ad 70)])
  else .inl (if i = 6 then cs 1 else cs 0, mlen i, .inl (mt i))
def gE (ad : Nat → Nat) (cs : Nat → ClassId) (st mt : Nat → Nat → Int32) (ov : Nat → Int64) (i : Nat) : va_E :=
  if i < 50 then tE ad cs st i else if i < 71 then mE ad cs mt (i - 50) else .inl (cs 2, 1, .inr (.inl ov))
theorem tE_cong {ad : Nat → Nat} {cs : Nat → ClassId} {st st2 : Nat → Nat → Int32} {i : Nat} (h : st i = st2 i) : tE ad cs st i = tE ad cs st2 i := by
  unfold tE
  rw [h]
theorem mE_cong {ad : Nat → Nat} {cs : Nat → ClassId} {mt mt2 : Nat → Nat → Int32} {i : Nat} (h : mt i = mt2 i) : mE ad cs mt i = mE ad cs mt2 i := by
  unfold mE
  rw [h]
theorem gE_upT {ad : Nat → Nat} {cs : Nat → ClassId} {st mt : Nat → Nat → Int32} {ov : Nat → Int64} {i k : Nat} {v : Int32} {e : va_E} (hi : i < 50) (he : e = tE ad cs (up2 st i k v) i) :
    va_up (gE ad cs st mt ov) i e = gE ad cs (up2 st i k v) mt ov := by
  funext j
  by_cases hj : j = i
  · subst hj
    simp [va_up, gE, hi, he]
  · have h1 : va_up (gE ad cs st mt ov) i e j = gE ad cs st mt ov j := by simp [va_up, hj]
    rw [h1]
    unfold gE
    rw [tE_cong (st := st) (st2 := up2 st i k v) (up2_out st v hj).symm]
theorem gE_upM {ad : Nat → Nat} {cs : Nat → ClassId} {st mt : Nat → Nat → Int32} {ov : Nat → Int64} {i k : Nat} {v : Int32} {e : va_E} (hi : i < 21) (he : e = mE ad cs (up2 mt i k v) i) :
    va_up (gE ad cs st mt ov) (50 + i) e = gE ad cs st (up2 mt i k v) ov := by
  funext j
  by_cases hj : j = 50 + i
  · subst hj
    have h1 : ¬ 50 + i < 50 := by omega
    have h2 : 50 + i < 71 := by omega
    have h3 : 50 + i - 50 = i := by omega
    simp [va_up, gE, h1, h2, he, h3]
  · have h1 : va_up (gE ad cs st mt ov) (50 + i) e j = gE ad cs st mt ov j := by simp [va_up, hj]
    rw [h1]
    unfold gE
    by_cases h4 : j < 50
    · simp [h4]
    · rw [mE_cong (mt := mt) (mt2 := up2 mt i k v) (up2_out mt v (by omega)).symm]
theorem gE_upO {ad : Nat → Nat} {cs : Nat → ClassId} {st mt : Nat → Nat → Int32} {ov ov2 : Nat → Int64} :
    iw ad 72 (va_up (gE ad cs st mt ov) 71 (.inl (cs 2, 1, .inr (.inl ov2)))) = iw ad 72 (gE ad cs st mt ov2) := by
  refine iw_ext (fun _ _ => rfl) (fun j hj => ?_)
  by_cases h : j = 71
  · subst h
    simp [va_up, gE]
  · have h1 : va_up (gE ad cs st mt ov) 71 (.inl (cs 2, 1, .inr (.inl ov2))) j = gE ad cs st mt ov j := by simp [va_up, h]
    rw [h1]
    unfold gE
    by_cases h2 : j < 50
    · simp [h2]
    · have h3 : j < 71 := by omega
      simp [h2, h3]

section LOOK
variable {ad : Nat → Nat} {cs : Nat → ClassId} {st mt : Nat → Nat → Int32} {ov : Nat → Int64}
theorem gE_T : gE ad cs st mt ov 0 = .inr (0, [.ref (ad 1), .ref (ad 3), .ref (ad 36), .ref (ad 41), .int (st 0 4)]) := rfl
theorem gE_F : gE ad cs st mt ov 1 = .inr (1, [.ref (ad 2), .int (st 1 1)]) := rfl
theorem gE_FV : gE ad cs st mt ov 2 = .inl (cs 0, 12, .inl (st 2)) := rfl
theorem gE_DR : gE ad cs st mt ov 3 = .inl (cs 3, 8, .inr (.inr (.inr (.inr (rfs ad 4 8 4))))) := rfl
theorem gE_GR : gE ad cs st mt ov 36 = .inl (cs 4, 4, .inr (.inr (.inr (.inr (rfs ad 37 4 1))))) := rfl
theorem gE_JR : gE ad cs st mt ov 41 = .inl (cs 5, 8, .inr (.inr (.inr (.inr (rfs ad 42 8 1))))) := rfl
theorem gE_O : gE ad cs st mt ov 71 = .inl (cs 2, 1, .inr (.inl ov)) := rfl
theorem tE_dev {i : Nat} (h : 4 ≤ i) (h2 : i < 36) (h3 : i % 4 = 0) : tE ad cs st i = .inr (2, [.ref (ad (i + 1)), .ref (ad (i + 2)), .ref (ad (i + 3)), .int (st i 3), .int (st i 4), .int (st i 5), .int (st i 6), .int (st i 7)]) := by
  unfold tE
  rw [if_neg (by omega), if_neg (by omega), if_neg (by omega), if_neg (by omega), if_pos h2, if_pos h3]
theorem tE_row {i : Nat} (h : 4 ≤ i) (h2 : i < 36) (h3 : ¬ i % 4 = 0) : tE ad cs st i = .inl (cs 0, 12, .inl (st i)) := by
  unfold tE
  rw [if_neg (by omega), if_neg (by omega), if_neg (by omega), if_neg (by omega), if_pos h2, if_neg h3]
theorem tE_grp {i : Nat} (h : 37 ≤ i) (h2 : i < 41) : tE ad cs st i = .inr (3, [.int (st i 0), .int (st i 1), .int (st i 2)]) := by
  unfold tE
  rw [if_neg (by omega), if_neg (by omega), if_neg (by omega), if_neg (by omega), if_neg (by omega), if_neg (by omega), if_pos h2]
theorem tE_job {i : Nat} (h : 42 ≤ i) : tE ad cs st i = .inr (4, [.int (st i 0), .int (st i 1), .int (st i 2), .int (st i 3), .int (st i 4), .int (st i 5), .int (st i 6), .int (st i 7), .int (st i 8)]) := by
  unfold tE
  rw [if_neg (by omega), if_neg (by omega), if_neg (by omega), if_neg (by omega), if_neg (by omega), if_neg (by omega), if_neg (by omega), if_neg (by omega)]
theorem gE_t {i : Nat} (h : i < 50) : gE ad cs st mt ov i = tE ad cs st i := by
  unfold gE
  rw [if_pos h]
theorem gE_m {i : Nat} (h : i < 21) : gE ad cs st mt ov (50 + i) = mE ad cs mt i := by
  unfold gE
  rw [if_neg (by omega), if_pos (by omega), show 50 + i - 50 = i by omega]
end LOOK
end
section
/-! ===== what a state must bear beside the words: nest mates' words, texts, casts that fail, Throwable's two statics ===== -/
theorem ax_warm1 {w : Cond} {s U : State} (hk : ax_k w = true) (hW : s.WarmedH U.vm) (h : va_Nw w s) : va_Nw w U := by
  cases w <;> first
    | exact va_Nw.warmF hW h
    | exact va_Nw.warmM hW h
    | exact va_Nw.warmC hW h
    | exact va_Nw.warmD hW h
    | (simp [ax_k] at hk)
def ax_W (U : State) : Prop := ∀ w ∈ ax_all, va_Nw w U
theorem ax_W.warm {s U : State} (hW : s.WarmedH U.vm) (h : ax_W s) : ax_W U := fun w hw => ax_warm1 (List.mem_filter.mp hw).2 hW (h w hw)
def ax_strs : List (Nat × String) := [(204, "there is no such leaf"), (208, "a number is out of its range"), (59, "there is no such section"), (198, "there is no such device"), (70, "the draft has no leaves"), (76, "the version is another one"), (211, "the device is asleep"), (114, "the leaf does not differ"), (200, "there is no such group"), (149, "there are as many jobs as there can be"), (202, "there is no such job"), (175, "the job is not running")]
def ax_S (U : State) : Prop := ∀ q ∈ ax_strs, ∃ a : Nat, vk_R "TwinRegister" q.1 q.2 a U
theorem ax_S.warm {s U : State} (hW : s.WarmedH U.vm) (h : ax_S s) : ax_S U := fun q hq => (h q hq).imp fun _ h1 => vk_R.warm hW h1
abbrev xO : String := "java/lang/IndexOutOfBoundsException"
abbrev xA : String := "java/lang/IllegalArgumentException"
abbrev xS : String := "java/lang/IllegalStateException"
def ax_ncs : List (String × String) := [(xA, xO), (xS, xO), (xS, xA)]
def ax_N (U : State) : Prop := ∀ q ∈ ax_ncs, va_Nc q.1 q.2 U
theorem ax_N.moved {s U : State} (hv : s.vm.Alike U.vm) (h : ax_N s) : ax_N U := fun q hq => (h q hq).moved hv
def ax_E (A : Nat → Prop) (U : State) (H : Heap) : Prop := ax_W U ∧ ax_S U ∧ ax_N U ∧ vx_Zq Bundle.tN "UNASSIGNED_STACK" Bundle.steD A U H ∧ vx_Zq Bundle.tN "SUPPRESSED_SENTINEL" Bundle.listD A U H
theorem ax_E.warm {A B : Nat → Prop} {s U : State} {H H1 : Heap} (hW : s.WarmedH U.vm) (h : ax_E A s H) (hq : ∀ a : Nat, a < H.size → ¬ A a → H1[a]? = H[a]?) (hAB : ∀ q, B q → A q) : ax_E B U H1 :=
  ⟨h.1.warm hW, h.2.1.warm hW, h.2.2.1.moved hW.alike, ((h.2.2.2.1.kept hq).narrow hAB).moved hW.alike, ((h.2.2.2.2.kept hq).narrow hAB).moved hW.alike⟩
theorem ax_E.vm {A : Nat → Prop} {s U : State} {H : Heap} (hv : U.vm = s.vm) (h : ax_E A s H) : ax_E A U H :=
  ax_E.warm (by rw [hv]; exact State.WarmedH.refl s) h (fun _ _ _ => rfl) (fun _ h => h)
/-! ===== what stands at every row of a method's body ===== -/
def Cx (p : Program) (s : State) (m : MethodId) (args : Array Value) (meth : Method) (c : Code) (D : va_G) (cs : Nat → ClassId) (ad : Nat → Nat) (A : Nat → Prop) (cc : ByteArray) (nL : Nat) (own : String) : Prop :=
  p.tables.exec = Jvm.exec ∧ c.code = cc ∧ c.maxLocals = nL ∧ s.vm.findClass own = some m.cls ∧ (∀ w ∈ ag_all, w.before args s = true) ∧ ax_E A s s.heap ∧ va_K D gcl (gty cs) s ∧ ij ad 72 A ∧ (∀ q, s.heap.size ≤ q → A q) ∧ meth.locks = false
/-- at pc, with these locals and this stack, and these memories, wherever the heap is -/
def Wg (p : Program) (l : Launch) (e : Env) (R : Room) (s : State) (m : MethodId) (args : Array Value) (below : List Frame) (meth : Method) (c : Code) (Q : State → Prop) (D : va_G) (cs : Nat → ClassId) (ad : Nat → Nat) (A : Nat → Prop) (nL : Nat) (cells slots : Nat) (pc : Nat) (lv : List (Nat × Value)) (stk : List Value) (st mt : Nat → Nat → Int32) (ov : Nat → Int64) : Prop :=
  ∀ (H : Heap) (locs : List Loc) (ls : Array Slot), va_P D gcl (iw ad 72 (gE ad cs st mt ov)) H → va_S A s.heap H locs → lv_has ls nL lv → W p l e R s m args below meth c H locs cells slots Q (F0 m pc ls stk)

section ROWS
variable {p : Program} {l : Launch} {e : Env} {R : Room} {s : State} {m : MethodId} {args : Array Value} {below : List Frame} {meth : Method} {c : Code} {Q : State → Prop} {D : va_G} {cs : Nat → ClassId} {ad : Nat → Nat} {A : Nat → Prop} {nL : Nat} {cc : ByteArray} {own : String} {cells slots : Nat} {pc : Nat} {lv : List (Nat × Value)} {stk : List Value} {st mt : Nat → Nat → Int32} {ov : Nat → Int64}
theorem w_iconst (C : Cx p s m args meth c D cs ad A cc nL own) {n : Int} {v : Int32} (d : decode cc pc = .ok (.iconst n, 1)) (hv : Int32.ofInt n = v) (k : Wg p l e R s m args below meth c Q D cs ad A nL cells slots (pc + 1) lv (.int v :: stk) st mt ov) : Wg p l e R s m args below meth c Q D cs ad A nL cells slots pc lv stk st mt ov :=
  fun H locs ls hP hS hl => lv_iconst C.1 C.2.1 d hv (k H locs ls hP hS hl)
theorem w_bipush (C : Cx p s m args meth c D cs ad A cc nL own) {n : Int} {v : Int32} (d : decode cc pc = .ok (.bipush n, 2)) (hv : (Int8.ofInt n).toInt32 = v) (k : Wg p l e R s m args below meth c Q D cs ad A nL cells slots (pc + 2) lv (.int v :: stk) st mt ov) : Wg p l e R s m args below meth c Q D cs ad A nL cells slots pc lv stk st mt ov :=
  fun H locs ls hP hS hl => lv_bipush C.1 C.2.1 d hv (k H locs ls hP hS hl)
theorem w_lconst (C : Cx p s m args meth c D cs ad A cc nL own) {n : Fin 2} {v : Int64} (d : decode cc pc = .ok (.lconst n, 1)) (hv : Int64.ofNat (n : Nat) = v) (k : Wg p l e R s m args below meth c Q D cs ad A nL cells slots (pc + 1) lv (.long v :: stk) st mt ov) : Wg p l e R s m args below meth c Q D cs ad A nL cells slots pc lv stk st mt ov :=
  fun H locs ls hP hS hl => lv_lconst C.1 C.2.1 d hv (k H locs ls hP hS hl)
theorem w_iload_n (C : Cx p s m args meth c D cs ad A cc nL own) {q : Fin 4} {i : Nat} {x : Int32} (j : Nat) (d : decode cc pc = .ok (.iload_n q, 1)) (hi : (q : Nat) = i) (hj : lv[j]? = some (i, .int x)) (k : Wg p l e R s m args below meth c Q D cs ad A nL cells slots (pc + 1) lv (.int x :: stk) st mt ov) : Wg p l e R s m args below meth c Q D cs ad A nL cells slots pc lv stk st mt ov :=
  fun H locs ls hP hS hl => lv_iload_n C.1 C.2.1 d hi (lv_at hl j hj) (k H locs ls hP hS hl)
theorem w_iload (C : Cx p s m args meth c D cs ad A cc nL own) {i : Nat} {x : Int32} (j : Nat) (d : decode cc pc = .ok (.iload i, 2)) (hj : lv[j]? = some (i, .int x)) (k : Wg p l e R s m args below meth c Q D cs ad A nL cells slots (pc + 2) lv (.int x :: stk) st mt ov) : Wg p l e R s m args below meth c Q D cs ad A nL cells slots pc lv stk st mt ov :=
  fun H locs ls hP hS hl => lv_iload C.1 C.2.1 d (lv_at hl j hj) (k H locs ls hP hS hl)
theorem w_istore_n (C : Cx p s m args meth c D cs ad A cc nL own) {q : Fin 4} {i : Nat} {x : Int32} {lv2 : List (Nat × Value)} (d : decode cc pc = .ok (.istore_n q, 1)) (hi : (q : Nat) = i) (hn : i < nL) (hf : (i, Value.int x) :: lv.filter (fun q => !(q.1 == i) && !(q.1 + 1 == i && q.2.category == 2)) = lv2) (k : Wg p l e R s m args below meth c Q D cs ad A nL cells slots (pc + 1) lv2 stk st mt ov) : Wg p l e R s m args below meth c Q D cs ad A nL cells slots pc lv (.int x :: stk) st mt ov :=
  fun H locs ls hP hS hl => lv_istore_n C.1 C.2.1 d hi hl hn hf (fun ls2 hl2 => k H locs ls2 hP hS hl2)
theorem w_istore (C : Cx p s m args meth c D cs ad A cc nL own) {i : Nat} {x : Int32} {lv2 : List (Nat × Value)} (d : decode cc pc = .ok (.istore i, 2)) (hn : i < nL) (hf : (i, Value.int x) :: lv.filter (fun q => !(q.1 == i) && !(q.1 + 1 == i && q.2.category == 2)) = lv2) (k : Wg p l e R s m args below meth c Q D cs ad A nL cells slots (pc + 2) lv2 stk st mt ov) : Wg p l e R s m args below meth c Q D cs ad A nL cells slots pc lv (.int x :: stk) st mt ov :=
  fun H locs ls hP hS hl => lv_istore C.1 C.2.1 d hl hn hf (fun ls2 hl2 => k H locs ls2 hP hS hl2)
theorem w_aload_n (C : Cx p s m args meth c D cs ad A cc nL own) {q : Fin 4} {i : Nat} {x : Nat} (j : Nat) (d : decode cc pc = .ok (.aload_n q, 1)) (hi : (q : Nat) = i) (hj : lv[j]? = some (i, .ref x)) (k : Wg p l e R s m args below meth c Q D cs ad A nL cells slots (pc + 1) lv (.ref x :: stk) st mt ov) : Wg p l e R s m args below meth c Q D cs ad A nL cells slots pc lv stk st mt ov :=
  fun H locs ls hP hS hl => lv_aload_n C.1 C.2.1 d hi (lv_at hl j hj) (k H locs ls hP hS hl)
theorem w_aload (C : Cx p s m args meth c D cs ad A cc nL own) {i : Nat} {x : Nat} (j : Nat) (d : decode cc pc = .ok (.aload i, 2)) (hj : lv[j]? = some (i, .ref x)) (k : Wg p l e R s m args below meth c Q D cs ad A nL cells slots (pc + 2) lv (.ref x :: stk) st mt ov) : Wg p l e R s m args below meth c Q D cs ad A nL cells slots pc lv stk st mt ov :=
  fun H locs ls hP hS hl => lv_aload C.1 C.2.1 d (lv_at hl j hj) (k H locs ls hP hS hl)
theorem w_astore_n (C : Cx p s m args meth c D cs ad A cc nL own) {q : Fin 4} {i : Nat} {x : Nat} {lv2 : List (Nat × Value)} (d : decode cc pc = .ok (.astore_n q, 1)) (hi : (q : Nat) = i) (hn : i < nL) (hf : (i, Value.ref x) :: lv.filter (fun q => !(q.1 == i) && !(q.1 + 1 == i && q.2.category == 2)) = lv2) (k : Wg p l e R s m args below meth c Q D cs ad A nL cells slots (pc + 1) lv2 stk st mt ov) : Wg p l e R s m args below meth c Q D cs ad A nL cells slots pc lv (.ref x :: stk) st mt ov :=
  fun H locs ls hP hS hl => lv_astore_n C.1 C.2.1 d hi hl hn hf (fun ls2 hl2 => k H locs ls2 hP hS hl2)
theorem w_astore (C : Cx p s m args meth c D cs ad A cc nL own) {i : Nat} {x : Nat} {lv2 : List (Nat × Value)} (d : decode cc pc = .ok (.astore i, 2)) (hn : i < nL) (hf : (i, Value.ref x) :: lv.filter (fun q => !(q.1 == i) && !(q.1 + 1 == i && q.2.category == 2)) = lv2) (k : Wg p l e R s m args below meth c Q D cs ad A nL cells slots (pc + 2) lv2 stk st mt ov) : Wg p l e R s m args below meth c Q D cs ad A nL cells slots pc lv (.ref x :: stk) st mt ov :=
  fun H locs ls hP hS hl => lv_astore C.1 C.2.1 d hl hn hf (fun ls2 hl2 => k H locs ls2 hP hS hl2)
theorem w_iinc (C : Cx p s m args meth c D cs ad A cc nL own) {i : Nat} {n : Int} {x v : Int32} {lv2 : List (Nat × Value)} (j : Nat) (d : decode cc pc = .ok (.iinc i n, 3)) (hj : lv[j]? = some (i, .int x)) (hv : x + Int32.ofInt n = v) (hn : i < nL) (hf : (i, Value.int v) :: lv.filter (fun q => !(q.1 == i) && !(q.1 + 1 == i && q.2.category == 2)) = lv2) (k : Wg p l e R s m args below meth c Q D cs ad A nL cells slots (pc + 3) lv2 stk st mt ov) : Wg p l e R s m args below meth c Q D cs ad A nL cells slots pc lv stk st mt ov :=
  fun H locs ls hP hS hl => lv_iinc C.1 C.2.1 d hl hj hv hn hf (fun ls2 hl2 => k H locs ls2 hP hS hl2)
theorem w_iadd (C : Cx p s m args meth c D cs ad A cc nL own) {x y : Int32} (d : decode cc pc = .ok (.iadd, 1)) (k : Wg p l e R s m args below meth c Q D cs ad A nL cells slots (pc + 1) lv (.int (x + y) :: stk) st mt ov) : Wg p l e R s m args below meth c Q D cs ad A nL cells slots pc lv (.int y :: .int x :: stk) st mt ov :=
  fun H locs ls hP hS hl => lv_iadd C.1 C.2.1 d (k H locs ls hP hS hl)
theorem w_isub (C : Cx p s m args meth c D cs ad A cc nL own) {x y : Int32} (d : decode cc pc = .ok (.isub, 1)) (k : Wg p l e R s m args below meth c Q D cs ad A nL cells slots (pc + 1) lv (.int (x - y) :: stk) st mt ov) : Wg p l e R s m args below meth c Q D cs ad A nL cells slots pc lv (.int y :: .int x :: stk) st mt ov :=
  fun H locs ls hP hS hl => lv_isub C.1 C.2.1 d (k H locs ls hP hS hl)
theorem w_imul (C : Cx p s m args meth c D cs ad A cc nL own) {x y : Int32} (d : decode cc pc = .ok (.imul, 1)) (k : Wg p l e R s m args below meth c Q D cs ad A nL cells slots (pc + 1) lv (.int (x * y) :: stk) st mt ov) : Wg p l e R s m args below meth c Q D cs ad A nL cells slots pc lv (.int y :: .int x :: stk) st mt ov :=
  fun H locs ls hP hS hl => lv_imul C.1 C.2.1 d (k H locs ls hP hS hl)
theorem w_iand (C : Cx p s m args meth c D cs ad A cc nL own) {x y : Int32} (d : decode cc pc = .ok (.iand, 1)) (k : Wg p l e R s m args below meth c Q D cs ad A nL cells slots (pc + 1) lv (.int (x &&& y) :: stk) st mt ov) : Wg p l e R s m args below meth c Q D cs ad A nL cells slots pc lv (.int y :: .int x :: stk) st mt ov :=
  fun H locs ls hP hS hl => lv_iand C.1 C.2.1 d (k H locs ls hP hS hl)
theorem w_ior (C : Cx p s m args meth c D cs ad A cc nL own) {x y : Int32} (d : decode cc pc = .ok (.ior, 1)) (k : Wg p l e R s m args below meth c Q D cs ad A nL cells slots (pc + 1) lv (.int (x ||| y) :: stk) st mt ov) : Wg p l e R s m args below meth c Q D cs ad A nL cells slots pc lv (.int y :: .int x :: stk) st mt ov :=
  fun H locs ls hP hS hl => lv_ior C.1 C.2.1 d (k H locs ls hP hS hl)
theorem w_ixor (C : Cx p s m args meth c D cs ad A cc nL own) {x y : Int32} (d : decode cc pc = .ok (.ixor, 1)) (k : Wg p l e R s m args below meth c Q D cs ad A nL cells slots (pc + 1) lv (.int (x ^^^ y) :: stk) st mt ov) : Wg p l e R s m args below meth c Q D cs ad A nL cells slots pc lv (.int y :: .int x :: stk) st mt ov :=
  fun H locs ls hP hS hl => lv_ixor C.1 C.2.1 d (k H locs ls hP hS hl)
theorem w_ishl (C : Cx p s m args meth c D cs ad A cc nL own) {x y : Int32} (d : decode cc pc = .ok (.ishl, 1)) (k : Wg p l e R s m args below meth c Q D cs ad A nL cells slots (pc + 1) lv (.int (x <<< (y &&& 31)) :: stk) st mt ov) : Wg p l e R s m args below meth c Q D cs ad A nL cells slots pc lv (.int y :: .int x :: stk) st mt ov :=
  fun H locs ls hP hS hl => lv_ishl C.1 C.2.1 d (k H locs ls hP hS hl)
theorem w_ishr (C : Cx p s m args meth c D cs ad A cc nL own) {x y : Int32} (d : decode cc pc = .ok (.ishr, 1)) (k : Wg p l e R s m args below meth c Q D cs ad A nL cells slots (pc + 1) lv (.int (x >>> (y &&& 31)) :: stk) st mt ov) : Wg p l e R s m args below meth c Q D cs ad A nL cells slots pc lv (.int y :: .int x :: stk) st mt ov :=
  fun H locs ls hP hS hl => lv_ishr C.1 C.2.1 d (k H locs ls hP hS hl)
theorem w_iushr (C : Cx p s m args meth c D cs ad A cc nL own) {x y v : Int32} (d : decode cc pc = .ok (.iushr, 1)) (hv : (x.toUInt32 >>> (y.toUInt32 &&& Int32.toUInt32 31)).toInt32 = v) (k : Wg p l e R s m args below meth c Q D cs ad A nL cells slots (pc + 1) lv (.int v :: stk) st mt ov) : Wg p l e R s m args below meth c Q D cs ad A nL cells slots pc lv (.int y :: .int x :: stk) st mt ov :=
  fun H locs ls hP hS hl => lv_iushr C.1 C.2.1 d hv (k H locs ls hP hS hl)
theorem w_i2l (C : Cx p s m args meth c D cs ad A cc nL own) {x : Int32} (d : decode cc pc = .ok (.i2l, 1)) (k : Wg p l e R s m args below meth c Q D cs ad A nL cells slots (pc + 1) lv (.long x.toInt64 :: stk) st mt ov) : Wg p l e R s m args below meth c Q D cs ad A nL cells slots pc lv (.int x :: stk) st mt ov :=
  fun H locs ls hP hS hl => lv_i2l C.1 C.2.1 d rfl (k H locs ls hP hS hl)
theorem w_dup (C : Cx p s m args meth c D cs ad A cc nL own) {va : Value} (d : decode cc pc = .ok (.dup, 1)) (hc : va.category = 1) (k : Wg p l e R s m args below meth c Q D cs ad A nL cells slots (pc + 1) lv (va :: va :: stk) st mt ov) : Wg p l e R s m args below meth c Q D cs ad A nL cells slots pc lv (va :: stk) st mt ov :=
  fun H locs ls hP hS hl => lv_dup C.1 C.2.1 d hc (k H locs ls hP hS hl)
theorem w_pop (C : Cx p s m args meth c D cs ad A cc nL own) {va : Value} (d : decode cc pc = .ok (.pop, 1)) (hc : va.category = 1) (k : Wg p l e R s m args below meth c Q D cs ad A nL cells slots (pc + 1) lv stk st mt ov) : Wg p l e R s m args below meth c Q D cs ad A nL cells slots pc lv (va :: stk) st mt ov :=
  fun H locs ls hP hS hl => lv_pop C.1 C.2.1 d hc (k H locs ls hP hS hl)
theorem w_dup2 (C : Cx p s m args meth c D cs ad A cc nL own) {va vb : Value} (d : decode cc pc = .ok (.dup2, 1)) (hc : va.category = 1) (hd : vb.category = 1) (k : Wg p l e R s m args below meth c Q D cs ad A nL cells slots (pc + 1) lv (va :: vb :: va :: vb :: stk) st mt ov) : Wg p l e R s m args below meth c Q D cs ad A nL cells slots pc lv (va :: vb :: stk) st mt ov :=
  fun H locs ls hP hS hl => lv_dup2_11 C.1 C.2.1 d hc hd (k H locs ls hP hS hl)
theorem w_lcmp (C : Cx p s m args meth c D cs ad A cc nL own) {x y : Int64} (d : decode cc pc = .ok (.lcmp, 1)) (k : Wg p l e R s m args below meth c Q D cs ad A nL cells slots (pc + 1) lv (.int (lg_cmp x y) :: stk) st mt ov) : Wg p l e R s m args below meth c Q D cs ad A nL cells slots pc lv (.long y :: .long x :: stk) st mt ov :=
  fun H locs ls hP hS hl => W.lcmp C.1 C.2.1 d (k H locs ls hP hS hl)
theorem w_goto (C : Cx p s m args meth c D cs ad A cc nL own) {off : Int} (tgt : Nat) (d : decode cc pc = .ok (.goto off, 3)) (ht : (pc : Int) + off = (tgt : Int)) (k : Wg p l e R s m args below meth c Q D cs ad A nL cells slots tgt lv stk st mt ov) : Wg p l e R s m args below meth c Q D cs ad A nL cells slots pc lv stk st mt ov :=
  fun H locs ls hP hS hl => lv_goto C.1 C.2.1 d ht (k H locs ls hP hS hl)
theorem w_if_eq (C : Cx p s m args meth c D cs ad A cc nL own) {off : Int} {x : Int32} (tgt : Nat) (d : decode cc pc = .ok (.ifCond .eq off, 3)) (ht : (pc : Int) + off = (tgt : Int)) (kt : x = 0 → Wg p l e R s m args below meth c Q D cs ad A nL cells slots tgt lv stk st mt ov) (kf : ¬ (x = 0) → Wg p l e R s m args below meth c Q D cs ad A nL cells slots (pc + 3) lv stk st mt ov) : Wg p l e R s m args below meth c Q D cs ad A nL cells slots pc lv (.int x :: stk) st mt ov :=
  fun H locs ls hP hS hl => lv_if_eq C.1 C.2.1 d ht (fun h => kt h H locs ls hP hS hl) (fun h => kf h H locs ls hP hS hl)
theorem w_if_eq_t (C : Cx p s m args meth c D cs ad A cc nL own) {off : Int} {x : Int32} (tgt : Nat) (d : decode cc pc = .ok (.ifCond .eq off, 3)) (ht : (pc : Int) + off = (tgt : Int)) (h : x = 0) (k : Wg p l e R s m args below meth c Q D cs ad A nL cells slots tgt lv stk st mt ov) : Wg p l e R s m args below meth c Q D cs ad A nL cells slots pc lv (.int x :: stk) st mt ov :=
  w_if_eq C tgt d ht (fun _ => k) (fun h2 => absurd h h2)
theorem w_if_eq_f (C : Cx p s m args meth c D cs ad A cc nL own) {off : Int} {x : Int32} (tgt : Nat) (d : decode cc pc = .ok (.ifCond .eq off, 3)) (ht : (pc : Int) + off = (tgt : Int)) (h : ¬ (x = 0)) (k : Wg p l e R s m args below meth c Q D cs ad A nL cells slots (pc + 3) lv stk st mt ov) : Wg p l e R s m args below meth c Q D cs ad A nL cells slots pc lv (.int x :: stk) st mt ov :=
  w_if_eq C tgt d ht (fun h2 => absurd h2 h) (fun _ => k)
theorem w_icmp_eq (C : Cx p s m args meth c D cs ad A cc nL own) {off : Int} {x y : Int32} (tgt : Nat) (d : decode cc pc = .ok (.if_icmp .eq off, 3)) (ht : (pc : Int) + off = (tgt : Int)) (kt : x = y → Wg p l e R s m args below meth c Q D cs ad A nL cells slots tgt lv stk st mt ov) (kf : ¬ (x = y) → Wg p l e R s m args below meth c Q D cs ad A nL cells slots (pc + 3) lv stk st mt ov) : Wg p l e R s m args below meth c Q D cs ad A nL cells slots pc lv (.int y :: .int x :: stk) st mt ov :=
  fun H locs ls hP hS hl => lv_icmp_eq C.1 C.2.1 d ht (fun h => kt h H locs ls hP hS hl) (fun h => kf h H locs ls hP hS hl)
theorem w_icmp_eq_t (C : Cx p s m args meth c D cs ad A cc nL own) {off : Int} {x y : Int32} (tgt : Nat) (d : decode cc pc = .ok (.if_icmp .eq off, 3)) (ht : (pc : Int) + off = (tgt : Int)) (h : x = y) (k : Wg p l e R s m args below meth c Q D cs ad A nL cells slots tgt lv stk st mt ov) : Wg p l e R s m args below meth c Q D cs ad A nL cells slots pc lv (.int y :: .int x :: stk) st mt ov :=
  w_icmp_eq C tgt d ht (fun _ => k) (fun h2 => absurd h h2)
theorem w_icmp_eq_f (C : Cx p s m args meth c D cs ad A cc nL own) {off : Int} {x y : Int32} (tgt : Nat) (d : decode cc pc = .ok (.if_icmp .eq off, 3)) (ht : (pc : Int) + off = (tgt : Int)) (h : ¬ (x = y)) (k : Wg p l e R s m args below meth c Q D cs ad A nL cells slots (pc + 3) lv stk st mt ov) : Wg p l e R s m args below meth c Q D cs ad A nL cells slots pc lv (.int y :: .int x :: stk) st mt ov :=
  w_icmp_eq C tgt d ht (fun h2 => absurd h2 h) (fun _ => k)
theorem w_if_ne (C : Cx p s m args meth c D cs ad A cc nL own) {off : Int} {x : Int32} (tgt : Nat) (d : decode cc pc = .ok (.ifCond .ne off, 3)) (ht : (pc : Int) + off = (tgt : Int)) (kt : ¬ x = 0 → Wg p l e R s m args below meth c Q D cs ad A nL cells slots tgt lv stk st mt ov) (kf : x = 0 → Wg p l e R s m args below meth c Q D cs ad A nL cells slots (pc + 3) lv stk st mt ov) : Wg p l e R s m args below meth c Q D cs ad A nL cells slots pc lv (.int x :: stk) st mt ov :=
  fun H locs ls hP hS hl => lv_if_ne C.1 C.2.1 d ht (fun h => kt h H locs ls hP hS hl) (fun h => kf h H locs ls hP hS hl)
theorem w_if_ne_t (C : Cx p s m args meth c D cs ad A cc nL own) {off : Int} {x : Int32} (tgt : Nat) (d : decode cc pc = .ok (.ifCond .ne off, 3)) (ht : (pc : Int) + off = (tgt : Int)) (h : ¬ x = 0) (k : Wg p l e R s m args below meth c Q D cs ad A nL cells slots tgt lv stk st mt ov) : Wg p l e R s m args below meth c Q D cs ad A nL cells slots pc lv (.int x :: stk) st mt ov :=
  w_if_ne C tgt d ht (fun _ => k) (fun h2 => absurd h2 h)
theorem w_if_ne_f (C : Cx p s m args meth c D cs ad A cc nL own) {off : Int} {x : Int32} (tgt : Nat) (d : decode cc pc = .ok (.ifCond .ne off, 3)) (ht : (pc : Int) + off = (tgt : Int)) (h : x = 0) (k : Wg p l e R s m args below meth c Q D cs ad A nL cells slots (pc + 3) lv stk st mt ov) : Wg p l e R s m args below meth c Q D cs ad A nL cells slots pc lv (.int x :: stk) st mt ov :=
  w_if_ne C tgt d ht (fun h2 => absurd h h2) (fun _ => k)
theorem w_icmp_ne (C : Cx p s m args meth c D cs ad A cc nL own) {off : Int} {x y : Int32} (tgt : Nat) (d : decode cc pc = .ok (.if_icmp .ne off, 3)) (ht : (pc : Int) + off = (tgt : Int)) (kt : ¬ x = y → Wg p l e R s m args below meth c Q D cs ad A nL cells slots tgt lv stk st mt ov) (kf : x = y → Wg p l e R s m args below meth c Q D cs ad A nL cells slots (pc + 3) lv stk st mt ov) : Wg p l e R s m args below meth c Q D cs ad A nL cells slots pc lv (.int y :: .int x :: stk) st mt ov :=
  fun H locs ls hP hS hl => lv_icmp_ne C.1 C.2.1 d ht (fun h => kt h H locs ls hP hS hl) (fun h => kf h H locs ls hP hS hl)
theorem w_icmp_ne_t (C : Cx p s m args meth c D cs ad A cc nL own) {off : Int} {x y : Int32} (tgt : Nat) (d : decode cc pc = .ok (.if_icmp .ne off, 3)) (ht : (pc : Int) + off = (tgt : Int)) (h : ¬ x = y) (k : Wg p l e R s m args below meth c Q D cs ad A nL cells slots tgt lv stk st mt ov) : Wg p l e R s m args below meth c Q D cs ad A nL cells slots pc lv (.int y :: .int x :: stk) st mt ov :=
  w_icmp_ne C tgt d ht (fun _ => k) (fun h2 => absurd h2 h)
theorem w_icmp_ne_f (C : Cx p s m args meth c D cs ad A cc nL own) {off : Int} {x y : Int32} (tgt : Nat) (d : decode cc pc = .ok (.if_icmp .ne off, 3)) (ht : (pc : Int) + off = (tgt : Int)) (h : x = y) (k : Wg p l e R s m args below meth c Q D cs ad A nL cells slots (pc + 3) lv stk st mt ov) : Wg p l e R s m args below meth c Q D cs ad A nL cells slots pc lv (.int y :: .int x :: stk) st mt ov :=
  w_icmp_ne C tgt d ht (fun h2 => absurd h h2) (fun _ => k)
theorem w_if_lt (C : Cx p s m args meth c D cs ad A cc nL own) {off : Int} {x : Int32} (tgt : Nat) (d : decode cc pc = .ok (.ifCond .lt off, 3)) (ht : (pc : Int) + off = (tgt : Int)) (kt : x < 0 → Wg p l e R s m args below meth c Q D cs ad A nL cells slots tgt lv stk st mt ov) (kf : ¬ (x < 0) → Wg p l e R s m args below meth c Q D cs ad A nL cells slots (pc + 3) lv stk st mt ov) : Wg p l e R s m args below meth c Q D cs ad A nL cells slots pc lv (.int x :: stk) st mt ov :=
  fun H locs ls hP hS hl => lv_if_lt C.1 C.2.1 d ht (fun h => kt h H locs ls hP hS hl) (fun h => kf h H locs ls hP hS hl)
theorem w_if_lt_t (C : Cx p s m args meth c D cs ad A cc nL own) {off : Int} {x : Int32} (tgt : Nat) (d : decode cc pc = .ok (.ifCond .lt off, 3)) (ht : (pc : Int) + off = (tgt : Int)) (h : x < 0) (k : Wg p l e R s m args below meth c Q D cs ad A nL cells slots tgt lv stk st mt ov) : Wg p l e R s m args below meth c Q D cs ad A nL cells slots pc lv (.int x :: stk) st mt ov :=
  w_if_lt C tgt d ht (fun _ => k) (fun h2 => absurd h h2)
theorem w_if_lt_f (C : Cx p s m args meth c D cs ad A cc nL own) {off : Int} {x : Int32} (tgt : Nat) (d : decode cc pc = .ok (.ifCond .lt off, 3)) (ht : (pc : Int) + off = (tgt : Int)) (h : ¬ (x < 0)) (k : Wg p l e R s m args below meth c Q D cs ad A nL cells slots (pc + 3) lv stk st mt ov) : Wg p l e R s m args below meth c Q D cs ad A nL cells slots pc lv (.int x :: stk) st mt ov :=
  w_if_lt C tgt d ht (fun h2 => absurd h2 h) (fun _ => k)
theorem w_icmp_lt (C : Cx p s m args meth c D cs ad A cc nL own) {off : Int} {x y : Int32} (tgt : Nat) (d : decode cc pc = .ok (.if_icmp .lt off, 3)) (ht : (pc : Int) + off = (tgt : Int)) (kt : x < y → Wg p l e R s m args below meth c Q D cs ad A nL cells slots tgt lv stk st mt ov) (kf : ¬ (x < y) → Wg p l e R s m args below meth c Q D cs ad A nL cells slots (pc + 3) lv stk st mt ov) : Wg p l e R s m args below meth c Q D cs ad A nL cells slots pc lv (.int y :: .int x :: stk) st mt ov :=
  fun H locs ls hP hS hl => lv_icmp_lt C.1 C.2.1 d ht (fun h => kt h H locs ls hP hS hl) (fun h => kf h H locs ls hP hS hl)
theorem w_icmp_lt_t (C : Cx p s m args meth c D cs ad A cc nL own) {off : Int} {x y : Int32} (tgt : Nat) (d : decode cc pc = .ok (.if_icmp .lt off, 3)) (ht : (pc : Int) + off = (tgt : Int)) (h : x < y) (k : Wg p l e R s m args below meth c Q D cs ad A nL cells slots tgt lv stk st mt ov) : Wg p l e R s m args below meth c Q D cs ad A nL cells slots pc lv (.int y :: .int x :: stk) st mt ov :=
  w_icmp_lt C tgt d ht (fun _ => k) (fun h2 => absurd h h2)
theorem w_icmp_lt_f (C : Cx p s m args meth c D cs ad A cc nL own) {off : Int} {x y : Int32} (tgt : Nat) (d : decode cc pc = .ok (.if_icmp .lt off, 3)) (ht : (pc : Int) + off = (tgt : Int)) (h : ¬ (x < y)) (k : Wg p l e R s m args below meth c Q D cs ad A nL cells slots (pc + 3) lv stk st mt ov) : Wg p l e R s m args below meth c Q D cs ad A nL cells slots pc lv (.int y :: .int x :: stk) st mt ov :=
  w_icmp_lt C tgt d ht (fun h2 => absurd h2 h) (fun _ => k)
theorem w_if_ge (C : Cx p s m args meth c D cs ad A cc nL own) {off : Int} {x : Int32} (tgt : Nat) (d : decode cc pc = .ok (.ifCond .ge off, 3)) (ht : (pc : Int) + off = (tgt : Int)) (kt : 0 ≤ x → Wg p l e R s m args below meth c Q D cs ad A nL cells slots tgt lv stk st mt ov) (kf : ¬ (0 ≤ x) → Wg p l e R s m args below meth c Q D cs ad A nL cells slots (pc + 3) lv stk st mt ov) : Wg p l e R s m args below meth c Q D cs ad A nL cells slots pc lv (.int x :: stk) st mt ov :=
  fun H locs ls hP hS hl => lv_if_ge C.1 C.2.1 d ht (fun h => kt h H locs ls hP hS hl) (fun h => kf h H locs ls hP hS hl)
theorem w_if_ge_t (C : Cx p s m args meth c D cs ad A cc nL own) {off : Int} {x : Int32} (tgt : Nat) (d : decode cc pc = .ok (.ifCond .ge off, 3)) (ht : (pc : Int) + off = (tgt : Int)) (h : 0 ≤ x) (k : Wg p l e R s m args below meth c Q D cs ad A nL cells slots tgt lv stk st mt ov) : Wg p l e R s m args below meth c Q D cs ad A nL cells slots pc lv (.int x :: stk) st mt ov :=
  w_if_ge C tgt d ht (fun _ => k) (fun h2 => absurd h h2)
theorem w_if_ge_f (C : Cx p s m args meth c D cs ad A cc nL own) {off : Int} {x : Int32} (tgt : Nat) (d : decode cc pc = .ok (.ifCond .ge off, 3)) (ht : (pc : Int) + off = (tgt : Int)) (h : ¬ (0 ≤ x)) (k : Wg p l e R s m args below meth c Q D cs ad A nL cells slots (pc + 3) lv stk st mt ov) : Wg p l e R s m args below meth c Q D cs ad A nL cells slots pc lv (.int x :: stk) st mt ov :=
  w_if_ge C tgt d ht (fun h2 => absurd h2 h) (fun _ => k)
theorem w_icmp_ge (C : Cx p s m args meth c D cs ad A cc nL own) {off : Int} {x y : Int32} (tgt : Nat) (d : decode cc pc = .ok (.if_icmp .ge off, 3)) (ht : (pc : Int) + off = (tgt : Int)) (kt : y ≤ x → Wg p l e R s m args below meth c Q D cs ad A nL cells slots tgt lv stk st mt ov) (kf : ¬ (y ≤ x) → Wg p l e R s m args below meth c Q D cs ad A nL cells slots (pc + 3) lv stk st mt ov) : Wg p l e R s m args below meth c Q D cs ad A nL cells slots pc lv (.int y :: .int x :: stk) st mt ov :=
  fun H locs ls hP hS hl => lv_icmp_ge C.1 C.2.1 d ht (fun h => kt h H locs ls hP hS hl) (fun h => kf h H locs ls hP hS hl)
theorem w_icmp_ge_t (C : Cx p s m args meth c D cs ad A cc nL own) {off : Int} {x y : Int32} (tgt : Nat) (d : decode cc pc = .ok (.if_icmp .ge off, 3)) (ht : (pc : Int) + off = (tgt : Int)) (h : y ≤ x) (k : Wg p l e R s m args below meth c Q D cs ad A nL cells slots tgt lv stk st mt ov) : Wg p l e R s m args below meth c Q D cs ad A nL cells slots pc lv (.int y :: .int x :: stk) st mt ov :=
  w_icmp_ge C tgt d ht (fun _ => k) (fun h2 => absurd h h2)
theorem w_icmp_ge_f (C : Cx p s m args meth c D cs ad A cc nL own) {off : Int} {x y : Int32} (tgt : Nat) (d : decode cc pc = .ok (.if_icmp .ge off, 3)) (ht : (pc : Int) + off = (tgt : Int)) (h : ¬ (y ≤ x)) (k : Wg p l e R s m args below meth c Q D cs ad A nL cells slots (pc + 3) lv stk st mt ov) : Wg p l e R s m args below meth c Q D cs ad A nL cells slots pc lv (.int y :: .int x :: stk) st mt ov :=
  w_icmp_ge C tgt d ht (fun h2 => absurd h2 h) (fun _ => k)
theorem w_if_gt (C : Cx p s m args meth c D cs ad A cc nL own) {off : Int} {x : Int32} (tgt : Nat) (d : decode cc pc = .ok (.ifCond .gt off, 3)) (ht : (pc : Int) + off = (tgt : Int)) (kt : 0 < x → Wg p l e R s m args below meth c Q D cs ad A nL cells slots tgt lv stk st mt ov) (kf : ¬ (0 < x) → Wg p l e R s m args below meth c Q D cs ad A nL cells slots (pc + 3) lv stk st mt ov) : Wg p l e R s m args below meth c Q D cs ad A nL cells slots pc lv (.int x :: stk) st mt ov :=
  fun H locs ls hP hS hl => lv_if_gt C.1 C.2.1 d ht (fun h => kt h H locs ls hP hS hl) (fun h => kf h H locs ls hP hS hl)
theorem w_if_gt_t (C : Cx p s m args meth c D cs ad A cc nL own) {off : Int} {x : Int32} (tgt : Nat) (d : decode cc pc = .ok (.ifCond .gt off, 3)) (ht : (pc : Int) + off = (tgt : Int)) (h : 0 < x) (k : Wg p l e R s m args below meth c Q D cs ad A nL cells slots tgt lv stk st mt ov) : Wg p l e R s m args below meth c Q D cs ad A nL cells slots pc lv (.int x :: stk) st mt ov :=
  w_if_gt C tgt d ht (fun _ => k) (fun h2 => absurd h h2)
theorem w_if_gt_f (C : Cx p s m args meth c D cs ad A cc nL own) {off : Int} {x : Int32} (tgt : Nat) (d : decode cc pc = .ok (.ifCond .gt off, 3)) (ht : (pc : Int) + off = (tgt : Int)) (h : ¬ (0 < x)) (k : Wg p l e R s m args below meth c Q D cs ad A nL cells slots (pc + 3) lv stk st mt ov) : Wg p l e R s m args below meth c Q D cs ad A nL cells slots pc lv (.int x :: stk) st mt ov :=
  w_if_gt C tgt d ht (fun h2 => absurd h2 h) (fun _ => k)
theorem w_icmp_gt (C : Cx p s m args meth c D cs ad A cc nL own) {off : Int} {x y : Int32} (tgt : Nat) (d : decode cc pc = .ok (.if_icmp .gt off, 3)) (ht : (pc : Int) + off = (tgt : Int)) (kt : y < x → Wg p l e R s m args below meth c Q D cs ad A nL cells slots tgt lv stk st mt ov) (kf : ¬ (y < x) → Wg p l e R s m args below meth c Q D cs ad A nL cells slots (pc + 3) lv stk st mt ov) : Wg p l e R s m args below meth c Q D cs ad A nL cells slots pc lv (.int y :: .int x :: stk) st mt ov :=
  fun H locs ls hP hS hl => lv_icmp_gt C.1 C.2.1 d ht (fun h => kt h H locs ls hP hS hl) (fun h => kf h H locs ls hP hS hl)
theorem w_icmp_gt_t (C : Cx p s m args meth c D cs ad A cc nL own) {off : Int} {x y : Int32} (tgt : Nat) (d : decode cc pc = .ok (.if_icmp .gt off, 3)) (ht : (pc : Int) + off = (tgt : Int)) (h : y < x) (k : Wg p l e R s m args below meth c Q D cs ad A nL cells slots tgt lv stk st mt ov) : Wg p l e R s m args below meth c Q D cs ad A nL cells slots pc lv (.int y :: .int x :: stk) st mt ov :=
  w_icmp_gt C tgt d ht (fun _ => k) (fun h2 => absurd h h2)
theorem w_icmp_gt_f (C : Cx p s m args meth c D cs ad A cc nL own) {off : Int} {x y : Int32} (tgt : Nat) (d : decode cc pc = .ok (.if_icmp .gt off, 3)) (ht : (pc : Int) + off = (tgt : Int)) (h : ¬ (y < x)) (k : Wg p l e R s m args below meth c Q D cs ad A nL cells slots (pc + 3) lv stk st mt ov) : Wg p l e R s m args below meth c Q D cs ad A nL cells slots pc lv (.int y :: .int x :: stk) st mt ov :=
  w_icmp_gt C tgt d ht (fun h2 => absurd h2 h) (fun _ => k)
theorem w_if_le (C : Cx p s m args meth c D cs ad A cc nL own) {off : Int} {x : Int32} (tgt : Nat) (d : decode cc pc = .ok (.ifCond .le off, 3)) (ht : (pc : Int) + off = (tgt : Int)) (kt : x ≤ 0 → Wg p l e R s m args below meth c Q D cs ad A nL cells slots tgt lv stk st mt ov) (kf : ¬ (x ≤ 0) → Wg p l e R s m args below meth c Q D cs ad A nL cells slots (pc + 3) lv stk st mt ov) : Wg p l e R s m args below meth c Q D cs ad A nL cells slots pc lv (.int x :: stk) st mt ov :=
  fun H locs ls hP hS hl => lv_if_le C.1 C.2.1 d ht (fun h => kt h H locs ls hP hS hl) (fun h => kf h H locs ls hP hS hl)
theorem w_if_le_t (C : Cx p s m args meth c D cs ad A cc nL own) {off : Int} {x : Int32} (tgt : Nat) (d : decode cc pc = .ok (.ifCond .le off, 3)) (ht : (pc : Int) + off = (tgt : Int)) (h : x ≤ 0) (k : Wg p l e R s m args below meth c Q D cs ad A nL cells slots tgt lv stk st mt ov) : Wg p l e R s m args below meth c Q D cs ad A nL cells slots pc lv (.int x :: stk) st mt ov :=
  w_if_le C tgt d ht (fun _ => k) (fun h2 => absurd h h2)
theorem w_if_le_f (C : Cx p s m args meth c D cs ad A cc nL own) {off : Int} {x : Int32} (tgt : Nat) (d : decode cc pc = .ok (.ifCond .le off, 3)) (ht : (pc : Int) + off = (tgt : Int)) (h : ¬ (x ≤ 0)) (k : Wg p l e R s m args below meth c Q D cs ad A nL cells slots (pc + 3) lv stk st mt ov) : Wg p l e R s m args below meth c Q D cs ad A nL cells slots pc lv (.int x :: stk) st mt ov :=
  w_if_le C tgt d ht (fun h2 => absurd h2 h) (fun _ => k)
theorem w_icmp_le (C : Cx p s m args meth c D cs ad A cc nL own) {off : Int} {x y : Int32} (tgt : Nat) (d : decode cc pc = .ok (.if_icmp .le off, 3)) (ht : (pc : Int) + off = (tgt : Int)) (kt : x ≤ y → Wg p l e R s m args below meth c Q D cs ad A nL cells slots tgt lv stk st mt ov) (kf : ¬ (x ≤ y) → Wg p l e R s m args below meth c Q D cs ad A nL cells slots (pc + 3) lv stk st mt ov) : Wg p l e R s m args below meth c Q D cs ad A nL cells slots pc lv (.int y :: .int x :: stk) st mt ov :=
  fun H locs ls hP hS hl => lv_icmp_le C.1 C.2.1 d ht (fun h => kt h H locs ls hP hS hl) (fun h => kf h H locs ls hP hS hl)
theorem w_icmp_le_t (C : Cx p s m args meth c D cs ad A cc nL own) {off : Int} {x y : Int32} (tgt : Nat) (d : decode cc pc = .ok (.if_icmp .le off, 3)) (ht : (pc : Int) + off = (tgt : Int)) (h : x ≤ y) (k : Wg p l e R s m args below meth c Q D cs ad A nL cells slots tgt lv stk st mt ov) : Wg p l e R s m args below meth c Q D cs ad A nL cells slots pc lv (.int y :: .int x :: stk) st mt ov :=
  w_icmp_le C tgt d ht (fun _ => k) (fun h2 => absurd h h2)
theorem w_icmp_le_f (C : Cx p s m args meth c D cs ad A cc nL own) {off : Int} {x y : Int32} (tgt : Nat) (d : decode cc pc = .ok (.if_icmp .le off, 3)) (ht : (pc : Int) + off = (tgt : Int)) (h : ¬ (x ≤ y)) (k : Wg p l e R s m args below meth c Q D cs ad A nL cells slots (pc + 3) lv stk st mt ov) : Wg p l e R s m args below meth c Q D cs ad A nL cells slots pc lv (.int y :: .int x :: stk) st mt ov :=
  w_icmp_le C tgt d ht (fun h2 => absurd h2 h) (fun _ => k)
/-- a number on the stack under another word -/
theorem w_topi {x y : Int32} (h : x = y) (k : Wg p l e R s m args below meth c Q D cs ad A nL cells slots pc lv (.int y :: stk) st mt ov) : Wg p l e R s m args below meth c Q D cs ad A nL cells slots pc lv (.int x :: stk) st mt ov := by rw [h]; exact k
theorem w_pc {pc2 : Nat} (h : pc = pc2) (k : Wg p l e R s m args below meth c Q D cs ad A nL cells slots pc2 lv stk st mt ov) : Wg p l e R s m args below meth c Q D cs ad A nL cells slots pc lv stk st mt ov := by rw [h]; exact k
theorem w_st {st2 : Nat → Nat → Int32} (h : st = st2) (k : Wg p l e R s m args below meth c Q D cs ad A nL cells slots pc lv stk st2 mt ov) : Wg p l e R s m args below meth c Q D cs ad A nL cells slots pc lv stk st mt ov := by rw [h]; exact k
theorem w_mt {mt2 : Nat → Nat → Int32} (h : mt = mt2) (k : Wg p l e R s m args below meth c Q D cs ad A nL cells slots pc lv stk st mt2 ov) : Wg p l e R s m args below meth c Q D cs ad A nL cells slots pc lv stk st mt ov := by rw [h]; exact k
/-- fewer locals, or in another order -/
theorem w_lv {lv2 : List (Nat × Value)} (js : List Nat) (h : lv_pick lv js = lv2) (k : Wg p l e R s m args below meth c Q D cs ad A nL cells slots pc lv2 stk st mt ov) : Wg p l e R s m args below meth c Q D cs ad A nL cells slots pc lv stk st mt ov := fun H locs ls hP hS hl => k H locs ls hP hS (lv_sub hl js h)
theorem w_widen {k2 n2 : Nat} (h1 : cells ≤ k2) (h2 : slots ≤ n2) (k : Wg p l e R s m args below meth c Q D cs ad A nL k2 n2 pc lv stk st mt ov) : Wg p l e R s m args below meth c Q D cs ad A nL cells slots pc lv stk st mt ov := fun H locs ls hP hS hl => W.widen h1 h2 (k H locs ls hP hS hl)
end ROWS
end
section
section FIELDS
variable {p : Program} {l : Launch} {e : Env} {R : Room} {s : State} {m : MethodId} {args : Array Value} {below : List Frame} {meth : Method} {c : Code} {Q : State → Prop} {D : va_G} {cs : Nat → ClassId} {ad : Nat → Nat} {A : Nat → Prop} {nL : Nat} {cc : ByteArray} {own : String} {cells slots : Nat} {pc : Nat} {lv : List (Nat × Value)} {stk : List Value} {st mt : Nat → Nat → Int32} {ov : Nat → Int64}
theorem e_T : gE ad cs st mt ov 0 = .inr (0, [.ref (ad 1), .ref (ad 3), .ref (ad 36), .ref (ad 41), .int (st 0 4)]) := by
  rfl
theorem g_T_draft (C : Cx p s m args meth c D cs ad A cc nL own) {index : Nat} (hlk : (Cond.fieldLink own index "TwinRegister" "draft" "LTwinRegister$Draft;") ∈ ag_all) (d : decode cc pc = .ok (.getfield index, 3)) (k : Wg p l e R s m args below meth c Q D cs ad A nL cells slots (pc + 3) lv (.ref (ad 1) :: stk) st mt ov) : Wg p l e R s m args below meth c Q D cs ad A nL cells slots pc lv (.ref (ad 0) :: stk) st mt ov :=
  fun H locs ls hP hS hl => va_get C.1 C.2.1 C.2.2.2.2.1 i_T C.2.2.2.1 C.2.2.2.2.2.2.1 hP 0 ((iw_get (by omega)).trans (congrArg (fun z => some (ad 0, z)) e_T)) rfl 0 (by decide) (C.2.2.2.2.1 _ hlk) (fun _ h => h) rfl d (k H locs ls hP hS hl)
theorem g_T_deviceRows (C : Cx p s m args meth c D cs ad A cc nL own) {index : Nat} (hlk : (Cond.fieldLink own index "TwinRegister" "deviceRows" "[LTwinRegister$Device;") ∈ ag_all) (d : decode cc pc = .ok (.getfield index, 3)) (k : Wg p l e R s m args below meth c Q D cs ad A nL cells slots (pc + 3) lv (.ref (ad 3) :: stk) st mt ov) : Wg p l e R s m args below meth c Q D cs ad A nL cells slots pc lv (.ref (ad 0) :: stk) st mt ov :=
  fun H locs ls hP hS hl => va_get C.1 C.2.1 C.2.2.2.2.1 i_T C.2.2.2.1 C.2.2.2.2.2.2.1 hP 0 ((iw_get (by omega)).trans (congrArg (fun z => some (ad 0, z)) e_T)) rfl 1 (by decide) (C.2.2.2.2.1 _ hlk) (fun _ h => h) rfl d (k H locs ls hP hS hl)
theorem g_T_groupRows (C : Cx p s m args meth c D cs ad A cc nL own) {index : Nat} (hlk : (Cond.fieldLink own index "TwinRegister" "groupRows" "[LTwinRegister$Group;") ∈ ag_all) (d : decode cc pc = .ok (.getfield index, 3)) (k : Wg p l e R s m args below meth c Q D cs ad A nL cells slots (pc + 3) lv (.ref (ad 36) :: stk) st mt ov) : Wg p l e R s m args below meth c Q D cs ad A nL cells slots pc lv (.ref (ad 0) :: stk) st mt ov :=
  fun H locs ls hP hS hl => va_get C.1 C.2.1 C.2.2.2.2.1 i_T C.2.2.2.1 C.2.2.2.2.2.2.1 hP 0 ((iw_get (by omega)).trans (congrArg (fun z => some (ad 0, z)) e_T)) rfl 2 (by decide) (C.2.2.2.2.1 _ hlk) (fun _ h => h) rfl d (k H locs ls hP hS hl)
theorem g_T_jobRows (C : Cx p s m args meth c D cs ad A cc nL own) {index : Nat} (hlk : (Cond.fieldLink own index "TwinRegister" "jobRows" "[LTwinRegister$Job;") ∈ ag_all) (d : decode cc pc = .ok (.getfield index, 3)) (k : Wg p l e R s m args below meth c Q D cs ad A nL cells slots (pc + 3) lv (.ref (ad 41) :: stk) st mt ov) : Wg p l e R s m args below meth c Q D cs ad A nL cells slots pc lv (.ref (ad 0) :: stk) st mt ov :=
  fun H locs ls hP hS hl => va_get C.1 C.2.1 C.2.2.2.2.1 i_T C.2.2.2.1 C.2.2.2.2.2.2.1 hP 0 ((iw_get (by omega)).trans (congrArg (fun z => some (ad 0, z)) e_T)) rfl 3 (by decide) (C.2.2.2.2.1 _ hlk) (fun _ h => h) rfl d (k H locs ls hP hS hl)
theorem g_T_jobCount (C : Cx p s m args meth c D cs ad A cc nL own) {index : Nat} (hlk : (Cond.fieldLink own index "TwinRegister" "jobCount" "I") ∈ ag_all) (d : decode cc pc = .ok (.getfield index, 3)) (k : Wg p l e R s m args below meth c Q D cs ad A nL cells slots (pc + 3) lv (.int (st 0 4) :: stk) st mt ov) : Wg p l e R s m args below meth c Q D cs ad A nL cells slots pc lv (.ref (ad 0) :: stk) st mt ov :=
  fun H locs ls hP hS hl => va_get C.1 C.2.1 C.2.2.2.2.1 i_T C.2.2.2.1 C.2.2.2.2.2.2.1 hP 0 ((iw_get (by omega)).trans (congrArg (fun z => some (ad 0, z)) e_T)) rfl 4 (by decide) (C.2.2.2.2.1 _ hlk) (fun _ h => h) rfl d (k H locs ls hP hS hl)
theorem p_T_jobCount (C : Cx p s m args meth c D cs ad A cc nL own) {index : Nat} {v : Int32} (hlk : (Cond.fieldLink own index "TwinRegister" "jobCount" "I") ∈ ag_all) (d : decode cc pc = .ok (.putfield index, 3)) (k : Wg p l e R s m args below meth c Q D cs ad A nL cells slots (pc + 3) lv stk (up2 st 0 4 v) mt ov) : Wg p l e R s m args below meth c Q D cs ad A nL cells slots pc lv (.int v :: .ref (ad 0) :: stk) st mt ov := by
  intro H locs ls hP hS hl
  refine va_put (ty := .int) C.1 C.2.1 C.2.2.2.2.1 i_T ft_T ft_T_ok n_T C.2.2.2.1 C.2.2.2.2.2.2.1 hP (iw_D C.2.2.2.2.2.2.2.1) hS 0 ((iw_get (by omega)).trans (congrArg (fun z => some (ad 0, z)) e_T)) rfl 4 (by decide) (C.2.2.2.2.1 _ hlk) (fun _ h => h) rfl (by decide +kernel) rfl rfl (Nat.le_of_ble_eq_true rfl) d (fun H1 locs1 hP1 hD1 hS1 => ?_)
  have e1 := gE_upT (ad := ad) (cs := cs) (st := st) (mt := mt) (ov := ov) (i := 0) (k := 4) (v := v) (e := .inr (0, [.ref (ad 1), .ref (ad 3), .ref (ad 36), .ref (ad 41), .int (st 0 4)].set 4 (.int v))) (by omega) (rfl)
  rw [iw_set, e1] at hP1
  exact k H1 locs1 ls hP1 hS1 hl
theorem e_F : gE ad cs st mt ov 1 = .inr (1, [.ref (ad 2), .int (st 1 1)]) := by
  rfl
theorem g_F_values (C : Cx p s m args meth c D cs ad A cc nL own) {index : Nat} (hlk : (Cond.fieldLink own index "TwinRegister$Draft" "values" "[I") ∈ ag_all) (d : decode cc pc = .ok (.getfield index, 3)) (k : Wg p l e R s m args below meth c Q D cs ad A nL cells slots (pc + 3) lv (.ref (ad 2) :: stk) st mt ov) : Wg p l e R s m args below meth c Q D cs ad A nL cells slots pc lv (.ref (ad 1) :: stk) st mt ov :=
  fun H locs ls hP hS hl => va_get C.1 C.2.1 C.2.2.2.2.1 i_F C.2.2.2.1 C.2.2.2.2.2.2.1 hP 1 ((iw_get (by omega)).trans (congrArg (fun z => some (ad 1, z)) e_F)) rfl 0 (by decide) (C.2.2.2.2.1 _ hlk) (fun _ h => h) rfl d (k H locs ls hP hS hl)
theorem gN_F_values (C : Cx p s m args meth c D cs ad A cc nL own) {index : Nat} {host : String} (hlk : (Cond.fieldLinkNest own index "TwinRegister$Draft" "values" "[I" host) ∈ ax_all) (d : decode cc pc = .ok (.getfield index, 3)) (k : Wg p l e R s m args below meth c Q D cs ad A nL cells slots (pc + 3) lv (.ref (ad 2) :: stk) st mt ov) : Wg p l e R s m args below meth c Q D cs ad A nL cells slots pc lv (.ref (ad 1) :: stk) st mt ov :=
  fun H locs ls hP hS hl => va_getN C.1 C.2.1 C.2.2.2.2.1 i_F C.2.2.2.1 C.2.2.2.2.2.2.1 hP 1 ((iw_get (by omega)).trans (congrArg (fun z => some (ad 1, z)) e_F)) rfl 0 (by decide) (va_Nw.use rfl (C.2.2.2.2.2.1.1 _ hlk)) (fun _ h => h) rfl d (k H locs ls hP hS hl)
theorem g_F_leaves (C : Cx p s m args meth c D cs ad A cc nL own) {index : Nat} (hlk : (Cond.fieldLink own index "TwinRegister$Draft" "leaves" "I") ∈ ag_all) (d : decode cc pc = .ok (.getfield index, 3)) (k : Wg p l e R s m args below meth c Q D cs ad A nL cells slots (pc + 3) lv (.int (st 1 1) :: stk) st mt ov) : Wg p l e R s m args below meth c Q D cs ad A nL cells slots pc lv (.ref (ad 1) :: stk) st mt ov :=
  fun H locs ls hP hS hl => va_get C.1 C.2.1 C.2.2.2.2.1 i_F C.2.2.2.1 C.2.2.2.2.2.2.1 hP 1 ((iw_get (by omega)).trans (congrArg (fun z => some (ad 1, z)) e_F)) rfl 1 (by decide) (C.2.2.2.2.1 _ hlk) (fun _ h => h) rfl d (k H locs ls hP hS hl)
theorem p_F_leaves (C : Cx p s m args meth c D cs ad A cc nL own) {index : Nat} {v : Int32} (hlk : (Cond.fieldLink own index "TwinRegister$Draft" "leaves" "I") ∈ ag_all) (d : decode cc pc = .ok (.putfield index, 3)) (k : Wg p l e R s m args below meth c Q D cs ad A nL cells slots (pc + 3) lv stk (up2 st 1 1 v) mt ov) : Wg p l e R s m args below meth c Q D cs ad A nL cells slots pc lv (.int v :: .ref (ad 1) :: stk) st mt ov := by
  intro H locs ls hP hS hl
  refine va_put (ty := .int) C.1 C.2.1 C.2.2.2.2.1 i_F ft_F ft_F_ok n_F C.2.2.2.1 C.2.2.2.2.2.2.1 hP (iw_D C.2.2.2.2.2.2.2.1) hS 1 ((iw_get (by omega)).trans (congrArg (fun z => some (ad 1, z)) e_F)) rfl 1 (by decide) (C.2.2.2.2.1 _ hlk) (fun _ h => h) rfl (by decide +kernel) rfl rfl (Nat.le_of_ble_eq_true rfl) d (fun H1 locs1 hP1 hD1 hS1 => ?_)
  have e1 := gE_upT (ad := ad) (cs := cs) (st := st) (mt := mt) (ov := ov) (i := 1) (k := 1) (v := v) (e := .inr (1, [.ref (ad 2), .int (st 1 1)].set 1 (.int v))) (by omega) (rfl)
  rw [iw_set, e1] at hP1
  exact k H1 locs1 ls hP1 hS1 hl
theorem gN_F_leaves (C : Cx p s m args meth c D cs ad A cc nL own) {index : Nat} {host : String} (hlk : (Cond.fieldLinkNest own index "TwinRegister$Draft" "leaves" "I" host) ∈ ax_all) (d : decode cc pc = .ok (.getfield index, 3)) (k : Wg p l e R s m args below meth c Q D cs ad A nL cells slots (pc + 3) lv (.int (st 1 1) :: stk) st mt ov) : Wg p l e R s m args below meth c Q D cs ad A nL cells slots pc lv (.ref (ad 1) :: stk) st mt ov :=
  fun H locs ls hP hS hl => va_getN C.1 C.2.1 C.2.2.2.2.1 i_F C.2.2.2.1 C.2.2.2.2.2.2.1 hP 1 ((iw_get (by omega)).trans (congrArg (fun z => some (ad 1, z)) e_F)) rfl 1 (by decide) (va_Nw.use rfl (C.2.2.2.2.2.1.1 _ hlk)) (fun _ h => h) rfl d (k H locs ls hP hS hl)
theorem pN_F_leaves (C : Cx p s m args meth c D cs ad A cc nL own) {index : Nat} {host : String} {v : Int32} (hlk : (Cond.fieldLinkNest own index "TwinRegister$Draft" "leaves" "I" host) ∈ ax_all) (d : decode cc pc = .ok (.putfield index, 3)) (k : Wg p l e R s m args below meth c Q D cs ad A nL cells slots (pc + 3) lv stk (up2 st 1 1 v) mt ov) : Wg p l e R s m args below meth c Q D cs ad A nL cells slots pc lv (.int v :: .ref (ad 1) :: stk) st mt ov := by
  intro H locs ls hP hS hl
  refine va_putN (ty := .int) C.1 C.2.1 C.2.2.2.2.1 i_F ft_F ft_F_ok n_F C.2.2.2.1 C.2.2.2.2.2.2.1 hP (iw_D C.2.2.2.2.2.2.2.1) hS 1 ((iw_get (by omega)).trans (congrArg (fun z => some (ad 1, z)) e_F)) rfl 1 (by decide) (va_Nw.use rfl (C.2.2.2.2.2.1.1 _ hlk)) (fun _ h => h) rfl (by decide +kernel) rfl rfl (Nat.le_of_ble_eq_true rfl) d (fun H1 locs1 hP1 hD1 hS1 => ?_)
  have e1 := gE_upT (ad := ad) (cs := cs) (st := st) (mt := mt) (ov := ov) (i := 1) (k := 1) (v := v) (e := .inr (1, [.ref (ad 2), .int (st 1 1)].set 1 (.int v))) (by omega) (rfl)
  rw [iw_set, e1] at hP1
  exact k H1 locs1 ls hP1 hS1 hl
theorem e_D {q : Nat} (hq : q < 8) : gE ad cs st mt ov (4 + 4 * q) = .inr (2, [.ref (ad ((4 + 4 * q) + 1)), .ref (ad ((4 + 4 * q) + 2)), .ref (ad ((4 + 4 * q) + 3)), .int (st (4 + 4 * q) 3), .int (st (4 + 4 * q) 4), .int (st (4 + 4 * q) 5), .int (st (4 + 4 * q) 6), .int (st (4 + 4 * q) 7)]) := by
  exact (by rw [gE_t (by omega), tE_dev (by omega) (by omega) (by omega)])
theorem g_D_wishedValues (C : Cx p s m args meth c D cs ad A cc nL own) {index : Nat} {q : Nat} (hq : q < 8) (hlk : (Cond.fieldLink own index "TwinRegister$Device" "wishedValues" "[I") ∈ ag_all) (d : decode cc pc = .ok (.getfield index, 3)) (k : Wg p l e R s m args below meth c Q D cs ad A nL cells slots (pc + 3) lv (.ref (ad ((4 + 4 * q) + 1)) :: stk) st mt ov) : Wg p l e R s m args below meth c Q D cs ad A nL cells slots pc lv (.ref (ad (4 + 4 * q)) :: stk) st mt ov :=
  fun H locs ls hP hS hl => va_get C.1 C.2.1 C.2.2.2.2.1 i_D C.2.2.2.1 C.2.2.2.2.2.2.1 hP (4 + 4 * q) ((iw_get (by omega)).trans (congrArg (fun z => some (ad (4 + 4 * q), z)) (e_D hq ))) rfl 0 (by decide) (C.2.2.2.2.1 _ hlk) (fun _ h => h) rfl d (k H locs ls hP hS hl)
theorem gN_D_wishedValues (C : Cx p s m args meth c D cs ad A cc nL own) {index : Nat} {host : String} {q : Nat} (hq : q < 8) (hlk : (Cond.fieldLinkNest own index "TwinRegister$Device" "wishedValues" "[I" host) ∈ ax_all) (d : decode cc pc = .ok (.getfield index, 3)) (k : Wg p l e R s m args below meth c Q D cs ad A nL cells slots (pc + 3) lv (.ref (ad ((4 + 4 * q) + 1)) :: stk) st mt ov) : Wg p l e R s m args below meth c Q D cs ad A nL cells slots pc lv (.ref (ad (4 + 4 * q)) :: stk) st mt ov :=
  fun H locs ls hP hS hl => va_getN C.1 C.2.1 C.2.2.2.2.1 i_D C.2.2.2.1 C.2.2.2.2.2.2.1 hP (4 + 4 * q) ((iw_get (by omega)).trans (congrArg (fun z => some (ad (4 + 4 * q), z)) (e_D hq ))) rfl 0 (by decide) (va_Nw.use rfl (C.2.2.2.2.2.1.1 _ hlk)) (fun _ h => h) rfl d (k H locs ls hP hS hl)
theorem g_D_reportedValues (C : Cx p s m args meth c D cs ad A cc nL own) {index : Nat} {q : Nat} (hq : q < 8) (hlk : (Cond.fieldLink own index "TwinRegister$Device" "reportedValues" "[I") ∈ ag_all) (d : decode cc pc = .ok (.getfield index, 3)) (k : Wg p l e R s m args below meth c Q D cs ad A nL cells slots (pc + 3) lv (.ref (ad ((4 + 4 * q) + 2)) :: stk) st mt ov) : Wg p l e R s m args below meth c Q D cs ad A nL cells slots pc lv (.ref (ad (4 + 4 * q)) :: stk) st mt ov :=
  fun H locs ls hP hS hl => va_get C.1 C.2.1 C.2.2.2.2.1 i_D C.2.2.2.1 C.2.2.2.2.2.2.1 hP (4 + 4 * q) ((iw_get (by omega)).trans (congrArg (fun z => some (ad (4 + 4 * q), z)) (e_D hq ))) rfl 1 (by decide) (C.2.2.2.2.1 _ hlk) (fun _ h => h) rfl d (k H locs ls hP hS hl)
theorem gN_D_reportedValues (C : Cx p s m args meth c D cs ad A cc nL own) {index : Nat} {host : String} {q : Nat} (hq : q < 8) (hlk : (Cond.fieldLinkNest own index "TwinRegister$Device" "reportedValues" "[I" host) ∈ ax_all) (d : decode cc pc = .ok (.getfield index, 3)) (k : Wg p l e R s m args below meth c Q D cs ad A nL cells slots (pc + 3) lv (.ref (ad ((4 + 4 * q) + 2)) :: stk) st mt ov) : Wg p l e R s m args below meth c Q D cs ad A nL cells slots pc lv (.ref (ad (4 + 4 * q)) :: stk) st mt ov :=
  fun H locs ls hP hS hl => va_getN C.1 C.2.1 C.2.2.2.2.1 i_D C.2.2.2.1 C.2.2.2.2.2.2.1 hP (4 + 4 * q) ((iw_get (by omega)).trans (congrArg (fun z => some (ad (4 + 4 * q), z)) (e_D hq ))) rfl 1 (by decide) (va_Nw.use rfl (C.2.2.2.2.2.1.1 _ hlk)) (fun _ h => h) rfl d (k H locs ls hP hS hl)
theorem g_D_reasons (C : Cx p s m args meth c D cs ad A cc nL own) {index : Nat} {q : Nat} (hq : q < 8) (hlk : (Cond.fieldLink own index "TwinRegister$Device" "reasons" "[I") ∈ ag_all) (d : decode cc pc = .ok (.getfield index, 3)) (k : Wg p l e R s m args below meth c Q D cs ad A nL cells slots (pc + 3) lv (.ref (ad ((4 + 4 * q) + 3)) :: stk) st mt ov) : Wg p l e R s m args below meth c Q D cs ad A nL cells slots pc lv (.ref (ad (4 + 4 * q)) :: stk) st mt ov :=
  fun H locs ls hP hS hl => va_get C.1 C.2.1 C.2.2.2.2.1 i_D C.2.2.2.1 C.2.2.2.2.2.2.1 hP (4 + 4 * q) ((iw_get (by omega)).trans (congrArg (fun z => some (ad (4 + 4 * q), z)) (e_D hq ))) rfl 2 (by decide) (C.2.2.2.2.1 _ hlk) (fun _ h => h) rfl d (k H locs ls hP hS hl)
theorem gN_D_reasons (C : Cx p s m args meth c D cs ad A cc nL own) {index : Nat} {host : String} {q : Nat} (hq : q < 8) (hlk : (Cond.fieldLinkNest own index "TwinRegister$Device" "reasons" "[I" host) ∈ ax_all) (d : decode cc pc = .ok (.getfield index, 3)) (k : Wg p l e R s m args below meth c Q D cs ad A nL cells slots (pc + 3) lv (.ref (ad ((4 + 4 * q) + 3)) :: stk) st mt ov) : Wg p l e R s m args below meth c Q D cs ad A nL cells slots pc lv (.ref (ad (4 + 4 * q)) :: stk) st mt ov :=
  fun H locs ls hP hS hl => va_getN C.1 C.2.1 C.2.2.2.2.1 i_D C.2.2.2.1 C.2.2.2.2.2.2.1 hP (4 + 4 * q) ((iw_get (by omega)).trans (congrArg (fun z => some (ad (4 + 4 * q), z)) (e_D hq ))) rfl 2 (by decide) (va_Nw.use rfl (C.2.2.2.2.2.1.1 _ hlk)) (fun _ h => h) rfl d (k H locs ls hP hS hl)
theorem g_D_differing (C : Cx p s m args meth c D cs ad A cc nL own) {index : Nat} {q : Nat} (hq : q < 8) (hlk : (Cond.fieldLink own index "TwinRegister$Device" "differing" "I") ∈ ag_all) (d : decode cc pc = .ok (.getfield index, 3)) (k : Wg p l e R s m args below meth c Q D cs ad A nL cells slots (pc + 3) lv (.int (st (4 + 4 * q) 3) :: stk) st mt ov) : Wg p l e R s m args below meth c Q D cs ad A nL cells slots pc lv (.ref (ad (4 + 4 * q)) :: stk) st mt ov :=
  fun H locs ls hP hS hl => va_get C.1 C.2.1 C.2.2.2.2.1 i_D C.2.2.2.1 C.2.2.2.2.2.2.1 hP (4 + 4 * q) ((iw_get (by omega)).trans (congrArg (fun z => some (ad (4 + 4 * q), z)) (e_D hq ))) rfl 3 (by decide) (C.2.2.2.2.1 _ hlk) (fun _ h => h) rfl d (k H locs ls hP hS hl)
theorem p_D_differing (C : Cx p s m args meth c D cs ad A cc nL own) {index : Nat} {q : Nat} (hq : q < 8) {v : Int32} (hlk : (Cond.fieldLink own index "TwinRegister$Device" "differing" "I") ∈ ag_all) (d : decode cc pc = .ok (.putfield index, 3)) (k : Wg p l e R s m args below meth c Q D cs ad A nL cells slots (pc + 3) lv stk (up2 st (4 + 4 * q) 3 v) mt ov) : Wg p l e R s m args below meth c Q D cs ad A nL cells slots pc lv (.int v :: .ref (ad (4 + 4 * q)) :: stk) st mt ov := by
  intro H locs ls hP hS hl
  refine va_put (ty := .int) C.1 C.2.1 C.2.2.2.2.1 i_D ft_D ft_D_ok n_D C.2.2.2.1 C.2.2.2.2.2.2.1 hP (iw_D C.2.2.2.2.2.2.2.1) hS (4 + 4 * q) ((iw_get (by omega)).trans (congrArg (fun z => some (ad (4 + 4 * q), z)) (e_D hq ))) rfl 3 (by decide) (C.2.2.2.2.1 _ hlk) (fun _ h => h) rfl (by decide +kernel) rfl rfl (Nat.le_of_ble_eq_true rfl) d (fun H1 locs1 hP1 hD1 hS1 => ?_)
  have e1 := gE_upT (ad := ad) (cs := cs) (st := st) (mt := mt) (ov := ov) (i := (4 + 4 * q)) (k := 3) (v := v) (e := .inr (2, [.ref (ad ((4 + 4 * q) + 1)), .ref (ad ((4 + 4 * q) + 2)), .ref (ad ((4 + 4 * q) + 3)), .int (st (4 + 4 * q) 3), .int (st (4 + 4 * q) 4), .int (st (4 + 4 * q) 5), .int (st (4 + 4 * q) 6), .int (st (4 + 4 * q) 7)].set 3 (.int v))) (by omega) (by rw [tE_dev (by omega) (by omega) (by omega), up2_in]; rfl)
  rw [iw_set, e1] at hP1
  exact k H1 locs1 ls hP1 hS1 hl
theorem gN_D_differing (C : Cx p s m args meth c D cs ad A cc nL own) {index : Nat} {host : String} {q : Nat} (hq : q < 8) (hlk : (Cond.fieldLinkNest own index "TwinRegister$Device" "differing" "I" host) ∈ ax_all) (d : decode cc pc = .ok (.getfield index, 3)) (k : Wg p l e R s m args below meth c Q D cs ad A nL cells slots (pc + 3) lv (.int (st (4 + 4 * q) 3) :: stk) st mt ov) : Wg p l e R s m args below meth c Q D cs ad A nL cells slots pc lv (.ref (ad (4 + 4 * q)) :: stk) st mt ov :=
  fun H locs ls hP hS hl => va_getN C.1 C.2.1 C.2.2.2.2.1 i_D C.2.2.2.1 C.2.2.2.2.2.2.1 hP (4 + 4 * q) ((iw_get (by omega)).trans (congrArg (fun z => some (ad (4 + 4 * q), z)) (e_D hq ))) rfl 3 (by decide) (va_Nw.use rfl (C.2.2.2.2.2.1.1 _ hlk)) (fun _ h => h) rfl d (k H locs ls hP hS hl)
theorem pN_D_differing (C : Cx p s m args meth c D cs ad A cc nL own) {index : Nat} {host : String} {q : Nat} (hq : q < 8) {v : Int32} (hlk : (Cond.fieldLinkNest own index "TwinRegister$Device" "differing" "I" host) ∈ ax_all) (d : decode cc pc = .ok (.putfield index, 3)) (k : Wg p l e R s m args below meth c Q D cs ad A nL cells slots (pc + 3) lv stk (up2 st (4 + 4 * q) 3 v) mt ov) : Wg p l e R s m args below meth c Q D cs ad A nL cells slots pc lv (.int v :: .ref (ad (4 + 4 * q)) :: stk) st mt ov := by
  intro H locs ls hP hS hl
  refine va_putN (ty := .int) C.1 C.2.1 C.2.2.2.2.1 i_D ft_D ft_D_ok n_D C.2.2.2.1 C.2.2.2.2.2.2.1 hP (iw_D C.2.2.2.2.2.2.2.1) hS (4 + 4 * q) ((iw_get (by omega)).trans (congrArg (fun z => some (ad (4 + 4 * q), z)) (e_D hq ))) rfl 3 (by decide) (va_Nw.use rfl (C.2.2.2.2.2.1.1 _ hlk)) (fun _ h => h) rfl (by decide +kernel) rfl rfl (Nat.le_of_ble_eq_true rfl) d (fun H1 locs1 hP1 hD1 hS1 => ?_)
  have e1 := gE_upT (ad := ad) (cs := cs) (st := st) (mt := mt) (ov := ov) (i := (4 + 4 * q)) (k := 3) (v := v) (e := .inr (2, [.ref (ad ((4 + 4 * q) + 1)), .ref (ad ((4 + 4 * q) + 2)), .ref (ad ((4 + 4 * q) + 3)), .int (st (4 + 4 * q) 3), .int (st (4 + 4 * q) 4), .int (st (4 + 4 * q) 5), .int (st (4 + 4 * q) 6), .int (st (4 + 4 * q) 7)].set 3 (.int v))) (by omega) (by rw [tE_dev (by omega) (by omega) (by omega), up2_in]; rfl)
  rw [iw_set, e1] at hP1
  exact k H1 locs1 ls hP1 hS1 hl
theorem g_D_latestVersion (C : Cx p s m args meth c D cs ad A cc nL own) {index : Nat} {q : Nat} (hq : q < 8) (hlk : (Cond.fieldLink own index "TwinRegister$Device" "latestVersion" "I") ∈ ag_all) (d : decode cc pc = .ok (.getfield index, 3)) (k : Wg p l e R s m args below meth c Q D cs ad A nL cells slots (pc + 3) lv (.int (st (4 + 4 * q) 4) :: stk) st mt ov) : Wg p l e R s m args below meth c Q D cs ad A nL cells slots pc lv (.ref (ad (4 + 4 * q)) :: stk) st mt ov :=
  fun H locs ls hP hS hl => va_get C.1 C.2.1 C.2.2.2.2.1 i_D C.2.2.2.1 C.2.2.2.2.2.2.1 hP (4 + 4 * q) ((iw_get (by omega)).trans (congrArg (fun z => some (ad (4 + 4 * q), z)) (e_D hq ))) rfl 4 (by decide) (C.2.2.2.2.1 _ hlk) (fun _ h => h) rfl d (k H locs ls hP hS hl)
theorem p_D_latestVersion (C : Cx p s m args meth c D cs ad A cc nL own) {index : Nat} {q : Nat} (hq : q < 8) {v : Int32} (hlk : (Cond.fieldLink own index "TwinRegister$Device" "latestVersion" "I") ∈ ag_all) (d : decode cc pc = .ok (.putfield index, 3)) (k : Wg p l e R s m args below meth c Q D cs ad A nL cells slots (pc + 3) lv stk (up2 st (4 + 4 * q) 4 v) mt ov) : Wg p l e R s m args below meth c Q D cs ad A nL cells slots pc lv (.int v :: .ref (ad (4 + 4 * q)) :: stk) st mt ov := by
  intro H locs ls hP hS hl
  refine va_put (ty := .int) C.1 C.2.1 C.2.2.2.2.1 i_D ft_D ft_D_ok n_D C.2.2.2.1 C.2.2.2.2.2.2.1 hP (iw_D C.2.2.2.2.2.2.2.1) hS (4 + 4 * q) ((iw_get (by omega)).trans (congrArg (fun z => some (ad (4 + 4 * q), z)) (e_D hq ))) rfl 4 (by decide) (C.2.2.2.2.1 _ hlk) (fun _ h => h) rfl (by decide +kernel) rfl rfl (Nat.le_of_ble_eq_true rfl) d (fun H1 locs1 hP1 hD1 hS1 => ?_)
  have e1 := gE_upT (ad := ad) (cs := cs) (st := st) (mt := mt) (ov := ov) (i := (4 + 4 * q)) (k := 4) (v := v) (e := .inr (2, [.ref (ad ((4 + 4 * q) + 1)), .ref (ad ((4 + 4 * q) + 2)), .ref (ad ((4 + 4 * q) + 3)), .int (st (4 + 4 * q) 3), .int (st (4 + 4 * q) 4), .int (st (4 + 4 * q) 5), .int (st (4 + 4 * q) 6), .int (st (4 + 4 * q) 7)].set 4 (.int v))) (by omega) (by rw [tE_dev (by omega) (by omega) (by omega), up2_in]; rfl)
  rw [iw_set, e1] at hP1
  exact k H1 locs1 ls hP1 hS1 hl
theorem gN_D_latestVersion (C : Cx p s m args meth c D cs ad A cc nL own) {index : Nat} {host : String} {q : Nat} (hq : q < 8) (hlk : (Cond.fieldLinkNest own index "TwinRegister$Device" "latestVersion" "I" host) ∈ ax_all) (d : decode cc pc = .ok (.getfield index, 3)) (k : Wg p l e R s m args below meth c Q D cs ad A nL cells slots (pc + 3) lv (.int (st (4 + 4 * q) 4) :: stk) st mt ov) : Wg p l e R s m args below meth c Q D cs ad A nL cells slots pc lv (.ref (ad (4 + 4 * q)) :: stk) st mt ov :=
  fun H locs ls hP hS hl => va_getN C.1 C.2.1 C.2.2.2.2.1 i_D C.2.2.2.1 C.2.2.2.2.2.2.1 hP (4 + 4 * q) ((iw_get (by omega)).trans (congrArg (fun z => some (ad (4 + 4 * q), z)) (e_D hq ))) rfl 4 (by decide) (va_Nw.use rfl (C.2.2.2.2.2.1.1 _ hlk)) (fun _ h => h) rfl d (k H locs ls hP hS hl)
theorem pN_D_latestVersion (C : Cx p s m args meth c D cs ad A cc nL own) {index : Nat} {host : String} {q : Nat} (hq : q < 8) {v : Int32} (hlk : (Cond.fieldLinkNest own index "TwinRegister$Device" "latestVersion" "I" host) ∈ ax_all) (d : decode cc pc = .ok (.putfield index, 3)) (k : Wg p l e R s m args below meth c Q D cs ad A nL cells slots (pc + 3) lv stk (up2 st (4 + 4 * q) 4 v) mt ov) : Wg p l e R s m args below meth c Q D cs ad A nL cells slots pc lv (.int v :: .ref (ad (4 + 4 * q)) :: stk) st mt ov := by
  intro H locs ls hP hS hl
  refine va_putN (ty := .int) C.1 C.2.1 C.2.2.2.2.1 i_D ft_D ft_D_ok n_D C.2.2.2.1 C.2.2.2.2.2.2.1 hP (iw_D C.2.2.2.2.2.2.2.1) hS (4 + 4 * q) ((iw_get (by omega)).trans (congrArg (fun z => some (ad (4 + 4 * q), z)) (e_D hq ))) rfl 4 (by decide) (va_Nw.use rfl (C.2.2.2.2.2.1.1 _ hlk)) (fun _ h => h) rfl (by decide +kernel) rfl rfl (Nat.le_of_ble_eq_true rfl) d (fun H1 locs1 hP1 hD1 hS1 => ?_)
  have e1 := gE_upT (ad := ad) (cs := cs) (st := st) (mt := mt) (ov := ov) (i := (4 + 4 * q)) (k := 4) (v := v) (e := .inr (2, [.ref (ad ((4 + 4 * q) + 1)), .ref (ad ((4 + 4 * q) + 2)), .ref (ad ((4 + 4 * q) + 3)), .int (st (4 + 4 * q) 3), .int (st (4 + 4 * q) 4), .int (st (4 + 4 * q) 5), .int (st (4 + 4 * q) 6), .int (st (4 + 4 * q) 7)].set 4 (.int v))) (by omega) (by rw [tE_dev (by omega) (by omega) (by omega), up2_in]; rfl)
  rw [iw_set, e1] at hP1
  exact k H1 locs1 ls hP1 hS1 hl
theorem g_D_versionBeforeSleep (C : Cx p s m args meth c D cs ad A cc nL own) {index : Nat} {q : Nat} (hq : q < 8) (hlk : (Cond.fieldLink own index "TwinRegister$Device" "versionBeforeSleep" "I") ∈ ag_all) (d : decode cc pc = .ok (.getfield index, 3)) (k : Wg p l e R s m args below meth c Q D cs ad A nL cells slots (pc + 3) lv (.int (st (4 + 4 * q) 5) :: stk) st mt ov) : Wg p l e R s m args below meth c Q D cs ad A nL cells slots pc lv (.ref (ad (4 + 4 * q)) :: stk) st mt ov :=
  fun H locs ls hP hS hl => va_get C.1 C.2.1 C.2.2.2.2.1 i_D C.2.2.2.1 C.2.2.2.2.2.2.1 hP (4 + 4 * q) ((iw_get (by omega)).trans (congrArg (fun z => some (ad (4 + 4 * q), z)) (e_D hq ))) rfl 5 (by decide) (C.2.2.2.2.1 _ hlk) (fun _ h => h) rfl d (k H locs ls hP hS hl)
theorem p_D_versionBeforeSleep (C : Cx p s m args meth c D cs ad A cc nL own) {index : Nat} {q : Nat} (hq : q < 8) {v : Int32} (hlk : (Cond.fieldLink own index "TwinRegister$Device" "versionBeforeSleep" "I") ∈ ag_all) (d : decode cc pc = .ok (.putfield index, 3)) (k : Wg p l e R s m args below meth c Q D cs ad A nL cells slots (pc + 3) lv stk (up2 st (4 + 4 * q) 5 v) mt ov) : Wg p l e R s m args below meth c Q D cs ad A nL cells slots pc lv (.int v :: .ref (ad (4 + 4 * q)) :: stk) st mt ov := by
  intro H locs ls hP hS hl
  refine va_put (ty := .int) C.1 C.2.1 C.2.2.2.2.1 i_D ft_D ft_D_ok n_D C.2.2.2.1 C.2.2.2.2.2.2.1 hP (iw_D C.2.2.2.2.2.2.2.1) hS (4 + 4 * q) ((iw_get (by omega)).trans (congrArg (fun z => some (ad (4 + 4 * q), z)) (e_D hq ))) rfl 5 (by decide) (C.2.2.2.2.1 _ hlk) (fun _ h => h) rfl (by decide +kernel) rfl rfl (Nat.le_of_ble_eq_true rfl) d (fun H1 locs1 hP1 hD1 hS1 => ?_)
  have e1 := gE_upT (ad := ad) (cs := cs) (st := st) (mt := mt) (ov := ov) (i := (4 + 4 * q)) (k := 5) (v := v) (e := .inr (2, [.ref (ad ((4 + 4 * q) + 1)), .ref (ad ((4 + 4 * q) + 2)), .ref (ad ((4 + 4 * q) + 3)), .int (st (4 + 4 * q) 3), .int (st (4 + 4 * q) 4), .int (st (4 + 4 * q) 5), .int (st (4 + 4 * q) 6), .int (st (4 + 4 * q) 7)].set 5 (.int v))) (by omega) (by rw [tE_dev (by omega) (by omega) (by omega), up2_in]; rfl)
  rw [iw_set, e1] at hP1
  exact k H1 locs1 ls hP1 hS1 hl
theorem gN_D_versionBeforeSleep (C : Cx p s m args meth c D cs ad A cc nL own) {index : Nat} {host : String} {q : Nat} (hq : q < 8) (hlk : (Cond.fieldLinkNest own index "TwinRegister$Device" "versionBeforeSleep" "I" host) ∈ ax_all) (d : decode cc pc = .ok (.getfield index, 3)) (k : Wg p l e R s m args below meth c Q D cs ad A nL cells slots (pc + 3) lv (.int (st (4 + 4 * q) 5) :: stk) st mt ov) : Wg p l e R s m args below meth c Q D cs ad A nL cells slots pc lv (.ref (ad (4 + 4 * q)) :: stk) st mt ov :=
  fun H locs ls hP hS hl => va_getN C.1 C.2.1 C.2.2.2.2.1 i_D C.2.2.2.1 C.2.2.2.2.2.2.1 hP (4 + 4 * q) ((iw_get (by omega)).trans (congrArg (fun z => some (ad (4 + 4 * q), z)) (e_D hq ))) rfl 5 (by decide) (va_Nw.use rfl (C.2.2.2.2.2.1.1 _ hlk)) (fun _ h => h) rfl d (k H locs ls hP hS hl)
theorem pN_D_versionBeforeSleep (C : Cx p s m args meth c D cs ad A cc nL own) {index : Nat} {host : String} {q : Nat} (hq : q < 8) {v : Int32} (hlk : (Cond.fieldLinkNest own index "TwinRegister$Device" "versionBeforeSleep" "I" host) ∈ ax_all) (d : decode cc pc = .ok (.putfield index, 3)) (k : Wg p l e R s m args below meth c Q D cs ad A nL cells slots (pc + 3) lv stk (up2 st (4 + 4 * q) 5 v) mt ov) : Wg p l e R s m args below meth c Q D cs ad A nL cells slots pc lv (.int v :: .ref (ad (4 + 4 * q)) :: stk) st mt ov := by
  intro H locs ls hP hS hl
  refine va_putN (ty := .int) C.1 C.2.1 C.2.2.2.2.1 i_D ft_D ft_D_ok n_D C.2.2.2.1 C.2.2.2.2.2.2.1 hP (iw_D C.2.2.2.2.2.2.2.1) hS (4 + 4 * q) ((iw_get (by omega)).trans (congrArg (fun z => some (ad (4 + 4 * q), z)) (e_D hq ))) rfl 5 (by decide) (va_Nw.use rfl (C.2.2.2.2.2.1.1 _ hlk)) (fun _ h => h) rfl (by decide +kernel) rfl rfl (Nat.le_of_ble_eq_true rfl) d (fun H1 locs1 hP1 hD1 hS1 => ?_)
  have e1 := gE_upT (ad := ad) (cs := cs) (st := st) (mt := mt) (ov := ov) (i := (4 + 4 * q)) (k := 5) (v := v) (e := .inr (2, [.ref (ad ((4 + 4 * q) + 1)), .ref (ad ((4 + 4 * q) + 2)), .ref (ad ((4 + 4 * q) + 3)), .int (st (4 + 4 * q) 3), .int (st (4 + 4 * q) 4), .int (st (4 + 4 * q) 5), .int (st (4 + 4 * q) 6), .int (st (4 + 4 * q) 7)].set 5 (.int v))) (by omega) (by rw [tE_dev (by omega) (by omega) (by omega), up2_in]; rfl)
  rw [iw_set, e1] at hP1
  exact k H1 locs1 ls hP1 hS1 hl
theorem g_D_latestReport (C : Cx p s m args meth c D cs ad A cc nL own) {index : Nat} {q : Nat} (hq : q < 8) (hlk : (Cond.fieldLink own index "TwinRegister$Device" "latestReport" "I") ∈ ag_all) (d : decode cc pc = .ok (.getfield index, 3)) (k : Wg p l e R s m args below meth c Q D cs ad A nL cells slots (pc + 3) lv (.int (st (4 + 4 * q) 6) :: stk) st mt ov) : Wg p l e R s m args below meth c Q D cs ad A nL cells slots pc lv (.ref (ad (4 + 4 * q)) :: stk) st mt ov :=
  fun H locs ls hP hS hl => va_get C.1 C.2.1 C.2.2.2.2.1 i_D C.2.2.2.1 C.2.2.2.2.2.2.1 hP (4 + 4 * q) ((iw_get (by omega)).trans (congrArg (fun z => some (ad (4 + 4 * q), z)) (e_D hq ))) rfl 6 (by decide) (C.2.2.2.2.1 _ hlk) (fun _ h => h) rfl d (k H locs ls hP hS hl)
theorem p_D_latestReport (C : Cx p s m args meth c D cs ad A cc nL own) {index : Nat} {q : Nat} (hq : q < 8) {v : Int32} (hlk : (Cond.fieldLink own index "TwinRegister$Device" "latestReport" "I") ∈ ag_all) (d : decode cc pc = .ok (.putfield index, 3)) (k : Wg p l e R s m args below meth c Q D cs ad A nL cells slots (pc + 3) lv stk (up2 st (4 + 4 * q) 6 v) mt ov) : Wg p l e R s m args below meth c Q D cs ad A nL cells slots pc lv (.int v :: .ref (ad (4 + 4 * q)) :: stk) st mt ov := by
  intro H locs ls hP hS hl
  refine va_put (ty := .int) C.1 C.2.1 C.2.2.2.2.1 i_D ft_D ft_D_ok n_D C.2.2.2.1 C.2.2.2.2.2.2.1 hP (iw_D C.2.2.2.2.2.2.2.1) hS (4 + 4 * q) ((iw_get (by omega)).trans (congrArg (fun z => some (ad (4 + 4 * q), z)) (e_D hq ))) rfl 6 (by decide) (C.2.2.2.2.1 _ hlk) (fun _ h => h) rfl (by decide +kernel) rfl rfl (Nat.le_of_ble_eq_true rfl) d (fun H1 locs1 hP1 hD1 hS1 => ?_)
  have e1 := gE_upT (ad := ad) (cs := cs) (st := st) (mt := mt) (ov := ov) (i := (4 + 4 * q)) (k := 6) (v := v) (e := .inr (2, [.ref (ad ((4 + 4 * q) + 1)), .ref (ad ((4 + 4 * q) + 2)), .ref (ad ((4 + 4 * q) + 3)), .int (st (4 + 4 * q) 3), .int (st (4 + 4 * q) 4), .int (st (4 + 4 * q) 5), .int (st (4 + 4 * q) 6), .int (st (4 + 4 * q) 7)].set 6 (.int v))) (by omega) (by rw [tE_dev (by omega) (by omega) (by omega), up2_in]; rfl)
  rw [iw_set, e1] at hP1
  exact k H1 locs1 ls hP1 hS1 hl
theorem gN_D_latestReport (C : Cx p s m args meth c D cs ad A cc nL own) {index : Nat} {host : String} {q : Nat} (hq : q < 8) (hlk : (Cond.fieldLinkNest own index "TwinRegister$Device" "latestReport" "I" host) ∈ ax_all) (d : decode cc pc = .ok (.getfield index, 3)) (k : Wg p l e R s m args below meth c Q D cs ad A nL cells slots (pc + 3) lv (.int (st (4 + 4 * q) 6) :: stk) st mt ov) : Wg p l e R s m args below meth c Q D cs ad A nL cells slots pc lv (.ref (ad (4 + 4 * q)) :: stk) st mt ov :=
  fun H locs ls hP hS hl => va_getN C.1 C.2.1 C.2.2.2.2.1 i_D C.2.2.2.1 C.2.2.2.2.2.2.1 hP (4 + 4 * q) ((iw_get (by omega)).trans (congrArg (fun z => some (ad (4 + 4 * q), z)) (e_D hq ))) rfl 6 (by decide) (va_Nw.use rfl (C.2.2.2.2.2.1.1 _ hlk)) (fun _ h => h) rfl d (k H locs ls hP hS hl)
theorem pN_D_latestReport (C : Cx p s m args meth c D cs ad A cc nL own) {index : Nat} {host : String} {q : Nat} (hq : q < 8) {v : Int32} (hlk : (Cond.fieldLinkNest own index "TwinRegister$Device" "latestReport" "I" host) ∈ ax_all) (d : decode cc pc = .ok (.putfield index, 3)) (k : Wg p l e R s m args below meth c Q D cs ad A nL cells slots (pc + 3) lv stk (up2 st (4 + 4 * q) 6 v) mt ov) : Wg p l e R s m args below meth c Q D cs ad A nL cells slots pc lv (.int v :: .ref (ad (4 + 4 * q)) :: stk) st mt ov := by
  intro H locs ls hP hS hl
  refine va_putN (ty := .int) C.1 C.2.1 C.2.2.2.2.1 i_D ft_D ft_D_ok n_D C.2.2.2.1 C.2.2.2.2.2.2.1 hP (iw_D C.2.2.2.2.2.2.2.1) hS (4 + 4 * q) ((iw_get (by omega)).trans (congrArg (fun z => some (ad (4 + 4 * q), z)) (e_D hq ))) rfl 6 (by decide) (va_Nw.use rfl (C.2.2.2.2.2.1.1 _ hlk)) (fun _ h => h) rfl (by decide +kernel) rfl rfl (Nat.le_of_ble_eq_true rfl) d (fun H1 locs1 hP1 hD1 hS1 => ?_)
  have e1 := gE_upT (ad := ad) (cs := cs) (st := st) (mt := mt) (ov := ov) (i := (4 + 4 * q)) (k := 6) (v := v) (e := .inr (2, [.ref (ad ((4 + 4 * q) + 1)), .ref (ad ((4 + 4 * q) + 2)), .ref (ad ((4 + 4 * q) + 3)), .int (st (4 + 4 * q) 3), .int (st (4 + 4 * q) 4), .int (st (4 + 4 * q) 5), .int (st (4 + 4 * q) 6), .int (st (4 + 4 * q) 7)].set 6 (.int v))) (by omega) (by rw [tE_dev (by omega) (by omega) (by omega), up2_in]; rfl)
  rw [iw_set, e1] at hP1
  exact k H1 locs1 ls hP1 hS1 hl
theorem g_D_asleep (C : Cx p s m args meth c D cs ad A cc nL own) {index : Nat} {q : Nat} (hq : q < 8) (hlk : (Cond.fieldLink own index "TwinRegister$Device" "asleep" "Z") ∈ ag_all) (d : decode cc pc = .ok (.getfield index, 3)) (k : Wg p l e R s m args below meth c Q D cs ad A nL cells slots (pc + 3) lv (.int (st (4 + 4 * q) 7) :: stk) st mt ov) : Wg p l e R s m args below meth c Q D cs ad A nL cells slots pc lv (.ref (ad (4 + 4 * q)) :: stk) st mt ov :=
  fun H locs ls hP hS hl => va_get C.1 C.2.1 C.2.2.2.2.1 i_D C.2.2.2.1 C.2.2.2.2.2.2.1 hP (4 + 4 * q) ((iw_get (by omega)).trans (congrArg (fun z => some (ad (4 + 4 * q), z)) (e_D hq ))) rfl 7 (by decide) (C.2.2.2.2.1 _ hlk) (fun _ h => h) rfl d (k H locs ls hP hS hl)
theorem p_D_asleep (C : Cx p s m args meth c D cs ad A cc nL own) {index : Nat} {q : Nat} (hq : q < 8) {v : Int32} (hz : v = 0 ∨ v = 1) (hlk : (Cond.fieldLink own index "TwinRegister$Device" "asleep" "Z") ∈ ag_all) (d : decode cc pc = .ok (.putfield index, 3)) (k : Wg p l e R s m args below meth c Q D cs ad A nL cells slots (pc + 3) lv stk (up2 st (4 + 4 * q) 7 v) mt ov) : Wg p l e R s m args below meth c Q D cs ad A nL cells slots pc lv (.int v :: .ref (ad (4 + 4 * q)) :: stk) st mt ov := by
  intro H locs ls hP hS hl
  refine va_put (ty := .boolean) C.1 C.2.1 C.2.2.2.2.1 i_D ft_D ft_D_ok n_D C.2.2.2.1 C.2.2.2.2.2.2.1 hP (iw_D C.2.2.2.2.2.2.2.1) hS (4 + 4 * q) ((iw_get (by omega)).trans (congrArg (fun z => some (ad (4 + 4 * q), z)) (e_D hq ))) rfl 7 (by decide) (C.2.2.2.2.1 _ hlk) (fun _ h => h) rfl (by decide +kernel) (by rcases hz with rfl | rfl <;> rfl) (by rcases hz with rfl | rfl <;> rfl) (Nat.le_of_ble_eq_true rfl) d (fun H1 locs1 hP1 hD1 hS1 => ?_)
  have e1 := gE_upT (ad := ad) (cs := cs) (st := st) (mt := mt) (ov := ov) (i := (4 + 4 * q)) (k := 7) (v := v) (e := .inr (2, [.ref (ad ((4 + 4 * q) + 1)), .ref (ad ((4 + 4 * q) + 2)), .ref (ad ((4 + 4 * q) + 3)), .int (st (4 + 4 * q) 3), .int (st (4 + 4 * q) 4), .int (st (4 + 4 * q) 5), .int (st (4 + 4 * q) 6), .int (st (4 + 4 * q) 7)].set 7 (.int v))) (by omega) (by rw [tE_dev (by omega) (by omega) (by omega), up2_in]; rfl)
  rw [iw_set, e1] at hP1
  exact k H1 locs1 ls hP1 hS1 hl
theorem gN_D_asleep (C : Cx p s m args meth c D cs ad A cc nL own) {index : Nat} {host : String} {q : Nat} (hq : q < 8) (hlk : (Cond.fieldLinkNest own index "TwinRegister$Device" "asleep" "Z" host) ∈ ax_all) (d : decode cc pc = .ok (.getfield index, 3)) (k : Wg p l e R s m args below meth c Q D cs ad A nL cells slots (pc + 3) lv (.int (st (4 + 4 * q) 7) :: stk) st mt ov) : Wg p l e R s m args below meth c Q D cs ad A nL cells slots pc lv (.ref (ad (4 + 4 * q)) :: stk) st mt ov :=
  fun H locs ls hP hS hl => va_getN C.1 C.2.1 C.2.2.2.2.1 i_D C.2.2.2.1 C.2.2.2.2.2.2.1 hP (4 + 4 * q) ((iw_get (by omega)).trans (congrArg (fun z => some (ad (4 + 4 * q), z)) (e_D hq ))) rfl 7 (by decide) (va_Nw.use rfl (C.2.2.2.2.2.1.1 _ hlk)) (fun _ h => h) rfl d (k H locs ls hP hS hl)
theorem pN_D_asleep (C : Cx p s m args meth c D cs ad A cc nL own) {index : Nat} {host : String} {q : Nat} (hq : q < 8) {v : Int32} (hz : v = 0 ∨ v = 1) (hlk : (Cond.fieldLinkNest own index "TwinRegister$Device" "asleep" "Z" host) ∈ ax_all) (d : decode cc pc = .ok (.putfield index, 3)) (k : Wg p l e R s m args below meth c Q D cs ad A nL cells slots (pc + 3) lv stk (up2 st (4 + 4 * q) 7 v) mt ov) : Wg p l e R s m args below meth c Q D cs ad A nL cells slots pc lv (.int v :: .ref (ad (4 + 4 * q)) :: stk) st mt ov := by
  intro H locs ls hP hS hl
  refine va_putN (ty := .boolean) C.1 C.2.1 C.2.2.2.2.1 i_D ft_D ft_D_ok n_D C.2.2.2.1 C.2.2.2.2.2.2.1 hP (iw_D C.2.2.2.2.2.2.2.1) hS (4 + 4 * q) ((iw_get (by omega)).trans (congrArg (fun z => some (ad (4 + 4 * q), z)) (e_D hq ))) rfl 7 (by decide) (va_Nw.use rfl (C.2.2.2.2.2.1.1 _ hlk)) (fun _ h => h) rfl (by decide +kernel) (by rcases hz with rfl | rfl <;> rfl) (by rcases hz with rfl | rfl <;> rfl) (Nat.le_of_ble_eq_true rfl) d (fun H1 locs1 hP1 hD1 hS1 => ?_)
  have e1 := gE_upT (ad := ad) (cs := cs) (st := st) (mt := mt) (ov := ov) (i := (4 + 4 * q)) (k := 7) (v := v) (e := .inr (2, [.ref (ad ((4 + 4 * q) + 1)), .ref (ad ((4 + 4 * q) + 2)), .ref (ad ((4 + 4 * q) + 3)), .int (st (4 + 4 * q) 3), .int (st (4 + 4 * q) 4), .int (st (4 + 4 * q) 5), .int (st (4 + 4 * q) 6), .int (st (4 + 4 * q) 7)].set 7 (.int v))) (by omega) (by rw [tE_dev (by omega) (by omega) (by omega), up2_in]; rfl)
  rw [iw_set, e1] at hP1
  exact k H1 locs1 ls hP1 hS1 hl
theorem e_G {q : Nat} (hq : q < 4) : gE ad cs st mt ov (37 + q) = .inr (3, [.int (st (37 + q) 0), .int (st (37 + q) 1), .int (st (37 + q) 2)]) := by
  exact (by rw [gE_t (by omega), tE_grp (by omega) (by omega)])
theorem g_G_leaf (C : Cx p s m args meth c D cs ad A cc nL own) {index : Nat} {q : Nat} (hq : q < 4) (hlk : (Cond.fieldLink own index "TwinRegister$Group" "leaf" "I") ∈ ag_all) (d : decode cc pc = .ok (.getfield index, 3)) (k : Wg p l e R s m args below meth c Q D cs ad A nL cells slots (pc + 3) lv (.int (st (37 + q) 0) :: stk) st mt ov) : Wg p l e R s m args below meth c Q D cs ad A nL cells slots pc lv (.ref (ad (37 + q)) :: stk) st mt ov :=
  fun H locs ls hP hS hl => va_get C.1 C.2.1 C.2.2.2.2.1 i_G C.2.2.2.1 C.2.2.2.2.2.2.1 hP (37 + q) ((iw_get (by omega)).trans (congrArg (fun z => some (ad (37 + q), z)) (e_G hq ))) rfl 0 (by decide) (C.2.2.2.2.1 _ hlk) (fun _ h => h) rfl d (k H locs ls hP hS hl)
theorem p_G_leaf (C : Cx p s m args meth c D cs ad A cc nL own) {index : Nat} {q : Nat} (hq : q < 4) {v : Int32} (hlk : (Cond.fieldLink own index "TwinRegister$Group" "leaf" "I") ∈ ag_all) (d : decode cc pc = .ok (.putfield index, 3)) (k : Wg p l e R s m args below meth c Q D cs ad A nL cells slots (pc + 3) lv stk (up2 st (37 + q) 0 v) mt ov) : Wg p l e R s m args below meth c Q D cs ad A nL cells slots pc lv (.int v :: .ref (ad (37 + q)) :: stk) st mt ov := by
  intro H locs ls hP hS hl
  refine va_put (ty := .int) C.1 C.2.1 C.2.2.2.2.1 i_G ft_G ft_G_ok n_G C.2.2.2.1 C.2.2.2.2.2.2.1 hP (iw_D C.2.2.2.2.2.2.2.1) hS (37 + q) ((iw_get (by omega)).trans (congrArg (fun z => some (ad (37 + q), z)) (e_G hq ))) rfl 0 (by decide) (C.2.2.2.2.1 _ hlk) (fun _ h => h) rfl (by decide +kernel) rfl rfl (Nat.le_of_ble_eq_true rfl) d (fun H1 locs1 hP1 hD1 hS1 => ?_)
  have e1 := gE_upT (ad := ad) (cs := cs) (st := st) (mt := mt) (ov := ov) (i := (37 + q)) (k := 0) (v := v) (e := .inr (3, [.int (st (37 + q) 0), .int (st (37 + q) 1), .int (st (37 + q) 2)].set 0 (.int v))) (by omega) (by rw [tE_grp (by omega) (by omega), up2_in]; rfl)
  rw [iw_set, e1] at hP1
  exact k H1 locs1 ls hP1 hS1 hl
theorem gN_G_leaf (C : Cx p s m args meth c D cs ad A cc nL own) {index : Nat} {host : String} {q : Nat} (hq : q < 4) (hlk : (Cond.fieldLinkNest own index "TwinRegister$Group" "leaf" "I" host) ∈ ax_all) (d : decode cc pc = .ok (.getfield index, 3)) (k : Wg p l e R s m args below meth c Q D cs ad A nL cells slots (pc + 3) lv (.int (st (37 + q) 0) :: stk) st mt ov) : Wg p l e R s m args below meth c Q D cs ad A nL cells slots pc lv (.ref (ad (37 + q)) :: stk) st mt ov :=
  fun H locs ls hP hS hl => va_getN C.1 C.2.1 C.2.2.2.2.1 i_G C.2.2.2.1 C.2.2.2.2.2.2.1 hP (37 + q) ((iw_get (by omega)).trans (congrArg (fun z => some (ad (37 + q), z)) (e_G hq ))) rfl 0 (by decide) (va_Nw.use rfl (C.2.2.2.2.2.1.1 _ hlk)) (fun _ h => h) rfl d (k H locs ls hP hS hl)
theorem pN_G_leaf (C : Cx p s m args meth c D cs ad A cc nL own) {index : Nat} {host : String} {q : Nat} (hq : q < 4) {v : Int32} (hlk : (Cond.fieldLinkNest own index "TwinRegister$Group" "leaf" "I" host) ∈ ax_all) (d : decode cc pc = .ok (.putfield index, 3)) (k : Wg p l e R s m args below meth c Q D cs ad A nL cells slots (pc + 3) lv stk (up2 st (37 + q) 0 v) mt ov) : Wg p l e R s m args below meth c Q D cs ad A nL cells slots pc lv (.int v :: .ref (ad (37 + q)) :: stk) st mt ov := by
  intro H locs ls hP hS hl
  refine va_putN (ty := .int) C.1 C.2.1 C.2.2.2.2.1 i_G ft_G ft_G_ok n_G C.2.2.2.1 C.2.2.2.2.2.2.1 hP (iw_D C.2.2.2.2.2.2.2.1) hS (37 + q) ((iw_get (by omega)).trans (congrArg (fun z => some (ad (37 + q), z)) (e_G hq ))) rfl 0 (by decide) (va_Nw.use rfl (C.2.2.2.2.2.1.1 _ hlk)) (fun _ h => h) rfl (by decide +kernel) rfl rfl (Nat.le_of_ble_eq_true rfl) d (fun H1 locs1 hP1 hD1 hS1 => ?_)
  have e1 := gE_upT (ad := ad) (cs := cs) (st := st) (mt := mt) (ov := ov) (i := (37 + q)) (k := 0) (v := v) (e := .inr (3, [.int (st (37 + q) 0), .int (st (37 + q) 1), .int (st (37 + q) 2)].set 0 (.int v))) (by omega) (by rw [tE_grp (by omega) (by omega), up2_in]; rfl)
  rw [iw_set, e1] at hP1
  exact k H1 locs1 ls hP1 hS1 hl
theorem g_G_low (C : Cx p s m args meth c D cs ad A cc nL own) {index : Nat} {q : Nat} (hq : q < 4) (hlk : (Cond.fieldLink own index "TwinRegister$Group" "low" "I") ∈ ag_all) (d : decode cc pc = .ok (.getfield index, 3)) (k : Wg p l e R s m args below meth c Q D cs ad A nL cells slots (pc + 3) lv (.int (st (37 + q) 1) :: stk) st mt ov) : Wg p l e R s m args below meth c Q D cs ad A nL cells slots pc lv (.ref (ad (37 + q)) :: stk) st mt ov :=
  fun H locs ls hP hS hl => va_get C.1 C.2.1 C.2.2.2.2.1 i_G C.2.2.2.1 C.2.2.2.2.2.2.1 hP (37 + q) ((iw_get (by omega)).trans (congrArg (fun z => some (ad (37 + q), z)) (e_G hq ))) rfl 1 (by decide) (C.2.2.2.2.1 _ hlk) (fun _ h => h) rfl d (k H locs ls hP hS hl)
theorem p_G_low (C : Cx p s m args meth c D cs ad A cc nL own) {index : Nat} {q : Nat} (hq : q < 4) {v : Int32} (hlk : (Cond.fieldLink own index "TwinRegister$Group" "low" "I") ∈ ag_all) (d : decode cc pc = .ok (.putfield index, 3)) (k : Wg p l e R s m args below meth c Q D cs ad A nL cells slots (pc + 3) lv stk (up2 st (37 + q) 1 v) mt ov) : Wg p l e R s m args below meth c Q D cs ad A nL cells slots pc lv (.int v :: .ref (ad (37 + q)) :: stk) st mt ov := by
  intro H locs ls hP hS hl
  refine va_put (ty := .int) C.1 C.2.1 C.2.2.2.2.1 i_G ft_G ft_G_ok n_G C.2.2.2.1 C.2.2.2.2.2.2.1 hP (iw_D C.2.2.2.2.2.2.2.1) hS (37 + q) ((iw_get (by omega)).trans (congrArg (fun z => some (ad (37 + q), z)) (e_G hq ))) rfl 1 (by decide) (C.2.2.2.2.1 _ hlk) (fun _ h => h) rfl (by decide +kernel) rfl rfl (Nat.le_of_ble_eq_true rfl) d (fun H1 locs1 hP1 hD1 hS1 => ?_)
  have e1 := gE_upT (ad := ad) (cs := cs) (st := st) (mt := mt) (ov := ov) (i := (37 + q)) (k := 1) (v := v) (e := .inr (3, [.int (st (37 + q) 0), .int (st (37 + q) 1), .int (st (37 + q) 2)].set 1 (.int v))) (by omega) (by rw [tE_grp (by omega) (by omega), up2_in]; rfl)
  rw [iw_set, e1] at hP1
  exact k H1 locs1 ls hP1 hS1 hl
theorem gN_G_low (C : Cx p s m args meth c D cs ad A cc nL own) {index : Nat} {host : String} {q : Nat} (hq : q < 4) (hlk : (Cond.fieldLinkNest own index "TwinRegister$Group" "low" "I" host) ∈ ax_all) (d : decode cc pc = .ok (.getfield index, 3)) (k : Wg p l e R s m args below meth c Q D cs ad A nL cells slots (pc + 3) lv (.int (st (37 + q) 1) :: stk) st mt ov) : Wg p l e R s m args below meth c Q D cs ad A nL cells slots pc lv (.ref (ad (37 + q)) :: stk) st mt ov :=
  fun H locs ls hP hS hl => va_getN C.1 C.2.1 C.2.2.2.2.1 i_G C.2.2.2.1 C.2.2.2.2.2.2.1 hP (37 + q) ((iw_get (by omega)).trans (congrArg (fun z => some (ad (37 + q), z)) (e_G hq ))) rfl 1 (by decide) (va_Nw.use rfl (C.2.2.2.2.2.1.1 _ hlk)) (fun _ h => h) rfl d (k H locs ls hP hS hl)
theorem pN_G_low (C : Cx p s m args meth c D cs ad A cc nL own) {index : Nat} {host : String} {q : Nat} (hq : q < 4) {v : Int32} (hlk : (Cond.fieldLinkNest own index "TwinRegister$Group" "low" "I" host) ∈ ax_all) (d : decode cc pc = .ok (.putfield index, 3)) (k : Wg p l e R s m args below meth c Q D cs ad A nL cells slots (pc + 3) lv stk (up2 st (37 + q) 1 v) mt ov) : Wg p l e R s m args below meth c Q D cs ad A nL cells slots pc lv (.int v :: .ref (ad (37 + q)) :: stk) st mt ov := by
  intro H locs ls hP hS hl
  refine va_putN (ty := .int) C.1 C.2.1 C.2.2.2.2.1 i_G ft_G ft_G_ok n_G C.2.2.2.1 C.2.2.2.2.2.2.1 hP (iw_D C.2.2.2.2.2.2.2.1) hS (37 + q) ((iw_get (by omega)).trans (congrArg (fun z => some (ad (37 + q), z)) (e_G hq ))) rfl 1 (by decide) (va_Nw.use rfl (C.2.2.2.2.2.1.1 _ hlk)) (fun _ h => h) rfl (by decide +kernel) rfl rfl (Nat.le_of_ble_eq_true rfl) d (fun H1 locs1 hP1 hD1 hS1 => ?_)
  have e1 := gE_upT (ad := ad) (cs := cs) (st := st) (mt := mt) (ov := ov) (i := (37 + q)) (k := 1) (v := v) (e := .inr (3, [.int (st (37 + q) 0), .int (st (37 + q) 1), .int (st (37 + q) 2)].set 1 (.int v))) (by omega) (by rw [tE_grp (by omega) (by omega), up2_in]; rfl)
  rw [iw_set, e1] at hP1
  exact k H1 locs1 ls hP1 hS1 hl
theorem g_G_high (C : Cx p s m args meth c D cs ad A cc nL own) {index : Nat} {q : Nat} (hq : q < 4) (hlk : (Cond.fieldLink own index "TwinRegister$Group" "high" "I") ∈ ag_all) (d : decode cc pc = .ok (.getfield index, 3)) (k : Wg p l e R s m args below meth c Q D cs ad A nL cells slots (pc + 3) lv (.int (st (37 + q) 2) :: stk) st mt ov) : Wg p l e R s m args below meth c Q D cs ad A nL cells slots pc lv (.ref (ad (37 + q)) :: stk) st mt ov :=
  fun H locs ls hP hS hl => va_get C.1 C.2.1 C.2.2.2.2.1 i_G C.2.2.2.1 C.2.2.2.2.2.2.1 hP (37 + q) ((iw_get (by omega)).trans (congrArg (fun z => some (ad (37 + q), z)) (e_G hq ))) rfl 2 (by decide) (C.2.2.2.2.1 _ hlk) (fun _ h => h) rfl d (k H locs ls hP hS hl)
theorem p_G_high (C : Cx p s m args meth c D cs ad A cc nL own) {index : Nat} {q : Nat} (hq : q < 4) {v : Int32} (hlk : (Cond.fieldLink own index "TwinRegister$Group" "high" "I") ∈ ag_all) (d : decode cc pc = .ok (.putfield index, 3)) (k : Wg p l e R s m args below meth c Q D cs ad A nL cells slots (pc + 3) lv stk (up2 st (37 + q) 2 v) mt ov) : Wg p l e R s m args below meth c Q D cs ad A nL cells slots pc lv (.int v :: .ref (ad (37 + q)) :: stk) st mt ov := by
  intro H locs ls hP hS hl
  refine va_put (ty := .int) C.1 C.2.1 C.2.2.2.2.1 i_G ft_G ft_G_ok n_G C.2.2.2.1 C.2.2.2.2.2.2.1 hP (iw_D C.2.2.2.2.2.2.2.1) hS (37 + q) ((iw_get (by omega)).trans (congrArg (fun z => some (ad (37 + q), z)) (e_G hq ))) rfl 2 (by decide) (C.2.2.2.2.1 _ hlk) (fun _ h => h) rfl (by decide +kernel) rfl rfl (Nat.le_of_ble_eq_true rfl) d (fun H1 locs1 hP1 hD1 hS1 => ?_)
  have e1 := gE_upT (ad := ad) (cs := cs) (st := st) (mt := mt) (ov := ov) (i := (37 + q)) (k := 2) (v := v) (e := .inr (3, [.int (st (37 + q) 0), .int (st (37 + q) 1), .int (st (37 + q) 2)].set 2 (.int v))) (by omega) (by rw [tE_grp (by omega) (by omega), up2_in]; rfl)
  rw [iw_set, e1] at hP1
  exact k H1 locs1 ls hP1 hS1 hl
theorem gN_G_high (C : Cx p s m args meth c D cs ad A cc nL own) {index : Nat} {host : String} {q : Nat} (hq : q < 4) (hlk : (Cond.fieldLinkNest own index "TwinRegister$Group" "high" "I" host) ∈ ax_all) (d : decode cc pc = .ok (.getfield index, 3)) (k : Wg p l e R s m args below meth c Q D cs ad A nL cells slots (pc + 3) lv (.int (st (37 + q) 2) :: stk) st mt ov) : Wg p l e R s m args below meth c Q D cs ad A nL cells slots pc lv (.ref (ad (37 + q)) :: stk) st mt ov :=
  fun H locs ls hP hS hl => va_getN C.1 C.2.1 C.2.2.2.2.1 i_G C.2.2.2.1 C.2.2.2.2.2.2.1 hP (37 + q) ((iw_get (by omega)).trans (congrArg (fun z => some (ad (37 + q), z)) (e_G hq ))) rfl 2 (by decide) (va_Nw.use rfl (C.2.2.2.2.2.1.1 _ hlk)) (fun _ h => h) rfl d (k H locs ls hP hS hl)
theorem pN_G_high (C : Cx p s m args meth c D cs ad A cc nL own) {index : Nat} {host : String} {q : Nat} (hq : q < 4) {v : Int32} (hlk : (Cond.fieldLinkNest own index "TwinRegister$Group" "high" "I" host) ∈ ax_all) (d : decode cc pc = .ok (.putfield index, 3)) (k : Wg p l e R s m args below meth c Q D cs ad A nL cells slots (pc + 3) lv stk (up2 st (37 + q) 2 v) mt ov) : Wg p l e R s m args below meth c Q D cs ad A nL cells slots pc lv (.int v :: .ref (ad (37 + q)) :: stk) st mt ov := by
  intro H locs ls hP hS hl
  refine va_putN (ty := .int) C.1 C.2.1 C.2.2.2.2.1 i_G ft_G ft_G_ok n_G C.2.2.2.1 C.2.2.2.2.2.2.1 hP (iw_D C.2.2.2.2.2.2.2.1) hS (37 + q) ((iw_get (by omega)).trans (congrArg (fun z => some (ad (37 + q), z)) (e_G hq ))) rfl 2 (by decide) (va_Nw.use rfl (C.2.2.2.2.2.1.1 _ hlk)) (fun _ h => h) rfl (by decide +kernel) rfl rfl (Nat.le_of_ble_eq_true rfl) d (fun H1 locs1 hP1 hD1 hS1 => ?_)
  have e1 := gE_upT (ad := ad) (cs := cs) (st := st) (mt := mt) (ov := ov) (i := (37 + q)) (k := 2) (v := v) (e := .inr (3, [.int (st (37 + q) 0), .int (st (37 + q) 1), .int (st (37 + q) 2)].set 2 (.int v))) (by omega) (by rw [tE_grp (by omega) (by omega), up2_in]; rfl)
  rw [iw_set, e1] at hP1
  exact k H1 locs1 ls hP1 hS1 hl
theorem e_J {q : Nat} (hq : q < 8) : gE ad cs st mt ov (42 + q) = .inr (4, [.int (st (42 + q) 0), .int (st (42 + q) 1), .int (st (42 + q) 2), .int (st (42 + q) 3), .int (st (42 + q) 4), .int (st (42 + q) 5), .int (st (42 + q) 6), .int (st (42 + q) 7), .int (st (42 + q) 8)]) := by
  exact (by rw [gE_t (by omega), tE_job (by omega)])
theorem g_J_group (C : Cx p s m args meth c D cs ad A cc nL own) {index : Nat} {q : Nat} (hq : q < 8) (hlk : (Cond.fieldLink own index "TwinRegister$Job" "group" "I") ∈ ag_all) (d : decode cc pc = .ok (.getfield index, 3)) (k : Wg p l e R s m args below meth c Q D cs ad A nL cells slots (pc + 3) lv (.int (st (42 + q) 0) :: stk) st mt ov) : Wg p l e R s m args below meth c Q D cs ad A nL cells slots pc lv (.ref (ad (42 + q)) :: stk) st mt ov :=
  fun H locs ls hP hS hl => va_get C.1 C.2.1 C.2.2.2.2.1 i_J C.2.2.2.1 C.2.2.2.2.2.2.1 hP (42 + q) ((iw_get (by omega)).trans (congrArg (fun z => some (ad (42 + q), z)) (e_J hq ))) rfl 0 (by decide) (C.2.2.2.2.1 _ hlk) (fun _ h => h) rfl d (k H locs ls hP hS hl)
theorem p_J_group (C : Cx p s m args meth c D cs ad A cc nL own) {index : Nat} {q : Nat} (hq : q < 8) {v : Int32} (hlk : (Cond.fieldLink own index "TwinRegister$Job" "group" "I") ∈ ag_all) (d : decode cc pc = .ok (.putfield index, 3)) (k : Wg p l e R s m args below meth c Q D cs ad A nL cells slots (pc + 3) lv stk (up2 st (42 + q) 0 v) mt ov) : Wg p l e R s m args below meth c Q D cs ad A nL cells slots pc lv (.int v :: .ref (ad (42 + q)) :: stk) st mt ov := by
  intro H locs ls hP hS hl
  refine va_put (ty := .int) C.1 C.2.1 C.2.2.2.2.1 i_J ft_J ft_J_ok n_J C.2.2.2.1 C.2.2.2.2.2.2.1 hP (iw_D C.2.2.2.2.2.2.2.1) hS (42 + q) ((iw_get (by omega)).trans (congrArg (fun z => some (ad (42 + q), z)) (e_J hq ))) rfl 0 (by decide) (C.2.2.2.2.1 _ hlk) (fun _ h => h) rfl (by decide +kernel) rfl rfl (Nat.le_of_ble_eq_true rfl) d (fun H1 locs1 hP1 hD1 hS1 => ?_)
  have e1 := gE_upT (ad := ad) (cs := cs) (st := st) (mt := mt) (ov := ov) (i := (42 + q)) (k := 0) (v := v) (e := .inr (4, [.int (st (42 + q) 0), .int (st (42 + q) 1), .int (st (42 + q) 2), .int (st (42 + q) 3), .int (st (42 + q) 4), .int (st (42 + q) 5), .int (st (42 + q) 6), .int (st (42 + q) 7), .int (st (42 + q) 8)].set 0 (.int v))) (by omega) (by rw [tE_job (by omega), up2_in]; rfl)
  rw [iw_set, e1] at hP1
  exact k H1 locs1 ls hP1 hS1 hl
theorem gN_J_group (C : Cx p s m args meth c D cs ad A cc nL own) {index : Nat} {host : String} {q : Nat} (hq : q < 8) (hlk : (Cond.fieldLinkNest own index "TwinRegister$Job" "group" "I" host) ∈ ax_all) (d : decode cc pc = .ok (.getfield index, 3)) (k : Wg p l e R s m args below meth c Q D cs ad A nL cells slots (pc + 3) lv (.int (st (42 + q) 0) :: stk) st mt ov) : Wg p l e R s m args below meth c Q D cs ad A nL cells slots pc lv (.ref (ad (42 + q)) :: stk) st mt ov :=
  fun H locs ls hP hS hl => va_getN C.1 C.2.1 C.2.2.2.2.1 i_J C.2.2.2.1 C.2.2.2.2.2.2.1 hP (42 + q) ((iw_get (by omega)).trans (congrArg (fun z => some (ad (42 + q), z)) (e_J hq ))) rfl 0 (by decide) (va_Nw.use rfl (C.2.2.2.2.2.1.1 _ hlk)) (fun _ h => h) rfl d (k H locs ls hP hS hl)
theorem pN_J_group (C : Cx p s m args meth c D cs ad A cc nL own) {index : Nat} {host : String} {q : Nat} (hq : q < 8) {v : Int32} (hlk : (Cond.fieldLinkNest own index "TwinRegister$Job" "group" "I" host) ∈ ax_all) (d : decode cc pc = .ok (.putfield index, 3)) (k : Wg p l e R s m args below meth c Q D cs ad A nL cells slots (pc + 3) lv stk (up2 st (42 + q) 0 v) mt ov) : Wg p l e R s m args below meth c Q D cs ad A nL cells slots pc lv (.int v :: .ref (ad (42 + q)) :: stk) st mt ov := by
  intro H locs ls hP hS hl
  refine va_putN (ty := .int) C.1 C.2.1 C.2.2.2.2.1 i_J ft_J ft_J_ok n_J C.2.2.2.1 C.2.2.2.2.2.2.1 hP (iw_D C.2.2.2.2.2.2.2.1) hS (42 + q) ((iw_get (by omega)).trans (congrArg (fun z => some (ad (42 + q), z)) (e_J hq ))) rfl 0 (by decide) (va_Nw.use rfl (C.2.2.2.2.2.1.1 _ hlk)) (fun _ h => h) rfl (by decide +kernel) rfl rfl (Nat.le_of_ble_eq_true rfl) d (fun H1 locs1 hP1 hD1 hS1 => ?_)
  have e1 := gE_upT (ad := ad) (cs := cs) (st := st) (mt := mt) (ov := ov) (i := (42 + q)) (k := 0) (v := v) (e := .inr (4, [.int (st (42 + q) 0), .int (st (42 + q) 1), .int (st (42 + q) 2), .int (st (42 + q) 3), .int (st (42 + q) 4), .int (st (42 + q) 5), .int (st (42 + q) 6), .int (st (42 + q) 7), .int (st (42 + q) 8)].set 0 (.int v))) (by omega) (by rw [tE_job (by omega), up2_in]; rfl)
  rw [iw_set, e1] at hP1
  exact k H1 locs1 ls hP1 hS1 hl
theorem g_J_leaf (C : Cx p s m args meth c D cs ad A cc nL own) {index : Nat} {q : Nat} (hq : q < 8) (hlk : (Cond.fieldLink own index "TwinRegister$Job" "leaf" "I") ∈ ag_all) (d : decode cc pc = .ok (.getfield index, 3)) (k : Wg p l e R s m args below meth c Q D cs ad A nL cells slots (pc + 3) lv (.int (st (42 + q) 1) :: stk) st mt ov) : Wg p l e R s m args below meth c Q D cs ad A nL cells slots pc lv (.ref (ad (42 + q)) :: stk) st mt ov :=
  fun H locs ls hP hS hl => va_get C.1 C.2.1 C.2.2.2.2.1 i_J C.2.2.2.1 C.2.2.2.2.2.2.1 hP (42 + q) ((iw_get (by omega)).trans (congrArg (fun z => some (ad (42 + q), z)) (e_J hq ))) rfl 1 (by decide) (C.2.2.2.2.1 _ hlk) (fun _ h => h) rfl d (k H locs ls hP hS hl)
theorem p_J_leaf (C : Cx p s m args meth c D cs ad A cc nL own) {index : Nat} {q : Nat} (hq : q < 8) {v : Int32} (hlk : (Cond.fieldLink own index "TwinRegister$Job" "leaf" "I") ∈ ag_all) (d : decode cc pc = .ok (.putfield index, 3)) (k : Wg p l e R s m args below meth c Q D cs ad A nL cells slots (pc + 3) lv stk (up2 st (42 + q) 1 v) mt ov) : Wg p l e R s m args below meth c Q D cs ad A nL cells slots pc lv (.int v :: .ref (ad (42 + q)) :: stk) st mt ov := by
  intro H locs ls hP hS hl
  refine va_put (ty := .int) C.1 C.2.1 C.2.2.2.2.1 i_J ft_J ft_J_ok n_J C.2.2.2.1 C.2.2.2.2.2.2.1 hP (iw_D C.2.2.2.2.2.2.2.1) hS (42 + q) ((iw_get (by omega)).trans (congrArg (fun z => some (ad (42 + q), z)) (e_J hq ))) rfl 1 (by decide) (C.2.2.2.2.1 _ hlk) (fun _ h => h) rfl (by decide +kernel) rfl rfl (Nat.le_of_ble_eq_true rfl) d (fun H1 locs1 hP1 hD1 hS1 => ?_)
  have e1 := gE_upT (ad := ad) (cs := cs) (st := st) (mt := mt) (ov := ov) (i := (42 + q)) (k := 1) (v := v) (e := .inr (4, [.int (st (42 + q) 0), .int (st (42 + q) 1), .int (st (42 + q) 2), .int (st (42 + q) 3), .int (st (42 + q) 4), .int (st (42 + q) 5), .int (st (42 + q) 6), .int (st (42 + q) 7), .int (st (42 + q) 8)].set 1 (.int v))) (by omega) (by rw [tE_job (by omega), up2_in]; rfl)
  rw [iw_set, e1] at hP1
  exact k H1 locs1 ls hP1 hS1 hl
theorem gN_J_leaf (C : Cx p s m args meth c D cs ad A cc nL own) {index : Nat} {host : String} {q : Nat} (hq : q < 8) (hlk : (Cond.fieldLinkNest own index "TwinRegister$Job" "leaf" "I" host) ∈ ax_all) (d : decode cc pc = .ok (.getfield index, 3)) (k : Wg p l e R s m args below meth c Q D cs ad A nL cells slots (pc + 3) lv (.int (st (42 + q) 1) :: stk) st mt ov) : Wg p l e R s m args below meth c Q D cs ad A nL cells slots pc lv (.ref (ad (42 + q)) :: stk) st mt ov :=
  fun H locs ls hP hS hl => va_getN C.1 C.2.1 C.2.2.2.2.1 i_J C.2.2.2.1 C.2.2.2.2.2.2.1 hP (42 + q) ((iw_get (by omega)).trans (congrArg (fun z => some (ad (42 + q), z)) (e_J hq ))) rfl 1 (by decide) (va_Nw.use rfl (C.2.2.2.2.2.1.1 _ hlk)) (fun _ h => h) rfl d (k H locs ls hP hS hl)
theorem pN_J_leaf (C : Cx p s m args meth c D cs ad A cc nL own) {index : Nat} {host : String} {q : Nat} (hq : q < 8) {v : Int32} (hlk : (Cond.fieldLinkNest own index "TwinRegister$Job" "leaf" "I" host) ∈ ax_all) (d : decode cc pc = .ok (.putfield index, 3)) (k : Wg p l e R s m args below meth c Q D cs ad A nL cells slots (pc + 3) lv stk (up2 st (42 + q) 1 v) mt ov) : Wg p l e R s m args below meth c Q D cs ad A nL cells slots pc lv (.int v :: .ref (ad (42 + q)) :: stk) st mt ov := by
  intro H locs ls hP hS hl
  refine va_putN (ty := .int) C.1 C.2.1 C.2.2.2.2.1 i_J ft_J ft_J_ok n_J C.2.2.2.1 C.2.2.2.2.2.2.1 hP (iw_D C.2.2.2.2.2.2.2.1) hS (42 + q) ((iw_get (by omega)).trans (congrArg (fun z => some (ad (42 + q), z)) (e_J hq ))) rfl 1 (by decide) (va_Nw.use rfl (C.2.2.2.2.2.1.1 _ hlk)) (fun _ h => h) rfl (by decide +kernel) rfl rfl (Nat.le_of_ble_eq_true rfl) d (fun H1 locs1 hP1 hD1 hS1 => ?_)
  have e1 := gE_upT (ad := ad) (cs := cs) (st := st) (mt := mt) (ov := ov) (i := (42 + q)) (k := 1) (v := v) (e := .inr (4, [.int (st (42 + q) 0), .int (st (42 + q) 1), .int (st (42 + q) 2), .int (st (42 + q) 3), .int (st (42 + q) 4), .int (st (42 + q) 5), .int (st (42 + q) 6), .int (st (42 + q) 7), .int (st (42 + q) 8)].set 1 (.int v))) (by omega) (by rw [tE_job (by omega), up2_in]; rfl)
  rw [iw_set, e1] at hP1
  exact k H1 locs1 ls hP1 hS1 hl
theorem g_J_value (C : Cx p s m args meth c D cs ad A cc nL own) {index : Nat} {q : Nat} (hq : q < 8) (hlk : (Cond.fieldLink own index "TwinRegister$Job" "value" "I") ∈ ag_all) (d : decode cc pc = .ok (.getfield index, 3)) (k : Wg p l e R s m args below meth c Q D cs ad A nL cells slots (pc + 3) lv (.int (st (42 + q) 2) :: stk) st mt ov) : Wg p l e R s m args below meth c Q D cs ad A nL cells slots pc lv (.ref (ad (42 + q)) :: stk) st mt ov :=
  fun H locs ls hP hS hl => va_get C.1 C.2.1 C.2.2.2.2.1 i_J C.2.2.2.1 C.2.2.2.2.2.2.1 hP (42 + q) ((iw_get (by omega)).trans (congrArg (fun z => some (ad (42 + q), z)) (e_J hq ))) rfl 2 (by decide) (C.2.2.2.2.1 _ hlk) (fun _ h => h) rfl d (k H locs ls hP hS hl)
theorem p_J_value (C : Cx p s m args meth c D cs ad A cc nL own) {index : Nat} {q : Nat} (hq : q < 8) {v : Int32} (hlk : (Cond.fieldLink own index "TwinRegister$Job" "value" "I") ∈ ag_all) (d : decode cc pc = .ok (.putfield index, 3)) (k : Wg p l e R s m args below meth c Q D cs ad A nL cells slots (pc + 3) lv stk (up2 st (42 + q) 2 v) mt ov) : Wg p l e R s m args below meth c Q D cs ad A nL cells slots pc lv (.int v :: .ref (ad (42 + q)) :: stk) st mt ov := by
  intro H locs ls hP hS hl
  refine va_put (ty := .int) C.1 C.2.1 C.2.2.2.2.1 i_J ft_J ft_J_ok n_J C.2.2.2.1 C.2.2.2.2.2.2.1 hP (iw_D C.2.2.2.2.2.2.2.1) hS (42 + q) ((iw_get (by omega)).trans (congrArg (fun z => some (ad (42 + q), z)) (e_J hq ))) rfl 2 (by decide) (C.2.2.2.2.1 _ hlk) (fun _ h => h) rfl (by decide +kernel) rfl rfl (Nat.le_of_ble_eq_true rfl) d (fun H1 locs1 hP1 hD1 hS1 => ?_)
  have e1 := gE_upT (ad := ad) (cs := cs) (st := st) (mt := mt) (ov := ov) (i := (42 + q)) (k := 2) (v := v) (e := .inr (4, [.int (st (42 + q) 0), .int (st (42 + q) 1), .int (st (42 + q) 2), .int (st (42 + q) 3), .int (st (42 + q) 4), .int (st (42 + q) 5), .int (st (42 + q) 6), .int (st (42 + q) 7), .int (st (42 + q) 8)].set 2 (.int v))) (by omega) (by rw [tE_job (by omega), up2_in]; rfl)
  rw [iw_set, e1] at hP1
  exact k H1 locs1 ls hP1 hS1 hl
theorem gN_J_value (C : Cx p s m args meth c D cs ad A cc nL own) {index : Nat} {host : String} {q : Nat} (hq : q < 8) (hlk : (Cond.fieldLinkNest own index "TwinRegister$Job" "value" "I" host) ∈ ax_all) (d : decode cc pc = .ok (.getfield index, 3)) (k : Wg p l e R s m args below meth c Q D cs ad A nL cells slots (pc + 3) lv (.int (st (42 + q) 2) :: stk) st mt ov) : Wg p l e R s m args below meth c Q D cs ad A nL cells slots pc lv (.ref (ad (42 + q)) :: stk) st mt ov :=
  fun H locs ls hP hS hl => va_getN C.1 C.2.1 C.2.2.2.2.1 i_J C.2.2.2.1 C.2.2.2.2.2.2.1 hP (42 + q) ((iw_get (by omega)).trans (congrArg (fun z => some (ad (42 + q), z)) (e_J hq ))) rfl 2 (by decide) (va_Nw.use rfl (C.2.2.2.2.2.1.1 _ hlk)) (fun _ h => h) rfl d (k H locs ls hP hS hl)
theorem pN_J_value (C : Cx p s m args meth c D cs ad A cc nL own) {index : Nat} {host : String} {q : Nat} (hq : q < 8) {v : Int32} (hlk : (Cond.fieldLinkNest own index "TwinRegister$Job" "value" "I" host) ∈ ax_all) (d : decode cc pc = .ok (.putfield index, 3)) (k : Wg p l e R s m args below meth c Q D cs ad A nL cells slots (pc + 3) lv stk (up2 st (42 + q) 2 v) mt ov) : Wg p l e R s m args below meth c Q D cs ad A nL cells slots pc lv (.int v :: .ref (ad (42 + q)) :: stk) st mt ov := by
  intro H locs ls hP hS hl
  refine va_putN (ty := .int) C.1 C.2.1 C.2.2.2.2.1 i_J ft_J ft_J_ok n_J C.2.2.2.1 C.2.2.2.2.2.2.1 hP (iw_D C.2.2.2.2.2.2.2.1) hS (42 + q) ((iw_get (by omega)).trans (congrArg (fun z => some (ad (42 + q), z)) (e_J hq ))) rfl 2 (by decide) (va_Nw.use rfl (C.2.2.2.2.2.1.1 _ hlk)) (fun _ h => h) rfl (by decide +kernel) rfl rfl (Nat.le_of_ble_eq_true rfl) d (fun H1 locs1 hP1 hD1 hS1 => ?_)
  have e1 := gE_upT (ad := ad) (cs := cs) (st := st) (mt := mt) (ov := ov) (i := (42 + q)) (k := 2) (v := v) (e := .inr (4, [.int (st (42 + q) 0), .int (st (42 + q) 1), .int (st (42 + q) 2), .int (st (42 + q) 3), .int (st (42 + q) 4), .int (st (42 + q) 5), .int (st (42 + q) 6), .int (st (42 + q) 7), .int (st (42 + q) 8)].set 2 (.int v))) (by omega) (by rw [tE_job (by omega), up2_in]; rfl)
  rw [iw_set, e1] at hP1
  exact k H1 locs1 ls hP1 hS1 hl
theorem g_J_rate (C : Cx p s m args meth c D cs ad A cc nL own) {index : Nat} {q : Nat} (hq : q < 8) (hlk : (Cond.fieldLink own index "TwinRegister$Job" "rate" "I") ∈ ag_all) (d : decode cc pc = .ok (.getfield index, 3)) (k : Wg p l e R s m args below meth c Q D cs ad A nL cells slots (pc + 3) lv (.int (st (42 + q) 3) :: stk) st mt ov) : Wg p l e R s m args below meth c Q D cs ad A nL cells slots pc lv (.ref (ad (42 + q)) :: stk) st mt ov :=
  fun H locs ls hP hS hl => va_get C.1 C.2.1 C.2.2.2.2.1 i_J C.2.2.2.1 C.2.2.2.2.2.2.1 hP (42 + q) ((iw_get (by omega)).trans (congrArg (fun z => some (ad (42 + q), z)) (e_J hq ))) rfl 3 (by decide) (C.2.2.2.2.1 _ hlk) (fun _ h => h) rfl d (k H locs ls hP hS hl)
theorem p_J_rate (C : Cx p s m args meth c D cs ad A cc nL own) {index : Nat} {q : Nat} (hq : q < 8) {v : Int32} (hlk : (Cond.fieldLink own index "TwinRegister$Job" "rate" "I") ∈ ag_all) (d : decode cc pc = .ok (.putfield index, 3)) (k : Wg p l e R s m args below meth c Q D cs ad A nL cells slots (pc + 3) lv stk (up2 st (42 + q) 3 v) mt ov) : Wg p l e R s m args below meth c Q D cs ad A nL cells slots pc lv (.int v :: .ref (ad (42 + q)) :: stk) st mt ov := by
  intro H locs ls hP hS hl
  refine va_put (ty := .int) C.1 C.2.1 C.2.2.2.2.1 i_J ft_J ft_J_ok n_J C.2.2.2.1 C.2.2.2.2.2.2.1 hP (iw_D C.2.2.2.2.2.2.2.1) hS (42 + q) ((iw_get (by omega)).trans (congrArg (fun z => some (ad (42 + q), z)) (e_J hq ))) rfl 3 (by decide) (C.2.2.2.2.1 _ hlk) (fun _ h => h) rfl (by decide +kernel) rfl rfl (Nat.le_of_ble_eq_true rfl) d (fun H1 locs1 hP1 hD1 hS1 => ?_)
  have e1 := gE_upT (ad := ad) (cs := cs) (st := st) (mt := mt) (ov := ov) (i := (42 + q)) (k := 3) (v := v) (e := .inr (4, [.int (st (42 + q) 0), .int (st (42 + q) 1), .int (st (42 + q) 2), .int (st (42 + q) 3), .int (st (42 + q) 4), .int (st (42 + q) 5), .int (st (42 + q) 6), .int (st (42 + q) 7), .int (st (42 + q) 8)].set 3 (.int v))) (by omega) (by rw [tE_job (by omega), up2_in]; rfl)
  rw [iw_set, e1] at hP1
  exact k H1 locs1 ls hP1 hS1 hl
theorem gN_J_rate (C : Cx p s m args meth c D cs ad A cc nL own) {index : Nat} {host : String} {q : Nat} (hq : q < 8) (hlk : (Cond.fieldLinkNest own index "TwinRegister$Job" "rate" "I" host) ∈ ax_all) (d : decode cc pc = .ok (.getfield index, 3)) (k : Wg p l e R s m args below meth c Q D cs ad A nL cells slots (pc + 3) lv (.int (st (42 + q) 3) :: stk) st mt ov) : Wg p l e R s m args below meth c Q D cs ad A nL cells slots pc lv (.ref (ad (42 + q)) :: stk) st mt ov :=
  fun H locs ls hP hS hl => va_getN C.1 C.2.1 C.2.2.2.2.1 i_J C.2.2.2.1 C.2.2.2.2.2.2.1 hP (42 + q) ((iw_get (by omega)).trans (congrArg (fun z => some (ad (42 + q), z)) (e_J hq ))) rfl 3 (by decide) (va_Nw.use rfl (C.2.2.2.2.2.1.1 _ hlk)) (fun _ h => h) rfl d (k H locs ls hP hS hl)
theorem pN_J_rate (C : Cx p s m args meth c D cs ad A cc nL own) {index : Nat} {host : String} {q : Nat} (hq : q < 8) {v : Int32} (hlk : (Cond.fieldLinkNest own index "TwinRegister$Job" "rate" "I" host) ∈ ax_all) (d : decode cc pc = .ok (.putfield index, 3)) (k : Wg p l e R s m args below meth c Q D cs ad A nL cells slots (pc + 3) lv stk (up2 st (42 + q) 3 v) mt ov) : Wg p l e R s m args below meth c Q D cs ad A nL cells slots pc lv (.int v :: .ref (ad (42 + q)) :: stk) st mt ov := by
  intro H locs ls hP hS hl
  refine va_putN (ty := .int) C.1 C.2.1 C.2.2.2.2.1 i_J ft_J ft_J_ok n_J C.2.2.2.1 C.2.2.2.2.2.2.1 hP (iw_D C.2.2.2.2.2.2.2.1) hS (42 + q) ((iw_get (by omega)).trans (congrArg (fun z => some (ad (42 + q), z)) (e_J hq ))) rfl 3 (by decide) (va_Nw.use rfl (C.2.2.2.2.2.1.1 _ hlk)) (fun _ h => h) rfl (by decide +kernel) rfl rfl (Nat.le_of_ble_eq_true rfl) d (fun H1 locs1 hP1 hD1 hS1 => ?_)
  have e1 := gE_upT (ad := ad) (cs := cs) (st := st) (mt := mt) (ov := ov) (i := (42 + q)) (k := 3) (v := v) (e := .inr (4, [.int (st (42 + q) 0), .int (st (42 + q) 1), .int (st (42 + q) 2), .int (st (42 + q) 3), .int (st (42 + q) 4), .int (st (42 + q) 5), .int (st (42 + q) 6), .int (st (42 + q) 7), .int (st (42 + q) 8)].set 3 (.int v))) (by omega) (by rw [tE_job (by omega), up2_in]; rfl)
  rw [iw_set, e1] at hP1
  exact k H1 locs1 ls hP1 hS1 hl
theorem g_J_bound (C : Cx p s m args meth c D cs ad A cc nL own) {index : Nat} {q : Nat} (hq : q < 8) (hlk : (Cond.fieldLink own index "TwinRegister$Job" "bound" "I") ∈ ag_all) (d : decode cc pc = .ok (.getfield index, 3)) (k : Wg p l e R s m args below meth c Q D cs ad A nL cells slots (pc + 3) lv (.int (st (42 + q) 4) :: stk) st mt ov) : Wg p l e R s m args below meth c Q D cs ad A nL cells slots pc lv (.ref (ad (42 + q)) :: stk) st mt ov :=
  fun H locs ls hP hS hl => va_get C.1 C.2.1 C.2.2.2.2.1 i_J C.2.2.2.1 C.2.2.2.2.2.2.1 hP (42 + q) ((iw_get (by omega)).trans (congrArg (fun z => some (ad (42 + q), z)) (e_J hq ))) rfl 4 (by decide) (C.2.2.2.2.1 _ hlk) (fun _ h => h) rfl d (k H locs ls hP hS hl)
theorem p_J_bound (C : Cx p s m args meth c D cs ad A cc nL own) {index : Nat} {q : Nat} (hq : q < 8) {v : Int32} (hlk : (Cond.fieldLink own index "TwinRegister$Job" "bound" "I") ∈ ag_all) (d : decode cc pc = .ok (.putfield index, 3)) (k : Wg p l e R s m args below meth c Q D cs ad A nL cells slots (pc + 3) lv stk (up2 st (42 + q) 4 v) mt ov) : Wg p l e R s m args below meth c Q D cs ad A nL cells slots pc lv (.int v :: .ref (ad (42 + q)) :: stk) st mt ov := by
  intro H locs ls hP hS hl
  refine va_put (ty := .int) C.1 C.2.1 C.2.2.2.2.1 i_J ft_J ft_J_ok n_J C.2.2.2.1 C.2.2.2.2.2.2.1 hP (iw_D C.2.2.2.2.2.2.2.1) hS (42 + q) ((iw_get (by omega)).trans (congrArg (fun z => some (ad (42 + q), z)) (e_J hq ))) rfl 4 (by decide) (C.2.2.2.2.1 _ hlk) (fun _ h => h) rfl (by decide +kernel) rfl rfl (Nat.le_of_ble_eq_true rfl) d (fun H1 locs1 hP1 hD1 hS1 => ?_)
  have e1 := gE_upT (ad := ad) (cs := cs) (st := st) (mt := mt) (ov := ov) (i := (42 + q)) (k := 4) (v := v) (e := .inr (4, [.int (st (42 + q) 0), .int (st (42 + q) 1), .int (st (42 + q) 2), .int (st (42 + q) 3), .int (st (42 + q) 4), .int (st (42 + q) 5), .int (st (42 + q) 6), .int (st (42 + q) 7), .int (st (42 + q) 8)].set 4 (.int v))) (by omega) (by rw [tE_job (by omega), up2_in]; rfl)
  rw [iw_set, e1] at hP1
  exact k H1 locs1 ls hP1 hS1 hl
theorem gN_J_bound (C : Cx p s m args meth c D cs ad A cc nL own) {index : Nat} {host : String} {q : Nat} (hq : q < 8) (hlk : (Cond.fieldLinkNest own index "TwinRegister$Job" "bound" "I" host) ∈ ax_all) (d : decode cc pc = .ok (.getfield index, 3)) (k : Wg p l e R s m args below meth c Q D cs ad A nL cells slots (pc + 3) lv (.int (st (42 + q) 4) :: stk) st mt ov) : Wg p l e R s m args below meth c Q D cs ad A nL cells slots pc lv (.ref (ad (42 + q)) :: stk) st mt ov :=
  fun H locs ls hP hS hl => va_getN C.1 C.2.1 C.2.2.2.2.1 i_J C.2.2.2.1 C.2.2.2.2.2.2.1 hP (42 + q) ((iw_get (by omega)).trans (congrArg (fun z => some (ad (42 + q), z)) (e_J hq ))) rfl 4 (by decide) (va_Nw.use rfl (C.2.2.2.2.2.1.1 _ hlk)) (fun _ h => h) rfl d (k H locs ls hP hS hl)
theorem pN_J_bound (C : Cx p s m args meth c D cs ad A cc nL own) {index : Nat} {host : String} {q : Nat} (hq : q < 8) {v : Int32} (hlk : (Cond.fieldLinkNest own index "TwinRegister$Job" "bound" "I" host) ∈ ax_all) (d : decode cc pc = .ok (.putfield index, 3)) (k : Wg p l e R s m args below meth c Q D cs ad A nL cells slots (pc + 3) lv stk (up2 st (42 + q) 4 v) mt ov) : Wg p l e R s m args below meth c Q D cs ad A nL cells slots pc lv (.int v :: .ref (ad (42 + q)) :: stk) st mt ov := by
  intro H locs ls hP hS hl
  refine va_putN (ty := .int) C.1 C.2.1 C.2.2.2.2.1 i_J ft_J ft_J_ok n_J C.2.2.2.1 C.2.2.2.2.2.2.1 hP (iw_D C.2.2.2.2.2.2.2.1) hS (42 + q) ((iw_get (by omega)).trans (congrArg (fun z => some (ad (42 + q), z)) (e_J hq ))) rfl 4 (by decide) (va_Nw.use rfl (C.2.2.2.2.2.1.1 _ hlk)) (fun _ h => h) rfl (by decide +kernel) rfl rfl (Nat.le_of_ble_eq_true rfl) d (fun H1 locs1 hP1 hD1 hS1 => ?_)
  have e1 := gE_upT (ad := ad) (cs := cs) (st := st) (mt := mt) (ov := ov) (i := (42 + q)) (k := 4) (v := v) (e := .inr (4, [.int (st (42 + q) 0), .int (st (42 + q) 1), .int (st (42 + q) 2), .int (st (42 + q) 3), .int (st (42 + q) 4), .int (st (42 + q) 5), .int (st (42 + q) 6), .int (st (42 + q) 7), .int (st (42 + q) 8)].set 4 (.int v))) (by omega) (by rw [tE_job (by omega), up2_in]; rfl)
  rw [iw_set, e1] at hP1
  exact k H1 locs1 ls hP1 hS1 hl
theorem g_J_condition (C : Cx p s m args meth c D cs ad A cc nL own) {index : Nat} {q : Nat} (hq : q < 8) (hlk : (Cond.fieldLink own index "TwinRegister$Job" "condition" "I") ∈ ag_all) (d : decode cc pc = .ok (.getfield index, 3)) (k : Wg p l e R s m args below meth c Q D cs ad A nL cells slots (pc + 3) lv (.int (st (42 + q) 5) :: stk) st mt ov) : Wg p l e R s m args below meth c Q D cs ad A nL cells slots pc lv (.ref (ad (42 + q)) :: stk) st mt ov :=
  fun H locs ls hP hS hl => va_get C.1 C.2.1 C.2.2.2.2.1 i_J C.2.2.2.1 C.2.2.2.2.2.2.1 hP (42 + q) ((iw_get (by omega)).trans (congrArg (fun z => some (ad (42 + q), z)) (e_J hq ))) rfl 5 (by decide) (C.2.2.2.2.1 _ hlk) (fun _ h => h) rfl d (k H locs ls hP hS hl)
theorem p_J_condition (C : Cx p s m args meth c D cs ad A cc nL own) {index : Nat} {q : Nat} (hq : q < 8) {v : Int32} (hlk : (Cond.fieldLink own index "TwinRegister$Job" "condition" "I") ∈ ag_all) (d : decode cc pc = .ok (.putfield index, 3)) (k : Wg p l e R s m args below meth c Q D cs ad A nL cells slots (pc + 3) lv stk (up2 st (42 + q) 5 v) mt ov) : Wg p l e R s m args below meth c Q D cs ad A nL cells slots pc lv (.int v :: .ref (ad (42 + q)) :: stk) st mt ov := by
  intro H locs ls hP hS hl
  refine va_put (ty := .int) C.1 C.2.1 C.2.2.2.2.1 i_J ft_J ft_J_ok n_J C.2.2.2.1 C.2.2.2.2.2.2.1 hP (iw_D C.2.2.2.2.2.2.2.1) hS (42 + q) ((iw_get (by omega)).trans (congrArg (fun z => some (ad (42 + q), z)) (e_J hq ))) rfl 5 (by decide) (C.2.2.2.2.1 _ hlk) (fun _ h => h) rfl (by decide +kernel) rfl rfl (Nat.le_of_ble_eq_true rfl) d (fun H1 locs1 hP1 hD1 hS1 => ?_)
  have e1 := gE_upT (ad := ad) (cs := cs) (st := st) (mt := mt) (ov := ov) (i := (42 + q)) (k := 5) (v := v) (e := .inr (4, [.int (st (42 + q) 0), .int (st (42 + q) 1), .int (st (42 + q) 2), .int (st (42 + q) 3), .int (st (42 + q) 4), .int (st (42 + q) 5), .int (st (42 + q) 6), .int (st (42 + q) 7), .int (st (42 + q) 8)].set 5 (.int v))) (by omega) (by rw [tE_job (by omega), up2_in]; rfl)
  rw [iw_set, e1] at hP1
  exact k H1 locs1 ls hP1 hS1 hl
theorem gN_J_condition (C : Cx p s m args meth c D cs ad A cc nL own) {index : Nat} {host : String} {q : Nat} (hq : q < 8) (hlk : (Cond.fieldLinkNest own index "TwinRegister$Job" "condition" "I" host) ∈ ax_all) (d : decode cc pc = .ok (.getfield index, 3)) (k : Wg p l e R s m args below meth c Q D cs ad A nL cells slots (pc + 3) lv (.int (st (42 + q) 5) :: stk) st mt ov) : Wg p l e R s m args below meth c Q D cs ad A nL cells slots pc lv (.ref (ad (42 + q)) :: stk) st mt ov :=
  fun H locs ls hP hS hl => va_getN C.1 C.2.1 C.2.2.2.2.1 i_J C.2.2.2.1 C.2.2.2.2.2.2.1 hP (42 + q) ((iw_get (by omega)).trans (congrArg (fun z => some (ad (42 + q), z)) (e_J hq ))) rfl 5 (by decide) (va_Nw.use rfl (C.2.2.2.2.2.1.1 _ hlk)) (fun _ h => h) rfl d (k H locs ls hP hS hl)
theorem pN_J_condition (C : Cx p s m args meth c D cs ad A cc nL own) {index : Nat} {host : String} {q : Nat} (hq : q < 8) {v : Int32} (hlk : (Cond.fieldLinkNest own index "TwinRegister$Job" "condition" "I" host) ∈ ax_all) (d : decode cc pc = .ok (.putfield index, 3)) (k : Wg p l e R s m args below meth c Q D cs ad A nL cells slots (pc + 3) lv stk (up2 st (42 + q) 5 v) mt ov) : Wg p l e R s m args below meth c Q D cs ad A nL cells slots pc lv (.int v :: .ref (ad (42 + q)) :: stk) st mt ov := by
  intro H locs ls hP hS hl
  refine va_putN (ty := .int) C.1 C.2.1 C.2.2.2.2.1 i_J ft_J ft_J_ok n_J C.2.2.2.1 C.2.2.2.2.2.2.1 hP (iw_D C.2.2.2.2.2.2.2.1) hS (42 + q) ((iw_get (by omega)).trans (congrArg (fun z => some (ad (42 + q), z)) (e_J hq ))) rfl 5 (by decide) (va_Nw.use rfl (C.2.2.2.2.2.1.1 _ hlk)) (fun _ h => h) rfl (by decide +kernel) rfl rfl (Nat.le_of_ble_eq_true rfl) d (fun H1 locs1 hP1 hD1 hS1 => ?_)
  have e1 := gE_upT (ad := ad) (cs := cs) (st := st) (mt := mt) (ov := ov) (i := (42 + q)) (k := 5) (v := v) (e := .inr (4, [.int (st (42 + q) 0), .int (st (42 + q) 1), .int (st (42 + q) 2), .int (st (42 + q) 3), .int (st (42 + q) 4), .int (st (42 + q) 5), .int (st (42 + q) 6), .int (st (42 + q) 7), .int (st (42 + q) 8)].set 5 (.int v))) (by omega) (by rw [tE_job (by omega), up2_in]; rfl)
  rw [iw_set, e1] at hP1
  exact k H1 locs1 ls hP1 hS1 hl
theorem g_J_started (C : Cx p s m args meth c D cs ad A cc nL own) {index : Nat} {q : Nat} (hq : q < 8) (hlk : (Cond.fieldLink own index "TwinRegister$Job" "started" "I") ∈ ag_all) (d : decode cc pc = .ok (.getfield index, 3)) (k : Wg p l e R s m args below meth c Q D cs ad A nL cells slots (pc + 3) lv (.int (st (42 + q) 6) :: stk) st mt ov) : Wg p l e R s m args below meth c Q D cs ad A nL cells slots pc lv (.ref (ad (42 + q)) :: stk) st mt ov :=
  fun H locs ls hP hS hl => va_get C.1 C.2.1 C.2.2.2.2.1 i_J C.2.2.2.1 C.2.2.2.2.2.2.1 hP (42 + q) ((iw_get (by omega)).trans (congrArg (fun z => some (ad (42 + q), z)) (e_J hq ))) rfl 6 (by decide) (C.2.2.2.2.1 _ hlk) (fun _ h => h) rfl d (k H locs ls hP hS hl)
theorem p_J_started (C : Cx p s m args meth c D cs ad A cc nL own) {index : Nat} {q : Nat} (hq : q < 8) {v : Int32} (hlk : (Cond.fieldLink own index "TwinRegister$Job" "started" "I") ∈ ag_all) (d : decode cc pc = .ok (.putfield index, 3)) (k : Wg p l e R s m args below meth c Q D cs ad A nL cells slots (pc + 3) lv stk (up2 st (42 + q) 6 v) mt ov) : Wg p l e R s m args below meth c Q D cs ad A nL cells slots pc lv (.int v :: .ref (ad (42 + q)) :: stk) st mt ov := by
  intro H locs ls hP hS hl
  refine va_put (ty := .int) C.1 C.2.1 C.2.2.2.2.1 i_J ft_J ft_J_ok n_J C.2.2.2.1 C.2.2.2.2.2.2.1 hP (iw_D C.2.2.2.2.2.2.2.1) hS (42 + q) ((iw_get (by omega)).trans (congrArg (fun z => some (ad (42 + q), z)) (e_J hq ))) rfl 6 (by decide) (C.2.2.2.2.1 _ hlk) (fun _ h => h) rfl (by decide +kernel) rfl rfl (Nat.le_of_ble_eq_true rfl) d (fun H1 locs1 hP1 hD1 hS1 => ?_)
  have e1 := gE_upT (ad := ad) (cs := cs) (st := st) (mt := mt) (ov := ov) (i := (42 + q)) (k := 6) (v := v) (e := .inr (4, [.int (st (42 + q) 0), .int (st (42 + q) 1), .int (st (42 + q) 2), .int (st (42 + q) 3), .int (st (42 + q) 4), .int (st (42 + q) 5), .int (st (42 + q) 6), .int (st (42 + q) 7), .int (st (42 + q) 8)].set 6 (.int v))) (by omega) (by rw [tE_job (by omega), up2_in]; rfl)
  rw [iw_set, e1] at hP1
  exact k H1 locs1 ls hP1 hS1 hl
theorem gN_J_started (C : Cx p s m args meth c D cs ad A cc nL own) {index : Nat} {host : String} {q : Nat} (hq : q < 8) (hlk : (Cond.fieldLinkNest own index "TwinRegister$Job" "started" "I" host) ∈ ax_all) (d : decode cc pc = .ok (.getfield index, 3)) (k : Wg p l e R s m args below meth c Q D cs ad A nL cells slots (pc + 3) lv (.int (st (42 + q) 6) :: stk) st mt ov) : Wg p l e R s m args below meth c Q D cs ad A nL cells slots pc lv (.ref (ad (42 + q)) :: stk) st mt ov :=
  fun H locs ls hP hS hl => va_getN C.1 C.2.1 C.2.2.2.2.1 i_J C.2.2.2.1 C.2.2.2.2.2.2.1 hP (42 + q) ((iw_get (by omega)).trans (congrArg (fun z => some (ad (42 + q), z)) (e_J hq ))) rfl 6 (by decide) (va_Nw.use rfl (C.2.2.2.2.2.1.1 _ hlk)) (fun _ h => h) rfl d (k H locs ls hP hS hl)
theorem pN_J_started (C : Cx p s m args meth c D cs ad A cc nL own) {index : Nat} {host : String} {q : Nat} (hq : q < 8) {v : Int32} (hlk : (Cond.fieldLinkNest own index "TwinRegister$Job" "started" "I" host) ∈ ax_all) (d : decode cc pc = .ok (.putfield index, 3)) (k : Wg p l e R s m args below meth c Q D cs ad A nL cells slots (pc + 3) lv stk (up2 st (42 + q) 6 v) mt ov) : Wg p l e R s m args below meth c Q D cs ad A nL cells slots pc lv (.int v :: .ref (ad (42 + q)) :: stk) st mt ov := by
  intro H locs ls hP hS hl
  refine va_putN (ty := .int) C.1 C.2.1 C.2.2.2.2.1 i_J ft_J ft_J_ok n_J C.2.2.2.1 C.2.2.2.2.2.2.1 hP (iw_D C.2.2.2.2.2.2.2.1) hS (42 + q) ((iw_get (by omega)).trans (congrArg (fun z => some (ad (42 + q), z)) (e_J hq ))) rfl 6 (by decide) (va_Nw.use rfl (C.2.2.2.2.2.1.1 _ hlk)) (fun _ h => h) rfl (by decide +kernel) rfl rfl (Nat.le_of_ble_eq_true rfl) d (fun H1 locs1 hP1 hD1 hS1 => ?_)
  have e1 := gE_upT (ad := ad) (cs := cs) (st := st) (mt := mt) (ov := ov) (i := (42 + q)) (k := 6) (v := v) (e := .inr (4, [.int (st (42 + q) 0), .int (st (42 + q) 1), .int (st (42 + q) 2), .int (st (42 + q) 3), .int (st (42 + q) 4), .int (st (42 + q) 5), .int (st (42 + q) 6), .int (st (42 + q) 7), .int (st (42 + q) 8)].set 6 (.int v))) (by omega) (by rw [tE_job (by omega), up2_in]; rfl)
  rw [iw_set, e1] at hP1
  exact k H1 locs1 ls hP1 hS1 hl
theorem g_J_done (C : Cx p s m args meth c D cs ad A cc nL own) {index : Nat} {q : Nat} (hq : q < 8) (hlk : (Cond.fieldLink own index "TwinRegister$Job" "done" "I") ∈ ag_all) (d : decode cc pc = .ok (.getfield index, 3)) (k : Wg p l e R s m args below meth c Q D cs ad A nL cells slots (pc + 3) lv (.int (st (42 + q) 7) :: stk) st mt ov) : Wg p l e R s m args below meth c Q D cs ad A nL cells slots pc lv (.ref (ad (42 + q)) :: stk) st mt ov :=
  fun H locs ls hP hS hl => va_get C.1 C.2.1 C.2.2.2.2.1 i_J C.2.2.2.1 C.2.2.2.2.2.2.1 hP (42 + q) ((iw_get (by omega)).trans (congrArg (fun z => some (ad (42 + q), z)) (e_J hq ))) rfl 7 (by decide) (C.2.2.2.2.1 _ hlk) (fun _ h => h) rfl d (k H locs ls hP hS hl)
theorem p_J_done (C : Cx p s m args meth c D cs ad A cc nL own) {index : Nat} {q : Nat} (hq : q < 8) {v : Int32} (hlk : (Cond.fieldLink own index "TwinRegister$Job" "done" "I") ∈ ag_all) (d : decode cc pc = .ok (.putfield index, 3)) (k : Wg p l e R s m args below meth c Q D cs ad A nL cells slots (pc + 3) lv stk (up2 st (42 + q) 7 v) mt ov) : Wg p l e R s m args below meth c Q D cs ad A nL cells slots pc lv (.int v :: .ref (ad (42 + q)) :: stk) st mt ov := by
  intro H locs ls hP hS hl
  refine va_put (ty := .int) C.1 C.2.1 C.2.2.2.2.1 i_J ft_J ft_J_ok n_J C.2.2.2.1 C.2.2.2.2.2.2.1 hP (iw_D C.2.2.2.2.2.2.2.1) hS (42 + q) ((iw_get (by omega)).trans (congrArg (fun z => some (ad (42 + q), z)) (e_J hq ))) rfl 7 (by decide) (C.2.2.2.2.1 _ hlk) (fun _ h => h) rfl (by decide +kernel) rfl rfl (Nat.le_of_ble_eq_true rfl) d (fun H1 locs1 hP1 hD1 hS1 => ?_)
  have e1 := gE_upT (ad := ad) (cs := cs) (st := st) (mt := mt) (ov := ov) (i := (42 + q)) (k := 7) (v := v) (e := .inr (4, [.int (st (42 + q) 0), .int (st (42 + q) 1), .int (st (42 + q) 2), .int (st (42 + q) 3), .int (st (42 + q) 4), .int (st (42 + q) 5), .int (st (42 + q) 6), .int (st (42 + q) 7), .int (st (42 + q) 8)].set 7 (.int v))) (by omega) (by rw [tE_job (by omega), up2_in]; rfl)
  rw [iw_set, e1] at hP1
  exact k H1 locs1 ls hP1 hS1 hl
theorem gN_J_done (C : Cx p s m args meth c D cs ad A cc nL own) {index : Nat} {host : String} {q : Nat} (hq : q < 8) (hlk : (Cond.fieldLinkNest own index "TwinRegister$Job" "done" "I" host) ∈ ax_all) (d : decode cc pc = .ok (.getfield index, 3)) (k : Wg p l e R s m args below meth c Q D cs ad A nL cells slots (pc + 3) lv (.int (st (42 + q) 7) :: stk) st mt ov) : Wg p l e R s m args below meth c Q D cs ad A nL cells slots pc lv (.ref (ad (42 + q)) :: stk) st mt ov :=
  fun H locs ls hP hS hl => va_getN C.1 C.2.1 C.2.2.2.2.1 i_J C.2.2.2.1 C.2.2.2.2.2.2.1 hP (42 + q) ((iw_get (by omega)).trans (congrArg (fun z => some (ad (42 + q), z)) (e_J hq ))) rfl 7 (by decide) (va_Nw.use rfl (C.2.2.2.2.2.1.1 _ hlk)) (fun _ h => h) rfl d (k H locs ls hP hS hl)
theorem pN_J_done (C : Cx p s m args meth c D cs ad A cc nL own) {index : Nat} {host : String} {q : Nat} (hq : q < 8) {v : Int32} (hlk : (Cond.fieldLinkNest own index "TwinRegister$Job" "done" "I" host) ∈ ax_all) (d : decode cc pc = .ok (.putfield index, 3)) (k : Wg p l e R s m args below meth c Q D cs ad A nL cells slots (pc + 3) lv stk (up2 st (42 + q) 7 v) mt ov) : Wg p l e R s m args below meth c Q D cs ad A nL cells slots pc lv (.int v :: .ref (ad (42 + q)) :: stk) st mt ov := by
  intro H locs ls hP hS hl
  refine va_putN (ty := .int) C.1 C.2.1 C.2.2.2.2.1 i_J ft_J ft_J_ok n_J C.2.2.2.1 C.2.2.2.2.2.2.1 hP (iw_D C.2.2.2.2.2.2.2.1) hS (42 + q) ((iw_get (by omega)).trans (congrArg (fun z => some (ad (42 + q), z)) (e_J hq ))) rfl 7 (by decide) (va_Nw.use rfl (C.2.2.2.2.2.1.1 _ hlk)) (fun _ h => h) rfl (by decide +kernel) rfl rfl (Nat.le_of_ble_eq_true rfl) d (fun H1 locs1 hP1 hD1 hS1 => ?_)
  have e1 := gE_upT (ad := ad) (cs := cs) (st := st) (mt := mt) (ov := ov) (i := (42 + q)) (k := 7) (v := v) (e := .inr (4, [.int (st (42 + q) 0), .int (st (42 + q) 1), .int (st (42 + q) 2), .int (st (42 + q) 3), .int (st (42 + q) 4), .int (st (42 + q) 5), .int (st (42 + q) 6), .int (st (42 + q) 7), .int (st (42 + q) 8)].set 7 (.int v))) (by omega) (by rw [tE_job (by omega), up2_in]; rfl)
  rw [iw_set, e1] at hP1
  exact k H1 locs1 ls hP1 hS1 hl
theorem g_J_failed (C : Cx p s m args meth c D cs ad A cc nL own) {index : Nat} {q : Nat} (hq : q < 8) (hlk : (Cond.fieldLink own index "TwinRegister$Job" "failed" "I") ∈ ag_all) (d : decode cc pc = .ok (.getfield index, 3)) (k : Wg p l e R s m args below meth c Q D cs ad A nL cells slots (pc + 3) lv (.int (st (42 + q) 8) :: stk) st mt ov) : Wg p l e R s m args below meth c Q D cs ad A nL cells slots pc lv (.ref (ad (42 + q)) :: stk) st mt ov :=
  fun H locs ls hP hS hl => va_get C.1 C.2.1 C.2.2.2.2.1 i_J C.2.2.2.1 C.2.2.2.2.2.2.1 hP (42 + q) ((iw_get (by omega)).trans (congrArg (fun z => some (ad (42 + q), z)) (e_J hq ))) rfl 8 (by decide) (C.2.2.2.2.1 _ hlk) (fun _ h => h) rfl d (k H locs ls hP hS hl)
theorem p_J_failed (C : Cx p s m args meth c D cs ad A cc nL own) {index : Nat} {q : Nat} (hq : q < 8) {v : Int32} (hlk : (Cond.fieldLink own index "TwinRegister$Job" "failed" "I") ∈ ag_all) (d : decode cc pc = .ok (.putfield index, 3)) (k : Wg p l e R s m args below meth c Q D cs ad A nL cells slots (pc + 3) lv stk (up2 st (42 + q) 8 v) mt ov) : Wg p l e R s m args below meth c Q D cs ad A nL cells slots pc lv (.int v :: .ref (ad (42 + q)) :: stk) st mt ov := by
  intro H locs ls hP hS hl
  refine va_put (ty := .int) C.1 C.2.1 C.2.2.2.2.1 i_J ft_J ft_J_ok n_J C.2.2.2.1 C.2.2.2.2.2.2.1 hP (iw_D C.2.2.2.2.2.2.2.1) hS (42 + q) ((iw_get (by omega)).trans (congrArg (fun z => some (ad (42 + q), z)) (e_J hq ))) rfl 8 (by decide) (C.2.2.2.2.1 _ hlk) (fun _ h => h) rfl (by decide +kernel) rfl rfl (Nat.le_of_ble_eq_true rfl) d (fun H1 locs1 hP1 hD1 hS1 => ?_)
  have e1 := gE_upT (ad := ad) (cs := cs) (st := st) (mt := mt) (ov := ov) (i := (42 + q)) (k := 8) (v := v) (e := .inr (4, [.int (st (42 + q) 0), .int (st (42 + q) 1), .int (st (42 + q) 2), .int (st (42 + q) 3), .int (st (42 + q) 4), .int (st (42 + q) 5), .int (st (42 + q) 6), .int (st (42 + q) 7), .int (st (42 + q) 8)].set 8 (.int v))) (by omega) (by rw [tE_job (by omega), up2_in]; rfl)
  rw [iw_set, e1] at hP1
  exact k H1 locs1 ls hP1 hS1 hl
theorem gN_J_failed (C : Cx p s m args meth c D cs ad A cc nL own) {index : Nat} {host : String} {q : Nat} (hq : q < 8) (hlk : (Cond.fieldLinkNest own index "TwinRegister$Job" "failed" "I" host) ∈ ax_all) (d : decode cc pc = .ok (.getfield index, 3)) (k : Wg p l e R s m args below meth c Q D cs ad A nL cells slots (pc + 3) lv (.int (st (42 + q) 8) :: stk) st mt ov) : Wg p l e R s m args below meth c Q D cs ad A nL cells slots pc lv (.ref (ad (42 + q)) :: stk) st mt ov :=
  fun H locs ls hP hS hl => va_getN C.1 C.2.1 C.2.2.2.2.1 i_J C.2.2.2.1 C.2.2.2.2.2.2.1 hP (42 + q) ((iw_get (by omega)).trans (congrArg (fun z => some (ad (42 + q), z)) (e_J hq ))) rfl 8 (by decide) (va_Nw.use rfl (C.2.2.2.2.2.1.1 _ hlk)) (fun _ h => h) rfl d (k H locs ls hP hS hl)
theorem pN_J_failed (C : Cx p s m args meth c D cs ad A cc nL own) {index : Nat} {host : String} {q : Nat} (hq : q < 8) {v : Int32} (hlk : (Cond.fieldLinkNest own index "TwinRegister$Job" "failed" "I" host) ∈ ax_all) (d : decode cc pc = .ok (.putfield index, 3)) (k : Wg p l e R s m args below meth c Q D cs ad A nL cells slots (pc + 3) lv stk (up2 st (42 + q) 8 v) mt ov) : Wg p l e R s m args below meth c Q D cs ad A nL cells slots pc lv (.int v :: .ref (ad (42 + q)) :: stk) st mt ov := by
  intro H locs ls hP hS hl
  refine va_putN (ty := .int) C.1 C.2.1 C.2.2.2.2.1 i_J ft_J ft_J_ok n_J C.2.2.2.1 C.2.2.2.2.2.2.1 hP (iw_D C.2.2.2.2.2.2.2.1) hS (42 + q) ((iw_get (by omega)).trans (congrArg (fun z => some (ad (42 + q), z)) (e_J hq ))) rfl 8 (by decide) (va_Nw.use rfl (C.2.2.2.2.2.1.1 _ hlk)) (fun _ h => h) rfl (by decide +kernel) rfl rfl (Nat.le_of_ble_eq_true rfl) d (fun H1 locs1 hP1 hD1 hS1 => ?_)
  have e1 := gE_upT (ad := ad) (cs := cs) (st := st) (mt := mt) (ov := ov) (i := (42 + q)) (k := 8) (v := v) (e := .inr (4, [.int (st (42 + q) 0), .int (st (42 + q) 1), .int (st (42 + q) 2), .int (st (42 + q) 3), .int (st (42 + q) 4), .int (st (42 + q) 5), .int (st (42 + q) 6), .int (st (42 + q) 7), .int (st (42 + q) 8)].set 8 (.int v))) (by omega) (by rw [tE_job (by omega), up2_in]; rfl)
  rw [iw_set, e1] at hP1
  exact k H1 locs1 ls hP1 hS1 hl
theorem e_M : gE ad cs st mt ov 50 = .inr (5, [.int (mt 0 0), .ref (ad 51), .ref (ad 52), .ref (ad 53), .ref (ad 54), .ref (ad 55), .ref (ad 56), .ref (ad 57), .ref (ad 58), .ref (ad 59), .ref (ad 60), .ref (ad 61), .int (mt 0 12), .ref (ad 62), .ref (ad 63), .ref (ad 64), .ref (ad 65), .ref (ad 66), .ref (ad 67), .ref (ad 68), .ref (ad 69), .ref (ad 70)]) := by
  rfl
theorem g_M_thrown (C : Cx p s m args meth c D cs ad A cc nL own) {index : Nat} (hlk : (Cond.fieldLink own index "TwinRegisterModel" "thrown" "I") ∈ ag_all) (d : decode cc pc = .ok (.getfield index, 3)) (k : Wg p l e R s m args below meth c Q D cs ad A nL cells slots (pc + 3) lv (.int (mt 0 0) :: stk) st mt ov) : Wg p l e R s m args below meth c Q D cs ad A nL cells slots pc lv (.ref (ad 50) :: stk) st mt ov :=
  fun H locs ls hP hS hl => va_get C.1 C.2.1 C.2.2.2.2.1 i_M C.2.2.2.1 C.2.2.2.2.2.2.1 hP 50 ((iw_get (by omega)).trans (congrArg (fun z => some (ad 50, z)) e_M)) rfl 0 (by decide) (C.2.2.2.2.1 _ hlk) (fun _ h => h) rfl d (k H locs ls hP hS hl)
theorem p_M_thrown (C : Cx p s m args meth c D cs ad A cc nL own) {index : Nat} {v : Int32} (hlk : (Cond.fieldLink own index "TwinRegisterModel" "thrown" "I") ∈ ag_all) (d : decode cc pc = .ok (.putfield index, 3)) (k : Wg p l e R s m args below meth c Q D cs ad A nL cells slots (pc + 3) lv stk st (up2 mt 0 0 v) ov) : Wg p l e R s m args below meth c Q D cs ad A nL cells slots pc lv (.int v :: .ref (ad 50) :: stk) st mt ov := by
  intro H locs ls hP hS hl
  refine va_put (ty := .int) C.1 C.2.1 C.2.2.2.2.1 i_M ft_M ft_M_ok n_M C.2.2.2.1 C.2.2.2.2.2.2.1 hP (iw_D C.2.2.2.2.2.2.2.1) hS 50 ((iw_get (by omega)).trans (congrArg (fun z => some (ad 50, z)) e_M)) rfl 0 (by decide) (C.2.2.2.2.1 _ hlk) (fun _ h => h) rfl (by decide +kernel) rfl rfl (Nat.le_of_ble_eq_true rfl) d (fun H1 locs1 hP1 hD1 hS1 => ?_)
  have e1 := gE_upM (ad := ad) (cs := cs) (st := st) (mt := mt) (ov := ov) (i := 0) (k := 0) (v := v) (e := .inr (5, [.int (mt 0 0), .ref (ad 51), .ref (ad 52), .ref (ad 53), .ref (ad 54), .ref (ad 55), .ref (ad 56), .ref (ad 57), .ref (ad 58), .ref (ad 59), .ref (ad 60), .ref (ad 61), .int (mt 0 12), .ref (ad 62), .ref (ad 63), .ref (ad 64), .ref (ad 65), .ref (ad 66), .ref (ad 67), .ref (ad 68), .ref (ad 69), .ref (ad 70)].set 0 (.int v))) (by omega) (rfl)
  rw [iw_set, e1] at hP1
  exact k H1 locs1 ls hP1 hS1 hl
theorem g_M_wished (C : Cx p s m args meth c D cs ad A cc nL own) {index : Nat} (hlk : (Cond.fieldLink own index "TwinRegisterModel" "wished" "[I") ∈ ag_all) (d : decode cc pc = .ok (.getfield index, 3)) (k : Wg p l e R s m args below meth c Q D cs ad A nL cells slots (pc + 3) lv (.ref (ad 51) :: stk) st mt ov) : Wg p l e R s m args below meth c Q D cs ad A nL cells slots pc lv (.ref (ad 50) :: stk) st mt ov :=
  fun H locs ls hP hS hl => va_get C.1 C.2.1 C.2.2.2.2.1 i_M C.2.2.2.1 C.2.2.2.2.2.2.1 hP 50 ((iw_get (by omega)).trans (congrArg (fun z => some (ad 50, z)) e_M)) rfl 1 (by decide) (C.2.2.2.2.1 _ hlk) (fun _ h => h) rfl d (k H locs ls hP hS hl)
theorem g_M_reported (C : Cx p s m args meth c D cs ad A cc nL own) {index : Nat} (hlk : (Cond.fieldLink own index "TwinRegisterModel" "reported" "[I") ∈ ag_all) (d : decode cc pc = .ok (.getfield index, 3)) (k : Wg p l e R s m args below meth c Q D cs ad A nL cells slots (pc + 3) lv (.ref (ad 52) :: stk) st mt ov) : Wg p l e R s m args below meth c Q D cs ad A nL cells slots pc lv (.ref (ad 50) :: stk) st mt ov :=
  fun H locs ls hP hS hl => va_get C.1 C.2.1 C.2.2.2.2.1 i_M C.2.2.2.1 C.2.2.2.2.2.2.1 hP 50 ((iw_get (by omega)).trans (congrArg (fun z => some (ad 50, z)) e_M)) rfl 2 (by decide) (C.2.2.2.2.1 _ hlk) (fun _ h => h) rfl d (k H locs ls hP hS hl)
theorem g_M_reason (C : Cx p s m args meth c D cs ad A cc nL own) {index : Nat} (hlk : (Cond.fieldLink own index "TwinRegisterModel" "reason" "[I") ∈ ag_all) (d : decode cc pc = .ok (.getfield index, 3)) (k : Wg p l e R s m args below meth c Q D cs ad A nL cells slots (pc + 3) lv (.ref (ad 53) :: stk) st mt ov) : Wg p l e R s m args below meth c Q D cs ad A nL cells slots pc lv (.ref (ad 50) :: stk) st mt ov :=
  fun H locs ls hP hS hl => va_get C.1 C.2.1 C.2.2.2.2.1 i_M C.2.2.2.1 C.2.2.2.2.2.2.1 hP 50 ((iw_get (by omega)).trans (congrArg (fun z => some (ad 50, z)) e_M)) rfl 3 (by decide) (C.2.2.2.2.1 _ hlk) (fun _ h => h) rfl d (k H locs ls hP hS hl)
theorem g_M_version (C : Cx p s m args meth c D cs ad A cc nL own) {index : Nat} (hlk : (Cond.fieldLink own index "TwinRegisterModel" "version" "[I") ∈ ag_all) (d : decode cc pc = .ok (.getfield index, 3)) (k : Wg p l e R s m args below meth c Q D cs ad A nL cells slots (pc + 3) lv (.ref (ad 54) :: stk) st mt ov) : Wg p l e R s m args below meth c Q D cs ad A nL cells slots pc lv (.ref (ad 50) :: stk) st mt ov :=
  fun H locs ls hP hS hl => va_get C.1 C.2.1 C.2.2.2.2.1 i_M C.2.2.2.1 C.2.2.2.2.2.2.1 hP 50 ((iw_get (by omega)).trans (congrArg (fun z => some (ad 50, z)) e_M)) rfl 4 (by decide) (C.2.2.2.2.1 _ hlk) (fun _ h => h) rfl d (k H locs ls hP hS hl)
theorem g_M_heard (C : Cx p s m args meth c D cs ad A cc nL own) {index : Nat} (hlk : (Cond.fieldLink own index "TwinRegisterModel" "heard" "[I") ∈ ag_all) (d : decode cc pc = .ok (.getfield index, 3)) (k : Wg p l e R s m args below meth c Q D cs ad A nL cells slots (pc + 3) lv (.ref (ad 55) :: stk) st mt ov) : Wg p l e R s m args below meth c Q D cs ad A nL cells slots pc lv (.ref (ad 50) :: stk) st mt ov :=
  fun H locs ls hP hS hl => va_get C.1 C.2.1 C.2.2.2.2.1 i_M C.2.2.2.1 C.2.2.2.2.2.2.1 hP 50 ((iw_get (by omega)).trans (congrArg (fun z => some (ad 50, z)) e_M)) rfl 5 (by decide) (C.2.2.2.2.1 _ hlk) (fun _ h => h) rfl d (k H locs ls hP hS hl)
theorem g_M_isAsleep (C : Cx p s m args meth c D cs ad A cc nL own) {index : Nat} (hlk : (Cond.fieldLink own index "TwinRegisterModel" "isAsleep" "[Z") ∈ ag_all) (d : decode cc pc = .ok (.getfield index, 3)) (k : Wg p l e R s m args below meth c Q D cs ad A nL cells slots (pc + 3) lv (.ref (ad 56) :: stk) st mt ov) : Wg p l e R s m args below meth c Q D cs ad A nL cells slots pc lv (.ref (ad 50) :: stk) st mt ov :=
  fun H locs ls hP hS hl => va_get C.1 C.2.1 C.2.2.2.2.1 i_M C.2.2.2.1 C.2.2.2.2.2.2.1 hP 50 ((iw_get (by omega)).trans (congrArg (fun z => some (ad 50, z)) e_M)) rfl 6 (by decide) (C.2.2.2.2.1 _ hlk) (fun _ h => h) rfl d (k H locs ls hP hS hl)
theorem g_M_latest (C : Cx p s m args meth c D cs ad A cc nL own) {index : Nat} (hlk : (Cond.fieldLink own index "TwinRegisterModel" "latest" "[I") ∈ ag_all) (d : decode cc pc = .ok (.getfield index, 3)) (k : Wg p l e R s m args below meth c Q D cs ad A nL cells slots (pc + 3) lv (.ref (ad 57) :: stk) st mt ov) : Wg p l e R s m args below meth c Q D cs ad A nL cells slots pc lv (.ref (ad 50) :: stk) st mt ov :=
  fun H locs ls hP hS hl => va_get C.1 C.2.1 C.2.2.2.2.1 i_M C.2.2.2.1 C.2.2.2.2.2.2.1 hP 50 ((iw_get (by omega)).trans (congrArg (fun z => some (ad 50, z)) e_M)) rfl 7 (by decide) (C.2.2.2.2.1 _ hlk) (fun _ h => h) rfl d (k H locs ls hP hS hl)
theorem g_M_draft (C : Cx p s m args meth c D cs ad A cc nL own) {index : Nat} (hlk : (Cond.fieldLink own index "TwinRegisterModel" "draft" "[I") ∈ ag_all) (d : decode cc pc = .ok (.getfield index, 3)) (k : Wg p l e R s m args below meth c Q D cs ad A nL cells slots (pc + 3) lv (.ref (ad 58) :: stk) st mt ov) : Wg p l e R s m args below meth c Q D cs ad A nL cells slots pc lv (.ref (ad 50) :: stk) st mt ov :=
  fun H locs ls hP hS hl => va_get C.1 C.2.1 C.2.2.2.2.1 i_M C.2.2.2.1 C.2.2.2.2.2.2.1 hP 50 ((iw_get (by omega)).trans (congrArg (fun z => some (ad 50, z)) e_M)) rfl 8 (by decide) (C.2.2.2.2.1 _ hlk) (fun _ h => h) rfl d (k H locs ls hP hS hl)
theorem g_M_groupLeaf (C : Cx p s m args meth c D cs ad A cc nL own) {index : Nat} (hlk : (Cond.fieldLink own index "TwinRegisterModel" "groupLeaf" "[I") ∈ ag_all) (d : decode cc pc = .ok (.getfield index, 3)) (k : Wg p l e R s m args below meth c Q D cs ad A nL cells slots (pc + 3) lv (.ref (ad 59) :: stk) st mt ov) : Wg p l e R s m args below meth c Q D cs ad A nL cells slots pc lv (.ref (ad 50) :: stk) st mt ov :=
  fun H locs ls hP hS hl => va_get C.1 C.2.1 C.2.2.2.2.1 i_M C.2.2.2.1 C.2.2.2.2.2.2.1 hP 50 ((iw_get (by omega)).trans (congrArg (fun z => some (ad 50, z)) e_M)) rfl 9 (by decide) (C.2.2.2.2.1 _ hlk) (fun _ h => h) rfl d (k H locs ls hP hS hl)
theorem g_M_low (C : Cx p s m args meth c D cs ad A cc nL own) {index : Nat} (hlk : (Cond.fieldLink own index "TwinRegisterModel" "low" "[I") ∈ ag_all) (d : decode cc pc = .ok (.getfield index, 3)) (k : Wg p l e R s m args below meth c Q D cs ad A nL cells slots (pc + 3) lv (.ref (ad 60) :: stk) st mt ov) : Wg p l e R s m args below meth c Q D cs ad A nL cells slots pc lv (.ref (ad 50) :: stk) st mt ov :=
  fun H locs ls hP hS hl => va_get C.1 C.2.1 C.2.2.2.2.1 i_M C.2.2.2.1 C.2.2.2.2.2.2.1 hP 50 ((iw_get (by omega)).trans (congrArg (fun z => some (ad 50, z)) e_M)) rfl 10 (by decide) (C.2.2.2.2.1 _ hlk) (fun _ h => h) rfl d (k H locs ls hP hS hl)
theorem g_M_high (C : Cx p s m args meth c D cs ad A cc nL own) {index : Nat} (hlk : (Cond.fieldLink own index "TwinRegisterModel" "high" "[I") ∈ ag_all) (d : decode cc pc = .ok (.getfield index, 3)) (k : Wg p l e R s m args below meth c Q D cs ad A nL cells slots (pc + 3) lv (.ref (ad 61) :: stk) st mt ov) : Wg p l e R s m args below meth c Q D cs ad A nL cells slots pc lv (.ref (ad 50) :: stk) st mt ov :=
  fun H locs ls hP hS hl => va_get C.1 C.2.1 C.2.2.2.2.1 i_M C.2.2.2.1 C.2.2.2.2.2.2.1 hP 50 ((iw_get (by omega)).trans (congrArg (fun z => some (ad 50, z)) e_M)) rfl 11 (by decide) (C.2.2.2.2.1 _ hlk) (fun _ h => h) rfl d (k H locs ls hP hS hl)
theorem g_M_jobs (C : Cx p s m args meth c D cs ad A cc nL own) {index : Nat} (hlk : (Cond.fieldLink own index "TwinRegisterModel" "jobs" "I") ∈ ag_all) (d : decode cc pc = .ok (.getfield index, 3)) (k : Wg p l e R s m args below meth c Q D cs ad A nL cells slots (pc + 3) lv (.int (mt 0 12) :: stk) st mt ov) : Wg p l e R s m args below meth c Q D cs ad A nL cells slots pc lv (.ref (ad 50) :: stk) st mt ov :=
  fun H locs ls hP hS hl => va_get C.1 C.2.1 C.2.2.2.2.1 i_M C.2.2.2.1 C.2.2.2.2.2.2.1 hP 50 ((iw_get (by omega)).trans (congrArg (fun z => some (ad 50, z)) e_M)) rfl 12 (by decide) (C.2.2.2.2.1 _ hlk) (fun _ h => h) rfl d (k H locs ls hP hS hl)
theorem p_M_jobs (C : Cx p s m args meth c D cs ad A cc nL own) {index : Nat} {v : Int32} (hlk : (Cond.fieldLink own index "TwinRegisterModel" "jobs" "I") ∈ ag_all) (d : decode cc pc = .ok (.putfield index, 3)) (k : Wg p l e R s m args below meth c Q D cs ad A nL cells slots (pc + 3) lv stk st (up2 mt 0 12 v) ov) : Wg p l e R s m args below meth c Q D cs ad A nL cells slots pc lv (.int v :: .ref (ad 50) :: stk) st mt ov := by
  intro H locs ls hP hS hl
  refine va_put (ty := .int) C.1 C.2.1 C.2.2.2.2.1 i_M ft_M ft_M_ok n_M C.2.2.2.1 C.2.2.2.2.2.2.1 hP (iw_D C.2.2.2.2.2.2.2.1) hS 50 ((iw_get (by omega)).trans (congrArg (fun z => some (ad 50, z)) e_M)) rfl 12 (by decide) (C.2.2.2.2.1 _ hlk) (fun _ h => h) rfl (by decide +kernel) rfl rfl (Nat.le_of_ble_eq_true rfl) d (fun H1 locs1 hP1 hD1 hS1 => ?_)
  have e1 := gE_upM (ad := ad) (cs := cs) (st := st) (mt := mt) (ov := ov) (i := 0) (k := 12) (v := v) (e := .inr (5, [.int (mt 0 0), .ref (ad 51), .ref (ad 52), .ref (ad 53), .ref (ad 54), .ref (ad 55), .ref (ad 56), .ref (ad 57), .ref (ad 58), .ref (ad 59), .ref (ad 60), .ref (ad 61), .int (mt 0 12), .ref (ad 62), .ref (ad 63), .ref (ad 64), .ref (ad 65), .ref (ad 66), .ref (ad 67), .ref (ad 68), .ref (ad 69), .ref (ad 70)].set 12 (.int v))) (by omega) (rfl)
  rw [iw_set, e1] at hP1
  exact k H1 locs1 ls hP1 hS1 hl
theorem g_M_group (C : Cx p s m args meth c D cs ad A cc nL own) {index : Nat} (hlk : (Cond.fieldLink own index "TwinRegisterModel" "group" "[I") ∈ ag_all) (d : decode cc pc = .ok (.getfield index, 3)) (k : Wg p l e R s m args below meth c Q D cs ad A nL cells slots (pc + 3) lv (.ref (ad 62) :: stk) st mt ov) : Wg p l e R s m args below meth c Q D cs ad A nL cells slots pc lv (.ref (ad 50) :: stk) st mt ov :=
  fun H locs ls hP hS hl => va_get C.1 C.2.1 C.2.2.2.2.1 i_M C.2.2.2.1 C.2.2.2.2.2.2.1 hP 50 ((iw_get (by omega)).trans (congrArg (fun z => some (ad 50, z)) e_M)) rfl 13 (by decide) (C.2.2.2.2.1 _ hlk) (fun _ h => h) rfl d (k H locs ls hP hS hl)
theorem g_M_leaf (C : Cx p s m args meth c D cs ad A cc nL own) {index : Nat} (hlk : (Cond.fieldLink own index "TwinRegisterModel" "leaf" "[I") ∈ ag_all) (d : decode cc pc = .ok (.getfield index, 3)) (k : Wg p l e R s m args below meth c Q D cs ad A nL cells slots (pc + 3) lv (.ref (ad 63) :: stk) st mt ov) : Wg p l e R s m args below meth c Q D cs ad A nL cells slots pc lv (.ref (ad 50) :: stk) st mt ov :=
  fun H locs ls hP hS hl => va_get C.1 C.2.1 C.2.2.2.2.1 i_M C.2.2.2.1 C.2.2.2.2.2.2.1 hP 50 ((iw_get (by omega)).trans (congrArg (fun z => some (ad 50, z)) e_M)) rfl 14 (by decide) (C.2.2.2.2.1 _ hlk) (fun _ h => h) rfl d (k H locs ls hP hS hl)
theorem g_M_value (C : Cx p s m args meth c D cs ad A cc nL own) {index : Nat} (hlk : (Cond.fieldLink own index "TwinRegisterModel" "value" "[I") ∈ ag_all) (d : decode cc pc = .ok (.getfield index, 3)) (k : Wg p l e R s m args below meth c Q D cs ad A nL cells slots (pc + 3) lv (.ref (ad 64) :: stk) st mt ov) : Wg p l e R s m args below meth c Q D cs ad A nL cells slots pc lv (.ref (ad 50) :: stk) st mt ov :=
  fun H locs ls hP hS hl => va_get C.1 C.2.1 C.2.2.2.2.1 i_M C.2.2.2.1 C.2.2.2.2.2.2.1 hP 50 ((iw_get (by omega)).trans (congrArg (fun z => some (ad 50, z)) e_M)) rfl 15 (by decide) (C.2.2.2.2.1 _ hlk) (fun _ h => h) rfl d (k H locs ls hP hS hl)
theorem g_M_rate (C : Cx p s m args meth c D cs ad A cc nL own) {index : Nat} (hlk : (Cond.fieldLink own index "TwinRegisterModel" "rate" "[I") ∈ ag_all) (d : decode cc pc = .ok (.getfield index, 3)) (k : Wg p l e R s m args below meth c Q D cs ad A nL cells slots (pc + 3) lv (.ref (ad 65) :: stk) st mt ov) : Wg p l e R s m args below meth c Q D cs ad A nL cells slots pc lv (.ref (ad 50) :: stk) st mt ov :=
  fun H locs ls hP hS hl => va_get C.1 C.2.1 C.2.2.2.2.1 i_M C.2.2.2.1 C.2.2.2.2.2.2.1 hP 50 ((iw_get (by omega)).trans (congrArg (fun z => some (ad 50, z)) e_M)) rfl 16 (by decide) (C.2.2.2.2.1 _ hlk) (fun _ h => h) rfl d (k H locs ls hP hS hl)
theorem g_M_bound (C : Cx p s m args meth c D cs ad A cc nL own) {index : Nat} (hlk : (Cond.fieldLink own index "TwinRegisterModel" "bound" "[I") ∈ ag_all) (d : decode cc pc = .ok (.getfield index, 3)) (k : Wg p l e R s m args below meth c Q D cs ad A nL cells slots (pc + 3) lv (.ref (ad 66) :: stk) st mt ov) : Wg p l e R s m args below meth c Q D cs ad A nL cells slots pc lv (.ref (ad 50) :: stk) st mt ov :=
  fun H locs ls hP hS hl => va_get C.1 C.2.1 C.2.2.2.2.1 i_M C.2.2.2.1 C.2.2.2.2.2.2.1 hP 50 ((iw_get (by omega)).trans (congrArg (fun z => some (ad 50, z)) e_M)) rfl 17 (by decide) (C.2.2.2.2.1 _ hlk) (fun _ h => h) rfl d (k H locs ls hP hS hl)
theorem g_M_state (C : Cx p s m args meth c D cs ad A cc nL own) {index : Nat} (hlk : (Cond.fieldLink own index "TwinRegisterModel" "state" "[I") ∈ ag_all) (d : decode cc pc = .ok (.getfield index, 3)) (k : Wg p l e R s m args below meth c Q D cs ad A nL cells slots (pc + 3) lv (.ref (ad 67) :: stk) st mt ov) : Wg p l e R s m args below meth c Q D cs ad A nL cells slots pc lv (.ref (ad 50) :: stk) st mt ov :=
  fun H locs ls hP hS hl => va_get C.1 C.2.1 C.2.2.2.2.1 i_M C.2.2.2.1 C.2.2.2.2.2.2.1 hP 50 ((iw_get (by omega)).trans (congrArg (fun z => some (ad 50, z)) e_M)) rfl 18 (by decide) (C.2.2.2.2.1 _ hlk) (fun _ h => h) rfl d (k H locs ls hP hS hl)
theorem g_M_started (C : Cx p s m args meth c D cs ad A cc nL own) {index : Nat} (hlk : (Cond.fieldLink own index "TwinRegisterModel" "started" "[I") ∈ ag_all) (d : decode cc pc = .ok (.getfield index, 3)) (k : Wg p l e R s m args below meth c Q D cs ad A nL cells slots (pc + 3) lv (.ref (ad 68) :: stk) st mt ov) : Wg p l e R s m args below meth c Q D cs ad A nL cells slots pc lv (.ref (ad 50) :: stk) st mt ov :=
  fun H locs ls hP hS hl => va_get C.1 C.2.1 C.2.2.2.2.1 i_M C.2.2.2.1 C.2.2.2.2.2.2.1 hP 50 ((iw_get (by omega)).trans (congrArg (fun z => some (ad 50, z)) e_M)) rfl 19 (by decide) (C.2.2.2.2.1 _ hlk) (fun _ h => h) rfl d (k H locs ls hP hS hl)
theorem g_M_done (C : Cx p s m args meth c D cs ad A cc nL own) {index : Nat} (hlk : (Cond.fieldLink own index "TwinRegisterModel" "done" "[I") ∈ ag_all) (d : decode cc pc = .ok (.getfield index, 3)) (k : Wg p l e R s m args below meth c Q D cs ad A nL cells slots (pc + 3) lv (.ref (ad 69) :: stk) st mt ov) : Wg p l e R s m args below meth c Q D cs ad A nL cells slots pc lv (.ref (ad 50) :: stk) st mt ov :=
  fun H locs ls hP hS hl => va_get C.1 C.2.1 C.2.2.2.2.1 i_M C.2.2.2.1 C.2.2.2.2.2.2.1 hP 50 ((iw_get (by omega)).trans (congrArg (fun z => some (ad 50, z)) e_M)) rfl 20 (by decide) (C.2.2.2.2.1 _ hlk) (fun _ h => h) rfl d (k H locs ls hP hS hl)
theorem g_M_failed (C : Cx p s m args meth c D cs ad A cc nL own) {index : Nat} (hlk : (Cond.fieldLink own index "TwinRegisterModel" "failed" "[I") ∈ ag_all) (d : decode cc pc = .ok (.getfield index, 3)) (k : Wg p l e R s m args below meth c Q D cs ad A nL cells slots (pc + 3) lv (.ref (ad 70) :: stk) st mt ov) : Wg p l e R s m args below meth c Q D cs ad A nL cells slots pc lv (.ref (ad 50) :: stk) st mt ov :=
  fun H locs ls hP hS hl => va_get C.1 C.2.1 C.2.2.2.2.1 i_M C.2.2.2.1 C.2.2.2.2.2.2.1 hP 50 ((iw_get (by omega)).trans (congrArg (fun z => some (ad 50, z)) e_M)) rfl 21 (by decide) (C.2.2.2.2.1 _ hlk) (fun _ h => h) rfl d (k H locs ls hP hS hl)
/-! the rows of numbers -/
theorem ia_FV (C : Cx p s m args meth c D cs ad A cc nL own) {x : Int32} {j : Nat} (hx : x = nI j) (hj : j < 12) (d : decode cc pc = .ok (.iaload, 1)) (k : Wg p l e R s m args below meth c Q D cs ad A nL cells slots (pc + 1) lv (.int (st 2 j) :: stk) st mt ov) : Wg p l e R s m args below meth c Q D cs ad A nL cells slots pc lv (.int x :: .ref (ad 2) :: stk) st mt ov := by
  intro H locs ls hP hS hl
  subst hx
  refine va_iald C.1 C.2.1 C.2.2.2.2.2.2.1 hP 2 0 ((iw_get (by omega)).trans (congrArg (fun z => some (ad 2, z)) gE_FV)) rfl (vp_in_nI hj (by omega)) d ?_
  rw [nI_clamp (by omega)]
  exact k H locs ls hP hS hl
theorem is_FV (C : Cx p s m args meth c D cs ad A cc nL own) {x v : Int32} {j : Nat} (hx : x = nI j) (hj : j < 12) (d : decode cc pc = .ok (.iastore, 1)) (k : Wg p l e R s m args below meth c Q D cs ad A nL cells slots (pc + 1) lv stk (up2 st 2 j v) mt ov) : Wg p l e R s m args below meth c Q D cs ad A nL cells slots pc lv (.int v :: .int x :: .ref (ad 2) :: stk) st mt ov := by
  intro H locs ls hP hS hl
  subst hx
  refine va_iast C.1 C.2.1 C.2.2.2.2.2.2.1 hP (iw_D C.2.2.2.2.2.2.2.1) hS 2 0 ((iw_get (by omega)).trans (congrArg (fun z => some (ad 2, z)) gE_FV)) rfl (vp_in_nI hj (by omega)) d (fun H1 locs1 hP1 hD1 hS1 => ?_)
  have e1 := gE_upT (ad := ad) (cs := cs) (st := st) (mt := mt) (ov := ov) (i := 2) (k := j) (v := v) (e := .inl (cs 0, 12, .inl (upd (st 2) j v))) (by omega) (by rw [show tE ad cs (up2 st 2 j v) 2 = .inl (cs 0, 12, .inl (up2 st 2 j v 2)) from rfl, up2_in])
  rw [nI_clamp (by omega), iw_set, e1] at hP1
  exact k H1 locs1 ls hP1 hS1 hl
theorem ia_DV (C : Cx p s m args meth c D cs ad A cc nL own) {q r : Nat} (hq : q < 8) (hr : 0 < r ∧ r < 4) {x : Int32} {j : Nat} (hx : x = nI j) (hj : j < 12) (d : decode cc pc = .ok (.iaload, 1)) (k : Wg p l e R s m args below meth c Q D cs ad A nL cells slots (pc + 1) lv (.int (st (4 + 4 * q + r) j) :: stk) st mt ov) : Wg p l e R s m args below meth c Q D cs ad A nL cells slots pc lv (.int x :: .ref (ad (4 + 4 * q + r)) :: stk) st mt ov := by
  intro H locs ls hP hS hl
  subst hx
  refine va_iald C.1 C.2.1 C.2.2.2.2.2.2.1 hP (4 + 4 * q + r) 0 ((iw_get (by omega)).trans (congrArg (fun z => some (ad (4 + 4 * q + r), z)) (show gE ad cs st mt ov (4 + 4 * q + r) = .inl (cs 0, 12, .inl (st (4 + 4 * q + r))) by rw [gE_t (by omega), tE_row (by omega) (by omega) (by omega)]))) rfl (vp_in_nI hj (by omega)) d ?_
  rw [nI_clamp (by omega)]
  exact k H locs ls hP hS hl
theorem is_DV (C : Cx p s m args meth c D cs ad A cc nL own) {q r : Nat} (hq : q < 8) (hr : 0 < r ∧ r < 4) {x v : Int32} {j : Nat} (hx : x = nI j) (hj : j < 12) (d : decode cc pc = .ok (.iastore, 1)) (k : Wg p l e R s m args below meth c Q D cs ad A nL cells slots (pc + 1) lv stk (up2 st (4 + 4 * q + r) j v) mt ov) : Wg p l e R s m args below meth c Q D cs ad A nL cells slots pc lv (.int v :: .int x :: .ref (ad (4 + 4 * q + r)) :: stk) st mt ov := by
  intro H locs ls hP hS hl
  subst hx
  refine va_iast C.1 C.2.1 C.2.2.2.2.2.2.1 hP (iw_D C.2.2.2.2.2.2.2.1) hS (4 + 4 * q + r) 0 ((iw_get (by omega)).trans (congrArg (fun z => some (ad (4 + 4 * q + r), z)) (show gE ad cs st mt ov (4 + 4 * q + r) = .inl (cs 0, 12, .inl (st (4 + 4 * q + r))) by rw [gE_t (by omega), tE_row (by omega) (by omega) (by omega)]))) rfl (vp_in_nI hj (by omega)) d (fun H1 locs1 hP1 hD1 hS1 => ?_)
  have e1 := gE_upT (ad := ad) (cs := cs) (st := st) (mt := mt) (ov := ov) (i := (4 + 4 * q + r)) (k := j) (v := v) (e := .inl (cs 0, 12, .inl (upd (st (4 + 4 * q + r)) j v))) (by omega) (by rw [tE_row (by omega) (by omega) (by omega), up2_in])
  rw [nI_clamp (by omega), iw_set, e1] at hP1
  exact k H1 locs1 ls hP1 hS1 hl
theorem aa_DR (C : Cx p s m args meth c D cs ad A cc nL own) {x : Int32} {j : Nat} (hx : x = nI j) (hj : j < 8) (d : decode cc pc = .ok (.aaload, 1)) (k : Wg p l e R s m args below meth c Q D cs ad A nL cells slots (pc + 1) lv (.ref (ad (4 + 4 * j)) :: stk) st mt ov) : Wg p l e R s m args below meth c Q D cs ad A nL cells slots pc lv (.int x :: .ref (ad 3) :: stk) st mt ov := by
  intro H locs ls hP hS hl
  subst hx
  refine va_aldq C.1 C.2.1 C.2.2.2.2.2.2.1 hP 3 3 ((iw_get (by omega)).trans (congrArg (fun z => some (ad 3, z)) gE_DR)) rfl (vp_in_nI hj (by omega)) d ?_
  rw [nI_clamp (by omega), show rfs ad 4 8 4 j = some (ad (4 + 4 * j)) by simp [rfs, hj]]
  exact k H locs ls hP hS hl
theorem aa_GR (C : Cx p s m args meth c D cs ad A cc nL own) {x : Int32} {j : Nat} (hx : x = nI j) (hj : j < 4) (d : decode cc pc = .ok (.aaload, 1)) (k : Wg p l e R s m args below meth c Q D cs ad A nL cells slots (pc + 1) lv (.ref (ad (37 + j)) :: stk) st mt ov) : Wg p l e R s m args below meth c Q D cs ad A nL cells slots pc lv (.int x :: .ref (ad 36) :: stk) st mt ov := by
  intro H locs ls hP hS hl
  subst hx
  refine va_aldq C.1 C.2.1 C.2.2.2.2.2.2.1 hP 36 4 ((iw_get (by omega)).trans (congrArg (fun z => some (ad 36, z)) gE_GR)) rfl (vp_in_nI hj (by omega)) d ?_
  rw [nI_clamp (by omega), show rfs ad 37 4 1 j = some (ad (37 + j)) by simp [rfs, hj]]
  exact k H locs ls hP hS hl
theorem aa_JR (C : Cx p s m args meth c D cs ad A cc nL own) {x : Int32} {j : Nat} (hx : x = nI j) (hj : j < 8) (d : decode cc pc = .ok (.aaload, 1)) (k : Wg p l e R s m args below meth c Q D cs ad A nL cells slots (pc + 1) lv (.ref (ad (42 + j)) :: stk) st mt ov) : Wg p l e R s m args below meth c Q D cs ad A nL cells slots pc lv (.int x :: .ref (ad 41) :: stk) st mt ov := by
  intro H locs ls hP hS hl
  subst hx
  refine va_aldq C.1 C.2.1 C.2.2.2.2.2.2.1 hP 41 5 ((iw_get (by omega)).trans (congrArg (fun z => some (ad 41, z)) gE_JR)) rfl (vp_in_nI hj (by omega)) d ?_
  rw [nI_clamp (by omega), show rfs ad 42 8 1 j = some (ad (42 + j)) by simp [rfs, hj]]
  exact k H locs ls hP hS hl
theorem e_MA {i : Nat} (hi : 0 < i ∧ i < 21) (h6 : i ≠ 6) : gE ad cs st mt ov (50 + i) = .inl (cs 0, mlen i, .inl (mt i)) := by
  rw [gE_m (by omega)]
  unfold mE
  rw [if_neg (by omega), if_neg h6]
theorem e_MZ : gE ad cs st mt ov 56 = .inl (cs 1, 8, .inl (mt 6)) := rfl
theorem mlen_lt (i : Nat) : mlen i < 2 ^ 31 := by unfold mlen; repeat (first | split | decide)
theorem ia_MA (C : Cx p s m args meth c D cs ad A cc nL own) {pl : Nat} (i : Nat) (hi : 0 < i ∧ i < 21) (h6 : i ≠ 6) (hpl : pl = 50 + i) {x : Int32} {j : Nat} (hx : x = nI j) (hj : j < mlen i) (d : decode cc pc = .ok (.iaload, 1)) (k : Wg p l e R s m args below meth c Q D cs ad A nL cells slots (pc + 1) lv (.int (mt i j) :: stk) st mt ov) : Wg p l e R s m args below meth c Q D cs ad A nL cells slots pc lv (.int x :: .ref (ad pl) :: stk) st mt ov := by
  intro H locs ls hP hS hl
  subst hx
  subst hpl
  refine va_iald C.1 C.2.1 C.2.2.2.2.2.2.1 hP (50 + i) 0 ((iw_get (by omega)).trans (congrArg (fun z => some (ad (50 + i), z)) (e_MA hi h6))) rfl (vp_in_nI hj (by have := mlen_lt i; omega)) d ?_
  rw [nI_clamp (by have := mlen_lt i; omega)]
  exact k H locs ls hP hS hl
theorem is_MA (C : Cx p s m args meth c D cs ad A cc nL own) {pl : Nat} (i : Nat) (hi : 0 < i ∧ i < 21) (h6 : i ≠ 6) (hpl : pl = 50 + i) {x v : Int32} {j : Nat} (hx : x = nI j) (hj : j < mlen i) (d : decode cc pc = .ok (.iastore, 1)) (k : Wg p l e R s m args below meth c Q D cs ad A nL cells slots (pc + 1) lv stk st (up2 mt i j v) ov) : Wg p l e R s m args below meth c Q D cs ad A nL cells slots pc lv (.int v :: .int x :: .ref (ad pl) :: stk) st mt ov := by
  intro H locs ls hP hS hl
  subst hx
  subst hpl
  refine va_iast C.1 C.2.1 C.2.2.2.2.2.2.1 hP (iw_D C.2.2.2.2.2.2.2.1) hS (50 + i) 0 ((iw_get (by omega)).trans (congrArg (fun z => some (ad (50 + i), z)) (e_MA hi h6))) rfl (vp_in_nI hj (by have := mlen_lt i; omega)) d (fun H1 locs1 hP1 hD1 hS1 => ?_)
  have e1 := gE_upM (ad := ad) (cs := cs) (st := st) (mt := mt) (ov := ov) (i := i) (k := j) (v := v) (e := .inl (cs 0, mlen i, .inl (upd (mt i) j v))) (by omega) (by unfold mE; rw [if_neg (by omega), if_neg h6, up2_in])
  rw [nI_clamp (by have := mlen_lt i; omega), iw_set, e1] at hP1
  exact k H1 locs1 ls hP1 hS1 hl
theorem ia_MZ (C : Cx p s m args meth c D cs ad A cc nL own) {pl : Nat} {x : Int32} {j : Nat} (hx : x = nI j) (hj : j < 8) (d : decode cc pc = .ok (.baload, 1)) (k : Wg p l e R s m args below meth c Q D cs ad A nL cells slots (pc + 1) lv (.int (mt 6 j) :: stk) st mt ov) : Wg p l e R s m args below meth c Q D cs ad A nL cells slots pc lv (.int x :: .ref (ad 56) :: stk) st mt ov := by
  intro H locs ls hP hS hl
  subst hx
  refine va_zald C.1 C.2.1 C.2.2.2.2.2.2.1 hP 56 1 ((iw_get (by omega)).trans (congrArg (fun z => some (ad 56, z)) e_MZ)) rfl (vp_in_nI hj (by omega)) d ?_
  rw [nI_clamp (by omega)]
  exact k H locs ls hP hS hl
theorem is_MZ (C : Cx p s m args meth c D cs ad A cc nL own) {pl : Nat} {x v : Int32} {j : Nat} (hz : v = 0 ∨ v = 1) (hx : x = nI j) (hj : j < 8) (d : decode cc pc = .ok (.bastore, 1)) (k : Wg p l e R s m args below meth c Q D cs ad A nL cells slots (pc + 1) lv stk st (up2 mt 6 j v) ov) : Wg p l e R s m args below meth c Q D cs ad A nL cells slots pc lv (.int v :: .int x :: .ref (ad 56) :: stk) st mt ov := by
  intro H locs ls hP hS hl
  subst hx
  refine va_zast C.1 C.2.1 C.2.2.2.2.2.2.1 hP (iw_D C.2.2.2.2.2.2.2.1) hS 56 1 ((iw_get (by omega)).trans (congrArg (fun z => some (ad 56, z)) e_MZ)) rfl (vp_in_nI hj (by omega)) d (fun H1 locs1 hP1 hD1 hS1 => ?_)
  rw [show vp_nar .boolean v = v by rcases hz with rfl | rfl <;> rfl] at hP1
  have e1 := gE_upM (ad := ad) (cs := cs) (st := st) (mt := mt) (ov := ov) (i := 6) (k := j) (v := v) (e := .inl (cs 1, 8, .inl (upd (mt 6) j v))) (by omega) (by rw [show mE ad cs (up2 mt 6 j v) 6 = .inl (cs 1, 8, .inl (up2 mt 6 j v 6)) from rfl, up2_in])
  rw [nI_clamp (by omega), iw_set, e1] at hP1
  exact k H1 locs1 ls hP1 hS1 hl
theorem la_O (C : Cx p s m args meth c D cs ad A cc nL own) {x : Int32} (hx : x = 0) (d : decode cc pc = .ok (.laload, 1)) (k : Wg p l e R s m args below meth c Q D cs ad A nL cells slots (pc + 1) lv (.long (ov 0) :: stk) st mt ov) : Wg p l e R s m args below meth c Q D cs ad A nL cells slots pc lv (.int x :: .ref (ad 71) :: stk) st mt ov := by
  intro H locs ls hP hS hl
  subst hx
  refine va_lald C.1 C.2.1 C.2.2.2.2.2.2.1 hP 71 2 ((iw_get (by omega)).trans (congrArg (fun z => some (ad 71, z)) gE_O)) rfl (vp_in_nI (n := 0) (by omega) (by omega)) d ?_
  exact k H locs ls hP hS hl
theorem ls_O (C : Cx p s m args meth c D cs ad A cc nL own) {x : Int32} {v : Int64} (hx : x = 0) (d : decode cc pc = .ok (.lastore, 1)) (k : Wg p l e R s m args below meth c Q D cs ad A nL cells slots (pc + 1) lv stk st mt (vp_updL ov 0 v)) : Wg p l e R s m args below meth c Q D cs ad A nL cells slots pc lv (.long v :: .int x :: .ref (ad 71) :: stk) st mt ov := by
  intro H locs ls hP hS hl
  subst hx
  refine va_last C.1 C.2.1 C.2.2.2.2.2.2.1 hP (iw_D C.2.2.2.2.2.2.2.1) hS 71 2 ((iw_get (by omega)).trans (congrArg (fun z => some (ad 71, z)) gE_O)) rfl (vp_in_nI (n := 0) (by omega) (by omega)) d (fun H1 locs1 hP1 hD1 hS1 => ?_)
  rw [iw_set, gE_upO] at hP1
  exact k H1 locs1 ls hP1 hS1 hl
end FIELDS
end
section
/-! ===== contracts over the whole world ===== -/
def gPre (D : va_G) (cs : Nat → ClassId) (ad : Nat → Nat) (st mt : Nat → Nat → Int32) (ov : Nat → Int64) (sz : Nat) (U : State) : Prop :=
  U.heap.size = sz ∧ va_P D gcl (iw ad 72 (gE ad cs st mt ov)) U.heap ∧ va_K D gcl (gty cs) U ∧ ax_E (gA ad 72 sz) U U.heap ∧ ij ad 72 (fun _ => True)
theorem gPre_blind {as : List Value} {D : va_G} {cs : Nat → ClassId} {ad : Nat → Nat} {st mt : Nat → Nat → Int32} {ov : Nat → Int64} {sz : Nat} : FrameBlind (va_Pc as (gPre D cs ad st mt ov sz)) := by
  intro a U g mk h
  obtain ⟨h1, h2, h3, h4, h5, h6⟩ := h
  exact ⟨h1, h2, h3, va_K.moved (u := U) (U := U.calling g mk a) (Vm.Alike.refl U.vm) h4, ax_E.vm (s := U) (U := U.calling g mk a) rfl h5, h6⟩
def hP (D : va_G) (cs : Nat → ClassId) (ad : Nat → Nat) (st mt : Nat → Nat → Int32) (ov : Nat → Int64) (t : State) : Prop := va_P D gcl (iw ad 72 (gE ad cs st mt ov)) t.heap
/-- a method that returns -/
def gM (l : Launch) (y : MethodName) (cc : ByteArray) (maxL : Nat) (ret : Option FieldType) (rm : Room) (mc ms : Nat) (as : List Value) (D : va_G) (cs : Nat → ClassId) (ad : Nat → Nat) (st mt : Nat → Nat → Int32) (ov : Nat → Int64) (Qf : Nat → Array Value → State → Outcome → State → Prop) : Prop :=
  ∀ sz : Nat, Met l y (Cond.code y cc maxL ret :: ag_all) rm (va_Pc as (gPre D cs ad st mt ov sz)) (Qf sz) mc ms (gA ad 72 sz)
/-- a method that returns, with a table of its own -/
def gW (l : Launch) (y : MethodName) (cc : ByteArray) (maxL : Nat) (ret : Option FieldType) (hh : List (Nat × Nat × Nat × Nat)) (rm : Room) (mc ms : Nat) (as : List Value) (D : va_G) (cs : Nat → ClassId) (ad : Nat → Nat) (st mt : Nat → Nat → Int32) (ov : Nat → Int64) (Qf : Nat → Array Value → State → Outcome → State → Prop) : Prop :=
  ∀ sz : Nat, Met l y (Cond.codeWith y cc maxL ret hh :: ag_all) rm (va_Pc as (gPre D cs ad st mt ov sz)) (Qf sz) mc ms (gA ad 72 sz)
def XT (D : va_G) (cs : Nat → ClassId) (ad : Nat → Nat) (st mt : Nat → Nat → Int32) (ov : Nat → Int64) (okx : String → Prop) (sz : Nat) : String → State → State → Prop :=
  vx_X okx (fun E E2 t => E = E2 ∧ hP D cs ad st mt ov t) (gA ad 72 sz)
/-- a method that returns or throws; where it throws, the memories are as they were -/
def gX (l : Launch) (y : MethodName) (cc : ByteArray) (maxL : Nat) (ret : Option FieldType) (rm : Room) (mc ms : Nat) (as : List Value) (D : va_G) (cs : Nat → ClassId) (ad : Nat → Nat) (st mt : Nat → Nat → Int32) (ov : Nat → Int64) (Qf : Nat → Array Value → State → Outcome → State → Prop) (okx : String → Prop) : Prop :=
  ∀ sz : Nat, vx_Met l y (Cond.code y cc maxL ret :: ag_all) rm (va_Pc as (gPre D cs ad st mt ov sz)) (Qf sz) (XT D cs ad st mt ov okx sz) mc ms (gA ad 72 sz)

def QTi (D : va_G) (cs : Nat → ClassId) (ad : Nat → Nat) (mt : Nat → Nat → Int32) (ov : Nat → Int64) (post : Int32 → (Nat → Nat → Int32) → Prop) (sz : Nat) := va_Qi post (fun u t => hP D cs ad u mt ov t) (gA ad 72 sz)
def QTv (D : va_G) (cs : Nat → ClassId) (ad : Nat → Nat) (mt : Nat → Nat → Int32) (ov : Nat → Int64) (post : (Nat → Nat → Int32) → Prop) (sz : Nat) := va_Qv post (fun u t => hP D cs ad u mt ov t) (gA ad 72 sz)
def QTq (D : va_G) (cs : Nat → ClassId) (ad : Nat → Nat) (st mt : Nat → Nat → Int32) (ov : Nat → Int64) (post : Nat → Prop) (sz : Nat) := va_Qq (fun (r : Option Nat) (i : Nat) => r = some (ad i) ∧ post i) (fun _ t => hP D cs ad st mt ov t) (gA ad 72 sz)
def QMi (D : va_G) (cs : Nat → ClassId) (ad : Nat → Nat) (st : Nat → Nat → Int32) (ov : Nat → Int64) (post : Int32 → (Nat → Nat → Int32) → Prop) (sz : Nat) := va_Qi post (fun u t => hP D cs ad st u ov t) (gA ad 72 sz)
def QMv (D : va_G) (cs : Nat → ClassId) (ad : Nat → Nat) (st : Nat → Nat → Int32) (ov : Nat → Int64) (post : (Nat → Nat → Int32) → Prop) (sz : Nat) := va_Qv post (fun u t => hP D cs ad st u ov t) (gA ad 72 sz)
def QLi (D : va_G) (cs : Nat → ClassId) (ad : Nat → Nat) (mt : Nat → Nat → Int32) (post : Int32 → (Nat → Nat → Int32) × (Nat → Int64) → Prop) (sz : Nat) := va_Qi post (fun u t => hP D cs ad u.1 mt u.2 t) (gA ad 72 sz)
theorem gM_of {l : Launch} {y : MethodName} {cc : ByteArray} {maxL : Nat} {ret : Option FieldType} {rm : Room} {mc ms : Nat} {as : List Value} {D : va_G} {cs : Nat → ClassId} {ad : Nat → Nat} {st mt : Nat → Nat → Int32} {ov : Nat → Int64} {Qf : Nat → Array Value → State → Outcome → State → Prop} {own : String} (hy : plainName y.cls = true) (hown : y.cls = own) (hlen : (lg_sl as).length ≤ maxL) (body : ∀ (p : Program) (e : Env) (s : State) (m : MethodId) (args : Array Value) (below : List Frame) (meth : Method) (c : Code), Cx p s m args meth c D cs ad (gA ad 72 s.heap.size) cc maxL own → meth.sig.returnType = ret → Wg p l e rm s m args below meth c (MQ below (Qf s.heap.size) args s mc ms (gA ad 72 s.heap.size)) D cs ad (gA ad 72 s.heap.size) maxL 0 0 0 (lv_args 0 as) [] st mt ov) : gM l y cc maxL ret rm mc ms as D cs ad st mt ov Qf := by
  intro sz
  refine Met.ofW (cc := cc) (maxL := maxL) (ret := ret) hy rfl ?_
  intro p e s m args below meth c s₁ B hml hv
  obtain ⟨rfl, rfl, hP, hK, hE, hJ⟩ := hv
  have hts := atoms_spec (ws := Cond.code y cc maxL ret :: ag_all) B.pre
  rw [lg_entry_eq]
  exact body p e s m _ below meth c ⟨B.exec, B.bytes, hml, by rw [← hown]; exact findClass_of_methodNamed B.named, fun w h => hts w (List.mem_cons_of_mem _ h), hE, hK, gA_ij hJ, fun q h => Or.inr h, B.notSynchronized⟩ B.returns  s.heap [] _ hP va_S.rf (lv_entry as hlen)
theorem gX_of {l : Launch} {y : MethodName} {cc : ByteArray} {maxL : Nat} {ret : Option FieldType} {rm : Room} {mc ms : Nat} {as : List Value} {D : va_G} {cs : Nat → ClassId} {ad : Nat → Nat} {st mt : Nat → Nat → Int32} {ov : Nat → Int64} {Qf : Nat → Array Value → State → Outcome → State → Prop} {own : String} {okx : String → Prop} (hy : plainName y.cls = true) (hown : y.cls = own) (hlen : (lg_sl as).length ≤ maxL) (body : ∀ (p : Program) (e : Env) (s : State) (m : MethodId) (args : Array Value) (below : List Frame) (meth : Method) (c : Code), Cx p s m args meth c D cs ad (gA ad 72 s.heap.size) cc maxL own → meth.sig.returnType = ret → (∀ z ∈ c.exceptionTable.toList, False) → Wg p l e rm s m args below meth c (vx_MQ below (Qf s.heap.size) (XT D cs ad st mt ov okx s.heap.size) args s mc ms (gA ad 72 s.heap.size)) D cs ad (gA ad 72 s.heap.size) maxL 0 0 0 (lv_args 0 as) [] st mt ov) : gX l y cc maxL ret rm mc ms as D cs ad st mt ov Qf okx := by
  intro sz
  refine vx_ofW (cc := cc) (maxL := maxL) (ret := ret) hy rfl ?_
  intro p e s m args below meth c s₁ B hml ht hv
  obtain ⟨rfl, rfl, hP, hK, hE, hJ⟩ := hv
  have hts := atoms_spec (ws := Cond.code y cc maxL ret :: ag_all) B.pre
  rw [lg_entry_eq]
  exact body p e s m _ below meth c ⟨B.exec, B.bytes, hml, by rw [← hown]; exact findClass_of_methodNamed B.named, fun w h => hts w (List.mem_cons_of_mem _ h), hE, hK, gA_ij hJ, fun q h => Or.inr h, B.notSynchronized⟩ B.returns ht s.heap [] _ hP va_S.rf (lv_entry as hlen)
theorem gW_of {l : Launch} {y : MethodName} {cc : ByteArray} {maxL : Nat} {ret : Option FieldType} {rm : Room} {mc ms : Nat} {as : List Value} {D : va_G} {cs : Nat → ClassId} {ad : Nat → Nat} {st mt : Nat → Nat → Int32} {ov : Nat → Int64} {Qf : Nat → Array Value → State → Outcome → State → Prop} {own : String} {hh : List (Nat × Nat × Nat × Nat)} (hy : plainName y.cls = true) (hown : y.cls = own) (hlen : (lg_sl as).length ≤ maxL) (body : ∀ (p : Program) (e : Env) (s : State) (m : MethodId) (args : Array Value) (below : List Frame) (meth : Method) (c : Code), Cx p s m args meth c D cs ad (gA ad 72 s.heap.size) cc maxL own → meth.sig.returnType = ret → c.exceptionTable.toList = tableOf hh → Wg p l e rm s m args below meth c (MQ below (Qf s.heap.size) args s mc ms (gA ad 72 s.heap.size)) D cs ad (gA ad 72 s.heap.size) maxL 0 0 0 (lv_args 0 as) [] st mt ov) : gW l y cc maxL ret hh rm mc ms as D cs ad st mt ov Qf := by
  intro sz
  refine va_MetW (cc := cc) (maxL := maxL) (ret := ret) (hh := hh) hy rfl ?_
  intro p e s m args below meth c s₁ B hml hv
  obtain ⟨rfl, rfl, hP, hK, hE, hJ⟩ := hv
  have hts := atoms_spec (ws := Cond.codeWith y cc maxL ret hh :: ag_all) B.pre
  rw [lg_entry_eq]
  exact body p e s m _ below meth c ⟨B.exec, B.bytes, hml, by rw [← hown]; exact findClass_of_methodNamed B.named, fun w h => hts w (List.mem_cons_of_mem _ h), hE, hK, gA_ij hJ, fun q h => Or.inr h, B.notSynchronized⟩ B.returns (vx_table (x := y) B (hts _ List.mem_cons_self)) s.heap [] _ hP va_S.rf (lv_entry as hlen)
section CALLS
variable {p : Program} {l : Launch} {e : Env} {R : Room} {s : State} {m : MethodId} {args : Array Value} {below : List Frame} {meth : Method} {c : Code} {Q : State → Prop} {D : va_G} {cs : Nat → ClassId} {ad : Nat → Nat} {A : Nat → Prop} {nL : Nat} {cc : ByteArray} {own : String} {cells slots : Nat} {pc : Nat} {lv : List (Nat × Value)} {stk : List Value} {st mt : Nat → Nat → Int32} {ov : Nat → Int64}
variable {mc ms : Nat} {rest : List Value}
def Rn (p : Program) (l : Launch) (e : Env) (R : Room) (s : State) (m : MethodId) (args : Array Value) (below : List Frame) (meth : Method) (c : Code) (D : va_G) (cs : Nat → ClassId) (ad : Nat → Nat) (A : Nat → Prop) (cells slots mc ms pc : Nat) (stk rest : List Value) (st mt : Nat → Nat → Int32) (ov : Nat → Int64) (Qa : Nat → State → Outcome → State → Prop) : Prop :=
  ∀ (H : Heap) (locs : List Loc) (ls : Array Slot), va_P D gcl (iw ad 72 (gE ad cs st mt ov)) H → va_S A s.heap H locs → ls.size = c.maxLocals → va_Run p l e R s m args below meth c H locs cells slots mc ms (F0 m pc ls stk) rest (Qa H.size) (gA ad 72 H.size)
def RnX (p : Program) (l : Launch) (e : Env) (R : Room) (s : State) (m : MethodId) (args : Array Value) (below : List Frame) (meth : Method) (c : Code) (D : va_G) (cs : Nat → ClassId) (ad : Nat → Nat) (A : Nat → Prop) (cells slots mc ms pc : Nat) (stk rest : List Value) (st mt : Nat → Nat → Int32) (ov : Nat → Int64) (Qa : Nat → State → Outcome → State → Prop) (okx : String → Prop) : Prop :=
  ∀ (H : Heap) (locs : List Loc) (ls : Array Slot), va_P D gcl (iw ad 72 (gE ad cs st mt ov)) H → va_S A s.heap H locs → ls.size = c.maxLocals → vx_Run p l e R s m args below meth c H locs cells slots mc ms (F0 m pc ls stk) rest (Qa H.size) (XT D cs ad st mt ov okx H.size) (gA ad 72 H.size)
theorem cx_pre (C : Cx p s m args meth c D cs ad A cc nL own) {H : Heap} {locs : List Loc} {as : List Value} (hP : va_P D gcl (iw ad 72 (gE ad cs st mt ov)) H) (hS : va_S A s.heap H locs) : ∀ U : State, U.heap = H → s.WarmedH U.vm → va_Pc as (gPre D cs ad st mt ov H.size) as.toArray U := by
  intro U hU hW
  have hij : ij ad 72 A := C.2.2.2.2.2.2.2.1
  have hA : ∀ q, s.heap.size ≤ q → A q := C.2.2.2.2.2.2.2.2.1
  exact ⟨rfl, by rw [hU], by rw [hU]; exact hP, va_K.moved hW.alike C.2.2.2.2.2.2.1, by rw [hU]; exact ax_E.warm hW C.2.2.2.2.2.1 hS.2.1 (gA_in hij (fun q h => hA q (Nat.le_trans hS.1 h))), hij.1, fun _ _ => trivial⟩
theorem cx_A (C : Cx p s m args meth c D cs ad A cc nL own) {H : Heap} {locs : List Loc} (hS : va_S A s.heap H locs) : ∀ q, gA ad 72 H.size q → A q := gA_in C.2.2.2.2.2.2.2.1 (fun q h => C.2.2.2.2.2.2.2.2.1 q (Nat.le_trans hS.1 h))
theorem gi_all {y : MethodName} {cw : Cond} (hc : cw ∈ ag_all) : GoodIn ag_all (cw :: ag_all) := fun w h => by
  rcases List.mem_cons.mp h with rfl | h
  · exact ⟨hc, good_of_word (ag_good hc)⟩
  · exact ⟨h, good_of_word (ag_good h)⟩
theorem w_runV (C : Cx p s m args meth c D cs ad A cc nL own) {y : MethodName} {bytes : ByteArray} {maxL n index : Nat} {ret : Option FieldType} {rm : Room} {Qf : Nat → Array Value → State → Outcome → State → Prop} {As : List Value} {i ci : Nat} {fs : List Value} {q0 : vw_C} (hM : gM l y bytes maxL ret rm mc ms (.ref (ad i) :: As) D cs ad st mt ov Qf) (hi : i < 72) (he : gE ad cs st mt ov i = .inr (ci, fs)) (hc : gcl[ci]? = some q0) (hcy : y.cls = q0.1) (w1 : Cond.methodLink own index y ∈ ag_all) (w2 : Cond.instanceMethod y ∈ ag_all) (w3 : Cond.selects y.cls y y ∈ ag_all) (w4 : Cond.initialized y.cls ∈ ag_all) (w5 : Cond.code y bytes maxL ret ∈ ag_all) (hrm : rm.cells = mc ∧ rm.slots = ms) (hd : y.cls ≠ "java/lang/invoke/MethodHandle" ∧ y.cls ≠ "java/lang/invoke/VarHandle" ∧ (parseMethodDescriptor y.desc).map (fun d => d.parameters.length) = some n) (hn : As.length = n) (hR : rm.frames + 1 ≤ R.frames ∧ 8 + (maxL + 11) + rm.locals ≤ R.locals) (hst : stk = As.reverse ++ .ref (ad i) :: rest) (hW : (rest.map fun v => v.category).sum ≤ 8) (d : decode cc pc = .ok (.invokevirtual index, 3)) (hf : cells + mc ≤ R.cells ∧ slots + ms ≤ R.slots) : Rn p l e R s m args below meth c D cs ad A cells slots mc ms pc stk rest st mt ov (fun sz => Qf sz (Value.ref (ad i) :: As).toArray) := by
  intro H locs ls hP hS hls
  have hts := C.2.2.2.2.1
  exact va_runV (As := As) (rest := rest) ⟨C.1, C.2.1, C.2.2.1, C.2.2.2.1, hts⟩ (hM H.size) (by rw [hcy] at w3; exact ⟨callB_of (Ts := ag_all) (ws := (Cond.code y bytes maxL ret :: ag_all)) n hts (gi_all (y := y) w5) rfl hrm.1 hrm.2 (hts _ w4) (hts _ w1) hd hR, hts _ w2, hts _ w3⟩) ⟨gPre_blind, va_recv C.2.2.2.2.2.2.1 hP hc ((iw_get hi).trans (congrArg (fun z => some (ad i, z)) he)), cx_pre C hP hS⟩ rfl hn (hls.trans C.2.2.1) hst (lv_room hW) d hf
theorem w_runVN (C : Cx p s m args meth c D cs ad A cc nL own) {y : MethodName} {bytes : ByteArray} {maxL n index : Nat} {ret : Option FieldType} {rm : Room} {Qf : Nat → Array Value → State → Outcome → State → Prop} {As : List Value} {i ci : Nat} {fs : List Value} {q0 : vw_C} {host : String} (hM : gM l y bytes maxL ret rm mc ms (.ref (ad i) :: As) D cs ad st mt ov Qf) (hi : i < 72) (he : gE ad cs st mt ov i = .inr (ci, fs)) (hc : gcl[ci]? = some q0) (hcy : y.cls = q0.1) (w1 : Cond.methodLinkNest own index y host ∈ ax_all) (w2 : Cond.instanceMethod y ∈ ag_all) (w3 : Cond.selects y.cls y y ∈ ag_all) (w4 : Cond.initialized y.cls ∈ ag_all) (w5 : Cond.code y bytes maxL ret ∈ ag_all) (hrm : rm.cells = mc ∧ rm.slots = ms) (hd : y.cls ≠ "java/lang/invoke/MethodHandle" ∧ y.cls ≠ "java/lang/invoke/VarHandle" ∧ (parseMethodDescriptor y.desc).map (fun d => d.parameters.length) = some n) (hn : As.length = n) (hR : rm.frames + 1 ≤ R.frames ∧ 8 + (maxL + 11) + rm.locals ≤ R.locals) (hst : stk = As.reverse ++ .ref (ad i) :: rest) (hW : (rest.map fun v => v.category).sum ≤ 8) (d : decode cc pc = .ok (.invokevirtual index, 3)) (hf : cells + mc ≤ R.cells ∧ slots + ms ≤ R.slots) : Rn p l e R s m args below meth c D cs ad A cells slots mc ms pc stk rest st mt ov (fun sz => Qf sz (Value.ref (ad i) :: As).toArray) := by
  intro H locs ls hP hS hls
  have hts := C.2.2.2.2.1
  exact va_runVN (As := As) (rest := rest) ⟨C.1, C.2.1, C.2.2.1, C.2.2.2.1, hts⟩ (hM H.size) (by rw [hcy] at w3; exact ⟨va_cnB (Ts := ag_all) (ws := (Cond.code y bytes maxL ret :: ag_all)) n hts (gi_all (y := y) w5) rfl hrm.1 hrm.2 (C.2.2.2.2.2.1.1 _ w1) (hts _ w4) hd hR, hts _ w2, hts _ w3⟩) ⟨gPre_blind, va_recv C.2.2.2.2.2.2.1 hP hc ((iw_get hi).trans (congrArg (fun z => some (ad i, z)) he)), cx_pre C hP hS⟩ rfl hn (hls.trans C.2.2.1) hst (lv_room hW) d hf
theorem w_runS (C : Cx p s m args meth c D cs ad A cc nL own) {y : MethodName} {bytes : ByteArray} {maxL n index : Nat} {ret : Option FieldType} {rm : Room} {Qf : Nat → Array Value → State → Outcome → State → Prop} {As : List Value} (hM : gM l y bytes maxL ret rm mc ms As D cs ad st mt ov Qf) (w1 : Cond.methodLink own index y ∈ ag_all) (w2 : Cond.static y ∈ ag_all) (w4 : Cond.initialized y.cls ∈ ag_all) (w5 : Cond.code y bytes maxL ret ∈ ag_all) (hrm : rm.cells = mc ∧ rm.slots = ms) (hd : y.cls ≠ "java/lang/invoke/MethodHandle" ∧ y.cls ≠ "java/lang/invoke/VarHandle" ∧ (parseMethodDescriptor y.desc).map (fun d => d.parameters.length) = some n) (hn : As.length = n) (hR : rm.frames + 1 ≤ R.frames ∧ 8 + (maxL + 11) + rm.locals ≤ R.locals) (hst : stk = As.reverse ++ rest) (hW : (rest.map fun v => v.category).sum ≤ 8) (d : decode cc pc = .ok (.invokestatic index, 3)) (hf : cells + mc ≤ R.cells ∧ slots + ms ≤ R.slots) : Rn p l e R s m args below meth c D cs ad A cells slots mc ms pc stk rest st mt ov (fun sz => Qf sz As.toArray) := by
  intro H locs ls hP hS hls
  have hts := C.2.2.2.2.1
  exact va_runS (As := As) (rest := rest) ⟨C.1, C.2.1, C.2.2.1, C.2.2.2.1, hts⟩ (hM H.size) ⟨callB_of (Ts := ag_all) (ws := (Cond.code y bytes maxL ret :: ag_all)) n hts (gi_all (y := y) w5) rfl hrm.1 hrm.2 (hts _ w4) (hts _ w1) hd hR, hts _ w2⟩ ⟨gPre_blind, cx_pre C hP hS⟩ rfl hn (hls.trans C.2.2.1) hst (lv_room hW) d hf
theorem w_runSW (C : Cx p s m args meth c D cs ad A cc nL own) {y : MethodName} {bytes : ByteArray} {maxL n index : Nat} {ret : Option FieldType} {rm : Room} {Qf : Nat → Array Value → State → Outcome → State → Prop} {As : List Value} {hh : List (Nat × Nat × Nat × Nat)} (hM : gW l y bytes maxL ret hh rm mc ms As D cs ad st mt ov Qf) (w1 : Cond.methodLink own index y ∈ ag_all) (w2 : Cond.static y ∈ ag_all) (w4 : Cond.initialized y.cls ∈ ag_all) (w5 : Cond.codeWith y bytes maxL ret hh ∈ ag_all) (hrm : rm.cells = mc ∧ rm.slots = ms) (hd : y.cls ≠ "java/lang/invoke/MethodHandle" ∧ y.cls ≠ "java/lang/invoke/VarHandle" ∧ (parseMethodDescriptor y.desc).map (fun d => d.parameters.length) = some n) (hn : As.length = n) (hR : rm.frames + 1 ≤ R.frames ∧ 8 + (maxL + 11) + rm.locals ≤ R.locals) (hst : stk = As.reverse ++ rest) (hW : (rest.map fun v => v.category).sum ≤ 8) (d : decode cc pc = .ok (.invokestatic index, 3)) (hf : cells + mc ≤ R.cells ∧ slots + ms ≤ R.slots) : Rn p l e R s m args below meth c D cs ad A cells slots mc ms pc stk rest st mt ov (fun sz => Qf sz As.toArray) := by
  intro H locs ls hP hS hls
  have hts := C.2.2.2.2.1
  exact vx_runSW (As := As) (rest := rest) ⟨C.1, C.2.1, C.2.2.1, C.2.2.2.1, hts⟩ (hM H.size) (vx_cwSW (Ts := ag_all) n hts (fun w h => by
      rcases List.mem_append.mp h with h | h
      · simp only [List.mem_cons, List.mem_nil_iff, or_false] at h
        rcases h with rfl | rfl | rfl
        · exact ⟨w1, good_of_word (ag_good w1)⟩
        · exact ⟨w2, good_of_word (ag_good w2)⟩
        · exact ⟨w4, good_of_word (ag_good w4)⟩
      · exact gi_all (y := y) w5 w h) rfl hrm.1 hrm.2 hd hR) ⟨gPre_blind, cx_pre C hP hS⟩ rfl hn (hls.trans C.2.2.1) hst (lv_room hW) d hf
theorem w_runVX (C : Cx p s m args meth c D cs ad A cc nL own) {y : MethodName} {bytes : ByteArray} {maxL n index : Nat} {ret : Option FieldType} {rm : Room} {Qf : Nat → Array Value → State → Outcome → State → Prop} {okx : String → Prop} {As : List Value} {i ci : Nat} {fs : List Value} {q0 : vw_C} (hM : gX l y bytes maxL ret rm mc ms (.ref (ad i) :: As) D cs ad st mt ov Qf okx) (hi : i < 72) (he : gE ad cs st mt ov i = .inr (ci, fs)) (hc : gcl[ci]? = some q0) (hcy : y.cls = q0.1) (w1 : Cond.methodLink own index y ∈ ag_all) (w2 : Cond.instanceMethod y ∈ ag_all) (w3 : Cond.selects y.cls y y ∈ ag_all) (w4 : Cond.initialized y.cls ∈ ag_all) (w5 : Cond.code y bytes maxL ret ∈ ag_all) (hrm : rm.cells = mc ∧ rm.slots = ms) (hd : y.cls ≠ "java/lang/invoke/MethodHandle" ∧ y.cls ≠ "java/lang/invoke/VarHandle" ∧ (parseMethodDescriptor y.desc).map (fun d => d.parameters.length) = some n) (hn : As.length = n) (hR : rm.frames + 1 ≤ R.frames ∧ 8 + (maxL + 11) + rm.locals ≤ R.locals) (hst : stk = As.reverse ++ .ref (ad i) :: rest) (hW : (rest.map fun v => v.category).sum ≤ 8) (d : decode cc pc = .ok (.invokevirtual index, 3)) (hf : cells + mc ≤ R.cells ∧ slots + ms ≤ R.slots) : RnX p l e R s m args below meth c D cs ad A cells slots mc ms pc stk rest st mt ov (fun sz => Qf sz (Value.ref (ad i) :: As).toArray) okx := by
  intro H locs ls hP hS hls
  have hts := C.2.2.2.2.1
  exact vx_runV (As := As) (rest := rest) ⟨C.1, C.2.1, C.2.2.1, C.2.2.2.1, hts⟩ (hM H.size) (by rw [hcy] at w3; exact ⟨callB_of (Ts := ag_all) (ws := (Cond.code y bytes maxL ret :: ag_all)) n hts (gi_all (y := y) w5) rfl hrm.1 hrm.2 (hts _ w4) (hts _ w1) hd hR, hts _ w2, hts _ w3⟩) ⟨gPre_blind, va_recv C.2.2.2.2.2.2.1 hP hc ((iw_get hi).trans (congrArg (fun z => some (ad i, z)) he)), cx_pre C hP hS⟩ rfl hn (hls.trans C.2.2.1) hst (lv_room hW) d hf
theorem w_runSX (C : Cx p s m args meth c D cs ad A cc nL own) {y : MethodName} {bytes : ByteArray} {maxL n index : Nat} {ret : Option FieldType} {rm : Room} {Qf : Nat → Array Value → State → Outcome → State → Prop} {okx : String → Prop} {As : List Value} (hM : gX l y bytes maxL ret rm mc ms As D cs ad st mt ov Qf okx) (w1 : Cond.methodLink own index y ∈ ag_all) (w2 : Cond.static y ∈ ag_all) (w4 : Cond.initialized y.cls ∈ ag_all) (w5 : Cond.code y bytes maxL ret ∈ ag_all) (hrm : rm.cells = mc ∧ rm.slots = ms) (hd : y.cls ≠ "java/lang/invoke/MethodHandle" ∧ y.cls ≠ "java/lang/invoke/VarHandle" ∧ (parseMethodDescriptor y.desc).map (fun d => d.parameters.length) = some n) (hn : As.length = n) (hR : rm.frames + 1 ≤ R.frames ∧ 8 + (maxL + 11) + rm.locals ≤ R.locals) (hst : stk = As.reverse ++ rest) (hW : (rest.map fun v => v.category).sum ≤ 8) (d : decode cc pc = .ok (.invokestatic index, 3)) (hf : cells + mc ≤ R.cells ∧ slots + ms ≤ R.slots) : RnX p l e R s m args below meth c D cs ad A cells slots mc ms pc stk rest st mt ov (fun sz => Qf sz As.toArray) okx := by
  intro H locs ls hP hS hls
  have hts := C.2.2.2.2.1
  exact vx_runS (As := As) (rest := rest) ⟨C.1, C.2.1, C.2.2.1, C.2.2.2.1, hts⟩ (hM H.size) ⟨callB_of (Ts := ag_all) (ws := (Cond.code y bytes maxL ret :: ag_all)) n hts (gi_all (y := y) w5) rfl hrm.1 hrm.2 (hts _ w4) (hts _ w1) hd hR, hts _ w2⟩ ⟨gPre_blind, cx_pre C hP hS⟩ rfl hn (hls.trans C.2.2.1) hst (lv_room hW) d hf
theorem w_callTi (C : Cx p s m args meth c D cs ad A cc nL own) {post : Int32 → (Nat → Nat → Int32) → Prop} {a : Array Value} (r : Rn p l e R s m args below meth c D cs ad A cells slots mc ms pc stk rest st mt ov (fun sz => QTi D cs ad mt ov post sz a)) (k : ∀ (r : Int32) (u : Nat → Nat → Int32), post r u → Wg p l e R s m args below meth c Q D cs ad A nL (cells + mc) (slots + ms) (pc + 3) lv (.int r :: rest) u mt ov) : Wg p l e R s m args below meth c Q D cs ad A nL cells slots pc lv stk st mt ov :=
  fun H locs ls hP hS hl => va_calli (r H locs ls hP hS (hl.1.trans C.2.2.1.symm)) hS (fun q _ h => cx_A C hS q h) (cx_A C hS) (fun r u t H1 locs1 ht _ hq hB _ _ hS1 => k r u hq H1 locs1 ls (by rw [← ht]; exact hB) hS1 hl)
theorem w_callTv (C : Cx p s m args meth c D cs ad A cc nL own) {post : (Nat → Nat → Int32) → Prop} {a : Array Value} (r : Rn p l e R s m args below meth c D cs ad A cells slots mc ms pc stk rest st mt ov (fun sz => QTv D cs ad mt ov post sz a)) (k : ∀ (u : Nat → Nat → Int32), post u → Wg p l e R s m args below meth c Q D cs ad A nL (cells + mc) (slots + ms) (pc + 3) lv rest u mt ov) : Wg p l e R s m args below meth c Q D cs ad A nL cells slots pc lv stk st mt ov :=
  fun H locs ls hP hS hl => va_callv (r H locs ls hP hS (hl.1.trans C.2.2.1.symm)) hS (fun q _ h => cx_A C hS q h) (cx_A C hS) (fun u t H1 locs1 ht _ hq hB _ _ hS1 => k u hq H1 locs1 ls (by rw [← ht]; exact hB) hS1 hl)
theorem w_callMi (C : Cx p s m args meth c D cs ad A cc nL own) {post : Int32 → (Nat → Nat → Int32) → Prop} {a : Array Value} (r : Rn p l e R s m args below meth c D cs ad A cells slots mc ms pc stk rest st mt ov (fun sz => QMi D cs ad st ov post sz a)) (k : ∀ (r : Int32) (u : Nat → Nat → Int32), post r u → Wg p l e R s m args below meth c Q D cs ad A nL (cells + mc) (slots + ms) (pc + 3) lv (.int r :: rest) st u ov) : Wg p l e R s m args below meth c Q D cs ad A nL cells slots pc lv stk st mt ov :=
  fun H locs ls hP hS hl => va_calli (r H locs ls hP hS (hl.1.trans C.2.2.1.symm)) hS (fun q _ h => cx_A C hS q h) (cx_A C hS) (fun r u t H1 locs1 ht _ hq hB _ _ hS1 => k r u hq H1 locs1 ls (by rw [← ht]; exact hB) hS1 hl)
theorem w_callMv (C : Cx p s m args meth c D cs ad A cc nL own) {post : (Nat → Nat → Int32) → Prop} {a : Array Value} (r : Rn p l e R s m args below meth c D cs ad A cells slots mc ms pc stk rest st mt ov (fun sz => QMv D cs ad st ov post sz a)) (k : ∀ (u : Nat → Nat → Int32), post u → Wg p l e R s m args below meth c Q D cs ad A nL (cells + mc) (slots + ms) (pc + 3) lv rest st u ov) : Wg p l e R s m args below meth c Q D cs ad A nL cells slots pc lv stk st mt ov :=
  fun H locs ls hP hS hl => va_callv (r H locs ls hP hS (hl.1.trans C.2.2.1.symm)) hS (fun q _ h => cx_A C hS q h) (cx_A C hS) (fun u t H1 locs1 ht _ hq hB _ _ hS1 => k u hq H1 locs1 ls (by rw [← ht]; exact hB) hS1 hl)
theorem w_callLi (C : Cx p s m args meth c D cs ad A cc nL own) {post : Int32 → (Nat → Nat → Int32) × (Nat → Int64) → Prop} {a : Array Value} (r : Rn p l e R s m args below meth c D cs ad A cells slots mc ms pc stk rest st mt ov (fun sz => QLi D cs ad mt post sz a)) (k : ∀ (r : Int32) (u : (Nat → Nat → Int32) × (Nat → Int64)), post r u → Wg p l e R s m args below meth c Q D cs ad A nL (cells + mc) (slots + ms) (pc + 3) lv (.int r :: rest) u.1 mt u.2) : Wg p l e R s m args below meth c Q D cs ad A nL cells slots pc lv stk st mt ov :=
  fun H locs ls hP hS hl => va_calli (r H locs ls hP hS (hl.1.trans C.2.2.1.symm)) hS (fun q _ h => cx_A C hS q h) (cx_A C hS) (fun r u t H1 locs1 ht _ hq hB _ _ hS1 => k r u hq H1 locs1 ls (by rw [← ht]; exact hB) hS1 hl)
variable {Qc : Array Value → State → Outcome → State → Prop} {mc2 ms2 : Nat} {okx okx2 : String → Prop}
theorem w_xcallTv (C : Cx p s m args meth c D cs ad (gA ad 72 s.heap.size) cc nL own) {post : (Nat → Nat → Int32) → Prop} {a : Array Value} (r : RnX p l e R s m args below meth c D cs ad (gA ad 72 s.heap.size) cells slots mc ms pc stk rest st mt ov (fun sz => QTv D cs ad mt ov post sz a) okx) (ht9 : ∀ z ∈ c.exceptionTable.toList, False) (hpx : ∀ E, okx E → okx2 E) (hb : cells + mc ≤ mc2 ∧ slots + ms ≤ ms2) (k : ∀ (u : Nat → Nat → Int32), post u → Wg p l e R s m args below meth c (vx_MQ below Qc (XT D cs ad st mt ov okx2 s.heap.size) args s mc2 ms2 (gA ad 72 s.heap.size)) D cs ad (gA ad 72 s.heap.size) nL (cells + mc) (slots + ms) (pc + 3) lv rest u mt ov) : Wg p l e R s m args below meth c (vx_MQ below Qc (XT D cs ad st mt ov okx2 s.heap.size) args s mc2 ms2 (gA ad 72 s.heap.size)) D cs ad (gA ad 72 s.heap.size) nL cells slots pc lv stk st mt ov := by
  intro H locs ls hP hS hl
  refine vx_callv (r H locs ls hP hS (hl.1.trans C.2.2.1.symm)) hS (fun q _ h => cx_A C hS q h) (cx_A C hS) (fun q _ h => cx_A C hS q h) (fun E ce q9 u t H1 locs1 ht hvm hok hB hz hk hS1 hce hcv hcl => ?_) (fun u t H1 locs1 ht _ hq hB _ _ hS1 => k u hq H1 locs1 ls (by rw [← ht]; exact hB) hS1 hl)
  obtain ⟨rfl, hB⟩ := hB
  refine vx_out (fun z hz => (ht9 z hz).elim) C.2.2.2.2.2.2.2.2.2 hce hcv hcl (fun t1 h1 _ => ⟨E, hpx E hok, ⟨rfl, ?_⟩, hS1.F h1⟩) hS1.2.2 hb.1 hb.2
  show va_P D gcl _ t1.heap
  rw [h1, ← ht]
  exact hB
theorem w_xcallTq (C : Cx p s m args meth c D cs ad (gA ad 72 s.heap.size) cc nL own) {post : Nat → Prop} {a : Array Value} (r : RnX p l e R s m args below meth c D cs ad (gA ad 72 s.heap.size) cells slots mc ms pc stk rest st mt ov (fun sz => QTq D cs ad st mt ov post sz a) okx) (ht9 : ∀ z ∈ c.exceptionTable.toList, False) (hpx : ∀ E, okx E → okx2 E) (hb : cells + mc ≤ mc2 ∧ slots + ms ≤ ms2) (k : ∀ (u : Nat), post u → Wg p l e R s m args below meth c (vx_MQ below Qc (XT D cs ad st mt ov okx2 s.heap.size) args s mc2 ms2 (gA ad 72 s.heap.size)) D cs ad (gA ad 72 s.heap.size) nL (cells + mc) (slots + ms) (pc + 3) lv (.ref (ad u) :: rest) st mt ov) : Wg p l e R s m args below meth c (vx_MQ below Qc (XT D cs ad st mt ov okx2 s.heap.size) args s mc2 ms2 (gA ad 72 s.heap.size)) D cs ad (gA ad 72 s.heap.size) nL cells slots pc lv stk st mt ov := by
  intro H locs ls hP hS hl
  refine vx_callq (r H locs ls hP hS (hl.1.trans C.2.2.1.symm)) hS (fun q _ h => cx_A C hS q h) (cx_A C hS) (fun q _ h => cx_A C hS q h) (fun E ce q9 u t H1 locs1 ht hvm hok hB hz hk hS1 hce hcv hcl => ?_) (fun r u t H1 locs1 ht _ hq hB _ _ hS1 => by
    obtain ⟨rfl, hq⟩ := hq
    exact k u hq H1 locs1 ls (by rw [← ht]; exact hB) hS1 hl)
  obtain ⟨rfl, hB⟩ := hB
  refine vx_out (fun z hz => (ht9 z hz).elim) C.2.2.2.2.2.2.2.2.2 hce hcv hcl (fun t1 h1 _ => ⟨E, hpx E hok, ⟨rfl, ?_⟩, hS1.F h1⟩) hS1.2.2 hb.1 hb.2
  show va_P D gcl _ t1.heap
  rw [h1, ← ht]
  exact hB
end CALLS
section RETS
variable {p : Program} {l : Launch} {e : Env} {R : Room} {s : State} {m : MethodId} {args : Array Value} {below : List Frame} {meth : Method} {c : Code} {D : va_G} {cs : Nat → ClassId} {ad : Nat → Nat} {A : Nat → Prop} {nL : Nat} {cc : ByteArray} {own : String} {cells slots : Nat} {pc : Nat} {lv : List (Nat × Value)} {stk : List Value} {st mt : Nat → Nat → Int32} {ov : Nat → Int64}
theorem w_iretT (C : Cx p s m args meth c D cs ad (gA ad 72 s.heap.size) cc nL own) {post : Int32 → (Nat → Nat → Int32) → Prop} {v : Int32} (hr : meth.sig.returnType = some .int) (d : decode cc pc = .ok (.ireturn, 1)) (hq : post v st) : Wg p l e R s m args below meth c (MQ below (QTi D cs ad mt ov post s.heap.size) args s cells slots (gA ad 72 s.heap.size)) D cs ad (gA ad 72 s.heap.size) nL cells slots pc lv ([.int v]) st mt ov :=
  fun H locs ls hP hS hl => W.iret (v := v) C.1 C.2.1 hr (fun t ht _ => ⟨⟨v, st, rfl, hq, by show va_P D gcl _ t.heap; rw [ht]; exact hP⟩, hS.F ht⟩) hS.2.2 d C.2.2.2.2.2.2.2.2.2
theorem w_zretT (C : Cx p s m args meth c D cs ad (gA ad 72 s.heap.size) cc nL own) {post : Int32 → (Nat → Nat → Int32) → Prop} {v : Int32} (hr : meth.sig.returnType = some .boolean) (hz : v = 0 ∨ v = 1) (d : decode cc pc = .ok (.ireturn, 1)) (hq : post v st) : Wg p l e R s m args below meth c (MQ below (QTi D cs ad mt ov post s.heap.size) args s cells slots (gA ad 72 s.heap.size)) D cs ad (gA ad 72 s.heap.size) nL cells slots pc lv ([.int v]) st mt ov :=
  fun H locs ls hP hS hl => W.zret (v := v) (ty := .boolean) C.1 C.2.1 hr (by rcases hz with rfl | rfl <;> rfl) (fun t ht _ => ⟨⟨v, st, rfl, hq, by show va_P D gcl _ t.heap; rw [ht]; exact hP⟩, hS.F ht⟩) hS.2.2 d C.2.2.2.2.2.2.2.2.2
theorem w_iretM (C : Cx p s m args meth c D cs ad (gA ad 72 s.heap.size) cc nL own) {post : Int32 → (Nat → Nat → Int32) → Prop} {v : Int32} (hr : meth.sig.returnType = some .int) (d : decode cc pc = .ok (.ireturn, 1)) (hq : post v mt) : Wg p l e R s m args below meth c (MQ below (QMi D cs ad st ov post s.heap.size) args s cells slots (gA ad 72 s.heap.size)) D cs ad (gA ad 72 s.heap.size) nL cells slots pc lv ([.int v]) st mt ov :=
  fun H locs ls hP hS hl => W.iret (v := v) C.1 C.2.1 hr (fun t ht _ => ⟨⟨v, mt, rfl, hq, by show va_P D gcl _ t.heap; rw [ht]; exact hP⟩, hS.F ht⟩) hS.2.2 d C.2.2.2.2.2.2.2.2.2
theorem w_zretM (C : Cx p s m args meth c D cs ad (gA ad 72 s.heap.size) cc nL own) {post : Int32 → (Nat → Nat → Int32) → Prop} {v : Int32} (hr : meth.sig.returnType = some .boolean) (hz : v = 0 ∨ v = 1) (d : decode cc pc = .ok (.ireturn, 1)) (hq : post v mt) : Wg p l e R s m args below meth c (MQ below (QMi D cs ad st ov post s.heap.size) args s cells slots (gA ad 72 s.heap.size)) D cs ad (gA ad 72 s.heap.size) nL cells slots pc lv ([.int v]) st mt ov :=
  fun H locs ls hP hS hl => W.zret (v := v) (ty := .boolean) C.1 C.2.1 hr (by rcases hz with rfl | rfl <;> rfl) (fun t ht _ => ⟨⟨v, mt, rfl, hq, by show va_P D gcl _ t.heap; rw [ht]; exact hP⟩, hS.F ht⟩) hS.2.2 d C.2.2.2.2.2.2.2.2.2
theorem w_iretL (C : Cx p s m args meth c D cs ad (gA ad 72 s.heap.size) cc nL own) {post : Int32 → (Nat → Nat → Int32) × (Nat → Int64) → Prop} {v : Int32} (hr : meth.sig.returnType = some .int) (d : decode cc pc = .ok (.ireturn, 1)) (hq : post v (st, ov)) : Wg p l e R s m args below meth c (MQ below (QLi D cs ad mt post s.heap.size) args s cells slots (gA ad 72 s.heap.size)) D cs ad (gA ad 72 s.heap.size) nL cells slots pc lv ([.int v]) st mt ov :=
  fun H locs ls hP hS hl => W.iret (v := v) C.1 C.2.1 hr (fun t ht _ => ⟨⟨v, (st, ov), rfl, hq, by show va_P D gcl _ t.heap; rw [ht]; exact hP⟩, hS.F ht⟩) hS.2.2 d C.2.2.2.2.2.2.2.2.2
theorem w_vretT (C : Cx p s m args meth c D cs ad (gA ad 72 s.heap.size) cc nL own) {post : (Nat → Nat → Int32) → Prop} (hr : meth.sig.returnType = none) (d : decode cc pc = .ok (.return_, 1)) (hq : post st) : Wg p l e R s m args below meth c (MQ below (QTv D cs ad mt ov post s.heap.size) args s cells slots (gA ad 72 s.heap.size)) D cs ad (gA ad 72 s.heap.size) nL cells slots pc lv ([]) st mt ov :=
  fun H locs ls hP hS hl => W.vret C.1 C.2.1 hr (fun t ht _ => ⟨⟨st, rfl, hq, by show va_P D gcl _ t.heap; rw [ht]; exact hP⟩, hS.F ht⟩) hS.2.2 d C.2.2.2.2.2.2.2.2.2
theorem w_vretM (C : Cx p s m args meth c D cs ad (gA ad 72 s.heap.size) cc nL own) {post : (Nat → Nat → Int32) → Prop} (hr : meth.sig.returnType = none) (d : decode cc pc = .ok (.return_, 1)) (hq : post mt) : Wg p l e R s m args below meth c (MQ below (QMv D cs ad st ov post s.heap.size) args s cells slots (gA ad 72 s.heap.size)) D cs ad (gA ad 72 s.heap.size) nL cells slots pc lv ([]) st mt ov :=
  fun H locs ls hP hS hl => W.vret C.1 C.2.1 hr (fun t ht _ => ⟨⟨mt, rfl, hq, by show va_P D gcl _ t.heap; rw [ht]; exact hP⟩, hS.F ht⟩) hS.2.2 d C.2.2.2.2.2.2.2.2.2
theorem w_aretT (C : Cx p s m args meth c D cs ad (gA ad 72 s.heap.size) cc nL own) {post : Nat → Prop} {i : Nat} {n : String} (hr : meth.sig.returnType = some (.object n)) (d : decode cc pc = .ok (.areturn, 1)) (hq : post i) : Wg p l e R s m args below meth c (MQ below (QTq D cs ad st mt ov post s.heap.size) args s cells slots (gA ad 72 s.heap.size)) D cs ad (gA ad 72 s.heap.size) nL cells slots pc lv ([.ref (ad i)]) st mt ov :=
  fun H locs ls hP hS hl => W.aret (v := .ref (ad i)) (rt := .object n) C.1 C.2.1 hr (Or.inl ⟨n, rfl⟩) (Or.inr ⟨_, rfl⟩) (fun t ht _ => ⟨⟨some (ad i), i, rfl, ⟨rfl, hq⟩, by show va_P D gcl _ t.heap; rw [ht]; exact hP⟩, hS.F ht⟩) hS.2.2 d C.2.2.2.2.2.2.2.2.2
theorem wx_iretT (C : Cx p s m args meth c D cs ad (gA ad 72 s.heap.size) cc nL own) {XC : String → State → State → Prop} {post : Int32 → (Nat → Nat → Int32) → Prop} {v : Int32} (hr : meth.sig.returnType = some .int) (d : decode cc pc = .ok (.ireturn, 1)) (hq : post v st) : Wg p l e R s m args below meth c (vx_MQ below (QTi D cs ad mt ov post s.heap.size) XC args s cells slots (gA ad 72 s.heap.size)) D cs ad (gA ad 72 s.heap.size) nL cells slots pc lv ([.int v]) st mt ov :=
  fun H locs ls hP hS hl => vx_ret (W.iret (v := v) C.1 C.2.1 hr (fun t ht _ => ⟨⟨v, st, rfl, hq, by show va_P D gcl _ t.heap; rw [ht]; exact hP⟩, hS.F ht⟩) hS.2.2 d C.2.2.2.2.2.2.2.2.2)
theorem wx_zretT (C : Cx p s m args meth c D cs ad (gA ad 72 s.heap.size) cc nL own) {XC : String → State → State → Prop} {post : Int32 → (Nat → Nat → Int32) → Prop} {v : Int32} (hr : meth.sig.returnType = some .boolean) (hz : v = 0 ∨ v = 1) (d : decode cc pc = .ok (.ireturn, 1)) (hq : post v st) : Wg p l e R s m args below meth c (vx_MQ below (QTi D cs ad mt ov post s.heap.size) XC args s cells slots (gA ad 72 s.heap.size)) D cs ad (gA ad 72 s.heap.size) nL cells slots pc lv ([.int v]) st mt ov :=
  fun H locs ls hP hS hl => vx_ret (W.zret (v := v) (ty := .boolean) C.1 C.2.1 hr (by rcases hz with rfl | rfl <;> rfl) (fun t ht _ => ⟨⟨v, st, rfl, hq, by show va_P D gcl _ t.heap; rw [ht]; exact hP⟩, hS.F ht⟩) hS.2.2 d C.2.2.2.2.2.2.2.2.2)
theorem wx_iretM (C : Cx p s m args meth c D cs ad (gA ad 72 s.heap.size) cc nL own) {XC : String → State → State → Prop} {post : Int32 → (Nat → Nat → Int32) → Prop} {v : Int32} (hr : meth.sig.returnType = some .int) (d : decode cc pc = .ok (.ireturn, 1)) (hq : post v mt) : Wg p l e R s m args below meth c (vx_MQ below (QMi D cs ad st ov post s.heap.size) XC args s cells slots (gA ad 72 s.heap.size)) D cs ad (gA ad 72 s.heap.size) nL cells slots pc lv ([.int v]) st mt ov :=
  fun H locs ls hP hS hl => vx_ret (W.iret (v := v) C.1 C.2.1 hr (fun t ht _ => ⟨⟨v, mt, rfl, hq, by show va_P D gcl _ t.heap; rw [ht]; exact hP⟩, hS.F ht⟩) hS.2.2 d C.2.2.2.2.2.2.2.2.2)
theorem wx_zretM (C : Cx p s m args meth c D cs ad (gA ad 72 s.heap.size) cc nL own) {XC : String → State → State → Prop} {post : Int32 → (Nat → Nat → Int32) → Prop} {v : Int32} (hr : meth.sig.returnType = some .boolean) (hz : v = 0 ∨ v = 1) (d : decode cc pc = .ok (.ireturn, 1)) (hq : post v mt) : Wg p l e R s m args below meth c (vx_MQ below (QMi D cs ad st ov post s.heap.size) XC args s cells slots (gA ad 72 s.heap.size)) D cs ad (gA ad 72 s.heap.size) nL cells slots pc lv ([.int v]) st mt ov :=
  fun H locs ls hP hS hl => vx_ret (W.zret (v := v) (ty := .boolean) C.1 C.2.1 hr (by rcases hz with rfl | rfl <;> rfl) (fun t ht _ => ⟨⟨v, mt, rfl, hq, by show va_P D gcl _ t.heap; rw [ht]; exact hP⟩, hS.F ht⟩) hS.2.2 d C.2.2.2.2.2.2.2.2.2)
theorem wx_iretL (C : Cx p s m args meth c D cs ad (gA ad 72 s.heap.size) cc nL own) {XC : String → State → State → Prop} {post : Int32 → (Nat → Nat → Int32) × (Nat → Int64) → Prop} {v : Int32} (hr : meth.sig.returnType = some .int) (d : decode cc pc = .ok (.ireturn, 1)) (hq : post v (st, ov)) : Wg p l e R s m args below meth c (vx_MQ below (QLi D cs ad mt post s.heap.size) XC args s cells slots (gA ad 72 s.heap.size)) D cs ad (gA ad 72 s.heap.size) nL cells slots pc lv ([.int v]) st mt ov :=
  fun H locs ls hP hS hl => vx_ret (W.iret (v := v) C.1 C.2.1 hr (fun t ht _ => ⟨⟨v, (st, ov), rfl, hq, by show va_P D gcl _ t.heap; rw [ht]; exact hP⟩, hS.F ht⟩) hS.2.2 d C.2.2.2.2.2.2.2.2.2)
theorem wx_vretT (C : Cx p s m args meth c D cs ad (gA ad 72 s.heap.size) cc nL own) {XC : String → State → State → Prop} {post : (Nat → Nat → Int32) → Prop} (hr : meth.sig.returnType = none) (d : decode cc pc = .ok (.return_, 1)) (hq : post st) : Wg p l e R s m args below meth c (vx_MQ below (QTv D cs ad mt ov post s.heap.size) XC args s cells slots (gA ad 72 s.heap.size)) D cs ad (gA ad 72 s.heap.size) nL cells slots pc lv ([]) st mt ov :=
  fun H locs ls hP hS hl => vx_ret (W.vret C.1 C.2.1 hr (fun t ht _ => ⟨⟨st, rfl, hq, by show va_P D gcl _ t.heap; rw [ht]; exact hP⟩, hS.F ht⟩) hS.2.2 d C.2.2.2.2.2.2.2.2.2)
theorem wx_vretM (C : Cx p s m args meth c D cs ad (gA ad 72 s.heap.size) cc nL own) {XC : String → State → State → Prop} {post : (Nat → Nat → Int32) → Prop} (hr : meth.sig.returnType = none) (d : decode cc pc = .ok (.return_, 1)) (hq : post mt) : Wg p l e R s m args below meth c (vx_MQ below (QMv D cs ad st ov post s.heap.size) XC args s cells slots (gA ad 72 s.heap.size)) D cs ad (gA ad 72 s.heap.size) nL cells slots pc lv ([]) st mt ov :=
  fun H locs ls hP hS hl => vx_ret (W.vret C.1 C.2.1 hr (fun t ht _ => ⟨⟨mt, rfl, hq, by show va_P D gcl _ t.heap; rw [ht]; exact hP⟩, hS.F ht⟩) hS.2.2 d C.2.2.2.2.2.2.2.2.2)
theorem wx_aretT (C : Cx p s m args meth c D cs ad (gA ad 72 s.heap.size) cc nL own) {XC : String → State → State → Prop} {post : Nat → Prop} {i : Nat} {n : String} (hr : meth.sig.returnType = some (.object n)) (d : decode cc pc = .ok (.areturn, 1)) (hq : post i) : Wg p l e R s m args below meth c (vx_MQ below (QTq D cs ad st mt ov post s.heap.size) XC args s cells slots (gA ad 72 s.heap.size)) D cs ad (gA ad 72 s.heap.size) nL cells slots pc lv ([.ref (ad i)]) st mt ov :=
  fun H locs ls hP hS hl => vx_ret (W.aret (v := .ref (ad i)) (rt := .object n) C.1 C.2.1 hr (Or.inl ⟨n, rfl⟩) (Or.inr ⟨_, rfl⟩) (fun t ht _ => ⟨⟨some (ad i), i, rfl, ⟨rfl, hq⟩, by show va_P D gcl _ t.heap; rw [ht]; exact hP⟩, hS.F ht⟩) hS.2.2 d C.2.2.2.2.2.2.2.2.2)
end RETS
section THROW
variable {p : Program} {l : Launch} {e : Env} {R : Room} {s : State} {m : MethodId} {args : Array Value} {below : List Frame} {meth : Method} {c : Code} {D : va_G} {cs : Nat → ClassId} {ad : Nat → Nat} {A : Nat → Prop} {nL : Nat} {cc : ByteArray} {own : String} {cells slots : Nat} {pc : Nat} {lv : List (Nat × Value)} {stk : List Value} {st mt : Nat → Nat → Int32} {ov : Nat → Int64}
variable {Qc : Array Value → State → Outcome → State → Prop} {mc2 ms2 : Nat} {okx : String → Prop}
theorem ax_on {w : Cond} (h : ax_k w = true) : w.onTables = true := by
  cases w <;> first | rfl | (simp [ax_k] at h)
/-- throw new E("text") -/
theorem w_throwS (C : Cx p s m args meth c D cs ad (gA ad 72 s.heap.size) cc nL "TwinRegister") (hl : l.stackTraces = false) (ht9 : ∀ z ∈ c.exceptionTable.toList, False) {cls text : String} {names : List String} {ik is ic : Nat} (hcls : Bundle.fit cls = true) (hnames : ∀ n ∈ names, Bundle.fit n = true) (hk : Cond.classLink "TwinRegister" ik cls ∈ ag_all) (hini : Cond.initialized cls ∈ ag_all) (hstr : (is, text) ∈ ax_strs) (hat : (vx_atS "TwinRegister" ic cls names).all (fun w => decide (w ∈ ag_all) || decide (w ∈ ax_all)) = true) (d0 : decode cc pc = .ok (.new ik, 3)) (d3 : decode cc (pc + 3) = .ok (.dup, 1)) (d4 : decode cc (pc + 4) = .ok (.ldc is, 2)) (d6 : decode cc (pc + 6) = .ok (.invokespecial ic, 3)) (d9 : decode cc (pc + 9) = .ok (.athrow, 1)) (hR : names.length + 3 < R.frames ∧ (stk.map fun v => v.category).sum + (13 * (names.length + 1) + 43) ≤ R.locals ∧ cells + 1 ≤ R.cells ∧ slots + 6 ≤ R.slots) (hc : cells + 1 ≤ mc2 ∧ slots + 6 ≤ ms2) (hok : okx cls) : Wg p l e R s m args below meth c (vx_MQ below Qc (XT D cs ad st mt ov okx s.heap.size) args s mc2 ms2 (gA ad 72 s.heap.size)) D cs ad (gA ad 72 s.heap.size) nL cells slots pc lv stk st mt ov := by
  intro H locs ls hP hS hl9
  obtain ⟨sa, hsa⟩ := C.2.2.2.2.2.1.2.1 _ hstr
  have hts := C.2.2.2.2.1
  have hor : ∀ w ∈ vx_atS "TwinRegister" ic cls names, w ∈ ag_all ∨ w ∈ ax_all := by
    intro w hw
    have h1 := List.all_eq_true.mp hat w hw
    simp only [Bool.or_eq_true, decide_eq_true_eq] at h1
    exact h1
  have hot : ∀ w, w ∈ ag_all ∨ w ∈ ax_all → vx_ot w = true := by
    intro w hw
    rcases hw with hw | hw
    · simp only [vx_ot, ag_good hw, Bool.or_true]
    · simp only [vx_ot, ax_on (List.mem_filter.mp hw).2, Bool.true_or]
  refine vx_throwS (names := names) C.1 C.2.1 hl C.2.2.2.1 hcls hnames (hts _ hk) (hts _ hini) hsa (fun w hw => ?_) (fun w hw => ?_) C.2.2.2.2.2.1.2.2.2.1 C.2.2.2.2.2.1.2.2.2.2 hS (hl9.1.trans C.2.2.1.symm) d0 d3 d4 d6 d9 (fun z hz => (ht9 z hz).elim) hR.1 hR.2.1 hR.2.2.1 hR.2.2.2 C.2.2.2.2.2.2.2.2.2 (fun t hvm hz hk9 => ?_) hS.2.2 hc.1 hc.2
  · rcases hor w hw with h | h
    · exact hts w h
    · exact va_Nw.use (ax_on (List.mem_filter.mp h).2) (C.2.2.2.2.2.1.1 w h)
  · rcases List.mem_cons.mp hw with rfl | hw
    · exact hot _ (Or.inl hk)
    · rcases List.mem_cons.mp hw with rfl | hw
      · exact hot _ (Or.inl hini)
      · exact hot w (hor w hw)
  · refine ⟨cls, hok, ⟨rfl, ?_⟩, ⟨Nat.le_trans hS.1 hz, fun q h1 h2 => ?_⟩⟩
    · exact hP.kept (fun k q hq => hk9 q.1 ((hP k q hq).lt))
    · rw [hk9 q (Nat.lt_of_lt_of_le h1 hS.1)]
      exact hS.2.1 q h1 h2
end THROW
end
