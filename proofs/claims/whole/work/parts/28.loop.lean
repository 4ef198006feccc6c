/-! ===== the law's loop ===== -/
theorem and31 (x : Int32) : inR (x &&& 31) 32 := by
  refine ⟨(x &&& 31).toBitVec.toNat, ?_, ?_⟩
  · rw [Int32.toBitVec_and, BitVec.toNat_and]
    exact Nat.and_lt_two_pow (n := 5) _ (by decide)
  · apply Int32.toBitVec_inj.mp
    exact BitVec.eq_of_toNat_eq (by
      show _ = (BitVec.ofNat 32 _).toNat
      rw [BitVec.toNat_ofNat, Nat.mod_eq_of_lt (x &&& 31).toBitVec.isLt])
theorem sub6 {L : Nat} (h : L ≤ 3072) : (nI L - 6).toInt = (L : Int) - 6 := by
  rw [Int32.toInt_sub, nI_toInt (by omega), show (6 : Int32).toInt = 6 from rfl, Int.bmod_def]
  omega
set_option maxHeartbeats 4000000 in
set_option maxRecDepth 100000 in
theorem law_loop {p : Program} {l : Launch} {e : Env} {s : State} {m : MethodId} {args : Array Value} {below : List Frame} {meth : Method} {c : Code} {Q : State → Prop} {D : va_G} {cs : Nat → ClassId} {ad : Nat → Nat} {A : Nat → Prop} {b L : Nat} {xs : Nat → Int32} (C : Cx p s m args meth c D cs ad A code 7 "TwinRegisterLaw") (X : LX s A b L xs) (hl : l.stackTraces = false) (hL : L ≤ 3072)
    (hend : ∀ (cells slots : Nat) (lv : List (Nat × Value)) (st mt : St) (ov : Nat → Int64), cells ≤ 637624 → slots ≤ 7183232 → Wg p l e room_1 s m args below meth c Q D cs ad A 7 cells slots 1556 lv [.int 1] st mt ov) :
    ∀ (f i cells slots : Nat) (st mt : St) (ov : Nat → Int64), L ≤ i + 6 * f → i ≤ 4000 → cells + 6 * f ≤ 637624 → slots + 36 * f ≤ 7183232 → Rel st mt → Wg p l e room_1 s m args below meth c Q D cs ad A 7 cells slots 23 (lvI b ad i) [] st mt ov := by
  intro f
  induction f with
  | zero =>
    intro i cells slots st mt ov hf hi hc hs hR
    refine w_iload C 0 d_law_23 rfl ?_
    refine w_aload_n C 4 d_law_25 rfl rfl ?_
    refine w_slen C X d_law_26 ?_
    refine w_bipush (v := 6) C d_law_27 rfl ?_
    refine w_isub C d_law_29 ?_
    refine w_icmp_gt C 1555 d_law_30 (by decide) (fun _ => ?_) (fun h => ?_)
    · refine w_iconst (v := 1) C d_law_1555 rfl ?_
      exact hend _ _ _ _ _ _ (by omega) (by omega)
    · exfalso
      apply h
      rw [Int32.lt_iff_toInt_lt, sub6 hL, nI_toInt (by omega)]
      omega
  | succ f ih =>
    intro i cells slots st mt ov hf hi hc hs hR
    refine w_iload C 0 d_law_23 rfl ?_
    refine w_aload_n C 4 d_law_25 rfl rfl ?_
    refine w_slen C X d_law_26 ?_
    refine w_bipush (v := 6) C d_law_27 rfl ?_
    refine w_isub C d_law_29 ?_
    refine w_icmp_gt C 1555 d_law_30 (by decide) (fun _ => ?_) (fun h => ?_)
    · refine w_iconst (v := 1) C d_law_1555 rfl ?_
      exact hend _ _ _ _ _ _ (by omega) (by omega)
    have hi6 : i + 6 ≤ L := by
      rw [Int32.lt_iff_toInt_lt, sub6 hL, nI_toInt (by omega)] at h
      omega
    have hcs : cells + 6 ≤ 637624 ∧ slots + 36 ≤ 7183232 := ⟨by omega, by omega⟩
    have k : ∀ (st2 mt2 : St) (ov2 : Nat → Int64), Rel st2 mt2 → Wg p l e room_1 s m args below meth c Q D cs ad A 7 (cells + 6) (slots + 36) 1549 (lvI b ad i) [] st2 mt2 ov2 := by
      intro st2 mt2 ov2 hR2
      refine w_iinc (v := nI (i + 6)) (lv2 := lvI b ad (i + 6)) C 0 d_law_1549 rfl (ix6 i) (by decide) rfl ?_
      refine w_goto C 23 d_law_1552 (by decide) ?_
      exact ih (i + 6) (cells + 6) (slots + 36) st2 mt2 ov2 (by omega) (by omega) (by omega) (by omega) hR2
    refine w_aload_n C 4 d_law_33 rfl rfl ?_
    refine w_iload C 0 d_law_34 rfl ?_
    refine w_sld C X rfl (by omega) hL d_law_36 ?_
    refine w_bipush (v := 31) C d_law_37 rfl ?_
    refine w_iand C d_law_39 ?_
    obtain ⟨j, hj, e1⟩ := and31 (xs i)
    refine w_topi e1 ?_
    rcases (by omega : j = 0 ∨ j = 1 ∨ j = 2 ∨ j = 3 ∨ j = 4 ∨ j = 5 ∨ j = 6 ∨ j = 7 ∨ j = 8 ∨ j = 9 ∨ j = 10 ∨ j = 11 ∨ j = 12 ∨ j = 13 ∨ j = 14 ∨ j = 15 ∨ j = 16 ∨ j = 17 ∨ j = 18 ∨ j = 19 ∨ j = 20 ∨ j = 21 ∨ j = 22 ∨ 23 ≤ j) with rfl | rfl | rfl | rfl | rfl | rfl | rfl | rfl | rfl | rfl | rfl | rfl | rfl | rfl | rfl | rfl | rfl | rfl | rfl | rfl | rfl | rfl | rfl | hj2
    · refine w_tabIn (off := 108) C 148 d_law_40 (by decide) (by decide) (by decide) (by decide) ?_
      exact q_put C X hl hL hR hi6 hcs k
    · refine w_tabIn (off := 176) C 216 d_law_40 (by decide) (by decide) (by decide) (by decide) ?_
      exact q_drop C X hl hL hR hi6 hcs k
    · refine w_tabIn (off := 232) C 272 d_law_40 (by decide) (by decide) (by decide) (by decide) ?_
      exact q_wish C X hl hL hR hi6 hcs k
    · refine w_tabIn (off := 300) C 340 d_law_40 (by decide) (by decide) (by decide) (by decide) ?_
      exact q_report C X hl hL hR hi6 hcs k
    · refine w_tabIn (off := 368) C 408 d_law_40 (by decide) (by decide) (by decide) (by decide) ?_
      exact q_obey C X hl hL hR hi6 hcs k
    · refine w_tabIn (off := 424) C 464 d_law_40 (by decide) (by decide) (by decide) (by decide) ?_
      exact q_refuse C X hl hL hR hi6 hcs k
    · refine w_tabIn (off := 504) C 544 d_law_40 (by decide) (by decide) (by decide) (by decide) ?_
      exact q_sleep C X hl hL hR hi6 hcs k
    · refine w_tabIn (off := 567) C 607 d_law_40 (by decide) (by decide) (by decide) (by decide) ?_
      exact q_wake C X hl hL hR hi6 hcs k
    · refine w_tabIn (off := 623) C 663 d_law_40 (by decide) (by decide) (by decide) (by decide) ?_
      exact q_setGroup C X hl hL hR hi6 hcs k
    · refine w_tabIn (off := 715) C 755 d_law_40 (by decide) (by decide) (by decide) (by decide) ?_
      exact q_addJob C X hl hL hR hi6 hcs k
    · refine w_tabIn (off := 819) C 859 d_law_40 (by decide) (by decide) (by decide) (by decide) ?_
      exact q_wave C X hl hL hR hi6 hcs k
    · refine w_tabIn (off := 832) C 872 d_law_40 (by decide) (by decide) (by decide) (by decide) ?_
      exact q_cancel C X hl hL hR hi6 hcs k
    · refine w_tabIn (off := 888) C 928 d_law_40 (by decide) (by decide) (by decide) (by decide) ?_
      exact q_version C X hl hL hR hi6 hcs k
    · refine w_tabIn (off := 944) C 984 d_law_40 (by decide) (by decide) (by decide) (by decide) ?_
      exact q_heard C X hl hL hR hi6 hcs k
    · refine w_tabIn (off := 1000) C 1040 d_law_40 (by decide) (by decide) (by decide) (by decide) ?_
      exact q_wished C X hl hL hR hi6 hcs k
    · refine w_tabIn (off := 1068) C 1108 d_law_40 (by decide) (by decide) (by decide) (by decide) ?_
      exact q_reported C X hl hL hR hi6 hcs k
    · refine w_tabIn (off := 1136) C 1176 d_law_40 (by decide) (by decide) (by decide) (by decide) ?_
      exact q_why C X hl hL hR hi6 hcs k
    · refine w_tabIn (off := 1204) C 1244 d_law_40 (by decide) (by decide) (by decide) (by decide) ?_
      exact q_differences C X hl hL hR hi6 hcs k
    · refine w_tabIn (off := 1260) C 1300 d_law_40 (by decide) (by decide) (by decide) (by decide) ?_
      exact q_differencesAnew C X hl hL hR hi6 hcs k
    · refine w_tabIn (off := 1316) C 1356 d_law_40 (by decide) (by decide) (by decide) (by decide) ?_
      exact q_members C X hl hL hR hi6 hcs k
    · refine w_tabIn (off := 1372) C 1412 d_law_40 (by decide) (by decide) (by decide) (by decide) ?_
      exact q_jobs C X hl hL hR hi6 hcs k
    · refine w_tabIn (off := 1385) C 1425 d_law_40 (by decide) (by decide) (by decide) (by decide) ?_
      exact q_state C X hl hL hR hi6 hcs k
    · refine w_tabIn (off := 1441) C 1481 d_law_40 (by decide) (by decide) (by decide) (by decide) ?_
      exact q_devices C X hl hL hR hi6 hcs k
    · refine w_tabOut C 1549 d_law_40 (Or.inr (by rw [nI_toInt (by omega)]; omega)) (by decide) ?_
      refine w_widen (k2 := cells + 6) (n2 := slots + 36) (by omega) (by omega) ?_
      exact k _ _ _ hR
