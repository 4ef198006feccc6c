/-! ===== what the small methods do to the memory ===== -/
def unl (st : Nat → Nat → Int32) (q k : Nat) : Bool := !decide (st (4 + 4 * q + 1) k = -1) && (!decide (st (4 + 4 * q + 2) k = st (4 + 4 * q + 1) k) && decide (st (4 + 4 * q + 3) k = 0))
def keepD (st : Nat → Nat → Int32) (q k : Nat) : Nat → Nat → Int32 := up2 st (4 + 4 * q) 3 (bif unl st q k then st (4 + 4 * q) 3 ||| bitI k else st (4 + 4 * q) 3 &&& (bitI k ^^^ (-1)))
def takeW (st : Nat → Nat → Int32) (q k : Nat) (v : Int32) : Nat → Nat → Int32 := keepD (up2 (up2 st (4 + 4 * q + 1) k v) (4 + 4 * q + 3) k 0) q k
def takeR (st : Nat → Nat → Int32) (q k : Nat) (v : Int32) : Nat → Nat → Int32 := keepD (up2 st (4 + 4 * q + 2) k v) q k
def takeF (st : Nat → Nat → Int32) (q k : Nat) (v : Int32) : Nat → Nat → Int32 := keepD (up2 st (4 + 4 * q + 3) k v) q k
def difA (st : Nat → Nat → Int32) (q k : Nat) : Bool := !decide (st (4 + 4 * q) 3 &&& bitI k = 0)
def hearV (st : Nat → Nat → Int32) (q : Nat) : Int32 := if st (4 + 4 * q) 7 = 0 then st (4 + 4 * q) 4 else st (4 + 4 * q) 5
def asgF (st : Nat → Nat → Int32) (k : Nat) (v : Int32) : Nat → Nat → Int32 := up2 (up2 st 2 k v) 1 1 ((up2 st 2 k v) 1 1 ||| bitI k)
def hasF (st : Nat → Nat → Int32) (k : Nat) : Bool := !decide (st 1 1 &&& bitI k = 0)
def empF (st : Nat → Nat → Int32) : Nat → Nat → Int32 := up2 st 1 1 0
def admG (st : Nat → Nat → Int32) (g q k : Nat) : Bool := !decide (st (4 + 4 * q + 2) k < st (37 + g) 1) && !decide (st (37 + g) 2 < st (4 + 4 * q + 2) k)
def opnJ (st : Nat → Nat → Int32) (j : Nat) : Int32 := st (42 + j) 6 &&& (st (42 + j) 7 ^^^ (-1)) &&& (st (42 + j) 8 ^^^ (-1))
def ush (x : Int32) (n : Int32) : Int32 := (x.toUInt32 >>> (n.toUInt32 &&& Int32.toUInt32 31)).toInt32
def bc1 (x : Int32) : Int32 := x - (ush x 1 &&& 1431655765)
def bc2 (x : Int32) : Int32 := (bc1 x &&& 858993459) + (ush (bc1 x) 2 &&& 858993459)
def bc3 (x : Int32) : Int32 := (bc2 x + ush (bc2 x) 4) &&& 252645135
def bc4 (x : Int32) : Int32 := bc3 x + ush (bc3 x) 8
def bcI (x : Int32) : Int32 := (bc4 x + ush (bc4 x) 16) &&& 63

set_option maxHeartbeats 4000000 in
set_option maxRecDepth 100000 in
theorem c_D_comparesUnlike {l : Launch} {D : va_G} {cs : Nat → ClassId} {ad : Nat → Nat} {st mt : Nat → Nat → Int32} {ov : Nat → Int64} {q k : Nat} (hq : q < 8) (hk : k < 12) : gM l y_D_comparesUnlike b_D_comparesUnlike 2 (some .boolean) ({ frames := 0, cells := 0, slots := 0, locals := 0 } : Room) 0 0 [.ref (ad (4 + 4 * q)), .int (nI k)] D cs ad st mt ov (QTi D cs ad mt ov (fun r u => r = b2i (unl st q k) ∧ u = st)) := by
  refine gM_of (own := "TwinRegister$Device") (by decide +kernel) rfl (Nat.le_of_ble_eq_true rfl) ?_
  intro p e s m args below meth c C hr
  refine w_lv (lv2 := [(0, .ref (ad (4 + 4 * q))), (1, .int (nI k))]) [0, 1] rfl ?_
  refine w_aload_n C 0 d_D_comparesUnlike_0 rfl rfl ?_
  refine g_D_wishedValues C (by omega) m_66 d_D_comparesUnlike_1 ?_
  refine w_iload_n C 1 d_D_comparesUnlike_4 rfl rfl ?_
  refine ia_DV C (by omega) (by omega) rfl (by omega) d_D_comparesUnlike_5 ?_
  refine w_iconst (v := (-1)) C d_D_comparesUnlike_6 rfl ?_
  refine w_icmp_eq C 38 d_D_comparesUnlike_7 (by decide) (fun h7 => ?_) (fun h7 => ?_)
  · skip
    refine w_iconst (v := 0) C d_D_comparesUnlike_38 rfl ?_
    exact w_zretT C hr (by first | exact Or.inl rfl | exact Or.inr rfl | exact b2i_01 _) d_D_comparesUnlike_39 (⟨by simp [unl, b2i, h7], rfl⟩)
  · skip
    refine w_aload_n C 0 d_D_comparesUnlike_10 rfl rfl ?_
    refine g_D_reportedValues C (by omega) m_68 d_D_comparesUnlike_11 ?_
    refine w_iload_n C 1 d_D_comparesUnlike_14 rfl rfl ?_
    refine ia_DV C (by omega) (by omega) rfl (by omega) d_D_comparesUnlike_15 ?_
    refine w_aload_n C 0 d_D_comparesUnlike_16 rfl rfl ?_
    refine g_D_wishedValues C (by omega) m_66 d_D_comparesUnlike_17 ?_
    refine w_iload_n C 1 d_D_comparesUnlike_20 rfl rfl ?_
    refine ia_DV C (by omega) (by omega) rfl (by omega) d_D_comparesUnlike_21 ?_
    refine w_icmp_eq C 38 d_D_comparesUnlike_22 (by decide) (fun h22 => ?_) (fun h22 => ?_)
    · skip
      refine w_iconst (v := 0) C d_D_comparesUnlike_38 rfl ?_
      exact w_zretT C hr (by first | exact Or.inl rfl | exact Or.inr rfl | exact b2i_01 _) d_D_comparesUnlike_39 (⟨by simp [unl, b2i, h7, h22], rfl⟩)
    · skip
      refine w_aload_n C 0 d_D_comparesUnlike_25 rfl rfl ?_
      refine g_D_reasons C (by omega) m_71 d_D_comparesUnlike_26 ?_
      refine w_iload_n C 1 d_D_comparesUnlike_29 rfl rfl ?_
      refine ia_DV C (by omega) (by omega) rfl (by omega) d_D_comparesUnlike_30 ?_
      refine w_if_ne C 38 d_D_comparesUnlike_31 (by decide) (fun h31 => ?_) (fun h31 => ?_)
      · skip
        refine w_iconst (v := 0) C d_D_comparesUnlike_38 rfl ?_
        exact w_zretT C hr (by first | exact Or.inl rfl | exact Or.inr rfl | exact b2i_01 _) d_D_comparesUnlike_39 (⟨by simp [unl, b2i, h7, h22, h31], rfl⟩)
      · skip
        refine w_iconst (v := 1) C d_D_comparesUnlike_34 rfl ?_
        refine w_goto C 39 d_D_comparesUnlike_35 (by decide) ?_
        exact w_zretT C hr (by first | exact Or.inl rfl | exact Or.inr rfl | exact b2i_01 _) d_D_comparesUnlike_39 (⟨by simp [unl, b2i, h7, h22, h31], rfl⟩)
set_option maxHeartbeats 4000000 in
set_option maxRecDepth 100000 in
theorem c_D_keepDifference {l : Launch} {D : va_G} {cs : Nat → ClassId} {ad : Nat → Nat} {st mt : Nat → Nat → Int32} {ov : Nat → Int64} {q k : Nat} (hq : q < 8) (hk : k < 12) : gM l y_D_keepDifference b_D_keepDifference 2 none ({ frames := 1, cells := 0, slots := 0, locals := 21 } : Room) 0 0 [.ref (ad (4 + 4 * q)), .int (nI k)] D cs ad st mt ov (QTv D cs ad mt ov (fun u => u = keepD st q k)) := by
  refine gM_of (own := "TwinRegister$Device") (by decide +kernel) rfl (Nat.le_of_ble_eq_true rfl) ?_
  intro p e s m args below meth c C hr
  refine w_lv (lv2 := [(0, .ref (ad (4 + 4 * q))), (1, .int (nI k))]) [0, 1] rfl ?_
  refine w_aload_n C 0 d_D_keepDifference_0 rfl rfl ?_
  refine w_iload_n C 1 d_D_keepDifference_1 rfl rfl ?_
  refine w_callTi C (w_runV C (c_D_comparesUnlike (by omega) (by omega)) (by omega) (e_D (by omega)) rfl rfl m_357 m_359 m_8 m_26 m_360 ⟨rfl, rfl⟩ hd_D_comparesUnlike rfl ⟨Nat.le_of_ble_eq_true rfl, Nat.le_of_ble_eq_true rfl⟩ rfl (Nat.le_of_ble_eq_true rfl) d_D_keepDifference_2 ⟨Nat.le_of_ble_eq_true rfl, Nat.le_of_ble_eq_true rfl⟩) (fun r2 u2 h2 => ?_)
  obtain ⟨rfl, h2⟩ := h2; have h2 := h2.symm; subst h2
  refine w_ifb_eq C 23 d_D_keepDifference_5 (by decide) (fun h5 => ?_) (fun h5 => ?_)
  · skip
    refine w_aload_n C 0 d_D_keepDifference_23 rfl rfl ?_
    refine w_dup C d_D_keepDifference_24 rfl ?_
    refine g_D_differing C (by omega) m_73 d_D_keepDifference_25 ?_
    refine w_iconst (v := 1) C d_D_keepDifference_28 rfl ?_
    refine w_iload_n C 1 d_D_keepDifference_29 rfl rfl ?_
    refine w_ishl C d_D_keepDifference_30 ?_
    refine w_iconst (v := (-1)) C d_D_keepDifference_31 rfl ?_
    refine w_ixor C d_D_keepDifference_32 ?_
    refine w_iand C d_D_keepDifference_33 ?_
    refine p_D_differing C (by omega) m_73 d_D_keepDifference_34 ?_
    exact w_vretT C hr d_D_keepDifference_37 (by unfold keepD; rw [h5]; rfl)
  · skip
    refine w_aload_n C 0 d_D_keepDifference_8 rfl rfl ?_
    refine w_dup C d_D_keepDifference_9 rfl ?_
    refine g_D_differing C (by omega) m_73 d_D_keepDifference_10 ?_
    refine w_iconst (v := 1) C d_D_keepDifference_13 rfl ?_
    refine w_iload_n C 1 d_D_keepDifference_14 rfl rfl ?_
    refine w_ishl C d_D_keepDifference_15 ?_
    refine w_ior C d_D_keepDifference_16 ?_
    refine p_D_differing C (by omega) m_73 d_D_keepDifference_17 ?_
    refine w_goto C 37 d_D_keepDifference_20 (by decide) ?_
    exact w_vretT C hr d_D_keepDifference_37 (by unfold keepD; rw [h5]; rfl)
set_option maxHeartbeats 4000000 in
set_option maxRecDepth 100000 in
theorem c_D_takeWish {l : Launch} {D : va_G} {cs : Nat → ClassId} {ad : Nat → Nat} {st mt : Nat → Nat → Int32} {ov : Nat → Int64} {q k : Nat} (hq : q < 8) (hk : k < 12) {v : Int32} : gM l y_D_takeWish b_D_takeWish 3 none ({ frames := 2, cells := 0, slots := 0, locals := 42 } : Room) 0 0 [.ref (ad (4 + 4 * q)), .int (nI k), .int v] D cs ad st mt ov (QTv D cs ad mt ov (fun u => u = takeW st q k v)) := by
  refine gM_of (own := "TwinRegister$Device") (by decide +kernel) rfl (Nat.le_of_ble_eq_true rfl) ?_
  intro p e s m args below meth c C hr
  refine w_lv (lv2 := [(0, .ref (ad (4 + 4 * q))), (1, .int (nI k)), (2, .int v)]) [0, 1, 2] rfl ?_
  refine w_aload_n C 0 d_D_takeWish_0 rfl rfl ?_
  refine g_D_wishedValues C (by omega) m_66 d_D_takeWish_1 ?_
  refine w_iload_n C 1 d_D_takeWish_4 rfl rfl ?_
  refine w_iload_n C 2 d_D_takeWish_5 rfl rfl ?_
  refine is_DV C (by omega) (by omega) rfl (by omega) d_D_takeWish_6 ?_
  refine w_aload_n C 0 d_D_takeWish_7 rfl rfl ?_
  refine g_D_reasons C (by omega) m_71 d_D_takeWish_8 ?_
  refine w_iload_n C 1 d_D_takeWish_11 rfl rfl ?_
  refine w_iconst (v := 0) C d_D_takeWish_12 rfl ?_
  refine is_DV C (by omega) (by omega) rfl (by omega) d_D_takeWish_13 ?_
  refine w_aload_n C 0 d_D_takeWish_14 rfl rfl ?_
  refine w_iload_n C 1 d_D_takeWish_15 rfl rfl ?_
  refine w_callTv C (w_runV C (c_D_keepDifference (by omega) (by omega)) (by omega) (e_D (by omega)) rfl rfl m_353 m_355 m_7 m_26 m_356 ⟨rfl, rfl⟩ hd_D_keepDifference rfl ⟨Nat.le_of_ble_eq_true rfl, Nat.le_of_ble_eq_true rfl⟩ rfl (Nat.le_of_ble_eq_true rfl) d_D_takeWish_16 ⟨Nat.le_of_ble_eq_true rfl, Nat.le_of_ble_eq_true rfl⟩) (fun u16 h16 => ?_)
  subst h16
  exact w_vretT C hr d_D_takeWish_19 (rfl)
set_option maxHeartbeats 4000000 in
set_option maxRecDepth 100000 in
theorem c_D_takeReport {l : Launch} {D : va_G} {cs : Nat → ClassId} {ad : Nat → Nat} {st mt : Nat → Nat → Int32} {ov : Nat → Int64} {q k : Nat} (hq : q < 8) (hk : k < 12) {v : Int32} : gM l y_D_takeReport b_D_takeReport 3 none ({ frames := 2, cells := 0, slots := 0, locals := 42 } : Room) 0 0 [.ref (ad (4 + 4 * q)), .int (nI k), .int v] D cs ad st mt ov (QTv D cs ad mt ov (fun u => u = takeR st q k v)) := by
  refine gM_of (own := "TwinRegister$Device") (by decide +kernel) rfl (Nat.le_of_ble_eq_true rfl) ?_
  intro p e s m args below meth c C hr
  refine w_lv (lv2 := [(0, .ref (ad (4 + 4 * q))), (1, .int (nI k)), (2, .int v)]) [0, 1, 2] rfl ?_
  refine w_aload_n C 0 d_D_takeReport_0 rfl rfl ?_
  refine g_D_reportedValues C (by omega) m_68 d_D_takeReport_1 ?_
  refine w_iload_n C 1 d_D_takeReport_4 rfl rfl ?_
  refine w_iload_n C 2 d_D_takeReport_5 rfl rfl ?_
  refine is_DV C (by omega) (by omega) rfl (by omega) d_D_takeReport_6 ?_
  refine w_aload_n C 0 d_D_takeReport_7 rfl rfl ?_
  refine w_iload_n C 1 d_D_takeReport_8 rfl rfl ?_
  refine w_callTv C (w_runV C (c_D_keepDifference (by omega) (by omega)) (by omega) (e_D (by omega)) rfl rfl m_353 m_355 m_7 m_26 m_356 ⟨rfl, rfl⟩ hd_D_keepDifference rfl ⟨Nat.le_of_ble_eq_true rfl, Nat.le_of_ble_eq_true rfl⟩ rfl (Nat.le_of_ble_eq_true rfl) d_D_takeReport_9 ⟨Nat.le_of_ble_eq_true rfl, Nat.le_of_ble_eq_true rfl⟩) (fun u9 h9 => ?_)
  subst h9
  exact w_vretT C hr d_D_takeReport_12 (rfl)
set_option maxHeartbeats 4000000 in
set_option maxRecDepth 100000 in
theorem c_D_takeRefusal {l : Launch} {D : va_G} {cs : Nat → ClassId} {ad : Nat → Nat} {st mt : Nat → Nat → Int32} {ov : Nat → Int64} {q k : Nat} (hq : q < 8) (hk : k < 12) {v : Int32} : gM l y_D_takeRefusal b_D_takeRefusal 3 none ({ frames := 2, cells := 0, slots := 0, locals := 42 } : Room) 0 0 [.ref (ad (4 + 4 * q)), .int (nI k), .int v] D cs ad st mt ov (QTv D cs ad mt ov (fun u => u = takeF st q k v)) := by
  refine gM_of (own := "TwinRegister$Device") (by decide +kernel) rfl (Nat.le_of_ble_eq_true rfl) ?_
  intro p e s m args below meth c C hr
  refine w_lv (lv2 := [(0, .ref (ad (4 + 4 * q))), (1, .int (nI k)), (2, .int v)]) [0, 1, 2] rfl ?_
  refine w_aload_n C 0 d_D_takeRefusal_0 rfl rfl ?_
  refine g_D_reasons C (by omega) m_71 d_D_takeRefusal_1 ?_
  refine w_iload_n C 1 d_D_takeRefusal_4 rfl rfl ?_
  refine w_iload_n C 2 d_D_takeRefusal_5 rfl rfl ?_
  refine is_DV C (by omega) (by omega) rfl (by omega) d_D_takeRefusal_6 ?_
  refine w_aload_n C 0 d_D_takeRefusal_7 rfl rfl ?_
  refine w_iload_n C 1 d_D_takeRefusal_8 rfl rfl ?_
  refine w_callTv C (w_runV C (c_D_keepDifference (by omega) (by omega)) (by omega) (e_D (by omega)) rfl rfl m_353 m_355 m_7 m_26 m_356 ⟨rfl, rfl⟩ hd_D_keepDifference rfl ⟨Nat.le_of_ble_eq_true rfl, Nat.le_of_ble_eq_true rfl⟩ rfl (Nat.le_of_ble_eq_true rfl) d_D_takeRefusal_9 ⟨Nat.le_of_ble_eq_true rfl, Nat.le_of_ble_eq_true rfl⟩) (fun u9 h9 => ?_)
  subst h9
  exact w_vretT C hr d_D_takeRefusal_12 (rfl)
set_option maxHeartbeats 4000000 in
set_option maxRecDepth 100000 in
theorem c_D_differsAt {l : Launch} {D : va_G} {cs : Nat → ClassId} {ad : Nat → Nat} {st mt : Nat → Nat → Int32} {ov : Nat → Int64} {q k : Nat} (hq : q < 8) (hk : k < 12) : gM l y_D_differsAt b_D_differsAt 2 (some .boolean) ({ frames := 0, cells := 0, slots := 0, locals := 0 } : Room) 0 0 [.ref (ad (4 + 4 * q)), .int (nI k)] D cs ad st mt ov (QTi D cs ad mt ov (fun r u => r = b2i (difA st q k) ∧ u = st)) := by
  refine gM_of (own := "TwinRegister$Device") (by decide +kernel) rfl (Nat.le_of_ble_eq_true rfl) ?_
  intro p e s m args below meth c C hr
  refine w_lv (lv2 := [(0, .ref (ad (4 + 4 * q))), (1, .int (nI k))]) [0, 1] rfl ?_
  refine w_aload_n C 0 d_D_differsAt_0 rfl rfl ?_
  refine g_D_differing C (by omega) m_73 d_D_differsAt_1 ?_
  refine w_iconst (v := 1) C d_D_differsAt_4 rfl ?_
  refine w_iload_n C 1 d_D_differsAt_5 rfl rfl ?_
  refine w_ishl C d_D_differsAt_6 ?_
  refine w_iand C d_D_differsAt_7 ?_
  refine w_if_eq C 15 d_D_differsAt_8 (by decide) (fun h8 => ?_) (fun h8 => ?_)
  · skip
    refine w_iconst (v := 0) C d_D_differsAt_15 rfl ?_
    exact w_zretT C hr (by first | exact Or.inl rfl | exact Or.inr rfl | exact b2i_01 _) d_D_differsAt_16 (⟨by have h9 : st (4 + 4 * q) 3 &&& bitI k = 0 ↔ _ := Iff.rfl; simp only [bitI] at h9; simp [difA, b2i, bitI, h8], rfl⟩)
  · skip
    refine w_iconst (v := 1) C d_D_differsAt_11 rfl ?_
    refine w_goto C 16 d_D_differsAt_12 (by decide) ?_
    exact w_zretT C hr (by first | exact Or.inl rfl | exact Or.inr rfl | exact b2i_01 _) d_D_differsAt_16 (⟨by have h9 : st (4 + 4 * q) 3 &&& bitI k = 0 ↔ _ := Iff.rfl; simp only [bitI] at h9; simp [difA, b2i, bitI, h8], rfl⟩)
set_option maxHeartbeats 4000000 in
set_option maxRecDepth 100000 in
theorem c_D_heardVersion {l : Launch} {D : va_G} {cs : Nat → ClassId} {ad : Nat → Nat} {st mt : Nat → Nat → Int32} {ov : Nat → Int64} {q : Nat} (hq : q < 8) : gM l y_D_heardVersion b_D_heardVersion 1 (some .int) ({ frames := 0, cells := 0, slots := 0, locals := 0 } : Room) 0 0 [.ref (ad (4 + 4 * q))] D cs ad st mt ov (QTi D cs ad mt ov (fun r u => r = hearV st q ∧ u = st)) := by
  refine gM_of (own := "TwinRegister$Device") (by decide +kernel) rfl (Nat.le_of_ble_eq_true rfl) ?_
  intro p e s m args below meth c C hr
  refine w_lv (lv2 := [(0, .ref (ad (4 + 4 * q)))]) [0] rfl ?_
  refine w_aload_n C 0 d_D_heardVersion_0 rfl rfl ?_
  refine g_D_asleep C (by omega) m_80 d_D_heardVersion_1 ?_
  refine w_if_eq C 14 d_D_heardVersion_4 (by decide) (fun h4 => ?_) (fun h4 => ?_)
  · skip
    refine w_aload_n C 0 d_D_heardVersion_14 rfl rfl ?_
    refine g_D_latestVersion C (by omega) m_76 d_D_heardVersion_15 ?_
    exact w_iretT C hr d_D_heardVersion_18 (⟨by simp [hearV, h4], rfl⟩)
  · skip
    refine w_aload_n C 0 d_D_heardVersion_7 rfl rfl ?_
    refine g_D_versionBeforeSleep C (by omega) m_77 d_D_heardVersion_8 ?_
    refine w_goto C 18 d_D_heardVersion_11 (by decide) ?_
    exact w_iretT C hr d_D_heardVersion_18 (⟨by simp [hearV, h4], rfl⟩)
set_option maxHeartbeats 4000000 in
set_option maxRecDepth 100000 in
theorem c_F_assign {l : Launch} {D : va_G} {cs : Nat → ClassId} {ad : Nat → Nat} {st mt : Nat → Nat → Int32} {ov : Nat → Int64} {k : Nat} (hk : k < 12) {v : Int32} : gM l y_F_assign b_F_assign 3 none ({ frames := 0, cells := 0, slots := 0, locals := 0 } : Room) 0 0 [.ref (ad 1), .int (nI k), .int v] D cs ad st mt ov (QTv D cs ad mt ov (fun u => u = asgF st k v)) := by
  refine gM_of (own := "TwinRegister$Draft") (by decide +kernel) rfl (Nat.le_of_ble_eq_true rfl) ?_
  intro p e s m args below meth c C hr
  refine w_lv (lv2 := [(0, .ref (ad 1)), (1, .int (nI k)), (2, .int v)]) [0, 1, 2] rfl ?_
  refine w_aload_n C 0 d_F_assign_0 rfl rfl ?_
  refine g_F_values C m_50 d_F_assign_1 ?_
  refine w_iload_n C 1 d_F_assign_4 rfl rfl ?_
  refine w_iload_n C 2 d_F_assign_5 rfl rfl ?_
  refine is_FV C rfl (by omega) d_F_assign_6 ?_
  refine w_aload_n C 0 d_F_assign_7 rfl rfl ?_
  refine w_dup C d_F_assign_8 rfl ?_
  refine g_F_leaves C m_52 d_F_assign_9 ?_
  refine w_iconst (v := 1) C d_F_assign_12 rfl ?_
  refine w_iload_n C 1 d_F_assign_13 rfl rfl ?_
  refine w_ishl C d_F_assign_14 ?_
  refine w_ior C d_F_assign_15 ?_
  refine p_F_leaves C m_52 d_F_assign_16 ?_
  exact w_vretT C hr d_F_assign_19 (rfl)
set_option maxHeartbeats 4000000 in
set_option maxRecDepth 100000 in
theorem c_F_has {l : Launch} {D : va_G} {cs : Nat → ClassId} {ad : Nat → Nat} {st mt : Nat → Nat → Int32} {ov : Nat → Int64} {k : Nat} : gM l y_F_has b_F_has 2 (some .boolean) ({ frames := 0, cells := 0, slots := 0, locals := 0 } : Room) 0 0 [.ref (ad 1), .int (nI k)] D cs ad st mt ov (QTi D cs ad mt ov (fun r u => r = b2i (hasF st k) ∧ u = st)) := by
  refine gM_of (own := "TwinRegister$Draft") (by decide +kernel) rfl (Nat.le_of_ble_eq_true rfl) ?_
  intro p e s m args below meth c C hr
  refine w_lv (lv2 := [(0, .ref (ad 1)), (1, .int (nI k))]) [0, 1] rfl ?_
  refine w_aload_n C 0 d_F_has_0 rfl rfl ?_
  refine g_F_leaves C m_52 d_F_has_1 ?_
  refine w_iconst (v := 1) C d_F_has_4 rfl ?_
  refine w_iload_n C 1 d_F_has_5 rfl rfl ?_
  refine w_ishl C d_F_has_6 ?_
  refine w_iand C d_F_has_7 ?_
  refine w_if_eq C 15 d_F_has_8 (by decide) (fun h8 => ?_) (fun h8 => ?_)
  · skip
    refine w_iconst (v := 0) C d_F_has_15 rfl ?_
    exact w_zretT C hr (by first | exact Or.inl rfl | exact Or.inr rfl | exact b2i_01 _) d_F_has_16 (⟨by simp [hasF, b2i, bitI, h8], rfl⟩)
  · skip
    refine w_iconst (v := 1) C d_F_has_11 rfl ?_
    refine w_goto C 16 d_F_has_12 (by decide) ?_
    exact w_zretT C hr (by first | exact Or.inl rfl | exact Or.inr rfl | exact b2i_01 _) d_F_has_16 (⟨by simp [hasF, b2i, bitI, h8], rfl⟩)
set_option maxHeartbeats 4000000 in
set_option maxRecDepth 100000 in
theorem c_F_empty {l : Launch} {D : va_G} {cs : Nat → ClassId} {ad : Nat → Nat} {st mt : Nat → Nat → Int32} {ov : Nat → Int64}  : gM l y_F_empty b_F_empty 1 none ({ frames := 0, cells := 0, slots := 0, locals := 0 } : Room) 0 0 [.ref (ad 1)] D cs ad st mt ov (QTv D cs ad mt ov (fun u => u = empF st)) := by
  refine gM_of (own := "TwinRegister$Draft") (by decide +kernel) rfl (Nat.le_of_ble_eq_true rfl) ?_
  intro p e s m args below meth c C hr
  refine w_lv (lv2 := [(0, .ref (ad 1))]) [0] rfl ?_
  refine w_aload_n C 0 d_F_empty_0 rfl rfl ?_
  refine w_iconst (v := 0) C d_F_empty_1 rfl ?_
  refine p_F_leaves C m_52 d_F_empty_2 ?_
  exact w_vretT C hr d_F_empty_5 (rfl)
set_option maxHeartbeats 4000000 in
set_option maxRecDepth 100000 in
theorem c_G_admits {l : Launch} {D : va_G} {cs : Nat → ClassId} {ad : Nat → Nat} {st mt : Nat → Nat → Int32} {ov : Nat → Int64} {g q k : Nat} (hg : g < 4) (hq : q < 8) (hk : k < 12) (hl : st (37 + g) 0 = nI k) : gM l y_G_admits b_G_admits 3 (some .boolean) ({ frames := 0, cells := 0, slots := 0, locals := 0 } : Room) 0 0 [.ref (ad (37 + g)), .ref (ad (4 + 4 * q))] D cs ad st mt ov (QTi D cs ad mt ov (fun r u => r = b2i (admG st g q k) ∧ u = st)) := by
  refine gM_of (own := "TwinRegister$Group") (by decide +kernel) rfl (Nat.le_of_ble_eq_true rfl) ?_
  intro p e s m args below meth c C hr
  refine w_lv (lv2 := [(0, .ref (ad (37 + g))), (1, .ref (ad (4 + 4 * q)))]) [0, 1] rfl ?_
  refine w_aload_n C 1 d_G_admits_0 rfl rfl ?_
  refine gN_D_reportedValues C (by omega) m_69 d_G_admits_1 ?_
  refine w_aload_n C 0 d_G_admits_4 rfl rfl ?_
  refine g_G_leaf C (by omega) m_106 d_G_admits_5 ?_
  refine ia_DV C (by omega) (by omega) hl (by omega) d_G_admits_8 ?_
  refine w_istore_n (lv2 := [(2, .int _), (0, .ref (ad (37 + g))), (1, .ref (ad (4 + 4 * q)))]) C d_G_admits_9 rfl (by decide) rfl ?_
  refine w_iload_n C 0 d_G_admits_10 rfl rfl ?_
  refine w_aload_n C 1 d_G_admits_11 rfl rfl ?_
  refine g_G_low C (by omega) m_108 d_G_admits_12 ?_
  refine w_icmp_lt C 30 d_G_admits_15 (by decide) (fun h15 => ?_) (fun h15 => ?_)
  · skip
    refine w_iconst (v := 0) C d_G_admits_30 rfl ?_
    exact w_zretT C hr (by first | exact Or.inl rfl | exact Or.inr rfl | exact b2i_01 _) d_G_admits_31 (⟨by simp [admG, b2i, h15], rfl⟩)
  · skip
    refine w_iload_n C 0 d_G_admits_18 rfl rfl ?_
    refine w_aload_n C 1 d_G_admits_19 rfl rfl ?_
    refine g_G_high C (by omega) m_110 d_G_admits_20 ?_
    refine w_icmp_gt C 30 d_G_admits_23 (by decide) (fun h23 => ?_) (fun h23 => ?_)
    · skip
      refine w_iconst (v := 0) C d_G_admits_30 rfl ?_
      exact w_zretT C hr (by first | exact Or.inl rfl | exact Or.inr rfl | exact b2i_01 _) d_G_admits_31 (⟨by simp [admG, b2i, h15, h23], rfl⟩)
    · skip
      refine w_iconst (v := 1) C d_G_admits_26 rfl ?_
      refine w_goto C 31 d_G_admits_27 (by decide) ?_
      exact w_zretT C hr (by first | exact Or.inl rfl | exact Or.inr rfl | exact b2i_01 _) d_G_admits_31 (⟨by simp [admG, b2i, h15, h23], rfl⟩)
set_option maxHeartbeats 4000000 in
set_option maxRecDepth 100000 in
theorem c_J_open {l : Launch} {D : va_G} {cs : Nat → ClassId} {ad : Nat → Nat} {st mt : Nat → Nat → Int32} {ov : Nat → Int64} {j : Nat} (hj : j < 8) : gM l y_J_open b_J_open 1 (some .int) ({ frames := 0, cells := 0, slots := 0, locals := 0 } : Room) 0 0 [.ref (ad (42 + j))] D cs ad st mt ov (QTi D cs ad mt ov (fun r u => r = opnJ st j ∧ u = st)) := by
  refine gM_of (own := "TwinRegister$Job") (by decide +kernel) rfl (Nat.le_of_ble_eq_true rfl) ?_
  intro p e s m args below meth c C hr
  refine w_lv (lv2 := [(0, .ref (ad (42 + j)))]) [0] rfl ?_
  refine w_aload_n C 0 d_J_open_0 rfl rfl ?_
  refine g_J_started C (by omega) m_133 d_J_open_1 ?_
  refine w_aload_n C 0 d_J_open_4 rfl rfl ?_
  refine g_J_done C (by omega) m_135 d_J_open_5 ?_
  refine w_iconst (v := (-1)) C d_J_open_8 rfl ?_
  refine w_ixor C d_J_open_9 ?_
  refine w_iand C d_J_open_10 ?_
  refine w_aload_n C 0 d_J_open_11 rfl rfl ?_
  refine g_J_failed C (by omega) m_137 d_J_open_12 ?_
  refine w_iconst (v := (-1)) C d_J_open_15 rfl ?_
  refine w_ixor C d_J_open_16 ?_
  refine w_iand C d_J_open_17 ?_
  exact w_iretT C hr d_J_open_18 (⟨rfl, rfl⟩)
set_option maxHeartbeats 4000000 in
set_option maxRecDepth 100000 in
theorem c_I_bitCount {l : Launch} {D : va_G} {cs : Nat → ClassId} {ad : Nat → Nat} {st mt : Nat → Nat → Int32} {ov : Nat → Int64} {x : Int32} : gM l y_I_bitCount b_I_bitCount 1 (some .int) ({ frames := 0, cells := 0, slots := 0, locals := 0 } : Room) 0 0 [.int x] D cs ad st mt ov (QTi D cs ad mt ov (fun r u => r = bcI x ∧ u = st)) := by
  refine gM_of (own := "java/lang/Integer") (by decide +kernel) rfl (Nat.le_of_ble_eq_true rfl) ?_
  intro p e s m args below meth c C hr
  refine w_lv (lv2 := [(0, .int x)]) [0] rfl ?_
  refine w_iload_n C 0 d_I_bitCount_0 rfl rfl ?_
  refine w_iload_n C 0 d_I_bitCount_1 rfl rfl ?_
  refine w_iconst (v := 1) C d_I_bitCount_2 rfl ?_
  refine w_iushr C d_I_bitCount_3 rfl ?_
  refine w_ldcw (v := 1431655765) C m_297 d_I_bitCount_4 ?_
  refine w_iand C d_I_bitCount_7 ?_
  refine w_isub C d_I_bitCount_8 ?_
  refine w_topi (y := (bc1 x)) (rfl) ?_
  refine w_istore_n (lv2 := [(0, .int (bc1 x))]) C d_I_bitCount_9 rfl (by decide) rfl ?_
  refine w_iload_n C 0 d_I_bitCount_10 rfl rfl ?_
  refine w_ldcw (v := 858993459) C m_298 d_I_bitCount_11 ?_
  refine w_iand C d_I_bitCount_14 ?_
  refine w_iload_n C 0 d_I_bitCount_15 rfl rfl ?_
  refine w_iconst (v := 2) C d_I_bitCount_16 rfl ?_
  refine w_iushr C d_I_bitCount_17 rfl ?_
  refine w_ldcw (v := 858993459) C m_298 d_I_bitCount_18 ?_
  refine w_iand C d_I_bitCount_21 ?_
  refine w_iadd C d_I_bitCount_22 ?_
  refine w_topi (y := (bc2 x)) (rfl) ?_
  refine w_istore_n (lv2 := [(0, .int (bc2 x))]) C d_I_bitCount_23 rfl (by decide) rfl ?_
  refine w_iload_n C 0 d_I_bitCount_24 rfl rfl ?_
  refine w_iload_n C 0 d_I_bitCount_25 rfl rfl ?_
  refine w_iconst (v := 4) C d_I_bitCount_26 rfl ?_
  refine w_iushr C d_I_bitCount_27 rfl ?_
  refine w_iadd C d_I_bitCount_28 ?_
  refine w_ldcw (v := 252645135) C m_299 d_I_bitCount_29 ?_
  refine w_iand C d_I_bitCount_32 ?_
  refine w_topi (y := (bc3 x)) (rfl) ?_
  refine w_istore_n (lv2 := [(0, .int (bc3 x))]) C d_I_bitCount_33 rfl (by decide) rfl ?_
  refine w_iload_n C 0 d_I_bitCount_34 rfl rfl ?_
  refine w_iload_n C 0 d_I_bitCount_35 rfl rfl ?_
  refine w_bipush (v := 8) C d_I_bitCount_36 rfl ?_
  refine w_iushr C d_I_bitCount_38 rfl ?_
  refine w_iadd C d_I_bitCount_39 ?_
  refine w_topi (y := (bc4 x)) (rfl) ?_
  refine w_istore_n (lv2 := [(0, .int (bc4 x))]) C d_I_bitCount_40 rfl (by decide) rfl ?_
  refine w_iload_n C 0 d_I_bitCount_41 rfl rfl ?_
  refine w_iload_n C 0 d_I_bitCount_42 rfl rfl ?_
  refine w_bipush (v := 16) C d_I_bitCount_43 rfl ?_
  refine w_iushr C d_I_bitCount_45 rfl ?_
  refine w_iadd C d_I_bitCount_46 ?_
  refine w_istore_n (lv2 := [(0, .int _)]) C d_I_bitCount_47 rfl (by decide) rfl ?_
  refine w_iload_n C 0 d_I_bitCount_48 rfl rfl ?_
  refine w_bipush (v := 63) C d_I_bitCount_49 rfl ?_
  refine w_iand C d_I_bitCount_51 ?_
  refine w_topi (y := (bcI x)) (rfl) ?_
  exact w_iretT C hr d_I_bitCount_52 (⟨rfl, rfl⟩)
set_option maxHeartbeats 4000000 in
set_option maxRecDepth 100000 in
theorem c_F_count {l : Launch} {D : va_G} {cs : Nat → ClassId} {ad : Nat → Nat} {st mt : Nat → Nat → Int32} {ov : Nat → Int64}  : gM l y_F_count b_F_count 1 (some .int) ({ frames := 1, cells := 0, slots := 0, locals := 20 } : Room) 0 0 [.ref (ad 1)] D cs ad st mt ov (QTi D cs ad mt ov (fun r u => r = bcI (st 1 1) ∧ u = st)) := by
  refine gM_of (own := "TwinRegister$Draft") (by decide +kernel) rfl (Nat.le_of_ble_eq_true rfl) ?_
  intro p e s m args below meth c C hr
  refine w_lv (lv2 := [(0, .ref (ad 1))]) [0] rfl ?_
  refine w_aload_n C 0 d_F_count_0 rfl rfl ?_
  refine g_F_leaves C m_52 d_F_count_1 ?_
  refine w_callTi C (w_runS C (c_I_bitCount ) m_294 m_295 m_34 m_296 ⟨rfl, rfl⟩ hd_I_bitCount rfl ⟨Nat.le_of_ble_eq_true rfl, Nat.le_of_ble_eq_true rfl⟩ rfl (Nat.le_of_ble_eq_true rfl) d_F_count_4 ⟨Nat.le_of_ble_eq_true rfl, Nat.le_of_ble_eq_true rfl⟩) (fun r4 u4 h4 => ?_)
  obtain ⟨rfl, h4⟩ := h4; have h4 := h4.symm; subst h4
  exact w_iretT C hr d_F_count_7 (⟨rfl, rfl⟩)
