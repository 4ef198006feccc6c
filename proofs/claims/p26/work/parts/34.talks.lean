set_option maxHeartbeats 4000000 in
set_option maxRecDepth 100000 in
theorem t_put2 {p : Program} {l : Launch} {e : Env} {s : State} {m : MethodId} {args : Array Value} {below : List Frame} {meth : Method} {c : Code} {D : va_G} {cs : Nat → ClassId} {ad : Nat → Nat} {st mt : Nat → Nat → Int32} {ov : Nat → Int64} {B : Nat} {q k : Nat} (hq : q < 5) (hk : k < 12) {v : Int32} (hv : okV v) (C : Cx p s m args meth c D cs ad (gA ad 60 s.heap.size) b_L_talks 13 "TwinRegisterLaw") (hr : meth.sig.returnType = some .boolean) (hl : l.stackTraces = false) (hB : B < 100000) (hRP : RP B st mt) : Wg p l e ({ frames := 9, cells := 97, slots := 582, locals := 171 } : Room) s m args below meth c (MQ below (QPi D cs ad ov (fun r u => r = 1 ∧ RP (B + 40) u.1 u.2) s.heap.size) args s 97 582 (gA ad 60 s.heap.size)) D cs ad (gA ad 60 s.heap.size) 13 0 0 68 [(0, .ref (ad 0)), (8, .ref (ad 54)), (9, .int (nI q)), (10, .int (nI k))] [.int v] st mt ov := by
  have hRP2 : RP B (asgF st k v) (up2 mt 4 k v) := RP_asg hk (okV_R hv) hRP
  refine w_istore (lv2 := [(11, .int v), (0, .ref (ad 0)), (8, .ref (ad 54)), (9, .int (nI q)), (10, .int (nI k))]) C d_L_talks_68 (by decide) rfl ?_
  refine w_aload C 2 d_L_talks_70 rfl ?_
  refine w_iload C 4 d_L_talks_72 rfl ?_
  refine w_iload C 0 d_L_talks_74 rfl ?_
  refine is_MA C 4 (by omega) rfl rfl (show _ < 12 by omega) d_L_talks_76 ?_
  refine w_aload_n C 1 d_L_talks_77 rfl rfl ?_
  refine w_bipush (v := 12) C d_L_talks_78 rfl ?_
  refine w_bipush (v := -2) C d_L_talks_80 rfl ?_
  refine w_callTi C (w_runSW C (c_L_put hl) m_187 m_188 m_23 m_189 ⟨rfl, rfl⟩ hd_L_put rfl ⟨Nat.le_of_ble_eq_true rfl, Nat.le_of_ble_eq_true rfl⟩ rfl (Nat.le_of_ble_eq_true rfl) d_L_talks_82 ⟨Nat.le_of_ble_eq_true rfl, Nat.le_of_ble_eq_true rfl⟩) (fun r9 u9 h9 => ?_)
  obtain ⟨e1, e2⟩ := X_put_O (inR_no1 (n := 12) (by decide) (by decide)) h9
  rw [e1, e2]
  refine w_bipush (v := -71) C d_L_talks_85 rfl ?_
  refine w_icmp_ne_f C 147 d_L_talks_87 (by decide) (by decide) ?_
  refine w_aload_n C 1 d_L_talks_90 rfl rfl ?_
  refine w_iconst (v := (-1)) C d_L_talks_91 rfl ?_
  refine w_iconst (v := 0) C d_L_talks_92 rfl ?_
  refine w_callTi C (w_runSW C (c_L_put hl) m_187 m_188 m_23 m_189 ⟨rfl, rfl⟩ hd_L_put rfl ⟨Nat.le_of_ble_eq_true rfl, Nat.le_of_ble_eq_true rfl⟩ rfl (Nat.le_of_ble_eq_true rfl) d_L_talks_93 ⟨Nat.le_of_ble_eq_true rfl, Nat.le_of_ble_eq_true rfl⟩) (fun r9 u9 h9 => ?_)
  obtain ⟨e1, e2⟩ := X_put_O (inR_no0 (n := 12) (by decide) (by decide)) h9
  rw [e1, e2]
  refine w_bipush (v := -71) C d_L_talks_96 rfl ?_
  refine w_icmp_ne_f C 147 d_L_talks_98 (by decide) (by decide) ?_
  refine w_aload_n C 1 d_L_talks_101 rfl rfl ?_
  refine w_iload C 4 d_L_talks_102 rfl ?_
  refine w_bipush (v := 100) C d_L_talks_104 rfl ?_
  refine w_callTi C (w_runSW C (c_L_put hl) m_187 m_188 m_23 m_189 ⟨rfl, rfl⟩ hd_L_put rfl ⟨Nat.le_of_ble_eq_true rfl, Nat.le_of_ble_eq_true rfl⟩ rfl (Nat.le_of_ble_eq_true rfl) d_L_talks_106 ⟨Nat.le_of_ble_eq_true rfl, Nat.le_of_ble_eq_true rfl⟩) (fun r9 u9 h9 => ?_)
  obtain ⟨e1, e2⟩ := X_put_A (inR_nI hk) nokV_100 h9
  rw [e1, e2]
  refine w_bipush (v := -72) C d_L_talks_109 rfl ?_
  refine w_icmp_ne_f C 147 d_L_talks_111 (by decide) (by decide) ?_
  refine w_aload_n C 1 d_L_talks_114 rfl rfl ?_
  refine w_iload C 4 d_L_talks_115 rfl ?_
  refine w_bipush (v := -2) C d_L_talks_117 rfl ?_
  refine w_callTi C (w_runSW C (c_L_put hl) m_187 m_188 m_23 m_189 ⟨rfl, rfl⟩ hd_L_put rfl ⟨Nat.le_of_ble_eq_true rfl, Nat.le_of_ble_eq_true rfl⟩ rfl (Nat.le_of_ble_eq_true rfl) d_L_talks_119 ⟨Nat.le_of_ble_eq_true rfl, Nat.le_of_ble_eq_true rfl⟩) (fun r9 u9 h9 => ?_)
  obtain ⟨e1, e2⟩ := X_put_A (inR_nI hk) nokV_m2 h9
  rw [e1, e2]
  refine w_bipush (v := -72) C d_L_talks_122 rfl ?_
  refine w_icmp_ne_f C 147 d_L_talks_124 (by decide) (by decide) ?_
  refine w_aload_n C 1 d_L_talks_127 rfl rfl ?_
  refine w_iload C 4 d_L_talks_128 rfl ?_
  refine w_iload C 0 d_L_talks_130 rfl ?_
  refine w_callTi C (w_runSW C (c_L_put hl) m_187 m_188 m_23 m_189 ⟨rfl, rfl⟩ hd_L_put rfl ⟨Nat.le_of_ble_eq_true rfl, Nat.le_of_ble_eq_true rfl⟩ rfl (Nat.le_of_ble_eq_true rfl) d_L_talks_132 ⟨Nat.le_of_ble_eq_true rfl, Nat.le_of_ble_eq_true rfl⟩) (fun r9 u9 h9 => ?_)
  obtain ⟨e1, e2⟩ := X_put_k hk hv h9
  rw [e1, e2]
  refine w_aload C 2 d_L_talks_135 rfl ?_
  refine w_callMi C (w_runS C (c_L_drafted ) m_300 m_301 m_23 m_302 ⟨rfl, rfl⟩ hd_L_drafted rfl ⟨Nat.le_of_ble_eq_true rfl, Nat.le_of_ble_eq_true rfl⟩ rfl (Nat.le_of_ble_eq_true rfl) d_L_talks_137 ⟨Nat.le_of_ble_eq_true rfl, Nat.le_of_ble_eq_true rfl⟩) (fun r137 u137 h137 => ?_)
  obtain ⟨rfl, h137⟩ := h137; have h137 := h137.symm; subst h137
  refine w_icmp_ne_f C 147 d_L_talks_140 (by decide) (drL_eq hRP2) ?_
  refine w_iconst (v := 1) C d_L_talks_143 rfl ?_
  refine w_goto C 148 d_L_talks_144 (by decide) ?_
  refine w_widen (k2 := 97) (n2 := 582) (Nat.le_of_ble_eq_true rfl) (Nat.le_of_ble_eq_true rfl) ?_
  exact w_zretP C hr (Or.inr rfl) d_L_talks_148 (⟨rfl, RP_w hRP2 (by omega)⟩)
set_option maxHeartbeats 4000000 in
set_option maxRecDepth 100000 in
theorem t_put {p : Program} {l : Launch} {e : Env} {s : State} {m : MethodId} {args : Array Value} {below : List Frame} {meth : Method} {c : Code} {D : va_G} {cs : Nat → ClassId} {ad : Nat → Nat} {st mt : Nat → Nat → Int32} {ov : Nat → Int64} {B : Nat} {q k : Nat} (hq : q < 5) (hk : k < 12) {act y z : Int32} (C : Cx p s m args meth c D cs ad (gA ad 60 s.heap.size) b_L_talks 13 "TwinRegisterLaw") (hr : meth.sig.returnType = some .boolean) (hl : l.stackTraces = false) (hB : B < 100000) (hRP : RP B st mt) : Wg p l e ({ frames := 9, cells := 97, slots := 582, locals := 171 } : Room) s m args below meth c (MQ below (QPi D cs ad ov (fun r u => r = 1 ∧ RP (B + 40) u.1 u.2) s.heap.size) args s 97 582 (gA ad 60 s.heap.size)) D cs ad (gA ad 60 s.heap.size) 13 0 0 35 [(0, .ref (ad 0)), (1, .int act), (2, .int y), (3, .int z), (4, .ref (ad 50)), (5, .ref (ad 51)), (6, .ref (ad 52)), (7, .ref (ad 53)), (8, .ref (ad 54)), (9, .int (nI q)), (10, .int (nI k))] [] st mt ov := by
  refine w_iload_n C 3 d_L_talks_35 rfl rfl ?_
  refine w_sipush (v := 768) C d_L_talks_36 rfl ?_
  refine w_iand C d_L_talks_39 ?_
  refine w_if_ne C 47 d_L_talks_40 (by decide) (fun h40 => ?_) (fun h40 => ?_)
  · skip
    refine w_iload_n C 3 d_L_talks_47 rfl rfl ?_
    refine w_bipush (v := 10) C d_L_talks_48 rfl ?_
    refine w_ishr C d_L_talks_50 ?_
    refine w_iload_n C 3 d_L_talks_51 rfl rfl ?_
    refine w_sipush (v := 1024) C d_L_talks_52 rfl ?_
    refine w_iand C d_L_talks_55 ?_
    refine w_if_ne C 64 d_L_talks_56 (by decide) (fun h56 => ?_) (fun h56 => ?_)
    · skip
      refine w_iconst (v := 4) C d_L_talks_64 rfl ?_
      refine w_callMi C (w_runS C (c_L_low (n := 4) ⟨by decide, by decide⟩) m_178 m_179 m_23 m_180 ⟨rfl, rfl⟩ hd_L_low rfl ⟨Nat.le_of_ble_eq_true rfl, Nat.le_of_ble_eq_true rfl⟩ rfl (Nat.le_of_ble_eq_true rfl) d_L_talks_65 ⟨Nat.le_of_ble_eq_true rfl, Nat.le_of_ble_eq_true rfl⟩) (fun r9 u9 h9 => ?_)
      obtain ⟨⟨k65, hk65, e1⟩, e2⟩ := h9
      rw [e1, e2]
      exact w_lv (lv2 := [(0, .ref (ad 0)), (8, .ref (ad 54)), (9, .int (nI q)), (10, .int (nI k))]) [0, 8, 9, 10] rfl (t_put2 hq hk (okV_nI (by omega)) C hr hl hB hRP)
    · skip
      refine w_bipush (v := 100) C d_L_talks_59 rfl ?_
      refine w_goto C 65 d_L_talks_61 (by decide) ?_
      refine w_callMi C (w_runS C (c_L_low (n := 100) ⟨by decide, by decide⟩) m_178 m_179 m_23 m_180 ⟨rfl, rfl⟩ hd_L_low rfl ⟨Nat.le_of_ble_eq_true rfl, Nat.le_of_ble_eq_true rfl⟩ rfl (Nat.le_of_ble_eq_true rfl) d_L_talks_65 ⟨Nat.le_of_ble_eq_true rfl, Nat.le_of_ble_eq_true rfl⟩) (fun r9 u9 h9 => ?_)
      obtain ⟨⟨k65, hk65, e1⟩, e2⟩ := h9
      rw [e1, e2]
      exact w_lv (lv2 := [(0, .ref (ad 0)), (8, .ref (ad 54)), (9, .int (nI q)), (10, .int (nI k))]) [0, 8, 9, 10] rfl (t_put2 hq hk (okV_nI (by omega)) C hr hl hB hRP)
  · skip
    refine w_iconst (v := (-1)) C d_L_talks_43 rfl ?_
    refine w_goto C 68 d_L_talks_44 (by decide) ?_
    exact w_lv (lv2 := [(0, .ref (ad 0)), (8, .ref (ad 54)), (9, .int (nI q)), (10, .int (nI k))]) [0, 8, 9, 10] rfl (t_put2 hq hk (Or.inl rfl) C hr hl hB hRP)
set_option maxHeartbeats 4000000 in
set_option maxRecDepth 100000 in
theorem t_drop {p : Program} {l : Launch} {e : Env} {s : State} {m : MethodId} {args : Array Value} {below : List Frame} {meth : Method} {c : Code} {D : va_G} {cs : Nat → ClassId} {ad : Nat → Nat} {st mt : Nat → Nat → Int32} {ov : Nat → Int64} {B : Nat} {q k : Nat} (hq : q < 5) (hk : k < 12) {act y z : Int32} (C : Cx p s m args meth c D cs ad (gA ad 60 s.heap.size) b_L_talks 13 "TwinRegisterLaw") (hr : meth.sig.returnType = some .boolean) (hl : l.stackTraces = false) (hB : B < 100000) (hRP : RP B st mt) : Wg p l e ({ frames := 9, cells := 97, slots := 582, locals := 171 } : Room) s m args below meth c (MQ below (QPi D cs ad ov (fun r u => r = 1 ∧ RP (B + 40) u.1 u.2) s.heap.size) args s 97 582 (gA ad 60 s.heap.size)) D cs ad (gA ad 60 s.heap.size) 13 0 0 154 [(0, .ref (ad 0)), (1, .int act), (2, .int y), (3, .int z), (4, .ref (ad 50)), (5, .ref (ad 51)), (6, .ref (ad 52)), (7, .ref (ad 53)), (8, .ref (ad 54)), (9, .int (nI q)), (10, .int (nI k))] [] st mt ov := by
  refine w_iload_n C 3 d_L_talks_154 rfl rfl ?_
  refine w_iconst (v := 3) C d_L_talks_155 rfl ?_
  refine w_callMi C (w_runS C (c_L_low (n := 3) ⟨by decide, by decide⟩) m_178 m_179 m_23 m_180 ⟨rfl, rfl⟩ hd_L_low rfl ⟨Nat.le_of_ble_eq_true rfl, Nat.le_of_ble_eq_true rfl⟩ rfl (Nat.le_of_ble_eq_true rfl) d_L_talks_156 ⟨Nat.le_of_ble_eq_true rfl, Nat.le_of_ble_eq_true rfl⟩) (fun r9 u9 h9 => ?_)
  obtain ⟨⟨k156, hk156, e1⟩, e2⟩ := h9
  rw [e1, e2]
  refine w_istore (lv2 := [(11, .int (nI k156)), (0, .ref (ad 0)), (1, .int act), (2, .int y), (3, .int z), (4, .ref (ad 50)), (5, .ref (ad 51)), (6, .ref (ad 52)), (7, .ref (ad 53)), (8, .ref (ad 54)), (9, .int (nI q)), (10, .int (nI k))]) C d_L_talks_159 (by decide) rfl ?_
  refine w_iconst (v := 4) C d_L_talks_161 rfl ?_
  refine w_iload C 0 d_L_talks_162 rfl ?_
  refine w_imul C d_L_talks_164 ?_
  refine w_topi (y := (nI (4 * k156))) (pk_mul 4 k156) ?_
  refine w_istore (lv2 := [(12, .int (nI (4 * k156))), (11, .int (nI k156)), (0, .ref (ad 0)), (1, .int act), (2, .int y), (3, .int z), (4, .ref (ad 50)), (5, .ref (ad 51)), (6, .ref (ad 52)), (7, .ref (ad 53)), (8, .ref (ad 54)), (9, .int (nI q)), (10, .int (nI k))]) C d_L_talks_165 (by decide) rfl ?_
  refine w_lv (lv2 := [(0, .ref (ad 0)), (8, .ref (ad 54)), (11, .int (nI k156)), (12, .int (nI (4 * k156 + 0)))]) [2, 10, 1, 0] rfl ?_
  refine l_tdrop hk156 C ⟨Nat.le_of_ble_eq_true rfl, Nat.le_of_ble_eq_true rfl⟩ ?_ 4 0 rfl
  have hRP2 := RP_dpL hk156 hRP 4 (Nat.le_refl _)
  refine w_aload_n C 0 d_L_talks_190 rfl rfl ?_
  refine w_iconst (v := 3) C d_L_talks_191 rfl ?_
  refine w_callTi C (w_runSW C (c_L_drop hl) m_303 m_304 m_23 m_305 ⟨rfl, rfl⟩ hd_L_drop rfl ⟨Nat.le_of_ble_eq_true rfl, Nat.le_of_ble_eq_true rfl⟩ rfl (Nat.le_of_ble_eq_true rfl) d_L_talks_192 ⟨Nat.le_of_ble_eq_true rfl, Nat.le_of_ble_eq_true rfl⟩) (fun r9 u9 h9 => ?_)
  obtain ⟨e1, e2⟩ := X_drop_O (inR_no1 (n := 3) (by decide) (by decide)) h9
  rw [e1, e2]
  refine w_bipush (v := -71) C d_L_talks_195 rfl ?_
  refine w_icmp_ne_f C 228 d_L_talks_197 (by decide) (by decide) ?_
  refine w_aload_n C 0 d_L_talks_200 rfl rfl ?_
  refine w_iconst (v := (-1)) C d_L_talks_201 rfl ?_
  refine w_callTi C (w_runSW C (c_L_drop hl) m_303 m_304 m_23 m_305 ⟨rfl, rfl⟩ hd_L_drop rfl ⟨Nat.le_of_ble_eq_true rfl, Nat.le_of_ble_eq_true rfl⟩ rfl (Nat.le_of_ble_eq_true rfl) d_L_talks_202 ⟨Nat.le_of_ble_eq_true rfl, Nat.le_of_ble_eq_true rfl⟩) (fun r9 u9 h9 => ?_)
  obtain ⟨e1, e2⟩ := X_drop_O (inR_no0 (n := 3) (by decide) (by decide)) h9
  rw [e1, e2]
  refine w_bipush (v := -71) C d_L_talks_205 rfl ?_
  refine w_icmp_ne_f C 228 d_L_talks_207 (by decide) (by decide) ?_
  refine w_aload_n C 0 d_L_talks_210 rfl rfl ?_
  refine w_iload C 2 d_L_talks_211 rfl ?_
  refine w_callTi C (w_runSW C (c_L_drop hl) m_303 m_304 m_23 m_305 ⟨rfl, rfl⟩ hd_L_drop rfl ⟨Nat.le_of_ble_eq_true rfl, Nat.le_of_ble_eq_true rfl⟩ rfl (Nat.le_of_ble_eq_true rfl) d_L_talks_213 ⟨Nat.le_of_ble_eq_true rfl, Nat.le_of_ble_eq_true rfl⟩) (fun r9 u9 h9 => ?_)
  obtain ⟨e1, e2⟩ := X_drop_k hk156 h9
  rw [e1, e2]
  refine w_aload C 1 d_L_talks_216 rfl ?_
  refine w_callMi C (w_runS C (c_L_drafted ) m_300 m_301 m_23 m_302 ⟨rfl, rfl⟩ hd_L_drafted rfl ⟨Nat.le_of_ble_eq_true rfl, Nat.le_of_ble_eq_true rfl⟩ rfl (Nat.le_of_ble_eq_true rfl) d_L_talks_218 ⟨Nat.le_of_ble_eq_true rfl, Nat.le_of_ble_eq_true rfl⟩) (fun r218 u218 h218 => ?_)
  obtain ⟨rfl, h218⟩ := h218; have h218 := h218.symm; subst h218
  refine w_icmp_ne_f C 228 d_L_talks_221 (by decide) (drL_eq hRP2) ?_
  refine w_iconst (v := 1) C d_L_talks_224 rfl ?_
  refine w_goto C 229 d_L_talks_225 (by decide) ?_
  refine w_widen (k2 := 97) (n2 := 582) (Nat.le_of_ble_eq_true rfl) (Nat.le_of_ble_eq_true rfl) ?_
  exact w_zretP C hr (Or.inr rfl) d_L_talks_229 (⟨rfl, RP_w hRP2 (by omega)⟩)
set_option maxHeartbeats 4000000 in
set_option maxRecDepth 100000 in
theorem t_wish2 {p : Program} {l : Launch} {e : Env} {s : State} {m : MethodId} {args : Array Value} {below : List Frame} {meth : Method} {c : Code} {D : va_G} {cs : Nat → ClassId} {ad : Nat → Nat} {st mt : Nat → Nat → Int32} {ov : Nat → Int64} {B : Nat} {q n : Nat} (hq : q < 5) (hn : mt 1 q = nI n) (hnB : n ≤ B) {x : Int32} (hx : x = -1 ∨ ∃ m : Nat, n ≤ m ∧ m < n + 4 ∧ x = nI m) (C : Cx p s m args meth c D cs ad (gA ad 60 s.heap.size) b_L_talks 13 "TwinRegisterLaw") (hr : meth.sig.returnType = some .boolean) (hl : l.stackTraces = false) (hB : B < 100000) (hRP : RP B st mt) : Wg p l e ({ frames := 9, cells := 97, slots := 582, locals := 171 } : Room) s m args below meth c (MQ below (QPi D cs ad ov (fun r u => r = 1 ∧ RP (B + 40) u.1 u.2) s.heap.size) args s 97 582 (gA ad 60 s.heap.size)) D cs ad (gA ad 60 s.heap.size) 13 0 0 277 [(0, .ref (ad 0)), (4, .ref (ad 50)), (5, .ref (ad 51)), (8, .ref (ad 54)), (9, .int (nI q))] [.int x] st mt ov := by
  have hv1 : st (4 + 4 * q) 4 = nI n := (hRP.2.2.1 q hq).1.1.symm.trans hn
  have hd := drL_eq hRP
  refine w_istore (lv2 := [(11, .int x), (0, .ref (ad 0)), (4, .ref (ad 50)), (5, .ref (ad 51)), (8, .ref (ad 54)), (9, .int (nI q))]) C d_L_talks_277 (by decide) rfl ?_
  refine w_aload_n C 1 d_L_talks_279 rfl rfl ?_
  refine w_bipush (v := 8) C d_L_talks_280 rfl ?_
  refine w_iconst (v := 0) C d_L_talks_282 rfl ?_
  refine w_callTi C (w_runSW C (c_L_wish hl) m_311 m_312 m_23 m_313 ⟨rfl, rfl⟩ hd_L_wish rfl ⟨Nat.le_of_ble_eq_true rfl, Nat.le_of_ble_eq_true rfl⟩ rfl (Nat.le_of_ble_eq_true rfl) d_L_talks_283 ⟨Nat.le_of_ble_eq_true rfl, Nat.le_of_ble_eq_true rfl⟩) (fun r9 u9 h9 => ?_)
  obtain ⟨e1, e2⟩ := X_wish_O (inR_no1 (n := 8) (by decide) (by decide)) h9
  rw [e1, e2]
  refine w_bipush (v := -71) C d_L_talks_286 rfl ?_
  refine w_icmp_ne_f C 334 d_L_talks_288 (by decide) (by decide) ?_
  refine w_aload_n C 1 d_L_talks_291 rfl rfl ?_
  refine w_iconst (v := (-1)) C d_L_talks_292 rfl ?_
  refine w_iconst (v := (-1)) C d_L_talks_293 rfl ?_
  refine w_callTi C (w_runSW C (c_L_wish hl) m_311 m_312 m_23 m_313 ⟨rfl, rfl⟩ hd_L_wish rfl ⟨Nat.le_of_ble_eq_true rfl, Nat.le_of_ble_eq_true rfl⟩ rfl (Nat.le_of_ble_eq_true rfl) d_L_talks_294 ⟨Nat.le_of_ble_eq_true rfl, Nat.le_of_ble_eq_true rfl⟩) (fun r9 u9 h9 => ?_)
  obtain ⟨e1, e2⟩ := X_wish_O (inR_no0 (n := 8) (by decide) (by decide)) h9
  rw [e1, e2]
  refine w_bipush (v := -71) C d_L_talks_297 rfl ?_
  refine w_icmp_ne_f C 334 d_L_talks_299 (by decide) (by decide) ?_
  refine w_aload_n C 1 d_L_talks_302 rfl rfl ?_
  refine w_iload C 5 d_L_talks_303 rfl ?_
  refine w_bipush (v := -2) C d_L_talks_305 rfl ?_
  refine w_callTi C (w_runSW C (c_L_wish hl) m_311 m_312 m_23 m_313 ⟨rfl, rfl⟩ hd_L_wish rfl ⟨Nat.le_of_ble_eq_true rfl, Nat.le_of_ble_eq_true rfl⟩ rfl (Nat.le_of_ble_eq_true rfl) d_L_talks_307 ⟨Nat.le_of_ble_eq_true rfl, Nat.le_of_ble_eq_true rfl⟩) (fun r9 u9 h9 => ?_)
  obtain ⟨e1, e2⟩ := X_wish_S (by omega) (Or.inr ⟨by decide, fun z => neg2 (n := n) (by omega) (z.trans hv1)⟩) h9
  rw [e1, e2]
  refine w_bipush (v := -73) C d_L_talks_310 rfl ?_
  refine w_icmp_ne_f C 334 d_L_talks_312 (by decide) (by decide) ?_
  refine w_aload_n C 1 d_L_talks_315 rfl rfl ?_
  refine w_iload C 5 d_L_talks_316 rfl ?_
  refine w_aload C 3 d_L_talks_318 rfl ?_
  refine w_iload C 5 d_L_talks_320 rfl ?_
  refine ia_MA C 1 (by omega) rfl rfl (show _ < 5 by omega) d_L_talks_322 ?_
  refine w_topi (y := (nI n)) (hn) ?_
  refine w_bipush (v := 7) C d_L_talks_323 rfl ?_
  refine w_iadd C d_L_talks_325 ?_
  refine w_topi (y := (nI (n + 7))) (nI_add n 7) ?_
  refine w_callTi C (w_runSW C (c_L_wish hl) m_311 m_312 m_23 m_313 ⟨rfl, rfl⟩ hd_L_wish rfl ⟨Nat.le_of_ble_eq_true rfl, Nat.le_of_ble_eq_true rfl⟩ rfl (Nat.le_of_ble_eq_true rfl) d_L_talks_326 ⟨Nat.le_of_ble_eq_true rfl, Nat.le_of_ble_eq_true rfl⟩) (fun r9 u9 h9 => ?_)
  obtain ⟨e1, e2⟩ := X_wish_S (by omega) (Or.inr ⟨ne1 (by omega), fun z => absurd ((nI_eq (by omega) (by omega)).mp (z.trans hv1)) (by omega)⟩) h9
  rw [e1, e2]
  refine w_bipush (v := -73) C d_L_talks_329 rfl ?_
  refine w_icmp_eq_t C 336 d_L_talks_331 (by decide) (by decide) ?_
  refine w_aload C 4 d_L_talks_336 rfl ?_
  refine w_callMi C (w_runS C (c_L_drafted ) m_300 m_301 m_23 m_302 ⟨rfl, rfl⟩ hd_L_drafted rfl ⟨Nat.le_of_ble_eq_true rfl, Nat.le_of_ble_eq_true rfl⟩ rfl (Nat.le_of_ble_eq_true rfl) d_L_talks_338 ⟨Nat.le_of_ble_eq_true rfl, Nat.le_of_ble_eq_true rfl⟩) (fun r338 u338 h338 => ?_)
  obtain ⟨rfl, h338⟩ := h338; have h338 := h338.symm; subst h338
  refine w_if_eq C 354 d_L_talks_341 (by decide) (fun h341 => ?_) (fun h341 => ?_)
  · skip
    refine w_aload_n C 1 d_L_talks_354 rfl rfl ?_
    refine w_iload C 5 d_L_talks_355 rfl ?_
    refine w_iload C 0 d_L_talks_357 rfl ?_
    refine w_callTi C (w_runSW C (c_L_wish hl) m_311 m_312 m_23 m_313 ⟨rfl, rfl⟩ hd_L_wish rfl ⟨Nat.le_of_ble_eq_true rfl, Nat.le_of_ble_eq_true rfl⟩ rfl (Nat.le_of_ble_eq_true rfl) d_L_talks_359 ⟨Nat.le_of_ble_eq_true rfl, Nat.le_of_ble_eq_true rfl⟩) (fun r9 u9 h9 => ?_)
    obtain ⟨e1, e2⟩ := X_wish_S (by omega) (Or.inl (hd.trans h341)) h9
    rw [e1, e2]
    refine w_bipush (v := -73) C d_L_talks_362 rfl ?_
    refine w_icmp_ne_f C 371 d_L_talks_364 (by decide) (by decide) ?_
    refine w_iconst (v := 1) C d_L_talks_367 rfl ?_
    refine w_goto C 372 d_L_talks_368 (by decide) ?_
    refine w_widen (k2 := 97) (n2 := 582) (Nat.le_of_ble_eq_true rfl) (Nat.le_of_ble_eq_true rfl) ?_
    exact w_zretP C hr (Or.inr rfl) d_L_talks_372 (⟨rfl, RP_w hRP (by omega)⟩)
  · skip
    refine w_iload C 0 d_L_talks_344 rfl ?_
    refine w_aload C 3 d_L_talks_346 rfl ?_
    refine w_iload C 5 d_L_talks_348 rfl ?_
    refine ia_MA C 1 (by omega) rfl rfl (show _ < 5 by omega) d_L_talks_350 ?_
    refine w_topi (y := (nI n)) (hn) ?_
    refine w_icmp_le C 373 d_L_talks_351 (by decide) (fun h351 => ?_) (fun h351 => ?_)
    · skip
      refine w_iconst (v := 0) C d_L_talks_373 rfl ?_
      refine w_istore (lv2 := [(12, .int 0), (11, .int x), (0, .ref (ad 0)), (4, .ref (ad 50)), (5, .ref (ad 51)), (8, .ref (ad 54)), (9, .int (nI q))]) C d_L_talks_374 (by decide) rfl ?_
      refine w_lv (lv2 := [(0, .ref (ad 0)), (4, .ref (ad 50)), (5, .ref (ad 51)), (8, .ref (ad 54)), (9, .int (nI q)), (11, .int x), (12, .int (nI 0))]) [2, 3, 4, 5, 6, 1, 0] rfl ?_
      refine l_twish hq C ⟨Nat.le_of_ble_eq_true rfl, Nat.le_of_ble_eq_true rfl⟩ ?_ 12 0 rfl
      have hV := RP_bmp hq (RP_emp (RP_merW hq hRP 12 (Nat.le_refl _)))
      rw [← emp_bmp] at hV
      refine w_aload C 3 d_L_talks_433 rfl ?_
      refine w_callMv C (w_runS C (c_L_empty ) m_181 m_182 m_23 m_183 ⟨rfl, rfl⟩ hd_L_empty rfl ⟨Nat.le_of_ble_eq_true rfl, Nat.le_of_ble_eq_true rfl⟩ rfl (Nat.le_of_ble_eq_true rfl) d_L_talks_435 ⟨Nat.le_of_ble_eq_true rfl, Nat.le_of_ble_eq_true rfl⟩) (fun u435 h435 => ?_)
      subst h435
      refine w_aload C 2 d_L_talks_438 rfl ?_
      refine w_iload C 4 d_L_talks_440 rfl ?_
      refine w_dup2 C d_L_talks_442 rfl rfl ?_
      refine ia_MA C 1 (by omega) rfl rfl (show _ < 5 by omega) d_L_talks_443 ?_
      refine w_iconst (v := 1) C d_L_talks_444 rfl ?_
      refine w_iadd C d_L_talks_445 ?_
      refine is_MA C 1 (by omega) rfl rfl (show _ < 5 by omega) d_L_talks_446 ?_
      refine w_aload_n C 0 d_L_talks_447 rfl rfl ?_
      refine w_iload C 4 d_L_talks_448 rfl ?_
      refine w_iload C 5 d_L_talks_450 rfl ?_
      refine w_callTi C (w_runSW C (c_L_wish hl) m_311 m_312 m_23 m_313 ⟨rfl, rfl⟩ hd_L_wish rfl ⟨Nat.le_of_ble_eq_true rfl, Nat.le_of_ble_eq_true rfl⟩ rfl (Nat.le_of_ble_eq_true rfl) d_L_talks_452 ⟨Nat.le_of_ble_eq_true rfl, Nat.le_of_ble_eq_true rfl⟩) (fun r9 u9 h9 => ?_)
      obtain ⟨e1, e2⟩ := X_wish_k (by omega) (fun z => h341 (hd.symm.trans z)) (w_near (n := n) (by omega) hv1 hx h351) h9
      rw [e1, e2]
      refine w_aload C 2 d_L_talks_455 rfl ?_
      refine w_iload C 4 d_L_talks_457 rfl ?_
      refine ia_MA C 1 (by omega) rfl rfl (show _ < 5 by omega) d_L_talks_459 ?_
      refine w_icmp_ne_f C 467 d_L_talks_460 (by decide) (hV.2.2.1 q hq).1.1.symm ?_
      refine w_iconst (v := 1) C d_L_talks_463 rfl ?_
      refine w_goto C 468 d_L_talks_464 (by decide) ?_
      refine w_widen (k2 := 97) (n2 := 582) (Nat.le_of_ble_eq_true rfl) (Nat.le_of_ble_eq_true rfl) ?_
      exact w_zretP C hr (Or.inr rfl) d_L_talks_468 (⟨rfl, RP_w hV (by omega)⟩)
    · skip
      refine w_aload_n C 1 d_L_talks_354 rfl rfl ?_
      refine w_iload C 5 d_L_talks_355 rfl ?_
      refine w_iload C 0 d_L_talks_357 rfl ?_
      refine w_callTi C (w_runSW C (c_L_wish hl) m_311 m_312 m_23 m_313 ⟨rfl, rfl⟩ hd_L_wish rfl ⟨Nat.le_of_ble_eq_true rfl, Nat.le_of_ble_eq_true rfl⟩ rfl (Nat.le_of_ble_eq_true rfl) d_L_talks_359 ⟨Nat.le_of_ble_eq_true rfl, Nat.le_of_ble_eq_true rfl⟩) (fun r9 u9 h9 => ?_)
      obtain ⟨e1, e2⟩ := X_wish_S (by omega) (Or.inr (w_far (n := n) (by omega) hv1 h351)) h9
      rw [e1, e2]
      refine w_bipush (v := -73) C d_L_talks_362 rfl ?_
      refine w_icmp_ne_f C 371 d_L_talks_364 (by decide) (by decide) ?_
      refine w_iconst (v := 1) C d_L_talks_367 rfl ?_
      refine w_goto C 372 d_L_talks_368 (by decide) ?_
      refine w_widen (k2 := 97) (n2 := 582) (Nat.le_of_ble_eq_true rfl) (Nat.le_of_ble_eq_true rfl) ?_
      exact w_zretP C hr (Or.inr rfl) d_L_talks_372 (⟨rfl, RP_w hRP (by omega)⟩)
set_option maxHeartbeats 4000000 in
set_option maxRecDepth 100000 in
theorem t_wish {p : Program} {l : Launch} {e : Env} {s : State} {m : MethodId} {args : Array Value} {below : List Frame} {meth : Method} {c : Code} {D : va_G} {cs : Nat → ClassId} {ad : Nat → Nat} {st mt : Nat → Nat → Int32} {ov : Nat → Int64} {B : Nat} {q k : Nat} (hq : q < 5) (hk : k < 12) {act y z : Int32} (C : Cx p s m args meth c D cs ad (gA ad 60 s.heap.size) b_L_talks 13 "TwinRegisterLaw") (hr : meth.sig.returnType = some .boolean) (hl : l.stackTraces = false) (hB : B < 100000) (hRP : RP B st mt) : Wg p l e ({ frames := 9, cells := 97, slots := 582, locals := 171 } : Room) s m args below meth c (MQ below (QPi D cs ad ov (fun r u => r = 1 ∧ RP (B + 40) u.1 u.2) s.heap.size) args s 97 582 (gA ad 60 s.heap.size)) D cs ad (gA ad 60 s.heap.size) 13 0 0 236 [(0, .ref (ad 0)), (1, .int act), (2, .int y), (3, .int z), (4, .ref (ad 50)), (5, .ref (ad 51)), (6, .ref (ad 52)), (7, .ref (ad 53)), (8, .ref (ad 54)), (9, .int (nI q)), (10, .int (nI k))] [] st mt ov := by
  obtain ⟨n, hnB, hv1⟩ := (hRP.2.2.1 q hq).2.1
  have hn : mt 1 q = nI n := (hRP.2.2.1 q hq).1.1.trans hv1
  refine w_iload_n C 3 d_L_talks_236 rfl rfl ?_
  refine w_bipush (v := 6) C d_L_talks_237 rfl ?_
  refine w_iand C d_L_talks_239 ?_
  refine w_if_le C 247 d_L_talks_240 (by decide) (fun h240 => ?_) (fun h240 => ?_)
  · skip
    refine w_iload_n C 3 d_L_talks_247 rfl rfl ?_
    refine w_bipush (v := 8) C d_L_talks_248 rfl ?_
    refine w_iand C d_L_talks_250 ?_
    refine w_if_le C 262 d_L_talks_251 (by decide) (fun h251 => ?_) (fun h251 => ?_)
    · skip
      refine w_aload C 5 d_L_talks_262 rfl ?_
      refine w_iload C 9 d_L_talks_264 rfl ?_
      refine ia_MA C 1 (by omega) rfl rfl (show _ < 5 by omega) d_L_talks_266 ?_
      refine w_topi (y := (nI n)) (hn) ?_
      refine w_iconst (v := 1) C d_L_talks_267 rfl ?_
      refine w_iadd C d_L_talks_268 ?_
      refine w_topi (y := (nI (n + 1))) (nI_1 n) ?_
      refine w_iload_n C 3 d_L_talks_269 rfl rfl ?_
      refine w_iconst (v := 4) C d_L_talks_270 rfl ?_
      refine w_ishr C d_L_talks_271 ?_
      refine w_iconst (v := 3) C d_L_talks_272 rfl ?_
      refine w_callMi C (w_runS C (c_L_low (n := 3) ⟨by decide, by decide⟩) m_178 m_179 m_23 m_180 ⟨rfl, rfl⟩ hd_L_low rfl ⟨Nat.le_of_ble_eq_true rfl, Nat.le_of_ble_eq_true rfl⟩ rfl (Nat.le_of_ble_eq_true rfl) d_L_talks_273 ⟨Nat.le_of_ble_eq_true rfl, Nat.le_of_ble_eq_true rfl⟩) (fun r9 u9 h9 => ?_)
      obtain ⟨⟨k273, hk273, e1⟩, e2⟩ := h9
      rw [e1, e2]
      refine w_iadd C d_L_talks_276 ?_
      refine w_topi (y := (nI (n + 1 + k273))) (nI_add (n + 1) k273) ?_
      exact w_lv (lv2 := [(0, .ref (ad 0)), (4, .ref (ad 50)), (5, .ref (ad 51)), (8, .ref (ad 54)), (9, .int (nI q))]) [0, 4, 5, 8, 9] rfl (t_wish2 hq hn hnB (Or.inr ⟨(n + 1 + k273), by omega, by omega, rfl⟩) C hr hl hB hRP)
    · skip
      refine w_aload C 5 d_L_talks_254 rfl ?_
      refine w_iload C 9 d_L_talks_256 rfl ?_
      refine ia_MA C 1 (by omega) rfl rfl (show _ < 5 by omega) d_L_talks_258 ?_
      refine w_topi (y := (nI n)) (hn) ?_
      refine w_goto C 277 d_L_talks_259 (by decide) ?_
      exact w_lv (lv2 := [(0, .ref (ad 0)), (4, .ref (ad 50)), (5, .ref (ad 51)), (8, .ref (ad 54)), (9, .int (nI q))]) [0, 4, 5, 8, 9] rfl (t_wish2 hq hn hnB (Or.inr ⟨n, by omega, by omega, rfl⟩) C hr hl hB hRP)
  · skip
    refine w_iconst (v := (-1)) C d_L_talks_243 rfl ?_
    refine w_goto C 277 d_L_talks_244 (by decide) ?_
    exact w_lv (lv2 := [(0, .ref (ad 0)), (4, .ref (ad 50)), (5, .ref (ad 51)), (8, .ref (ad 54)), (9, .int (nI q))]) [0, 4, 5, 8, 9] rfl (t_wish2 hq hn hnB (Or.inl rfl) C hr hl hB hRP)
set_option maxHeartbeats 4000000 in
set_option maxRecDepth 100000 in
theorem t_rep2 {p : Program} {l : Launch} {e : Env} {s : State} {m : MethodId} {args : Array Value} {below : List Frame} {meth : Method} {c : Code} {D : va_G} {cs : Nat → ClassId} {ad : Nat → Nat} {st mt : Nat → Nat → Int32} {ov : Nat → Int64} {B : Nat} {q n m9 : Nat} (hq : q < 5) (hn : mt 3 q = nI n) (hnB : n ≤ B) (hm : m9 < n + 3) (C : Cx p s m args meth c D cs ad (gA ad 60 s.heap.size) b_L_talks 13 "TwinRegisterLaw") (hr : meth.sig.returnType = some .boolean) (hl : l.stackTraces = false) (hB : B < 100000) (hRP : RP B st mt) : Wg p l e ({ frames := 9, cells := 97, slots := 582, locals := 171 } : Room) s m args below meth c (MQ below (QPi D cs ad ov (fun r u => r = 1 ∧ RP (B + 40) u.1 u.2) s.heap.size) args s 97 582 (gA ad 60 s.heap.size)) D cs ad (gA ad 60 s.heap.size) 13 0 0 505 [(0, .ref (ad 0)), (4, .ref (ad 50)), (6, .ref (ad 52)), (7, .ref (ad 53)), (8, .ref (ad 54)), (9, .int (nI q))] [.int (nI m9)] st mt ov := by
  have hv6 : st (4 + 4 * q) 6 = nI n := (hRP.2.2.1 q hq).1.2.2.symm.trans hn
  have hv61 : st (4 + 4 * q) 6 + 1 = nI (n + 1) := by rw [hv6, nI_1]
  refine w_istore (lv2 := [(11, .int (nI m9)), (0, .ref (ad 0)), (4, .ref (ad 50)), (6, .ref (ad 52)), (7, .ref (ad 53)), (8, .ref (ad 54)), (9, .int (nI q))]) C d_L_talks_505 (by decide) rfl ?_
  refine w_aload_n C 1 d_L_talks_507 rfl rfl ?_
  refine w_bipush (v := 8) C d_L_talks_508 rfl ?_
  refine w_iconst (v := 0) C d_L_talks_510 rfl ?_
  refine w_callTi C (w_runSW C (c_L_report hl) m_365 m_366 m_23 m_367 ⟨rfl, rfl⟩ hd_L_report rfl ⟨Nat.le_of_ble_eq_true rfl, Nat.le_of_ble_eq_true rfl⟩ rfl (Nat.le_of_ble_eq_true rfl) d_L_talks_511 ⟨Nat.le_of_ble_eq_true rfl, Nat.le_of_ble_eq_true rfl⟩) (fun r9 u9 h9 => ?_)
  obtain ⟨e1, e2⟩ := X_report_O (inR_no1 (n := 8) (by decide) (by decide)) h9
  rw [e1, e2]
  refine w_bipush (v := -71) C d_L_talks_514 rfl ?_
  refine w_icmp_ne_f C 561 d_L_talks_516 (by decide) (by decide) ?_
  refine w_aload_n C 1 d_L_talks_519 rfl rfl ?_
  refine w_iload C 6 d_L_talks_520 rfl ?_
  refine w_iconst (v := 0) C d_L_talks_522 rfl ?_
  refine w_callTi C (w_runSW C (c_L_report hl) m_365 m_366 m_23 m_367 ⟨rfl, rfl⟩ hd_L_report rfl ⟨Nat.le_of_ble_eq_true rfl, Nat.le_of_ble_eq_true rfl⟩ rfl (Nat.le_of_ble_eq_true rfl) d_L_talks_523 ⟨Nat.le_of_ble_eq_true rfl, Nat.le_of_ble_eq_true rfl⟩) (fun r9 u9 h9 => ?_)
  obtain ⟨e1, e2⟩ := X_report_A (by omega) (by rw [hv61]; exact rng_n (Or.inl (by decide))) h9
  rw [e1, e2]
  refine w_bipush (v := -72) C d_L_talks_526 rfl ?_
  refine w_icmp_ne_f C 561 d_L_talks_528 (by decide) (by decide) ?_
  refine w_aload_n C 1 d_L_talks_531 rfl rfl ?_
  refine w_iload C 6 d_L_talks_532 rfl ?_
  refine w_aload C 4 d_L_talks_534 rfl ?_
  refine w_iload C 6 d_L_talks_536 rfl ?_
  refine ia_MA C 3 (by omega) rfl rfl (show _ < 5 by omega) d_L_talks_538 ?_
  refine w_topi (y := (nI n)) (hn) ?_
  refine w_iconst (v := 2) C d_L_talks_539 rfl ?_
  refine w_iadd C d_L_talks_540 ?_
  refine w_topi (y := (nI (n + 2))) (nI_add n 2) ?_
  refine w_callTi C (w_runSW C (c_L_report hl) m_365 m_366 m_23 m_367 ⟨rfl, rfl⟩ hd_L_report rfl ⟨Nat.le_of_ble_eq_true rfl, Nat.le_of_ble_eq_true rfl⟩ rfl (Nat.le_of_ble_eq_true rfl) d_L_talks_541 ⟨Nat.le_of_ble_eq_true rfl, Nat.le_of_ble_eq_true rfl⟩) (fun r9 u9 h9 => ?_)
  obtain ⟨e1, e2⟩ := X_report_A (by omega) (by rw [hv61]; exact rng_n (Or.inr (nI_ge (by omega) (by omega)))) h9
  rw [e1, e2]
  refine w_bipush (v := -72) C d_L_talks_544 rfl ?_
  refine w_icmp_ne_f C 561 d_L_talks_546 (by decide) (by decide) ?_
  refine w_aload_n C 1 d_L_talks_549 rfl rfl ?_
  refine w_iload C 6 d_L_talks_550 rfl ?_
  refine w_iconst (v := (-1)) C d_L_talks_552 rfl ?_
  refine w_callTi C (w_runSW C (c_L_report hl) m_365 m_366 m_23 m_367 ⟨rfl, rfl⟩ hd_L_report rfl ⟨Nat.le_of_ble_eq_true rfl, Nat.le_of_ble_eq_true rfl⟩ rfl (Nat.le_of_ble_eq_true rfl) d_L_talks_553 ⟨Nat.le_of_ble_eq_true rfl, Nat.le_of_ble_eq_true rfl⟩) (fun r9 u9 h9 => ?_)
  obtain ⟨e1, e2⟩ := X_report_A (by omega) (by rw [hv61]; exact rng_n (Or.inl (by decide))) h9
  rw [e1, e2]
  refine w_bipush (v := -72) C d_L_talks_556 rfl ?_
  refine w_icmp_eq_t C 563 d_L_talks_558 (by decide) (by decide) ?_
  refine w_iload C 0 d_L_talks_563 rfl ?_
  refine w_iconst (v := 1) C d_L_talks_565 rfl ?_
  refine w_icmp_lt C 581 d_L_talks_566 (by decide) (fun h566 => ?_) (fun h566 => ?_)
  · skip
    refine w_aload_n C 1 d_L_talks_581 rfl rfl ?_
    refine w_iload C 6 d_L_talks_582 rfl ?_
    refine w_iload C 0 d_L_talks_584 rfl ?_
    refine w_callTi C (w_runSW C (c_L_report hl) m_365 m_366 m_23 m_367 ⟨rfl, rfl⟩ hd_L_report rfl ⟨Nat.le_of_ble_eq_true rfl, Nat.le_of_ble_eq_true rfl⟩ rfl (Nat.le_of_ble_eq_true rfl) d_L_talks_586 ⟨Nat.le_of_ble_eq_true rfl, Nat.le_of_ble_eq_true rfl⟩) (fun r9 u9 h9 => ?_)
    obtain ⟨e1, e2⟩ := X_report_A (by omega) (by rw [hv61]; exact rng_n (Or.inl h566)) h9
    rw [e1, e2]
    refine w_bipush (v := -72) C d_L_talks_589 rfl ?_
    refine w_icmp_ne_f C 598 d_L_talks_591 (by decide) (by decide) ?_
    refine w_iconst (v := 1) C d_L_talks_594 rfl ?_
    refine w_goto C 599 d_L_talks_595 (by decide) ?_
    refine w_widen (k2 := 97) (n2 := 582) (Nat.le_of_ble_eq_true rfl) (Nat.le_of_ble_eq_true rfl) ?_
    exact w_zretP C hr (Or.inr rfl) d_L_talks_599 (⟨rfl, RP_w hRP (by omega)⟩)
  · skip
    refine w_iload C 0 d_L_talks_569 rfl ?_
    refine w_aload C 4 d_L_talks_571 rfl ?_
    refine w_iload C 6 d_L_talks_573 rfl ?_
    refine ia_MA C 3 (by omega) rfl rfl (show _ < 5 by omega) d_L_talks_575 ?_
    refine w_topi (y := (nI n)) (hn) ?_
    refine w_iconst (v := 1) C d_L_talks_576 rfl ?_
    refine w_iadd C d_L_talks_577 ?_
    refine w_topi (y := (nI (n + 1))) (nI_1 n) ?_
    refine w_icmp_le C 600 d_L_talks_578 (by decide) (fun h578 => ?_) (fun h578 => ?_)
    · skip
      refine w_aload C 3 d_L_talks_600 rfl ?_
      refine w_iload C 6 d_L_talks_602 rfl ?_
      refine ia_MA C 2 (by omega) rfl rfl (show _ < 5 by omega) d_L_talks_604 ?_
      refine w_if_lt C 627 d_L_talks_605 (by decide) (fun h605 => ?_) (fun h605 => ?_)
      · skip
        refine w_iload C 0 d_L_talks_627 rfl ?_
        refine w_aload C 4 d_L_talks_629 rfl ?_
        refine w_iload C 6 d_L_talks_631 rfl ?_
        refine ia_MA C 3 (by omega) rfl rfl (show _ < 5 by omega) d_L_talks_633 ?_
        refine w_topi (y := (nI n)) (hn) ?_
        refine w_icmp_le C 700 d_L_talks_634 (by decide) (fun h634 => ?_) (fun h634 => ?_)
        · skip
          refine w_aload C 5 d_L_talks_700 rfl ?_
          refine w_callMv C (w_runS C (c_L_empty ) m_181 m_182 m_23 m_183 ⟨rfl, rfl⟩ hd_L_empty rfl ⟨Nat.le_of_ble_eq_true rfl, Nat.le_of_ble_eq_true rfl⟩ rfl (Nat.le_of_ble_eq_true rfl) d_L_talks_702 ⟨Nat.le_of_ble_eq_true rfl, Nat.le_of_ble_eq_true rfl⟩) (fun u702 h702 => ?_)
          subst h702
          refine w_iload C 0 d_L_talks_705 rfl ?_
          refine w_aload C 4 d_L_talks_707 rfl ?_
          refine w_iload C 6 d_L_talks_709 rfl ?_
          refine ia_MA C 3 (by omega) rfl rfl (show _ < 5 by omega) d_L_talks_711 ?_
          refine w_topi (y := (nI n)) ((congrFun (emL_out (mt := mt) (a := 3) (by decide) 12) q).trans hn) ?_
          refine w_icmp_gt_f C 733 d_L_talks_712 (by decide) (Int32.not_lt.mpr h634) ?_
          refine w_aload_n C 1 d_L_talks_715 rfl rfl ?_
          refine w_iload C 6 d_L_talks_716 rfl ?_
          refine w_iload C 0 d_L_talks_718 rfl ?_
          refine w_callTi C (w_runSW C (c_L_report hl) m_365 m_366 m_23 m_367 ⟨rfl, rfl⟩ hd_L_report rfl ⟨Nat.le_of_ble_eq_true rfl, Nat.le_of_ble_eq_true rfl⟩ rfl (Nat.le_of_ble_eq_true rfl) d_L_talks_720 ⟨Nat.le_of_ble_eq_true rfl, Nat.le_of_ble_eq_true rfl⟩) (fun r9 u9 h9 => ?_)
          obtain ⟨e1, e2⟩ := X_report_d (by omega) (by rw [hv61]; exact ⟨h566, h578⟩) (h_awk2 hB hq hRP h605) (by rw [hv6]; exact Int32.not_lt.mpr h634) h9
          rw [e1, e2]
          refine w_iconst (v := (-1)) C d_L_talks_723 rfl ?_
          refine w_icmp_ne_f C 731 d_L_talks_724 (by decide) (by decide) ?_
          refine w_iconst (v := 1) C d_L_talks_727 rfl ?_
          refine w_goto C 732 d_L_talks_728 (by decide) ?_
          refine w_widen (k2 := 97) (n2 := 582) (Nat.le_of_ble_eq_true rfl) (Nat.le_of_ble_eq_true rfl) ?_
          exact w_zretP C hr (Or.inr rfl) d_L_talks_732 (⟨rfl, RP_w (RP_emp hRP) (by omega)⟩)
        · skip
          refine w_iconst (v := 0) C d_L_talks_637 rfl ?_
          refine w_istore (lv2 := [(12, .int 0), (11, .int (nI m9)), (0, .ref (ad 0)), (4, .ref (ad 50)), (6, .ref (ad 52)), (7, .ref (ad 53)), (8, .ref (ad 54)), (9, .int (nI q))]) C d_L_talks_638 (by decide) rfl ?_
          refine w_lv (lv2 := [(0, .ref (ad 0)), (4, .ref (ad 50)), (7, .ref (ad 53)), (8, .ref (ad 54)), (9, .int (nI q)), (11, .int (nI m9)), (12, .int (nI 0))]) [2, 3, 5, 6, 7, 1, 0] rfl ?_
          refine l_trep hq C ⟨Nat.le_of_ble_eq_true rfl, Nat.le_of_ble_eq_true rfl⟩ ?_ 12 0 rfl
          refine w_aload C 3 d_L_talks_700 rfl ?_
          refine w_callMv C (w_runS C (c_L_empty ) m_181 m_182 m_23 m_183 ⟨rfl, rfl⟩ hd_L_empty rfl ⟨Nat.le_of_ble_eq_true rfl, Nat.le_of_ble_eq_true rfl⟩ rfl (Nat.le_of_ble_eq_true rfl) d_L_talks_702 ⟨Nat.le_of_ble_eq_true rfl, Nat.le_of_ble_eq_true rfl⟩) (fun u702 h702 => ?_)
          subst h702
          refine w_iload C 5 d_L_talks_705 rfl ?_
          refine w_aload C 2 d_L_talks_707 rfl ?_
          refine w_iload C 4 d_L_talks_709 rfl ?_
          refine ia_MA C 3 (by omega) rfl rfl (show _ < 5 by omega) d_L_talks_711 ?_
          refine w_topi (y := (nI n)) ((congrFun (emL_out (mt := rpL mt q 12) (a := 3) (by decide) 12) q).trans ((congrFun (rpL_out (mt := mt) (q := q) (a := 3) (by decide) 12) q).trans hn)) ?_
          refine w_icmp_gt_t C 733 d_L_talks_712 (by decide) (Int32.not_le.mp h634) ?_
          have hR2 := RP_emp (RP_merR hq hRP 12 (Nat.le_refl _))
          have ev : nI m9 = empF (merR st q 12) (4 + 4 * q) 6 + 1 := num_up (x := 0) (by omega) hm (by rw [emp_6, merR_6 12]; exact hv6) h578 h634
          have hR3 := RP_num6 hq ev hR2
          rw [← emp_num] at hR3
          refine w_aload C 2 d_L_talks_733 rfl ?_
          refine w_iload C 4 d_L_talks_735 rfl ?_
          refine w_dup2 C d_L_talks_737 rfl rfl ?_
          refine ia_MA C 3 (by omega) rfl rfl (show _ < 5 by omega) d_L_talks_738 ?_
          refine w_iconst (v := 1) C d_L_talks_739 rfl ?_
          refine w_iadd C d_L_talks_740 ?_
          refine is_MA C 3 (by omega) rfl rfl (show _ < 5 by omega) d_L_talks_741 ?_
          refine w_aload_n C 0 d_L_talks_742 rfl rfl ?_
          refine w_iload C 4 d_L_talks_743 rfl ?_
          refine w_iload C 5 d_L_talks_745 rfl ?_
          refine w_callTi C (w_runSW C (c_L_report hl) m_365 m_366 m_23 m_367 ⟨rfl, rfl⟩ hd_L_report rfl ⟨Nat.le_of_ble_eq_true rfl, Nat.le_of_ble_eq_true rfl⟩ rfl (Nat.le_of_ble_eq_true rfl) d_L_talks_747 ⟨Nat.le_of_ble_eq_true rfl, Nat.le_of_ble_eq_true rfl⟩) (fun r9 u9 h9 => ?_)
          obtain ⟨e1, e2⟩ := X_report_k (by omega) (by rw [hv61]; exact ⟨h566, h578⟩) (h_awk2 hB hq hRP h605) (by rw [hv6]; exact Int32.not_le.mp h634) h9
          rw [e1, e2]
          refine w_aload C 1 d_L_talks_750 rfl ?_
          refine w_iload C 4 d_L_talks_752 rfl ?_
          refine w_callMi C (w_runS C (c_L_differing hq) m_385 m_386 m_23 m_387 ⟨rfl, rfl⟩ hd_L_differing rfl ⟨Nat.le_of_ble_eq_true rfl, Nat.le_of_ble_eq_true rfl⟩ rfl (Nat.le_of_ble_eq_true rfl) d_L_talks_754 ⟨Nat.le_of_ble_eq_true rfl, Nat.le_of_ble_eq_true rfl⟩) (fun r9 u9 h9 => ?_)
          obtain ⟨e1, e2⟩ := h9
          obtain ⟨n9, hn9, e3, e4⟩ := dg_n hq hR3
          refine w_topi (y := nI n9) (e1.trans e3) ?_
          rw [e2]
          refine w_callMi C (w_runS C (c_L_many hn9) m_394 m_395 m_23 m_396 ⟨rfl, rfl⟩ hd_L_many rfl ⟨Nat.le_of_ble_eq_true rfl, Nat.le_of_ble_eq_true rfl⟩ rfl (Nat.le_of_ble_eq_true rfl) d_L_talks_757 ⟨Nat.le_of_ble_eq_true rfl, Nat.le_of_ble_eq_true rfl⟩) (fun r757 u757 h757 => ?_)
          obtain ⟨rfl, h757⟩ := h757; have h757 := h757.symm; subst h757
          refine w_icmp_ne_f C 767 d_L_talks_760 (by decide) (congrArg bcI e4) ?_
          refine w_iconst (v := 1) C d_L_talks_763 rfl ?_
          refine w_goto C 768 d_L_talks_764 (by decide) ?_
          refine w_widen (k2 := 97) (n2 := 582) (Nat.le_of_ble_eq_true rfl) (Nat.le_of_ble_eq_true rfl) ?_
          exact w_zretP C hr (Or.inr rfl) d_L_talks_768 (⟨rfl, RP_w hR3 (by omega)⟩)
      · skip
        refine w_aload_n C 1 d_L_talks_608 rfl rfl ?_
        refine w_iload C 6 d_L_talks_609 rfl ?_
        refine w_iload C 0 d_L_talks_611 rfl ?_
        refine w_callTi C (w_runSW C (c_L_report hl) m_365 m_366 m_23 m_367 ⟨rfl, rfl⟩ hd_L_report rfl ⟨Nat.le_of_ble_eq_true rfl, Nat.le_of_ble_eq_true rfl⟩ rfl (Nat.le_of_ble_eq_true rfl) d_L_talks_613 ⟨Nat.le_of_ble_eq_true rfl, Nat.le_of_ble_eq_true rfl⟩) (fun r9 u9 h9 => ?_)
        obtain ⟨e1, e2⟩ := X_report_S (by omega) (by rw [hv61]; exact ⟨h566, h578⟩) (h_slp2 hq hRP h605) h9
        rw [e1, e2]
        refine w_bipush (v := -73) C d_L_talks_616 rfl ?_
        refine w_icmp_ne_f C 625 d_L_talks_618 (by decide) (by decide) ?_
        refine w_iconst (v := 1) C d_L_talks_621 rfl ?_
        refine w_goto C 626 d_L_talks_622 (by decide) ?_
        refine w_widen (k2 := 97) (n2 := 582) (Nat.le_of_ble_eq_true rfl) (Nat.le_of_ble_eq_true rfl) ?_
        exact w_zretP C hr (Or.inr rfl) d_L_talks_626 (⟨rfl, RP_w hRP (by omega)⟩)
    · skip
      refine w_aload_n C 1 d_L_talks_581 rfl rfl ?_
      refine w_iload C 6 d_L_talks_582 rfl ?_
      refine w_iload C 0 d_L_talks_584 rfl ?_
      refine w_callTi C (w_runSW C (c_L_report hl) m_365 m_366 m_23 m_367 ⟨rfl, rfl⟩ hd_L_report rfl ⟨Nat.le_of_ble_eq_true rfl, Nat.le_of_ble_eq_true rfl⟩ rfl (Nat.le_of_ble_eq_true rfl) d_L_talks_586 ⟨Nat.le_of_ble_eq_true rfl, Nat.le_of_ble_eq_true rfl⟩) (fun r9 u9 h9 => ?_)
      obtain ⟨e1, e2⟩ := X_report_A (by omega) (by rw [hv61]; exact rng_n (Or.inr h578)) h9
      rw [e1, e2]
      refine w_bipush (v := -72) C d_L_talks_589 rfl ?_
      refine w_icmp_ne_f C 598 d_L_talks_591 (by decide) (by decide) ?_
      refine w_iconst (v := 1) C d_L_talks_594 rfl ?_
      refine w_goto C 599 d_L_talks_595 (by decide) ?_
      refine w_widen (k2 := 97) (n2 := 582) (Nat.le_of_ble_eq_true rfl) (Nat.le_of_ble_eq_true rfl) ?_
      exact w_zretP C hr (Or.inr rfl) d_L_talks_599 (⟨rfl, RP_w hRP (by omega)⟩)
set_option maxHeartbeats 4000000 in
set_option maxRecDepth 100000 in
theorem t_rep {p : Program} {l : Launch} {e : Env} {s : State} {m : MethodId} {args : Array Value} {below : List Frame} {meth : Method} {c : Code} {D : va_G} {cs : Nat → ClassId} {ad : Nat → Nat} {st mt : Nat → Nat → Int32} {ov : Nat → Int64} {B : Nat} {q k : Nat} (hq : q < 5) (hk : k < 12) {act y z : Int32} (C : Cx p s m args meth c D cs ad (gA ad 60 s.heap.size) b_L_talks 13 "TwinRegisterLaw") (hr : meth.sig.returnType = some .boolean) (hl : l.stackTraces = false) (hB : B < 100000) (hRP : RP B st mt) : Wg p l e ({ frames := 9, cells := 97, slots := 582, locals := 171 } : Room) s m args below meth c (MQ below (QPi D cs ad ov (fun r u => r = 1 ∧ RP (B + 40) u.1 u.2) s.heap.size) args s 97 582 (gA ad 60 s.heap.size)) D cs ad (gA ad 60 s.heap.size) 13 0 0 475 [(0, .ref (ad 0)), (1, .int act), (2, .int y), (3, .int z), (4, .ref (ad 50)), (5, .ref (ad 51)), (6, .ref (ad 52)), (7, .ref (ad 53)), (8, .ref (ad 54)), (9, .int (nI q)), (10, .int (nI k))] [] st mt ov := by
  obtain ⟨n, hnB, hv6⟩ := (hRP.2.2.1 q hq).2.2.1
  have hn : mt 3 q = nI n := (hRP.2.2.1 q hq).1.2.2.trans hv6
  refine w_iload_n C 3 d_L_talks_475 rfl rfl ?_
  refine w_bipush (v := 6) C d_L_talks_476 rfl ?_
  refine w_iand C d_L_talks_478 ?_
  refine w_if_le C 492 d_L_talks_479 (by decide) (fun h479 => ?_) (fun h479 => ?_)
  · skip
    refine w_iload_n C 3 d_L_talks_492 rfl rfl ?_
    refine w_iconst (v := 3) C d_L_talks_493 rfl ?_
    refine w_ishr C d_L_talks_494 ?_
    refine w_aload C 7 d_L_talks_495 rfl ?_
    refine w_iload C 9 d_L_talks_497 rfl ?_
    refine ia_MA C 3 (by omega) rfl rfl (show _ < 5 by omega) d_L_talks_499 ?_
    refine w_topi (y := (nI n)) (hn) ?_
    refine w_iconst (v := 3) C d_L_talks_500 rfl ?_
    refine w_iadd C d_L_talks_501 ?_
    refine w_topi (y := (nI (n + 3))) (nI_add n 3) ?_
    refine w_callMi C (w_runS C (c_L_low (n := (n + 3)) ⟨by omega, by omega⟩) m_178 m_179 m_23 m_180 ⟨rfl, rfl⟩ hd_L_low rfl ⟨Nat.le_of_ble_eq_true rfl, Nat.le_of_ble_eq_true rfl⟩ rfl (Nat.le_of_ble_eq_true rfl) d_L_talks_502 ⟨Nat.le_of_ble_eq_true rfl, Nat.le_of_ble_eq_true rfl⟩) (fun r9 u9 h9 => ?_)
    obtain ⟨⟨k502, hk502, e1⟩, e2⟩ := h9
    rw [e1, e2]
    exact w_lv (lv2 := [(0, .ref (ad 0)), (4, .ref (ad 50)), (6, .ref (ad 52)), (7, .ref (ad 53)), (8, .ref (ad 54)), (9, .int (nI q))]) [0, 4, 6, 7, 8, 9] rfl (t_rep2 (m9 := k502) hq hn hnB (by omega) C hr hl hB hRP)
  · skip
    refine w_aload C 7 d_L_talks_482 rfl ?_
    refine w_iload C 9 d_L_talks_484 rfl ?_
    refine ia_MA C 3 (by omega) rfl rfl (show _ < 5 by omega) d_L_talks_486 ?_
    refine w_topi (y := (nI n)) (hn) ?_
    refine w_iconst (v := 1) C d_L_talks_487 rfl ?_
    refine w_iadd C d_L_talks_488 ?_
    refine w_topi (y := (nI (n + 1))) (nI_1 n) ?_
    refine w_goto C 505 d_L_talks_489 (by decide) ?_
    exact w_lv (lv2 := [(0, .ref (ad 0)), (4, .ref (ad 50)), (6, .ref (ad 52)), (7, .ref (ad 53)), (8, .ref (ad 54)), (9, .int (nI q))]) [0, 4, 6, 7, 8, 9] rfl (t_rep2 (m9 := (n + 1)) hq hn hnB (by omega) C hr hl hB hRP)
set_option maxHeartbeats 4000000 in
set_option maxRecDepth 100000 in
theorem t_obey {p : Program} {l : Launch} {e : Env} {s : State} {m : MethodId} {args : Array Value} {below : List Frame} {meth : Method} {c : Code} {D : va_G} {cs : Nat → ClassId} {ad : Nat → Nat} {st mt : Nat → Nat → Int32} {ov : Nat → Int64} {B : Nat} {q k : Nat} (hq : q < 5) (hk : k < 12) {act y z : Int32} (C : Cx p s m args meth c D cs ad (gA ad 60 s.heap.size) b_L_talks 13 "TwinRegisterLaw") (hr : meth.sig.returnType = some .boolean) (hl : l.stackTraces = false) (hB : B < 100000) (hRP : RP B st mt) : Wg p l e ({ frames := 9, cells := 97, slots := 582, locals := 171 } : Room) s m args below meth c (MQ below (QPi D cs ad ov (fun r u => r = 1 ∧ RP (B + 40) u.1 u.2) s.heap.size) args s 97 582 (gA ad 60 s.heap.size)) D cs ad (gA ad 60 s.heap.size) 13 0 0 775 [(0, .ref (ad 0)), (1, .int act), (2, .int y), (3, .int z), (4, .ref (ad 50)), (5, .ref (ad 51)), (6, .ref (ad 52)), (7, .ref (ad 53)), (8, .ref (ad 54)), (9, .int (nI q)), (10, .int (nI k))] [] st mt ov := by
  refine w_aload C 6 d_L_talks_775 rfl ?_
  refine w_iload C 9 d_L_talks_777 rfl ?_
  refine ia_MA C 2 (by omega) rfl rfl (show _ < 5 by omega) d_L_talks_779 ?_
  refine w_if_lt C 811 d_L_talks_780 (by decide) (fun h780 => ?_) (fun h780 => ?_)
  · skip
    refine w_aload C 4 d_L_talks_811 rfl ?_
    refine w_iload C 9 d_L_talks_813 rfl ?_
    refine w_callMi C (w_runS C (c_L_differing hq) m_385 m_386 m_23 m_387 ⟨rfl, rfl⟩ hd_L_differing rfl ⟨Nat.le_of_ble_eq_true rfl, Nat.le_of_ble_eq_true rfl⟩ rfl (Nat.le_of_ble_eq_true rfl) d_L_talks_815 ⟨Nat.le_of_ble_eq_true rfl, Nat.le_of_ble_eq_true rfl⟩) (fun r9 u9 h9 => ?_)
    obtain ⟨e1, e2⟩ := h9
    obtain ⟨n9, hn9, e3, e4⟩ := dg_n hq hRP
    refine w_topi (y := nI n9) (e1.trans e3) ?_
    rw [e2]
    refine w_istore (lv2 := [(11, .int (nI n9)), (0, .ref (ad 0)), (1, .int act), (2, .int y), (3, .int z), (4, .ref (ad 50)), (5, .ref (ad 51)), (6, .ref (ad 52)), (7, .ref (ad 53)), (8, .ref (ad 54)), (9, .int (nI q)), (10, .int (nI k))]) C d_L_talks_818 (by decide) rfl ?_
    refine w_iconst (v := 0) C d_L_talks_820 rfl ?_
    refine w_istore (lv2 := [(12, .int 0), (11, .int (nI n9)), (0, .ref (ad 0)), (1, .int act), (2, .int y), (3, .int z), (4, .ref (ad 50)), (5, .ref (ad 51)), (6, .ref (ad 52)), (7, .ref (ad 53)), (8, .ref (ad 54)), (9, .int (nI q)), (10, .int (nI k))]) C d_L_talks_821 (by decide) rfl ?_
    refine w_lv (lv2 := [(0, .ref (ad 0)), (4, .ref (ad 50)), (7, .ref (ad 53)), (9, .int (nI q)), (11, .int (nI n9)), (12, .int (nI 0))]) [2, 6, 9, 11, 1, 0] rfl ?_
    refine l_tobey hq C ⟨Nat.le_of_ble_eq_true rfl, Nat.le_of_ble_eq_true rfl⟩ ?_ 12 0 rfl
    have hw : ∀ k, k < 12 → bi (nI n9) k = unl st q k := fun k hk => by rw [← e4]; exact d3_bi (by omega) hk hRP
    obtain ⟨hO1, hO2, -⟩ := RP_obs hq hRP hw 12 (Nat.le_refl _)
    have hO3 := RP_num6 hq rfl hO1
    refine w_aload C 2 d_L_talks_876 rfl ?_
    refine w_iload C 3 d_L_talks_878 rfl ?_
    refine w_dup2 C d_L_talks_880 rfl rfl ?_
    refine ia_MA C 3 (by omega) rfl rfl (show _ < 5 by omega) d_L_talks_881 ?_
    refine w_iconst (v := 1) C d_L_talks_882 rfl ?_
    refine w_iadd C d_L_talks_883 ?_
    refine is_MA C 3 (by omega) rfl rfl (show _ < 5 by omega) d_L_talks_884 ?_
    refine w_aload_n C 0 d_L_talks_885 rfl rfl ?_
    refine w_iconst (v := (-1)) C d_L_talks_886 rfl ?_
    refine w_callTi C (w_runSW C (c_L_obey hl) m_397 m_398 m_23 m_399 ⟨rfl, rfl⟩ hd_L_obey rfl ⟨Nat.le_of_ble_eq_true rfl, Nat.le_of_ble_eq_true rfl⟩ rfl (Nat.le_of_ble_eq_true rfl) d_L_talks_887 ⟨Nat.le_of_ble_eq_true rfl, Nat.le_of_ble_eq_true rfl⟩) (fun r9 u9 h9 => ?_)
    obtain ⟨e1, e2⟩ := X_obey_O (inR_no0 (n := 8) (by decide) (by decide)) h9
    rw [e1, e2]
    refine w_bipush (v := -71) C d_L_talks_890 rfl ?_
    refine w_icmp_ne_f C 913 d_L_talks_892 (by decide) (by decide) ?_
    refine w_aload_n C 0 d_L_talks_895 rfl rfl ?_
    refine w_iload C 3 d_L_talks_896 rfl ?_
    refine w_callTi C (w_runSW C (c_L_obey hl) m_397 m_398 m_23 m_399 ⟨rfl, rfl⟩ hd_L_obey rfl ⟨Nat.le_of_ble_eq_true rfl, Nat.le_of_ble_eq_true rfl⟩ rfl (Nat.le_of_ble_eq_true rfl) d_L_talks_898 ⟨Nat.le_of_ble_eq_true rfl, Nat.le_of_ble_eq_true rfl⟩) (fun r9 u9 h9 => ?_)
    obtain ⟨e1, e2⟩ := X_obey_k (by omega) (h_awk2 hB hq hRP h780) h9
    rw [e1, e2]
    refine w_iload C 4 d_L_talks_901 rfl ?_
    refine w_callMi C (w_runS C (c_L_many hn9) m_394 m_395 m_23 m_396 ⟨rfl, rfl⟩ hd_L_many rfl ⟨Nat.le_of_ble_eq_true rfl, Nat.le_of_ble_eq_true rfl⟩ rfl (Nat.le_of_ble_eq_true rfl) d_L_talks_903 ⟨Nat.le_of_ble_eq_true rfl, Nat.le_of_ble_eq_true rfl⟩) (fun r903 u903 h903 => ?_)
    obtain ⟨rfl, h903⟩ := h903; have h903 := h903.symm; subst h903
    refine w_icmp_ne_f C 913 d_L_talks_906 (by decide) (hO2.trans (cnt (by rw [← e4]; exact d3_lim (by omega) hRP))) ?_
    refine w_iconst (v := 1) C d_L_talks_909 rfl ?_
    refine w_goto C 914 d_L_talks_910 (by decide) ?_
    refine w_widen (k2 := 97) (n2 := 582) (Nat.le_of_ble_eq_true rfl) (Nat.le_of_ble_eq_true rfl) ?_
    exact w_zretP C hr (Or.inr rfl) d_L_talks_914 (⟨rfl, RP_w hO3 (by omega)⟩)
  · skip
    refine w_aload_n C 0 d_L_talks_783 rfl rfl ?_
    refine w_iload C 9 d_L_talks_784 rfl ?_
    refine w_callTi C (w_runSW C (c_L_obey hl) m_397 m_398 m_23 m_399 ⟨rfl, rfl⟩ hd_L_obey rfl ⟨Nat.le_of_ble_eq_true rfl, Nat.le_of_ble_eq_true rfl⟩ rfl (Nat.le_of_ble_eq_true rfl) d_L_talks_786 ⟨Nat.le_of_ble_eq_true rfl, Nat.le_of_ble_eq_true rfl⟩) (fun r9 u9 h9 => ?_)
    obtain ⟨e1, e2⟩ := X_obey_S (by omega) (h_slp2 hq hRP h780) h9
    rw [e1, e2]
    refine w_bipush (v := -73) C d_L_talks_789 rfl ?_
    refine w_icmp_ne_f C 809 d_L_talks_791 (by decide) (by decide) ?_
    refine w_aload_n C 0 d_L_talks_794 rfl rfl ?_
    refine w_bipush (v := 8) C d_L_talks_795 rfl ?_
    refine w_callTi C (w_runSW C (c_L_obey hl) m_397 m_398 m_23 m_399 ⟨rfl, rfl⟩ hd_L_obey rfl ⟨Nat.le_of_ble_eq_true rfl, Nat.le_of_ble_eq_true rfl⟩ rfl (Nat.le_of_ble_eq_true rfl) d_L_talks_797 ⟨Nat.le_of_ble_eq_true rfl, Nat.le_of_ble_eq_true rfl⟩) (fun r9 u9 h9 => ?_)
    obtain ⟨e1, e2⟩ := X_obey_O (inR_no1 (n := 8) (by decide) (by decide)) h9
    rw [e1, e2]
    refine w_bipush (v := -71) C d_L_talks_800 rfl ?_
    refine w_icmp_ne_f C 809 d_L_talks_802 (by decide) (by decide) ?_
    refine w_iconst (v := 1) C d_L_talks_805 rfl ?_
    refine w_goto C 810 d_L_talks_806 (by decide) ?_
    refine w_widen (k2 := 97) (n2 := 582) (Nat.le_of_ble_eq_true rfl) (Nat.le_of_ble_eq_true rfl) ?_
    exact w_zretP C hr (Or.inr rfl) d_L_talks_810 (⟨rfl, RP_w hRP (by omega)⟩)
set_option maxHeartbeats 4000000 in
set_option maxRecDepth 100000 in
theorem t_ref {p : Program} {l : Launch} {e : Env} {s : State} {m : MethodId} {args : Array Value} {below : List Frame} {meth : Method} {c : Code} {D : va_G} {cs : Nat → ClassId} {ad : Nat → Nat} {st mt : Nat → Nat → Int32} {ov : Nat → Int64} {B : Nat} {q k : Nat} (hq : q < 5) (hk : k < 12) {act y z : Int32} (C : Cx p s m args meth c D cs ad (gA ad 60 s.heap.size) b_L_talks 13 "TwinRegisterLaw") (hr : meth.sig.returnType = some .boolean) (hl : l.stackTraces = false) (hB : B < 100000) (hRP : RP B st mt) : Wg p l e ({ frames := 9, cells := 97, slots := 582, locals := 171 } : Room) s m args below meth c (MQ below (QPi D cs ad ov (fun r u => r = 1 ∧ RP (B + 40) u.1 u.2) s.heap.size) args s 97 582 (gA ad 60 s.heap.size)) D cs ad (gA ad 60 s.heap.size) 13 0 0 921 [(0, .ref (ad 0)), (1, .int act), (2, .int y), (3, .int z), (4, .ref (ad 50)), (5, .ref (ad 51)), (6, .ref (ad 52)), (7, .ref (ad 53)), (8, .ref (ad 54)), (9, .int (nI q)), (10, .int (nI k))] [] st mt ov := by
  refine w_iconst (v := 1) C d_L_talks_921 rfl ?_
  refine w_iload_n C 3 d_L_talks_922 rfl rfl ?_
  refine w_iconst (v := 4) C d_L_talks_923 rfl ?_
  refine w_ishr C d_L_talks_924 ?_
  refine w_bipush (v := 9) C d_L_talks_925 rfl ?_
  refine w_callMi C (w_runS C (c_L_low (n := 9) ⟨by decide, by decide⟩) m_178 m_179 m_23 m_180 ⟨rfl, rfl⟩ hd_L_low rfl ⟨Nat.le_of_ble_eq_true rfl, Nat.le_of_ble_eq_true rfl⟩ rfl (Nat.le_of_ble_eq_true rfl) d_L_talks_927 ⟨Nat.le_of_ble_eq_true rfl, Nat.le_of_ble_eq_true rfl⟩) (fun r9 u9 h9 => ?_)
  obtain ⟨⟨k927, hk927, e1⟩, e2⟩ := h9
  rw [e1, e2]
  refine w_iadd C d_L_talks_930 ?_
  refine w_topi (y := (nI (1 + k927))) (nI_add 1 k927) ?_
  refine w_istore (lv2 := [(11, .int (nI (1 + k927))), (0, .ref (ad 0)), (1, .int act), (2, .int y), (3, .int z), (4, .ref (ad 50)), (5, .ref (ad 51)), (6, .ref (ad 52)), (7, .ref (ad 53)), (8, .ref (ad 54)), (9, .int (nI q)), (10, .int (nI k))]) C d_L_talks_931 (by decide) rfl ?_
  refine w_iconst (v := 0) C d_L_talks_933 rfl ?_
  refine w_istore (lv2 := [(12, .int 0), (11, .int (nI (1 + k927))), (0, .ref (ad 0)), (1, .int act), (2, .int y), (3, .int z), (4, .ref (ad 50)), (5, .ref (ad 51)), (6, .ref (ad 52)), (7, .ref (ad 53)), (8, .ref (ad 54)), (9, .int (nI q)), (10, .int (nI k))]) C d_L_talks_934 (by decide) rfl ?_
  refine w_lv (lv2 := [(0, .ref (ad 0)), (2, .int y), (4, .ref (ad 50)), (6, .ref (ad 52)), (9, .int (nI q)), (10, .int (nI k)), (11, .int (nI (1 + k927))), (12, .int (nI 0))]) [2, 4, 6, 8, 11, 12, 1, 0] rfl ?_
  refine l_tref hq C ⟨Nat.le_of_ble_eq_true rfl, Nat.le_of_ble_eq_true rfl⟩ (fun k5 i5 hk5 => ?_) 12 0 k rfl hk
  refine w_aload_n C 0 d_L_talks_981 rfl rfl ?_
  refine w_iload C 4 d_L_talks_982 rfl ?_
  refine w_bipush (v := 12) C d_L_talks_984 rfl ?_
  refine w_iconst (v := 0) C d_L_talks_986 rfl ?_
  refine w_callTi C (w_runSW C (c_L_refuse hl) m_408 m_409 m_23 m_410 ⟨rfl, rfl⟩ hd_L_refuse rfl ⟨Nat.le_of_ble_eq_true rfl, Nat.le_of_ble_eq_true rfl⟩ rfl (Nat.le_of_ble_eq_true rfl) d_L_talks_987 ⟨Nat.le_of_ble_eq_true rfl, Nat.le_of_ble_eq_true rfl⟩) (fun r9 u9 h9 => ?_)
  obtain ⟨e1, e2⟩ := X_refuse_O (Or.inr (inR_no1 (n := 12) (by decide) (by decide))) h9
  rw [e1, e2]
  refine w_bipush (v := -71) C d_L_talks_990 rfl ?_
  refine w_icmp_ne_f C 1038 d_L_talks_992 (by decide) (by decide) ?_
  refine w_aload_n C 0 d_L_talks_995 rfl rfl ?_
  refine w_bipush (v := 8) C d_L_talks_996 rfl ?_
  refine w_iload C 5 d_L_talks_998 rfl ?_
  refine w_iconst (v := 0) C d_L_talks_1000 rfl ?_
  refine w_callTi C (w_runSW C (c_L_refuse hl) m_408 m_409 m_23 m_410 ⟨rfl, rfl⟩ hd_L_refuse rfl ⟨Nat.le_of_ble_eq_true rfl, Nat.le_of_ble_eq_true rfl⟩ rfl (Nat.le_of_ble_eq_true rfl) d_L_talks_1001 ⟨Nat.le_of_ble_eq_true rfl, Nat.le_of_ble_eq_true rfl⟩) (fun r9 u9 h9 => ?_)
  obtain ⟨e1, e2⟩ := X_refuse_O (Or.inl (inR_no1 (n := 8) (by decide) (by decide))) h9
  rw [e1, e2]
  refine w_bipush (v := -71) C d_L_talks_1004 rfl ?_
  refine w_icmp_ne_f C 1038 d_L_talks_1006 (by decide) (by decide) ?_
  refine w_aload_n C 0 d_L_talks_1009 rfl rfl ?_
  refine w_iload C 4 d_L_talks_1010 rfl ?_
  refine w_iload C 5 d_L_talks_1012 rfl ?_
  refine w_iconst (v := 0) C d_L_talks_1014 rfl ?_
  refine w_callTi C (w_runSW C (c_L_refuse hl) m_408 m_409 m_23 m_410 ⟨rfl, rfl⟩ hd_L_refuse rfl ⟨Nat.le_of_ble_eq_true rfl, Nat.le_of_ble_eq_true rfl⟩ rfl (Nat.le_of_ble_eq_true rfl) d_L_talks_1015 ⟨Nat.le_of_ble_eq_true rfl, Nat.le_of_ble_eq_true rfl⟩) (fun r9 u9 h9 => ?_)
  obtain ⟨e1, e2⟩ := X_refuse_A (by omega) hk5 (rng_n (Or.inl (by decide))) h9
  rw [e1, e2]
  refine w_bipush (v := -72) C d_L_talks_1018 rfl ?_
  refine w_icmp_ne_f C 1038 d_L_talks_1020 (by decide) (by decide) ?_
  refine w_aload_n C 0 d_L_talks_1023 rfl rfl ?_
  refine w_iload C 4 d_L_talks_1024 rfl ?_
  refine w_iload C 5 d_L_talks_1026 rfl ?_
  refine w_bipush (v := 10) C d_L_talks_1028 rfl ?_
  refine w_callTi C (w_runSW C (c_L_refuse hl) m_408 m_409 m_23 m_410 ⟨rfl, rfl⟩ hd_L_refuse rfl ⟨Nat.le_of_ble_eq_true rfl, Nat.le_of_ble_eq_true rfl⟩ rfl (Nat.le_of_ble_eq_true rfl) d_L_talks_1030 ⟨Nat.le_of_ble_eq_true rfl, Nat.le_of_ble_eq_true rfl⟩) (fun r9 u9 h9 => ?_)
  obtain ⟨e1, e2⟩ := X_refuse_A (by omega) hk5 (rng_n (Or.inr (by decide))) h9
  rw [e1, e2]
  refine w_bipush (v := -72) C d_L_talks_1033 rfl ?_
  refine w_icmp_eq_t C 1040 d_L_talks_1035 (by decide) (by decide) ?_
  refine w_aload C 3 d_L_talks_1040 rfl ?_
  refine w_iload C 4 d_L_talks_1042 rfl ?_
  refine ia_MA C 2 (by omega) rfl rfl (show _ < 5 by omega) d_L_talks_1044 ?_
  refine w_if_ge C 1063 d_L_talks_1045 (by decide) (fun h1045 => ?_) (fun h1045 => ?_)
  · skip
    refine w_aload_n C 0 d_L_talks_1063 rfl rfl ?_
    refine w_iload C 4 d_L_talks_1064 rfl ?_
    refine w_iload C 5 d_L_talks_1066 rfl ?_
    refine w_iload C 6 d_L_talks_1068 rfl ?_
    refine w_callTi C (w_runSW C (c_L_refuse hl) m_408 m_409 m_23 m_410 ⟨rfl, rfl⟩ hd_L_refuse rfl ⟨Nat.le_of_ble_eq_true rfl, Nat.le_of_ble_eq_true rfl⟩ rfl (Nat.le_of_ble_eq_true rfl) d_L_talks_1070 ⟨Nat.le_of_ble_eq_true rfl, Nat.le_of_ble_eq_true rfl⟩) (fun r9 u9 h9 => ?_)
    obtain ⟨e1, e2⟩ := X_refuse_S (by omega) hk5 (rng_rs hk927) (Or.inl (h_slp hq hRP h1045)) h9
    rw [e1, e2]
    refine w_bipush (v := -73) C d_L_talks_1073 rfl ?_
    refine w_icmp_ne_f C 1082 d_L_talks_1075 (by decide) (by decide) ?_
    refine w_iconst (v := 1) C d_L_talks_1078 rfl ?_
    refine w_goto C 1083 d_L_talks_1079 (by decide) ?_
    refine w_widen (k2 := 97) (n2 := 582) (Nat.le_of_ble_eq_true rfl) (Nat.le_of_ble_eq_true rfl) ?_
    exact w_zretP C hr (Or.inr rfl) d_L_talks_1083 (⟨rfl, RP_w hRP (by omega)⟩)
  · skip
    refine w_aload C 2 d_L_talks_1048 rfl ?_
    refine w_iload C 4 d_L_talks_1050 rfl ?_
    refine w_callMi C (w_runS C (c_L_differing hq) m_385 m_386 m_23 m_387 ⟨rfl, rfl⟩ hd_L_differing rfl ⟨Nat.le_of_ble_eq_true rfl, Nat.le_of_ble_eq_true rfl⟩ rfl (Nat.le_of_ble_eq_true rfl) d_L_talks_1052 ⟨Nat.le_of_ble_eq_true rfl, Nat.le_of_ble_eq_true rfl⟩) (fun r9 u9 h9 => ?_)
    obtain ⟨e1, e2⟩ := h9
    rw [e1, e2]
    refine w_iload C 5 d_L_talks_1055 rfl ?_
    refine w_ishr C d_L_talks_1057 ?_
    refine w_iconst (v := 1) C d_L_talks_1058 rfl ?_
    refine w_iand C d_L_talks_1059 ?_
    refine w_if_ne C 1084 d_L_talks_1060 (by decide) (fun h1060 => ?_) (fun h1060 => ?_)
    · skip
      refine w_aload C 2 d_L_talks_1084 rfl ?_
      refine w_bipush (v := 12) C d_L_talks_1086 rfl ?_
      refine w_iload C 4 d_L_talks_1088 rfl ?_
      refine w_imul C d_L_talks_1090 ?_
      refine w_iload C 5 d_L_talks_1091 rfl ?_
      refine w_iadd C d_L_talks_1093 ?_
      refine w_topi (y := (nI (12 * q + k5))) (ix12 _ _) ?_
      refine w_dup2 C d_L_talks_1094 rfl rfl ?_
      refine ia_MA C 0 (by omega) rfl rfl (show _ < 60 by omega) d_L_talks_1095 ?_
      refine w_sipush (v := 16384) C d_L_talks_1096 rfl ?_
      refine w_iload C 6 d_L_talks_1099 rfl ?_
      refine w_imul C d_L_talks_1101 ?_
      refine w_iadd C d_L_talks_1102 ?_
      refine is_MA C 0 (by omega) rfl rfl (show _ < 60 by omega) d_L_talks_1103 ?_
      have hd := bit_t hq hk5 hRP h1060
      have hF := RP_fuse (n := 1 + k927) hq hk5 (by omega) (unl_z ((difA_q (by omega) hk5 hRP).symm.trans hd)) hRP
      refine w_aload_n C 0 d_L_talks_1104 rfl rfl ?_
      refine w_iload C 4 d_L_talks_1105 rfl ?_
      refine w_iload C 5 d_L_talks_1107 rfl ?_
      refine w_iload C 6 d_L_talks_1109 rfl ?_
      refine w_callTi C (w_runSW C (c_L_refuse hl) m_408 m_409 m_23 m_410 ⟨rfl, rfl⟩ hd_L_refuse rfl ⟨Nat.le_of_ble_eq_true rfl, Nat.le_of_ble_eq_true rfl⟩ rfl (Nat.le_of_ble_eq_true rfl) d_L_talks_1111 ⟨Nat.le_of_ble_eq_true rfl, Nat.le_of_ble_eq_true rfl⟩) (fun r9 u9 h9 => ?_)
      obtain ⟨e1, e2⟩ := X_refuse_k (by omega) hk5 (rng_rs hk927) (h_awk hB hq hRP h1045) hd h9
      rw [e1, e2]
      refine w_aload C 2 d_L_talks_1114 rfl ?_
      refine w_iload C 4 d_L_talks_1116 rfl ?_
      refine w_callMi C (w_runS C (c_L_differing hq) m_385 m_386 m_23 m_387 ⟨rfl, rfl⟩ hd_L_differing rfl ⟨Nat.le_of_ble_eq_true rfl, Nat.le_of_ble_eq_true rfl⟩ rfl (Nat.le_of_ble_eq_true rfl) d_L_talks_1118 ⟨Nat.le_of_ble_eq_true rfl, Nat.le_of_ble_eq_true rfl⟩) (fun r9 u9 h9 => ?_)
      obtain ⟨e1, e2⟩ := h9
      obtain ⟨n9, hn9, e3, e4⟩ := dg_n hq hF
      refine w_topi (y := nI n9) (e1.trans e3) ?_
      rw [e2]
      refine w_callMi C (w_runS C (c_L_many hn9) m_394 m_395 m_23 m_396 ⟨rfl, rfl⟩ hd_L_many rfl ⟨Nat.le_of_ble_eq_true rfl, Nat.le_of_ble_eq_true rfl⟩ rfl (Nat.le_of_ble_eq_true rfl) d_L_talks_1121 ⟨Nat.le_of_ble_eq_true rfl, Nat.le_of_ble_eq_true rfl⟩) (fun r1121 u1121 h1121 => ?_)
      obtain ⟨rfl, h1121⟩ := h1121; have h1121 := h1121.symm; subst h1121
      refine w_icmp_ne_f C 1131 d_L_talks_1124 (by decide) (congrArg bcI e4) ?_
      refine w_iconst (v := 1) C d_L_talks_1127 rfl ?_
      refine w_goto C 1132 d_L_talks_1128 (by decide) ?_
      refine w_widen (k2 := 97) (n2 := 582) (Nat.le_of_ble_eq_true rfl) (Nat.le_of_ble_eq_true rfl) ?_
      exact w_zretP C hr (Or.inr rfl) d_L_talks_1132 (⟨rfl, RP_w hF (by omega)⟩)
    · skip
      refine w_aload_n C 0 d_L_talks_1063 rfl rfl ?_
      refine w_iload C 4 d_L_talks_1064 rfl ?_
      refine w_iload C 5 d_L_talks_1066 rfl ?_
      refine w_iload C 6 d_L_talks_1068 rfl ?_
      refine w_callTi C (w_runSW C (c_L_refuse hl) m_408 m_409 m_23 m_410 ⟨rfl, rfl⟩ hd_L_refuse rfl ⟨Nat.le_of_ble_eq_true rfl, Nat.le_of_ble_eq_true rfl⟩ rfl (Nat.le_of_ble_eq_true rfl) d_L_talks_1070 ⟨Nat.le_of_ble_eq_true rfl, Nat.le_of_ble_eq_true rfl⟩) (fun r9 u9 h9 => ?_)
      obtain ⟨e1, e2⟩ := X_refuse_S (by omega) hk5 (rng_rs hk927) (Or.inr (bit_f hq hk5 hRP h1060)) h9
      rw [e1, e2]
      refine w_bipush (v := -73) C d_L_talks_1073 rfl ?_
      refine w_icmp_ne_f C 1082 d_L_talks_1075 (by decide) (by decide) ?_
      refine w_iconst (v := 1) C d_L_talks_1078 rfl ?_
      refine w_goto C 1083 d_L_talks_1079 (by decide) ?_
      refine w_widen (k2 := 97) (n2 := 582) (Nat.le_of_ble_eq_true rfl) (Nat.le_of_ble_eq_true rfl) ?_
      exact w_zretP C hr (Or.inr rfl) d_L_talks_1083 (⟨rfl, RP_w hRP (by omega)⟩)
set_option maxHeartbeats 4000000 in
set_option maxRecDepth 100000 in
theorem t_slp {p : Program} {l : Launch} {e : Env} {s : State} {m : MethodId} {args : Array Value} {below : List Frame} {meth : Method} {c : Code} {D : va_G} {cs : Nat → ClassId} {ad : Nat → Nat} {st mt : Nat → Nat → Int32} {ov : Nat → Int64} {B : Nat} {q k : Nat} (hq : q < 5) (hk : k < 12) {act y z : Int32} (C : Cx p s m args meth c D cs ad (gA ad 60 s.heap.size) b_L_talks 13 "TwinRegisterLaw") (hr : meth.sig.returnType = some .boolean) (hl : l.stackTraces = false) (hB : B < 100000) (hRP : RP B st mt) : Wg p l e ({ frames := 9, cells := 97, slots := 582, locals := 171 } : Room) s m args below meth c (MQ below (QPi D cs ad ov (fun r u => r = 1 ∧ RP (B + 40) u.1 u.2) s.heap.size) args s 97 582 (gA ad 60 s.heap.size)) D cs ad (gA ad 60 s.heap.size) 13 0 0 1139 [(0, .ref (ad 0)), (1, .int act), (2, .int y), (3, .int z), (4, .ref (ad 50)), (5, .ref (ad 51)), (6, .ref (ad 52)), (7, .ref (ad 53)), (8, .ref (ad 54)), (9, .int (nI q)), (10, .int (nI k))] [] st mt ov := by
  refine w_aload C 6 d_L_talks_1139 rfl ?_
  refine w_iload C 9 d_L_talks_1141 rfl ?_
  refine ia_MA C 2 (by omega) rfl rfl (show _ < 5 by omega) d_L_talks_1143 ?_
  refine w_if_ge C 1151 d_L_talks_1144 (by decide) (fun h1144 => ?_) (fun h1144 => ?_)
  · skip
    refine w_iconst (v := 0) C d_L_talks_1151 rfl ?_
    refine w_istore (lv2 := [(11, .int 0), (0, .ref (ad 0)), (1, .int act), (2, .int y), (3, .int z), (4, .ref (ad 50)), (5, .ref (ad 51)), (6, .ref (ad 52)), (7, .ref (ad 53)), (8, .ref (ad 54)), (9, .int (nI q)), (10, .int (nI k))]) C d_L_talks_1152 (by decide) rfl ?_
    refine w_aload C 7 d_L_talks_1154 rfl ?_
    refine w_iload C 10 d_L_talks_1156 rfl ?_
    refine w_iload C 0 d_L_talks_1158 rfl ?_
    refine w_if_eq_t C 1171 d_L_talks_1160 (by decide) (by decide) ?_
    refine w_aload C 7 d_L_talks_1171 rfl ?_
    refine w_iload C 10 d_L_talks_1173 rfl ?_
    refine ia_MA C 2 (by omega) rfl rfl (show _ < 5 by omega) d_L_talks_1175 ?_
    refine is_MA C 2 (by omega) rfl rfl (show _ < 5 by omega) d_L_talks_1176 ?_
    refine w_aload_n C 1 d_L_talks_1177 rfl rfl ?_
    refine w_bipush (v := 8) C d_L_talks_1178 rfl ?_
    refine w_callTi C (w_runSW C (c_L_sleep hl) m_420 m_421 m_23 m_422 ⟨rfl, rfl⟩ hd_L_sleep rfl ⟨Nat.le_of_ble_eq_true rfl, Nat.le_of_ble_eq_true rfl⟩ rfl (Nat.le_of_ble_eq_true rfl) d_L_talks_1180 ⟨Nat.le_of_ble_eq_true rfl, Nat.le_of_ble_eq_true rfl⟩) (fun r9 u9 h9 => ?_)
    obtain ⟨e1, e2⟩ := X_sleep_O (inR_no1 (n := 8) (by decide) (by decide)) h9
    rw [e1, e2]
    refine w_bipush (v := -71) C d_L_talks_1183 rfl ?_
    refine w_icmp_ne_f C 1211 d_L_talks_1185 (by decide) (by decide) ?_
    refine w_aload_n C 1 d_L_talks_1188 rfl rfl ?_
    refine w_iload C 10 d_L_talks_1189 rfl ?_
    refine w_callTi C (w_runSW C (c_L_sleep hl) m_420 m_421 m_23 m_422 ⟨rfl, rfl⟩ hd_L_sleep rfl ⟨Nat.le_of_ble_eq_true rfl, Nat.le_of_ble_eq_true rfl⟩ rfl (Nat.le_of_ble_eq_true rfl) d_L_talks_1191 ⟨Nat.le_of_ble_eq_true rfl, Nat.le_of_ble_eq_true rfl⟩) (fun r9 u9 h9 => ?_)
    obtain ⟨e1, e2⟩ := X_sleep_s (by omega) (h_slp hq hRP h1144) h9
    rw [e1, e2]
    refine w_iload C 0 d_L_talks_1194 rfl ?_
    refine w_if_eq_t C 1203 d_L_talks_1196 (by decide) (by decide) ?_
    refine w_iconst (v := 0) C d_L_talks_1203 rfl ?_
    refine w_icmp_ne_f C 1211 d_L_talks_1204 (by decide) (by decide) ?_
    refine w_iconst (v := 1) C d_L_talks_1207 rfl ?_
    refine w_goto C 1212 d_L_talks_1208 (by decide) ?_
    refine w_widen (k2 := 97) (n2 := 582) (Nat.le_of_ble_eq_true rfl) (Nat.le_of_ble_eq_true rfl) ?_
    exact w_zretP C hr (Or.inr rfl) d_L_talks_1212 (⟨rfl, show RP (B + 40) st (up2 mt 2 q (mt 2 q)) by rw [up2_same]; exact RP_w hRP (by omega)⟩)
  · skip
    refine w_iconst (v := 1) C d_L_talks_1147 rfl ?_
    refine w_goto C 1152 d_L_talks_1148 (by decide) ?_
    refine w_istore (lv2 := [(11, .int 1), (0, .ref (ad 0)), (1, .int act), (2, .int y), (3, .int z), (4, .ref (ad 50)), (5, .ref (ad 51)), (6, .ref (ad 52)), (7, .ref (ad 53)), (8, .ref (ad 54)), (9, .int (nI q)), (10, .int (nI k))]) C d_L_talks_1152 (by decide) rfl ?_
    refine w_aload C 7 d_L_talks_1154 rfl ?_
    refine w_iload C 10 d_L_talks_1156 rfl ?_
    refine w_iload C 0 d_L_talks_1158 rfl ?_
    refine w_if_eq_f C 1171 d_L_talks_1160 (by decide) (by decide) ?_
    refine w_aload C 6 d_L_talks_1163 rfl ?_
    refine w_iload C 10 d_L_talks_1165 rfl ?_
    refine ia_MA C 1 (by omega) rfl rfl (show _ < 5 by omega) d_L_talks_1167 ?_
    refine w_goto C 1176 d_L_talks_1168 (by decide) ?_
    refine is_MA C 2 (by omega) rfl rfl (show _ < 5 by omega) d_L_talks_1176 ?_
    refine w_aload_n C 1 d_L_talks_1177 rfl rfl ?_
    refine w_bipush (v := 8) C d_L_talks_1178 rfl ?_
    refine w_callTi C (w_runSW C (c_L_sleep hl) m_420 m_421 m_23 m_422 ⟨rfl, rfl⟩ hd_L_sleep rfl ⟨Nat.le_of_ble_eq_true rfl, Nat.le_of_ble_eq_true rfl⟩ rfl (Nat.le_of_ble_eq_true rfl) d_L_talks_1180 ⟨Nat.le_of_ble_eq_true rfl, Nat.le_of_ble_eq_true rfl⟩) (fun r9 u9 h9 => ?_)
    obtain ⟨e1, e2⟩ := X_sleep_O (inR_no1 (n := 8) (by decide) (by decide)) h9
    rw [e1, e2]
    refine w_bipush (v := -71) C d_L_talks_1183 rfl ?_
    refine w_icmp_ne_f C 1211 d_L_talks_1185 (by decide) (by decide) ?_
    refine w_aload_n C 1 d_L_talks_1188 rfl rfl ?_
    refine w_iload C 10 d_L_talks_1189 rfl ?_
    refine w_callTi C (w_runSW C (c_L_sleep hl) m_420 m_421 m_23 m_422 ⟨rfl, rfl⟩ hd_L_sleep rfl ⟨Nat.le_of_ble_eq_true rfl, Nat.le_of_ble_eq_true rfl⟩ rfl (Nat.le_of_ble_eq_true rfl) d_L_talks_1191 ⟨Nat.le_of_ble_eq_true rfl, Nat.le_of_ble_eq_true rfl⟩) (fun r9 u9 h9 => ?_)
    obtain ⟨e1, e2⟩ := X_sleep_a (by omega) (h_awk hB hq hRP h1144) h9
    rw [e1, e2]
    refine w_iload C 0 d_L_talks_1194 rfl ?_
    refine w_if_eq_f C 1203 d_L_talks_1196 (by decide) (by decide) ?_
    refine w_iconst (v := 1) C d_L_talks_1199 rfl ?_
    refine w_goto C 1204 d_L_talks_1200 (by decide) ?_
    refine w_icmp_ne_f C 1211 d_L_talks_1204 (by decide) (by decide) ?_
    refine w_iconst (v := 1) C d_L_talks_1207 rfl ?_
    refine w_goto C 1212 d_L_talks_1208 (by decide) ?_
    refine w_widen (k2 := 97) (n2 := 582) (Nat.le_of_ble_eq_true rfl) (Nat.le_of_ble_eq_true rfl) ?_
    exact w_zretP C hr (Or.inr rfl) d_L_talks_1212 (⟨rfl, RP_w (RP_slp hq hRP) (by omega)⟩)
set_option maxHeartbeats 4000000 in
set_option maxRecDepth 100000 in
theorem t_wak {p : Program} {l : Launch} {e : Env} {s : State} {m : MethodId} {args : Array Value} {below : List Frame} {meth : Method} {c : Code} {D : va_G} {cs : Nat → ClassId} {ad : Nat → Nat} {st mt : Nat → Nat → Int32} {ov : Nat → Int64} {B : Nat} {q k : Nat} (hq : q < 5) (hk : k < 12) {act y z : Int32} (C : Cx p s m args meth c D cs ad (gA ad 60 s.heap.size) b_L_talks 13 "TwinRegisterLaw") (hr : meth.sig.returnType = some .boolean) (hl : l.stackTraces = false) (hB : B < 100000) (hRP : RP B st mt) : Wg p l e ({ frames := 9, cells := 97, slots := 582, locals := 171 } : Room) s m args below meth c (MQ below (QPi D cs ad ov (fun r u => r = 1 ∧ RP (B + 40) u.1 u.2) s.heap.size) args s 97 582 (gA ad 60 s.heap.size)) D cs ad (gA ad 60 s.heap.size) 13 0 0 1213 [(0, .ref (ad 0)), (1, .int act), (2, .int y), (3, .int z), (4, .ref (ad 50)), (5, .ref (ad 51)), (6, .ref (ad 52)), (7, .ref (ad 53)), (8, .ref (ad 54)), (9, .int (nI q)), (10, .int (nI k))] [] st mt ov := by
  refine w_aload C 6 d_L_talks_1213 rfl ?_
  refine w_iload C 9 d_L_talks_1215 rfl ?_
  refine ia_MA C 2 (by omega) rfl rfl (show _ < 5 by omega) d_L_talks_1217 ?_
  refine w_if_ge C 1225 d_L_talks_1218 (by decide) (fun h1218 => ?_) (fun h1218 => ?_)
  · skip
    refine w_aload C 5 d_L_talks_1225 rfl ?_
    refine w_iload C 9 d_L_talks_1227 rfl ?_
    refine ia_MA C 1 (by omega) rfl rfl (show _ < 5 by omega) d_L_talks_1229 ?_
    refine w_aload C 6 d_L_talks_1230 rfl ?_
    refine w_iload C 9 d_L_talks_1232 rfl ?_
    refine ia_MA C 2 (by omega) rfl rfl (show _ < 5 by omega) d_L_talks_1234 ?_
    refine w_isub C d_L_talks_1235 ?_
    refine w_istore (lv2 := [(11, .int _), (0, .ref (ad 0)), (1, .int act), (2, .int y), (3, .int z), (4, .ref (ad 50)), (5, .ref (ad 51)), (6, .ref (ad 52)), (7, .ref (ad 53)), (8, .ref (ad 54)), (9, .int (nI q)), (10, .int (nI k))]) C d_L_talks_1236 (by decide) rfl ?_
    refine w_aload C 7 d_L_talks_1238 rfl ?_
    refine w_iload C 10 d_L_talks_1240 rfl ?_
    refine w_iconst (v := (-1)) C d_L_talks_1242 rfl ?_
    refine is_MA C 2 (by omega) rfl rfl (show _ < 5 by omega) d_L_talks_1243 ?_
    refine w_aload_n C 1 d_L_talks_1244 rfl rfl ?_
    refine w_iconst (v := (-1)) C d_L_talks_1245 rfl ?_
    refine w_callTi C (w_runSW C (c_L_wake hl) m_427 m_428 m_23 m_429 ⟨rfl, rfl⟩ hd_L_wake rfl ⟨Nat.le_of_ble_eq_true rfl, Nat.le_of_ble_eq_true rfl⟩ rfl (Nat.le_of_ble_eq_true rfl) d_L_talks_1246 ⟨Nat.le_of_ble_eq_true rfl, Nat.le_of_ble_eq_true rfl⟩) (fun r9 u9 h9 => ?_)
    obtain ⟨e1, e2⟩ := X_wake_O (inR_no0 (n := 8) (by decide) (by decide)) h9
    rw [e1, e2]
    refine w_bipush (v := -71) C d_L_talks_1249 rfl ?_
    refine w_icmp_ne_f C 1269 d_L_talks_1251 (by decide) (by decide) ?_
    refine w_aload_n C 1 d_L_talks_1254 rfl rfl ?_
    refine w_iload C 10 d_L_talks_1255 rfl ?_
    refine w_callTi C (w_runSW C (c_L_wake hl) m_427 m_428 m_23 m_429 ⟨rfl, rfl⟩ hd_L_wake rfl ⟨Nat.le_of_ble_eq_true rfl, Nat.le_of_ble_eq_true rfl⟩ rfl (Nat.le_of_ble_eq_true rfl) d_L_talks_1257 ⟨Nat.le_of_ble_eq_true rfl, Nat.le_of_ble_eq_true rfl⟩) (fun r9 u9 h9 => ?_)
    obtain ⟨e1, e2⟩ := X_wake_k (by omega) h9
    rw [e1, e2]
    refine w_iload C 0 d_L_talks_1260 rfl ?_
    refine w_icmp_ne_f C 1269 d_L_talks_1262 (by decide) (by rw [hr_s hq hRP (h_slp hq hRP h1218), (hRP.2.2.1 q hq).1.1]) ?_
    refine w_iconst (v := 1) C d_L_talks_1265 rfl ?_
    refine w_goto C 1270 d_L_talks_1266 (by decide) ?_
    refine w_widen (k2 := 97) (n2 := 582) (Nat.le_of_ble_eq_true rfl) (Nat.le_of_ble_eq_true rfl) ?_
    exact w_zretP C hr (Or.inr rfl) d_L_talks_1270 (⟨rfl, RP_w (RP_wak hq hRP) (by omega)⟩)
  · skip
    refine w_iconst (v := 0) C d_L_talks_1221 rfl ?_
    refine w_goto C 1236 d_L_talks_1222 (by decide) ?_
    refine w_istore (lv2 := [(11, .int 0), (0, .ref (ad 0)), (1, .int act), (2, .int y), (3, .int z), (4, .ref (ad 50)), (5, .ref (ad 51)), (6, .ref (ad 52)), (7, .ref (ad 53)), (8, .ref (ad 54)), (9, .int (nI q)), (10, .int (nI k))]) C d_L_talks_1236 (by decide) rfl ?_
    refine w_aload C 7 d_L_talks_1238 rfl ?_
    refine w_iload C 10 d_L_talks_1240 rfl ?_
    refine w_iconst (v := (-1)) C d_L_talks_1242 rfl ?_
    refine is_MA C 2 (by omega) rfl rfl (show _ < 5 by omega) d_L_talks_1243 ?_
    refine w_aload_n C 1 d_L_talks_1244 rfl rfl ?_
    refine w_iconst (v := (-1)) C d_L_talks_1245 rfl ?_
    refine w_callTi C (w_runSW C (c_L_wake hl) m_427 m_428 m_23 m_429 ⟨rfl, rfl⟩ hd_L_wake rfl ⟨Nat.le_of_ble_eq_true rfl, Nat.le_of_ble_eq_true rfl⟩ rfl (Nat.le_of_ble_eq_true rfl) d_L_talks_1246 ⟨Nat.le_of_ble_eq_true rfl, Nat.le_of_ble_eq_true rfl⟩) (fun r9 u9 h9 => ?_)
    obtain ⟨e1, e2⟩ := X_wake_O (inR_no0 (n := 8) (by decide) (by decide)) h9
    rw [e1, e2]
    refine w_bipush (v := -71) C d_L_talks_1249 rfl ?_
    refine w_icmp_ne_f C 1269 d_L_talks_1251 (by decide) (by decide) ?_
    refine w_aload_n C 1 d_L_talks_1254 rfl rfl ?_
    refine w_iload C 10 d_L_talks_1255 rfl ?_
    refine w_callTi C (w_runSW C (c_L_wake hl) m_427 m_428 m_23 m_429 ⟨rfl, rfl⟩ hd_L_wake rfl ⟨Nat.le_of_ble_eq_true rfl, Nat.le_of_ble_eq_true rfl⟩ rfl (Nat.le_of_ble_eq_true rfl) d_L_talks_1257 ⟨Nat.le_of_ble_eq_true rfl, Nat.le_of_ble_eq_true rfl⟩) (fun r9 u9 h9 => ?_)
    obtain ⟨e1, e2⟩ := X_wake_k (by omega) h9
    rw [e1, e2]
    refine w_iload C 0 d_L_talks_1260 rfl ?_
    refine w_icmp_ne_f C 1269 d_L_talks_1262 (by decide) (by rw [hr_a hq hRP (h_awk hB hq hRP h1218), (hRP.2.2.1 q hq).1.1]; exact Int32.sub_self _) ?_
    refine w_iconst (v := 1) C d_L_talks_1265 rfl ?_
    refine w_goto C 1270 d_L_talks_1266 (by decide) ?_
    refine w_widen (k2 := 97) (n2 := 582) (Nat.le_of_ble_eq_true rfl) (Nat.le_of_ble_eq_true rfl) ?_
    exact w_zretP C hr (Or.inr rfl) d_L_talks_1270 (⟨rfl, RP_w (RP_wak hq hRP) (by omega)⟩)
set_option maxHeartbeats 4000000 in
set_option maxRecDepth 100000 in
theorem t_which {p : Program} {l : Launch} {e : Env} {s : State} {m : MethodId} {args : Array Value} {below : List Frame} {meth : Method} {c : Code} {D : va_G} {cs : Nat → ClassId} {ad : Nat → Nat} {st mt : Nat → Nat → Int32} {ov : Nat → Int64} {B : Nat} {q k : Nat} (hq : q < 5) (hk : k < 12) {act y z : Int32} (C : Cx p s m args meth c D cs ad (gA ad 60 s.heap.size) b_L_talks 13 "TwinRegisterLaw") (hr : meth.sig.returnType = some .boolean) (hl : l.stackTraces = false) (hB : B < 100000) (hRP : RP B st mt) : Wg p l e ({ frames := 9, cells := 97, slots := 582, locals := 171 } : Room) s m args below meth c (MQ below (QPi D cs ad ov (fun r u => r = 1 ∧ RP (B + 40) u.1 u.2) s.heap.size) args s 97 582 (gA ad 60 s.heap.size)) D cs ad (gA ad 60 s.heap.size) 13 0 0 28 [(0, .ref (ad 0)), (1, .int act), (2, .int y), (3, .int z), (4, .ref (ad 50)), (5, .ref (ad 51)), (6, .ref (ad 52)), (7, .ref (ad 53)), (8, .ref (ad 54)), (9, .int (nI q))] [.int (nI k)] st mt ov := by
  refine w_istore (lv2 := [(10, .int (nI k)), (0, .ref (ad 0)), (1, .int act), (2, .int y), (3, .int z), (4, .ref (ad 50)), (5, .ref (ad 51)), (6, .ref (ad 52)), (7, .ref (ad 53)), (8, .ref (ad 54)), (9, .int (nI q))]) C d_L_talks_28 (by decide) rfl ?_
  refine w_iload_n C 2 d_L_talks_30 rfl rfl ?_
  refine w_iconst (v := 5) C d_L_talks_31 rfl ?_
  refine w_icmp_ge C 149 d_L_talks_32 (by decide) (fun h32 => ?_) (fun h32 => ?_)
  · skip
    refine w_iload_n C 2 d_L_talks_149 rfl rfl ?_
    refine w_iconst (v := 5) C d_L_talks_150 rfl ?_
    refine w_icmp_ne C 230 d_L_talks_151 (by decide) (fun h151 => ?_) (fun h151 => ?_)
    · skip
      refine w_iload_n C 2 d_L_talks_230 rfl rfl ?_
      refine w_bipush (v := 9) C d_L_talks_231 rfl ?_
      refine w_icmp_ge C 469 d_L_talks_233 (by decide) (fun h233 => ?_) (fun h233 => ?_)
      · skip
        refine w_iload_n C 2 d_L_talks_469 rfl rfl ?_
        refine w_bipush (v := 12) C d_L_talks_470 rfl ?_
        refine w_icmp_ge C 769 d_L_talks_472 (by decide) (fun h472 => ?_) (fun h472 => ?_)
        · skip
          refine w_iload_n C 2 d_L_talks_769 rfl rfl ?_
          refine w_bipush (v := 12) C d_L_talks_770 rfl ?_
          refine w_icmp_ne C 915 d_L_talks_772 (by decide) (fun h772 => ?_) (fun h772 => ?_)
          · skip
            refine w_iload_n C 2 d_L_talks_915 rfl rfl ?_
            refine w_bipush (v := 16) C d_L_talks_916 rfl ?_
            refine w_icmp_ge C 1133 d_L_talks_918 (by decide) (fun h918 => ?_) (fun h918 => ?_)
            · skip
              refine w_iload_n C 2 d_L_talks_1133 rfl rfl ?_
              refine w_bipush (v := 16) C d_L_talks_1134 rfl ?_
              refine w_icmp_ne C 1213 d_L_talks_1136 (by decide) (fun h1136 => ?_) (fun h1136 => ?_)
              · skip
                exact w_lv (lv2 := [(0, .ref (ad 0)), (1, .int act), (2, .int y), (3, .int z), (4, .ref (ad 50)), (5, .ref (ad 51)), (6, .ref (ad 52)), (7, .ref (ad 53)), (8, .ref (ad 54)), (9, .int (nI q)), (10, .int (nI k))]) [1, 2, 3, 4, 5, 6, 7, 8, 9, 10, 0] rfl (t_wak hq hk C hr hl hB hRP)
              · skip
                exact w_lv (lv2 := [(0, .ref (ad 0)), (1, .int act), (2, .int y), (3, .int z), (4, .ref (ad 50)), (5, .ref (ad 51)), (6, .ref (ad 52)), (7, .ref (ad 53)), (8, .ref (ad 54)), (9, .int (nI q)), (10, .int (nI k))]) [1, 2, 3, 4, 5, 6, 7, 8, 9, 10, 0] rfl (t_slp hq hk C hr hl hB hRP)
            · skip
              exact w_lv (lv2 := [(0, .ref (ad 0)), (1, .int act), (2, .int y), (3, .int z), (4, .ref (ad 50)), (5, .ref (ad 51)), (6, .ref (ad 52)), (7, .ref (ad 53)), (8, .ref (ad 54)), (9, .int (nI q)), (10, .int (nI k))]) [1, 2, 3, 4, 5, 6, 7, 8, 9, 10, 0] rfl (t_ref hq hk C hr hl hB hRP)
          · skip
            exact w_lv (lv2 := [(0, .ref (ad 0)), (1, .int act), (2, .int y), (3, .int z), (4, .ref (ad 50)), (5, .ref (ad 51)), (6, .ref (ad 52)), (7, .ref (ad 53)), (8, .ref (ad 54)), (9, .int (nI q)), (10, .int (nI k))]) [1, 2, 3, 4, 5, 6, 7, 8, 9, 10, 0] rfl (t_obey hq hk C hr hl hB hRP)
        · skip
          exact w_lv (lv2 := [(0, .ref (ad 0)), (1, .int act), (2, .int y), (3, .int z), (4, .ref (ad 50)), (5, .ref (ad 51)), (6, .ref (ad 52)), (7, .ref (ad 53)), (8, .ref (ad 54)), (9, .int (nI q)), (10, .int (nI k))]) [1, 2, 3, 4, 5, 6, 7, 8, 9, 10, 0] rfl (t_rep hq hk C hr hl hB hRP)
      · skip
        exact w_lv (lv2 := [(0, .ref (ad 0)), (1, .int act), (2, .int y), (3, .int z), (4, .ref (ad 50)), (5, .ref (ad 51)), (6, .ref (ad 52)), (7, .ref (ad 53)), (8, .ref (ad 54)), (9, .int (nI q)), (10, .int (nI k))]) [1, 2, 3, 4, 5, 6, 7, 8, 9, 10, 0] rfl (t_wish hq hk C hr hl hB hRP)
    · skip
      exact w_lv (lv2 := [(0, .ref (ad 0)), (1, .int act), (2, .int y), (3, .int z), (4, .ref (ad 50)), (5, .ref (ad 51)), (6, .ref (ad 52)), (7, .ref (ad 53)), (8, .ref (ad 54)), (9, .int (nI q)), (10, .int (nI k))]) [1, 2, 3, 4, 5, 6, 7, 8, 9, 10, 0] rfl (t_drop hq hk C hr hl hB hRP)
  · skip
    exact w_lv (lv2 := [(0, .ref (ad 0)), (1, .int act), (2, .int y), (3, .int z), (4, .ref (ad 50)), (5, .ref (ad 51)), (6, .ref (ad 52)), (7, .ref (ad 53)), (8, .ref (ad 54)), (9, .int (nI q)), (10, .int (nI k))]) [1, 2, 3, 4, 5, 6, 7, 8, 9, 10, 0] rfl (t_put hq hk C hr hl hB hRP)
set_option maxHeartbeats 4000000 in
set_option maxRecDepth 100000 in
theorem c_L_talks {l : Launch} {D : va_G} {cs : Nat → ClassId} {ad : Nat → Nat} {st mt : Nat → Nat → Int32} {ov : Nat → Int64} {B : Nat} (hB : B < 100000) (hRP : RP B st mt) {act y z : Int32} (hl : l.stackTraces = false) : gM l y_L_talks b_L_talks 13 (some .boolean) ({ frames := 9, cells := 97, slots := 582, locals := 171 } : Room) 97 582 [.ref (ad 0), .int act, .int y, .int z, .ref (ad 50), .ref (ad 51), .ref (ad 52), .ref (ad 53), .ref (ad 54)] D cs ad st mt ov (QPi D cs ad ov (fun r u => r = 1 ∧ RP (B + 40) u.1 u.2)) := by
  refine gM_of (own := "TwinRegisterLaw") (by decide +kernel) rfl (Nat.le_of_ble_eq_true rfl) ?_
  intro p e s m args below meth c C hr
  refine w_lv (lv2 := [(0, .ref (ad 0)), (1, .int act), (2, .int y), (3, .int z), (4, .ref (ad 50)), (5, .ref (ad 51)), (6, .ref (ad 52)), (7, .ref (ad 53)), (8, .ref (ad 54))]) [0, 1, 2, 3, 4, 5, 6, 7, 8] rfl ?_
  refine w_iload_n C 2 d_L_talks_0 rfl rfl ?_
  refine w_iconst (v := 5) C d_L_talks_1 rfl ?_
  refine w_callMi C (w_runS C (c_L_low (n := 5) ⟨by decide, by decide⟩) m_178 m_179 m_23 m_180 ⟨rfl, rfl⟩ hd_L_low rfl ⟨Nat.le_of_ble_eq_true rfl, Nat.le_of_ble_eq_true rfl⟩ rfl (Nat.le_of_ble_eq_true rfl) d_L_talks_2 ⟨Nat.le_of_ble_eq_true rfl, Nat.le_of_ble_eq_true rfl⟩) (fun r9 u9 h9 => ?_)
  obtain ⟨⟨k2, hk2, e1⟩, e2⟩ := h9
  rw [e1, e2]
  refine w_istore (lv2 := [(9, .int (nI k2)), (0, .ref (ad 0)), (1, .int act), (2, .int y), (3, .int z), (4, .ref (ad 50)), (5, .ref (ad 51)), (6, .ref (ad 52)), (7, .ref (ad 53)), (8, .ref (ad 54))]) C d_L_talks_5 (by decide) rfl ?_
  refine w_iload_n C 3 d_L_talks_7 rfl rfl ?_
  refine w_bipush (v := 64) C d_L_talks_8 rfl ?_
  refine w_iand C d_L_talks_10 ?_
  refine w_if_ne C 23 d_L_talks_11 (by decide) (fun h11 => ?_) (fun h11 => ?_)
  · skip
    refine w_iload_n C 4 d_L_talks_23 rfl rfl ?_
    refine w_iconst (v := 3) C d_L_talks_24 rfl ?_
    refine w_callMi C (w_runS C (c_L_low (n := 3) ⟨by decide, by decide⟩) m_178 m_179 m_23 m_180 ⟨rfl, rfl⟩ hd_L_low rfl ⟨Nat.le_of_ble_eq_true rfl, Nat.le_of_ble_eq_true rfl⟩ rfl (Nat.le_of_ble_eq_true rfl) d_L_talks_25 ⟨Nat.le_of_ble_eq_true rfl, Nat.le_of_ble_eq_true rfl⟩) (fun r9 u9 h9 => ?_)
    obtain ⟨⟨k25, hk25, e1⟩, e2⟩ := h9
    rw [e1, e2]
    exact w_lv (lv2 := [(0, .ref (ad 0)), (1, .int act), (2, .int y), (3, .int z), (4, .ref (ad 50)), (5, .ref (ad 51)), (6, .ref (ad 52)), (7, .ref (ad 53)), (8, .ref (ad 54)), (9, .int (nI k2))]) [1, 2, 3, 4, 5, 6, 7, 8, 9, 0] rfl (t_which (q := k2) (k := k25) hk2 (by omega) C hr hl hB hRP)
  · skip
    refine w_iload_n C 4 d_L_talks_14 rfl rfl ?_
    refine w_bipush (v := 12) C d_L_talks_15 rfl ?_
    refine w_callMi C (w_runS C (c_L_low (n := 12) ⟨by decide, by decide⟩) m_178 m_179 m_23 m_180 ⟨rfl, rfl⟩ hd_L_low rfl ⟨Nat.le_of_ble_eq_true rfl, Nat.le_of_ble_eq_true rfl⟩ rfl (Nat.le_of_ble_eq_true rfl) d_L_talks_17 ⟨Nat.le_of_ble_eq_true rfl, Nat.le_of_ble_eq_true rfl⟩) (fun r9 u9 h9 => ?_)
    obtain ⟨⟨k17, hk17, e1⟩, e2⟩ := h9
    rw [e1, e2]
    refine w_goto C 28 d_L_talks_20 (by decide) ?_
    exact w_lv (lv2 := [(0, .ref (ad 0)), (1, .int act), (2, .int y), (3, .int z), (4, .ref (ad 50)), (5, .ref (ad 51)), (6, .ref (ad 52)), (7, .ref (ad 53)), (8, .ref (ad 54)), (9, .int (nI k2))]) [1, 2, 3, 4, 5, 6, 7, 8, 9, 0] rfl (t_which (q := k2) (k := k17) hk2 (by omega) C hr hl hB hRP)
