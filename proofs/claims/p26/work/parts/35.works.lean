/-! ===== words for works ===== -/
theorem setF_0 {st : St} {g : Nat} {a b c : Int32} : setF st g a b c (37 + g) 0 = a := by simp [setF, up2_at]
theorem nrng1 : ¬ rng 4 5 99 := by unfold rng; decide
theorem nrng2 : ¬ rng 100 0 99 := by unfold rng; decide
theorem nrng3 : ¬ rng (-1) 0 99 := by unfold rng; decide
theorem rng_lo {n : Nat} (h : n < 100) : rng (nI n) 0 99 := ⟨nI_pos (by omega), nI_le (a := n) (b := 99) (by omega) (by decide)⟩
theorem rng_hi {n m : Nat} (h : m < 100) (h2 : n ≤ m) : rng (nI m) (nI n) 99 := ⟨nI_nlt (a := m) (b := n) h2 (by omega), nI_le (a := m) (b := 99) (by omega) (by decide)⟩
theorem goodJ_nI {v r w : Nat} (hv : v < 100) (hr : 1 ≤ r ∧ r ≤ 8) (hw : 1 ≤ w ∧ w ≤ 8) : goodJ (nI v) (nI r) (nI w) :=
  ⟨⟨nI_pos (by omega), nI_le (a := v) (b := 99) (by omega) (by decide)⟩, ⟨nI_nlt (a := r) (b := 1) hr.1 (by omega), nI_le (a := r) (b := 8) hr.2 (by decide)⟩, ⟨nI_nlt (a := w) (b := 1) hw.1 (by omega), nI_le (a := w) (b := 8) hw.2 (by decide)⟩⟩
theorem inc_04 {st : St} {jc : Nat} {a b c d e : Int32} (hj0 : st 0 4 = nI jc) : incJ (adjF st jc a b c d e) 0 4 = nI (jc + 1) := by
  unfold incJ adjF
  simp only [up2_at]
  simp
  rw [hj0, if_neg (by omega), nI_1]
theorem c_not0 {B : Nat} {st mt : St} {j : Nat} (hj : j < 8) (h : RP B st mt) (h0 : ¬ mt 8 j ≤ 0) : ¬ st (42 + j) 5 = 0 := by
  intro z
  rw [(h.2.2.2.2.2.1 j hj).2.2.1, z] at h0
  exact h0 (by decide)
theorem c_is0 {B : Nat} {st mt : St} {j : Nat} (hj : j < 8) (h : RP B st mt) (h0 : mt 8 j ≤ 0) : st (42 + j) 5 = 0 := by
  obtain ⟨-, -, g3, g4⟩ := h.2.2.2.2.2.1 j hj
  rw [g3] at h0
  rcases g4 with z | z | z
  · exact z
  · rw [z] at h0
    exact absurd h0 (by decide)
  · rw [z] at h0
    exact absurd h0 (by decide)
theorem j_8 {jc : Nat} (h : jc ≤ 8) (h0 : ¬ nI jc = 8) : jc < 8 := by
  rcases Nat.lt_or_ge jc 8 with z | z
  · exact z
  · exact absurd (show nI jc = 8 by rw [show jc = 8 by omega]; rfl) h0
theorem j_ne {j jc : Nat} (h : j < jc + 1) (h0 : ¬ nI j = nI jc) : j < jc := by
  rcases Nat.lt_or_ge j jc with z | z
  · exact z
  · exact absurd (show nI j = nI jc by rw [show j = jc by omega]) h0
set_option maxHeartbeats 4000000 in
set_option maxRecDepth 100000 in
theorem l_wcan {p : Program} {l : Launch} {e : Env} {s : State} {m : MethodId} {args : Array Value} {below : List Frame} {meth : Method} {c : Code} {Q : State → Prop} {D : va_G} {cs : Nat → ClassId} {ad : Nat → Nat} {A : Nat → Prop} {cells slots : Nat} {st mt : Nat → Nat → Int32} {ov : Nat → Int64} {j : Nat} (hj : j < 8) (C : Cx p s m args meth c D cs ad A b_L_works 16 "TwinRegisterLaw") (hcs : cells ≤ 87 ∧ slots ≤ 522)
    (kx : Wg p l e ({ frames := 10, cells := 87, slots := 522, locals := 192 } : Room) s m args below meth c Q D cs ad A 16 cells slots 683 [(0, .ref (ad 0)), (8, .ref (ad 57)), (9, .ref (ad 58)), (13, .int (nI j)), (14, .int (cnL (mt 7 j) 5))] [] st mt ov) : ∀ n i : Nat, i + n = 5 → Wg p l e ({ frames := 10, cells := 87, slots := 522, locals := 192 } : Room) s m args below meth c Q D cs ad A 16 cells slots 645 [(0, .ref (ad 0)), (8, .ref (ad 57)), (9, .ref (ad 58)), (13, .int (nI j)), (14, .int (cnL (mt 7 j) i)), (15, .int (nI i))] [] st mt ov := by
  intro n
  induction n with
  | zero =>
    intro i hi
    have hi9 : 5 = i := by omega
    subst hi9
    refine w_iload C 5 d_L_works_645 rfl ?_
    refine w_iconst (v := 5) C d_L_works_647 rfl ?_
    refine w_icmp_ge_t C 683 d_L_works_648 (by decide) (nI_le (a := 5) (b := 5) (Nat.le_refl _) (by decide)) ?_
    exact w_lv [0, 1, 2, 3, 4] rfl kx
  | succ n ih =>
    intro i hi
    have hi2 : i < 5 := by omega
    refine w_iload C 5 d_L_works_645 rfl ?_
    refine w_iconst (v := 5) C d_L_works_647 rfl ?_
    refine w_icmp_ge_f C 683 d_L_works_648 (by decide) (nI_ge (b := 5) hi2 (by decide)) ?_
    refine w_iload C 4 d_L_works_651 rfl ?_
    refine w_aload C 1 d_L_works_653 rfl ?_
    refine w_iload C 3 d_L_works_655 rfl ?_
    refine ia_MA C 7 (by omega) rfl rfl (show _ < 8 by omega) d_L_works_657 ?_
    refine w_iconst (v := 2) C d_L_works_658 rfl ?_
    refine w_iload C 5 d_L_works_659 rfl ?_
    refine w_imul C d_L_works_661 ?_
    refine w_topi (y := (nI (2 * i))) (pk_mul 2 i) ?_
    refine w_ishr C d_L_works_662 ?_
    refine w_iconst (v := 3) C d_L_works_663 rfl ?_
    refine w_iand C d_L_works_664 ?_
    refine w_topi (y := (atL (mt 7 j) i)) (rfl) ?_
    refine w_iconst (v := 1) C d_L_works_665 rfl ?_
    refine w_icmp_ne C 673 d_L_works_666 (by decide) (fun h666 => ?_) (fun h666 => ?_)
    · skip
      refine w_iconst (v := 0) C d_L_works_673 rfl ?_
      refine w_iadd C d_L_works_674 ?_
      refine w_istore (lv2 := [(14, .int _), (0, .ref (ad 0)), (8, .ref (ad 57)), (9, .ref (ad 58)), (13, .int (nI j)), (15, .int (nI i))]) C d_L_works_675 (by decide) rfl ?_
      refine w_iinc (lv2 := [(15, .int (nI (i + 1))), (14, .int _), (0, .ref (ad 0)), (8, .ref (ad 57)), (9, .ref (ad 58)), (13, .int (nI j))]) C 5 d_L_works_677 rfl (nI_1 _) (by decide) rfl ?_
      refine w_goto C 645 d_L_works_680 (by decide) ?_
      have ih9 := ih (i + 1) (by omega)
      rw [show cnL (mt 7 j) (i + 1) = _ from cnS_f h666] at ih9
      exact w_lv [2, 3, 4, 5, 1, 0] rfl ih9
    · skip
      refine w_iconst (v := 1) C d_L_works_669 rfl ?_
      refine w_goto C 674 d_L_works_670 (by decide) ?_
      refine w_iadd C d_L_works_674 ?_
      refine w_istore (lv2 := [(14, .int _), (0, .ref (ad 0)), (8, .ref (ad 57)), (9, .ref (ad 58)), (13, .int (nI j)), (15, .int (nI i))]) C d_L_works_675 (by decide) rfl ?_
      refine w_iinc (lv2 := [(15, .int (nI (i + 1))), (14, .int _), (0, .ref (ad 0)), (8, .ref (ad 57)), (9, .ref (ad 58)), (13, .int (nI j))]) C 5 d_L_works_677 rfl (nI_1 _) (by decide) rfl ?_
      refine w_goto C 645 d_L_works_680 (by decide) ?_
      have ih9 := ih (i + 1) (by omega)
      rw [show cnL (mt 7 j) (i + 1) = _ from cnS_t h666] at ih9
      exact w_lv [2, 3, 4, 5, 1, 0] rfl ih9
set_option maxHeartbeats 4000000 in
set_option maxRecDepth 100000 in
theorem k_grp2 {p : Program} {l : Launch} {e : Env} {s : State} {m : MethodId} {args : Array Value} {below : List Frame} {meth : Method} {c : Code} {D : va_G} {cs : Nat → ClassId} {ad : Nat → Nat} {st mt : Nat → Nat → Int32} {ov : Nat → Int64} {B : Nat} {g k lo : Nat} (hg : g < 4) (hk : k < 12) (hlo : lo < 100) {z : Int32} (C : Cx p s m args meth c D cs ad (gA ad 60 s.heap.size) b_L_works 16 "TwinRegisterLaw") (hr : meth.sig.returnType = some .boolean) (hl : l.stackTraces = false) (hB : B < 100000) (hRP : RP B st mt) : Wg p l e ({ frames := 10, cells := 87, slots := 522, locals := 192 } : Room) s m args below meth c (MQ below (QPi D cs ad ov (fun r u => r = 1 ∧ RP (B + 40) u.1 u.2) s.heap.size) args s 87 522 (gA ad 60 s.heap.size)) D cs ad (gA ad 60 s.heap.size) 16 0 0 53 [(0, .ref (ad 0)), (3, .int z), (4, .ref (ad 50)), (6, .ref (ad 55)), (11, .int (nI g)), (12, .int (nI k))] [.int (nI lo)] st mt ov := by
  refine w_istore (lv2 := [(13, .int (nI lo)), (0, .ref (ad 0)), (3, .int z), (4, .ref (ad 50)), (6, .ref (ad 55)), (11, .int (nI g)), (12, .int (nI k))]) C d_L_works_53 (by decide) rfl ?_
  refine w_iload C 0 d_L_works_55 rfl ?_
  refine w_iload_n C 2 d_L_works_57 rfl rfl ?_
  refine w_bipush (v := 12) C d_L_works_58 rfl ?_
  refine w_ishr C d_L_works_60 ?_
  refine w_bipush (v := 100) C d_L_works_61 rfl ?_
  refine w_iload C 0 d_L_works_63 rfl ?_
  refine w_isub C d_L_works_65 ?_
  refine w_topi (y := (nI (100 - lo))) (pk_sub (a := 100) (b := lo) (by omega)) ?_
  refine w_callMi C (w_runS C (c_L_low (n := (100 - lo)) ⟨by omega, by omega⟩) m_178 m_179 m_23 m_180 ⟨rfl, rfl⟩ hd_L_low rfl ⟨Nat.le_of_ble_eq_true rfl, Nat.le_of_ble_eq_true rfl⟩ rfl (Nat.le_of_ble_eq_true rfl) d_L_works_66 ⟨Nat.le_of_ble_eq_true rfl, Nat.le_of_ble_eq_true rfl⟩) (fun r9 u9 h9 => ?_)
  obtain ⟨⟨k66, hk66, e1⟩, e2⟩ := h9
  rw [e1, e2]
  refine w_iadd C d_L_works_69 ?_
  refine w_topi (y := (nI (lo + k66))) (nI_add lo k66) ?_
  refine w_istore (lv2 := [(14, .int (nI (lo + k66))), (13, .int (nI lo)), (0, .ref (ad 0)), (3, .int z), (4, .ref (ad 50)), (6, .ref (ad 55)), (11, .int (nI g)), (12, .int (nI k))]) C d_L_works_70 (by decide) rfl ?_
  refine w_aload C 5 d_L_works_72 rfl ?_
  refine w_iload C 6 d_L_works_74 rfl ?_
  refine w_iload C 7 d_L_works_76 rfl ?_
  refine w_bipush (v := 16) C d_L_works_78 rfl ?_
  refine w_iload C 1 d_L_works_80 rfl ?_
  refine w_imul C d_L_works_82 ?_
  refine w_topi (y := (nI (16 * lo))) (pk_mul 16 lo) ?_
  refine w_iadd C d_L_works_83 ?_
  refine w_topi (y := (nI (k + 16 * lo))) (nI_add k (16 * lo)) ?_
  refine w_sipush (v := 2048) C d_L_works_84 rfl ?_
  refine w_iload C 0 d_L_works_87 rfl ?_
  refine w_imul C d_L_works_89 ?_
  refine w_topi (y := (nI (2048 * (lo + k66)))) (pk_mul 2048 (lo + k66)) ?_
  refine w_iadd C d_L_works_90 ?_
  refine w_topi (y := (nI (k + 16 * lo + 2048 * (lo + k66)))) (nI_add (k + 16 * lo) (2048 * (lo + k66))) ?_
  refine is_MA C 5 (by omega) rfl rfl (show _ < 4 by omega) d_L_works_91 ?_
  have hS : RP B (setF st g (nI k) (nI lo) (nI (lo + k66))) (up2 mt 5 g (nI (k + 16 * lo + 2048 * (lo + k66)))) := RP_set hg hk (by omega) (by omega) hRP
  have hgl := (GrR_l (hS.2.2.2.2.1 g hg)).1.trans setF_0
  refine w_aload_n C 2 d_L_works_92 rfl rfl ?_
  refine w_iconst (v := 4) C d_L_works_93 rfl ?_
  refine w_iload C 7 d_L_works_94 rfl ?_
  refine w_iconst (v := 5) C d_L_works_96 rfl ?_
  refine w_iconst (v := 4) C d_L_works_97 rfl ?_
  refine w_callTi C (w_runSW C (c_L_setGroup hl) m_441 m_442 m_23 m_443 ⟨rfl, rfl⟩ hd_L_setGroup rfl ⟨Nat.le_of_ble_eq_true rfl, Nat.le_of_ble_eq_true rfl⟩ rfl (Nat.le_of_ble_eq_true rfl) d_L_works_98 ⟨Nat.le_of_ble_eq_true rfl, Nat.le_of_ble_eq_true rfl⟩) (fun r9 u9 h9 => ?_)
  obtain ⟨e1, e2⟩ := X_setGroup_O (Or.inl (inR_no1 (n := 4) (by decide) (by decide))) h9
  rw [e1, e2]
  refine w_bipush (v := -71) C d_L_works_101 rfl ?_
  refine w_icmp_ne_f C 198 d_L_works_103 (by decide) (by decide) ?_
  refine w_aload_n C 2 d_L_works_106 rfl rfl ?_
  refine w_iload C 6 d_L_works_107 rfl ?_
  refine w_bipush (v := 12) C d_L_works_109 rfl ?_
  refine w_iconst (v := 0) C d_L_works_111 rfl ?_
  refine w_iconst (v := 0) C d_L_works_112 rfl ?_
  refine w_callTi C (w_runSW C (c_L_setGroup hl) m_441 m_442 m_23 m_443 ⟨rfl, rfl⟩ hd_L_setGroup rfl ⟨Nat.le_of_ble_eq_true rfl, Nat.le_of_ble_eq_true rfl⟩ rfl (Nat.le_of_ble_eq_true rfl) d_L_works_113 ⟨Nat.le_of_ble_eq_true rfl, Nat.le_of_ble_eq_true rfl⟩) (fun r9 u9 h9 => ?_)
  obtain ⟨e1, e2⟩ := X_setGroup_O (Or.inr (inR_no1 (n := 12) (by decide) (by decide))) h9
  rw [e1, e2]
  refine w_bipush (v := -71) C d_L_works_116 rfl ?_
  refine w_icmp_ne_f C 198 d_L_works_118 (by decide) (by decide) ?_
  refine w_aload_n C 2 d_L_works_121 rfl rfl ?_
  refine w_iload C 6 d_L_works_122 rfl ?_
  refine w_iload C 7 d_L_works_124 rfl ?_
  refine w_iconst (v := 5) C d_L_works_126 rfl ?_
  refine w_iconst (v := 4) C d_L_works_127 rfl ?_
  refine w_callTi C (w_runSW C (c_L_setGroup hl) m_441 m_442 m_23 m_443 ⟨rfl, rfl⟩ hd_L_setGroup rfl ⟨Nat.le_of_ble_eq_true rfl, Nat.le_of_ble_eq_true rfl⟩ rfl (Nat.le_of_ble_eq_true rfl) d_L_works_128 ⟨Nat.le_of_ble_eq_true rfl, Nat.le_of_ble_eq_true rfl⟩) (fun r9 u9 h9 => ?_)
  obtain ⟨e1, e2⟩ := X_setGroup_A hg hk (fun z => nrng1 z.2) h9
  rw [e1, e2]
  refine w_bipush (v := -72) C d_L_works_131 rfl ?_
  refine w_icmp_ne_f C 198 d_L_works_133 (by decide) (by decide) ?_
  refine w_aload_n C 2 d_L_works_136 rfl rfl ?_
  refine w_iload C 6 d_L_works_137 rfl ?_
  refine w_iload C 7 d_L_works_139 rfl ?_
  refine w_iconst (v := 0) C d_L_works_141 rfl ?_
  refine w_bipush (v := 100) C d_L_works_142 rfl ?_
  refine w_callTi C (w_runSW C (c_L_setGroup hl) m_441 m_442 m_23 m_443 ⟨rfl, rfl⟩ hd_L_setGroup rfl ⟨Nat.le_of_ble_eq_true rfl, Nat.le_of_ble_eq_true rfl⟩ rfl (Nat.le_of_ble_eq_true rfl) d_L_works_144 ⟨Nat.le_of_ble_eq_true rfl, Nat.le_of_ble_eq_true rfl⟩) (fun r9 u9 h9 => ?_)
  obtain ⟨e1, e2⟩ := X_setGroup_A hg hk (fun z => nrng2 z.2) h9
  rw [e1, e2]
  refine w_bipush (v := -72) C d_L_works_147 rfl ?_
  refine w_icmp_ne_f C 198 d_L_works_149 (by decide) (by decide) ?_
  refine w_aload_n C 2 d_L_works_152 rfl rfl ?_
  refine w_iload C 6 d_L_works_153 rfl ?_
  refine w_iload C 7 d_L_works_155 rfl ?_
  refine w_iconst (v := (-1)) C d_L_works_157 rfl ?_
  refine w_iconst (v := 4) C d_L_works_158 rfl ?_
  refine w_callTi C (w_runSW C (c_L_setGroup hl) m_441 m_442 m_23 m_443 ⟨rfl, rfl⟩ hd_L_setGroup rfl ⟨Nat.le_of_ble_eq_true rfl, Nat.le_of_ble_eq_true rfl⟩ rfl (Nat.le_of_ble_eq_true rfl) d_L_works_159 ⟨Nat.le_of_ble_eq_true rfl, Nat.le_of_ble_eq_true rfl⟩) (fun r9 u9 h9 => ?_)
  obtain ⟨e1, e2⟩ := X_setGroup_A hg hk (fun z => nrng3 z.1) h9
  rw [e1, e2]
  refine w_bipush (v := -72) C d_L_works_162 rfl ?_
  refine w_icmp_ne_f C 198 d_L_works_164 (by decide) (by decide) ?_
  refine w_aload_n C 2 d_L_works_167 rfl rfl ?_
  refine w_iload C 6 d_L_works_168 rfl ?_
  refine w_iload C 7 d_L_works_170 rfl ?_
  refine w_iload C 1 d_L_works_172 rfl ?_
  refine w_iload C 0 d_L_works_174 rfl ?_
  refine w_callTi C (w_runSW C (c_L_setGroup hl) m_441 m_442 m_23 m_443 ⟨rfl, rfl⟩ hd_L_setGroup rfl ⟨Nat.le_of_ble_eq_true rfl, Nat.le_of_ble_eq_true rfl⟩ rfl (Nat.le_of_ble_eq_true rfl) d_L_works_176 ⟨Nat.le_of_ble_eq_true rfl, Nat.le_of_ble_eq_true rfl⟩) (fun r9 u9 h9 => ?_)
  obtain ⟨e1, e2⟩ := X_setGroup_k hg hk (rng_lo hlo) (rng_hi (by omega) (by omega)) h9
  rw [e1, e2]
  refine w_aload C 4 d_L_works_179 rfl ?_
  refine w_aload C 5 d_L_works_181 rfl ?_
  refine w_iload C 6 d_L_works_183 rfl ?_
  refine w_callMi C (w_runS C (c_L_members hg hk hgl) m_464 m_465 m_23 m_466 ⟨rfl, rfl⟩ hd_L_members rfl ⟨Nat.le_of_ble_eq_true rfl, Nat.le_of_ble_eq_true rfl⟩ rfl (Nat.le_of_ble_eq_true rfl) d_L_works_185 ⟨Nat.le_of_ble_eq_true rfl, Nat.le_of_ble_eq_true rfl⟩) (fun r9 u9 h9 => ?_)
  obtain ⟨e1, e2⟩ := h9
  obtain ⟨n9, hn9, e4⟩ := mem_n hg hk hS
  refine w_topi (y := nI n9) (e1.trans ((mem_L hg hk hS).symm.trans e4)) ?_
  rw [e2]
  refine w_callMi C (w_runS C (c_L_many hn9) m_394 m_395 m_23 m_396 ⟨rfl, rfl⟩ hd_L_many rfl ⟨Nat.le_of_ble_eq_true rfl, Nat.le_of_ble_eq_true rfl⟩ rfl (Nat.le_of_ble_eq_true rfl) d_L_works_188 ⟨Nat.le_of_ble_eq_true rfl, Nat.le_of_ble_eq_true rfl⟩) (fun r188 u188 h188 => ?_)
  obtain ⟨rfl, h188⟩ := h188; have h188 := h188.symm; subst h188
  refine w_icmp_ne_f C 198 d_L_works_191 (by decide) (congrArg bcI e4) ?_
  refine w_iconst (v := 1) C d_L_works_194 rfl ?_
  refine w_goto C 199 d_L_works_195 (by decide) ?_
  refine w_widen (k2 := 87) (n2 := 522) (Nat.le_of_ble_eq_true rfl) (Nat.le_of_ble_eq_true rfl) ?_
  exact w_zretP C hr (Or.inr rfl) d_L_works_199 (⟨rfl, RP_w hS (by omega)⟩)
set_option maxHeartbeats 4000000 in
set_option maxRecDepth 100000 in
theorem k_grp {p : Program} {l : Launch} {e : Env} {s : State} {m : MethodId} {args : Array Value} {below : List Frame} {meth : Method} {c : Code} {D : va_G} {cs : Nat → ClassId} {ad : Nat → Nat} {st mt : Nat → Nat → Int32} {ov : Nat → Int64} {B : Nat} {g k : Nat} (hg : g < 4) (hk : k < 12) {act y z : Int32} (C : Cx p s m args meth c D cs ad (gA ad 60 s.heap.size) b_L_works 16 "TwinRegisterLaw") (hr : meth.sig.returnType = some .boolean) (hl : l.stackTraces = false) (hB : B < 100000) (hRP : RP B st mt) : Wg p l e ({ frames := 10, cells := 87, slots := 522, locals := 192 } : Room) s m args below meth c (MQ below (QPi D cs ad ov (fun r u => r = 1 ∧ RP (B + 40) u.1 u.2) s.heap.size) args s 87 522 (gA ad 60 s.heap.size)) D cs ad (gA ad 60 s.heap.size) 16 0 0 34 [(0, .ref (ad 0)), (1, .int act), (2, .int y), (3, .int z), (4, .ref (ad 50)), (5, .ref (ad 51)), (6, .ref (ad 55)), (7, .ref (ad 56)), (8, .ref (ad 57)), (9, .ref (ad 58)), (10, .ref (ad 59)), (11, .int (nI g)), (12, .int (nI k))] [] st mt ov := by
  refine w_iload_n C 3 d_L_works_34 rfl rfl ?_
  refine w_iconst (v := 4) C d_L_works_35 rfl ?_
  refine w_ishr C d_L_works_36 ?_
  refine w_iload_n C 3 d_L_works_37 rfl rfl ?_
  refine w_bipush (v := 8) C d_L_works_38 rfl ?_
  refine w_iand C d_L_works_40 ?_
  refine w_if_ne C 49 d_L_works_41 (by decide) (fun h41 => ?_) (fun h41 => ?_)
  · skip
    refine w_iconst (v := 4) C d_L_works_49 rfl ?_
    refine w_callMi C (w_runS C (c_L_low (n := 4) ⟨by decide, by decide⟩) m_178 m_179 m_23 m_180 ⟨rfl, rfl⟩ hd_L_low rfl ⟨Nat.le_of_ble_eq_true rfl, Nat.le_of_ble_eq_true rfl⟩ rfl (Nat.le_of_ble_eq_true rfl) d_L_works_50 ⟨Nat.le_of_ble_eq_true rfl, Nat.le_of_ble_eq_true rfl⟩) (fun r9 u9 h9 => ?_)
    obtain ⟨⟨k50, hk50, e1⟩, e2⟩ := h9
    rw [e1, e2]
    exact w_lv (lv2 := [(0, .ref (ad 0)), (3, .int z), (4, .ref (ad 50)), (6, .ref (ad 55)), (11, .int (nI g)), (12, .int (nI k))]) [0, 3, 4, 6, 11, 12] rfl (k_grp2 (lo := k50) hg hk (by omega) C hr hl hB hRP)
  · skip
    refine w_bipush (v := 100) C d_L_works_44 rfl ?_
    refine w_goto C 50 d_L_works_46 (by decide) ?_
    refine w_callMi C (w_runS C (c_L_low (n := 100) ⟨by decide, by decide⟩) m_178 m_179 m_23 m_180 ⟨rfl, rfl⟩ hd_L_low rfl ⟨Nat.le_of_ble_eq_true rfl, Nat.le_of_ble_eq_true rfl⟩ rfl (Nat.le_of_ble_eq_true rfl) d_L_works_50 ⟨Nat.le_of_ble_eq_true rfl, Nat.le_of_ble_eq_true rfl⟩) (fun r9 u9 h9 => ?_)
    obtain ⟨⟨k50, hk50, e1⟩, e2⟩ := h9
    rw [e1, e2]
    exact w_lv (lv2 := [(0, .ref (ad 0)), (3, .int z), (4, .ref (ad 50)), (6, .ref (ad 55)), (11, .int (nI g)), (12, .int (nI k))]) [0, 3, 4, 6, 11, 12] rfl (k_grp2 (lo := k50) hg hk (by omega) C hr hl hB hRP)
set_option maxHeartbeats 4000000 in
set_option maxRecDepth 100000 in
theorem k_job4 {p : Program} {l : Launch} {e : Env} {s : State} {m : MethodId} {args : Array Value} {below : List Frame} {meth : Method} {c : Code} {D : va_G} {cs : Nat → ClassId} {ad : Nat → Nat} {st mt : Nat → Nat → Int32} {ov : Nat → Int64} {B : Nat} {g k v r w : Nat} (hg : g < 4) (hk : k < 12) (hv : v < 100) (hr1 : 1 ≤ r ∧ r ≤ 8) (hw1 : 1 ≤ w ∧ w ≤ 8) (C : Cx p s m args meth c D cs ad (gA ad 60 s.heap.size) b_L_works 16 "TwinRegisterLaw") (hr : meth.sig.returnType = some .boolean) (hl : l.stackTraces = false) (hB : B < 100000) (hRP : RP B st mt) : Wg p l e ({ frames := 10, cells := 87, slots := 522, locals := 192 } : Room) s m args below meth c (MQ below (QPi D cs ad ov (fun r u => r = 1 ∧ RP (B + 40) u.1 u.2) s.heap.size) args s 87 522 (gA ad 60 s.heap.size)) D cs ad (gA ad 60 s.heap.size) 16 0 0 273 [(0, .ref (ad 0)), (6, .ref (ad 55)), (7, .ref (ad 56)), (10, .ref (ad 59)), (11, .int (nI g)), (12, .int (nI k)), (13, .int (nI v)), (14, .int (nI r))] [.int (nI w)] st mt ov := by
  obtain ⟨jc, hjc, hj0, hm0⟩ := hRP.2.2.2.2.2.2.1
  refine w_istore (lv2 := [(15, .int (nI w)), (0, .ref (ad 0)), (6, .ref (ad 55)), (7, .ref (ad 56)), (10, .ref (ad 59)), (11, .int (nI g)), (12, .int (nI k)), (13, .int (nI v)), (14, .int (nI r))]) C d_L_works_273 (by decide) rfl ?_
  refine w_aload_n C 1 d_L_works_275 rfl rfl ?_
  refine w_iconst (v := 4) C d_L_works_276 rfl ?_
  refine w_iload C 6 d_L_works_277 rfl ?_
  refine w_iload C 7 d_L_works_279 rfl ?_
  refine w_iload C 8 d_L_works_281 rfl ?_
  refine w_iconst (v := 0) C d_L_works_283 rfl ?_
  refine w_callTi C (w_runSW C (c_L_addJob hjc hj0 hl) m_467 m_468 m_23 m_469 ⟨rfl, rfl⟩ hd_L_addJob rfl ⟨Nat.le_of_ble_eq_true rfl, Nat.le_of_ble_eq_true rfl⟩ rfl (Nat.le_of_ble_eq_true rfl) d_L_works_284 ⟨Nat.le_of_ble_eq_true rfl, Nat.le_of_ble_eq_true rfl⟩) (fun r9 u9 h9 => ?_)
  obtain ⟨e1, e2⟩ := X_addJob_O (Or.inl (inR_no1 (n := 4) (by decide) (by decide))) h9
  rw [e1, e2]
  refine w_bipush (v := -71) C d_L_works_287 rfl ?_
  refine w_icmp_ne_f C 403 d_L_works_289 (by decide) (by decide) ?_
  refine w_aload_n C 1 d_L_works_292 rfl rfl ?_
  refine w_iload C 5 d_L_works_293 rfl ?_
  refine w_iconst (v := (-1)) C d_L_works_295 rfl ?_
  refine w_iload C 7 d_L_works_296 rfl ?_
  refine w_iload C 8 d_L_works_298 rfl ?_
  refine w_iload C 0 d_L_works_300 rfl ?_
  refine w_callTi C (w_runSW C (c_L_addJob hjc hj0 hl) m_467 m_468 m_23 m_469 ⟨rfl, rfl⟩ hd_L_addJob rfl ⟨Nat.le_of_ble_eq_true rfl, Nat.le_of_ble_eq_true rfl⟩ rfl (Nat.le_of_ble_eq_true rfl) d_L_works_302 ⟨Nat.le_of_ble_eq_true rfl, Nat.le_of_ble_eq_true rfl⟩) (fun r9 u9 h9 => ?_)
  obtain ⟨e1, e2⟩ := X_addJob_O (Or.inr (inR_no0 (n := 12) (by decide) (by decide))) h9
  rw [e1, e2]
  refine w_bipush (v := -71) C d_L_works_305 rfl ?_
  refine w_icmp_ne_f C 403 d_L_works_307 (by decide) (by decide) ?_
  refine w_aload_n C 1 d_L_works_310 rfl rfl ?_
  refine w_iload C 5 d_L_works_311 rfl ?_
  refine w_iload C 6 d_L_works_313 rfl ?_
  refine w_bipush (v := 100) C d_L_works_315 rfl ?_
  refine w_iload C 8 d_L_works_317 rfl ?_
  refine w_iload C 0 d_L_works_319 rfl ?_
  refine w_callTi C (w_runSW C (c_L_addJob hjc hj0 hl) m_467 m_468 m_23 m_469 ⟨rfl, rfl⟩ hd_L_addJob rfl ⟨Nat.le_of_ble_eq_true rfl, Nat.le_of_ble_eq_true rfl⟩ rfl (Nat.le_of_ble_eq_true rfl) d_L_works_321 ⟨Nat.le_of_ble_eq_true rfl, Nat.le_of_ble_eq_true rfl⟩) (fun r9 u9 h9 => ?_)
  obtain ⟨e1, e2⟩ := X_addJob_A hg hk (fun z => absurd z.1.2 (by decide)) h9
  rw [e1, e2]
  refine w_bipush (v := -72) C d_L_works_324 rfl ?_
  refine w_icmp_ne_f C 403 d_L_works_326 (by decide) (by decide) ?_
  refine w_aload_n C 1 d_L_works_329 rfl rfl ?_
  refine w_iload C 5 d_L_works_330 rfl ?_
  refine w_iload C 6 d_L_works_332 rfl ?_
  refine w_iload C 7 d_L_works_334 rfl ?_
  refine w_iconst (v := 0) C d_L_works_336 rfl ?_
  refine w_iload C 0 d_L_works_337 rfl ?_
  refine w_callTi C (w_runSW C (c_L_addJob hjc hj0 hl) m_467 m_468 m_23 m_469 ⟨rfl, rfl⟩ hd_L_addJob rfl ⟨Nat.le_of_ble_eq_true rfl, Nat.le_of_ble_eq_true rfl⟩ rfl (Nat.le_of_ble_eq_true rfl) d_L_works_339 ⟨Nat.le_of_ble_eq_true rfl, Nat.le_of_ble_eq_true rfl⟩) (fun r9 u9 h9 => ?_)
  obtain ⟨e1, e2⟩ := X_addJob_A hg hk (fun z => z.2.1.1 (by decide)) h9
  rw [e1, e2]
  refine w_bipush (v := -72) C d_L_works_342 rfl ?_
  refine w_icmp_ne_f C 403 d_L_works_344 (by decide) (by decide) ?_
  refine w_aload_n C 1 d_L_works_347 rfl rfl ?_
  refine w_iload C 5 d_L_works_348 rfl ?_
  refine w_iload C 6 d_L_works_350 rfl ?_
  refine w_iload C 7 d_L_works_352 rfl ?_
  refine w_bipush (v := 9) C d_L_works_354 rfl ?_
  refine w_iload C 0 d_L_works_356 rfl ?_
  refine w_callTi C (w_runSW C (c_L_addJob hjc hj0 hl) m_467 m_468 m_23 m_469 ⟨rfl, rfl⟩ hd_L_addJob rfl ⟨Nat.le_of_ble_eq_true rfl, Nat.le_of_ble_eq_true rfl⟩ rfl (Nat.le_of_ble_eq_true rfl) d_L_works_358 ⟨Nat.le_of_ble_eq_true rfl, Nat.le_of_ble_eq_true rfl⟩) (fun r9 u9 h9 => ?_)
  obtain ⟨e1, e2⟩ := X_addJob_A hg hk (fun z => absurd z.2.1.2 (by decide)) h9
  rw [e1, e2]
  refine w_bipush (v := -72) C d_L_works_361 rfl ?_
  refine w_icmp_ne_f C 403 d_L_works_363 (by decide) (by decide) ?_
  refine w_aload_n C 1 d_L_works_366 rfl rfl ?_
  refine w_iload C 5 d_L_works_367 rfl ?_
  refine w_iload C 6 d_L_works_369 rfl ?_
  refine w_iload C 7 d_L_works_371 rfl ?_
  refine w_iload C 8 d_L_works_373 rfl ?_
  refine w_bipush (v := 9) C d_L_works_375 rfl ?_
  refine w_callTi C (w_runSW C (c_L_addJob hjc hj0 hl) m_467 m_468 m_23 m_469 ⟨rfl, rfl⟩ hd_L_addJob rfl ⟨Nat.le_of_ble_eq_true rfl, Nat.le_of_ble_eq_true rfl⟩ rfl (Nat.le_of_ble_eq_true rfl) d_L_works_377 ⟨Nat.le_of_ble_eq_true rfl, Nat.le_of_ble_eq_true rfl⟩) (fun r9 u9 h9 => ?_)
  obtain ⟨e1, e2⟩ := X_addJob_A hg hk (fun z => absurd z.2.2.2 (by decide)) h9
  rw [e1, e2]
  refine w_bipush (v := -72) C d_L_works_380 rfl ?_
  refine w_icmp_ne_f C 403 d_L_works_382 (by decide) (by decide) ?_
  refine w_aload_n C 1 d_L_works_385 rfl rfl ?_
  refine w_iload C 5 d_L_works_386 rfl ?_
  refine w_iload C 6 d_L_works_388 rfl ?_
  refine w_iconst (v := (-1)) C d_L_works_390 rfl ?_
  refine w_iload C 8 d_L_works_391 rfl ?_
  refine w_iload C 0 d_L_works_393 rfl ?_
  refine w_callTi C (w_runSW C (c_L_addJob hjc hj0 hl) m_467 m_468 m_23 m_469 ⟨rfl, rfl⟩ hd_L_addJob rfl ⟨Nat.le_of_ble_eq_true rfl, Nat.le_of_ble_eq_true rfl⟩ rfl (Nat.le_of_ble_eq_true rfl) d_L_works_395 ⟨Nat.le_of_ble_eq_true rfl, Nat.le_of_ble_eq_true rfl⟩) (fun r9 u9 h9 => ?_)
  obtain ⟨e1, e2⟩ := X_addJob_A hg hk (fun z => z.1.1 (by decide)) h9
  rw [e1, e2]
  refine w_bipush (v := -72) C d_L_works_398 rfl ?_
  refine w_icmp_eq_t C 405 d_L_works_400 (by decide) (by decide) ?_
  refine w_aload C 4 d_L_works_405 rfl ?_
  refine w_iconst (v := 0) C d_L_works_407 rfl ?_
  refine ia_MA C 9 (by omega) rfl (show (0 : Int32) = nI 0 from rfl) (show 0 < 1 by decide) d_L_works_408 ?_
  refine w_topi (y := (nI jc)) (hm0) ?_
  refine w_bipush (v := 8) C d_L_works_409 rfl ?_
  refine w_icmp_ne C 439 d_L_works_411 (by decide) (fun h411 => ?_) (fun h411 => ?_)
  · skip
    have hj8 := j_8 hjc h411
    refine w_aload C 3 d_L_works_439 rfl ?_
    refine w_aload C 4 d_L_works_441 rfl ?_
    refine w_iconst (v := 0) C d_L_works_443 rfl ?_
    refine ia_MA C 9 (by omega) rfl (show (0 : Int32) = nI 0 from rfl) (show 0 < 1 by decide) d_L_works_444 ?_
    refine w_topi (y := (nI jc)) (hm0) ?_
    refine w_iload C 5 d_L_works_445 rfl ?_
    refine w_iconst (v := 4) C d_L_works_447 rfl ?_
    refine w_iload C 6 d_L_works_448 rfl ?_
    refine w_imul C d_L_works_450 ?_
    refine w_topi (y := (nI (4 * k))) (pk_mul 4 k) ?_
    refine w_iadd C d_L_works_451 ?_
    refine w_topi (y := (nI (g + 4 * k))) (nI_add g (4 * k)) ?_
    refine w_bipush (v := 64) C d_L_works_452 rfl ?_
    refine w_iload C 7 d_L_works_454 rfl ?_
    refine w_imul C d_L_works_456 ?_
    refine w_topi (y := (nI (64 * v))) (pk_mul 64 v) ?_
    refine w_iadd C d_L_works_457 ?_
    refine w_topi (y := (nI (g + 4 * k + 64 * v))) (nI_add _ _) ?_
    refine w_sipush (v := 8192) C d_L_works_458 rfl ?_
    refine w_iload C 8 d_L_works_461 rfl ?_
    refine w_imul C d_L_works_463 ?_
    refine w_topi (y := (nI (8192 * r))) (pk_mul 8192 r) ?_
    refine w_iadd C d_L_works_464 ?_
    refine w_topi (y := (nI (g + 4 * k + 64 * v + 8192 * r))) (nI_add _ _) ?_
    refine w_ldc (v := 131072) C m_475 d_L_works_465 ?_
    refine w_iload C 0 d_L_works_467 rfl ?_
    refine w_imul C d_L_works_469 ?_
    refine w_topi (y := (nI (131072 * w))) (pk_mul 131072 w) ?_
    refine w_iadd C d_L_works_470 ?_
    refine w_topi (y := (nI (g + 4 * k + 64 * v + 8192 * r + 131072 * w))) (nI_add _ _) ?_
    refine is_MA C 6 (by omega) rfl rfl (show _ < 8 by omega) d_L_works_471 ?_
    refine w_aload C 4 d_L_works_472 rfl ?_
    refine w_iconst (v := 0) C d_L_works_474 rfl ?_
    refine w_dup2 C d_L_works_475 rfl rfl ?_
    refine ia_MA C 9 (by omega) rfl (show (0 : Int32) = nI 0 from rfl) (show 0 < 1 by decide) d_L_works_476 ?_
    refine w_topi (y := (nI jc)) ((congrFun (up2_out mt _ (show 9 ≠ 6 by decide)) 0).trans hm0) ?_
    refine w_iconst (v := 1) C d_L_works_477 rfl ?_
    refine w_iadd C d_L_works_478 ?_
    refine w_topi (y := (nI (jc + 1))) (nI_1 jc) ?_
    refine is_MA C 9 (by omega) rfl (show (0 : Int32) = nI 0 from rfl) (show 0 < 1 by decide) d_L_works_479 ?_
    have hA := RP_jbs hg hk hv (r := r) (w := w) (by omega) (by omega) hj8 hj0 hRP
    refine w_aload_n C 1 d_L_works_480 rfl rfl ?_
    refine w_iload C 5 d_L_works_481 rfl ?_
    refine w_iload C 6 d_L_works_483 rfl ?_
    refine w_iload C 7 d_L_works_485 rfl ?_
    refine w_iload C 8 d_L_works_487 rfl ?_
    refine w_iload C 0 d_L_works_489 rfl ?_
    refine w_callTi C (w_runSW C (c_L_addJob hjc hj0 hl) m_467 m_468 m_23 m_469 ⟨rfl, rfl⟩ hd_L_addJob rfl ⟨Nat.le_of_ble_eq_true rfl, Nat.le_of_ble_eq_true rfl⟩ rfl (Nat.le_of_ble_eq_true rfl) d_L_works_491 ⟨Nat.le_of_ble_eq_true rfl, Nat.le_of_ble_eq_true rfl⟩) (fun r9 u9 h9 => ?_)
    obtain ⟨e1, e2⟩ := X_addJob_k hg hk (goodJ_nI hv hr1 hw1) hj8 h9
    rw [e1, e2]
    refine w_aload C 4 d_L_works_494 rfl ?_
    refine w_iconst (v := 0) C d_L_works_496 rfl ?_
    refine ia_MA C 9 (by omega) rfl (show (0 : Int32) = nI 0 from rfl) (show 0 < 1 by decide) d_L_works_497 ?_
    refine w_topi (y := (nI (jc + 1))) (by simp [up2_at]) ?_
    refine w_iconst (v := 1) C d_L_works_498 rfl ?_
    refine w_isub C d_L_works_499 ?_
    refine w_icmp_ne_f C 507 d_L_works_500 (by decide) (congrArg (fun t => t - 1) (inc_04 hj0)) ?_
    refine w_iconst (v := 1) C d_L_works_503 rfl ?_
    refine w_goto C 508 d_L_works_504 (by decide) ?_
    refine w_widen (k2 := 87) (n2 := 522) (Nat.le_of_ble_eq_true rfl) (Nat.le_of_ble_eq_true rfl) ?_
    exact w_zretP C hr (Or.inr rfl) d_L_works_508 (⟨rfl, RP_w hA (by omega)⟩)
  · skip
    have e8 : jc = 8 := (nI_eq (by omega) (by decide)).mp h411
    subst e8
    refine w_aload_n C 1 d_L_works_414 rfl rfl ?_
    refine w_iload C 5 d_L_works_415 rfl ?_
    refine w_iload C 6 d_L_works_417 rfl ?_
    refine w_iload C 7 d_L_works_419 rfl ?_
    refine w_iload C 8 d_L_works_421 rfl ?_
    refine w_iload C 0 d_L_works_423 rfl ?_
    refine w_callTi C (w_runSW C (c_L_addJob hjc hj0 hl) m_467 m_468 m_23 m_469 ⟨rfl, rfl⟩ hd_L_addJob rfl ⟨Nat.le_of_ble_eq_true rfl, Nat.le_of_ble_eq_true rfl⟩ rfl (Nat.le_of_ble_eq_true rfl) d_L_works_425 ⟨Nat.le_of_ble_eq_true rfl, Nat.le_of_ble_eq_true rfl⟩) (fun r9 u9 h9 => ?_)
    obtain ⟨e1, e2⟩ := X_addJob_S hg hk (goodJ_nI hv hr1 hw1) h9
    rw [e1, e2]
    refine w_bipush (v := -73) C d_L_works_428 rfl ?_
    refine w_icmp_ne_f C 437 d_L_works_430 (by decide) (by decide) ?_
    refine w_iconst (v := 1) C d_L_works_433 rfl ?_
    refine w_goto C 438 d_L_works_434 (by decide) ?_
    refine w_widen (k2 := 87) (n2 := 522) (Nat.le_of_ble_eq_true rfl) (Nat.le_of_ble_eq_true rfl) ?_
    exact w_zretP C hr (Or.inr rfl) d_L_works_438 (⟨rfl, RP_w hRP (by omega)⟩)
set_option maxHeartbeats 4000000 in
set_option maxRecDepth 100000 in
theorem k_job3 {p : Program} {l : Launch} {e : Env} {s : State} {m : MethodId} {args : Array Value} {below : List Frame} {meth : Method} {c : Code} {D : va_G} {cs : Nat → ClassId} {ad : Nat → Nat} {st mt : Nat → Nat → Int32} {ov : Nat → Int64} {B : Nat} {g k v r : Nat} (hg : g < 4) (hk : k < 12) (hv : v < 100) (hr1 : 1 ≤ r ∧ r ≤ 8) {y : Int32} (C : Cx p s m args meth c D cs ad (gA ad 60 s.heap.size) b_L_works 16 "TwinRegisterLaw") (hr : meth.sig.returnType = some .boolean) (hl : l.stackTraces = false) (hB : B < 100000) (hRP : RP B st mt) : Wg p l e ({ frames := 10, cells := 87, slots := 522, locals := 192 } : Room) s m args below meth c (MQ below (QPi D cs ad ov (fun r u => r = 1 ∧ RP (B + 40) u.1 u.2) s.heap.size) args s 87 522 (gA ad 60 s.heap.size)) D cs ad (gA ad 60 s.heap.size) 16 0 0 249 [(0, .ref (ad 0)), (2, .int y), (6, .ref (ad 55)), (7, .ref (ad 56)), (10, .ref (ad 59)), (11, .int (nI g)), (12, .int (nI k)), (13, .int (nI v))] [.int (nI r)] st mt ov := by
  refine w_istore (lv2 := [(14, .int (nI r)), (0, .ref (ad 0)), (2, .int y), (6, .ref (ad 55)), (7, .ref (ad 56)), (10, .ref (ad 59)), (11, .int (nI g)), (12, .int (nI k)), (13, .int (nI v))]) C d_L_works_249 (by decide) rfl ?_
  refine w_iconst (v := 1) C d_L_works_251 rfl ?_
  refine w_iload_n C 2 d_L_works_252 rfl rfl ?_
  refine w_bipush (v := 12) C d_L_works_253 rfl ?_
  refine w_ishr C d_L_works_255 ?_
  refine w_iload_n C 2 d_L_works_256 rfl rfl ?_
  refine w_bipush (v := 32) C d_L_works_257 rfl ?_
  refine w_iand C d_L_works_259 ?_
  refine w_if_ne C 268 d_L_works_260 (by decide) (fun h260 => ?_) (fun h260 => ?_)
  · skip
    refine w_iconst (v := 2) C d_L_works_268 rfl ?_
    refine w_callMi C (w_runS C (c_L_low (n := 2) ⟨by decide, by decide⟩) m_178 m_179 m_23 m_180 ⟨rfl, rfl⟩ hd_L_low rfl ⟨Nat.le_of_ble_eq_true rfl, Nat.le_of_ble_eq_true rfl⟩ rfl (Nat.le_of_ble_eq_true rfl) d_L_works_269 ⟨Nat.le_of_ble_eq_true rfl, Nat.le_of_ble_eq_true rfl⟩) (fun r9 u9 h9 => ?_)
    obtain ⟨⟨k269, hk269, e1⟩, e2⟩ := h9
    rw [e1, e2]
    refine w_iadd C d_L_works_272 ?_
    refine w_topi (y := (nI (1 + k269))) (nI_add 1 k269) ?_
    exact w_lv (lv2 := [(0, .ref (ad 0)), (6, .ref (ad 55)), (7, .ref (ad 56)), (10, .ref (ad 59)), (11, .int (nI g)), (12, .int (nI k)), (13, .int (nI v)), (14, .int (nI r))]) [1, 3, 4, 5, 6, 7, 8, 0] rfl (k_job4 (w := (1 + k269)) hg hk hv hr1 (by omega) C hr hl hB hRP)
  · skip
    refine w_bipush (v := 8) C d_L_works_263 rfl ?_
    refine w_goto C 269 d_L_works_265 (by decide) ?_
    refine w_callMi C (w_runS C (c_L_low (n := 8) ⟨by decide, by decide⟩) m_178 m_179 m_23 m_180 ⟨rfl, rfl⟩ hd_L_low rfl ⟨Nat.le_of_ble_eq_true rfl, Nat.le_of_ble_eq_true rfl⟩ rfl (Nat.le_of_ble_eq_true rfl) d_L_works_269 ⟨Nat.le_of_ble_eq_true rfl, Nat.le_of_ble_eq_true rfl⟩) (fun r9 u9 h9 => ?_)
    obtain ⟨⟨k269, hk269, e1⟩, e2⟩ := h9
    rw [e1, e2]
    refine w_iadd C d_L_works_272 ?_
    refine w_topi (y := (nI (1 + k269))) (nI_add 1 k269) ?_
    exact w_lv (lv2 := [(0, .ref (ad 0)), (6, .ref (ad 55)), (7, .ref (ad 56)), (10, .ref (ad 59)), (11, .int (nI g)), (12, .int (nI k)), (13, .int (nI v)), (14, .int (nI r))]) [1, 3, 4, 5, 6, 7, 8, 0] rfl (k_job4 (w := (1 + k269)) hg hk hv hr1 (by omega) C hr hl hB hRP)
set_option maxHeartbeats 4000000 in
set_option maxRecDepth 100000 in
theorem k_job2 {p : Program} {l : Launch} {e : Env} {s : State} {m : MethodId} {args : Array Value} {below : List Frame} {meth : Method} {c : Code} {D : va_G} {cs : Nat → ClassId} {ad : Nat → Nat} {st mt : Nat → Nat → Int32} {ov : Nat → Int64} {B : Nat} {g k v : Nat} (hg : g < 4) (hk : k < 12) (hv : v < 100) {y : Int32} (C : Cx p s m args meth c D cs ad (gA ad 60 s.heap.size) b_L_works 16 "TwinRegisterLaw") (hr : meth.sig.returnType = some .boolean) (hl : l.stackTraces = false) (hB : B < 100000) (hRP : RP B st mt) : Wg p l e ({ frames := 10, cells := 87, slots := 522, locals := 192 } : Room) s m args below meth c (MQ below (QPi D cs ad ov (fun r u => r = 1 ∧ RP (B + 40) u.1 u.2) s.heap.size) args s 87 522 (gA ad 60 s.heap.size)) D cs ad (gA ad 60 s.heap.size) 16 0 0 224 [(0, .ref (ad 0)), (2, .int y), (6, .ref (ad 55)), (7, .ref (ad 56)), (10, .ref (ad 59)), (11, .int (nI g)), (12, .int (nI k))] [.int (nI v)] st mt ov := by
  refine w_istore (lv2 := [(13, .int (nI v)), (0, .ref (ad 0)), (2, .int y), (6, .ref (ad 55)), (7, .ref (ad 56)), (10, .ref (ad 59)), (11, .int (nI g)), (12, .int (nI k))]) C d_L_works_224 (by decide) rfl ?_
  refine w_iconst (v := 1) C d_L_works_226 rfl ?_
  refine w_iload_n C 2 d_L_works_227 rfl rfl ?_
  refine w_bipush (v := 8) C d_L_works_228 rfl ?_
  refine w_ishr C d_L_works_230 ?_
  refine w_iload_n C 2 d_L_works_231 rfl rfl ?_
  refine w_sipush (v := 128) C d_L_works_232 rfl ?_
  refine w_iand C d_L_works_235 ?_
  refine w_if_ne C 244 d_L_works_236 (by decide) (fun h236 => ?_) (fun h236 => ?_)
  · skip
    refine w_iconst (v := 2) C d_L_works_244 rfl ?_
    refine w_callMi C (w_runS C (c_L_low (n := 2) ⟨by decide, by decide⟩) m_178 m_179 m_23 m_180 ⟨rfl, rfl⟩ hd_L_low rfl ⟨Nat.le_of_ble_eq_true rfl, Nat.le_of_ble_eq_true rfl⟩ rfl (Nat.le_of_ble_eq_true rfl) d_L_works_245 ⟨Nat.le_of_ble_eq_true rfl, Nat.le_of_ble_eq_true rfl⟩) (fun r9 u9 h9 => ?_)
    obtain ⟨⟨k245, hk245, e1⟩, e2⟩ := h9
    rw [e1, e2]
    refine w_iadd C d_L_works_248 ?_
    refine w_topi (y := (nI (1 + k245))) (nI_add 1 k245) ?_
    exact w_lv (lv2 := [(0, .ref (ad 0)), (2, .int y), (6, .ref (ad 55)), (7, .ref (ad 56)), (10, .ref (ad 59)), (11, .int (nI g)), (12, .int (nI k)), (13, .int (nI v))]) [1, 2, 3, 4, 5, 6, 7, 0] rfl (k_job3 (r := (1 + k245)) hg hk hv (by omega) C hr hl hB hRP)
  · skip
    refine w_bipush (v := 8) C d_L_works_239 rfl ?_
    refine w_goto C 245 d_L_works_241 (by decide) ?_
    refine w_callMi C (w_runS C (c_L_low (n := 8) ⟨by decide, by decide⟩) m_178 m_179 m_23 m_180 ⟨rfl, rfl⟩ hd_L_low rfl ⟨Nat.le_of_ble_eq_true rfl, Nat.le_of_ble_eq_true rfl⟩ rfl (Nat.le_of_ble_eq_true rfl) d_L_works_245 ⟨Nat.le_of_ble_eq_true rfl, Nat.le_of_ble_eq_true rfl⟩) (fun r9 u9 h9 => ?_)
    obtain ⟨⟨k245, hk245, e1⟩, e2⟩ := h9
    rw [e1, e2]
    refine w_iadd C d_L_works_248 ?_
    refine w_topi (y := (nI (1 + k245))) (nI_add 1 k245) ?_
    exact w_lv (lv2 := [(0, .ref (ad 0)), (2, .int y), (6, .ref (ad 55)), (7, .ref (ad 56)), (10, .ref (ad 59)), (11, .int (nI g)), (12, .int (nI k)), (13, .int (nI v))]) [1, 2, 3, 4, 5, 6, 7, 0] rfl (k_job3 (r := (1 + k245)) hg hk hv (by omega) C hr hl hB hRP)
set_option maxHeartbeats 4000000 in
set_option maxRecDepth 100000 in
theorem k_job {p : Program} {l : Launch} {e : Env} {s : State} {m : MethodId} {args : Array Value} {below : List Frame} {meth : Method} {c : Code} {D : va_G} {cs : Nat → ClassId} {ad : Nat → Nat} {st mt : Nat → Nat → Int32} {ov : Nat → Int64} {B : Nat} {g k : Nat} (hg : g < 4) (hk : k < 12) {act y z : Int32} (C : Cx p s m args meth c D cs ad (gA ad 60 s.heap.size) b_L_works 16 "TwinRegisterLaw") (hr : meth.sig.returnType = some .boolean) (hl : l.stackTraces = false) (hB : B < 100000) (hRP : RP B st mt) : Wg p l e ({ frames := 10, cells := 87, slots := 522, locals := 192 } : Room) s m args below meth c (MQ below (QPi D cs ad ov (fun r u => r = 1 ∧ RP (B + 40) u.1 u.2) s.heap.size) args s 87 522 (gA ad 60 s.heap.size)) D cs ad (gA ad 60 s.heap.size) 16 0 0 205 [(0, .ref (ad 0)), (1, .int act), (2, .int y), (3, .int z), (4, .ref (ad 50)), (5, .ref (ad 51)), (6, .ref (ad 55)), (7, .ref (ad 56)), (8, .ref (ad 57)), (9, .ref (ad 58)), (10, .ref (ad 59)), (11, .int (nI g)), (12, .int (nI k))] [] st mt ov := by
  refine w_iload_n C 3 d_L_works_205 rfl rfl ?_
  refine w_iconst (v := 4) C d_L_works_206 rfl ?_
  refine w_ishr C d_L_works_207 ?_
  refine w_iload_n C 3 d_L_works_208 rfl rfl ?_
  refine w_bipush (v := 8) C d_L_works_209 rfl ?_
  refine w_iand C d_L_works_211 ?_
  refine w_if_ne C 220 d_L_works_212 (by decide) (fun h212 => ?_) (fun h212 => ?_)
  · skip
    refine w_iconst (v := 4) C d_L_works_220 rfl ?_
    refine w_callMi C (w_runS C (c_L_low (n := 4) ⟨by decide, by decide⟩) m_178 m_179 m_23 m_180 ⟨rfl, rfl⟩ hd_L_low rfl ⟨Nat.le_of_ble_eq_true rfl, Nat.le_of_ble_eq_true rfl⟩ rfl (Nat.le_of_ble_eq_true rfl) d_L_works_221 ⟨Nat.le_of_ble_eq_true rfl, Nat.le_of_ble_eq_true rfl⟩) (fun r9 u9 h9 => ?_)
    obtain ⟨⟨k221, hk221, e1⟩, e2⟩ := h9
    rw [e1, e2]
    exact w_lv (lv2 := [(0, .ref (ad 0)), (2, .int y), (6, .ref (ad 55)), (7, .ref (ad 56)), (10, .ref (ad 59)), (11, .int (nI g)), (12, .int (nI k))]) [0, 2, 6, 7, 10, 11, 12] rfl (k_job2 (v := k221) hg hk (by omega) C hr hl hB hRP)
  · skip
    refine w_bipush (v := 100) C d_L_works_215 rfl ?_
    refine w_goto C 221 d_L_works_217 (by decide) ?_
    refine w_callMi C (w_runS C (c_L_low (n := 100) ⟨by decide, by decide⟩) m_178 m_179 m_23 m_180 ⟨rfl, rfl⟩ hd_L_low rfl ⟨Nat.le_of_ble_eq_true rfl, Nat.le_of_ble_eq_true rfl⟩ rfl (Nat.le_of_ble_eq_true rfl) d_L_works_221 ⟨Nat.le_of_ble_eq_true rfl, Nat.le_of_ble_eq_true rfl⟩) (fun r9 u9 h9 => ?_)
    obtain ⟨⟨k221, hk221, e1⟩, e2⟩ := h9
    rw [e1, e2]
    exact w_lv (lv2 := [(0, .ref (ad 0)), (2, .int y), (6, .ref (ad 55)), (7, .ref (ad 56)), (10, .ref (ad 59)), (11, .int (nI g)), (12, .int (nI k))]) [0, 2, 6, 7, 10, 11, 12] rfl (k_job2 (v := k221) hg hk (by omega) C hr hl hB hRP)
set_option maxHeartbeats 4000000 in
set_option maxRecDepth 100000 in
theorem k_wave {p : Program} {l : Launch} {e : Env} {s : State} {m : MethodId} {args : Array Value} {below : List Frame} {meth : Method} {c : Code} {D : va_G} {cs : Nat → ClassId} {ad : Nat → Nat} {st mt : Nat → Nat → Int32} {ov : Nat → Int64} {B : Nat} {g k : Nat} (hg : g < 4) (hk : k < 12) {act y z : Int32} (C : Cx p s m args meth c D cs ad (gA ad 60 s.heap.size) b_L_works 16 "TwinRegisterLaw") (hr : meth.sig.returnType = some .boolean) (hl : l.stackTraces = false) (hB : B < 100000) (hRP : RP B st mt) : Wg p l e ({ frames := 10, cells := 87, slots := 522, locals := 192 } : Room) s m args below meth c (MQ below (QPi D cs ad ov (fun r u => r = 1 ∧ RP (B + 40) u.1 u.2) s.heap.size) args s 87 522 (gA ad 60 s.heap.size)) D cs ad (gA ad 60 s.heap.size) 16 0 0 514 [(0, .ref (ad 0)), (1, .int act), (2, .int y), (3, .int z), (4, .ref (ad 50)), (5, .ref (ad 51)), (6, .ref (ad 55)), (7, .ref (ad 56)), (8, .ref (ad 57)), (9, .ref (ad 58)), (10, .ref (ad 59)), (11, .int (nI g)), (12, .int (nI k))] [] st mt ov := by
  obtain ⟨jc, hjc, hj0, hm0⟩ := hRP.2.2.2.2.2.2.1
  have hs := RP_okS hRP
  have hW := wav_q hjc hj0 hRP jc (Nat.le_refl _)
  refine w_aload_n C 0 d_L_works_514 rfl rfl ?_
  refine w_callTi C (w_runV C (c_T_wave hs hjc hj0) (by omega) e_T rfl rfl m_476 m_477 m_478 m_24 m_479 ⟨rfl, rfl⟩ hd_T_wave rfl ⟨Nat.le_of_ble_eq_true rfl, Nat.le_of_ble_eq_true rfl⟩ rfl (Nat.le_of_ble_eq_true rfl) d_L_works_515 ⟨Nat.le_of_ble_eq_true rfl, Nat.le_of_ble_eq_true rfl⟩) (fun r9 u9 h9 => ?_)
  obtain ⟨e1, e2⟩ := pr_inj h9
  rw [e1, e2]
  refine w_aload C 4 d_L_works_518 rfl ?_
  refine w_aload C 5 d_L_works_520 rfl ?_
  refine w_aload C 6 d_L_works_522 rfl ?_
  refine w_aload C 7 d_L_works_524 rfl ?_
  refine w_aload C 8 d_L_works_526 rfl ?_
  refine w_aload C 9 d_L_works_528 rfl ?_
  refine w_aload C 10 d_L_works_530 rfl ?_
  refine w_callMi C (w_runS C (c_L_waves (RP_okL hRP) hjc hm0) m_496 m_497 m_23 m_498 ⟨rfl, rfl⟩ hd_L_waves rfl ⟨Nat.le_of_ble_eq_true rfl, Nat.le_of_ble_eq_true rfl⟩ rfl (Nat.le_of_ble_eq_true rfl) d_L_works_532 ⟨Nat.le_of_ble_eq_true rfl, Nat.le_of_ble_eq_true rfl⟩) (fun r9 u9 h9 => ?_)
  obtain ⟨e1, e2⟩ := pr_inj h9
  rw [e1, e2]
  refine w_icmp_ne_f C 542 d_L_works_535 (by decide) hW.2 ?_
  refine w_iconst (v := 1) C d_L_works_538 rfl ?_
  refine w_goto C 543 d_L_works_539 (by decide) ?_
  refine w_widen (k2 := 87) (n2 := 522) (Nat.le_of_ble_eq_true rfl) (Nat.le_of_ble_eq_true rfl) ?_
  exact w_zretP C hr (Or.inr rfl) d_L_works_543 (⟨rfl, RP_w hW.1 (by omega)⟩)
set_option maxHeartbeats 4000000 in
set_option maxRecDepth 100000 in
theorem k_can {p : Program} {l : Launch} {e : Env} {s : State} {m : MethodId} {args : Array Value} {below : List Frame} {meth : Method} {c : Code} {D : va_G} {cs : Nat → ClassId} {ad : Nat → Nat} {st mt : Nat → Nat → Int32} {ov : Nat → Int64} {B : Nat} {g k : Nat} (hg : g < 4) (hk : k < 12) {act y z : Int32} (C : Cx p s m args meth c D cs ad (gA ad 60 s.heap.size) b_L_works 16 "TwinRegisterLaw") (hr : meth.sig.returnType = some .boolean) (hl : l.stackTraces = false) (hB : B < 100000) (hRP : RP B st mt) : Wg p l e ({ frames := 10, cells := 87, slots := 522, locals := 192 } : Room) s m args below meth c (MQ below (QPi D cs ad ov (fun r u => r = 1 ∧ RP (B + 40) u.1 u.2) s.heap.size) args s 87 522 (gA ad 60 s.heap.size)) D cs ad (gA ad 60 s.heap.size) 16 0 0 544 [(0, .ref (ad 0)), (1, .int act), (2, .int y), (3, .int z), (4, .ref (ad 50)), (5, .ref (ad 51)), (6, .ref (ad 55)), (7, .ref (ad 56)), (8, .ref (ad 57)), (9, .ref (ad 58)), (10, .ref (ad 59)), (11, .int (nI g)), (12, .int (nI k))] [] st mt ov := by
  obtain ⟨jc, hjc, hj0, hm0⟩ := hRP.2.2.2.2.2.2.1
  refine w_iload_n C 2 d_L_works_544 rfl rfl ?_
  refine w_aload C 10 d_L_works_545 rfl ?_
  refine w_iconst (v := 0) C d_L_works_547 rfl ?_
  refine ia_MA C 9 (by omega) rfl (show (0 : Int32) = nI 0 from rfl) (show 0 < 1 by decide) d_L_works_548 ?_
  refine w_topi (y := (nI jc)) (hm0) ?_
  refine w_iconst (v := 1) C d_L_works_549 rfl ?_
  refine w_iadd C d_L_works_550 ?_
  refine w_topi (y := (nI (jc + 1))) (nI_1 jc) ?_
  refine w_callMi C (w_runS C (c_L_low (n := (jc + 1)) ⟨by omega, by omega⟩) m_178 m_179 m_23 m_180 ⟨rfl, rfl⟩ hd_L_low rfl ⟨Nat.le_of_ble_eq_true rfl, Nat.le_of_ble_eq_true rfl⟩ rfl (Nat.le_of_ble_eq_true rfl) d_L_works_551 ⟨Nat.le_of_ble_eq_true rfl, Nat.le_of_ble_eq_true rfl⟩) (fun r9 u9 h9 => ?_)
  obtain ⟨⟨k551, hk551, e1⟩, e2⟩ := h9
  rw [e1, e2]
  refine w_istore (lv2 := [(13, .int (nI k551)), (0, .ref (ad 0)), (1, .int act), (2, .int y), (3, .int z), (4, .ref (ad 50)), (5, .ref (ad 51)), (6, .ref (ad 55)), (7, .ref (ad 56)), (8, .ref (ad 57)), (9, .ref (ad 58)), (10, .ref (ad 59)), (11, .int (nI g)), (12, .int (nI k))]) C d_L_works_554 (by decide) rfl ?_
  refine w_iload C 0 d_L_works_556 rfl ?_
  refine w_aload C 11 d_L_works_558 rfl ?_
  refine w_iconst (v := 0) C d_L_works_560 rfl ?_
  refine ia_MA C 9 (by omega) rfl (show (0 : Int32) = nI 0 from rfl) (show 0 < 1 by decide) d_L_works_561 ?_
  refine w_topi (y := (nI jc)) (hm0) ?_
  refine w_icmp_ne C 592 d_L_works_562 (by decide) (fun h562 => ?_) (fun h562 => ?_)
  · skip
    have hj := j_ne hk551 h562
    refine w_aload C 10 d_L_works_592 rfl ?_
    refine w_iload C 0 d_L_works_594 rfl ?_
    refine ia_MA C 8 (by omega) rfl rfl (show _ < 8 by omega) d_L_works_596 ?_
    refine w_if_le C 617 d_L_works_597 (by decide) (fun h597 => ?_) (fun h597 => ?_)
    · skip
      refine w_iload_n C 4 d_L_works_617 rfl rfl ?_
      refine w_bipush (v := 6) C d_L_works_618 rfl ?_
      refine w_iand C d_L_works_620 ?_
      refine w_if_le C 639 d_L_works_621 (by decide) (fun h621 => ?_) (fun h621 => ?_)
      · skip
        refine w_iconst (v := 0) C d_L_works_639 rfl ?_
        refine w_istore (lv2 := [(14, .int 0), (13, .int (nI k551)), (0, .ref (ad 0)), (1, .int act), (2, .int y), (3, .int z), (4, .ref (ad 50)), (5, .ref (ad 51)), (6, .ref (ad 55)), (7, .ref (ad 56)), (8, .ref (ad 57)), (9, .ref (ad 58)), (10, .ref (ad 59)), (11, .int (nI g)), (12, .int (nI k))]) C d_L_works_640 (by decide) rfl ?_
        refine w_iconst (v := 0) C d_L_works_642 rfl ?_
        refine w_istore (lv2 := [(15, .int 0), (14, .int 0), (13, .int (nI k551)), (0, .ref (ad 0)), (1, .int act), (2, .int y), (3, .int z), (4, .ref (ad 50)), (5, .ref (ad 51)), (6, .ref (ad 55)), (7, .ref (ad 56)), (8, .ref (ad 57)), (9, .ref (ad 58)), (10, .ref (ad 59)), (11, .int (nI g)), (12, .int (nI k))]) C d_L_works_643 (by decide) rfl ?_
        refine w_lv (lv2 := [(0, .ref (ad 0)), (8, .ref (ad 57)), (9, .ref (ad 58)), (13, .int (nI k551)), (14, .int (cnL (mt 7 k551) 0)), (15, .int (nI 0))]) [3, 11, 12, 2, 1, 0] rfl ?_
        refine l_wcan (j := k551) (by omega) C ⟨Nat.le_of_ble_eq_true rfl, Nat.le_of_ble_eq_true rfl⟩ ?_ 5 0 rfl
        refine w_aload C 2 d_L_works_683 rfl ?_
        refine w_iload C 3 d_L_works_685 rfl ?_
        refine w_iconst (v := 2) C d_L_works_687 rfl ?_
        refine is_MA C 8 (by omega) rfl rfl (show _ < 8 by omega) d_L_works_688 ?_
        refine w_aload_n C 0 d_L_works_689 rfl rfl ?_
        refine w_iload C 3 d_L_works_690 rfl ?_
        refine w_callTi C (w_runSW C (c_L_cancel hjc hj0 hl) m_499 m_500 m_23 m_501 ⟨rfl, rfl⟩ hd_L_cancel rfl ⟨Nat.le_of_ble_eq_true rfl, Nat.le_of_ble_eq_true rfl⟩ rfl (Nat.le_of_ble_eq_true rfl) d_L_works_692 ⟨Nat.le_of_ble_eq_true rfl, Nat.le_of_ble_eq_true rfl⟩) (fun r9 u9 h9 => ?_)
        obtain ⟨e1, e2⟩ := X_cancel_k hjc hj (c_is0 (by omega) hRP h597) h9
        rw [e1, e2]
        refine w_iload C 4 d_L_works_695 rfl ?_
        refine w_icmp_ne_f C 704 d_L_works_697 (by decide) (cnL_5 (by omega) hRP) ?_
        refine w_iconst (v := 1) C d_L_works_700 rfl ?_
        refine w_goto C 705 d_L_works_701 (by decide) ?_
        refine w_widen (k2 := 87) (n2 := 522) (Nat.le_of_ble_eq_true rfl) (Nat.le_of_ble_eq_true rfl) ?_
        exact w_zretP C hr (Or.inr rfl) d_L_works_705 (⟨rfl, RP_w (RP_cnd hj hjc hj0 (Or.inr rfl) hRP) (by omega)⟩)
      · skip
        refine w_aload_n C 1 d_L_works_624 rfl rfl ?_
        refine w_iload C 0 d_L_works_625 rfl ?_
        refine w_callTi C (w_runSW C (c_L_state hjc hj0 hl) m_512 m_513 m_23 m_514 ⟨rfl, rfl⟩ hd_L_state rfl ⟨Nat.le_of_ble_eq_true rfl, Nat.le_of_ble_eq_true rfl⟩ rfl (Nat.le_of_ble_eq_true rfl) d_L_works_627 ⟨Nat.le_of_ble_eq_true rfl, Nat.le_of_ble_eq_true rfl⟩) (fun r9 u9 h9 => ?_)
        obtain ⟨e1, e2⟩ := X_state_k hjc hj h9
        rw [e1, e2]
        refine w_if_ne_f C 637 d_L_works_630 (by decide) (c_is0 (by omega) hRP h597) ?_
        refine w_iconst (v := 1) C d_L_works_633 rfl ?_
        refine w_goto C 638 d_L_works_634 (by decide) ?_
        refine w_widen (k2 := 87) (n2 := 522) (Nat.le_of_ble_eq_true rfl) (Nat.le_of_ble_eq_true rfl) ?_
        exact w_zretP C hr (Or.inr rfl) d_L_works_638 (⟨rfl, RP_w hRP (by omega)⟩)
    · skip
      refine w_aload_n C 1 d_L_works_600 rfl rfl ?_
      refine w_iload C 0 d_L_works_601 rfl ?_
      refine w_callTi C (w_runSW C (c_L_cancel hjc hj0 hl) m_499 m_500 m_23 m_501 ⟨rfl, rfl⟩ hd_L_cancel rfl ⟨Nat.le_of_ble_eq_true rfl, Nat.le_of_ble_eq_true rfl⟩ rfl (Nat.le_of_ble_eq_true rfl) d_L_works_603 ⟨Nat.le_of_ble_eq_true rfl, Nat.le_of_ble_eq_true rfl⟩) (fun r9 u9 h9 => ?_)
      obtain ⟨e1, e2⟩ := X_cancel_S hjc hj (c_not0 (by omega) hRP h597) h9
      rw [e1, e2]
      refine w_bipush (v := -73) C d_L_works_606 rfl ?_
      refine w_icmp_ne_f C 615 d_L_works_608 (by decide) (by decide) ?_
      refine w_iconst (v := 1) C d_L_works_611 rfl ?_
      refine w_goto C 616 d_L_works_612 (by decide) ?_
      refine w_widen (k2 := 87) (n2 := 522) (Nat.le_of_ble_eq_true rfl) (Nat.le_of_ble_eq_true rfl) ?_
      exact w_zretP C hr (Or.inr rfl) d_L_works_616 (⟨rfl, RP_w hRP (by omega)⟩)
  · skip
    refine w_aload_n C 1 d_L_works_565 rfl rfl ?_
    refine w_iload C 0 d_L_works_566 rfl ?_
    refine w_callTi C (w_runSW C (c_L_cancel hjc hj0 hl) m_499 m_500 m_23 m_501 ⟨rfl, rfl⟩ hd_L_cancel rfl ⟨Nat.le_of_ble_eq_true rfl, Nat.le_of_ble_eq_true rfl⟩ rfl (Nat.le_of_ble_eq_true rfl) d_L_works_568 ⟨Nat.le_of_ble_eq_true rfl, Nat.le_of_ble_eq_true rfl⟩) (fun r9 u9 h9 => ?_)
    obtain ⟨e1, e2⟩ := X_cancel_O (by rw [h562]; exact inR_no1 (by omega) (nI_le (Nat.le_refl _) (by omega))) h9
    rw [e1, e2]
    refine w_bipush (v := -71) C d_L_works_571 rfl ?_
    refine w_icmp_ne_f C 590 d_L_works_573 (by decide) (by decide) ?_
    refine w_aload_n C 1 d_L_works_576 rfl rfl ?_
    refine w_iconst (v := (-1)) C d_L_works_577 rfl ?_
    refine w_callTi C (w_runSW C (c_L_cancel hjc hj0 hl) m_499 m_500 m_23 m_501 ⟨rfl, rfl⟩ hd_L_cancel rfl ⟨Nat.le_of_ble_eq_true rfl, Nat.le_of_ble_eq_true rfl⟩ rfl (Nat.le_of_ble_eq_true rfl) d_L_works_578 ⟨Nat.le_of_ble_eq_true rfl, Nat.le_of_ble_eq_true rfl⟩) (fun r9 u9 h9 => ?_)
    obtain ⟨e1, e2⟩ := X_cancel_O (inR_no0 (by omega) (by decide)) h9
    rw [e1, e2]
    refine w_bipush (v := -71) C d_L_works_581 rfl ?_
    refine w_icmp_ne_f C 590 d_L_works_583 (by decide) (by decide) ?_
    refine w_iconst (v := 1) C d_L_works_586 rfl ?_
    refine w_goto C 591 d_L_works_587 (by decide) ?_
    refine w_widen (k2 := 87) (n2 := 522) (Nat.le_of_ble_eq_true rfl) (Nat.le_of_ble_eq_true rfl) ?_
    exact w_zretP C hr (Or.inr rfl) d_L_works_591 (⟨rfl, RP_w hRP (by omega)⟩)
set_option maxHeartbeats 4000000 in
set_option maxRecDepth 100000 in
theorem k_which {p : Program} {l : Launch} {e : Env} {s : State} {m : MethodId} {args : Array Value} {below : List Frame} {meth : Method} {c : Code} {D : va_G} {cs : Nat → ClassId} {ad : Nat → Nat} {st mt : Nat → Nat → Int32} {ov : Nat → Int64} {B : Nat} {g k : Nat} (hg : g < 4) (hk : k < 12) {act y z : Int32} (C : Cx p s m args meth c D cs ad (gA ad 60 s.heap.size) b_L_works 16 "TwinRegisterLaw") (hr : meth.sig.returnType = some .boolean) (hl : l.stackTraces = false) (hB : B < 100000) (hRP : RP B st mt) : Wg p l e ({ frames := 10, cells := 87, slots := 522, locals := 192 } : Room) s m args below meth c (MQ below (QPi D cs ad ov (fun r u => r = 1 ∧ RP (B + 40) u.1 u.2) s.heap.size) args s 87 522 (gA ad 60 s.heap.size)) D cs ad (gA ad 60 s.heap.size) 16 0 0 28 [(0, .ref (ad 0)), (1, .int act), (2, .int y), (3, .int z), (4, .ref (ad 50)), (5, .ref (ad 51)), (6, .ref (ad 55)), (7, .ref (ad 56)), (8, .ref (ad 57)), (9, .ref (ad 58)), (10, .ref (ad 59)), (11, .int (nI g))] [.int (nI k)] st mt ov := by
  refine w_istore (lv2 := [(12, .int (nI k)), (0, .ref (ad 0)), (1, .int act), (2, .int y), (3, .int z), (4, .ref (ad 50)), (5, .ref (ad 51)), (6, .ref (ad 55)), (7, .ref (ad 56)), (8, .ref (ad 57)), (9, .ref (ad 58)), (10, .ref (ad 59)), (11, .int (nI g))]) C d_L_works_28 (by decide) rfl ?_
  refine w_iload_n C 2 d_L_works_30 rfl rfl ?_
  refine w_if_ne C 200 d_L_works_31 (by decide) (fun h31 => ?_) (fun h31 => ?_)
  · skip
    refine w_iload_n C 2 d_L_works_200 rfl rfl ?_
    refine w_iconst (v := 1) C d_L_works_201 rfl ?_
    refine w_icmp_ne C 509 d_L_works_202 (by decide) (fun h202 => ?_) (fun h202 => ?_)
    · skip
      refine w_iload_n C 2 d_L_works_509 rfl rfl ?_
      refine w_iconst (v := 5) C d_L_works_510 rfl ?_
      refine w_icmp_ge C 544 d_L_works_511 (by decide) (fun h511 => ?_) (fun h511 => ?_)
      · skip
        exact w_lv (lv2 := [(0, .ref (ad 0)), (1, .int act), (2, .int y), (3, .int z), (4, .ref (ad 50)), (5, .ref (ad 51)), (6, .ref (ad 55)), (7, .ref (ad 56)), (8, .ref (ad 57)), (9, .ref (ad 58)), (10, .ref (ad 59)), (11, .int (nI g)), (12, .int (nI k))]) [1, 2, 3, 4, 5, 6, 7, 8, 9, 10, 11, 12, 0] rfl (k_can hg hk C hr hl hB hRP)
      · skip
        exact w_lv (lv2 := [(0, .ref (ad 0)), (1, .int act), (2, .int y), (3, .int z), (4, .ref (ad 50)), (5, .ref (ad 51)), (6, .ref (ad 55)), (7, .ref (ad 56)), (8, .ref (ad 57)), (9, .ref (ad 58)), (10, .ref (ad 59)), (11, .int (nI g)), (12, .int (nI k))]) [1, 2, 3, 4, 5, 6, 7, 8, 9, 10, 11, 12, 0] rfl (k_wave hg hk C hr hl hB hRP)
    · skip
      exact w_lv (lv2 := [(0, .ref (ad 0)), (1, .int act), (2, .int y), (3, .int z), (4, .ref (ad 50)), (5, .ref (ad 51)), (6, .ref (ad 55)), (7, .ref (ad 56)), (8, .ref (ad 57)), (9, .ref (ad 58)), (10, .ref (ad 59)), (11, .int (nI g)), (12, .int (nI k))]) [1, 2, 3, 4, 5, 6, 7, 8, 9, 10, 11, 12, 0] rfl (k_job hg hk C hr hl hB hRP)
  · skip
    exact w_lv (lv2 := [(0, .ref (ad 0)), (1, .int act), (2, .int y), (3, .int z), (4, .ref (ad 50)), (5, .ref (ad 51)), (6, .ref (ad 55)), (7, .ref (ad 56)), (8, .ref (ad 57)), (9, .ref (ad 58)), (10, .ref (ad 59)), (11, .int (nI g)), (12, .int (nI k))]) [1, 2, 3, 4, 5, 6, 7, 8, 9, 10, 11, 12, 0] rfl (k_grp hg hk C hr hl hB hRP)
set_option maxHeartbeats 4000000 in
set_option maxRecDepth 100000 in
theorem c_L_works {l : Launch} {D : va_G} {cs : Nat → ClassId} {ad : Nat → Nat} {st mt : Nat → Nat → Int32} {ov : Nat → Int64} {B : Nat} (hB : B < 100000) (hRP : RP B st mt) {act y z : Int32} (hl : l.stackTraces = false) : gM l y_L_works b_L_works 16 (some .boolean) ({ frames := 10, cells := 87, slots := 522, locals := 192 } : Room) 87 522 [.ref (ad 0), .int act, .int y, .int z, .ref (ad 50), .ref (ad 51), .ref (ad 55), .ref (ad 56), .ref (ad 57), .ref (ad 58), .ref (ad 59)] D cs ad st mt ov (QPi D cs ad ov (fun r u => r = 1 ∧ RP (B + 40) u.1 u.2)) := by
  refine gM_of (own := "TwinRegisterLaw") (by decide +kernel) rfl (Nat.le_of_ble_eq_true rfl) ?_
  intro p e s m args below meth c C hr
  refine w_lv (lv2 := [(0, .ref (ad 0)), (1, .int act), (2, .int y), (3, .int z), (4, .ref (ad 50)), (5, .ref (ad 51)), (6, .ref (ad 55)), (7, .ref (ad 56)), (8, .ref (ad 57)), (9, .ref (ad 58)), (10, .ref (ad 59))]) [0, 1, 2, 3, 4, 5, 6, 7, 8, 9, 10] rfl ?_
  refine w_iload_n C 2 d_L_works_0 rfl rfl ?_
  refine w_iconst (v := 4) C d_L_works_1 rfl ?_
  refine w_callMi C (w_runS C (c_L_low (n := 4) ⟨by decide, by decide⟩) m_178 m_179 m_23 m_180 ⟨rfl, rfl⟩ hd_L_low rfl ⟨Nat.le_of_ble_eq_true rfl, Nat.le_of_ble_eq_true rfl⟩ rfl (Nat.le_of_ble_eq_true rfl) d_L_works_2 ⟨Nat.le_of_ble_eq_true rfl, Nat.le_of_ble_eq_true rfl⟩) (fun r9 u9 h9 => ?_)
  obtain ⟨⟨k2, hk2, e1⟩, e2⟩ := h9
  rw [e1, e2]
  refine w_istore (lv2 := [(11, .int (nI k2)), (0, .ref (ad 0)), (1, .int act), (2, .int y), (3, .int z), (4, .ref (ad 50)), (5, .ref (ad 51)), (6, .ref (ad 55)), (7, .ref (ad 56)), (8, .ref (ad 57)), (9, .ref (ad 58)), (10, .ref (ad 59))]) C d_L_works_5 (by decide) rfl ?_
  refine w_iload_n C 3 d_L_works_7 rfl rfl ?_
  refine w_bipush (v := 64) C d_L_works_8 rfl ?_
  refine w_iand C d_L_works_10 ?_
  refine w_if_ne C 23 d_L_works_11 (by decide) (fun h11 => ?_) (fun h11 => ?_)
  · skip
    refine w_iload_n C 4 d_L_works_23 rfl rfl ?_
    refine w_iconst (v := 3) C d_L_works_24 rfl ?_
    refine w_callMi C (w_runS C (c_L_low (n := 3) ⟨by decide, by decide⟩) m_178 m_179 m_23 m_180 ⟨rfl, rfl⟩ hd_L_low rfl ⟨Nat.le_of_ble_eq_true rfl, Nat.le_of_ble_eq_true rfl⟩ rfl (Nat.le_of_ble_eq_true rfl) d_L_works_25 ⟨Nat.le_of_ble_eq_true rfl, Nat.le_of_ble_eq_true rfl⟩) (fun r9 u9 h9 => ?_)
    obtain ⟨⟨k25, hk25, e1⟩, e2⟩ := h9
    rw [e1, e2]
    exact w_lv (lv2 := [(0, .ref (ad 0)), (1, .int act), (2, .int y), (3, .int z), (4, .ref (ad 50)), (5, .ref (ad 51)), (6, .ref (ad 55)), (7, .ref (ad 56)), (8, .ref (ad 57)), (9, .ref (ad 58)), (10, .ref (ad 59)), (11, .int (nI k2))]) [1, 2, 3, 4, 5, 6, 7, 8, 9, 10, 11, 0] rfl (k_which (g := k2) (k := k25) hk2 (by omega) C hr hl hB hRP)
  · skip
    refine w_iload_n C 4 d_L_works_14 rfl rfl ?_
    refine w_bipush (v := 12) C d_L_works_15 rfl ?_
    refine w_callMi C (w_runS C (c_L_low (n := 12) ⟨by decide, by decide⟩) m_178 m_179 m_23 m_180 ⟨rfl, rfl⟩ hd_L_low rfl ⟨Nat.le_of_ble_eq_true rfl, Nat.le_of_ble_eq_true rfl⟩ rfl (Nat.le_of_ble_eq_true rfl) d_L_works_17 ⟨Nat.le_of_ble_eq_true rfl, Nat.le_of_ble_eq_true rfl⟩) (fun r9 u9 h9 => ?_)
    obtain ⟨⟨k17, hk17, e1⟩, e2⟩ := h9
    rw [e1, e2]
    refine w_goto C 28 d_L_works_20 (by decide) ?_
    exact w_lv (lv2 := [(0, .ref (ad 0)), (1, .int act), (2, .int y), (3, .int z), (4, .ref (ad 50)), (5, .ref (ad 51)), (6, .ref (ad 55)), (7, .ref (ad 56)), (8, .ref (ad 57)), (9, .ref (ad 58)), (10, .ref (ad 59)), (11, .int (nI k2))]) [1, 2, 3, 4, 5, 6, 7, 8, 9, 10, 11, 0] rfl (k_which (g := k2) (k := k17) hk2 (by omega) C hr hl hB hRP)
