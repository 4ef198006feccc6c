/-! ===== the class's own constructor ===== -/
def st0 : St := fun a => if 4 ≤ a ∧ a < 36 ∧ (a % 4 = 1 ∨ a % 4 = 2) then neg 12 else if 36 < a ∧ a < 41 then (fun k => if k = 2 then 99 else 0) else fun _ => 0
theorem st0_d {a : Nat} (h : a % 4 = 0) (h2 : a < 36) : st0 a = fun _ => 0 := by
  unfold st0
  rw [if_neg (by omega), if_neg (by omega)]
theorem st0_w {a : Nat} (h : a % 4 = 1 ∨ a % 4 = 2) (h1 : 4 ≤ a) (h2 : a < 36) : st0 a = neg 12 := by
  unfold st0
  rw [if_pos ⟨h1, h2, h⟩]
theorem st0_r {a : Nat} (h : a % 4 = 3) (h2 : a < 36) : st0 a = fun _ => 0 := by
  unfold st0
  rw [if_neg (by omega), if_neg (by omega)]
theorem st0_g {a : Nat} (h : 36 < a) (h2 : a < 41) : st0 a = fun k => if k = 2 then 99 else 0 := by
  unfold st0
  rw [if_neg (by omega), if_pos ⟨h, h2⟩]
theorem st0_j {a : Nat} (h : 40 < a) : st0 a = fun _ => 0 := by
  unfold st0
  rw [if_neg (by omega), if_neg (by omega)]
theorem rfs_s {base b d w : Nat} : va_up (rfs (kad base) b d w) d (some (base + (b + w * d))) = rfs (kad base) b (d + 1) w := by
  funext k
  by_cases h : k = d
  · subst h
    rw [va_up_self]
    unfold rfs
    rw [if_pos (by omega)]
  · rw [va_up_ne _ _ h]
    unfold rfs
    by_cases h2 : k < d
    · rw [if_pos h2, if_pos (by omega)]
    · rw [if_neg h2, if_neg (by omega)]
theorem rfs_0 {ad : Nat → Nat} {b w : Nat} : rfs ad b 0 w = fun _ => none := by
  funext k
  unfold rfs
  rw [if_neg (by omega)]
def tW (base : Nat) (cs : Nat → ClassId) (fs : List Value) (r t N : Nat) (f : Nat → Option Nat) : Nat → va_E := fun i => if i = 0 then .inr (0, fs) else if i = r then .inl (cs t, N, .inr (.inr (.inr (.inr f)))) else tE (kad base) cs st0 i
theorem dE_at {base n j : Nat} {cs : Nat → ClassId} {E : Nat → va_E} : dE base cs E n j n = .inr (2, [.ref (base + (n + 1)), .ref (base + (n + 2)), .ref (base + (n + 3)), .int 0, .int 0, .int 0, .int 0, .int 0]) := if_pos rfl
theorem oE_at {ci n : Nat} {fs : List Value} {E : Nat → va_E} : oE ci fs E n n = .inr (ci, fs) := if_pos rfl
theorem t0_dev {base q : Nat} {cs : Nat → ClassId} (hq : q < 8) : tE (kad base) cs st0 (4 + 4 * q) = .inr (2, [.ref (base + (4 + 4 * q + 1)), .ref (base + (4 + 4 * q + 2)), .ref (base + (4 + 4 * q + 3)), .int 0, .int 0, .int 0, .int 0, .int 0]) := by
  rw [tE_dev (by omega) (by omega) (by omega), st0_d (by omega) (by omega)]
theorem t0_r {base q r : Nat} {cs : Nat → ClassId} (hq : q < 8) (hr : 0 < r ∧ r < 4) : tE (kad base) cs st0 (4 + 4 * q + r) = .inl (cs 0, 12, .inl (if r = 3 then fun _ => 0 else neg 12)) := by
  rw [tE_row (by omega) (by omega) (by omega)]
  by_cases h : r = 3
  · rw [st0_r (by omega) (by omega), if_pos h]
  · rw [st0_w (by omega) (by omega) (by omega), if_neg h]
theorem t0_grp {base g : Nat} {cs : Nat → ClassId} (hg : g < 4) : tE (kad base) cs st0 (37 + g) = .inr (3, [.int 0, .int 0, .int 99]) := by
  rw [tE_grp (by omega) (by omega), st0_g (by omega) (by omega)]
  rfl
theorem t0_job {base j : Nat} {cs : Nat → ClassId} : tE (kad base) cs st0 (42 + j) = .inr (4, [.int 0, .int 0, .int 0, .int 0, .int 0, .int 0, .int 0, .int 0, .int 0]) := by
  rw [tE_job (by omega), st0_j (by omega)]
theorem df_D : ∀ j, j < 8 → defaultValue (ft_D j) = vp_V [.null, .null, .null, .int 0, .int 0, .int 0, .int 0, .int 0] j := by
  intro j hj
  rcases (by omega : j = 0 ∨ j = 1 ∨ j = 2 ∨ j = 3 ∨ j = 4 ∨ j = 5 ∨ j = 6 ∨ j = 7) with rfl | rfl | rfl | rfl | rfl | rfl | rfl | rfl <;> rfl
theorem df_F : ∀ j, j < 2 → defaultValue (ft_F j) = vp_V [.null, .int 0] j := by
  intro j hj
  rcases (by omega : j = 0 ∨ j = 1) with rfl | rfl <;> rfl
theorem df_G : ∀ j, j < 3 → defaultValue (ft_G j) = vp_V [.int 0, .int 0, .int 0] j := by
  intro j hj
  rcases (by omega : j = 0 ∨ j = 1 ∨ j = 2) with rfl | rfl | rfl <;> rfl
theorem df_J : ∀ j, j < 9 → defaultValue (ft_J j) = vp_V [.int 0, .int 0, .int 0, .int 0, .int 0, .int 0, .int 0, .int 0, .int 0] j := by
  intro j hj
  rcases (by omega : j = 0 ∨ j = 1 ∨ j = 2 ∨ j = 3 ∨ j = 4 ∨ j = 5 ∨ j = 6 ∨ j = 7 ∨ j = 8) with rfl | rfl | rfl | rfl | rfl | rfl | rfl | rfl | rfl <;> rfl
theorem df_T : ∀ j, j < 5 → defaultValue (ft_T j) = vp_V [.null, .null, .null, .null, .int 0] j := by
  intro j hj
  rcases (by omega : j = 0 ∨ j = 1 ∨ j = 2 ∨ j = 3 ∨ j = 4) with rfl | rfl | rfl | rfl | rfl <;> rfl
theorem k_n {p : Program} {l : Launch} {e : Env} {R : Room} {s : State} {m : MethodId} {args : Array Value} {below : List Frame} {meth : Method} {c : Code} {Q : State → Prop} {D : va_G} {base nL cells slots pc : Nat} {lv : List (Nat × Value)} {stk : List Value} {n n2 : Nat} {E : Nat → va_E} (h : n = n2) (k : Kg p l e R s m args below meth c Q D base nL cells slots pc lv stk n2 E) : Kg p l e R s m args below meth c Q D base nL cells slots pc lv stk n E := by
  subst h
  exact k
set_option maxHeartbeats 4000000 in
set_option maxRecDepth 100000 in
theorem lp_T_dev {l : Launch} {D : va_G} {cs : Nat → ClassId} {base : Nat} {p : Program} {e : Env} {s : State} {m : MethodId} {args : Array Value} {below : List Frame} {meth : Method} {c : Code} {Q : State → Prop} (C : Cx p s m args meth c D cs (kad base) (kA base) b_T_init 2 "TwinRegister") (hz : s.heap.size = base + 1) (hA : ax_A s) (k : Kg p l e ({ frames := 2, cells := 49, slots := 470, locals := 51 } : Room) s m args below meth c Q D base 2 35 374 51 [(1, .int (nI 8)), (0, .ref (base + 0))] [] 36 (tW base cs [.ref (base + 1), .ref (base + 3), .null, .null, .int 0] 3 3 8 (rfs (kad base) 4 8 4))) : ∀ f d, d + f = 8 → Kg p l e ({ frames := 2, cells := 49, slots := 470, locals := 51 } : Room) s m args below meth c Q D base 2 (3 + 4 * d) (22 + 44 * d) 26 [(1, .int (nI d)), (0, .ref (base + 0))] [] (4 + 4 * d) (tW base cs [.ref (base + 1), .ref (base + 3), .null, .null, .int 0] 3 3 8 (rfs (kad base) 4 d 4)) := by
  intro f
  induction f with
  | zero =>
    intro d hd
    have hd : d = 8 := hd
    subst hd
    refine k_iload_n C 0 d_T_init_26 rfl rfl ?_
    refine k_bipush (v := 8) C d_T_init_27 rfl ?_
    refine k_icmp_ge C 51 d_T_init_29 (by decide) (fun _ => k) (fun h => absurd (show (8 : Int32) ≤ nI 8 by decide) h)
  | succ f ih =>
    intro d hd
    have hd8 : d < 8 := by omega
    refine k_iload_n C 0 d_T_init_26 rfl rfl ?_
    refine k_bipush (v := 8) C d_T_init_27 rfl ?_
    refine k_icmp_ge C 51 d_T_init_29 (by decide) (fun h => absurd ((nI_leI (a := 8) (by decide) (by omega)).mp h) (by omega)) (fun _ => ?_)
    refine k_aload_n C 1 d_T_init_32 rfl rfl ?_
    refine k_get (ci := 0) (fs := [.ref (base + 1), .ref (base + 3), .null, .null, .int 0]) (v := .ref (base + 3)) C 0 1 i_T rfl (by omega) rfl (by decide) m_159 rfl rfl d_T_init_33 ?_
    refine k_iload_n C 0 d_T_init_36 rfl rfl ?_
    refine k_new (ci := 2) (fs := [.null, .null, .null, .int 0, .int 0, .int 0, .int 0, .int 0]) C i_D ft_D ft_D_ok m_59 m_61 m_26 rfl df_D (by omega) ⟨by show 3 + 4 * d + 1 ≤ 49; omega, by show 22 + 44 * d + 8 ≤ 470; omega⟩ d_T_init_37 ?_
    refine k_dup C d_T_init_40 rfl ?_
    refine k_makeN C hA (c_D_init (n := 4 + 4 * d) (va_up_self _ _ _)) m_62 m_63 m_26 m_64 ⟨rfl, rfl⟩ rfl hd_D_init ⟨Nat.le_of_ble_eq_true rfl, Nat.le_of_ble_eq_true rfl⟩ (Nat.le_of_ble_eq_true rfl) (by omega) ⟨by show 3 + 4 * d + 1 + 3 ≤ 49; omega, by show 22 + 44 * d + 8 + 36 ≤ 470; omega⟩ d_T_init_41 (fun u hu => ?_)
    subst hu
    dsimp only
    refine k_aast (t0 := 3) (N := 8) (ci := 2) (f := rfs (kad base) 4 d 4) C 3 (4 + 4 * d) d (by omega) ?_ rfl (by omega) dE_at rfl rfl (by omega) (by decide) d_T_init_44 ?_
    · unfold dE va_up tW
      repeat' split
      all_goals first | rfl | omega
    refine k_iinc (v := nI (d + 1)) C 0 d_T_init_45 rfl (nI_1 d) (by decide) rfl ?_
    refine k_goto C 26 d_T_init_48 (by decide) ?_
    refine k_n (n2 := 4 + 4 * (d + 1)) (by omega) ?_
    refine k_widen (k2 := 3 + 4 * (d + 1)) (n2 := 22 + 44 * (d + 1)) (by omega) (by omega) ?_
    refine k_E (E2 := tW base cs [.ref (base + 1), .ref (base + 3), .null, .null, .int 0] 3 3 8 (rfs (kad base) 4 (d + 1) 4)) (fun i hi => ?_) (ih (d + 1) (by omega))
    by_cases h3 : i = 3
    · subst h3
      rw [va_up_self]
      unfold tW
      rw [if_neg (by decide), if_pos rfl, ← rfs_s]
    · rw [va_up_ne _ _ h3]
      have e0 : tW base cs [.ref (base + 1), .ref (base + 3), .null, .null, .int 0] 3 3 8 (rfs (kad base) 4 (d + 1) 4) i = tW base cs [.ref (base + 1), .ref (base + 3), .null, .null, .int 0] 3 3 8 (rfs (kad base) 4 d 4) i := by
        unfold tW
        rw [if_neg h3, if_neg h3]
      rw [e0]
      by_cases hn : 4 + 4 * d ≤ i
      · have ht : tW base cs [.ref (base + 1), .ref (base + 3), .null, .null, .int 0] 3 3 8 (rfs (kad base) 4 d 4) i = tE (kad base) cs st0 i := by
          unfold tW
          rw [if_neg (by omega), if_neg h3]
        rw [ht]
        rcases (by omega : i = 4 + 4 * d ∨ i = 4 + 4 * d + 1 ∨ i = 4 + 4 * d + 2 ∨ i = 4 + 4 * d + 3) with rfl | rfl | rfl | rfl
        · rw [t0_dev hd8, dE_at]
        · rw [t0_r hd8 (by omega)]
          unfold dE
          rw [if_neg (by omega), if_pos rfl]
          rfl
        · rw [t0_r hd8 (by omega)]
          unfold dE
          rw [if_neg (by omega), if_neg (by omega), if_pos rfl]
          rfl
        · rw [t0_r hd8 (by omega)]
          unfold dE
          rw [if_neg (by omega), if_neg (by omega), if_neg (by omega), if_pos rfl]
          rfl
      · unfold dE
        rw [if_neg (by omega), if_neg (by omega), if_neg (by omega), if_neg (by omega), va_up_ne _ _ (by omega)]
set_option maxHeartbeats 4000000 in
set_option maxRecDepth 100000 in
theorem lp_T_grp {l : Launch} {D : va_G} {cs : Nat → ClassId} {base : Nat} {p : Program} {e : Env} {s : State} {m : MethodId} {args : Array Value} {below : List Frame} {meth : Method} {c : Code} {Q : State → Prop} (C : Cx p s m args meth c D cs (kad base) (kA base) b_T_init 2 "TwinRegister") (hz : s.heap.size = base + 1) (hA : ax_A s) (k : Kg p l e ({ frames := 2, cells := 49, slots := 470, locals := 51 } : Room) s m args below meth c Q D base 2 40 390 85 [(1, .int (nI 4)), (0, .ref (base + 0))] [] 41 (tW base cs [.ref (base + 1), .ref (base + 3), .ref (base + 36), .null, .int 0] 36 4 4 (rfs (kad base) 37 4 1))) : ∀ f d, d + f = 4 → Kg p l e ({ frames := 2, cells := 49, slots := 470, locals := 51 } : Room) s m args below meth c Q D base 2 (36 + d) (378 + 3 * d) 61 [(1, .int (nI d)), (0, .ref (base + 0))] [] (37 + d) (tW base cs [.ref (base + 1), .ref (base + 3), .ref (base + 36), .null, .int 0] 36 4 4 (rfs (kad base) 37 d 1)) := by
  intro f
  induction f with
  | zero =>
    intro d hd
    have hd : d = 4 := hd
    subst hd
    refine k_iload_n C 0 d_T_init_61 rfl rfl ?_
    refine k_iconst (v := 4) C d_T_init_62 rfl ?_
    refine k_icmp_ge C 85 d_T_init_63 (by decide) (fun _ => k) (fun h => absurd (show (4 : Int32) ≤ nI 4 by decide) h)
  | succ f ih =>
    intro d hd
    have hd8 : d < 4 := by omega
    refine k_iload_n C 0 d_T_init_61 rfl rfl ?_
    refine k_iconst (v := 4) C d_T_init_62 rfl ?_
    refine k_icmp_ge C 85 d_T_init_63 (by decide) (fun h => absurd ((nI_leI (a := 4) (by decide) (by omega)).mp h) (by omega)) (fun _ => ?_)
    refine k_aload_n C 1 d_T_init_66 rfl rfl ?_
    refine k_get (ci := 0) (fs := [.ref (base + 1), .ref (base + 3), .ref (base + 36), .null, .int 0]) (v := .ref (base + 36)) C 0 2 i_T rfl (by omega) rfl (by decide) m_160 rfl rfl d_T_init_67 ?_
    refine k_iload_n C 0 d_T_init_70 rfl rfl ?_
    refine k_new (ci := 3) (fs := [.int 0, .int 0, .int 0]) C i_G ft_G ft_G_ok m_99 m_101 m_27 rfl df_G (by omega) ⟨by show 36 + d + 1 ≤ 49; omega, by show 378 + 3 * d + 3 ≤ 470; omega⟩ d_T_init_71 ?_
    refine k_dup C d_T_init_74 rfl ?_
    refine k_makeN C hA (c_G_init (n := 37 + d) (va_up_self _ _ _)) m_102 m_103 m_27 m_104 ⟨rfl, rfl⟩ rfl hd_G_init ⟨Nat.le_of_ble_eq_true rfl, Nat.le_of_ble_eq_true rfl⟩ (Nat.le_of_ble_eq_true rfl) (by omega) ⟨by show 36 + d + 1 + 0 ≤ 49; omega, by show 378 + 3 * d + 3 + 0 ≤ 470; omega⟩ d_T_init_75 (fun u hu => ?_)
    subst hu
    dsimp only
    refine k_aast (t0 := 4) (N := 4) (ci := 3) (f := rfs (kad base) 37 d 1) C 36 (37 + d) d (by omega) ?_ rfl (by omega) oE_at rfl rfl (by omega) (by decide) d_T_init_78 ?_
    · unfold oE va_up tW
      repeat' split
      all_goals first | rfl | omega
    refine k_iinc (v := nI (d + 1)) C 0 d_T_init_79 rfl (nI_1 d) (by decide) rfl ?_
    refine k_goto C 61 d_T_init_82 (by decide) ?_
    refine k_n (n2 := 37 + (d + 1)) (by omega) ?_
    refine k_widen (k2 := 36 + (d + 1)) (n2 := 378 + 3 * (d + 1)) (by omega) (by omega) ?_
    refine k_E (E2 := tW base cs [.ref (base + 1), .ref (base + 3), .ref (base + 36), .null, .int 0] 36 4 4 (rfs (kad base) 37 (d + 1) 1)) (fun i hi => ?_) (ih (d + 1) (by omega))
    by_cases h3 : i = 36
    · subst h3
      rw [va_up_self]
      unfold tW
      rw [if_neg (by decide), if_pos rfl, ← rfs_s]
      rw [Nat.one_mul]
    · rw [va_up_ne _ _ h3]
      have e0 : tW base cs [.ref (base + 1), .ref (base + 3), .ref (base + 36), .null, .int 0] 36 4 4 (rfs (kad base) 37 (d + 1) 1) i = tW base cs [.ref (base + 1), .ref (base + 3), .ref (base + 36), .null, .int 0] 36 4 4 (rfs (kad base) 37 d 1) i := by
        unfold tW
        rw [if_neg h3, if_neg h3]
      rw [e0]
      by_cases hn : 37 + d ≤ i
      · have ht : tW base cs [.ref (base + 1), .ref (base + 3), .ref (base + 36), .null, .int 0] 36 4 4 (rfs (kad base) 37 d 1) i = tE (kad base) cs st0 i := by
          unfold tW
          rw [if_neg (by omega), if_neg h3]
        rw [ht]
        obtain rfl : i = 37 + d := by omega
        rw [t0_grp hd8, oE_at]
      · unfold oE
        rw [if_neg (by omega), va_up_ne _ _ (by omega)]
set_option maxHeartbeats 4000000 in
set_option maxRecDepth 100000 in
theorem lp_T_job {l : Launch} {D : va_G} {cs : Nat → ClassId} {base : Nat} {p : Program} {e : Env} {s : State} {m : MethodId} {args : Array Value} {below : List Frame} {meth : Method} {c : Code} {Q : State → Prop} (C : Cx p s m args meth c D cs (kad base) (kA base) b_T_init 2 "TwinRegister") (hz : s.heap.size = base + 1) (hA : ax_A s) (k : Kg p l e ({ frames := 2, cells := 49, slots := 470, locals := 51 } : Room) s m args below meth c Q D base 2 49 470 121 [(1, .int (nI 8)), (0, .ref (base + 0))] [] 50 (tW base cs [.ref (base + 1), .ref (base + 3), .ref (base + 36), .ref (base + 41), .int 0] 41 5 8 (rfs (kad base) 42 8 1))) : ∀ f d, d + f = 8 → Kg p l e ({ frames := 2, cells := 49, slots := 470, locals := 51 } : Room) s m args below meth c Q D base 2 (41 + d) (398 + 9 * d) 96 [(1, .int (nI d)), (0, .ref (base + 0))] [] (42 + d) (tW base cs [.ref (base + 1), .ref (base + 3), .ref (base + 36), .ref (base + 41), .int 0] 41 5 8 (rfs (kad base) 42 d 1)) := by
  intro f
  induction f with
  | zero =>
    intro d hd
    have hd : d = 8 := hd
    subst hd
    refine k_iload_n C 0 d_T_init_96 rfl rfl ?_
    refine k_bipush (v := 8) C d_T_init_97 rfl ?_
    refine k_icmp_ge C 121 d_T_init_99 (by decide) (fun _ => k) (fun h => absurd (show (8 : Int32) ≤ nI 8 by decide) h)
  | succ f ih =>
    intro d hd
    have hd8 : d < 8 := by omega
    refine k_iload_n C 0 d_T_init_96 rfl rfl ?_
    refine k_bipush (v := 8) C d_T_init_97 rfl ?_
    refine k_icmp_ge C 121 d_T_init_99 (by decide) (fun h => absurd ((nI_leI (a := 8) (by decide) (by omega)).mp h) (by omega)) (fun _ => ?_)
    refine k_aload_n C 1 d_T_init_102 rfl rfl ?_
    refine k_get (ci := 0) (fs := [.ref (base + 1), .ref (base + 3), .ref (base + 36), .ref (base + 41), .int 0]) (v := .ref (base + 41)) C 0 3 i_T rfl (by omega) rfl (by decide) m_161 rfl rfl d_T_init_103 ?_
    refine k_iload_n C 0 d_T_init_106 rfl rfl ?_
    refine k_new (ci := 4) (fs := [.int 0, .int 0, .int 0, .int 0, .int 0, .int 0, .int 0, .int 0, .int 0]) C i_J ft_J ft_J_ok m_119 m_121 m_28 rfl df_J (by omega) ⟨by show 41 + d + 1 ≤ 49; omega, by show 398 + 9 * d + 9 ≤ 470; omega⟩ d_T_init_107 ?_
    refine k_dup C d_T_init_110 rfl ?_
    refine k_makeN C hA (c_J_init (n := 42 + d) (va_up_self _ _ _)) m_122 m_123 m_28 m_124 ⟨rfl, rfl⟩ rfl hd_J_init ⟨Nat.le_of_ble_eq_true rfl, Nat.le_of_ble_eq_true rfl⟩ (Nat.le_of_ble_eq_true rfl) (by omega) ⟨by show 41 + d + 1 + 0 ≤ 49; omega, by show 398 + 9 * d + 9 + 0 ≤ 470; omega⟩ d_T_init_111 (fun u hu => ?_)
    subst hu
    dsimp only
    refine k_aast (t0 := 5) (N := 8) (ci := 4) (f := rfs (kad base) 42 d 1) C 41 (42 + d) d (by omega) ?_ rfl (by omega) oE_at rfl rfl (by omega) (by decide) d_T_init_114 ?_
    · unfold oE va_up tW
      repeat' split
      all_goals first | rfl | omega
    refine k_iinc (v := nI (d + 1)) C 0 d_T_init_115 rfl (nI_1 d) (by decide) rfl ?_
    refine k_goto C 96 d_T_init_118 (by decide) ?_
    refine k_n (n2 := 42 + (d + 1)) (by omega) ?_
    refine k_widen (k2 := 41 + (d + 1)) (n2 := 398 + 9 * (d + 1)) (by omega) (by omega) ?_
    refine k_E (E2 := tW base cs [.ref (base + 1), .ref (base + 3), .ref (base + 36), .ref (base + 41), .int 0] 41 5 8 (rfs (kad base) 42 (d + 1) 1)) (fun i hi => ?_) (ih (d + 1) (by omega))
    by_cases h3 : i = 41
    · subst h3
      rw [va_up_self]
      unfold tW
      rw [if_neg (by decide), if_pos rfl, ← rfs_s]
      rw [Nat.one_mul]
    · rw [va_up_ne _ _ h3]
      have e0 : tW base cs [.ref (base + 1), .ref (base + 3), .ref (base + 36), .ref (base + 41), .int 0] 41 5 8 (rfs (kad base) 42 (d + 1) 1) i = tW base cs [.ref (base + 1), .ref (base + 3), .ref (base + 36), .ref (base + 41), .int 0] 41 5 8 (rfs (kad base) 42 d 1) i := by
        unfold tW
        rw [if_neg h3, if_neg h3]
      rw [e0]
      by_cases hn : 42 + d ≤ i
      · have ht : tW base cs [.ref (base + 1), .ref (base + 3), .ref (base + 36), .ref (base + 41), .int 0] 41 5 8 (rfs (kad base) 42 d 1) i = tE (kad base) cs st0 i := by
          unfold tW
          rw [if_neg (by omega), if_neg h3]
        rw [ht]
        obtain rfl : i = 42 + d := by omega
        rw [t0_job, oE_at]
      · unfold oE
        rw [if_neg (by omega), va_up_ne _ _ (by omega)]
set_option maxHeartbeats 4000000 in
set_option maxRecDepth 100000 in
theorem c_T_init {l : Launch} {D : va_G} {cs : Nat → ClassId} {base : Nat} {E : Nat → va_E} (he : E 0 = .inr (0, [.null, .null, .null, .null, .int 0])) : kM l y_T_init b_T_init 2 ({ frames := 2, cells := 49, slots := 470, locals := 51 } : Room) 49 470 [.ref (base + 0)] D cs base 1 E (fun u => u = (50, tE (kad base) cs st0)) := by
  refine kM_of (own := "TwinRegister") (by decide +kernel) rfl (Nat.le_of_ble_eq_true rfl) ?_
  intro p e s m args below meth c C hr hm hz hA
  refine k_lv (lv2 := [(0, .ref (base + 0))]) [0] rfl ?_
  refine k_aload_n C 0 d_T_init_0 rfl rfl ?_
  refine k_objInit C m_41 m_42 m_43 ⟨Nat.le_of_ble_eq_true rfl, Nat.le_of_ble_eq_true rfl⟩ d_T_init_1 ?_
  refine k_aload_n C 0 d_T_init_4 rfl rfl ?_
  refine k_new (ci := 1) (fs := [.null, .int 0]) C i_F ft_F ft_F_ok m_44 m_45 m_25 rfl df_F (by omega) ⟨Nat.le_of_ble_eq_true rfl, Nat.le_of_ble_eq_true rfl⟩ d_T_init_5 ?_
  refine k_dup C d_T_init_8 rfl ?_
  refine k_makeN C hA (c_F_init (n := 1) (va_up_self _ _ _)) m_46 m_47 m_25 m_48 ⟨rfl, rfl⟩ rfl hd_F_init ⟨Nat.le_of_ble_eq_true rfl, Nat.le_of_ble_eq_true rfl⟩ (Nat.le_of_ble_eq_true rfl) (by omega) ⟨Nat.le_of_ble_eq_true rfl, Nat.le_of_ble_eq_true rfl⟩ d_T_init_9 (fun u hu => ?_)
  subst hu
  dsimp only
  refine k_put (ci := 0) (fs := [.null, .null, .null, .null, .int 0]) (v := .ref (base + 1)) C 0 0 i_T ft_T ft_T_ok n_T rfl (by omega) (by simp [fE, va_up, he]) (by decide) m_158 rfl rfl ⟨rfl, rfl⟩ (Nat.le_of_ble_eq_true rfl) (Or.inr ⟨rfl, hm, rfl⟩) d_T_init_12 ?_
  refine k_aload_n C 0 d_T_init_15 rfl rfl ?_
  refine k_bipush (v := 8) C d_T_init_16 rfl ?_
  refine k_newq (t0 := 3) (N := 8) C m_59 hA.1 rfl ⟨by decide, by decide⟩ (by decide) (by omega) ⟨Nat.le_of_ble_eq_true rfl, Nat.le_of_ble_eq_true rfl⟩ d_T_init_18 ?_
  refine k_put (ci := 0) (fs := [.ref (base + 1), .null, .null, .null, .int 0]) (v := .ref (base + 3)) C 0 1 i_T ft_T ft_T_ok n_T rfl (by omega) (by simp [va_up]) (by decide) m_159 rfl rfl ⟨rfl, rfl⟩ (Nat.le_of_ble_eq_true rfl) (Or.inr ⟨rfl, hm, rfl⟩) d_T_init_21 ?_
  refine k_iconst (v := 0) C d_T_init_24 rfl ?_
  refine k_istore_n (lv2 := [(1, .int (nI 0)), (0, .ref (base + 0))]) C d_T_init_25 rfl (by decide) rfl ?_
  refine k_E (E2 := tW base cs [.ref (base + 1), .ref (base + 3), .null, .null, .int 0] 3 3 8 (rfs (kad base) 4 0 4)) (fun i hi => ?_) (lp_T_dev C hz hA ?_ 8 0 rfl)
  · rw [rfs_0]
    rcases (by omega : i = 0 ∨ i = 1 ∨ i = 2 ∨ i = 3) with rfl | rfl | rfl | rfl <;> rfl
  refine k_aload_n C 1 d_T_init_51 rfl rfl ?_
  refine k_iconst (v := 4) C d_T_init_52 rfl ?_
  refine k_newq (t0 := 4) (N := 4) C m_99 hA.2.1 rfl ⟨by decide, by decide⟩ (by decide) (by omega) ⟨Nat.le_of_ble_eq_true rfl, Nat.le_of_ble_eq_true rfl⟩ d_T_init_53 ?_
  refine k_put (ci := 0) (fs := [.ref (base + 1), .ref (base + 3), .null, .null, .int 0]) (v := .ref (base + 36)) C 0 2 i_T ft_T ft_T_ok n_T rfl (by omega) (by simp [va_up, tW]) (by decide) m_160 rfl rfl ⟨rfl, rfl⟩ (Nat.le_of_ble_eq_true rfl) (Or.inr ⟨rfl, hm, rfl⟩) d_T_init_56 ?_
  refine k_iconst (v := 0) C d_T_init_59 rfl ?_
  refine k_istore_n (lv2 := [(1, .int (nI 0)), (0, .ref (base + 0))]) C d_T_init_60 rfl (by decide) rfl ?_
  refine k_E (E2 := tW base cs [.ref (base + 1), .ref (base + 3), .ref (base + 36), .null, .int 0] 36 4 4 (rfs (kad base) 37 0 1)) (fun i hi => ?_) (lp_T_grp C hz hA ?_ 4 0 rfl)
  · rw [rfs_0]
    unfold va_up tW
    by_cases h0 : i = 0
    · subst h0
      rfl
    · by_cases h3 : i = 3
      · subst h3
        rfl
      · by_cases h36 : i = 36
        · subst h36
          rfl
        · simp only [h0, h3, h36, if_false]
  refine k_aload_n C 1 d_T_init_85 rfl rfl ?_
  refine k_bipush (v := 8) C d_T_init_86 rfl ?_
  refine k_newq (t0 := 5) (N := 8) C m_119 hA.2.2 rfl ⟨by decide, by decide⟩ (by decide) (by omega) ⟨Nat.le_of_ble_eq_true rfl, Nat.le_of_ble_eq_true rfl⟩ d_T_init_88 ?_
  refine k_put (ci := 0) (fs := [.ref (base + 1), .ref (base + 3), .ref (base + 36), .null, .int 0]) (v := .ref (base + 41)) C 0 3 i_T ft_T ft_T_ok n_T rfl (by omega) (by simp [va_up, tW]) (by decide) m_161 rfl rfl ⟨rfl, rfl⟩ (Nat.le_of_ble_eq_true rfl) (Or.inr ⟨rfl, hm, rfl⟩) d_T_init_91 ?_
  refine k_iconst (v := 0) C d_T_init_94 rfl ?_
  refine k_istore_n (lv2 := [(1, .int (nI 0)), (0, .ref (base + 0))]) C d_T_init_95 rfl (by decide) rfl ?_
  refine k_E (E2 := tW base cs [.ref (base + 1), .ref (base + 3), .ref (base + 36), .ref (base + 41), .int 0] 41 5 8 (rfs (kad base) 42 0 1)) (fun i hi => ?_) (lp_T_job C hz hA ?_ 8 0 rfl)
  · rw [rfs_0]
    unfold va_up tW
    by_cases h0 : i = 0
    · subst h0
      rfl
    · by_cases h36 : i = 36
      · subst h36
        rfl
      · by_cases h41 : i = 41
        · subst h41
          rfl
        · simp only [h0, h36, h41, if_false]
  refine k_aload_n C 1 d_T_init_121 rfl rfl ?_
  refine k_iconst (v := 0) C d_T_init_122 rfl ?_
  refine k_put (ci := 0) (fs := [.ref (base + 1), .ref (base + 3), .ref (base + 36), .ref (base + 41), .int 0]) (v := .int 0) C 0 4 i_T ft_T ft_T_ok n_T rfl (by omega) (by simp [tW]) (by decide) m_162 rfl rfl ⟨rfl, rfl⟩ (Nat.le_of_ble_eq_true rfl) (Or.inl rfl) d_T_init_123 ?_
  refine k_E (E2 := tE (kad base) cs st0) (fun i hi => ?_) ?_
  · unfold va_up tW
    by_cases h0 : i = 0
    · subst h0
      rfl
    · by_cases h41 : i = 41
      · subst h41
        rfl
      · simp only [h0, h41, if_false]
  exact k_vret C hr d_T_init_126 rfl
