/-! ===== what the law's wrappers answer, case by case ===== -/
theorem nQ {a b : Nat} (ha : a < 100000) (hb : b < 100000) (h : nI a = nI b) : a = b := (nI_eq (by omega) (by omega)).mp h
theorem X_put_O {st u : St} {r : Int32} {p0 p1 : Int32} (hn : ¬ inR p0 12) (h : V_put st p0 p1 r u) : r = -71 ∧ u = st := by
  rcases h with h | h | h
  · exfalso
    obtain ⟨k, hk, e, -⟩ := h
    exact hn ⟨k, hk, e⟩
  · exact ⟨h.1, h.2.2⟩
  · exfalso
    exact hn h.2.1.1
theorem X_put_A {st u : St} {r : Int32} {p0 p1 : Int32} (hi : inR p0 12) (hv : ¬ okV p1) (h : V_put st p0 p1 r u) : r = -72 ∧ u = st := by
  rcases h with h | h | h
  · exfalso
    obtain ⟨k, hk, e, ho, -⟩ := h
    exact hv ho
  · exfalso
    exact h.2.1 hi
  · exact ⟨h.1, h.2.2⟩
theorem X_put_k {st u : St} {r : Int32} {k : Nat} {p1 : Int32} (hk : k < 12) (hv : okV p1) (h : V_put st (nI k) p1 r u) : r = bcI (u 1 1) ∧ u = asgF st k p1 := by
  rcases h with h | h | h
  · obtain ⟨k2, hk2, e, ho, e2, e3⟩ := h
    obtain rfl := nQ (by omega) (by omega) e
    exact ⟨e3, e2⟩
  · exact absurd (inR_nI hk) h.2.1
  · exact absurd hv h.2.1.2
theorem X_drop_O {st u : St} {r : Int32} {p0 : Int32} (hn : ¬ inR p0 3) (h : V_drop st p0 r u) : r = -71 ∧ u = st := by
  rcases h with h | h
  · exfalso
    obtain ⟨k, hk, e, -⟩ := h
    exact hn ⟨k, hk, e⟩
  · exact ⟨h.1, h.2.2⟩
theorem X_drop_k {st u : St} {r : Int32} {k : Nat} (hk : k < 3) (h : V_drop st (nI k) r u) : r = bcI (u 1 1) ∧ u = drpF st k 4 := by
  rcases h with h | h
  · obtain ⟨k2, hk2, e, e2, e3⟩ := h
    obtain rfl := nQ (by omega) (by omega) e
    exact ⟨e3, e2⟩
  · exact absurd (inR_nI hk) h.2.1
theorem X_wish_O {st u : St} {r : Int32} {p0 p1 : Int32} (hn : ¬ inR p0 8) (h : V_wish st p0 p1 r u) : r = -71 ∧ u = st := by
  rcases h with h | h | h
  · exfalso
    obtain ⟨k, hk, e, -⟩ := h
    exact hn ⟨k, hk, e⟩
  · exact ⟨h.1, h.2.2⟩
  · exfalso
    obtain ⟨-, ⟨q, hq, e, -⟩, -⟩ := h
    exact hn ⟨q, hq, e⟩
theorem X_wish_S {st u : St} {r : Int32} {q : Nat} {p1 : Int32} (hq : q < 8) (hs : bcI (st 1 1) = 0 ∨ (¬ p1 = -1 ∧ ¬ p1 = st (4 + 4 * q) 4)) (h : V_wish st (nI q) p1 r u) : r = -73 ∧ u = st := by
  rcases h with h | h | h
  · exfalso
    obtain ⟨q2, hq2, e, h1, h2, -⟩ := h
    obtain rfl := nQ (by omega) (by omega) e
    rcases hs with z | z
    · exact h1 z
    · exact h2.elim z.1 z.2
  · exfalso
    exact h.2.1 (inR_nI hq)
  · exact ⟨h.1, h.2.2⟩
theorem X_wish_k {st u : St} {r : Int32} {q : Nat} {p1 : Int32} (hq : q < 8) (hb : ¬ bcI (st 1 1) = 0) (hp : p1 = -1 ∨ p1 = st (4 + 4 * q) 4) (h : V_wish st (nI q) p1 r u) : r = u (4 + 4 * q) 4 ∧ u = empF (bmpV (merW st q 12) q) := by
  rcases h with h | h | h
  · obtain ⟨q2, hq2, e, h1, h2, e2, e3⟩ := h
    obtain rfl := nQ (by omega) (by omega) e
    exact ⟨e3, e2⟩
  · exact absurd (inR_nI hq) h.2.1
  · obtain ⟨-, ⟨q2, hq2, e, h2⟩, -⟩ := h
    obtain rfl := nQ (by omega) (by omega) e
    rcases h2 with z | z
    · exact absurd z hb
    · exact absurd hp (fun y => y.elim z.1 z.2)
theorem X_report_O {st u : St} {r : Int32} {p0 p1 : Int32} (hn : ¬ inR p0 8) (h : V_report st p0 p1 r u) : r = -71 ∧ u = st := by
  rcases h with h | h | h | h
  · exfalso
    obtain ⟨k, hk, e, -⟩ := h
    exact hn ⟨k, hk, e⟩
  · exact ⟨h.1, h.2.2⟩
  · exfalso
    obtain ⟨-, ⟨q, hq, e, -⟩, -⟩ := h
    exact hn ⟨q, hq, e⟩
  · exfalso
    obtain ⟨-, ⟨q, hq, e, -⟩, -⟩ := h
    exact hn ⟨q, hq, e⟩
theorem X_report_A {st u : St} {r : Int32} {q : Nat} {p1 : Int32} (hq : q < 8) (hn : ¬ rng p1 1 (st (4 + 4 * q) 6 + 1)) (h : V_report st (nI q) p1 r u) : r = -72 ∧ u = st := by
  rcases h with h | h | h | h
  · exfalso
    obtain ⟨q2, hq2, e, h1, h2, h3⟩ := h
    obtain rfl := nQ (by omega) (by omega) e
    exact hn h1
  · exfalso
    exact h.2.1 (inR_nI hq)
  · exact ⟨h.1, h.2.2⟩
  · exfalso
    obtain ⟨-, ⟨q2, hq2, e, h2⟩, -⟩ := h
    obtain rfl := nQ (by omega) (by omega) e
    exact hn h2.1
theorem X_report_S {st u : St} {r : Int32} {q : Nat} {p1 : Int32} (hq : q < 8) (hn : rng p1 1 (st (4 + 4 * q) 6 + 1)) (h7 : ¬ st (4 + 4 * q) 7 = 0) (h : V_report st (nI q) p1 r u) : r = -73 ∧ u = st := by
  rcases h with h | h | h | h
  · exfalso
    obtain ⟨q2, hq2, e, h1, h2, h3⟩ := h
    obtain rfl := nQ (by omega) (by omega) e
    exact h7 h2
  · exfalso
    exact h.2.1 (inR_nI hq)
  · exfalso
    obtain ⟨-, ⟨q2, hq2, e, h2⟩, -⟩ := h
    obtain rfl := nQ (by omega) (by omega) e
    exact h2 hn
  · exact ⟨h.1, h.2.2⟩
theorem X_report_d {st u : St} {r : Int32} {q : Nat} {p1 : Int32} (hq : q < 8) (hn : rng p1 1 (st (4 + 4 * q) 6 + 1)) (h7 : st (4 + 4 * q) 7 = 0) (h6 : ¬ st (4 + 4 * q) 6 < p1) (h : V_report st (nI q) p1 r u) : r = -1 ∧ u = empF st := by
  rcases h with h | h | h | h
  · obtain ⟨q2, hq2, e, h1, h2, h3⟩ := h
    obtain rfl := nQ (by omega) (by omega) e
    rcases h3 with z | z
    · exact ⟨z.2.2, z.2.1⟩
    · exact absurd z.1 h6
  · exact absurd (inR_nI hq) h.2.1
  · obtain ⟨-, ⟨q2, hq2, e, h2⟩, -⟩ := h
    obtain rfl := nQ (by omega) (by omega) e
    exact absurd hn h2
  · obtain ⟨-, ⟨q2, hq2, e, h2⟩, -⟩ := h
    obtain rfl := nQ (by omega) (by omega) e
    exact absurd h7 h2.2
theorem X_report_k {st u : St} {r : Int32} {q : Nat} {p1 : Int32} (hq : q < 8) (hn : rng p1 1 (st (4 + 4 * q) 6 + 1)) (h7 : st (4 + 4 * q) 7 = 0) (h6 : st (4 + 4 * q) 6 < p1) (h : V_report st (nI q) p1 r u) : r = bcI (u (4 + 4 * q) 3) ∧ u = empF (up2 (merR st q 12) (4 + 4 * q) 6 p1) := by
  rcases h with h | h | h | h
  · obtain ⟨q2, hq2, e, h1, h2, h3⟩ := h
    obtain rfl := nQ (by omega) (by omega) e
    rcases h3 with z | z
    · exact absurd h6 z.1
    · exact ⟨z.2.2, z.2.1⟩
  · exact absurd (inR_nI hq) h.2.1
  · obtain ⟨-, ⟨q2, hq2, e, h2⟩, -⟩ := h
    obtain rfl := nQ (by omega) (by omega) e
    exact absurd hn h2
  · obtain ⟨-, ⟨q2, hq2, e, h2⟩, -⟩ := h
    obtain rfl := nQ (by omega) (by omega) e
    exact absurd h7 h2.2
theorem X_obey_O {st u : St} {r : Int32} {p0 : Int32} (hn : ¬ inR p0 8) (h : V_obey st p0 r u) : r = -71 ∧ u = st := by
  rcases h with h | h | h
  · exfalso
    obtain ⟨k, hk, e, -⟩ := h
    exact hn ⟨k, hk, e⟩
  · exact ⟨h.1, h.2.2⟩
  · exfalso
    obtain ⟨-, ⟨q, hq, e, -⟩, -⟩ := h
    exact hn ⟨q, hq, e⟩
theorem X_obey_S {st u : St} {r : Int32} {q : Nat} (hq : q < 8) (h7 : ¬ st (4 + 4 * q) 7 = 0) (h : V_obey st (nI q) r u) : r = -73 ∧ u = st := by
  rcases h with h | h | h
  · exfalso
    obtain ⟨q2, hq2, e, h1, -⟩ := h
    obtain rfl := nQ (by omega) (by omega) e
    exact h7 h1
  · exfalso
    exact h.2.1 (inR_nI hq)
  · exact ⟨h.1, h.2.2⟩
theorem X_obey_k {st u : St} {r : Int32} {q : Nat} (hq : q < 8) (h7 : st (4 + 4 * q) 7 = 0) (h : V_obey st (nI q) r u) : r = (obyF st q 12).2 ∧ u = up2 (obyF st q 12).1 (4 + 4 * q) 6 ((obyF st q 12).1 (4 + 4 * q) 6 + 1) := by
  rcases h with h | h | h
  · obtain ⟨q2, hq2, e, h1, e2, e3⟩ := h
    obtain rfl := nQ (by omega) (by omega) e
    exact ⟨e3, e2⟩
  · exact absurd (inR_nI hq) h.2.1
  · obtain ⟨-, ⟨q2, hq2, e, h2⟩, -⟩ := h
    obtain rfl := nQ (by omega) (by omega) e
    exact absurd h7 h2
theorem X_refuse_O {st u : St} {r : Int32} {p0 p1 p2 : Int32} (hn : ¬ inR p0 8 ∨ ¬ inR p1 12) (h : V_refuse st p0 p1 p2 r u) : r = -71 ∧ u = st := by
  rcases h with h | h | h | h
  · exfalso
    obtain ⟨q2, k2, hq2, hk2, e, f, h1, h2, h3, e2, e3⟩ := h
    exact hn.elim (fun z => z ⟨q2, hq2, e⟩) (fun z => z ⟨k2, hk2, f⟩)
  · exact ⟨h.1, h.2.2⟩
  · exfalso
    exact hn.elim (fun z => z h.2.1.1) (fun z => z h.2.1.2.1)
  · exfalso
    obtain ⟨-, ⟨q2, k2, hq2, hk2, e, f, h1, h2⟩, -⟩ := h
    exact hn.elim (fun z => z ⟨q2, hq2, e⟩) (fun z => z ⟨k2, hk2, f⟩)
theorem X_refuse_A {st u : St} {r : Int32} {q k : Nat} {p2 : Int32} (hq : q < 8) (hk : k < 12) (hn : ¬ rng p2 1 9) (h : V_refuse st (nI q) (nI k) p2 r u) : r = -72 ∧ u = st := by
  rcases h with h | h | h | h
  · exfalso
    obtain ⟨q2, k2, hq2, hk2, e, f, h1, h2, h3, e2, e3⟩ := h
    exact hn h1
  · exfalso
    exact h.2.1.elim (fun z => z (inR_nI hq)) (fun z => z (inR_nI hk))
  · exact ⟨h.1, h.2.2⟩
  · exfalso
    obtain ⟨-, ⟨q2, k2, hq2, hk2, e, f, h1, h2⟩, -⟩ := h
    exact hn h1
theorem X_refuse_S {st u : St} {r : Int32} {q k : Nat} {p2 : Int32} (hq : q < 8) (hk : k < 12) (hn : rng p2 1 9) (hs : ¬ st (4 + 4 * q) 7 = 0 ∨ difA st q k = false) (h : V_refuse st (nI q) (nI k) p2 r u) : r = -73 ∧ u = st := by
  rcases h with h | h | h | h
  · exfalso
    obtain ⟨q2, k2, hq2, hk2, e, f, h1, h2, h3, e2, e3⟩ := h
    obtain rfl := nQ (by omega) (by omega) e
    obtain rfl := nQ (by omega) (by omega) f
    exact hs.elim (fun z => z h2) (fun z => by rw [h3] at z; exact absurd z (by decide))
  · exfalso
    exact h.2.1.elim (fun z => z (inR_nI hq)) (fun z => z (inR_nI hk))
  · exfalso
    exact h.2.1.2.2 hn
  · exact ⟨h.1, h.2.2⟩
theorem X_refuse_k {st u : St} {r : Int32} {q k : Nat} {p2 : Int32} (hq : q < 8) (hk : k < 12) (hn : rng p2 1 9) (h7 : st (4 + 4 * q) 7 = 0) (hd : difA st q k = true) (h : V_refuse st (nI q) (nI k) p2 r u) : r = bcI (u (4 + 4 * q) 3) ∧ u = takeF st q k p2 := by
  rcases h with h | h | h | h
  · obtain ⟨q2, k2, hq2, hk2, e, f, h1, h2, h3, e2, e3⟩ := h
    obtain rfl := nQ (by omega) (by omega) e
    obtain rfl := nQ (by omega) (by omega) f
    exact ⟨e3, e2⟩
  · exfalso
    exact h.2.1.elim (fun z => z (inR_nI hq)) (fun z => z (inR_nI hk))
  · exact absurd hn h.2.1.2.2
  · exfalso
    obtain ⟨-, ⟨q2, k2, hq2, hk2, e, f, h1, h2⟩, -⟩ := h
    obtain rfl := nQ (by omega) (by omega) e
    obtain rfl := nQ (by omega) (by omega) f
    exact h2.elim (fun z => z h7) (fun z => by rw [hd] at z; exact absurd z (by decide))
theorem X_sleep_O {st u : St} {r : Int32} {p0 : Int32} (hn : ¬ inR p0 8) (h : V_sleep st p0 r u) : r = -71 ∧ u = st := by
  rcases h with h | h
  · exfalso
    obtain ⟨k, hk, e, -⟩ := h
    exact hn ⟨k, hk, e⟩
  · exact ⟨h.1, h.2.2⟩
theorem X_sleep_a {st u : St} {r : Int32} {q : Nat} (hq : q < 8) (h7 : st (4 + 4 * q) 7 = 0) (h : V_sleep st (nI q) r u) : r = 1 ∧ u = up2 (up2 st (4 + 4 * q) 7 1) (4 + 4 * q) 5 (up2 st (4 + 4 * q) 7 1 (4 + 4 * q) 4) := by
  rcases h with h | h
  · obtain ⟨q2, hq2, e, h1⟩ := h
    obtain rfl := nQ (by omega) (by omega) e
    rcases h1 with z | z
    · exact ⟨z.2.1, z.2.2⟩
    · exact absurd h7 z.1
  · exact absurd (inR_nI hq) h.2.1
theorem X_sleep_s {st u : St} {r : Int32} {q : Nat} (hq : q < 8) (h7 : ¬ st (4 + 4 * q) 7 = 0) (h : V_sleep st (nI q) r u) : r = 0 ∧ u = st := by
  rcases h with h | h
  · obtain ⟨q2, hq2, e, h1⟩ := h
    obtain rfl := nQ (by omega) (by omega) e
    rcases h1 with z | z
    · exact absurd z.1 h7
    · exact ⟨z.2.1, z.2.2⟩
  · exact absurd (inR_nI hq) h.2.1
theorem X_wake_O {st u : St} {r : Int32} {p0 : Int32} (hn : ¬ inR p0 8) (h : V_wake st p0 r u) : r = -71 ∧ u = st := by
  rcases h with h | h
  · exfalso
    obtain ⟨k, hk, e, -⟩ := h
    exact hn ⟨k, hk, e⟩
  · exact ⟨h.1, h.2.2⟩
theorem X_wake_k {st u : St} {r : Int32} {q : Nat} (hq : q < 8) (h : V_wake st (nI q) r u) : r = st (4 + 4 * q) 4 - hearV st q ∧ u = up2 st (4 + 4 * q) 7 0 := by
  rcases h with h | h
  · obtain ⟨q2, hq2, e, e2, e3⟩ := h
    obtain rfl := nQ (by omega) (by omega) e
    exact ⟨e3, e2⟩
  · exact absurd (inR_nI hq) h.2.1
theorem X_setGroup_O {st u : St} {r : Int32} {p0 p1 p2 p3 : Int32} (hn : ¬ inR p0 4 ∨ ¬ inR p1 12) (h : V_setGroup st p0 p1 p2 p3 r u) : r = -71 ∧ u = st := by
  rcases h with h | h | h
  · exfalso
    obtain ⟨g2, k2, hg2, hk2, e, f, h1, h2, e2, e3⟩ := h
    exact hn.elim (fun z => z ⟨g2, hg2, e⟩) (fun z => z ⟨k2, hk2, f⟩)
  · exact ⟨h.1, h.2.2⟩
  · exfalso
    exact hn.elim (fun z => z h.2.1.1) (fun z => z h.2.1.2.1)
theorem X_setGroup_A {st u : St} {r : Int32} {g k : Nat} {p2 p3 : Int32} (hg : g < 4) (hk : k < 12) (hn : ¬ (rng p2 0 99 ∧ rng p3 p2 99)) (h : V_setGroup st (nI g) (nI k) p2 p3 r u) : r = -72 ∧ u = st := by
  rcases h with h | h | h
  · exfalso
    obtain ⟨g2, k2, hg2, hk2, e, f, h1, h2, e2, e3⟩ := h
    exact hn ⟨h1, h2⟩
  · exfalso
    exact h.2.1.elim (fun z => z (inR_nI hg)) (fun z => z (inR_nI hk))
  · exact ⟨h.1, h.2.2⟩
theorem X_setGroup_k {st u : St} {r : Int32} {g k : Nat} {p2 p3 : Int32} (hg : g < 4) (hk : k < 12) (hn : rng p2 0 99) (hn2 : rng p3 p2 99) (h : V_setGroup st (nI g) (nI k) p2 p3 r u) : r = bcI (memF u g k 8) ∧ u = setF st g (nI k) p2 p3 := by
  rcases h with h | h | h
  · obtain ⟨g2, k2, hg2, hk2, e, f, h1, h2, e2, e3⟩ := h
    obtain rfl := nQ (by omega) (by omega) e
    obtain rfl := nQ (by omega) (by omega) f
    exact ⟨e3, e2⟩
  · exfalso
    exact h.2.1.elim (fun z => z (inR_nI hg)) (fun z => z (inR_nI hk))
  · exact absurd ⟨hn, hn2⟩ h.2.1.2.2
theorem X_addJob_O {st u : St} {r : Int32} {jc : Nat} {p0 p1 p2 p3 p4 : Int32} (hn : ¬ inR p0 4 ∨ ¬ inR p1 12) (h : V_addJob st jc p0 p1 p2 p3 p4 r u) : r = -71 ∧ u = st := by
  rcases h with h | h | h | h
  · exfalso
    obtain ⟨g2, k2, hg2, hk2, hj2, e, f, h1, e2, e3⟩ := h
    exact hn.elim (fun z => z ⟨g2, hg2, e⟩) (fun z => z ⟨k2, hk2, f⟩)
  · exact ⟨h.1, h.2.2⟩
  · exfalso
    exact hn.elim (fun z => z h.2.1.1) (fun z => z h.2.1.2.1)
  · exfalso
    exact hn.elim (fun z => z h.2.1.1) (fun z => z h.2.1.2.1)
theorem X_addJob_A {st u : St} {r : Int32} {jc : Nat} {g k : Nat} {p2 p3 p4 : Int32} (hg : g < 4) (hk : k < 12) (hn : ¬ goodJ p2 p3 p4) (h : V_addJob st jc (nI g) (nI k) p2 p3 p4 r u) : r = -72 ∧ u = st := by
  rcases h with h | h | h | h
  · exfalso
    obtain ⟨g2, k2, hg2, hk2, hj2, e, f, h1, e2, e3⟩ := h
    exact hn h1
  · exfalso
    exact h.2.1.elim (fun z => z (inR_nI hg)) (fun z => z (inR_nI hk))
  · exact ⟨h.1, h.2.2⟩
  · exfalso
    exact hn h.2.1.2.2.1
theorem X_addJob_S {st u : St} {r : Int32} {g k : Nat} {p2 p3 p4 : Int32} (hg : g < 4) (hk : k < 12) (hn : goodJ p2 p3 p4) (h : V_addJob st 8 (nI g) (nI k) p2 p3 p4 r u) : r = -73 ∧ u = st := by
  rcases h with h | h | h | h
  · exfalso
    obtain ⟨g2, k2, hg2, hk2, hj2, e, f, h1, e2, e3⟩ := h
    omega
  · exfalso
    exact h.2.1.elim (fun z => z (inR_nI hg)) (fun z => z (inR_nI hk))
  · exfalso
    exact h.2.1.2.2 hn
  · exact ⟨h.1, h.2.2⟩
theorem X_addJob_k {st u : St} {r : Int32} {jc : Nat} {g k : Nat} {p2 p3 p4 : Int32} (hg : g < 4) (hk : k < 12) (hn : goodJ p2 p3 p4) (hj : jc < 8) (h : V_addJob st jc (nI g) (nI k) p2 p3 p4 r u) : r = u 0 4 - 1 ∧ u = incJ (adjF st jc (nI g) (nI k) p2 p3 p4) := by
  rcases h with h | h | h | h
  · obtain ⟨g2, k2, hg2, hk2, hj2, e, f, h1, e2, e3⟩ := h
    obtain rfl := nQ (by omega) (by omega) e
    obtain rfl := nQ (by omega) (by omega) f
    exact ⟨e3, e2⟩
  · exfalso
    exact h.2.1.elim (fun z => z (inR_nI hg)) (fun z => z (inR_nI hk))
  · exact absurd hn h.2.1.2.2
  · exact absurd h.2.1.2.2.2 (by omega)
theorem X_cancel_O {st u : St} {r : Int32} {jc : Nat} {p0 : Int32} (hn : ¬ inR p0 jc) (h : V_cancel st jc p0 r u) : r = -71 ∧ u = st := by
  rcases h with h | h | h
  · exfalso
    obtain ⟨j2, hj2, e, h1, e2, e3⟩ := h
    exact hn ⟨j2, hj2, e⟩
  · exact ⟨h.1, h.2.2⟩
  · exfalso
    obtain ⟨-, ⟨q, hq, e, -⟩, -⟩ := h
    exact hn ⟨q, hq, e⟩
theorem X_cancel_S {st u : St} {r : Int32} {jc : Nat} {j : Nat} (hjc : jc ≤ 8) (hj : j < jc) (h5 : ¬ st (42 + j) 5 = 0) (h : V_cancel st jc (nI j) r u) : r = -73 ∧ u = st := by
  rcases h with h | h | h
  · exfalso
    obtain ⟨j2, hj2, e, h1, e2, e3⟩ := h
    obtain rfl := nQ (by omega) (by omega) e
    exact h5 h1
  · exfalso
    exact h.2.1 (inR_nI hj)
  · exact ⟨h.1, h.2.2⟩
theorem X_cancel_k {st u : St} {r : Int32} {jc : Nat} {j : Nat} (hjc : jc ≤ 8) (hj : j < jc) (h5 : st (42 + j) 5 = 0) (h : V_cancel st jc (nI j) r u) : r = bcI (opnJ u j) ∧ u = up2 st (42 + j) 5 2 := by
  rcases h with h | h | h
  · obtain ⟨j2, hj2, e, h1, e2, e3⟩ := h
    obtain rfl := nQ (by omega) (by omega) e
    exact ⟨e3, e2⟩
  · exact absurd (inR_nI hj) h.2.1
  · obtain ⟨-, ⟨j2, hj2, e, h2⟩, -⟩ := h
    obtain rfl := nQ (by omega) (by omega) e
    exact absurd h5 h2
theorem X_version_O {st u : St} {r : Int32} {p0 : Int32} (hn : ¬ inR p0 8) (h : V_version st p0 r u) : r = -71 ∧ u = st := by
  rcases h with h | h
  · exfalso
    obtain ⟨k, hk, e, -⟩ := h
    exact hn ⟨k, hk, e⟩
  · exact ⟨h.1, h.2.2⟩
theorem X_version_k {st u : St} {r : Int32} {q : Nat} (hq : q < 8) (h : V_version st (nI q) r u) : r = st (4 + 4 * q) 4 ∧ u = st := by
  rcases h with h | h
  · obtain ⟨q2, hq2, e, e2, e3⟩ := h
    obtain rfl := nQ (by omega) (by omega) e
    exact ⟨e3, e2⟩
  · exact absurd (inR_nI hq) h.2.1
theorem X_wished_O {st u : St} {r : Int32} {p0 p1 : Int32} (hn : ¬ inR p0 8 ∨ ¬ inR p1 12) (h : V_wished st p0 p1 r u) : r = -71 ∧ u = st := by
  rcases h with h | h
  · exfalso
    obtain ⟨q2, k2, hq2, hk2, e, f, -⟩ := h
    exact hn.elim (fun z => z ⟨q2, hq2, e⟩) (fun z => z ⟨k2, hk2, f⟩)
  · exact ⟨h.1, h.2.2⟩
theorem X_wished_k {st u : St} {r : Int32} {q k : Nat} (hq : q < 8) (hk : k < 12) (h : V_wished st (nI q) (nI k) r u) : r = st (4 + 4 * q + 1) k ∧ u = st := by
  rcases h with h | h
  · obtain ⟨q2, k2, hq2, hk2, e, f, e2, e3⟩ := h
    obtain rfl := nQ (by omega) (by omega) e
    obtain rfl := nQ (by omega) (by omega) f
    exact ⟨e3, e2⟩
  · exfalso
    exact h.2.1.elim (fun z => z (inR_nI hq)) (fun z => z (inR_nI hk))
theorem X_state_O {st u : St} {r : Int32} {jc : Nat} {p0 : Int32} (hn : ¬ inR p0 jc) (h : V_state st jc p0 r u) : r = -71 ∧ u = st := by
  rcases h with h | h
  · exfalso
    obtain ⟨k, hk, e, -⟩ := h
    exact hn ⟨k, hk, e⟩
  · exact ⟨h.1, h.2.2⟩
theorem X_state_k {st u : St} {r : Int32} {jc : Nat} {j : Nat} (hjc : jc ≤ 8) (hj : j < jc) (h : V_state st jc (nI j) r u) : r = st (42 + j) 5 ∧ u = st := by
  rcases h with h | h
  · obtain ⟨q2, hq2, e, e2, e3⟩ := h
    obtain rfl := nQ (by omega) (by omega) e
    exact ⟨e3, e2⟩
  · exact absurd (inR_nI hj) h.2.1
theorem X_devices_O {st u : St} {r : Int32} {jc : Nat} {p0 p1 : Int32} (hn : ¬ inR p0 jc) (h : V_devices st jc p0 p1 r u) : r = -71 ∧ u = st := by
  rcases h with h | h | h
  · exfalso
    obtain ⟨k, hk, e, -⟩ := h
    exact hn ⟨k, hk, e⟩
  · exact ⟨h.1, h.2.2⟩
  · exfalso
    exact hn h.2.1.1
theorem X_devices_A {st u : St} {r : Int32} {jc : Nat} {j : Nat} {p1 : Int32} (hj : j < jc) (hn : ¬ rng p1 0 2) (h : V_devices st jc (nI j) p1 r u) : r = -72 ∧ u = st := by
  rcases h with h | h | h
  · exfalso
    obtain ⟨k, hk, e, h1, -⟩ := h
    exact hn h1
  · exfalso
    exact h.2.1 (inR_nI hj)
  · exact ⟨h.1, h.2.2⟩
theorem X_devices_k {st u : St} {r : Int32} {jc : Nat} {j : Nat} {p1 : Int32} (hjc : jc ≤ 8) (hj : j < jc) (hn : rng p1 0 2) (h : V_devices st jc (nI j) p1 r u) : r = (if p1 = 0 then st (42 + j) 6 else if p1 = 1 then st (42 + j) 7 else st (42 + j) 8) ∧ u = st := by
  rcases h with h | h | h
  · obtain ⟨q2, hq2, e, h1, e2, e3⟩ := h
    obtain rfl := nQ (by omega) (by omega) e
    exact ⟨e3, e2⟩
  · exact absurd (inR_nI hj) h.2.1
  · exact absurd hn h.2.1.2
/-! ===== a job comes, a job is cancelled ===== -/
theorem RP_jbs {B : Nat} {st mt : St} {g k jc v r w : Nat} (hg : g < 4) (hk : k < 12) (hv : v < 100) (hr : r < 9) (hw : w < 9) (hjc : jc < 8) (hj0 : st 0 4 = nI jc) (h : RP B st mt) : RP B (incJ (adjF st jc (nI g) (nI k) (nI v) (nI r) (nI w))) (up2 (up2 mt 6 jc (nI (g + 4 * k + 64 * v + 8192 * r + 131072 * w))) 9 0 (nI (jc + 1))) := by
  obtain ⟨⟨at2, hR⟩, h2, h3, h4, h5, h6, ⟨jd, hjd, g1, g2⟩, h8⟩ := h
  have oi : ∀ i, i ≠ 0 → i ≠ 42 + jc → incJ (adjF st jc (nI g) (nI k) (nI v) (nI r) (nI w)) i = st i := fun i h1 h2 => by unfold incJ adjF; rw [up2_out _ _ h1, up2_out _ _ h2, up2_out _ _ h2, up2_out _ _ h2, up2_out _ _ h2, up2_out _ _ h2]
  have om : ∀ a, a ≠ 6 → a ≠ 9 → up2 (up2 mt 6 jc (nI (g + 4 * k + 64 * v + 8192 * r + 131072 * w))) 9 0 (nI (jc + 1)) a = mt a := fun a h1 h2 => by rw [up2_out _ _ h2, up2_out _ _ h1]
  refine ⟨⟨_, Rel_add hg hk hjc hj0 (Or.inr ⟨v, hv, rfl⟩) hR⟩, PD_c h2 (fun i _ _ _ => oi i (by omega) (by omega)) (om 0 (by omega) (by omega)), PV_c h3 (fun q _ i _ _ => by rw [oi _ (by omega) (by omega)]) (fun a _ _ => om a (by omega) (by omega)), PF_c h4 (oi 1 (by omega) (by omega)) (oi 2 (by omega) (by omega)) (om 4 (by omega) (by omega)), PG_c h5 (fun i _ _ => oi i (by omega) (by omega)) (om 5 (by omega) (by omega)), fun j hj => ?_, ⟨jc + 1, by omega, ?_, ?_⟩, PZ_c h8 (fun i _ _ _ => oi i (by omega) (by omega)) (fun q _ _ => by rw [oi _ (by omega) (by omega)])⟩
  · by_cases e : j = jc
    · subst e
      obtain ⟨-, f2, f3, f4⟩ := h6 j hj
      unfold PJj incJ adjF
      simp only [up2_at]
      simp
      exact ⟨⟨g, k, v, r, w, hg, hk, hv, hr, hw, rfl, rfl, rfl, rfl, rfl, rfl⟩, f2, f3, f4⟩
    · refine PJj_c (h6 j hj) (oi _ (by omega) (by omega)) (fun a h1 h2 => ?_)
      rw [up2_at, if_neg (by omega), up2_at, if_neg (by omega)]
  · unfold incJ adjF
    simp only [up2_at]
    simp
    rw [hj0, if_neg (by omega), nI_1]
  · simp [up2_at]
def cnS (e : Int32) (i : Nat) (n : Int32) : Int32 := n + (bif decide (atL e i = 1) then 1 else 0)
def cnL (e : Int32) : Nat → Int32
  | 0 => 0
  | i + 1 => cnS e i (cnL e i)
theorem cnS_t {e : Int32} {i : Nat} {n : Int32} (h : atL e i = 1) : cnS e i n = n + 1 := by unfold cnS; rw [bt h]
theorem cnS_f {e : Int32} {i : Nat} {n : Int32} (h : ¬ atL e i = 1) : cnS e i n = n + 0 := by unfold cnS; rw [bf h]
theorem cnL_q {B : Nat} {st mt : St} {j : Nat} (hj : j < 8) (h : RP B st mt) : ∀ i, i ≤ 5 → cnL (mt 7 j) i = mnM (opnJ st j) i
  | 0, _ => rfl
  | i + 1, hi => by
    show cnS (mt 7 j) i (cnL (mt 7 j) i) = mnS (opnJ st j) i (mnM (opnJ st j) i)
    have hE := (h.2.2.2.2.2.1 j hj).2.1
    have q1 := ER_1 hE (show i < 5 by omega)
    rw [cnL_q hj h i (by omega)]
    unfold cnS mnS
    rw [q1, shr_1 (by omega), opn_bi _ _ (by omega)]
    cases (bi (st (42 + j) 6) i && !bi (st (42 + j) 7) i && !bi (st (42 + j) 8) i) <;> rfl
theorem cnL_5 {B : Nat} {st mt : St} {j : Nat} (hj : j < 8) (h : RP B st mt) : bcI (opnJ (up2 st (42 + j) 5 2) j) = cnL (mt 7 j) 5 := by
  have e : opnJ (up2 st (42 + j) 5 2) j = opnJ st j := by
    unfold opnJ
    simp [up2_at]
  rw [e, cnL_q hj h 5 (Nat.le_refl _), cnt5 (opn_5 hj h)]
/-! ===== the three sets out of the law's number ===== -/
def pS (e : Int32) (x : Nat) : Bool := decide (0 < atL e x)
def pD (e : Int32) (x : Nat) : Bool := decide (atL e x = 2)
def pX (e : Int32) (x : Nat) : Bool := decide (atL e x = 3)
theorem mkS_t {p : Nat → Bool} {i : Nat} {x : Int32} (h : p i = true) : mskS p i x = x ||| bitI i := by unfold mskS; rw [h]; rfl
theorem mkS_f {p : Nat → Bool} {i : Nat} {x : Int32} (h : p i = false) : mskS p i x = x ||| 0 := by unfold mskS; rw [h]; rfl
theorem sets_q {B : Nat} {st mt : St} {j : Nat} (hj : j < 8) (h : RP B st mt) : mskF (pS (mt 7 j)) 5 = st (42 + j) 6 ∧ mskF (pD (mt 7 j)) 5 = st (42 + j) 7 ∧ mskF (pX (mt 7 j)) 5 = st (42 + j) 8 := by
  have hE := (h.2.2.2.2.2.1 j hj).2.1
  exact ⟨msk_of hE.1.1 (fun x hx => ER_p hE hx), msk_of hE.1.2.1 (fun x hx => ER_2 hE hx), msk_of hE.1.2.2 (fun x hx => ER_3 hE hx)⟩
