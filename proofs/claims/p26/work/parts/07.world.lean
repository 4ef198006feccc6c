/-! ===== the classes that objects of the world have ===== -/
def F_T : u_T := fun k => match k with
  | 0 => ("TwinRegister", "draft", "LTwinRegister$Draft;", true)
  | 1 => ("TwinRegister", "deviceRows", "[LTwinRegister$Device;", true)
  | 2 => ("TwinRegister", "groupRows", "[LTwinRegister$Group;", true)
  | 3 => ("TwinRegister", "jobRows", "[LTwinRegister$Job;", true)
  | _ => ("TwinRegister", "jobCount", "I", false)
def ft_T : Nat → FieldType := fun k => match k with
  | 0 => .object "TwinRegister$Draft"
  | 1 => .array (.object "TwinRegister$Device")
  | 2 => .array (.object "TwinRegister$Group")
  | 3 => .array (.object "TwinRegister$Job")
  | _ => .int
theorem n_T : ∀ a, a < 5 → ∀ b, b < 5 → a ≠ b → (F_T a).2.1 ≠ (F_T b).2.1 := by decide +kernel
theorem ft_T_ok : ∀ k, k < 5 → parseFieldDescriptor (F_T k).2.2.1 = some (ft_T k) := by decide +kernel
set_option maxRecDepth 20000 in
theorem i_T : ∀ w ∈ u_ws "TwinRegister" F_T 5, w ∈ ag_all := by decide +kernel
def F_F : u_T := fun k => match k with
  | 0 => ("TwinRegister$Draft", "values", "[I", true)
  | _ => ("TwinRegister$Draft", "leaves", "I", false)
def ft_F : Nat → FieldType := fun k => match k with
  | 0 => .array (.int)
  | _ => .int
theorem n_F : ∀ a, a < 2 → ∀ b, b < 2 → a ≠ b → (F_F a).2.1 ≠ (F_F b).2.1 := by decide +kernel
theorem ft_F_ok : ∀ k, k < 2 → parseFieldDescriptor (F_F k).2.2.1 = some (ft_F k) := by decide +kernel
set_option maxRecDepth 20000 in
theorem i_F : ∀ w ∈ u_ws "TwinRegister$Draft" F_F 2, w ∈ ag_all := by decide +kernel
def F_D : u_T := fun k => match k with
  | 0 => ("TwinRegister$Device", "wishedValues", "[I", true)
  | 1 => ("TwinRegister$Device", "reportedValues", "[I", true)
  | 2 => ("TwinRegister$Device", "reasons", "[I", true)
  | 3 => ("TwinRegister$Device", "differing", "I", false)
  | 4 => ("TwinRegister$Device", "latestVersion", "I", false)
  | 5 => ("TwinRegister$Device", "versionBeforeSleep", "I", false)
  | 6 => ("TwinRegister$Device", "latestReport", "I", false)
  | _ => ("TwinRegister$Device", "asleep", "Z", false)
def ft_D : Nat → FieldType := fun k => match k with
  | 0 => .array (.int)
  | 1 => .array (.int)
  | 2 => .array (.int)
  | 3 => .int
  | 4 => .int
  | 5 => .int
  | 6 => .int
  | _ => .boolean
theorem n_D : ∀ a, a < 8 → ∀ b, b < 8 → a ≠ b → (F_D a).2.1 ≠ (F_D b).2.1 := by decide +kernel
theorem ft_D_ok : ∀ k, k < 8 → parseFieldDescriptor (F_D k).2.2.1 = some (ft_D k) := by decide +kernel
set_option maxRecDepth 20000 in
theorem i_D : ∀ w ∈ u_ws "TwinRegister$Device" F_D 8, w ∈ ag_all := by decide +kernel
def F_G : u_T := fun k => match k with
  | 0 => ("TwinRegister$Group", "leaf", "I", false)
  | 1 => ("TwinRegister$Group", "low", "I", false)
  | _ => ("TwinRegister$Group", "high", "I", false)
def ft_G : Nat → FieldType := fun k => match k with
  | 0 => .int
  | 1 => .int
  | _ => .int
theorem n_G : ∀ a, a < 3 → ∀ b, b < 3 → a ≠ b → (F_G a).2.1 ≠ (F_G b).2.1 := by decide +kernel
theorem ft_G_ok : ∀ k, k < 3 → parseFieldDescriptor (F_G k).2.2.1 = some (ft_G k) := by decide +kernel
set_option maxRecDepth 20000 in
theorem i_G : ∀ w ∈ u_ws "TwinRegister$Group" F_G 3, w ∈ ag_all := by decide +kernel
def F_J : u_T := fun k => match k with
  | 0 => ("TwinRegister$Job", "group", "I", false)
  | 1 => ("TwinRegister$Job", "leaf", "I", false)
  | 2 => ("TwinRegister$Job", "value", "I", false)
  | 3 => ("TwinRegister$Job", "rate", "I", false)
  | 4 => ("TwinRegister$Job", "bound", "I", false)
  | 5 => ("TwinRegister$Job", "condition", "I", false)
  | 6 => ("TwinRegister$Job", "started", "I", false)
  | 7 => ("TwinRegister$Job", "done", "I", false)
  | _ => ("TwinRegister$Job", "failed", "I", false)
def ft_J : Nat → FieldType := fun k => match k with
  | 0 => .int
  | 1 => .int
  | 2 => .int
  | 3 => .int
  | 4 => .int
  | 5 => .int
  | 6 => .int
  | 7 => .int
  | _ => .int
theorem n_J : ∀ a, a < 9 → ∀ b, b < 9 → a ≠ b → (F_J a).2.1 ≠ (F_J b).2.1 := by decide +kernel
theorem ft_J_ok : ∀ k, k < 9 → parseFieldDescriptor (F_J k).2.2.1 = some (ft_J k) := by decide +kernel
set_option maxRecDepth 20000 in
theorem i_J : ∀ w ∈ u_ws "TwinRegister$Job" F_J 9, w ∈ ag_all := by decide +kernel
abbrev gcl : List vw_C := [("TwinRegister", F_T, 5), ("TwinRegister$Draft", F_F, 2), ("TwinRegister$Device", F_D, 8), ("TwinRegister$Group", F_G, 3), ("TwinRegister$Job", F_J, 9)]
abbrev gty (cs : Nat → ClassId) : List (ClassId × FieldType) := [(cs 0, .int), (cs 1, .int), (cs 2, .int), (cs 3, .object "TwinRegister$Device"), (cs 4, .object "TwinRegister$Group"), (cs 5, .object "TwinRegister$Job")]
/-! ===== a world by places: the cell of place i lies at ad i and holds E i ===== -/
def iw (ad : Nat → Nat) (n : Nat) (E : Nat → va_E) : va_W := (List.range n).map (fun i => (ad i, E i))
theorem iw_len {ad : Nat → Nat} {n : Nat} {E : Nat → va_E} : (iw ad n E).length = n := by simp [iw]
theorem iw_get {ad : Nat → Nat} {n : Nat} {E : Nat → va_E} {i : Nat} (h : i < n) : (iw ad n E)[i]? = some (ad i, E i) := by
  unfold iw
  rw [List.getElem?_map, List.getElem?_range h]
  rfl
theorem iw_inv {ad : Nat → Nat} {n : Nat} {E : Nat → va_E} {k : Nat} {q : Nat × va_E} (h : (iw ad n E)[k]? = some q) : k < n ∧ q = (ad k, E k) := by
  have hk : k < n := by
    have h1 := (List.getElem?_eq_some_iff.mp h).1
    rwa [iw_len] at h1
  rw [iw_get hk] at h
  exact ⟨hk, (Option.some.inj h).symm⟩
theorem iw_set {ad : Nat → Nat} {n : Nat} {E : Nat → va_E} {i : Nat} {e : va_E} : (iw ad n E).set i (ad i, e) = iw ad n (va_up E i e) := by
  apply List.ext_getElem?
  intro k
  by_cases hk : k < n
  · by_cases hi : k = i
    · subst hi
      rw [List.getElem?_set_self (by rw [iw_len]; exact hk), iw_get hk]
      simp [va_up]
    · rw [List.getElem?_set_ne (Ne.symm hi), iw_get hk, iw_get hk]
      simp [va_up, hi]
  · rw [List.getElem?_eq_none (by rw [List.length_set, iw_len]; omega), List.getElem?_eq_none (by rw [iw_len]; omega)]
theorem iw_ext {ad ad2 : Nat → Nat} {n : Nat} {E E2 : Nat → va_E} (h1 : ∀ i, i < n → ad i = ad2 i) (h2 : ∀ i, i < n → E i = E2 i) : iw ad n E = iw ad2 n E2 := by
  apply List.ext_getElem?
  intro k
  by_cases hk : k < n
  · rw [iw_get hk, iw_get hk, h1 k hk, h2 k hk]
  · rw [List.getElem?_eq_none (by rw [iw_len]; omega), List.getElem?_eq_none (by rw [iw_len]; omega)]
theorem iw_push {ad : Nat → Nat} {n : Nat} {E : Nat → va_E} {q : Nat} {e : va_E} : iw ad n E ++ [(q, e)] = iw (va_up ad n q) (n + 1) (va_up E n e) := by
  unfold iw
  rw [List.range_succ, List.map_append]
  congr 1
  · apply List.map_congr_left
    intro i hi
    have hn : ¬ i = n := by
      have := List.mem_range.mp hi
      omega
    simp [va_up, hn]
  · simp [va_up]
/-- the places are apart, and of a kind -/
def ij (ad : Nat → Nat) (n : Nat) (A : Nat → Prop) : Prop := (∀ i j, i < n → j < n → ad i = ad j → i = j) ∧ ∀ i, i < n → A (ad i)
theorem iw_D {ad : Nat → Nat} {n : Nat} {A : Nat → Prop} {E : Nat → va_E} (h : ij ad n A) : va_D A (iw ad n E) := by
  refine ⟨fun i j p q hp hq hpq => ?_, fun k q hq => ?_⟩
  · obtain ⟨h1, rfl⟩ := iw_inv hp
    obtain ⟨h2, rfl⟩ := iw_inv hq
    exact h.1 i j h1 h2 hpq
  · obtain ⟨h1, rfl⟩ := iw_inv hq
    exact h.2 k h1
theorem ij_of {ad : Nat → Nat} {n : Nat} {A : Nat → Prop} {E : Nat → va_E} (h : va_D A (iw ad n E)) : ij ad n A :=
  ⟨fun i j hi hj e => h.1 i j _ _ (iw_get hi) (iw_get hj) e, fun i hi => h.2 i _ (iw_get hi)⟩
def gA (ad : Nat → Nat) (n sz : Nat) : Nat → Prop := fun q => (∃ i, i < n ∧ q = ad i) ∨ sz ≤ q
theorem gA_ij {ad : Nat → Nat} {n sz : Nat} {A : Nat → Prop} (h : ij ad n A) : ij ad n (gA ad n sz) := ⟨h.1, fun i hi => Or.inl ⟨i, hi, rfl⟩⟩
theorem gA_in {ad : Nat → Nat} {n sz : Nat} {A : Nat → Prop} (h : ij ad n A) (hA : ∀ q, sz ≤ q → A q) : ∀ q, gA ad n sz q → A q := by
  intro q hq
  rcases hq with ⟨i, hi, rfl⟩ | hq
  · exact h.2 i hi
  · exact hA q hq
/-! ===== the memory: cell i, place k ===== -/
def up2 (st : Nat → Nat → Int32) (i k : Nat) (v : Int32) : Nat → Nat → Int32 := fun a => if a = i then upd (st a) k v else st a
theorem up2_in (st : Nat → Nat → Int32) (i k : Nat) (v : Int32) : up2 st i k v i = upd (st i) k v := by simp [up2]
theorem up2_out (st : Nat → Nat → Int32) {i k a : Nat} (v : Int32) (h : a ≠ i) : up2 st i k v a = st a := by simp [up2, h]
theorem up2_at (st : Nat → Nat → Int32) (i k : Nat) (v : Int32) (a b : Nat) : up2 st i k v a b = if a = i ∧ b = k then v else st a b := by
  unfold up2 upd
  by_cases h : a = i <;> by_cases h2 : b = k <;> simp [h, h2]
def rfs (ad : Nat → Nat) (b n w : Nat) : Nat → Option Nat := fun k => if k < n then some (ad (b + w * k)) else none
def mlen (i : Nat) : Nat := if i = 0 then 60 else if i = 1 ∨ i = 2 ∨ i = 3 then 5 else if i = 4 then 12 else if i = 5 then 4 else if i = 9 then 1 else 8
def tE (ad : Nat → Nat) (cs : Nat → ClassId) (st : Nat → Nat → Int32) (i : Nat) : va_E :=
  if i = 0 then .inr (0, [.ref (ad 1), .ref (ad 3), .ref (ad 36), .ref (ad 41), .int (st i 4)])
  else if i = 1 then .inr (1, [.ref (ad 2), .int (st i 1)])
  else if i = 2 then .inl (cs 0, 12, .inl (st i))
  else if i = 3 then .inl (cs 3, 8, .inr (.inr (.inr (.inr (rfs ad 4 8 4)))))
  else if i < 36 then
    (if i % 4 = 0 then .inr (2, [.ref (ad (i + 1)), .ref (ad (i + 2)), .ref (ad (i + 3)), .int (st i 3), .int (st i 4), .int (st i 5), .int (st i 6), .int (st i 7)])
     else .inl (cs 0, 12, .inl (st i)))
  else if i = 36 then .inl (cs 4, 4, .inr (.inr (.inr (.inr (rfs ad 37 4 1)))))
  else if i < 41 then .inr (3, [.int (st i 0), .int (st i 1), .int (st i 2)])
  else if i = 41 then .inl (cs 5, 8, .inr (.inr (.inr (.inr (rfs ad 42 8 1)))))
  else .inr (4, [.int (st i 0), .int (st i 1), .int (st i 2), .int (st i 3), .int (st i 4), .int (st i 5), .int (st i 6), .int (st i 7), .int (st i 8)])
def mE (ad : Nat → Nat) (cs : Nat → ClassId) (mt : Nat → Nat → Int32) (i : Nat) : va_E := .inl (cs 0, mlen i, .inl (mt i))
def gE (ad : Nat → Nat) (cs : Nat → ClassId) (st mt : Nat → Nat → Int32) (_ov : Nat → Int64) (i : Nat) : va_E :=
  if i < 50 then tE ad cs st i else mE ad cs mt (i - 50)
theorem tE_cong {ad : Nat → Nat} {cs : Nat → ClassId} {st st2 : Nat → Nat → Int32} {i : Nat} (h : st i = st2 i) : tE ad cs st i = tE ad cs st2 i := by
  unfold tE
  rw [h]
theorem mE_cong {ad : Nat → Nat} {cs : Nat → ClassId} {mt mt2 : Nat → Nat → Int32} {i : Nat} (h : mt i = mt2 i) : mE ad cs mt i = mE ad cs mt2 i := by
  unfold mE
  rw [h]
theorem gE_upT {ad : Nat → Nat} {cs : Nat → ClassId} {st mt : Nat → Nat → Int32} {ov : Nat → Int64} {i k : Nat} {v : Int32} {e : va_E} (hi : i < 50) (he : e = tE ad cs (up2 st i k v) i) :
    va_up (gE ad cs st mt ov) i e = gE ad cs (up2 st i k v) mt ov := by
  funext j
  by_cases hj : j = i
  · subst hj
    simp [va_up, gE, hi, he]
  · have h1 : va_up (gE ad cs st mt ov) i e j = gE ad cs st mt ov j := by simp [va_up, hj]
    rw [h1]
    unfold gE
    rw [tE_cong (st := st) (st2 := up2 st i k v) (up2_out st v hj).symm]
theorem gE_upM {ad : Nat → Nat} {cs : Nat → ClassId} {st mt : Nat → Nat → Int32} {ov : Nat → Int64} {i k : Nat} {v : Int32} {e : va_E} (he : e = mE ad cs (up2 mt i k v) i) :
    va_up (gE ad cs st mt ov) (50 + i) e = gE ad cs st (up2 mt i k v) ov := by
  funext j
  by_cases hj : j = 50 + i
  · subst hj
    have h1 : ¬ 50 + i < 50 := by omega
    have h3 : 50 + i - 50 = i := by omega
    simp [va_up, gE, h1, he, h3]
  · have h1 : va_up (gE ad cs st mt ov) (50 + i) e j = gE ad cs st mt ov j := by simp [va_up, hj]
    rw [h1]
    unfold gE
    by_cases h4 : j < 50
    · simp [h4]
    · rw [mE_cong (mt := mt) (mt2 := up2 mt i k v) (up2_out mt v (by omega)).symm]

section LOOK
variable {ad : Nat → Nat} {cs : Nat → ClassId} {st mt : Nat → Nat → Int32} {ov : Nat → Int64}
theorem gE_T : gE ad cs st mt ov 0 = .inr (0, [.ref (ad 1), .ref (ad 3), .ref (ad 36), .ref (ad 41), .int (st 0 4)]) := rfl
theorem gE_F : gE ad cs st mt ov 1 = .inr (1, [.ref (ad 2), .int (st 1 1)]) := rfl
theorem gE_FV : gE ad cs st mt ov 2 = .inl (cs 0, 12, .inl (st 2)) := rfl
theorem gE_DR : gE ad cs st mt ov 3 = .inl (cs 3, 8, .inr (.inr (.inr (.inr (rfs ad 4 8 4))))) := rfl
theorem gE_GR : gE ad cs st mt ov 36 = .inl (cs 4, 4, .inr (.inr (.inr (.inr (rfs ad 37 4 1))))) := rfl
theorem gE_JR : gE ad cs st mt ov 41 = .inl (cs 5, 8, .inr (.inr (.inr (.inr (rfs ad 42 8 1))))) := rfl
theorem tE_dev {i : Nat} (h : 4 ≤ i) (h2 : i < 36) (h3 : i % 4 = 0) : tE ad cs st i = .inr (2, [.ref (ad (i + 1)), .ref (ad (i + 2)), .ref (ad (i + 3)), .int (st i 3), .int (st i 4), .int (st i 5), .int (st i 6), .int (st i 7)]) := by
  unfold tE
  rw [if_neg (by omega), if_neg (by omega), if_neg (by omega), if_neg (by omega), if_pos h2, if_pos h3]
theorem tE_row {i : Nat} (h : 4 ≤ i) (h2 : i < 36) (h3 : ¬ i % 4 = 0) : tE ad cs st i = .inl (cs 0, 12, .inl (st i)) := by
  unfold tE
  rw [if_neg (by omega), if_neg (by omega), if_neg (by omega), if_neg (by omega), if_pos h2, if_neg h3]
theorem tE_grp {i : Nat} (h : 37 ≤ i) (h2 : i < 41) : tE ad cs st i = .inr (3, [.int (st i 0), .int (st i 1), .int (st i 2)]) := by
  unfold tE
  rw [if_neg (by omega), if_neg (by omega), if_neg (by omega), if_neg (by omega), if_neg (by omega), if_neg (by omega), if_pos h2]
theorem tE_job {i : Nat} (h : 42 ≤ i) : tE ad cs st i = .inr (4, [.int (st i 0), .int (st i 1), .int (st i 2), .int (st i 3), .int (st i 4), .int (st i 5), .int (st i 6), .int (st i 7), .int (st i 8)]) := by
  unfold tE
  rw [if_neg (by omega), if_neg (by omega), if_neg (by omega), if_neg (by omega), if_neg (by omega), if_neg (by omega), if_neg (by omega), if_neg (by omega)]
theorem gE_t {i : Nat} (h : i < 50) : gE ad cs st mt ov i = tE ad cs st i := by
  unfold gE
  rw [if_pos h]
theorem gE_m {i : Nat} : gE ad cs st mt ov (50 + i) = mE ad cs mt i := by
  unfold gE
  rw [if_neg (by omega), show 50 + i - 50 = i by omega]
end LOOK

