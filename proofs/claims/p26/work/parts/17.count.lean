/-! ===== counting bits by taking away the lowest ===== -/
def kz : Nat → Int32 → Int32
  | 0, x => x
  | f + 1, x => bif decide (x = 0) then x else kz f (x &&& (x - 1))
def kc : Nat → Int32 → Int32
  | 0, _ => 0
  | f + 1, x => bif decide (x = 0) then 0 else kc f (x &&& (x - 1)) + 1
theorem kz_all : ∀ a : Fin 64, ∀ b : Fin 64, kz 12 (nI (64 * a.val + b.val)) = 0 ∧ kc 12 (nI (64 * a.val + b.val)) = bcI (nI (64 * a.val + b.val)) := by decide +kernel
theorem kz_n {n : Nat} (h : n < 4096) : kz 12 (nI n) = 0 ∧ kc 12 (nI n) = bcI (nI n) := by
  have h1 := kz_all ⟨n / 64, by omega⟩ ⟨n % 64, by omega⟩
  have h2 : 64 * (n / 64) + n % 64 = n := by omega
  dsimp only at h1
  rw [h2] at h1
  exact h1
