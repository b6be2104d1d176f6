/-! names as the reference keeps them -/
def pn_256 (l : Nat → Nat) : Nat → Nat
  | 0 => 0
  | i + 1 => pn_256 l i * 256 + (96 + l i)
theorem pn_256_s {l : Nat → Nat} (h : ∀ i, l i ≤ 26) (k : Nat) : pn_256 l (k + 1) / 256 = pn_256 l k := by
  have := h k
  show (pn_256 l k * 256 + (96 + l k)) / 256 = _
  omega
theorem pn_256_pos (l : Nat → Nat) (k : Nat) : 0 < pn_256 l (k + 1) := by
  show 0 < pn_256 l k * 256 + (96 + l k)
  omega
theorem pn_256_lt {l : Nat → Nat} (h : ∀ i, l i ≤ 26) : ∀ k, pn_256 l k < 256 ^ k
  | 0 => by show 0 < 1; omega
  | k + 1 => by
    have h1 := pn_256_lt h k
    have h2 := h k
    show pn_256 l k * 256 + (96 + l k) < 256 ^ k * 256
    omega
theorem pn_256_at {l : Nat → Nat} (h : ∀ i, l i ≤ 26) : ∀ n i, i < n → pn_256 l n / 2 ^ (8 * (n - 1 - i)) % 256 = 96 + l i
  | 0, i, hi => absurd hi (Nat.not_lt_zero _)
  | n + 1, i, hi => by
    have h2 := h n
    by_cases c : i = n
    · subst c
      have e : 8 * (i + 1 - 1 - i) = 0 := by omega
      rw [e]
      show (pn_256 l i * 256 + (96 + l i)) / 1 % 256 = _
      omega
    · have ih := pn_256_at h n i (by omega)
      have e : 8 * (n + 1 - 1 - i) = 8 + 8 * (n - 1 - i) := by omega
      have e2 : pn_256 l (n + 1) / 2 ^ (8 + 8 * (n - 1 - i)) = pn_256 l (n + 1) / 256 / 2 ^ (8 * (n - 1 - i)) := by
        rw [Nat.pow_add, Nat.div_div_eq_div_mul]
      rw [e, e2, pn_256_s h n, ih]
