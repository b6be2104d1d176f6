/-! on: the reference's call -/
section MO3
variable (N : Nat) {H : PH} {T : PT} {b : Nat} {mmI tF : Nat → Int32} {X Y : Nat → Nat → Int32}
theorem pO_digits {H : PH} {T : PT} : (∀ i, i < H.1 1 + H.1 2 → T.2 (8 + i) ≤ 9) ↔ (∀ e, e < H.1 1 → T.2 (8 + e) ≤ 9) ∧ ∀ p, p < H.1 2 → T.2 (8 + H.1 1 + p) ≤ 9 := by
  constructor
  · intro h
    refine ⟨fun e he => h e (by omega), fun p hp => ?_⟩
    have := h (H.1 1 + p) (by omega)
    rwa [← Nat.add_assoc] at this
  · rintro ⟨h1, h2⟩ i hi
    by_cases c : i < H.1 1
    · exact h1 i c
    · have := h2 (i - H.1 1) (by omega)
      have e : 8 + H.1 1 + (i - H.1 1) = 8 + i := by omega
      rwa [e] at this
theorem m_comesOn (hN : 5000 ≤ N) (hY : mHY H b mmI Y) (hfl : mFl mmI (H.1 0)) (h200 : H.1 0 ≤ 200) (e7 : H.1 1 ≤ 7) (p6 : H.1 2 ≤ 6) (hT : T.1 ≤ 1600) (ht : ∀ i, i < T.1 → tF i = nI (T.2 i)) (hl : pI_lt T) {k : Nat} (hk : X 6 0 = nI k) (hk4 : k ≤ 40) : ∃ g X', fX12_comesOn N mmI (Y 5) (Y 6) tF (Y 4) (X 0) (X 1) (X 2) (X 3) (X 4) (X 5) (X 6) (X 7) (X 8) (nI T.1) = some (p_b g, X' 0, X' 1, X' 2, X' 3, X' 4, X' 5, X' 6, X' 7, X' 8) ∧ mOth 1 X X' ∧ (g = true ↔ pO_all H T) ∧ (g = true → pO_lay H T X') := by
  have hb := hY.1
  have no : ¬ pO_all H T → ∃ g X', some ((0 : Int32), X 0, X 1, X 2, X 3, X 4, X 5, X 6, X 7, X 8) = some (p_b g, X' 0, X' 1, X' 2, X' 3, X' 4, X' 5, X' 6, X' 7, X' 8) ∧ mOth 1 X X' ∧ (g = true ↔ pO_all H T) ∧ (g = true → pO_lay H T X') := fun z => ⟨false, X, rfl, mOth.refl _ _, ⟨fun y => absurd y (by decide), fun y => absurd y z⟩, fun y => absurd y (by decide)⟩
  unfold fX12_comesOn
  rw [hY.2.1, xs_ald hb (by omega), xs_bd, xs_ald hb (by omega), xs_bd, hY.2.2.2.1, hY.2.2.2.2.1, hfl, nI_add]
  have e9 : (9 : Int32) + nI (H.1 1 + H.1 2) = nI (9 + (H.1 1 + H.1 2)) := nI_add 9 _
  rw [e9]
  by_cases g0 : 0 < H.1 0
  · rw [if_pos g0, if_neg (show ¬ (1 : Int32) = 0 by decide)]
    by_cases g1 : T.1 = 9 + H.1 1 + H.1 2
    · have l0 := hl 0 (by omega)
      have l1 := hl 1 (by omega)
      have l2 := hl 2 (by omega)
      have l3 := hl 3 (by omega)
      have l4 := hl 4 (by omega)
      have l5 := hl 5 (by omega)
      have l6 := hl 6 (by omega)
      have l7 := hl 7 (by omega)
      have w0 : pO_w T 0 < 65536 := by show 256 * T.2 0 + T.2 1 < 65536; omega
      have w2 : pO_w T 2 < 65536 := by show 256 * T.2 2 + T.2 3 < 65536; omega
      have w4 : pO_w T 4 < 65536 := by show 256 * T.2 4 + T.2 5 < 65536; omega
      have t0 : fX12_twoAt N tF 0 = some (nI (pO_w T 0)) := m_twoAt N ht hl (by omega) (i := 0) (by omega)
      have t2 : fX12_twoAt N tF 2 = some (nI (pO_w T 2)) := m_twoAt N ht hl (by omega) (i := 2) (by omega)
      have t4 : fX12_twoAt N tF 4 = some (nI (pO_w T 4)) := m_twoAt N ht hl (by omega) (i := 4) (by omega)
      have t6 : xq_ald 1800 tF 6 = some (nI (T.2 6)) := (xs_ald (k := 6) (by omega) (by omega)).trans (by rw [ht 6 (by omega)])
      have t7 : xq_ald 1800 tF 7 = some (nI (T.2 7)) := (xs_ald (k := 7) (by omega) (by omega)).trans (by rw [ht 7 (by omega)])
      rw [if_pos (show nI T.1 = nI (9 + (H.1 1 + H.1 2)) from nI_c (by omega)), t0, xs_bd]
      by_cases d0 : pO_w T 0 ≤ 999
      · rw [if_neg (show ¬ (999 : Int32) < nI (pO_w T 0) from fun z => by have := (nI_ltI (a := 999) (by omega) (by omega)).mp z; omega), t2, xs_bd, xs_ald hb (by omega), xs_bd, hY.2.2.1]
        by_cases d1 : pO_w T 2 < H.1 0
        · rw [if_neg (nI_ge d1 (by omega)), t4, xs_bd]
          by_cases d2 : pO_w T 4 ≤ 999
          · rw [if_neg (show ¬ (999 : Int32) < nI (pO_w T 4) from fun z => by have := (nI_ltI (a := 999) (by omega) (by omega)).mp z; omega), t6, xs_bd]
            by_cases d3 : T.2 6 ≤ 20
            · rw [if_neg (show ¬ (20 : Int32) < nI (T.2 6) from fun z => by have := (nI_ltI (a := 20) (by omega) (by omega)).mp z; omega), t7, xs_bd]
              by_cases d4 : T.2 7 ≤ 9
              · rw [if_pos (show nI (T.2 7) ≤ (9 : Int32) from nI_le (b := 9) d4 (by omega))]
                obtain ⟨g, X', q1, q2, q3, q4⟩ := m_on107 (mM := Y 4) N hN hb hY.2.1 hY.2.2.2.1 hY.2.2.2.2.1 e7 p6 g1 ht hl hk hk4
                refine ⟨g, X', q1, q2, ?_, q4⟩
                rw [q3, pO_digits]
                exact ⟨fun z => ⟨g0, g1, z.1, d4, z.2.1, z.2.2, d0, d1, d2, d3⟩, fun z => ⟨z.2.2.1, z.2.2.2.2.1, z.2.2.2.2.2.1⟩⟩
              · rw [if_neg (show ¬ nI (T.2 7) ≤ (9 : Int32) from nI_ge (a := 9) (by omega) (by omega))]
                exact no (fun z => d4 z.2.2.2.1)
            · rw [if_pos (show (20 : Int32) < nI (T.2 6) from (nI_ltI (a := 20) (by omega) (by omega)).mpr (by omega))]
              exact no (fun z => d3 z.2.2.2.2.2.2.2.2.2)
          · rw [if_pos (show (999 : Int32) < nI (pO_w T 4) from (nI_ltI (a := 999) (by omega) (by omega)).mpr (by omega))]
            exact no (fun z => d2 z.2.2.2.2.2.2.2.2.1)
        · rw [if_pos (nI_le (by omega) (by omega))]
          exact no (fun z => d1 z.2.2.2.2.2.2.2.1)
      · rw [if_pos (show (999 : Int32) < nI (pO_w T 0) from (nI_ltI (a := 999) (by omega) (by omega)).mpr (by omega))]
        exact no (fun z => d0 z.2.2.2.2.2.2.1)
    · rw [if_neg (fun z => g1 (by have := (nI_eq (by omega) (by omega)).mp z; omega))]
      exact no (fun z => g1 z.2.1)
  · rw [if_neg g0, if_pos (by rfl)]
    exact no (fun z => g0 z.1)
end MO3
