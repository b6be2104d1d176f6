/-! on: the reference -/
section MO
variable (N : Nat) {H : PH} {T : PT} {b : Nat} {mmI mE mP tF mM : Nat → Int32}
theorem m_on301 (hN : 5000 ≤ N) (hb : b < 2) (h13 : mmI 13 = nI b) (hE : mE b = nI (H.1 1)) (hP : mP b = nI (H.1 2)) (e7 : H.1 1 ≤ 7) (p6 : H.1 2 ≤ 6) (hT : T.1 = 9 + H.1 1 + H.1 2) (ht : ∀ i, i < T.1 → tF i = nI (T.2 i)) (a0 a1 a2 a3 a4 a5 a6 a7 a8 : Nat → Int32) : ∃ t, xq_loop (fX12_comesOn_l301 N mmI mE mP tF mM) N (a0, a1, a2, a3, a4, a5, a6, a7, a8, 0) = some (1, a0, a1, a2, a3, a4, a5, a6, t, a8) ∧ (∀ p, p < H.1 2 → t (6 + p) = nI (T.2 (8 + H.1 1 + p))) ∧ ∀ i, i < 6 ∨ 12 ≤ i → t i = a7 i := by
  refine xs_loopI (body := fX12_comesOn_l301 N mmI mE mP tF mM) (fun r st => ∃ t j, st = (a0, a1, a2, a3, a4, a5, a6, t, a8, nI j) ∧ j + r = H.1 2 ∧ (∀ p, p < j → t (6 + p) = nI (T.2 (8 + H.1 1 + p))) ∧ ∀ i, i < 6 ∨ 12 ≤ i → t i = a7 i) (fun q => ∃ t, q = some (1, a0, a1, a2, a3, a4, a5, a6, t, a8) ∧ (∀ p, p < H.1 2 → t (6 + p) = nI (T.2 (8 + H.1 1 + p))) ∧ ∀ i, i < 6 ∨ 12 ≤ i → t i = a7 i) ?_ N (H.1 2) _ ⟨a7, 0, rfl, by omega, fun p hp => absurd hp (Nat.not_lt_zero _), fun _ _ => rfl⟩ (by omega)
  rintro r st kk ⟨t, j, rfl, hj, h1, h2⟩ hgo
  dsimp only [fX12_comesOn_l301]
  rw [h13, xs_ald hb (by omega), xs_bd, hP]
  by_cases c : H.1 2 ≤ j
  · rw [if_pos (nI_le c (by omega))]
    exact ⟨t, rfl, fun p hp => h1 p (by omega), h2⟩
  · have e6 : (6 : Int32) + nI j = nI (6 + j) := nI_add 6 j
    rw [if_neg (nI_ge (by omega) (by omega)), xs_ald hb (by omega), xs_bd, hE, xs_8, nI_add, xs_ald (show 8 + H.1 1 + j < 1800 by omega) (by omega), xs_bd, e6, xs_ast (show 6 + j < 132 by omega) (by omega), xs_bd, nI_1, ht (8 + H.1 1 + j) (by omega)]
    refine hgo _ (r - 1) (by omega) ⟨_, j + 1, rfl, by omega, fun p hp => ?_, fun i hi => ?_⟩
    · by_cases d : p = j
      · subst d; rw [pk_us]
      · rw [pk_un (show 6 + p ≠ 6 + j by omega)]; exact h1 p (by omega)
    · rw [pk_un (show i ≠ 6 + j by omega)]; exact h2 i hi
theorem m_on258 (hN : 5000 ≤ N) (hb : b < 2) (h13 : mmI 13 = nI b) (hE : mE b = nI (H.1 1)) (hP : mP b = nI (H.1 2)) (e7 : H.1 1 ≤ 7) (p6 : H.1 2 ≤ 6) (hT : T.1 = 9 + H.1 1 + H.1 2) (ht : ∀ i, i < T.1 → tF i = nI (T.2 i)) (a0 a1 a2 a3 a4 a5 a6 a7 a8 : Nat → Int32) : ∃ s t, xq_loop (fX12_comesOn_l258 N mmI mE mP tF mM) N (a0, a1, a2, a3, a4, a5, a6, a7, a8, 0) = some (1, a0, a1, a2, a3, a4, s, a6, t, a8) ∧ (∀ e, e < H.1 1 → s (7 + e) = nI (T.2 (8 + e))) ∧ (∀ i, i < 7 ∨ 14 ≤ i → s i = a5 i) ∧ (∀ p, p < H.1 2 → t (6 + p) = nI (T.2 (8 + H.1 1 + p))) ∧ ∀ i, i < 6 ∨ 12 ≤ i → t i = a7 i := by
  refine xs_loopI (body := fX12_comesOn_l258 N mmI mE mP tF mM) (fun r st => ∃ s j, st = (a0, a1, a2, a3, a4, s, a6, a7, a8, nI j) ∧ j + r = H.1 1 ∧ (∀ e, e < j → s (7 + e) = nI (T.2 (8 + e))) ∧ ∀ i, i < 7 ∨ 14 ≤ i → s i = a5 i) (fun q => ∃ s t, q = some (1, a0, a1, a2, a3, a4, s, a6, t, a8) ∧ (∀ e, e < H.1 1 → s (7 + e) = nI (T.2 (8 + e))) ∧ (∀ i, i < 7 ∨ 14 ≤ i → s i = a5 i) ∧ (∀ p, p < H.1 2 → t (6 + p) = nI (T.2 (8 + H.1 1 + p))) ∧ ∀ i, i < 6 ∨ 12 ≤ i → t i = a7 i) ?_ N (H.1 1) _ ⟨a5, 0, rfl, by omega, fun p hp => absurd hp (Nat.not_lt_zero _), fun _ _ => rfl⟩ (by omega)
  rintro r st kk ⟨s, j, rfl, hj, h1, h2⟩ hgo
  dsimp only [fX12_comesOn_l258]
  rw [h13, xs_ald hb (by omega), xs_bd, hE]
  by_cases c : H.1 1 ≤ j
  · rw [if_pos (nI_le c (by omega))]
    obtain ⟨t, g1, g2, g3⟩ := m_on301 (mM := mM) N hN hb h13 hE hP e7 p6 hT ht a0 a1 a2 a3 a4 s a6 a7 a8
    exact ⟨s, t, g1, fun e he => h1 e (by omega), h2, g2, g3⟩
  · have e6 : (7 : Int32) + nI j = nI (7 + j) := nI_add 7 j
    rw [if_neg (nI_ge (by omega) (by omega)), xs_8, xs_ald (show 8 + j < 1800 by omega) (by omega), xs_bd, e6, xs_ast (show 7 + j < 154 by omega) (by omega), xs_bd, nI_1, ht (8 + j) (by omega)]
    refine hgo _ (r - 1) (by omega) ⟨_, j + 1, rfl, by omega, fun p hp => ?_, fun i hi => ?_⟩
    · by_cases d : p = j
      · subst d; rw [pk_us]
      · rw [pk_un (show 7 + p ≠ 7 + j by omega)]; exact h1 p (by omega)
    · rw [pk_un (show i ≠ 7 + j by omega)]; exact h2 i hi
theorem m_on226 (hN : 5000 ≤ N) (hb : b < 2) (h13 : mmI 13 = nI b) (hE : mE b = nI (H.1 1)) (hP : mP b = nI (H.1 2)) (e7 : H.1 1 ≤ 7) (p6 : H.1 2 ≤ 6) (hT : T.1 = 9 + H.1 1 + H.1 2) (ht : ∀ i, i < T.1 → tF i = nI (T.2 i)) (hl : pI_lt T) (a0 a1 a2 a3 a4 a5 a6 a7 a8 : Nat → Int32) : ((¬ ∀ i, i < H.1 1 + H.1 2 → T.2 (8 + i) ≤ 9) ∧ xq_loop (fX12_comesOn_l226 N mmI mE mP tF mM) N (a0, a1, a2, a3, a4, a5, a6, a7, a8, nI (H.1 1 + H.1 2), 0) = some (0, a0, a1, a2, a3, a4, a5, a6, a7, a8)) ∨ ((∀ i, i < H.1 1 + H.1 2 → T.2 (8 + i) ≤ 9) ∧ ∃ s t, xq_loop (fX12_comesOn_l226 N mmI mE mP tF mM) N (a0, a1, a2, a3, a4, a5, a6, a7, a8, nI (H.1 1 + H.1 2), 0) = some (1, a0, a1, a2, a3, a4, s, a6, t, a8) ∧ (∀ e, e < H.1 1 → s (7 + e) = nI (T.2 (8 + e))) ∧ (∀ i, i < 7 ∨ 14 ≤ i → s i = a5 i) ∧ (∀ p, p < H.1 2 → t (6 + p) = nI (T.2 (8 + H.1 1 + p))) ∧ ∀ i, i < 6 ∨ 12 ≤ i → t i = a7 i) := by
  refine xs_loopI (body := fX12_comesOn_l226 N mmI mE mP tF mM) (fun r st => ∃ j, st = (a0, a1, a2, a3, a4, a5, a6, a7, a8, nI (H.1 1 + H.1 2), nI j) ∧ j + r = H.1 1 + H.1 2 ∧ ∀ i, i < j → T.2 (8 + i) ≤ 9) (fun q => ((¬ ∀ i, i < H.1 1 + H.1 2 → T.2 (8 + i) ≤ 9) ∧ q = some (0, a0, a1, a2, a3, a4, a5, a6, a7, a8)) ∨ ((∀ i, i < H.1 1 + H.1 2 → T.2 (8 + i) ≤ 9) ∧ ∃ s t, q = some (1, a0, a1, a2, a3, a4, s, a6, t, a8) ∧ (∀ e, e < H.1 1 → s (7 + e) = nI (T.2 (8 + e))) ∧ (∀ i, i < 7 ∨ 14 ≤ i → s i = a5 i) ∧ (∀ p, p < H.1 2 → t (6 + p) = nI (T.2 (8 + H.1 1 + p))) ∧ ∀ i, i < 6 ∨ 12 ≤ i → t i = a7 i)) ?_ N (H.1 1 + H.1 2) _ ⟨0, rfl, by omega, fun p hp => absurd hp (Nat.not_lt_zero _)⟩ (by omega)
  rintro r st kk ⟨j, rfl, hj, h1⟩ hgo
  dsimp only [fX12_comesOn_l226]
  by_cases c : H.1 1 + H.1 2 ≤ j
  · rw [if_pos (nI_le c (by omega))]
    exact Or.inr ⟨fun i hi => h1 i (by omega), m_on258 (mM := mM) N hN hb h13 hE hP e7 p6 hT ht a0 a1 a2 a3 a4 a5 a6 a7 a8⟩
  · have hb2 := hl (8 + j) (by omega)
    rw [if_neg (nI_ge (by omega) (by omega)), xs_8, xs_ald (show 8 + j < 1800 by omega) (by omega), xs_bd, ht (8 + j) (by omega)]
    by_cases d : T.2 (8 + j) ≤ 9
    · rw [if_pos (show nI (T.2 (8 + j)) ≤ (9 : Int32) from nI_le (b := 9) d (by omega)), nI_1]
      refine hgo _ (r - 1) (by omega) ⟨j + 1, rfl, by omega, fun i hi => ?_⟩
      by_cases e : i = j
      · rw [e]; exact d
      · exact h1 i (by omega)
    · rw [if_neg (show ¬ nI (T.2 (8 + j)) ≤ (9 : Int32) from nI_ge (a := 9) (by omega) (by omega))]
      exact Or.inl ⟨fun z => d (z j (by omega)), rfl⟩
theorem m_twoAt (hlt : ∀ i, i < T.1 → tF i = nI (T.2 i)) (hl : pI_lt T) (hT : T.1 ≤ 1600) {i : Nat} (hi : i + 1 < T.1) : fX12_twoAt N tF (nI i) = some (nI (pO_w T i)) := by
  unfold fX12_twoAt
  rw [xs_ald (show i < 1800 by omega) (by omega), xs_bd, nI_1, xs_ald (show i + 1 < 1800 by omega) (by omega), xs_bd, hlt i (by omega), hlt (i + 1) hi, xs_two (hl i (by omega)) (hl (i + 1) hi)]
  rfl
end MO
