/-! on: the reference's check and layer -/
theorem xs_ast1 {n : Nat} {f : Nat → Int32} {x : Int32} (h : 1 < n) (hn : n < 2 ^ 31) : xq_ast n f (1 : Int32) x = some (upd f 1 x) := xs_ast (k := 1) h hn
def pO_lay (H : PH) (T : PT) (X : Nat → Nat → Int32) : Prop := X 0 1 = nI (pO_w T 0) ∧ X 1 1 = nI (pO_w T 2) ∧ X 2 1 = nI (pO_w T 4) ∧ X 3 1 = nI (T.2 6) ∧ X 4 1 = nI (T.2 7) ∧ X 6 1 = nI 0 ∧ (∀ e, e < H.1 1 → X 5 (7 + e) = nI (T.2 (8 + e))) ∧ ∀ p, p < H.1 2 → X 7 (6 + p) = nI (T.2 (8 + H.1 1 + p))
section MO2
variable (N : Nat) {H : PH} {T : PT} {b : Nat} {mmI mE mP tF mM : Nat → Int32}
theorem m_oth1 {X X1 : Nat → Nat → Int32} (c2 : mOth 1 X X1) (v0 v1 v2 v3 v4 v6 : Int32) {s t : Nat → Int32} (hs : ∀ i, i < 7 ∨ 14 ≤ i → s i = X1 5 i) (ht : ∀ i, i < 6 ∨ 12 ≤ i → t i = X1 7 i) : mOth 1 X (m9 (upd (X1 0) 1 v0) (upd (X1 1) 1 v1) (upd (X1 2) 1 v2) (upd (X1 3) 1 v3) (upd (X1 4) 1 v4) s (upd (X1 6) 1 v6) t (X1 8)) := by
  refine ⟨fun j u hj hu => ?_, fun i hi => (hs i (by omega)).trans (c2.2.1 i hi), fun i hi => (ht i (by omega)).trans (c2.2.2.1 i hi), c2.2.2.2⟩
  have : j = 0 ∨ j = 1 ∨ j = 2 ∨ j = 3 ∨ j = 4 ∨ j = 6 := by omega
  rcases this with rfl | rfl | rfl | rfl | rfl | rfl
  · exact (pk_un hu).trans (c2.1 0 u (by omega) hu)
  · exact (pk_un hu).trans (c2.1 1 u (by omega) hu)
  · exact (pk_un hu).trans (c2.1 2 u (by omega) hu)
  · exact (pk_un hu).trans (c2.1 3 u (by omega) hu)
  · exact (pk_un hu).trans (c2.1 4 u (by omega) hu)
  · exact (pk_un hu).trans (c2.1 6 u (by omega) hu)
theorem m_on107 (hN : 5000 ≤ N) (hb : b < 2) (h13 : mmI 13 = nI b) (hE : mE b = nI (H.1 1)) (hP : mP b = nI (H.1 2)) (e7 : H.1 1 ≤ 7) (p6 : H.1 2 ≤ 6) (hT : T.1 = 9 + H.1 1 + H.1 2) (ht : ∀ i, i < T.1 → tF i = nI (T.2 i)) (hl : pI_lt T) {X : Nat → Nat → Int32} {k : Nat} (hk : X 6 0 = nI k) (hk4 : k ≤ 40) : ∃ g X', xq_loop (fX12_comesOn_l107 N mmI mE mP tF mM) N (X 0, X 1, X 2, X 3, X 4, X 5, X 6, X 7, X 8, nI T.1, nI (H.1 1 + H.1 2), 239, 0) = some (p_b g, X' 0, X' 1, X' 2, X' 3, X' 4, X' 5, X' 6, X' 7, X' 8) ∧ mOth 1 X X' ∧ (g = true ↔ T.2 (8 + H.1 1 + H.1 2) = pI_ck T (8 + H.1 1 + H.1 2) ∧ ∀ i, i < H.1 1 + H.1 2 → T.2 (8 + i) ≤ 9) ∧ (g = true → pO_lay H T X') := by
  have e1 : nI T.1 - 1 = nI (8 + H.1 1 + H.1 2) := by
    show nI T.1 - nI 1 = _
    rw [pk_sub (by omega)]; exact nI_c (by omega)
  refine xs_loopI (body := fX12_comesOn_l107 N mmI mE mP tF mM) (fun r st => ∃ j, st = (X 0, X 1, X 2, X 3, X 4, X 5, X 6, X 7, X 8, nI T.1, nI (H.1 1 + H.1 2), nI (pI_ck T j), nI j) ∧ j + r = 8 + H.1 1 + H.1 2) (fun q => ∃ g X', q = some (p_b g, X' 0, X' 1, X' 2, X' 3, X' 4, X' 5, X' 6, X' 7, X' 8) ∧ mOth 1 X X' ∧ (g = true ↔ T.2 (8 + H.1 1 + H.1 2) = pI_ck T (8 + H.1 1 + H.1 2) ∧ ∀ i, i < H.1 1 + H.1 2 → T.2 (8 + i) ≤ 9) ∧ (g = true → pO_lay H T X')) ?_ N (8 + H.1 1 + H.1 2) _ ⟨0, rfl, by omega⟩ (by omega)
  rintro r st kk ⟨j, rfl, hj⟩ hgo
  dsimp only [fX12_comesOn_l107]
  rw [e1]
  have hc := pI_ck_lt T j
  by_cases c : 8 + H.1 1 + H.1 2 ≤ j
  · have : j = 8 + H.1 1 + H.1 2 := by omega
    subst this
    have hl8 := hl (8 + H.1 1 + H.1 2) (by omega)
    rw [if_pos (nI_le c (by omega)), xs_ald (show 8 + H.1 1 + H.1 2 < 1800 by omega) (by omega), xs_bd, ht _ (by omega)]
    by_cases d : T.2 (8 + H.1 1 + H.1 2) = pI_ck T (8 + H.1 1 + H.1 2)
    · obtain ⟨X1, c1, c2, -⟩ := m_copies N hN (X := X) (to := 1) (fr := 0) (by omega) (by omega) (by omega) hk hk4
      have c1 : fX12_copies N (X 0) (X 1) (X 2) (X 3) (X 4) (X 5) (X 6) (X 7) (X 8) 1 0 = some (X1 0, X1 1, X1 2, X1 3, X1 4, X1 5, X1 6, X1 7, X1 8) := c1
      have t0 : fX12_twoAt N tF 0 = some (nI (pO_w T 0)) := m_twoAt N ht hl (by omega) (i := 0) (by omega)
      have t2 : fX12_twoAt N tF 2 = some (nI (pO_w T 2)) := m_twoAt N ht hl (by omega) (i := 2) (by omega)
      have t4 : fX12_twoAt N tF 4 = some (nI (pO_w T 4)) := m_twoAt N ht hl (by omega) (i := 4) (by omega)
      have t6 : xq_ald 1800 tF 6 = some (nI (T.2 6)) := (xs_ald (k := 6) (by omega) (by omega)).trans (by rw [ht 6 (by omega)])
      have t7 : xq_ald 1800 tF 7 = some (nI (T.2 7)) := (xs_ald (k := 7) (by omega) (by omega)).trans (by rw [ht 7 (by omega)])
      rw [if_pos (by rw [d]), c1, xs_bd]
      dsimp only
      rw [t0, xs_bd, xs_ast1 (by omega) (by omega), xs_bd, t2, xs_bd, xs_ast1 (by omega) (by omega), xs_bd, t4, xs_bd, xs_ast1 (by omega) (by omega), xs_bd, t6, xs_bd, xs_ast1 (by omega) (by omega), xs_bd, t7, xs_bd, xs_ast1 (by omega) (by omega), xs_bd, xs_ast1 (by omega) (by omega), xs_bd]
      rcases m_on226 (mM := mM) N hN hb h13 hE hP e7 p6 hT ht hl (upd (X1 0) 1 (nI (pO_w T 0))) (upd (X1 1) 1 (nI (pO_w T 2))) (upd (X1 2) 1 (nI (pO_w T 4))) (upd (X1 3) 1 (nI (T.2 6))) (upd (X1 4) 1 (nI (T.2 7))) (X1 5) (upd (X1 6) 1 0) (X1 7) (X1 8) with ⟨q1, q2⟩ | ⟨q1, s, t, q2, q3, q4, q5, q6⟩
      · rw [q2]
        exact ⟨false, m9 _ _ _ _ _ _ _ _ _, rfl, m_oth1 c2 _ _ _ _ _ _ (fun _ _ => rfl) (fun _ _ => rfl), ⟨fun z => absurd z (by decide), fun z => absurd z.2 q1⟩, fun z => absurd z (by decide)⟩
      · rw [q2]
        exact ⟨true, m9 _ _ _ _ _ _ _ _ _, rfl, m_oth1 c2 _ _ _ _ _ _ q4 q6, ⟨fun _ => ⟨d, q1⟩, fun _ => rfl⟩, fun _ => ⟨pk_us, pk_us, pk_us, pk_us, pk_us, pk_us, q3, q5⟩⟩
    · rw [if_neg (fun z => d ((nI_eq (by omega) (by omega)).mp z))]
      exact ⟨false, X, rfl, mOth.refl _ _, ⟨fun z => absurd z (by decide), fun z => absurd z.1 d⟩, fun z => absurd z (by decide)⟩
  · have hb2 := hl j (by omega)
    rw [if_neg (nI_ge (by omega) (by omega)), xs_ald (show j < 1800 by omega) (by omega), xs_bd, ht j (by omega), xs_ck hc hb2, xs_bd, nI_1]
    exact hgo _ (r - 1) (by omega) ⟨j + 1, rfl, by omega⟩
end MO2
