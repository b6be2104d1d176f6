/-! on: the reference's call, its end -/
section MO4
variable (N : Nat) {H : PH} {T : PT} {b : Nat} {mmI mm_tapeF mm_refusedF : Nat → Int32} {X Y : Nat → Nat → Int32}
theorem pO_lay_L {H : PH} {T : PT} {X : Nat → Nat → Int32} (h : pO_lay H T X) (g : pO_ok H T) : mLay H 1 (pO_m T) (pO_ro T) (pO_ta H T) 0 X := by
  obtain ⟨a0, a1, a2, a3, a4, a6, a5, a7⟩ := h
  exact ⟨a0, a1, a2, a3, a4, fun e he => ⟨a5 e he, g.2.2.1 e he⟩, a6, by omega, fun p hp => ⟨a7 p hp, g.2.2.2.1 p hp⟩⟩
theorem m_on_no (hN : 5000 ≤ N) (hY : mHY H b mmI Y) (hfl : mFl mmI (H.1 0)) (h200 : H.1 0 ≤ 200) (e7 : H.1 1 ≤ 7) (p6 : H.1 2 ≤ 6) (h : mT T mmI mm_tapeF) (hT : T.1 ≤ 1600) (hl : pI_lt T) {k : Nat} (hk : X 6 0 = nI k) (hk4 : k ≤ 40) (hx : ¬ pO_all H T) : ∃ X', fX12_on N mmI (Y 5) (Y 6) mm_tapeF (Y 4) (X 0) (X 1) (X 2) (X 3) (X 4) (X 5) (X 6) (X 7) (X 8) mm_refusedF = some (0, va_up mmI 1 0, X' 0, X' 1, X' 2, X' 3, X' 4, X' 5, X' 6, X' 7, X' 8, upd mm_refusedF 5 (mm_refusedF 5 + 1)) ∧ mOth 1 X X' := by
  obtain ⟨g, X', q1, q2, q3, -⟩ := m_comesOn N hN (mmI := va_up mmI 1 0) (tF := mm_tapeF) (T := T) (X := X) (hY.of rfl) (show va_up mmI 1 0 43 = _ from hfl) h200 e7 p6 hT h.2 hl hk hk4
  refine ⟨X', ?_, q2⟩
  unfold fX12_on
  rw [h.1, q1, xs_bd]
  dsimp only
  cases g with
  | true => exact absurd (q3.mp rfl) hx
  | false =>
    rw [if_pos (show p_b false = 0 by rfl)]
    show xq_bd (fX12_refuses N mm_refusedF (nI 5)) _ = _
    rw [m_refuses N (by omega), xs_bd]; rfl
theorem m_on_yes (hN : 5000 ≤ N) (hY : mHY H b mmI Y) (hfl : mFl mmI (H.1 0)) (h200 : H.1 0 ≤ 200) (e7 : H.1 1 ≤ 7) (p6 : H.1 2 ≤ 6) (h : mT T mmI mm_tapeF) (hT : T.1 ≤ 1600) (hl : pI_lt T) {k : Nat} (hk : X 6 0 = nI k) (hk4 : k ≤ 40) (hx : pO_all H T) : ∃ X', fX12_on N mmI (Y 5) (Y 6) mm_tapeF (Y 4) (X 0) (X 1) (X 2) (X 3) (X 4) (X 5) (X 6) (X 7) (X 8) mm_refusedF = some (1, va_up (va_up mmI 1 0) 55 0, X' 0, X' 1, X' 2, X' 3, X' 4, X' 5, X' 6, X' 7, X' 8, mm_refusedF) ∧ mLay H 0 (pO_m T) (pO_ro T) (pO_ta H T) 0 X' := by
  obtain ⟨g, X1, q1, q2, q3, q4⟩ := m_comesOn N hN (mmI := va_up mmI 1 0) (tF := mm_tapeF) (T := T) (X := X) (hY.of rfl) (show va_up mmI 1 0 43 = _ from hfl) h200 e7 p6 hT h.2 hl hk hk4
  have hg : g = true := q3.mpr hx
  subst hg
  obtain ⟨X', c1, c2, c3, -⟩ := m_copyL N hN e7 p6 (to := 0) (fr := 1) (by omega) (by omega) (by omega) (pO_lay_L (q4 rfl) hx.2.2)
  have c1 : fX12_copies N (X1 0) (X1 1) (X1 2) (X1 3) (X1 4) (X1 5) (X1 6) (X1 7) (X1 8) 0 1 = some (X' 0, X' 1, X' 2, X' 3, X' 4, X' 5, X' 6, X' 7, X' 8) := c1
  refine ⟨X', ?_, c3⟩
  unfold fX12_on
  rw [h.1, q1, xs_bd]
  dsimp only
  rw [if_neg (show ¬ p_b true = 0 by decide), c1, xs_bd]
end MO4
