/-! odds in the reference -/
def m_sec (i : Nat) : Int32 := if i = 0 then -1 else nI (i - 1)
def m_oac (H : PH) (m ro ta : Nat → Nat) (e i : Nat) : Nat := if i = 0 then 0 else 10 * (100 - H.1 3) * p_nx H m ro ta e (m 4) + H.1 3 * p_cg H m ro ta e (i - 1)
theorem m_oac_s (H : PH) (m ro ta : Nat → Nat) (e i : Nat) : m_oac H m ro ta e (i + 1) = m_oac H m ro ta e i + (if i = 0 then 10 * (100 - H.1 3) else H.1 3) * p_nx H m ro ta e (if i = 0 then m 4 else i - 1) := by
  unfold m_oac
  rw [if_neg (Nat.succ_ne_zero i), Nat.add_sub_cancel]
  by_cases c : i = 0
  · subst c
    rw [if_pos rfl, if_pos rfl, if_pos rfl]
    show _ + H.1 3 * 0 = 0 + _
    omega
  · rw [if_neg c, if_neg c, if_neg c]
    obtain ⟨j, rfl⟩ : ∃ j, i = j + 1 := ⟨i - 1, by omega⟩
    rw [Nat.add_sub_cancel]
    show _ + H.1 3 * (p_cg H m ro ta e j + p_nx H m ro ta e j) = _
    rw [Nat.mul_add]; omega
theorem m_odds (N : Nat) (hN : 5000 ≤ N) {H : PH} {m ro ta : Nat → Nat} (hs : hS H m) {b k : Nat} {mmI hf ask : Nat → Int32} {stk : Nat → Int64} {X Y : Nat → Nat → Int32} (hY : mHY H b mmI Y) (hfl : mFl mmI (H.1 0)) (hL : mLay H 0 m ro ta k X) {mm_coughToldF : Nat → Int32} (hcg : mm_coughToldF b = nI (H.1 3)) (x : Int32) : ∃ X' a s, fX12_odds N mmI (Y 5) (X 0) (X 1) (X 2) (X 3) (X 4) (X 5) (X 6) (X 7) (X 8) (Y 0) ask (Y 1) stk (Y 2) (Y 3) (Y 4) (Y 6) (Y 7) hf (Y 8) mm_coughToldF x = some (qa_odds H m ro ta x, X' 0, X' 1, X' 2, X' 3, X' 4, X' 5, X' 6, X' 7, X' 8, a, s, hf) ∧ mOth 1 X X' := by
  obtain ⟨b0, b1, b2, b3⟩ := hs.b
  unfold fX12_odds qa_odds
  rw [m_isEar N hY.1 hY.2.1 hY.2.2.2.1 (by omega), xs_bd]
  cases hx : p_one_of (H.1 1) x with
  | false =>
    rw [if_pos (by rfl), if_neg (fun z => Bool.false_ne_true z.1)]
    exact ⟨X, ask, stk, rfl, mOth.refl _ _⟩
  | true =>
    rw [if_neg (by decide)]
    obtain ⟨e, rfl, he⟩ := p_one_yes hx
    have g0 : 0 < H.1 0 := by
      rcases hs with ⟨a, -⟩ | ⟨-, a, -⟩
      · have := a.1; omega
      · omega
    obtain ⟨hH, hm⟩ := hs.y g0
    have g100 := hH.2.2.2.2.2.2.2.2.2.2.2.2.2
    have e1 := m_ahead N (lo := 1) (hi := 1) (ngF := X 0) hfl hL.1 b3 (by omega) (by omega) (nI 1)
    show ∃ X' a s, xq_bd (fX12_isAhead N mmI (X 0) (nI 1) (nI 1) (nI 1)) _ = _ ∧ _
    rw [e1, xs_bd]
    have ea : p_ahead (H.1 0) (m 0) (nI 1) 1 1 = decide (m 0 < 999) := by
      unfold p_ahead
      rw [nI_toInt (by omega)]
      congr 1
      apply propext
      constructor
      · rintro ⟨-, -, -, h⟩; omega
      · intro h; exact ⟨g0, by omega, by omega, by omega⟩
    rw [ea]
    by_cases c9 : m 0 < 999
    · rw [decide_eq_true c9, if_neg (by decide), if_pos ⟨rfl, c9⟩, nI_clamp (by omega)]
      have fine : m_oac H m ro ta e 11 = H.1 3 * p_cg H m ro ta e 10 + (100 - H.1 3) * (10 * p_nx H m ro ta e (m 4)) := by
        show 10 * (100 - H.1 3) * p_nx H m ro ta e (m 4) + H.1 3 * p_cg H m ro ta e 10 = _
        rw [Nat.mul_comm 10 (100 - H.1 3), Nat.mul_assoc]; omega
      rw [← fine]
      refine xs_loopI (body := fX12_odds_l24 N mmI (Y 5) (Y 0) (Y 1) (Y 2) (Y 3) (Y 4) (Y 6) (Y 7) (Y 8) mm_coughToldF) (fun k' st => ∃ X1 a s i, st = (X1 0, X1 1, X1 2, X1 3, X1 4, X1 5, X1 6, X1 7, X1 8, a, s, hf, nI e, nI (m_oac H m ro ta e i), m_sec i) ∧ mOth 1 X X1 ∧ i + k' = 11) (fun q => ∃ X' a s, q = some (nI (m_oac H m ro ta e 11), X' 0, X' 1, X' 2, X' 3, X' 4, X' 5, X' 6, X' 7, X' 8, a, s, hf) ∧ mOth 1 X X') ?_ N 11 _ ⟨X, ask, stk, 0, rfl, mOth.refl _ _, by omega⟩ (by omega)
      rintro k' st kk ⟨X1, a, s, i, rfl, ho, hi⟩ hgo
      have hL1 := hL.oth ho (by omega) b1 b2
      show ∃ X' a s, (if (10 : Int32) ≤ m_sec i then _ else _) = _ ∧ _
      by_cases c : i < 11
      · have hsec : ¬ (10 : Int32) ≤ m_sec i := by
          unfold m_sec
          split
          · decide
          · exact nI_ge (b := 10) (by omega) (by omega)
        rw [if_neg hsec]
        obtain ⟨X2, e2, e3, e4, -⟩ := m_copyL N hN b1 b2 (show 1 < 22 by omega) (show 0 < 22 by omega) (by omega) hL1
        have hL2 := hL1.oth e3 (by omega) b1 b2
        show ∃ X' a s, xq_bd (fX12_copies N (X1 0) (X1 1) (X1 2) (X1 3) (X1 4) (X1 5) (X1 6) (X1 7) (X1 8) (nI 1) (nI 0)) _ = _ ∧ _
        rw [e2, xs_bd]
        dsimp only
        -- the hush of this turn
        have hu9 : (if i = 0 then m 4 else i - 1) ≤ 9 := by have := hm.2.2.2.2; split <;> omega
        obtain ⟨a3, s3, X3, h1, h2, h3, h4, h5, -, -⟩ := m_tickX N hN hH (hf := hf) (ask := a) (stk := s) (hu := if i = 0 then m 4 else i - 1) hY (show 1 < 22 by omega) e4 hm (by omega)
        have hbit := p_nx_lt H m ro ta e (if i = 0 then m 4 else i - 1)
        have hset : p_set H (p_move H m ta (if i = 0 then m 4 else i - 1)) ro (if i = 0 then m 4 else i - 1) < 128 := p_set_lt b1 _ _ _
        have nexts : m_sec i + 1 = m_sec (i + 1) := by
          unfold m_sec
          rw [if_neg (Nat.succ_ne_zero i), Nat.add_sub_cancel]
          by_cases q : i = 0
          · rw [if_pos q, q]; decide
          · rw [if_neg q, nI_1]; exact nI_c (by omega)
        have fin := hgo (X3 0, X3 1, X3 2, X3 3, X3 4, X3 5, X3 6, X3 7, X3 8, a3, s3, hf, nI e, nI (m_oac H m ro ta e (i + 1)), m_sec (i + 1)) (k' - 1) (by omega) ⟨X3, a3, s3, i + 1, rfl, (ho.trans e3).trans h5, by omega⟩
        have h91 : ∀ y : Nat, y = (if i = 0 then 10 * (100 - H.1 3) else H.1 3) → ∃ X' a' s', fX12_odds_b91 N mmI (Y 5) (Y 0) (Y 1) (Y 2) (Y 3) (Y 4) (Y 6) (Y 7) (Y 8) mm_coughToldF kk (X3 0, X3 1, X3 2, X3 3, X2 4, X2 5, X3 6, X2 7, X3 8, a3, s3, hf, nI e, nI (m_oac H m ro ta e i), m_sec i, nI (p_set H (p_move H m ta (if i = 0 then m 4 else i - 1)) ro (if i = 0 then m 4 else i - 1)), nI y) = some (nI (m_oac H m ro ta e 11), X' 0, X' 1, X' 2, X' 3, X' 4, X' 5, X' 6, X' 7, X' 8, a', s', hf) ∧ mOth 1 X X' := by
          intro y hy
          rw [← h2, ← h3, ← h4]
          show ∃ X' a' s', xq_bd (fX12_has2 N (nI (p_set H (p_move H m ta (if i = 0 then m 4 else i - 1)) ro (if i = 0 then m 4 else i - 1))) (nI e)) _ = _ ∧ _
          rw [m_has2 N (by omega) (by omega), xs_bd]
          have hx2 := m_oac_s H m ro ta e i
          rw [← hy] at hx2
          have hnx : p_set H (p_move H m ta (if i = 0 then m 4 else i - 1)) ro (if i = 0 then m 4 else i - 1) / 2 ^ e % 2 = p_nx H m ro ta e (if i = 0 then m 4 else i - 1) := rfl
          rw [hnx]
          by_cases cz : p_nx H m ro ta e (if i = 0 then m 4 else i - 1) = 0
          · rw [cz, if_pos (by rfl)]
            rw [cz, Nat.mul_zero, Nat.add_zero (m_oac H m ro ta e i)] at hx2
            show ∃ X' a' s', kk (_, _, _, _, _, _, _, _, _, _, _, _, _, _ + nI 0, m_sec i + 1) = _ ∧ _
            rw [nexts, nI_add, Nat.add_zero (m_oac H m ro ta e i), ← hx2]
            exact fin
          · have cz : p_nx H m ro ta e (if i = 0 then m 4 else i - 1) = 1 := by omega
            rw [cz, if_neg (by decide)]
            rw [cz, Nat.mul_one] at hx2
            show ∃ X' a' s', kk (_, _, _, _, _, _, _, _, _, _, _, _, _, _ + nI y, m_sec i + 1) = _ ∧ _
            rw [nexts, nI_add, ← hx2]
            exact fin
        have h53 : ∃ X' a' s', fX12_odds_b53 N mmI (Y 5) (Y 0) (Y 1) (Y 2) (Y 3) (Y 4) (Y 6) (Y 7) (Y 8) mm_coughToldF kk (X2 0, X2 1, X2 2, X2 3, X2 4, X2 5, X2 6, X2 7, X2 8, a, s, hf, nI e, nI (m_oac H m ro ta e i), m_sec i, nI 1, nI (if i = 0 then m 4 else i - 1)) = some (nI (m_oac H m ro ta e 11), X' 0, X' 1, X' 2, X' 3, X' 4, X' 5, X' 6, X' 7, X' 8, a', s', hf) ∧ mOth 1 X X' := by
          show ∃ X' a' s', xq_bd (fX12_ticks N mmI (X2 3) (Y 0) (X2 0) a (X2 1) (X2 2) (Y 1) s (Y 2) (Y 3) (Y 4) (Y 6) (Y 7) (X2 7) (Y 5) hf (Y 8) (X2 5) (X2 6) (X2 8) (nI 1) (nI (if i = 0 then m 4 else i - 1)) 0) _ = _ ∧ _
          rw [h1, xs_bd]
          dsimp only
          rw [hY.2.1, xs_ald hY.1 (by omega), xs_bd, xs_bd, hcg]
          by_cases q : i = 0
          · rw [if_pos (show m_sec i = -1 by unfold m_sec; rw [if_pos q])]
            have ey : (10 : Int32) * (100 - nI (H.1 3)) = nI (10 * (100 - H.1 3)) := by
              show nI 10 * (nI 100 - nI (H.1 3)) = _
              rw [pk_sub g100, pk_mul]
            rw [ey]
            exact h91 _ (by rw [if_pos q])
          · rw [if_neg (show ¬ m_sec i = -1 by unfold m_sec; rw [if_neg q]; exact nI_nm1 (by omega))]
            exact h91 _ (by rw [if_neg q])
        by_cases q : i = 0
        · rw [if_pos (show m_sec i = -1 by unfold m_sec; rw [if_pos q])]
          show ∃ X' a s, xq_bd (xq_ald 22 (X2 4) (nI 0)) _ = _ ∧ _
          rw [xs_ald (by omega) (by omega), xs_bd, hL2.2.2.2.2.1]
          rw [if_pos q] at h53
          exact h53
        · rw [if_neg (show ¬ m_sec i = -1 by unfold m_sec; rw [if_neg q]; exact nI_nm1 (by omega))]
          rw [if_neg q] at h53
          have : m_sec i = nI (i - 1) := by unfold m_sec; rw [if_neg q]
          have h53' := h53
          rw [← this] at h53'
          exact h53'
      · have : i = 11 := by omega
        subst this
        rw [if_pos (show (10 : Int32) ≤ m_sec 11 from by decide)]
        exact ⟨X1, a, s, rfl, ho⟩
    · rw [decide_eq_false c9, if_pos (by rfl), if_neg (fun z => c9 z.2)]
      exact ⟨X, ask, stk, rfl, mOth.refl _ _⟩
