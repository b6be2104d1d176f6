/-! round, odds -/
def p_rf (H : PH) (m ta : Nat → Nat) (t : Nat) : Nat := fa_first (fun n => decide (t ≤ p_nights H ta (m 4) n m 2)) (min 60 (999 - m 0) + 1)
def qa_round (H : PH) (m ta : Nat → Nat) (x : Int32) : Int32 := if 0 < H.1 0 ∧ 0 ≤ x.toInt ∧ x.toInt ≤ 999 ∧ p_rf H m ta x.toNatClampNeg ≤ min 60 (999 - m 0) then nI (p_rf H m ta x.toNatClampNeg) else -1
theorem p_rf_is {H : PH} {m ta : Nat → Nat} {t i : Nat} (h : i ≤ p_rf H m ta t) (hi : i ≤ min 60 (999 - m 0)) (c : t ≤ p_nights H ta (m 4) i m 2) : p_rf H m ta t = i := by
  apply Nat.le_antisymm _ h
  apply Nat.le_of_not_lt
  intro z
  exact absurd c (of_decide_eq_false (fa_first_no (fun n => decide (t ≤ p_nights H ta (m 4) n m 2)) (min 60 (999 - m 0) + 1) i z))
theorem p_rf_next {H : PH} {m ta : Nat → Nat} {t i : Nat} (h : i ≤ p_rf H m ta t) (hi : i ≤ min 60 (999 - m 0)) (c : ¬ t ≤ p_nights H ta (m 4) i m 2) : i + 1 ≤ p_rf H m ta t := by
  apply Nat.lt_of_le_of_ne h
  intro z
  exact absurd (of_decide_eq_true (fa_first_yes (fun n => decide (t ≤ p_nights H ta (m 4) n m 2)) (min 60 (999 - m 0) + 1) (by show p_rf H m ta t < _; omega))) (by show ¬ t ≤ p_nights H ta (m 4) (p_rf H m ta t) m 2; rw [← z]; exact c)
theorem c_round (N : Nat) (hN : 5000 ≤ N) {H : PH} {m ro ta : Nat → Nat} (hs : hS H m) {homeI home_sharpsF home_placeMilesF home_goesF home_hearsF home_talkForF : Nat → Int32} {home_goesN home_hearsN home_talkForN : Nat} (hc : cH H homeI home_sharpsF home_placeMilesF home_goesF home_hearsF home_talkForF home_goesN home_hearsN home_talkForN) {nowI now_rowsF now_talksF : Nat → Int32} (hn : cNow H m ro ta nowI now_rowsF now_talksF) {walkI walk_rowsF walk_talksF dv_heardAheadF course_valuesF course_stackF : Nat → Int32} (x : Int32) : ∃ w r t h v s, fX11_round N homeI nowI walkI now_rowsF walk_rowsF now_talksF walk_talksF dv_heardAheadF course_valuesF home_goesF course_stackF home_talkForF home_placeMilesF home_sharpsF home_hearsF home_goesN home_talkForN home_hearsN x = some (qa_round H m ta x, w, r, t, h, v, s) := by
  obtain ⟨b0, b1, b2, b3⟩ := hs.b
  have k0 : (0 : Int32).toInt = 0 := rfl
  have k9 : (999 : Int32).toInt = 999 := rfl
  unfold fX11_round fX11_hasHouse qa_round
  rw [hc.1]
  by_cases g0 : 0 < H.1 0
  · rw [if_neg (nI_nle g0 (by omega)), xs_bd, if_neg (by decide)]
    by_cases c1 : x < 0
    · rw [if_pos c1, if_neg (fun z => by rw [fa_lt, k0] at c1; omega)]
      exact ⟨_, _, _, _, _, _, rfl⟩
    · rw [if_neg c1]
      by_cases c2 : x ≤ 999
      · rw [if_pos c2]
        obtain ⟨t, ht, rfl⟩ := nI_of2 (M := 999) (n := 999) rfl c1 c2
        obtain ⟨hH, hm⟩ := hs.y g0
        obtain ⟨w, r, tt, e2, e3, e4, e5⟩ := c_copy N (walkI := walkI) (rowsF := now_rowsF) (wrF := walk_rowsF) (talksF := now_talksF) (wtF := walk_talksF) hn.1
        rw [e2, xs_bd, hn.1 0 (by omega)]
        have em : xq_min 60 (999 - nI (m 0)) = nI (min 60 (999 - m 0)) := by
          show xq_min (nI 60) (nI 999 - nI (m 0)) = _
          rw [pk_sub b3, xs_min (by omega) (by omega)]
        dsimp only
        rw [em, nI_clamp (by omega)]
        have hle : p_rf H m ta t ≤ min 60 (999 - m 0) + 1 := fa_first_le _ _
        refine xs_loopI (body := fX11_round_l50 N homeI nowI now_rowsF now_talksF home_goesF home_talkForF home_placeMilesF home_sharpsF home_hearsF home_goesN home_talkForN home_hearsN) (fun k st => ∃ w h v s i, st = (w, r, tt, h, v, s, nI t, nI (min 60 (999 - m 0)), nI i) ∧ cM w (p_nights H ta (m 4) i m) ∧ i + k = min 60 (999 - m 0) + 1 ∧ i ≤ p_rf H m ta t) (fun q => ∃ w r t' h v s, q = some ((if 0 < H.1 0 ∧ 0 ≤ (nI t).toInt ∧ (nI t).toInt ≤ 999 ∧ p_rf H m ta t ≤ min 60 (999 - m 0) then nI (p_rf H m ta t) else -1), w, r, t', h, v, s)) ?_ N (min 60 (999 - m 0) + 1) _ ⟨_, _, _, _, 0, rfl, e3, by omega, by omega⟩ (by omega)
        rintro k st kk ⟨w1, h1, v1, s1, i, rfl, hw, hi, hl⟩ hgo
        show ∃ w r t' h v s, (if nI (min 60 (999 - m 0)) < nI i then _ else _) = _
        rw [nI_toInt (by omega)]
        by_cases c : i ≤ min 60 (999 - m 0)
        · rw [if_neg (nI_nlt c (by omega)), hw 2 (by omega)]
          have hb2 := (p_nights_ok hH (ta := ta) (hu := m 4) hm i).1.2.2.1
          by_cases c3 : t ≤ p_nights H ta (m 4) i m 2
          · rw [if_neg (nI_nlt c3 (by omega)), p_rf_is hl c c3, if_pos ⟨g0, by omega, by omega, c⟩]
            exact ⟨_, _, _, _, _, _, rfl⟩
          · rw [if_pos (nI_lt (by omega) (by omega))]
            obtain ⟨q1, q2, -, -⟩ := p_nights_ok hH (ta := ta) (hu := m 4) hm i
            obtain ⟨mo, v2, s2, e6, e7⟩ := c_pass N hN hH hc (moI := w1) (vals := v1) (stk := s1) (rowsF := r) (talksF := tt) (hF := h1) (hu := m 4) (n := 1) hw q1 (fun e he => ⟨(e4 e (by omega)).trans (hn.2.1 e he).1, (hn.2.1 e he).2⟩) (fun p hp => ⟨(e5 p (by omega)).trans (hn.2.2 p hp).1, (hn.2.2 p hp).2⟩) (by have := hm.2.2.2.2; omega) (by omega)
            show ∃ w' r t' h v s, xq_bd (fX0_passNights N h1 w1 v1 homeI home_goesF s1 _ home_talkForF home_placeMilesF _ home_sharpsF home_hearsF 60 home_goesN home_talkForN home_hearsN (w1 4) (nI 1)) _ = _
            rw [hw 4 (by omega), q2, e6, xs_bd]
            dsimp only
            rw [nI_1]
            have fin := hgo (mo, r, tt, fa_fill (fun j => nI (p_heard H ta ro (m 4) (p_nights H ta (m 4) i m) j)) h1 1, v2, s2, nI t, nI (min 60 (999 - m 0)), nI (i + 1)) (k - 1) (by omega) ⟨_, _, _, _, i + 1, rfl, e7, by omega, p_rf_next hl c c3⟩
            rw [nI_toInt (by omega)] at fin
            exact fin
        · have : i = min 60 (999 - m 0) + 1 := by omega
          rw [if_pos (nI_lt (by omega) (by omega)), if_neg (fun z => by omega)]
          exact ⟨_, _, _, _, _, _, rfl⟩
      · rw [if_neg c2, if_neg (fun z => by rw [fa_le, k9] at c2; omega)]
        exact ⟨_, _, _, _, _, _, rfl⟩
  · have : H.1 0 = 0 := by omega
    rw [this, if_pos (by decide), xs_bd, if_pos (by rfl), if_neg (fun z => by omega)]
    exact ⟨_, _, _, _, _, _, rfl⟩
theorem m_round (N : Nat) (hN : 5000 ≤ N) {H : PH} {m ro ta : Nat → Nat} (hs : hS H m) {b k : Nat} {mmI hf ask : Nat → Int32} {stk : Nat → Int64} {X Y : Nat → Nat → Int32} (hY : mHY H b mmI Y) (hfl : mFl mmI (H.1 0)) (hL : mLay H 0 m ro ta k X) (x : Int32) : ∃ X' a s, fX12_round N mmI (X 0) (X 1) (X 2) (X 3) (X 4) (X 5) (X 6) (X 7) (X 8) (Y 0) ask (Y 1) stk (Y 2) (Y 3) (Y 4) (Y 6) (Y 7) (Y 5) hf (Y 8) x = some (qa_round H m ta x, X' 0, X' 1, X' 2, X' 3, X' 4, X' 5, X' 6, X' 7, X' 8, a, s, hf) ∧ mOth 1 X X' := by
  obtain ⟨b0, b1, b2, b3⟩ := hs.b
  unfold fX12_round qa_round
  show ∃ X' a s, xq_bd (fX12_is N x (nI 0) (nI 999)) _ = _ ∧ _
  rw [m_is N (by omega) (by omega), xs_bd]
  by_cases c0 : ((0 : Nat) : Int) ≤ x.toInt ∧ x.toInt ≤ ((999 : Nat) : Int)
  · rw [decide_eq_true c0, if_neg (by decide)]
    obtain ⟨t, rfl, ht⟩ : ∃ t : Nat, x = nI t ∧ t ≤ 999 := ⟨x.toInt.toNat, by rw [fa_eq, nI_toInt (by omega)]; omega, by omega⟩
    obtain ⟨X1, e2, e3, e4, -⟩ := m_copyL N hN b1 b2 (show 1 < 22 by omega) (show 0 < 22 by omega) (by omega) hL
    show ∃ X' a s, xq_bd (fX12_copies N (X 0) (X 1) (X 2) (X 3) (X 4) (X 5) (X 6) (X 7) (X 8) (nI 1) (nI 0)) _ = _ ∧ _
    rw [e2, xs_bd, nI_toInt (by omega), nI_clamp (by omega)]
    dsimp only
    by_cases g0 : 0 < H.1 0
    · obtain ⟨hH, hm⟩ := hs.y g0
      have hle : p_rf H m ta t ≤ min 60 (999 - m 0) + 1 := fa_first_le _ _
      refine xs_loopI (body := fX12_round_l21 N mmI (Y 0) (Y 1) (Y 2) (Y 3) (Y 4) (Y 6) (Y 7) (Y 5) (Y 8)) (fun k' st => ∃ X2 a s i, st = (X2 0, X2 1, X2 2, X2 3, X2 4, X2 5, X2 6, X2 7, X2 8, a, s, hf, nI t, nI i) ∧ mOth 1 X X2 ∧ (i ≤ min 60 (999 - m 0) → ∃ k2, mLay H 1 (p_nights H ta (m 4) i m) ro ta k2 X2) ∧ i + k' = min 60 (999 - m 0) + 1 ∧ i ≤ p_rf H m ta t) (fun q => ∃ X' a s, q = some ((if 0 < H.1 0 ∧ 0 ≤ (t : Int) ∧ (t : Int) ≤ 999 ∧ p_rf H m ta t ≤ min 60 (999 - m 0) then nI (p_rf H m ta t) else -1), X' 0, X' 1, X' 2, X' 3, X' 4, X' 5, X' 6, X' 7, X' 8, a, s, hf) ∧ mOth 1 X X') ?_ N (min 60 (999 - m 0) + 1) _ ⟨X1, ask, stk, 0, rfl, e3, fun _ => ⟨_, e4⟩, by omega, by omega⟩ (by omega)
      rintro k' st kk ⟨X2, a, s, i, rfl, ho, hly, hi, hl⟩ hgo
      have hL1 := hL.oth ho (by omega) b1 b2
      have e1 := m_ahead N (lo := 0) (hi := 60) (ngF := X2 0) hfl hL1.1 b3 (by omega) (by omega) (nI i)
      show ∃ X' a s, xq_bd (fX12_isAhead N mmI (X2 0) (nI i) (nI 0) (nI 60)) _ = _ ∧ _
      rw [e1, xs_bd]
      unfold p_ahead
      rw [nI_toInt (by omega)]
      by_cases c : i ≤ min 60 (999 - m 0)
      · rw [decide_eq_true ⟨g0, by omega, by omega, by omega⟩, if_neg (by decide)]
        obtain ⟨k2, hl2⟩ := hly c
        show ∃ X' a s, xq_bd (xq_ald 22 (X2 2) (nI 1)) _ = _ ∧ _
        rw [xs_ald (by omega) (by omega), xs_bd, hl2.2.2.1]
        obtain ⟨q1, q2, q3, q4⟩ := p_nights_ok hH (ta := ta) (hu := m 4) hm i
        have hb2 := q1.2.2.1
        by_cases c3 : t ≤ p_nights H ta (m 4) i m 2
        · rw [if_neg (nI_nlt c3 (by omega)), p_rf_is hl c c3, if_pos ⟨g0, by omega, by omega, c⟩]
          exact ⟨X2, a, s, rfl, ho⟩
        · rw [if_pos (nI_lt (by omega) (by omega))]
          obtain ⟨a3, s3, X3, h1, h2, h3, h4, h5, h6, -⟩ := m_passX N hN hH (hf := hf) (ask := a) (stk := s) hY (show 1 < 22 by omega) hl2 q1
          rw [q2] at h1 h6
          show ∃ X' a' s', xq_bd (fX12_passes N mmI (X2 4) (X2 3) (Y 0) (X2 0) a (X2 1) (X2 2) (Y 1) s (Y 2) (Y 3) (Y 4) (Y 6) (Y 7) (X2 7) (Y 5) hf (Y 8) (X2 5) (X2 6) (X2 8) (nI 1)) _ = _ ∧ _
          rw [h1, xs_bd, ← h2, ← h3, ← h4, nI_1]
          exact hgo (X3 0, X3 1, X3 2, X3 3, X3 4, X3 5, X3 6, X3 7, X3 8, a3, s3, hf, nI t, nI (i + 1)) (k' - 1) (by omega) ⟨X3, a3, s3, i + 1, rfl, ho.trans h5, fun hh => ⟨_, h6 (by omega)⟩, by omega, p_rf_next hl c c3⟩
      · rw [decide_eq_false (fun z => by omega), if_pos (by rfl), if_neg (fun z => by omega)]
        exact ⟨X2, a, s, rfl, ho⟩
    · obtain ⟨M, rfl⟩ : ∃ k, N = k + 1 := ⟨N - 1, by omega⟩
      have hL1 := hL.oth e3 (by omega) b1 b2
      have e1 := m_ahead (M + 1) (lo := 0) (hi := 60) (ngF := X1 0) hfl hL1.1 b3 (by omega) (by omega) (nI 0)
      rw [xs_step]
      show ∃ X' a s, xq_bd (fX12_isAhead (M + 1) mmI (X1 0) (nI 0) (nI 0) (nI 60)) _ = _ ∧ _
      rw [e1, xs_bd]
      unfold p_ahead
      rw [decide_eq_false (fun z => g0 z.1), if_pos (by rfl), if_neg (fun z => g0 z.1)]
      exact ⟨X1, ask, stk, rfl, e3⟩
  · rw [decide_eq_false c0, if_pos (by rfl), if_neg (fun z => c0 ⟨z.2.1, z.2.2.1⟩)]
    exact ⟨X, ask, stk, rfl, mOth.refl _ _⟩
/-- one EAR among the bits -/
theorem p_bits_at (H : PH) (ng hu mi : Nat) (rows : Nat → Nat) : ∀ (n e : Nat), e < n → p_bits H ng hu mi rows n / 2 ^ e % 2 = if p_hear H ng hu (H.2.1 1 e) (rows e) (p_far H mi) = true then 1 else 0
  | 0, e, h => absurd h (Nat.not_lt_zero _)
  | n + 1, e, h => by
    have hb := p_bits_lt H ng hu mi rows n
    show (p_bits H ng hu mi rows n + if p_hear H ng hu (H.2.1 1 n) (rows n) (p_far H mi) = true then 2 ^ n else 0) / 2 ^ e % 2 = _
    by_cases c : e = n
    · subst c
      split
      · rw [Nat.add_div_right _ (Nat.two_pow_pos e), Nat.div_eq_of_lt hb]
      · rw [Nat.add_zero, Nat.div_eq_of_lt hb]
    · have ih := p_bits_at H ng hu mi rows n e (by omega)
      split
      · obtain ⟨d, hd⟩ : ∃ d, n = e + (d + 1) := ⟨n - e - 1, by omega⟩
        rw [← ih]
        have e1 : 2 ^ n = 2 ^ e * (2 * 2 ^ d) := by rw [hd, Nat.pow_add, Nat.pow_succ, Nat.mul_comm (2 ^ d) 2]
        rw [e1, Nat.add_mul_div_left _ _ (Nat.two_pow_pos e), Nat.add_mul_mod_self_left]
      · rw [Nat.add_zero]; exact ih
def p_bit (b : Bool) : Nat := if b = true then 1 else 0
theorem p_set_at {H : PH} {e : Nat} (h : e < H.1 1) (m rows : Nat → Nat) (hu : Nat) : p_set H m rows hu / 2 ^ e % 2 = p_bit (p_hear H (m 0) hu (H.2.1 1 e) (rows e) (p_far H (m 1))) := p_bits_at H (m 0) hu (m 1) rows (H.1 1) e h
/-- does an EAR hear in the next NIGHT with that hush -/
def p_nx (H : PH) (m ro ta : Nat → Nat) (e h : Nat) : Nat := p_set H (p_move H m ta h) ro h / 2 ^ e % 2
def p_cg (H : PH) (m ro ta : Nat → Nat) (e : Nat) : Nat → Nat
  | 0 => 0
  | n + 1 => p_cg H m ro ta e n + p_nx H m ro ta e n
theorem p_nx_lt (H : PH) (m ro ta : Nat → Nat) (e h : Nat) : p_nx H m ro ta e h < 2 := Nat.mod_lt _ (by omega)
theorem p_cg_le (H : PH) (m ro ta : Nat → Nat) (e : Nat) : ∀ n, p_cg H m ro ta e n ≤ n
  | 0 => Nat.le_refl _
  | n + 1 => by
    have := p_cg_le H m ro ta e n
    have h := p_nx_lt H m ro ta e n
    show p_cg H m ro ta e n + p_nx H m ro ta e n ≤ n + 1
    omega
def qa_odds (H : PH) (m ro ta : Nat → Nat) (x : Int32) : Int32 := if p_one_of (H.1 1) x = true ∧ m 0 < 999 then nI (H.1 3 * p_cg H m ro ta x.toNatClampNeg 10 + (100 - H.1 3) * (10 * p_nx H m ro ta x.toNatClampNeg (m 4))) else -1
theorem c_next (N : Nat) (hN : 5000 ≤ N) {H : PH} {m ro ta : Nat → Nat} (hH : ph_ok H) (hm : p_mok H m) {homeI home_sharpsF home_placeMilesF home_goesF home_hearsF home_talkForF : Nat → Int32} {home_goesN home_hearsN home_talkForN : Nat} (hc : cH H homeI home_sharpsF home_placeMilesF home_goesF home_hearsF home_talkForF home_goesN home_hearsN home_talkForN) {nowI now_rowsF now_talksF : Nat → Int32} (hn : cNow H m ro ta nowI now_rowsF now_talksF) {walkI walk_rowsF walk_talksF course_valuesF course_stackF : Nat → Int32} {e hu : Nat} (he : e < H.1 1) (hh : hu ≤ 9) : ∃ w r t v s, fX11_hearsNext N nowI walkI now_rowsF walk_rowsF now_talksF walk_talksF course_valuesF homeI home_goesF course_stackF home_talkForF home_placeMilesF home_sharpsF home_hearsF home_goesN home_talkForN home_hearsN (nI e) (nI hu) = some (nI (p_nx H m ro ta e hu), w, r, t, v, s) := by
  have g7 := hH.2.2.1
  have g6 := hH.2.2.2.1
  obtain ⟨w, r, t, e2, e3, e4, e5⟩ := c_copy N (walkI := walkI) (rowsF := now_rowsF) (wrF := walk_rowsF) (talksF := now_talksF) (wtF := walk_talksF) hn.1
  unfold fX11_hearsNext
  rw [e2, xs_bd]
  dsimp only
  obtain ⟨mo, v1, s1, e6, e7⟩ := c_move N hN hH hc (moI := w) (vals := course_valuesF) (stk := course_stackF) (talksF := t) (hu := hu) e3 hm (fun p hp => ⟨(e5 p (by omega)).trans (hn.2.2 p hp).1, (hn.2.2 p hp).2⟩) (by omega)
  obtain ⟨k1, k2, k3, k4⟩ := p_move_ok (ta := ta) (hu := hu) hH hm
  rw [e6, xs_bd]
  dsimp only
  rw [xs_ald (show e < 7 by omega) (by omega), xs_bd, e4 e (by omega), (hn.2.1 e he).1]
  obtain ⟨v2, s2, e8⟩ := c_hears N hN hH (vals := v1) (stk := s1) (hu := hu) (row := ro e) hc.2.2.2.2.2.2.1 hc.1 (hc.2.2.2.2.1 e he) he (e7 0 (by omega)) (e7 1 (by omega)) (by have := k1.1; omega) (by have := k1.2.1; omega) (by have := (hn.2.1 e he).2; omega) (by omega)
  rw [e8, xs_bd]
  dsimp only
  have e9 : p_b (p_hear H (p_move H m ta hu 0) hu (H.2.1 1 e) (ro e) (p_far H (p_move H m ta hu 1))) = nI (p_nx H m ro ta e hu) := by
    unfold p_nx
    rw [p_set_at he]
    unfold p_b p_bit
    cases p_hear H (p_move H m ta hu 0) hu (H.2.1 1 e) (ro e) (p_far H (p_move H m ta hu 1)) <;> rfl
  rw [e9]
  have e10 : xq_zb (nI (p_nx H m ro ta e hu)) = some (nI (p_nx H m ro ta e hu)) := by
    have := p_nx_lt H m ro ta e hu
    unfold xq_zb
    rw [if_pos]
    have : p_nx H m ro ta e hu = 0 ∨ p_nx H m ro ta e hu = 1 := by omega
    rcases this with q | q
    · rw [q]; exact Or.inl rfl
    · rw [q]; exact Or.inr rfl
  rw [e10, xs_bd]
  exact ⟨_, _, _, _, _, rfl⟩
theorem c_odds (N : Nat) (hN : 5000 ≤ N) {H : PH} {m ro ta : Nat → Nat} (hs : hS H m) {homeI home_sharpsF home_placeMilesF home_goesF home_hearsF home_talkForF : Nat → Int32} {home_goesN home_hearsN home_talkForN : Nat} (hc : cH H homeI home_sharpsF home_placeMilesF home_goesF home_hearsF home_talkForF home_goesN home_hearsN home_talkForN) (hc4 : homeI 4 = nI (H.1 3)) {nowI now_rowsF now_talksF : Nat → Int32} (hn : cNow H m ro ta nowI now_rowsF now_talksF) {walkI walk_rowsF walk_talksF course_valuesF course_stackF : Nat → Int32} (x : Int32) : ∃ w r t v s, fX11_odds N homeI nowI walkI now_rowsF walk_rowsF now_talksF walk_talksF course_valuesF home_goesF course_stackF home_talkForF home_placeMilesF home_sharpsF home_hearsF home_goesN home_talkForN home_hearsN x = some (qa_odds H m ro ta x, w, r, t, v, s) := by
  obtain ⟨b0, b1, b2, b3⟩ := hs.b
  unfold fX11_odds qa_odds
  rw [c_isEar N hc.2.1 (by omega), xs_bd]
  cases hx : p_one_of (H.1 1) x with
  | false =>
    rw [if_pos (by rfl), if_neg (fun z => Bool.false_ne_true z.1)]
    exact ⟨_, _, _, _, _, rfl⟩
  | true =>
    rw [if_neg (by decide), hn.1 0 (by omega)]
    obtain ⟨e, rfl, he⟩ := p_one_yes hx
    have g0 : 0 < H.1 0 := by
      rcases hs with ⟨a, -⟩ | ⟨-, a, -⟩
      · have := a.1; omega
      · omega
    obtain ⟨hH, hm⟩ := hs.y g0
    have g100 := hH.2.2.2.2.2.2.2.2.2.2.2.2.2
    by_cases c9 : m 0 < 999
    · rw [if_pos (show nI (m 0) < (999 : Int32) from nI_lt (b := 999) c9 (by omega)), if_pos ⟨rfl, c9⟩, nI_clamp (by omega)]
      refine xs_loopI (body := fX11_odds_l27 N homeI nowI now_rowsF now_talksF home_goesF home_talkForF home_placeMilesF home_sharpsF home_hearsF home_goesN home_talkForN home_hearsN) (fun k st => ∃ w r t v s i, st = (w, r, t, v, s, nI e, nI (p_cg H m ro ta e i), nI i) ∧ i + k = 10) (fun q => ∃ w r t v s, q = some (nI (H.1 3 * p_cg H m ro ta e 10 + (100 - H.1 3) * (10 * p_nx H m ro ta e (m 4))), w, r, t, v, s)) ?_ N 10 _ ⟨_, _, _, _, _, 0, rfl, by omega⟩ (by omega)
      rintro k st kk ⟨w, r, t, v, s, i, rfl, hi⟩ hgo
      show ∃ w r t v s, (if (10 : Int32) ≤ nI i then _ else _) = _
      by_cases c : i < 10
      · rw [if_neg (show ¬ (10 : Int32) ≤ nI i from nI_ge (b := 10) c (by omega))]
        obtain ⟨w2, r2, t2, v2, s2, e2⟩ := c_next N hN hH hm hc hn (walkI := w) (walk_rowsF := r) (walk_talksF := t) (course_valuesF := v) (course_stackF := s) (hu := i) he (by omega)
        rw [e2, xs_bd]
        dsimp only
        have hb := p_nx_lt H m ro ta e i
        have hq := p_cg_le H m ro ta e i
        have fin := hgo (w2, r2, t2, v2, s2, nI e, nI (p_cg H m ro ta e (i + 1)), nI (i + 1)) (k - 1) (by omega) ⟨_, _, _, _, _, i + 1, rfl, by omega⟩
        have hx2 : p_cg H m ro ta e (i + 1) = p_cg H m ro ta e i + p_nx H m ro ta e i := rfl
        by_cases cz : p_nx H m ro ta e i = 0
        · rw [cz, if_pos (by rfl)]
          rw [hx2, cz, Nat.add_zero (p_cg H m ro ta e i), ← nI_1 i] at fin
          exact fin
        · have cz : p_nx H m ro ta e i = 1 := by omega
          rw [cz, if_neg (by decide)]
          rw [hx2, cz, ← nI_1 i, ← nI_1 (p_cg H m ro ta e i)] at fin
          exact fin
      · have : i = 10 := by omega
        subst this
        rw [if_pos (show (10 : Int32) ≤ nI 10 from by decide), hn.1 4 (by omega)]
        obtain ⟨w2, r2, t2, v2, s2, e2⟩ := c_next N hN hH hm hc hn (walkI := w) (walk_rowsF := r) (walk_talksF := t) (course_valuesF := v) (course_stackF := s) (hu := m 4) he (by have := hm.2.2.2.2; omega)
        rw [e2, xs_bd]
        dsimp only
        have hb := p_nx_lt H m ro ta e (m 4)
        have hq := p_cg_le H m ro ta e 10
        have val : ∀ y : Nat, (homeI 4 * nI (p_cg H m ro ta e 10) + (100 - homeI 4) * nI y) = nI (H.1 3 * p_cg H m ro ta e 10 + (100 - H.1 3) * y) := fun y => by
          rw [hc4]
          show nI (H.1 3) * nI (p_cg H m ro ta e 10) + (nI 100 - nI (H.1 3)) * nI y = _
          rw [pk_mul, pk_sub (by omega), pk_mul, nI_add]
        by_cases cz : p_nx H m ro ta e (m 4) = 0
        · rw [cz, if_pos (by rfl)]
          refine ⟨w2, r2, t2, v2, s2, ?_⟩
          show some (homeI 4 * nI (p_cg H m ro ta e 10) + (100 - homeI 4) * nI 0, w2, r2, t2, v2, s2) = _
          rw [val]
        · have cz : p_nx H m ro ta e (m 4) = 1 := by omega
          rw [cz, if_neg (by decide)]
          refine ⟨w2, r2, t2, v2, s2, ?_⟩
          show some (homeI 4 * nI (p_cg H m ro ta e 10) + (100 - homeI 4) * nI 10, w2, r2, t2, v2, s2) = _
          rw [val]
    · rw [if_neg (show ¬ nI (m 0) < (999 : Int32) from nI_nlt (b := 999) (by omega) (by omega)), if_neg (fun z => c9 z.2)]
      exact ⟨_, _, _, _, _, rfl⟩
