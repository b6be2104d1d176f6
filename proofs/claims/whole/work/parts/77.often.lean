/-! often, quiet, round -/
theorem m_times (N : Nat) (hN : 5000 ≤ N) {H : PH} (hH : ph_ok H) {b k n e : Nat} {mmI hf ask : Nat → Int32} {stk : Nat → Int64} {X Y : Nat → Nat → Int32} {m ro ta : Nat → Nat} (hY : mHY H b mmI Y) (hL : mLay H 1 m ro ta k X) (hm : p_mok H m) (h9 : m 0 + n ≤ 999) (he : e < 31) :
    ∃ a' s' X' k', fX12_timesHeard N mmI (X 4) (X 3) (Y 0) (X 0) ask (X 1) (X 2) (Y 1) stk (Y 2) (Y 3) (Y 4) (Y 6) (Y 7) (X 7) (Y 5) hf (Y 8) (X 5) (X 6) (X 8) (nI e) (nI n) = some (nI (p_times (p_heard H ta ro (m 4) m) e n), X' 3, X' 0, a', X' 1, X' 2, s', hf, X' 6, X' 8) ∧ X' 4 = X 4 ∧ X' 5 = X 5 ∧ X' 7 = X 7 ∧ mOth 1 X X' ∧ mLay H 1 (p_nights H ta (m 4) n m) ro ta k' X' := by
  refine xs_loopI (body := fX12_timesHeard_l5 N mmI (X 4) (Y 0) (Y 1) (Y 2) (Y 3) (Y 4) (Y 6) (Y 7) (X 7) (Y 5) (Y 8) (X 5)) (fun r st => ∃ i a s k' X1, st = (X1 3, X1 0, a, X1 1, X1 2, s, hf, X1 6, X1 8, nI e, nI n, nI (p_times (p_heard H ta ro (m 4) m) e i), nI i) ∧ i + r = n ∧ X1 4 = X 4 ∧ X1 5 = X 5 ∧ X1 7 = X 7 ∧ mOth 1 X X1 ∧ mLay H 1 (p_nights H ta (m 4) i m) ro ta k' X1) (fun r => ∃ a' s' X' k', r = some (nI (p_times (p_heard H ta ro (m 4) m) e n), X' 3, X' 0, a', X' 1, X' 2, s', hf, X' 6, X' 8) ∧ X' 4 = X 4 ∧ X' 5 = X 5 ∧ X' 7 = X 7 ∧ mOth 1 X X' ∧ mLay H 1 (p_nights H ta (m 4) n m) ro ta k' X') ?_ N n _ ⟨0, ask, stk, k, X, rfl, by omega, rfl, rfl, rfl, mOth.refl _ _, hL⟩ (by omega)
  rintro r st kk ⟨i, a, s, k', X1, rfl, hi, g4, g5, g7, go, gl⟩ hgo
  show ∃ a' s' X' k', (if nI n ≤ nI i then _ else _) = some _ ∧ _
  by_cases c : n ≤ i
  · have : i = n := by omega
    subst this
    rw [if_pos (nI_le (Nat.le_refl _) (by omega))]
    exact ⟨a, s, X1, k', rfl, g4, g5, g7, go, gl⟩
  · obtain ⟨p1, p2, p3, p4⟩ := p_nights_ok hH (ta := ta) (hu := m 4) hm i
    obtain ⟨a2, s2, X2, e1, e2, e3, e4, e5, e6, e7⟩ := m_passX N hN hH (hf := hf) (ask := a) (stk := s) hY (by omega) gl p1
    have e6 := e6 (by omega)
    rw [p2] at e1 e6
    rw [if_neg (nI_ge (by omega) (by omega)), ← g4, ← g5, ← g7]
    show ∃ a' s' X' k', xq_bd (fX12_passes N mmI (X1 4) (X1 3) (Y 0) (X1 0) a (X1 1) (X1 2) (Y 1) s (Y 2) (Y 3) (Y 4) (Y 6) (Y 7) (X1 7) (Y 5) hf (Y 8) (X1 5) (X1 6) (X1 8) (nI 1)) _ = _ ∧ _
    rw [e1, xs_bd]
    have hb : p_set H (p_move H (p_nights H ta (m 4) i m) ta (m 4)) ro (m 4) < 128 := p_set_lt hH.2.2.1 _ _ _
    show ∃ a' s' X' k', xq_bd (fX12_has2 N (nI (p_set H (p_move H (p_nights H ta (m 4) i m) ta (m 4)) ro (m 4))) (nI e)) _ = _ ∧ _
    rw [m_has2 N (by omega) he, xs_bd]
    have hx : p_times (p_heard H ta ro (m 4) m) e (i + 1) = p_times (p_heard H ta ro (m 4) m) e i + p_set H (p_move H (p_nights H ta (m 4) i m) ta (m 4)) ro (m 4) / 2 ^ e % 2 := rfl
    have hq : p_set H (p_move H (p_nights H ta (m 4) i m) ta (m 4)) ro (m 4) / 2 ^ e % 2 < 2 := Nat.mod_lt _ (by omega)
    have fin := hgo (X2 3, X2 0, a2, X2 1, X2 2, s2, hf, X2 6, X2 8, nI e, nI n, nI (p_times (p_heard H ta ro (m 4) m) e (i + 1)), nI (i + 1)) (r - 1) (by omega) ⟨i + 1, a2, s2, _, X2, rfl, by omega, e2.trans g4, e3.trans g5, e4.trans g7, go.trans e5, e6⟩
    rw [g4, g5, g7]
    by_cases cz : p_set H (p_move H (p_nights H ta (m 4) i m) ta (m 4)) ro (m 4) / 2 ^ e % 2 = 0
    · rw [cz, if_pos (by rfl)]
      rw [hx, cz, Nat.add_zero (p_times (p_heard H ta ro (m 4) m) e i)] at fin
      show ∃ a' s' X' k', kk (_, _, _, _, _, _, _, _, _, _, _, _ + nI 0, nI i + 1) = _ ∧ _
      rw [nI_1, nI_add, Nat.add_zero (p_times (p_heard H ta ro (m 4) m) e i)]
      exact fin
    · have cz : p_set H (p_move H (p_nights H ta (m 4) i m) ta (m 4)) ro (m 4) / 2 ^ e % 2 = 1 := by omega
      rw [cz, if_neg (by decide)]
      rw [hx, cz] at fin
      show ∃ a' s' X' k', kk (_, _, _, _, _, _, _, _, _, _, _, _ + nI 1, nI i + 1) = _ ∧ _
      rw [nI_1, nI_add]
      exact fin
def qa_often (H : PH) (m ro ta : Nat → Nat) (x y : Int32) : Int32 := if p_one_of (H.1 1) x = true ∧ p_ahead (H.1 0) (m 0) y 0 60 = true then nI (p_times (p_heard H ta ro (m 4) m) x.toNatClampNeg y.toNatClampNeg) else -1
theorem c_often (N : Nat) (hN : 5000 ≤ N) {H : PH} {m ro ta : Nat → Nat} (hs : hS H m) {homeI home_sharpsF home_placeMilesF home_goesF home_hearsF home_talkForF : Nat → Int32} {home_goesN home_hearsN home_talkForN : Nat} (hc : cH H homeI home_sharpsF home_placeMilesF home_goesF home_hearsF home_talkForF home_goesN home_hearsN home_talkForN) {nowI now_rowsF now_talksF : Nat → Int32} (hn : cNow H m ro ta nowI now_rowsF now_talksF) {walkI walk_rowsF walk_talksF dv_heardAheadF course_valuesF course_stackF : Nat → Int32} (x y : Int32) : ∃ w r t h v s, fX11_often N homeI nowI walkI now_rowsF walk_rowsF now_talksF walk_talksF dv_heardAheadF course_valuesF home_goesF course_stackF home_talkForF home_placeMilesF home_sharpsF home_hearsF home_goesN home_talkForN home_hearsN x y = some (qa_often H m ro ta x y, w, r, t, h, v, s) := by
  obtain ⟨b0, b1, b2, b3⟩ := hs.b
  unfold fX11_often qa_often
  rw [c_isEar N hc.2.1 (by omega), xs_bd]
  cases hx : p_one_of (H.1 1) x with
  | false =>
    rw [if_pos (by rfl), if_neg (fun z => Bool.false_ne_true z.1)]
    exact ⟨_, _, _, _, _, _, rfl⟩
  | true =>
    rw [if_neg (by decide)]
    have e1 := c_comes N (lo := 0) (hi := 60) hc.1 (hn.1 0 (by omega)) b0 b3 (by omega) (by omega) y
    show ∃ w r t h v s, xq_bd (fX11_comes N homeI nowI y (nI 0) (nI 60)) _ = _
    rw [e1, xs_bd]
    cases ha : p_ahead (H.1 0) (m 0) y 0 60 with
    | false =>
      rw [if_pos (by rfl), if_neg (fun z => Bool.false_ne_true z.2)]
      exact ⟨_, _, _, _, _, _, rfl⟩
    | true =>
      obtain ⟨e, rfl, he⟩ := p_one_yes hx
      obtain ⟨g0, n, rfl, -, g1, g2⟩ := p_ahead_yes ha
      obtain ⟨hH, hm⟩ := hs.y g0
      obtain ⟨w, r, t, e2, e3, e4, e5⟩ := c_copy N (walkI := walkI) (rowsF := now_rowsF) (wrF := walk_rowsF) (talksF := now_talksF) (wtF := walk_talksF) hn.1
      rw [if_neg (by decide), e2, xs_bd]
      obtain ⟨mo, v, s, e6, e7⟩ := c_pass N hN hH hc (moI := w) (vals := course_valuesF) (stk := course_stackF) (rowsF := r) (talksF := t) (hF := dv_heardAheadF) (hu := m 4) (n := n) e3 hm (fun e he => ⟨(e4 e (by omega)).trans (hn.2.1 e he).1, (hn.2.1 e he).2⟩) (fun p hp => ⟨(e5 p (by omega)).trans (hn.2.2 p hp).1, (hn.2.2 p hp).2⟩) (by have := hm.2.2.2.2; omega) g1
      show ∃ w' r t h v s, xq_bd (fX0_passNights N dv_heardAheadF w course_valuesF homeI home_goesF course_stackF _ home_talkForF home_placeMilesF _ home_sharpsF home_hearsF 60 home_goesN home_talkForN home_hearsN (w 4) (nI n)) _ = _
      rw [e3 4 (by omega), e6, xs_bd, nI_clamp (by omega), nI_clamp (by omega), if_pos ⟨rfl, rfl⟩]
      have e8 := c_times N hN (hF := fa_fill (fun i => nI (p_heard H ta ro (m 4) m i)) dv_heardAheadF n) (f := p_heard H ta ro (m 4) m) (e := e) g1 (by omega) (fun i hi => ⟨fa_fill_in hi, by have := p_set_lt hH.2.2.1 (p_move H (p_nights H ta (m 4) i m) ta (m 4)) ro (m 4); unfold p_heard; omega⟩)
      show ∃ w' r t h v s, xq_bd (fX11_timesHeard N _ (nI e) (nI n)) _ = _
      rw [e8, xs_bd]
      exact ⟨_, _, _, _, _, _, rfl⟩
theorem m_often (N : Nat) (hN : 5000 ≤ N) {H : PH} {m ro ta : Nat → Nat} (hs : hS H m) {b k : Nat} {mmI hf ask : Nat → Int32} {stk : Nat → Int64} {X Y : Nat → Nat → Int32} (hY : mHY H b mmI Y) (hfl : mFl mmI (H.1 0)) (hL : mLay H 0 m ro ta k X) (x y : Int32) : ∃ X' a s, fX12_often N mmI (Y 5) (X 0) (X 1) (X 2) (X 3) (X 4) (X 5) (X 6) (X 7) (X 8) (Y 0) ask (Y 1) stk (Y 2) (Y 3) (Y 4) (Y 6) (Y 7) hf (Y 8) x y = some (qa_often H m ro ta x y, X' 0, X' 1, X' 2, X' 3, X' 4, X' 5, X' 6, X' 7, X' 8, a, s, hf) ∧ mOth 1 X X' := by
  obtain ⟨b0, b1, b2, b3⟩ := hs.b
  unfold fX12_often qa_often
  rw [m_isEar N hY.1 hY.2.1 hY.2.2.2.1 (by omega), xs_bd]
  cases hx : p_one_of (H.1 1) x with
  | false =>
    rw [if_pos (by rfl), if_neg (fun z => Bool.false_ne_true z.1)]
    exact ⟨X, ask, stk, rfl, mOth.refl _ _⟩
  | true =>
    rw [if_neg (by decide)]
    have e1 := m_ahead N (lo := 0) (hi := 60) (ngF := X 0) hfl hL.1 b3 (by omega) (by omega) y
    show ∃ X' a s, xq_bd (fX12_isAhead N mmI (X 0) y (nI 0) (nI 60)) _ = _ ∧ _
    rw [e1, xs_bd]
    cases ha : p_ahead (H.1 0) (m 0) y 0 60 with
    | false =>
      rw [if_pos (by rfl), if_neg (fun z => Bool.false_ne_true z.2)]
      exact ⟨X, ask, stk, rfl, mOth.refl _ _⟩
    | true =>
      obtain ⟨e, rfl, he⟩ := p_one_yes hx
      obtain ⟨g0, n, rfl, -, g1, g2⟩ := p_ahead_yes ha
      obtain ⟨hH, hm⟩ := hs.y g0
      rw [if_neg (by decide)]
      obtain ⟨X1, e2, e3, e4, -⟩ := m_copyL N hN b1 b2 (show 1 < 22 by omega) (show 0 < 22 by omega) (by omega) hL
      show ∃ X' a s, xq_bd (fX12_copies N (X 0) (X 1) (X 2) (X 3) (X 4) (X 5) (X 6) (X 7) (X 8) (nI 1) (nI 0)) _ = _ ∧ _
      rw [e2, xs_bd]
      obtain ⟨a, s, X2, k2, f1, f2, f3, f4, f5, f6⟩ := m_times N hN hH (hf := hf) (ask := ask) (stk := stk) (n := n) (e := e) hY e4 hm (by omega) (by omega)
      show ∃ X' a s, xq_bd (fX12_timesHeard N mmI (X1 4) (X1 3) (Y 0) (X1 0) ask (X1 1) (X1 2) (Y 1) stk (Y 2) (Y 3) (Y 4) (Y 6) (Y 7) (X1 7) (Y 5) hf (Y 8) (X1 5) (X1 6) (X1 8) (nI e) (nI n)) _ = _ ∧ _
      rw [f1, xs_bd, ← f2, ← f3, ← f4, nI_clamp (by omega), nI_clamp (by omega), if_pos ⟨rfl, rfl⟩]
      exact ⟨X2, a, s, rfl, e3.trans f5⟩
/-- how often an EAR hears with another hush -/
def p_qt (H : PH) (m ro ta : Nat → Nat) (e n h : Nat) : Nat := p_times (p_heard H ta ro h (va_up m 4 h)) e n
def p_qf (H : PH) (m ro ta : Nat → Nat) (e n : Nat) : Nat := fa_first (fun h => decide (0 < p_qt H m ro ta e n h)) 10
def qa_quiet (H : PH) (m ro ta : Nat → Nat) (x y : Int32) : Int32 := if p_one_of (H.1 1) x = true ∧ p_ahead (H.1 0) (m 0) y 1 40 = true then (if p_qf H m ro ta x.toNatClampNeg y.toNatClampNeg < 10 then nI (p_qf H m ro ta x.toNatClampNeg y.toNatClampNeg) else -1) else -1
theorem p_mok_hush {H : PH} {m : Nat → Nat} (h : p_mok H m) {x : Nat} (hx : x ≤ 9) : p_mok H (va_up m 4 x) := ⟨h.1, h.2.1, h.2.2.1, h.2.2.2.1, hx⟩
theorem c_quiet (N : Nat) (hN : 5000 ≤ N) {H : PH} {m ro ta : Nat → Nat} (hs : hS H m) {homeI home_sharpsF home_placeMilesF home_goesF home_hearsF home_talkForF : Nat → Int32} {home_goesN home_hearsN home_talkForN : Nat} (hc : cH H homeI home_sharpsF home_placeMilesF home_goesF home_hearsF home_talkForF home_goesN home_hearsN home_talkForN) {nowI now_rowsF now_talksF : Nat → Int32} (hn : cNow H m ro ta nowI now_rowsF now_talksF) {walkI walk_rowsF walk_talksF dv_heardAheadF course_valuesF course_stackF : Nat → Int32} (x y : Int32) : ∃ w r t h v s, fX11_quiet N homeI nowI walkI now_rowsF walk_rowsF now_talksF walk_talksF dv_heardAheadF course_valuesF home_goesF course_stackF home_talkForF home_placeMilesF home_sharpsF home_hearsF home_goesN home_talkForN home_hearsN x y = some (qa_quiet H m ro ta x y, w, r, t, h, v, s) := by
  obtain ⟨b0, b1, b2, b3⟩ := hs.b
  unfold fX11_quiet qa_quiet
  rw [c_isEar N hc.2.1 (by omega), xs_bd]
  cases hx : p_one_of (H.1 1) x with
  | false =>
    rw [if_pos (by rfl), if_neg (fun z => Bool.false_ne_true z.1)]
    exact ⟨_, _, _, _, _, _, rfl⟩
  | true =>
    rw [if_neg (by decide)]
    have e1 := c_comes N (lo := 1) (hi := 40) hc.1 (hn.1 0 (by omega)) b0 b3 (by omega) (by omega) y
    show ∃ w r t h v s, xq_bd (fX11_comes N homeI nowI y (nI 1) (nI 40)) _ = _
    rw [e1, xs_bd]
    cases ha : p_ahead (H.1 0) (m 0) y 1 40 with
    | false =>
      rw [if_pos (by rfl), if_neg (fun z => Bool.false_ne_true z.2)]
      exact ⟨_, _, _, _, _, _, rfl⟩
    | true =>
      obtain ⟨e, rfl, he⟩ := p_one_yes hx
      obtain ⟨g0, n, rfl, -, g1, g2⟩ := p_ahead_yes ha
      obtain ⟨hH, hm⟩ := hs.y g0
      rw [if_neg (by decide), nI_clamp (by omega), nI_clamp (by omega), if_pos ⟨rfl, rfl⟩]
      have hle : p_qf H m ro ta e n ≤ 10 := fa_first_le _ _
      refine xs_loopI (body := fX11_quiet_l23 N homeI nowI now_rowsF now_talksF home_goesF home_talkForF home_placeMilesF home_sharpsF home_hearsF home_goesN home_talkForN home_hearsN) (fun k st => ∃ w r t h v s i, st = (w, r, t, h, v, s, nI e, nI n, nI i) ∧ i + k = 10 ∧ i ≤ p_qf H m ro ta e n) (fun r => ∃ w r' t h v s, r = some ((if p_qf H m ro ta e n < 10 then nI (p_qf H m ro ta e n) else -1), w, r', t, h, v, s)) ?_ N 10 _ ⟨_, _, _, _, _, _, 0, rfl, by omega, by omega⟩ (by omega)
      rintro k st kk ⟨w0, r0, t0, h0, v0, s0, i, rfl, hi, hle2⟩ hgo
      show ∃ w r t h v s, (if (9 : Int32) < nI i then _ else _) = _
      by_cases c : i < 10
      · rw [if_neg (show ¬ (9 : Int32) < _ from nI_nlt (a := 9) (by omega) (by omega))]
        obtain ⟨w, r, t, e2, e3, e4, e5⟩ := c_copy N (walkI := w0) (rowsF := now_rowsF) (wrF := r0) (talksF := now_talksF) (wtF := t0) hn.1
        rw [e2, xs_bd]
        obtain ⟨mo, v, s, e6, e7⟩ := c_pass N hN hH hc (moI := va_up w 4 (nI i)) (vals := v0) (stk := s0) (rowsF := r) (talksF := t) (hF := h0) (hu := i) (n := n) (cM_up e3 4 i) (p_mok_hush hm (by omega)) (fun e he => ⟨(e4 e (by omega)).trans (hn.2.1 e he).1, (hn.2.1 e he).2⟩) (fun p hp => ⟨(e5 p (by omega)).trans (hn.2.2 p hp).1, (hn.2.2 p hp).2⟩) (by omega) (by omega)
        show ∃ w' r' t' h v s, xq_bd (fX0_passNights N h0 (va_up w 4 (nI i)) v0 homeI home_goesF s0 t home_talkForF home_placeMilesF r home_sharpsF home_hearsF 60 home_goesN home_talkForN home_hearsN (nI i) (nI n)) _ = _
        rw [e6, xs_bd]
        have e8 := c_times N hN (hF := fa_fill (fun j => nI (p_heard H ta ro i (va_up m 4 i) j)) h0 n) (f := p_heard H ta ro i (va_up m 4 i)) (e := e) (n := n) (by omega) (by omega) (fun j hj => ⟨fa_fill_in hj, by have := p_set_lt hH.2.2.1 (p_move H (p_nights H ta i j (va_up m 4 i)) ta i) ro i; unfold p_heard; omega⟩)
        show ∃ w' r' t' h v s, xq_bd (fX11_timesHeard N _ (nI e) (nI n)) _ = _
        rw [e8, xs_bd]
        have hb := p_times_le (p_heard H ta ro i (va_up m 4 i)) e n
        by_cases c2 : 0 < p_times (p_heard H ta ro i (va_up m 4 i)) e n
        · rw [if_neg (nI_nle c2 (by omega))]
          have ef : p_qf H m ro ta e n = i := by
            apply Nat.le_antisymm _ hle2
            apply Nat.le_of_not_lt
            intro z
            exact absurd c2 (of_decide_eq_false (fa_first_no (fun h => decide (0 < p_qt H m ro ta e n h)) 10 i z))
          rw [ef, if_pos c]
          exact ⟨_, _, _, _, _, _, rfl⟩
        · rw [if_pos (by have : p_times (p_heard H ta ro i (va_up m 4 i)) e n = 0 := by omega
                         rw [this]; decide), nI_1]
          refine hgo _ (k - 1) (by omega) ⟨_, _, _, _, _, _, i + 1, rfl, by omega, ?_⟩
          apply Nat.lt_of_le_of_ne hle2
          intro z
          exact absurd (of_decide_eq_true (fa_first_yes (fun h => decide (0 < p_qt H m ro ta e n h)) 10 (by show p_qf H m ro ta e n < 10; omega))) (by show ¬ 0 < p_qt H m ro ta e n (p_qf H m ro ta e n); rw [← z]; exact c2)
      · have : i = 10 := by omega
        subst this
        have ef : p_qf H m ro ta e n = 10 := by omega
        rw [if_pos (by decide), ef, if_neg (by omega)]
        exact ⟨_, _, _, _, _, _, rfl⟩
theorem m_quiet (N : Nat) (hN : 5000 ≤ N) {H : PH} {m ro ta : Nat → Nat} (hs : hS H m) {b k : Nat} {mmI hf ask : Nat → Int32} {stk : Nat → Int64} {X Y : Nat → Nat → Int32} (hY : mHY H b mmI Y) (hfl : mFl mmI (H.1 0)) (hL : mLay H 0 m ro ta k X) (x y : Int32) : ∃ X' a s, fX12_quiet N mmI (Y 5) (X 0) (X 1) (X 2) (X 3) (X 4) (X 5) (X 6) (X 7) (X 8) (Y 0) ask (Y 1) stk (Y 2) (Y 3) (Y 4) (Y 6) (Y 7) hf (Y 8) x y = some (qa_quiet H m ro ta x y, X' 0, X' 1, X' 2, X' 3, X' 4, X' 5, X' 6, X' 7, X' 8, a, s, hf) ∧ mOth 1 X X' := by
  obtain ⟨b0, b1, b2, b3⟩ := hs.b
  unfold fX12_quiet qa_quiet
  rw [m_isEar N hY.1 hY.2.1 hY.2.2.2.1 (by omega), xs_bd]
  cases hx : p_one_of (H.1 1) x with
  | false =>
    rw [if_pos (by rfl), if_neg (fun z => Bool.false_ne_true z.1)]
    exact ⟨X, ask, stk, rfl, mOth.refl _ _⟩
  | true =>
    rw [if_neg (by decide)]
    have e1 := m_ahead N (lo := 1) (hi := 40) (ngF := X 0) hfl hL.1 b3 (by omega) (by omega) y
    show ∃ X' a s, xq_bd (fX12_isAhead N mmI (X 0) y (nI 1) (nI 40)) _ = _ ∧ _
    rw [e1, xs_bd]
    cases ha : p_ahead (H.1 0) (m 0) y 1 40 with
    | false =>
      rw [if_pos (by rfl), if_neg (fun z => Bool.false_ne_true z.2)]
      exact ⟨X, ask, stk, rfl, mOth.refl _ _⟩
    | true =>
      obtain ⟨e, rfl, he⟩ := p_one_yes hx
      obtain ⟨g0, n, rfl, -, g1, g2⟩ := p_ahead_yes ha
      obtain ⟨hH, hm⟩ := hs.y g0
      rw [if_neg (by decide), nI_clamp (by omega), nI_clamp (by omega), if_pos ⟨rfl, rfl⟩]
      have hle : p_qf H m ro ta e n ≤ 10 := fa_first_le _ _
      refine xs_loopI (body := fX12_quiet_l23 N mmI (Y 5) (Y 0) (Y 1) (Y 2) (Y 3) (Y 4) (Y 6) (Y 7) (Y 8)) (fun k' st => ∃ X1 a s i, st = (X1 0, X1 1, X1 2, X1 3, X1 4, X1 5, X1 6, X1 7, X1 8, a, s, hf, nI e, nI n, nI i) ∧ mOth 1 X X1 ∧ i + k' = 10 ∧ i ≤ p_qf H m ro ta e n) (fun r => ∃ X' a s, r = some ((if p_qf H m ro ta e n < 10 then nI (p_qf H m ro ta e n) else -1), X' 0, X' 1, X' 2, X' 3, X' 4, X' 5, X' 6, X' 7, X' 8, a, s, hf) ∧ mOth 1 X X') ?_ N 10 _ ⟨X, ask, stk, 0, rfl, mOth.refl _ _, by omega, by omega⟩ (by omega)
      rintro k' st kk ⟨X1, a, s, i, rfl, ho, hi, hle2⟩ hgo
      have hL1 := hL.oth ho (by omega) b1 b2
      show ∃ X' a s, (if (9 : Int32) < nI i then _ else _) = _ ∧ _
      by_cases c : i < 10
      · rw [if_neg (show ¬ (9 : Int32) < _ from nI_nlt (a := 9) (by omega) (by omega))]
        obtain ⟨X2, e2, e3, e4, -⟩ := m_copyL N hN b1 b2 (show 1 < 22 by omega) (show 0 < 22 by omega) (by omega) hL1
        show ∃ X' a s, xq_bd (fX12_copies N (X1 0) (X1 1) (X1 2) (X1 3) (X1 4) (X1 5) (X1 6) (X1 7) (X1 8) (nI 1) (nI 0)) _ = _ ∧ _
        rw [e2, xs_bd]
        show ∃ X' a s, xq_bd (xq_ast 22 (X2 4) (nI 1) (nI i)) _ = _ ∧ _
        rw [xs_ast (by omega) (by omega), xs_bd]
        have e5 : mLay H 1 (va_up m 4 i) ro ta k (m9 (X2 0) (X2 1) (X2 2) (X2 3) (upd (X2 4) 1 (nI i)) (X2 5) (X2 6) (X2 7) (X2 8)) := ⟨e4.1, e4.2.1, e4.2.2.1, e4.2.2.2.1, pk_us, e4.2.2.2.2.2⟩
        have e6 : mOth 1 X2 (m9 (X2 0) (X2 1) (X2 2) (X2 3) (upd (X2 4) 1 (nI i)) (X2 5) (X2 6) (X2 7) (X2 8)) := by
          refine ⟨fun j u hj hu => ?_, fun _ _ => rfl, fun _ _ => rfl, fun _ _ => rfl⟩
          have : j = 0 ∨ j = 1 ∨ j = 2 ∨ j = 3 ∨ j = 4 ∨ j = 6 := by omega
          rcases this with rfl | rfl | rfl | rfl | rfl | rfl
          · rfl
          · rfl
          · rfl
          · rfl
          · exact pk_un hu
          · rfl
        generalize hX3 : m9 (X2 0) (X2 1) (X2 2) (X2 3) (upd (X2 4) 1 (nI i)) (X2 5) (X2 6) (X2 7) (X2 8) = X3 at e5 e6
        have q0 : X3 0 = X2 0 := by rw [← hX3]; rfl
        have q1 : X3 1 = X2 1 := by rw [← hX3]; rfl
        have q2 : X3 2 = X2 2 := by rw [← hX3]; rfl
        have q3 : X3 3 = X2 3 := by rw [← hX3]; rfl
        have q4 : X3 4 = upd (X2 4) 1 (nI i) := by rw [← hX3]; rfl
        have q5 : X3 5 = X2 5 := by rw [← hX3]; rfl
        have q6 : X3 6 = X2 6 := by rw [← hX3]; rfl
        have q7 : X3 7 = X2 7 := by rw [← hX3]; rfl
        have q8 : X3 8 = X2 8 := by rw [← hX3]; rfl
        obtain ⟨a2, s2, X4, k4, f1, f2, f3, f4, f5, f6⟩ := m_times N hN hH (hf := hf) (ask := a) (stk := s) (n := n) (e := e) hY e5 (p_mok_hush hm (by omega)) (show m 0 + n ≤ 999 by omega) (by omega)
        rw [← q0, ← q1, ← q2, ← q3, ← q4, ← q5, ← q6, ← q7, ← q8]
        show ∃ X' a' s', xq_bd (fX12_timesHeard N mmI (X3 4) (X3 3) (Y 0) (X3 0) a (X3 1) (X3 2) (Y 1) s (Y 2) (Y 3) (Y 4) (Y 6) (Y 7) (X3 7) (Y 5) hf (Y 8) (X3 5) (X3 6) (X3 8) (nI e) (nI n)) _ = _ ∧ _
        rw [f1, xs_bd, ← f2, ← f3, ← f4]
        have hoo := ((ho.trans e3).trans e6).trans f5
        have hb := p_times_le (p_heard H ta ro (va_up m 4 i 4) (va_up m 4 i)) e n
        have hpq : p_times (p_heard H ta ro (va_up m 4 i 4) (va_up m 4 i)) e n = p_qt H m ro ta e n i := rfl
        by_cases c2 : 0 < p_qt H m ro ta e n i
        · have ef : p_qf H m ro ta e n = i := by
            apply Nat.le_antisymm _ hle2
            apply Nat.le_of_not_lt
            intro z
            exact absurd c2 (of_decide_eq_false (fa_first_no (fun h => decide (0 < p_qt H m ro ta e n h)) 10 i z))
          refine ⟨X4, a2, s2, ?_, hoo⟩
          show (if nI (p_times _ e n) ≤ 0 then _ else _) = _
          rw [if_neg (nI_nle (by rw [hpq]; exact c2) (by omega)), ef, if_pos c]
        · show ∃ X' a s, (if nI (p_times _ e n) ≤ 0 then _ else _) = _ ∧ _
          rw [hpq] at hb ⊢
          rw [if_pos (by have : p_qt H m ro ta e n i = 0 := by omega
                         rw [this]; decide), nI_1]
          refine hgo _ (k' - 1) (by omega) ⟨X4, a2, s2, i + 1, rfl, hoo, by omega, ?_⟩
          apply Nat.lt_of_le_of_ne hle2
          intro z
          exact absurd (of_decide_eq_true (fa_first_yes (fun h => decide (0 < p_qt H m ro ta e n h)) 10 (by show p_qf H m ro ta e n < 10; omega))) (by show ¬ 0 < p_qt H m ro ta e n (p_qf H m ro ta e n); rw [← z]; exact c2)
      · have : i = 10 := by omega
        subst this
        have ef : p_qf H m ro ta e n = 10 := by omega
        rw [if_pos (by decide), ef, if_neg (by omega)]
        exact ⟨X1, a, s, rfl, ho⟩
