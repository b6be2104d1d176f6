/-! later, heard, often -/
def qa_later (H : PH) (m ta : Nat → Nat) (x y : Int32) : Int32 := if p_ahead (H.1 0) (m 0) x 0 60 = true ∧ (y = 0 ∨ y = 1 ∨ y = 2) then nI (p_nights H ta (m 4) x.toNatClampNeg m (if y = 0 then 1 else if y = 1 then 2 else 3)) else -1
theorem c_later (N : Nat) (hN : 5000 ≤ N) {H : PH} {m ro ta : Nat → Nat} (hs : hS H m) {homeI home_sharpsF home_placeMilesF home_goesF home_hearsF home_talkForF : Nat → Int32} {home_goesN home_hearsN home_talkForN : Nat} (hc : cH H homeI home_sharpsF home_placeMilesF home_goesF home_hearsF home_talkForF home_goesN home_hearsN home_talkForN) {nowI now_rowsF now_talksF : Nat → Int32} (hn : cNow H m ro ta nowI now_rowsF now_talksF) {walkI walk_rowsF walk_talksF dv_heardAheadF course_valuesF course_stackF : Nat → Int32} (x y : Int32) : ∃ w r t h v s, fX11_later N homeI nowI walkI now_rowsF walk_rowsF now_talksF walk_talksF dv_heardAheadF course_valuesF home_goesF course_stackF home_talkForF home_placeMilesF home_sharpsF home_hearsF home_goesN home_talkForN home_hearsN x y = some (qa_later H m ta x y, w, r, t, h, v, s) := by
  obtain ⟨b0, b1, b2, b3⟩ := hs.b
  unfold fX11_later qa_later
  have e1 := c_comes N (lo := 0) (hi := 60) hc.1 (hn.1 0 (by omega)) b0 b3 (by omega) (by omega) x
  show ∃ w r t h v s, xq_bd (fX11_comes N homeI nowI x (nI 0) (nI 60)) _ = _
  rw [e1, xs_bd]
  cases ha : p_ahead (H.1 0) (m 0) x 0 60 with
  | false =>
    rw [if_pos (by rfl), if_neg (fun z => Bool.false_ne_true z.1)]
    exact ⟨_, _, _, _, _, _, rfl⟩
  | true =>
    obtain ⟨g0, n, rfl, -, g1, g2⟩ := p_ahead_yes ha
    obtain ⟨hH, hm⟩ := hs.y g0
    obtain ⟨w, r, t, e2, e3, e4, e5⟩ := c_copy N (walkI := walkI) (rowsF := now_rowsF) (wrF := walk_rowsF) (talksF := now_talksF) (wtF := walk_talksF) hn.1
    rw [if_neg (by decide), e2, xs_bd]
    obtain ⟨mo, v, s, e6, e7⟩ := c_pass N hN hH hc (moI := w) (vals := course_valuesF) (stk := course_stackF) (rowsF := r) (talksF := t) (hF := dv_heardAheadF) (hu := m 4) (n := n) e3 hm (fun e he => ⟨(e4 e (by omega)).trans (hn.2.1 e he).1, (hn.2.1 e he).2⟩) (fun p hp => ⟨(e5 p (by omega)).trans (hn.2.2 p hp).1, (hn.2.2 p hp).2⟩) (by have := hm.2.2.2.2; omega) g1
    show ∃ w' r t h v s, xq_bd (fX0_passNights N dv_heardAheadF w course_valuesF homeI home_goesF course_stackF _ home_talkForF home_placeMilesF _ home_sharpsF home_hearsF 60 home_goesN home_talkForN home_hearsN (w 4) (nI n)) _ = _
    rw [e3 4 (by omega), e6, xs_bd, nI_clamp (by omega)]
    dsimp only
    by_cases c0 : y = 0
    · subst c0
      refine ⟨mo, r, t, fa_fill (fun i => nI (p_heard H ta ro (m 4) m i)) dv_heardAheadF n, v, s, ?_⟩
      rw [if_pos (by rfl), if_pos ⟨rfl, Or.inl rfl⟩, e7 1 (by omega), if_pos (by rfl)]
    · by_cases c1 : y = 1
      · subst c1
        refine ⟨mo, r, t, fa_fill (fun i => nI (p_heard H ta ro (m 4) m i)) dv_heardAheadF n, v, s, ?_⟩
        rw [if_neg (by decide), if_pos (by rfl), if_pos ⟨rfl, Or.inr (Or.inl rfl)⟩, e7 2 (by omega), if_neg (by decide), if_pos (by rfl)]
      · by_cases c2 : y = 2
        · subst c2
          refine ⟨mo, r, t, fa_fill (fun i => nI (p_heard H ta ro (m 4) m i)) dv_heardAheadF n, v, s, ?_⟩
          rw [if_neg (by decide), if_neg (by decide), if_pos (by rfl), if_pos ⟨rfl, Or.inr (Or.inr rfl)⟩, e7 3 (by omega), if_neg (by decide), if_neg (by decide)]
        · refine ⟨mo, r, t, fa_fill (fun i => nI (p_heard H ta ro (m 4) m i)) dv_heardAheadF n, v, s, ?_⟩
          rw [if_neg c0, if_neg c1, if_neg c2, if_neg (fun z => by rcases z.2 with z | z | z <;> contradiction)]
theorem m_later (N : Nat) (hN : 5000 ≤ N) {H : PH} {m ro ta : Nat → Nat} (hs : hS H m) {b k : Nat} {mmI hf ask : Nat → Int32} {stk : Nat → Int64} {X Y : Nat → Nat → Int32} (hY : mHY H b mmI Y) (hfl : mFl mmI (H.1 0)) (hL : mLay H 0 m ro ta k X) (x y : Int32) : ∃ X' a s, fX12_later N mmI (X 0) (X 1) (X 2) (X 3) (X 4) (X 5) (X 6) (X 7) (X 8) (Y 0) ask (Y 1) stk (Y 2) (Y 3) (Y 4) (Y 6) (Y 7) (Y 5) hf (Y 8) x y = some (qa_later H m ta x y, X' 0, X' 1, X' 2, X' 3, X' 4, X' 5, X' 6, X' 7, X' 8, a, s, hf) ∧ mOth 1 X X' := by
  obtain ⟨b0, b1, b2, b3⟩ := hs.b
  unfold fX12_later qa_later
  have e1 := m_ahead N (lo := 0) (hi := 60) (ngF := X 0) hfl hL.1 b3 (by omega) (by omega) x
  show ∃ X' a s, xq_bd (fX12_isAhead N mmI (X 0) x (nI 0) (nI 60)) _ = _ ∧ _
  rw [e1, xs_bd]
  cases ha : p_ahead (H.1 0) (m 0) x 0 60 with
  | false =>
    rw [if_pos (by rfl), if_neg (fun z => Bool.false_ne_true z.1)]
    exact ⟨X, ask, stk, rfl, mOth.refl _ _⟩
  | true =>
    obtain ⟨g0, n, rfl, -, g1, g2⟩ := p_ahead_yes ha
    obtain ⟨hH, hm⟩ := hs.y g0
    rw [if_neg (by decide)]
    show ∃ X' a s, xq_bd (fX12_is N y (nI 0) (nI 2)) _ = _ ∧ _
    rw [m_is N (by omega) (by omega), xs_bd, nI_clamp (by omega)]
    by_cases c : ((0 : Nat) : Int) ≤ y.toInt ∧ y.toInt ≤ ((2 : Nat) : Int)
    · have hy : y = 0 ∨ y = 1 ∨ y = 2 := by
        have k0 : (0 : Int32).toInt = 0 := rfl
        have k1 : (1 : Int32).toInt = 1 := rfl
        have k2 : (2 : Int32).toInt = 2 := rfl
        rw [fa_eq, fa_eq, fa_eq, k0, k1, k2]; omega
      rw [decide_eq_true c, if_neg (by decide), if_pos ⟨rfl, hy⟩]
      obtain ⟨X1, e2, e3, e4, -⟩ := m_copyL N hN b1 b2 (show 1 < 22 by omega) (show 0 < 22 by omega) (by omega) hL
      show ∃ X' a s, xq_bd (fX12_copies N (X 0) (X 1) (X 2) (X 3) (X 4) (X 5) (X 6) (X 7) (X 8) (nI 1) (nI 0)) _ = _ ∧ _
      rw [e2, xs_bd]
      obtain ⟨a, s, X2, k2, f1, f2, f3, f4, f5, f6⟩ := m_runsX N hN hH (hf := hf) (ask := ask) (stk := stk) (n := n) hY e4 hm (by omega)
      show ∃ X' a s, xq_bd (fX12_runsOn N mmI (X1 4) (X1 3) (Y 0) (X1 0) ask (X1 1) (X1 2) (Y 1) stk (Y 2) (Y 3) (Y 4) (Y 6) (Y 7) (X1 7) (Y 5) hf (Y 8) (X1 5) (X1 6) (X1 8) (nI n)) _ = _ ∧ _
      rw [f1, xs_bd]
      have l1 : xq_ald 22 (X2 1) 1 = some (nI (p_nights H ta (m 4) n m 1)) := by
        show xq_ald 22 (X2 1) (nI 1) = _
        rw [xs_ald (by omega) (by omega), f6.2.1]
      have l2 : xq_ald 22 (X2 2) 1 = some (nI (p_nights H ta (m 4) n m 2)) := by
        show xq_ald 22 (X2 2) (nI 1) = _
        rw [xs_ald (by omega) (by omega), f6.2.2.1]
      have l3 : xq_ald 22 (X2 3) 1 = some (nI (p_nights H ta (m 4) n m 3)) := by
        show xq_ald 22 (X2 3) (nI 1) = _
        rw [xs_ald (by omega) (by omega), f6.2.2.2.1]
      refine ⟨X2, a, s, ?_, e3.trans f5⟩
      rw [← f2, ← f3, ← f4]
      dsimp only
      rcases hy with rfl | rfl | rfl
      · rw [if_pos (by rfl), if_pos (by rfl), l1, xs_bd]
      · rw [if_neg (by decide), if_pos (by rfl), if_neg (by decide), if_pos (by rfl), l2, xs_bd]
      · rw [if_neg (by decide), if_neg (by decide), if_neg (by decide), if_neg (by decide), l3, xs_bd]
    · rw [decide_eq_false c, if_pos (by rfl), if_neg (fun z => c (by rcases z.2 with rfl | rfl | rfl <;> exact ⟨by decide, by decide⟩))]
      exact ⟨X, ask, stk, rfl, mOth.refl _ _⟩
def qa_heard (H : PH) (m ro ta : Nat → Nat) (x : Int32) : Int32 := if p_ahead (H.1 0) (m 0 + 1) x 0 59 = true then nI (p_heard H ta ro (m 4) m x.toNatClampNeg) else -1
theorem xs_59 {Ml ng : Nat} {x : Int32} (hx : ¬ x < 0) (h : ¬ (60 : Int32) ≤ x) : p_ahead Ml ng (x + 1) 1 60 = p_ahead Ml (ng + 1) x 0 59 := by
  have e0 : (0 : Int32).toInt = 0 := rfl
  have e6 : (60 : Int32).toInt = 60 := rfl
  have e1 : (1 : Int32).toInt = 1 := rfl
  rw [fa_lt, e0] at hx
  rw [fa_le, e6] at h
  unfold p_ahead
  rw [fb_addI (by omega) (by omega), e1]
  congr 1
  apply propext
  constructor
  · rintro ⟨a, b, c, d⟩; exact ⟨a, by omega, by omega, by omega⟩
  · rintro ⟨a, b, c, d⟩; exact ⟨a, by omega, by omega, by omega⟩
theorem c_heard (N : Nat) (hN : 5000 ≤ N) {H : PH} {m ro ta : Nat → Nat} (hs : hS H m) {homeI home_sharpsF home_placeMilesF home_goesF home_hearsF home_talkForF : Nat → Int32} {home_goesN home_hearsN home_talkForN : Nat} (hc : cH H homeI home_sharpsF home_placeMilesF home_goesF home_hearsF home_talkForF home_goesN home_hearsN home_talkForN) {nowI now_rowsF now_talksF : Nat → Int32} (hn : cNow H m ro ta nowI now_rowsF now_talksF) {walkI walk_rowsF walk_talksF dv_heardAheadF course_valuesF course_stackF : Nat → Int32} (x : Int32) : ∃ w r t h v s, fX11_heard N homeI nowI walkI now_rowsF walk_rowsF now_talksF walk_talksF dv_heardAheadF course_valuesF home_goesF course_stackF home_talkForF home_placeMilesF home_sharpsF home_hearsF home_goesN home_talkForN home_hearsN x = some (qa_heard H m ro ta x, w, r, t, h, v, s) := by
  obtain ⟨b0, b1, b2, b3⟩ := hs.b
  have e0 : (0 : Int32).toInt = 0 := rfl
  have e6 : (60 : Int32).toInt = 60 := rfl
  unfold fX11_heard qa_heard
  by_cases c1 : x < 0
  · rw [if_pos c1, if_neg (fun z => by obtain ⟨-, n, rfl, -, h, -⟩ := p_ahead_yes z; exact nI_pos (by omega) c1)]
    exact ⟨_, _, _, _, _, _, rfl⟩
  · by_cases c2 : 60 ≤ x
    · rw [if_neg c1, if_pos c2, if_neg (fun z => by obtain ⟨-, n, rfl, -, h, -⟩ := p_ahead_yes z; exact nI_ge (a := n) (b := 60) (by omega) (by omega) c2)]
      exact ⟨_, _, _, _, _, _, rfl⟩
    · rw [if_neg c1, if_neg c2]
      have e1 := c_comes N (lo := 1) (hi := 60) hc.1 (hn.1 0 (by omega)) b0 b3 (by omega) (by omega) (x + 1)
      show ∃ w r t h v s, xq_bd (fX11_comes N homeI nowI (x + 1) (nI 1) (nI 60)) _ = _
      rw [e1, xs_bd, xs_59 c1 c2]
      cases ha : p_ahead (H.1 0) (m 0 + 1) x 0 59 with
      | false =>
        rw [if_pos (by rfl), if_neg Bool.false_ne_true]
        exact ⟨_, _, _, _, _, _, rfl⟩
      | true =>
        obtain ⟨g0, n, rfl, -, g1, g2⟩ := p_ahead_yes ha
        obtain ⟨hH, hm⟩ := hs.y g0
        obtain ⟨w, r, t, e2, e3, e4, e5⟩ := c_copy N (walkI := walkI) (rowsF := now_rowsF) (wrF := walk_rowsF) (talksF := now_talksF) (wtF := walk_talksF) hn.1
        rw [if_neg (by decide), e2, xs_bd, nI_1]
        obtain ⟨mo, v, s, e6, e7⟩ := c_pass N hN hH hc (moI := w) (vals := course_valuesF) (stk := course_stackF) (rowsF := r) (talksF := t) (hF := dv_heardAheadF) (hu := m 4) (n := n + 1) e3 hm (fun e he => ⟨(e4 e (by omega)).trans (hn.2.1 e he).1, (hn.2.1 e he).2⟩) (fun p hp => ⟨(e5 p (by omega)).trans (hn.2.2 p hp).1, (hn.2.2 p hp).2⟩) (by have := hm.2.2.2.2; omega) (by omega)
        show ∃ w' r t h v s, xq_bd (fX0_passNights N dv_heardAheadF w course_valuesF homeI home_goesF course_stackF _ home_talkForF home_placeMilesF _ home_sharpsF home_hearsF 60 home_goesN home_talkForN home_hearsN (w 4) (nI (n + 1))) _ = _
        rw [e3 4 (by omega), e6, xs_bd, nI_clamp (by omega), if_pos (by rfl)]
        dsimp only
        rw [xs_ald (by omega) (by omega), xs_bd, fa_fill_in (by omega)]
        exact ⟨_, _, _, _, _, _, rfl⟩
theorem m_heard (N : Nat) (hN : 5000 ≤ N) {H : PH} {m ro ta : Nat → Nat} (hs : hS H m) {b k : Nat} {mmI hf ask : Nat → Int32} {stk : Nat → Int64} {X Y : Nat → Nat → Int32} (hY : mHY H b mmI Y) (hfl : mFl mmI (H.1 0)) (hL : mLay H 0 m ro ta k X) (x : Int32) : ∃ X' a s, fX12_heard N mmI (X 0) (X 1) (X 2) (X 3) (X 4) (X 5) (X 6) (X 7) (X 8) (Y 0) ask (Y 1) stk (Y 2) (Y 3) (Y 4) (Y 6) (Y 7) (Y 5) hf (Y 8) x = some (qa_heard H m ro ta x, X' 0, X' 1, X' 2, X' 3, X' 4, X' 5, X' 6, X' 7, X' 8, a, s, hf) ∧ mOth 1 X X' := by
  obtain ⟨b0, b1, b2, b3⟩ := hs.b
  unfold fX12_heard qa_heard
  show ∃ X' a s, xq_bd (fX12_is N x (nI 0) (nI 59)) _ = _ ∧ _
  rw [m_is N (by omega) (by omega), xs_bd]
  have e0 : (0 : Int32).toInt = 0 := rfl
  have e6 : (60 : Int32).toInt = 60 := rfl
  by_cases c : ((0 : Nat) : Int) ≤ x.toInt ∧ x.toInt ≤ ((59 : Nat) : Int)
  · rw [decide_eq_true c, if_neg (by decide)]
    have e1 := m_ahead N (lo := 1) (hi := 60) (ngF := X 0) hfl hL.1 b3 (by omega) (by omega) (x + 1)
    show ∃ X' a s, xq_bd (fX12_isAhead N mmI (X 0) (x + 1) (nI 1) (nI 60)) _ = _ ∧ _
    rw [e1, xs_bd, xs_59 (by rw [fa_lt, e0]; omega) (by rw [fa_le, e6]; omega)]
    cases ha : p_ahead (H.1 0) (m 0 + 1) x 0 59 with
    | false =>
      rw [if_pos (by rfl), if_neg Bool.false_ne_true]
      exact ⟨X, ask, stk, rfl, mOth.refl _ _⟩
    | true =>
      obtain ⟨g0, n, rfl, -, g1, g2⟩ := p_ahead_yes ha
      obtain ⟨hH, hm⟩ := hs.y g0
      rw [if_neg (by decide)]
      obtain ⟨X1, e2, e3, e4, -⟩ := m_copyL N hN b1 b2 (show 1 < 22 by omega) (show 0 < 22 by omega) (by omega) hL
      show ∃ X' a s, xq_bd (fX12_copies N (X 0) (X 1) (X 2) (X 3) (X 4) (X 5) (X 6) (X 7) (X 8) (nI 1) (nI 0)) _ = _ ∧ _
      rw [e2, xs_bd]
      obtain ⟨a, s, X2, k2, f1, f2, f3, f4, f5, f6⟩ := m_runsX N hN hH (hf := hf) (ask := ask) (stk := stk) (n := n) hY e4 hm (by omega)
      show ∃ X' a s, xq_bd (fX12_runsOn N mmI (X1 4) (X1 3) (Y 0) (X1 0) ask (X1 1) (X1 2) (Y 1) stk (Y 2) (Y 3) (Y 4) (Y 6) (Y 7) (X1 7) (Y 5) hf (Y 8) (X1 5) (X1 6) (X1 8) (nI n)) _ = _ ∧ _
      rw [f1, xs_bd, ← f2, ← f3, ← f4]
      obtain ⟨q1, q2, q3, q4⟩ := p_nights_ok hH (ta := ta) (hu := m 4) hm n
      obtain ⟨a3, s3, X3, h1, h2, h3, h4, h5, h6, -⟩ := m_passX N hN hH (hf := hf) (ask := a) (stk := s) hY (by omega) f6 q1
      rw [q2] at h1
      show ∃ X' a s, xq_bd (fX12_passes N mmI (X2 4) (X2 3) (Y 0) (X2 0) _ (X2 1) (X2 2) (Y 1) _ (Y 2) (Y 3) (Y 4) (Y 6) (Y 7) (X2 7) (Y 5) hf (Y 8) (X2 5) (X2 6) (X2 8) (nI 1)) _ = _ ∧ _
      rw [h1, xs_bd, nI_clamp (by omega), if_pos (by rfl), ← h2, ← h3, ← h4]
      exact ⟨X3, a3, s3, rfl, (e3.trans f5).trans h5⟩
  · rw [decide_eq_false c, if_pos (by rfl), if_neg (fun z => by
      obtain ⟨-, n, rfl, -, h, -⟩ := p_ahead_yes z
      rw [nI_toInt (by omega)] at c; omega)]
    exact ⟨X, ask, stk, rfl, mOth.refl _ _⟩
