/-! silence -/
def p_tas (ta : Nat → Nat) (set p : Nat) : Nat := if set / 2 ^ p % 2 = 1 then 0 else ta p
theorem p_walk_mono {H : PH} : ∀ (s m r : Nat), r ≤ 999 → r ≤ (p_walk H s m r).2.1
  | 0, m, r, _ => Nat.le_refl _
  | s + 1, m, r, h => by
    rw [p_walk_succ]
    have h1 : r ≤ (if m + 1 = H.1 0 then min 999 (r + 1) else r) := by split <;> omega
    have h2 : (if m + 1 = H.1 0 then min 999 (r + 1) else r) ≤ 999 := by split <;> omega
    by_cases c : p_at H (if m + 1 = H.1 0 then 0 else m + 1) < H.1 2
    · rw [if_pos c]; exact h1
    · rw [if_neg c]; exact Nat.le_trans h1 (p_walk_mono s _ _ h2)
theorem p_night_mono {H : PH} {m ta : Nat → Nat} {hu : Nat} (h : m 2 ≤ 999) : m 2 ≤ p_night H ta hu m 2 := by
  show m 2 ≤ p_move H m ta hu 2
  unfold p_move
  split
  · exact Nat.le_refl _
  · exact p_walk_mono _ _ _ h
theorem p_nights_mono {H : PH} (hH : ph_ok H) {m ta : Nat → Nat} {hu : Nat} (h : p_mok H m) (i : Nat) : ∀ d, p_nights H ta hu i m 2 ≤ p_nights H ta hu (i + d) m 2
  | 0 => Nat.le_refl _
  | d + 1 => Nat.le_trans (p_nights_mono hH h i d) (p_night_mono (p_nights_ok hH h (i + d)).1.2.2.1)
def p_sok (H : PH) (m ta : Nat → Nat) (n set : Nat) : Bool := decide (m 2 < p_nights H (p_tas ta set) (m 4) n m 2)
def qa_silence (H : PH) (m ta : Nat → Nat) (x : Int32) : Int32 := if p_ahead (H.1 0) (m 0) x 1 40 = true then p_st (p_bw (p_sok H m ta x.toNatClampNeg) (2 ^ H.1 2)) else -1
theorem p_tas_le {ta : Nat → Nat} {set p : Nat} (h : ta p ≤ 9) : p_tas ta set p ≤ 9 := by unfold p_tas; split <;> omega
theorem c_without (N : Nat) (hN : 5000 ≤ N) {H : PH} {m ro ta : Nat → Nat} (hH : ph_ok H) (hm : p_mok H m) {homeI home_sharpsF home_placeMilesF home_goesF home_hearsF home_talkForF : Nat → Int32} {home_goesN home_hearsN home_talkForN : Nat} (hc : cH H homeI home_sharpsF home_placeMilesF home_goesF home_hearsF home_talkForF home_goesN home_hearsN home_talkForN) {nowI now_rowsF now_talksF : Nat → Int32} (hn : cNow H m ro ta nowI now_rowsF now_talksF) {walkI walk_rowsF walk_talksF dv_heardAheadF course_valuesF course_stackF : Nat → Int32} {set n : Nat} (hset : set < 1000) (hn60 : n ≤ 60) : ∃ w r t h v s, fX11_isRoundWithout N nowI walkI now_rowsF walk_rowsF now_talksF walk_talksF homeI dv_heardAheadF course_valuesF home_goesF course_stackF home_talkForF home_placeMilesF home_sharpsF home_hearsF home_goesN home_talkForN home_hearsN (nI set) (nI n) = some (p_b (p_sok H m ta n set), w, r, t, h, v, s) := by
  have g7 := hH.2.2.1
  have g6 := hH.2.2.2.1
  obtain ⟨w, r, t0, e2, e3, e4, e5⟩ := c_copy N (walkI := walkI) (rowsF := now_rowsF) (wrF := walk_rowsF) (talksF := now_talksF) (wtF := walk_talksF) hn.1
  unfold fX11_isRoundWithout
  rw [e2, xs_bd]
  dsimp only
  refine xs_loopI (body := fX11_isRoundWithout_l13 N nowI now_rowsF now_talksF homeI home_goesF home_talkForF home_placeMilesF home_sharpsF home_hearsF home_goesN home_talkForN home_hearsN) (fun k st => ∃ t i, st = (w, r, t, dv_heardAheadF, course_valuesF, course_stackF, nI set, nI n, nI i) ∧ i + k = H.1 2 ∧ ∀ q, q < H.1 2 → t q = nI (if q < i then p_tas ta set q else ta q)) (fun x => ∃ w r t h v s, x = some (p_b (p_sok H m ta n set), w, r, t, h, v, s)) ?_ N (H.1 2) _ ⟨t0, 0, rfl, by omega, fun q hq => by rw [if_neg (Nat.not_lt_zero _), e5 q (by omega)]; exact (hn.2.2 q hq).1⟩ (by omega)
  rintro k st kk ⟨t, i, rfl, hi, ht⟩ hgo
  show ∃ w r t h v s, (if homeI 6 ≤ nI i then _ else _) = _
  rw [hc.2.2.1]
  by_cases c : H.1 2 ≤ i
  · have : i = H.1 2 := by omega
    subst this
    rw [if_pos (nI_le (Nat.le_refl _) (by omega)), e3 4 (by omega)]
    obtain ⟨mo, v, s, e6, e7⟩ := c_pass N hN hH hc (moI := w) (vals := course_valuesF) (stk := course_stackF) (rowsF := r) (talksF := t) (ta := p_tas ta set) (ro := ro) (hF := dv_heardAheadF) (hu := m 4) (n := n) e3 hm (fun e he => ⟨(e4 e (by omega)).trans (hn.2.1 e he).1, (hn.2.1 e he).2⟩) (fun p hp => ⟨by rw [ht p hp, if_pos hp], p_tas_le (hn.2.2 p hp).2⟩) (by have := hm.2.2.2.2; omega) hn60
    rw [e6, xs_bd]
    dsimp only
    rw [e7 2 (by omega), hn.1 2 (by omega)]
    have q1 := (p_nights_ok hH (ta := p_tas ta set) (hu := m 4) hm n).1.2.2.1
    have q2 := hm.2.2.1
    unfold p_sok
    by_cases c2 : m 2 < p_nights H (p_tas ta set) (m 4) n m 2
    · rw [if_neg (nI_ge c2 (by omega)), decide_eq_true c2]
      exact ⟨_, _, _, _, _, _, rfl⟩
    · rw [if_pos (nI_le (by omega) (by omega)), decide_eq_false c2]
      exact ⟨_, _, _, _, _, _, rfl⟩
  · rw [if_neg (nI_ge (by omega) (by omega)), xs_bit (by omega) (by omega)]
    have hbit : set / 2 ^ i % 2 < 2 := Nat.mod_lt _ (by omega)
    by_cases cz : set / 2 ^ i % 2 = 1
    · rw [cz, if_pos (show nI 1 = (1 : Int32) from rfl), xs_ast (show i < 6 by omega) (by omega), xs_bd]
      dsimp only [fX11_isRoundWithout_b43]
      rw [nI_1]
      refine hgo _ (k - 1) (by omega) ⟨_, i + 1, rfl, by omega, fun q hq => ?_⟩
      by_cases e : q = i
      · subst e
        rw [pk_us, if_pos (by omega)]
        unfold p_tas
        rw [if_pos cz]; rfl
      · rw [pk_un e, ht q hq]
        by_cases d : q < i
        · rw [if_pos d, if_pos (by omega)]
        · rw [if_neg d, if_neg (by omega)]
    · have cz0 : set / 2 ^ i % 2 = 0 := by omega
      rw [cz0, if_neg (show ¬ nI 0 = (1 : Int32) from by decide)]
      dsimp only [fX11_isRoundWithout_b43]
      rw [nI_1]
      refine hgo _ (k - 1) (by omega) ⟨_, i + 1, rfl, by omega, fun q hq => ?_⟩
      rw [ht q hq]
      by_cases e : q = i
      · subst e
        rw [if_neg (by omega), if_pos (by omega)]
        unfold p_tas
        rw [if_neg cz]
      · by_cases d : q < i
        · rw [if_pos d, if_pos (by omega)]
        · rw [if_neg d, if_neg (by omega)]
theorem xs_64 {E : Nat} (h : E ≤ 6) : 2 ^ E ≤ 64 := Nat.pow_le_pow_right (n := 2) (by omega) h
theorem c_silence (N : Nat) (hN : 5000 ≤ N) {H : PH} {m ro ta : Nat → Nat} (hs : hS H m) {homeI home_sharpsF home_placeMilesF home_goesF home_hearsF home_talkForF : Nat → Int32} {home_goesN home_hearsN home_talkForN : Nat} (hc : cH H homeI home_sharpsF home_placeMilesF home_goesF home_hearsF home_talkForF home_goesN home_hearsN home_talkForN) {nowI now_rowsF now_talksF : Nat → Int32} (hn : cNow H m ro ta nowI now_rowsF now_talksF) {walkI walk_rowsF walk_talksF dv_heardAheadF course_valuesF course_stackF : Nat → Int32} (x : Int32) : ∃ w r t h v s, fX11_silence N homeI nowI walkI now_rowsF walk_rowsF now_talksF walk_talksF dv_heardAheadF course_valuesF home_goesF course_stackF home_talkForF home_placeMilesF home_sharpsF home_hearsF home_goesN home_talkForN home_hearsN x = some (qa_silence H m ta x, w, r, t, h, v, s) := by
  obtain ⟨b0, b1, b2, b3⟩ := hs.b
  unfold fX11_silence qa_silence
  have e1 := c_comes N (lo := 1) (hi := 40) hc.1 (hn.1 0 (by omega)) b0 b3 (by omega) (by omega) x
  show ∃ w r t h v s, xq_bd (fX11_comes N homeI nowI x (nI 1) (nI 40)) _ = _
  rw [e1, xs_bd]
  cases ha : p_ahead (H.1 0) (m 0) x 1 40 with
  | false =>
    rw [if_pos (by rfl), if_neg Bool.false_ne_true]
    exact ⟨_, _, _, _, _, _, rfl⟩
  | true =>
    obtain ⟨g0, n, rfl, -, g1, g2⟩ := p_ahead_yes ha
    obtain ⟨hH, hm⟩ := hs.y g0
    rw [if_neg (by decide), nI_clamp (by omega), if_pos (by rfl)]
    have h64 := xs_64 b2
    refine xs_loopI (body := fX11_silence_l17 N homeI nowI now_rowsF now_talksF home_goesF home_talkForF home_placeMilesF home_sharpsF home_hearsF home_goesN home_talkForN home_hearsN) (fun k st => ∃ w r t h v s i, st = (w, r, t, h, v, s, nI n, p_st (p_bw (p_sok H m ta n) i), nI i) ∧ i + k = 2 ^ H.1 2) (fun q => ∃ w r t h v s, q = some (p_st (p_bw (p_sok H m ta n) (2 ^ H.1 2)), w, r, t, h, v, s)) ?_ N (2 ^ H.1 2) _ ⟨_, _, _, _, _, _, 0, rfl, by omega⟩ (by omega)
    rintro k st kk ⟨w, r, t, h, v, s, i, rfl, hi⟩ hgo
    have hrg := p_bw_rng (p_sok H m ta n) i
    show ∃ w r t h v s, (if (1 : Int32) <<< (homeI 6 &&& 31) ≤ nI i then _ else _) = _
    rw [hc.2.2.1, xs_one _ (by omega)]
    by_cases c : i < 2 ^ H.1 2
    · rw [if_neg (nI_ge c (by omega))]
      have key : ∀ y : Bool, y = decide (p_bw (p_sok H m ta n) i = 1000 ∨ pc i < pc (p_bw (p_sok H m ta n) i)) → ∃ w' r' t' h' v' s', fX11_silence_b51 N homeI nowI now_rowsF now_talksF home_goesF home_talkForF home_placeMilesF home_sharpsF home_hearsF home_goesN home_talkForN home_hearsN kk (w, r, t, h, v, s, nI n, p_st (p_bw (p_sok H m ta n) i), nI i, p_b y) = some (p_st (p_bw (p_sok H m ta n) (2 ^ H.1 2)), w', r', t', h', v', s') := by
        intro y hy
        dsimp only [fX11_silence_b51]
        cases y with
        | false =>
          rw [if_pos (by rfl)]
          dsimp only [fX11_silence_b69]
          rw [nI_1]
          refine hgo _ (k - 1) (by omega) ⟨w, r, t, h, v, s, i + 1, ?_, by omega⟩
          rw [p_bw_succ, if_neg (fun z => of_decide_eq_false hy.symm z.1)]
        | true =>
          obtain ⟨w2, r2, t2, h2, v2, s2, e2⟩ := c_without N hN hH hm hc hn (walkI := w) (walk_rowsF := r) (walk_talksF := t) (dv_heardAheadF := h) (course_valuesF := v) (course_stackF := s) (set := i) (n := n) (by omega) (by omega)
          rw [if_neg (by decide), e2, xs_bd]
          dsimp only
          have hy := of_decide_eq_true hy.symm
          cases hq : p_sok H m ta n i with
          | false =>
            rw [if_pos (by rfl)]
            dsimp only [fX11_silence_b69]
            rw [nI_1]
            refine hgo _ (k - 1) (by omega) ⟨w2, r2, t2, h2, v2, s2, i + 1, ?_, by omega⟩
            rw [p_bw_succ, if_neg (fun z => by rw [hq] at z; exact Bool.false_ne_true z.2)]
          | true =>
            rw [if_neg (by decide)]
            dsimp only [fX11_silence_b69]
            rw [nI_1]
            refine hgo _ (k - 1) (by omega) ⟨w2, r2, t2, h2, v2, s2, i + 1, ?_, by omega⟩
            rw [p_bw_succ, if_pos ⟨hy, hq⟩]
            have : p_st i = nI i := by unfold p_st; rw [if_neg (by omega)]
            rw [this]
      by_cases c1 : p_bw (p_sok H m ta n) i = 1000
      · rw [if_pos (show p_st (p_bw (p_sok H m ta n) i) = -1 by rw [c1]; rfl)]
        exact key true (by rw [decide_eq_true (Or.inl c1)])
      · have hlt : p_bw (p_sok H m ta n) i < i := by omega
        have est : p_st (p_bw (p_sok H m ta n) i) = nI (p_bw (p_sok H m ta n) i) := by unfold p_st; rw [if_neg c1]
        have hp1 := pcN_le 10 i
        have hp2 := pcN_le 10 (p_bw (p_sok H m ta n) i)
        rw [if_neg (p_st_m1 (by omega)), est, c_bitc N (by omega), xs_bd, c_bitc N (by omega), xs_bd, ← est]
        by_cases c2 : pc (p_bw (p_sok H m ta n) i) ≤ pc i
        · rw [if_pos (nI_le c2 (by unfold pc; omega))]
          exact key false (by rw [decide_eq_false (fun z => by omega)])
        · rw [if_neg (nI_ge (by omega) (by unfold pc; omega))]
          exact key true (by rw [decide_eq_true (Or.inr (by omega))])
    · have : i = 2 ^ H.1 2 := by omega
      rw [this, if_pos (nI_le (Nat.le_refl _) (by omega))]
      exact ⟨_, _, _, _, _, _, rfl⟩
theorem m_silence (N : Nat) (hN : 5000 ≤ N) {H : PH} {m ro ta : Nat → Nat} (hs : hS H m) {b k : Nat} {mmI hf ask : Nat → Int32} {stk : Nat → Int64} {X Y : Nat → Nat → Int32} (hY : mHY H b mmI Y) (hfl : mFl mmI (H.1 0)) (hL : mLay H 0 m ro ta k X) (x : Int32) : ∃ X' a s, fX12_silence N mmI (X 0) (Y 6) (X 1) (X 2) (X 3) (X 4) (X 5) (X 6) (X 7) (X 8) (Y 0) ask (Y 1) stk (Y 2) (Y 3) (Y 4) (Y 7) (Y 5) hf (Y 8) x = some (qa_silence H m ta x, X' 0, X' 1, X' 2, X' 3, X' 4, X' 5, X' 6, X' 7, X' 8, a, s, hf) ∧ mOth 1 X X' := by
  obtain ⟨b0, b1, b2, b3⟩ := hs.b
  unfold fX12_silence qa_silence
  have e1 := m_ahead N (lo := 1) (hi := 40) (ngF := X 0) hfl hL.1 b3 (by omega) (by omega) x
  show ∃ X' a s, xq_bd (fX12_isAhead N mmI (X 0) x (nI 1) (nI 40)) _ = _ ∧ _
  rw [e1, xs_bd]
  cases ha : p_ahead (H.1 0) (m 0) x 1 40 with
  | false =>
    rw [if_pos (by rfl), if_neg Bool.false_ne_true]
    exact ⟨X, ask, stk, rfl, mOth.refl _ _⟩
  | true =>
    obtain ⟨g0, n, rfl, -, g1, g2⟩ := p_ahead_yes ha
    obtain ⟨hH, hm⟩ := hs.y g0
    rw [if_neg (by decide), nI_clamp (by omega), if_pos (by rfl)]
    have h64 := xs_64 b2
    refine xs_loopI (body := fX12_silence_l17 N mmI (Y 6) (Y 0) (Y 1) (Y 2) (Y 3) (Y 4) (Y 7) (Y 5) (Y 8)) (fun k' st => ∃ X1 a s i, st = (X1 0, X1 1, X1 2, X1 3, X1 4, X1 5, X1 6, X1 7, X1 8, a, s, hf, nI n, p_st (p_bw (p_sok H m ta n) i), nI i) ∧ mOth 1 X X1 ∧ i + k' = 2 ^ H.1 2) (fun q => ∃ X' a s, q = some (p_st (p_bw (p_sok H m ta n) (2 ^ H.1 2)), X' 0, X' 1, X' 2, X' 3, X' 4, X' 5, X' 6, X' 7, X' 8, a, s, hf) ∧ mOth 1 X X') ?_ N (2 ^ H.1 2) _ ⟨X, ask, stk, 0, rfl, mOth.refl _ _, by omega⟩ (by omega)
    rintro k' st kk ⟨X1, a, s, i, rfl, ho, hi⟩ hgo
    have hrg := p_bw_rng (p_sok H m ta n) i
    have hL1 := hL.oth ho (by omega) b1 b2
    show ∃ X' a s, xq_bd (xq_ald 2 (Y 6) (mmI 13)) (fun v_11 => if (1 : Int32) <<< (v_11 &&& 31) ≤ nI i then _ else _) = _ ∧ _
    rw [hY.2.1, xs_ald hY.1 (by omega), xs_bd, hY.2.2.2.2.1, xs_one _ (by omega)]
    by_cases c : i < 2 ^ H.1 2
    · rw [if_neg (nI_ge c (by omega))]
      have hp1 := pcN_le 10 i
      have hp2 := pcN_le 10 (p_bw (p_sok H m ta n) i)
      -- a set that is tried
      have key : (p_bw (p_sok H m ta n) i = 1000 ∨ pc i < pc (p_bw (p_sok H m ta n) i)) → ∃ X' a' s', fX12_silence_b51 N mmI (Y 6) (Y 0) (Y 1) (Y 2) (Y 3) (Y 4) (Y 7) (Y 5) (Y 8) kk (X1 0, X1 1, X1 2, X1 3, X1 4, X1 5, X1 6, X1 7, X1 8, a, s, hf, nI n, p_st (p_bw (p_sok H m ta n) i), nI i) = some (p_st (p_bw (p_sok H m ta n) (2 ^ H.1 2)), X' 0, X' 1, X' 2, X' 3, X' 4, X' 5, X' 6, X' 7, X' 8, a', s', hf) ∧ mOth 1 X X' := by
        intro hy
        obtain ⟨X2, e2, e3, e4, -⟩ := m_copyL N hN b1 b2 (show 1 < 22 by omega) (show 0 < 22 by omega) (by omega) hL1
        show ∃ X' a' s', xq_bd (fX12_copies N (X1 0) (X1 1) (X1 2) (X1 3) (X1 4) (X1 5) (X1 6) (X1 7) (X1 8) (nI 1) (nI 0)) _ = _ ∧ _
        rw [e2, xs_bd]
        dsimp only
        refine xs_loopI (body := fX12_silence_l60 N mmI (Y 6) (Y 0) (Y 1) (Y 2) (Y 3) (Y 4) (Y 7) (Y 5) (Y 8) kk) (fun k2 st => ∃ X3 j, st = (X3 0, X3 1, X3 2, X3 3, X3 4, X3 5, X3 6, X3 7, X3 8, a, s, hf, nI n, p_st (p_bw (p_sok H m ta n) i), nI i, nI j) ∧ mOth 1 X X3 ∧ mLay H 1 m ro (fun q => if q < j then p_tas ta i q else ta q) k X3 ∧ j + k2 = H.1 2) (fun q => ∃ X' a' s', q = some (p_st (p_bw (p_sok H m ta n) (2 ^ H.1 2)), X' 0, X' 1, X' 2, X' 3, X' 4, X' 5, X' 6, X' 7, X' 8, a', s', hf) ∧ mOth 1 X X') ?_ N (H.1 2) _ ⟨X2, 0, rfl, ho.trans e3, e4, by omega⟩ (by omega)
        rintro k2 st kk2 ⟨X3, j, rfl, ho3, hl3, hj⟩ hgo2
        show ∃ X' a' s', xq_bd (xq_ald 2 (Y 6) (mmI 13)) (fun v_5 => if v_5 ≤ nI j then _ else _) = _ ∧ _
        rw [hY.2.1, xs_ald hY.1 (by omega), xs_bd, hY.2.2.2.2.1]
        by_cases cj : H.1 2 ≤ j
        · rw [if_pos (nI_le cj (by omega))]
          have hl4 : mLay H 1 m ro (p_tas ta i) k X3 := ⟨hl3.1, hl3.2.1, hl3.2.2.1, hl3.2.2.2.1, hl3.2.2.2.2.1, hl3.2.2.2.2.2.1, hl3.2.2.2.2.2.2.1, hl3.2.2.2.2.2.2.2.1, fun p hp => by
            have := hl3.2.2.2.2.2.2.2.2 p hp
            dsimp only at this
            rw [if_pos (by omega)] at this
            exact this⟩
          refine xs_loopI (body := fX12_silence_l106 N mmI (Y 6) (Y 0) (Y 1) (Y 2) (Y 3) (Y 4) (Y 7) (Y 5) (Y 8) kk) (fun k3 st => ∃ X4 a4 s4 q, st = (X4 0, X4 1, X4 2, X4 3, X4 4, X4 5, X4 6, X4 7, X4 8, a4, s4, hf, nI n, p_st (p_bw (p_sok H m ta n) i), nI i, p_b (decide (m 2 < p_nights H (p_tas ta i) (m 4) q m 2)), nI q) ∧ mOth 1 X X4 ∧ (∃ k4, mLay H 1 (p_nights H (p_tas ta i) (m 4) q m) ro (p_tas ta i) k4 X4) ∧ q + k3 = n) (fun z => ∃ X' a' s', z = some (p_st (p_bw (p_sok H m ta n) (2 ^ H.1 2)), X' 0, X' 1, X' 2, X' 3, X' 4, X' 5, X' 6, X' 7, X' 8, a', s', hf) ∧ mOth 1 X X') ?_ N n _ ⟨X3, a, s, 0, by show _ = (_, _, _, _, _, _, _, _, _, _, _, _, _, _, _, p_b (decide (m 2 < m 2)), _); rw [decide_eq_false (Nat.lt_irrefl _)], ho3, ⟨_, hl4⟩, by omega⟩ (by omega)
          rintro k3 st kk3 ⟨X4, a4, s4, q, rfl, ho4, ⟨k4, hl5⟩, hq⟩ hgo3
          obtain ⟨q1, q2, q3, q4⟩ := p_nights_ok hH (ta := p_tas ta i) (hu := m 4) hm q
          -- the end of a set
          have fin : ∀ z : Bool, z = p_sok H m ta n i → ∃ X' a' s', fX12_silence_b151 N mmI (Y 6) (Y 0) (Y 1) (Y 2) (Y 3) (Y 4) (Y 7) (Y 5) (Y 8) kk (X4 0, X4 1, X4 2, X4 3, X4 4, X4 5, X4 6, X4 7, X4 8, a4, s4, hf, nI n, p_st (p_bw (p_sok H m ta n) i), nI i, p_b z) = some (p_st (p_bw (p_sok H m ta n) (2 ^ H.1 2)), X' 0, X' 1, X' 2, X' 3, X' 4, X' 5, X' 6, X' 7, X' 8, a', s', hf) ∧ mOth 1 X X' := by
            intro z hz
            dsimp only [fX12_silence_b151]
            cases z with
            | false =>
              rw [if_pos (by rfl)]
              dsimp only [fX12_silence_b158]
              rw [nI_1]
              refine hgo _ (k' - 1) (by omega) ⟨X4, a4, s4, i + 1, ?_, ho4, by omega⟩
              rw [p_bw_succ, if_neg (fun w => by rw [← hz] at w; exact Bool.false_ne_true w.2)]
            | true =>
              rw [if_neg (by decide)]
              dsimp only [fX12_silence_b158]
              rw [nI_1]
              refine hgo _ (k' - 1) (by omega) ⟨X4, a4, s4, i + 1, ?_, ho4, by omega⟩
              rw [p_bw_succ, if_pos ⟨hy, hz.symm⟩]
              have : p_st i = nI i := by unfold p_st; rw [if_neg (by omega)]
              rw [this]
          show ∃ X' a' s', (if nI n ≤ nI q then _ else _) = _ ∧ _
          by_cases cq : n ≤ q
          · have : q = n := by omega
            subst this
            rw [if_pos (nI_le (Nat.le_refl _) (by omega))]
            exact fin _ rfl
          · rw [if_neg (nI_ge (by omega) (by omega))]
            by_cases cr : m 2 < p_nights H (p_tas ta i) (m 4) q m 2
            · rw [decide_eq_true cr, if_neg (by decide)]
              refine fin true ?_
              unfold p_sok
              have := p_nights_mono hH (ta := p_tas ta i) (hu := m 4) hm q (n - q)
              rw [show q + (n - q) = n by omega] at this
              rw [decide_eq_true (by omega)]
            · rw [decide_eq_false cr, if_pos (by rfl)]
              obtain ⟨a5, s5, X5, h1, h2, h3, h4, h5, h6, -⟩ := m_passX N hN hH (hf := hf) (ask := a4) (stk := s4) hY (show 1 < 22 by omega) hl5 q1
              have h6 := h6 (by omega)
              rw [q2] at h1 h6
              show ∃ X' a' s', xq_bd (fX12_passes N mmI (X4 4) (X4 3) (Y 0) (X4 0) a4 (X4 1) (X4 2) (Y 1) s4 (Y 2) (Y 3) (Y 4) (Y 6) (Y 7) (X4 7) (Y 5) hf (Y 8) (X4 5) (X4 6) (X4 8) (nI 1)) _ = _ ∧ _
              rw [h1, xs_bd]
              dsimp only
              show ∃ X' a' s', xq_bd (xq_ald 22 (X5 2) (nI 1)) (fun v_3 => xq_bd (xq_ald 22 (X5 2) (nI 0)) _) = _ ∧ _
              have hL5 := hL.oth (ho4.trans h5) (by omega) b1 b2
              rw [xs_ald (by omega) (by omega), xs_bd, xs_ald (by omega) (by omega), xs_bd, hL5.2.2.1, h6.2.2.1, ← h2, ← h3, ← h4]
              have q5 := (p_nights_ok hH (ta := p_tas ta i) (hu := m 4) hm (q + 1)).1.2.2.1
              have q6 := hm.2.2.1
              have go := hgo3 (X5 0, X5 1, X5 2, X5 3, X5 4, X5 5, X5 6, X5 7, X5 8, a5, s5, hf, nI n, p_st (p_bw (p_sok H m ta n) i), nI i, p_b (decide (m 2 < p_nights H (p_tas ta i) (m 4) (q + 1) m 2)), nI (q + 1)) (k3 - 1) (by omega) ⟨X5, a5, s5, q + 1, rfl, ho4.trans h5, ⟨_, h6⟩, by omega⟩
              show ∃ X' a' s', (if nI (p_nights H (p_tas ta i) (m 4) (q + 1) m 2) ≤ nI (m 2) then _ else _) = _ ∧ _
              by_cases cs : m 2 < p_nights H (p_tas ta i) (m 4) (q + 1) m 2
              · rw [decide_eq_true cs] at go
                rw [if_neg (nI_ge cs (by omega))]
                dsimp only [fX12_silence_b143]
                rw [nI_1]
                exact go
              · rw [decide_eq_false cs] at go
                rw [if_pos (nI_le (by omega) (by omega))]
                dsimp only [fX12_silence_b143]
                rw [nI_1]
                exact go
        · rw [if_neg (nI_ge (by omega) (by omega)), m_has2 N (by omega) (by omega), xs_bd]
          have hbit : i / 2 ^ j % 2 < 2 := Nat.mod_lt _ (by omega)
          by_cases cz : i / 2 ^ j % 2 = 0
          · rw [cz, if_pos (by rfl)]
            dsimp only [fX12_silence_b94]
            rw [nI_1]
            refine hgo2 _ (k2 - 1) (by omega) ⟨X3, j + 1, rfl, ho3, ⟨hl3.1, hl3.2.1, hl3.2.2.1, hl3.2.2.2.1, hl3.2.2.2.2.1, hl3.2.2.2.2.2.1, hl3.2.2.2.2.2.2.1, hl3.2.2.2.2.2.2.2.1, fun p hp => ?_⟩, by omega⟩
            have := hl3.2.2.2.2.2.2.2.2 p hp
            dsimp only at this ⊢
            by_cases e : p = j
            · subst e
              rw [if_neg (Nat.lt_irrefl _)] at this
              rw [if_pos (Nat.lt_succ_self _)]
              unfold p_tas
              rw [if_neg (by omega)]
              exact this
            · by_cases d : p < j
              · rw [if_pos d] at this; rw [if_pos (by omega)]; exact this
              · rw [if_neg d] at this; rw [if_neg (by omega)]; exact this
          · have cz1 : i / 2 ^ j % 2 = 1 := by omega
            rw [cz1, if_neg (by decide)]
            show ∃ X' a' s', xq_bd (xq_ast 132 (X3 7) (nI 6 + nI j) (nI 0)) _ = _ ∧ _
            rw [nI_add, xs_ast (by omega) (by omega), xs_bd]
            dsimp only [fX12_silence_b94]
            rw [nI_1]
            have e5 : mOth 1 X3 (m9 (X3 0) (X3 1) (X3 2) (X3 3) (X3 4) (X3 5) (X3 6) (upd (X3 7) (6 + j) (nI 0)) (X3 8)) := by
              refine ⟨fun u w hu hw => ?_, fun _ _ => rfl, fun w hw => ?_, fun _ _ => rfl⟩
              · have : u = 0 ∨ u = 1 ∨ u = 2 ∨ u = 3 ∨ u = 4 ∨ u = 6 := by omega
                rcases this with rfl | rfl | rfl | rfl | rfl | rfl <;> rfl
              · show upd (X3 7) (6 + j) (nI 0) w = X3 7 w
                exact pk_un (by omega)
            refine hgo2 _ (k2 - 1) (by omega) ⟨m9 (X3 0) (X3 1) (X3 2) (X3 3) (X3 4) (X3 5) (X3 6) (upd (X3 7) (6 + j) (nI 0)) (X3 8), j + 1, rfl, ho3.trans e5, ⟨hl3.1, hl3.2.1, hl3.2.2.1, hl3.2.2.2.1, hl3.2.2.2.2.1, hl3.2.2.2.2.2.1, hl3.2.2.2.2.2.2.1, hl3.2.2.2.2.2.2.2.1, fun p hp => ?_⟩, by omega⟩
            have := hl3.2.2.2.2.2.2.2.2 p hp
            dsimp only at this ⊢
            show upd (X3 7) (6 + j) (nI 0) (6 * 1 + p) = _ ∧ _
            by_cases e : p = j
            · subst e
              rw [if_pos (Nat.lt_succ_self _), Nat.mul_one, pk_us]
              unfold p_tas
              rw [if_pos cz1]
              exact ⟨rfl, by omega⟩
            · rw [pk_un (by omega)]
              by_cases d : p < j
              · rw [if_pos d] at this; rw [if_pos (by omega)]; exact this
              · rw [if_neg d] at this; rw [if_neg (by omega)]; exact this
      by_cases c1 : p_bw (p_sok H m ta n) i = 1000
      · rw [if_pos (show p_st (p_bw (p_sok H m ta n) i) = -1 by rw [c1]; rfl)]
        exact key (Or.inl c1)
      · have hlt : p_bw (p_sok H m ta n) i < i := by omega
        have est : p_st (p_bw (p_sok H m ta n) i) = nI (p_bw (p_sok H m ta n) i) := by unfold p_st; rw [if_neg c1]
        rw [if_neg (p_st_m1 (by omega)), est, m_bits N hN (by omega), xs_bd, m_bits N hN (by omega), xs_bd, ← est]
        by_cases c2 : pc i < pc (p_bw (p_sok H m ta n) i)
        · rw [if_pos (nI_lt c2 (by unfold pc; omega))]
          exact key (Or.inr c2)
        · rw [if_neg (nI_nlt (by omega) (by unfold pc; omega))]
          dsimp only [fX12_silence_b158]
          rw [nI_1]
          refine hgo _ (k' - 1) (by omega) ⟨X1, a, s, i + 1, ?_, ho, by omega⟩
          rw [p_bw_succ, if_neg (fun z => by omega)]
    · have : i = 2 ^ H.1 2 := by omega
      rw [this, if_pos (nI_le (Nat.le_refl _) (by omega))]
      exact ⟨X1, a, s, rfl, ho⟩
