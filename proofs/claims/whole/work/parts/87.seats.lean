/-! seats in the class -/
theorem c_fill (N : Nat) (hN : 5000 ≤ N) {F : Nat → Int32} {n : Nat} (hn : n ≤ 4000) (x : Int32) : ∃ F', fJ7_fill_53178 N F n x = some F' ∧ ∀ i, i < n → F' i = x := by
  refine ⟨fa_fill (fun _ => x) F n, ?_, fun i hi => fa_fill_in hi⟩
  have key := xs_loop (body := fJ7_fill_53178_l5 N n) (fun i => (fa_fill (fun _ => x) F i, x, nI i, nI n)) n (some (fa_fill (fun _ => x) F n)) ?_ ?_ N (by omega)
  · rw [fa_fill_0] at key; exact key
  · intro i hi kk
    dsimp only [fJ7_fill_53178_l5]
    rw [if_neg (nI_ge hi (by omega)), xs_ast hi (by omega), xs_bd, nI_1, ← fa_fill_succ]
  · intro kk
    dsimp only [fJ7_fill_53178_l5]
    rw [if_pos (nI_le (Nat.le_refl _) (by omega))]
/-- which EARS hear from which rows -/
def p_inc (H : PH) (m : Nat → Nat) (hu i : Nat) : Nat := if i / 10 < H.1 1 then p_bit (p_hear H (m 0) hu (H.2.1 1 (i / 10)) (i % 10) (p_far H (m 1))) else 0
theorem p_inc_le (H : PH) (m : Nat → Nat) (hu i : Nat) : p_inc H m hu i ≤ 1 := by
  unfold p_inc p_bit
  split
  · split <;> omega
  · omega
theorem p_inc_at {H : PH} {m : Nat → Nat} {hu e r : Nat} (he : e < H.1 1) (hr : r < 10) : p_inc H m hu (10 * e + r) = p_bit (p_hear H (m 0) hu (H.2.1 1 e) r (p_far H (m 1))) := by
  unfold p_inc
  have e1 : (10 * e + r) / 10 = e := by omega
  have e2 : (10 * e + r) % 10 = r := by omega
  rw [e1, e2, if_pos he]
theorem c_counts (N : Nat) (hN : 5000 ≤ N) {H : PH} (hH : ph_ok H) {homeI home_sharpsF home_placeMilesF home_goesF home_hearsF home_talkForF : Nat → Int32} {home_goesN home_hearsN home_talkForN : Nat} (hc : cH H homeI home_sharpsF home_placeMilesF home_goesF home_hearsF home_talkForF home_goesN home_hearsN home_talkForN) {walkI vals stk gF : Nat → Int32} {m g : Nat → Nat} (hw : cM walkI m) (hm : p_mok H m) (hg : ∀ i, i < 70 → gF i = nI (g i) ∧ g i ≤ 1000) : ∃ v s gF', fX11_countGains N homeI walkI vals home_sharpsF home_hearsF stk gF home_hearsN = some (v, s, gF') ∧ ∀ i, i < 70 → gF' i = nI (g i + p_inc H m (m 4) i) := by
  have g7 := hH.2.2.1
  refine xs_loopI (body := fX11_countGains_l2 N homeI walkI home_sharpsF home_hearsF home_hearsN) (fun k st => ∃ v s g1 e, st = (v, s, g1, nI e) ∧ e + k = H.1 1 ∧ ∀ i, i < 70 → g1 i = nI (if i < 10 * e then g i + p_inc H m (m 4) i else g i)) (fun q => ∃ v s gF', q = some (v, s, gF') ∧ ∀ i, i < 70 → gF' i = nI (g i + p_inc H m (m 4) i)) ?_ N (H.1 1) _ ⟨vals, stk, gF, 0, rfl, by omega, fun i hi => by rw [if_neg (by omega)]; exact (hg i hi).1⟩ (by omega)
  rintro k st kk ⟨v, s, g1, e, rfl, he, h1⟩ hgo
  show ∃ v' s' gF', (if homeI 5 ≤ nI e then _ else _) = _ ∧ _
  rw [hc.2.1]
  by_cases c : H.1 1 ≤ e
  · rw [if_pos (nI_le c (by omega))]
    refine ⟨v, s, g1, rfl, fun i hi => ?_⟩
    rw [h1 i hi]
    by_cases d : i < 10 * e
    · rw [if_pos d]
    · rw [if_neg d]
      have : p_inc H m (m 4) i = 0 := by unfold p_inc; rw [if_neg (by omega)]
      rw [this]; rfl
  · rw [if_neg (nI_ge (by omega) (by omega))]
    refine xs_loopI (body := fX11_countGains_l15 N homeI walkI home_sharpsF home_hearsF home_hearsN kk) (fun k2 st => ∃ v s g2 r, st = (v, s, g2, nI e, nI r) ∧ r + k2 = 10 ∧ ∀ i, i < 70 → g2 i = nI (if i < 10 * e + r then g i + p_inc H m (m 4) i else g i)) (fun q => ∃ v s gF', q = some (v, s, gF') ∧ ∀ i, i < 70 → gF' i = nI (g i + p_inc H m (m 4) i)) ?_ N 10 _ ⟨v, s, g1, 0, rfl, by omega, h1⟩ (by omega)
    rintro k2 st kk2 ⟨v2, s2, g2, r, rfl, hr, h2⟩ hgo2
    show ∃ v' s' gF', (if (10 : Int32) ≤ nI r then _ else _) = _ ∧ _
    by_cases d : r < 10
    · rw [if_neg (show ¬ (10 : Int32) ≤ nI r from nI_ge (b := 10) d (by omega)), hw 4 (by omega)]
      obtain ⟨v3, s3, e3⟩ := c_hears N hN hH (vals := v2) (stk := s2) (hu := m 4) (row := r) hc.2.2.2.2.2.2.1 hc.1 (hc.2.2.2.2.1 e (by omega)) (show e < H.1 1 by omega) (hw 0 (by omega)) (hw 1 (by omega)) (by have := hm.1; omega) (by have := hm.2.1; omega) (by omega) (by have := hm.2.2.2.2; omega)
      rw [e3, xs_bd]
      dsimp only
      have hi := p_inc_at (H := H) (m := m) (hu := m 4) (e := e) (r := r) (by omega) d
      have step : ∀ (g3 : Nat → Int32), g3 (10 * e + r) = nI (g (10 * e + r) + p_inc H m (m 4) (10 * e + r)) → (∀ i, i ≠ 10 * e + r → g3 i = g2 i) → ∀ i, i < 70 → g3 i = nI (if i < 10 * e + (r + 1) then g i + p_inc H m (m 4) i else g i) := by
        intro g3 q1 q2 i hi
        by_cases z : i = 10 * e + r
        · subst z; rw [q1, if_pos (by omega)]
        · rw [q2 i z, h2 i hi]
          by_cases w : i < 10 * e + r
          · rw [if_pos w, if_pos (by omega)]
          · rw [if_neg w, if_neg (by omega)]
      have hcur := h2 (10 * e + r) (by omega)
      rw [if_neg (Nat.lt_irrefl _)] at hcur
      cases hq : p_hear H (m 0) (m 4) (H.2.1 1 e) r (p_far H (m 1)) with
      | false =>
        rw [if_pos (by rfl)]
        dsimp only [fX11_countGains_b62]
        rw [nI_1]
        refine hgo2 _ (k2 - 1) (by omega) ⟨v3, s3, g2, r + 1, rfl, by omega, step g2 ?_ (fun _ _ => rfl)⟩
        rw [hi, hq, hcur]; rfl
      | true =>
        have e10 : nI e * 10 + nI r = nI (10 * e + r) := by
          show nI e * nI 10 + nI r = _
          rw [pk_mul, nI_add, Nat.mul_comm]
        rw [if_neg (by decide), e10, xs_ald (show 10 * e + r < 70 by omega) (by omega), xs_bd, hcur, nI_1, xs_ast (show 10 * e + r < 70 by omega) (by omega), xs_bd]
        dsimp only [fX11_countGains_b62]
        rw [nI_1]
        refine hgo2 _ (k2 - 1) (by omega) ⟨v3, s3, _, r + 1, rfl, by omega, step _ ?_ (fun i hi => pk_un hi)⟩
        rw [pk_us, hi, hq]; rfl
    · have : r = 10 := by omega
      subst this
      rw [if_pos (show (10 : Int32) ≤ nI 10 from by decide), nI_1]
      refine hgo _ (k - 1) (by omega) ⟨v2, s2, g2, e + 1, rfl, by omega, fun i hi => ?_⟩
      rw [h2 i hi, show 10 * (e + 1) = 10 * e + 10 by omega]
/-- in how many of n NIGHTS each EAR hears from each row -/
def p_gn (H : PH) (m ta : Nat → Nat) : Nat → Nat → Nat
  | 0, _ => 0
  | n + 1, i => p_gn H m ta n i + p_inc H (p_move H (p_nights H ta (m 4) n m) ta (m 4)) (m 4) i
theorem p_gn_le (H : PH) (m ta : Nat → Nat) (i : Nat) : ∀ n, p_gn H m ta n i ≤ n
  | 0 => Nat.le_refl _
  | n + 1 => by
    have := p_gn_le H m ta i n
    have := p_inc_le H (p_move H (p_nights H ta (m 4) n m) ta (m 4)) (m 4) i
    show p_gn H m ta n i + _ ≤ n + 1
    omega
def p_G (H : PH) (m ta : Nat → Nat) (n e r : Nat) : Nat := p_gn H m ta n (10 * e + r)
def qa_seats (H : PH) (m ta : Nat → Nat) (x y : Int32) : Int32 := if p_ahead (H.1 0) (m 0) x 1 40 = true ∧ (y = -1 ∨ p_one_of (H.1 1) y = true) then (if y = -1 then nI (st_V (p_G H m ta x.toNatClampNeg) (H.1 1) 0 0) else nI (st_sr (p_G H m ta x.toNatClampNeg) (H.1 1) y.toNatClampNeg)) else -1
theorem c_seats (N : Nat) (hN : 5000 ≤ N) {H : PH} {m ro ta : Nat → Nat} (hs : hS H m) {homeI home_sharpsF home_placeMilesF home_goesF home_hearsF home_talkForF : Nat → Int32} {home_goesN home_hearsN home_talkForN : Nat} (hc : cH H homeI home_sharpsF home_placeMilesF home_goesF home_hearsF home_talkForF home_goesN home_hearsN home_talkForN) {nowI now_rowsF now_talksF : Nat → Int32} (hn : cNow H m ro ta nowI now_rowsF now_talksF) {seating_gainsF walkI walk_rowsF walk_talksF seating_bestF seating_rowsF course_valuesF course_stackF : Nat → Int32} (x y : Int32) : ∃ g w r t b q v s, fX11_seats N homeI nowI seating_gainsF walkI now_rowsF walk_rowsF now_talksF walk_talksF seating_bestF seating_rowsF course_valuesF home_goesF course_stackF home_talkForF home_placeMilesF home_sharpsF home_hearsF home_goesN home_talkForN home_hearsN x y = some (qa_seats H m ta x y, g, w, r, t, b, q, v, s) := by
  obtain ⟨b0, b1, b2, b3⟩ := hs.b
  unfold fX11_seats qa_seats
  have e1 := c_comes N (lo := 1) (hi := 40) hc.1 (hn.1 0 (by omega)) b0 b3 (by omega) (by omega) x
  show ∃ g w r t b q v s, xq_bd (fX11_comes N homeI nowI x (nI 1) (nI 40)) _ = _
  rw [e1, xs_bd]
  cases ha : p_ahead (H.1 0) (m 0) x 1 40 with
  | false =>
    rw [if_pos (by rfl), if_neg (fun z => Bool.false_ne_true z.1)]
    exact ⟨_, _, _, _, _, _, _, _, rfl⟩
  | true =>
    obtain ⟨g0, n, rfl, -, g1, g2⟩ := p_ahead_yes ha
    obtain ⟨hH, hm⟩ := hs.y g0
    rw [if_neg (by decide), nI_clamp (by omega)]
    have hGle : ∀ e r, p_G H m ta n e r ≤ 40 := fun e r => by have := p_gn_le H m ta (10 * e + r) n; unfold p_G; omega
    have main : (y = -1 ∨ p_one_of (H.1 1) y = true) → ∃ g w r t b q v s, fX11_seats_b26 N homeI nowI now_rowsF now_talksF home_goesF home_talkForF home_placeMilesF home_sharpsF home_hearsF home_goesN home_talkForN home_hearsN (seating_gainsF, walkI, walk_rowsF, walk_talksF, seating_bestF, seating_rowsF, course_valuesF, course_stackF, nI n, y) = some ((if y = -1 then nI (st_V (p_G H m ta n) (H.1 1) 0 0) else nI (st_sr (p_G H m ta n) (H.1 1) y.toNatClampNeg)), g, w, r, t, b, q, v, s) := by
      intro hy
      dsimp only [fX11_seats_b26]
      obtain ⟨F', e2, e3⟩ := c_fill N hN (F := seating_gainsF) (n := 70) (by omega) 0
      rw [e2, xs_bd]
      obtain ⟨w, r, t, e4, e5, e6, e7⟩ := c_copy N (walkI := walkI) (rowsF := now_rowsF) (wrF := walk_rowsF) (talksF := now_talksF) (wtF := walk_talksF) hn.1
      rw [e4, xs_bd]
      dsimp only
      refine xs_loopI (body := fX11_seats_l50 N homeI nowI now_rowsF now_talksF home_goesF home_talkForF home_placeMilesF home_sharpsF home_hearsF home_goesN home_talkForN home_hearsN) (fun k st => ∃ gF w1 v s i, st = (gF, w1, r, t, seating_bestF, seating_rowsF, v, s, nI n, y, nI i) ∧ i + k = n ∧ cM w1 (p_nights H ta (m 4) i m) ∧ ∀ j, j < 70 → gF j = nI (p_gn H m ta i j)) (fun z => ∃ g w r t b q v s, z = some ((if y = -1 then nI (st_V (p_G H m ta n) (H.1 1) 0 0) else nI (st_sr (p_G H m ta n) (H.1 1) y.toNatClampNeg)), g, w, r, t, b, q, v, s)) ?_ N n _ ⟨F', w, course_valuesF, course_stackF, 0, rfl, by omega, e5, fun j hj => by rw [e3 j hj]; rfl⟩ (by omega)
      rintro k st kk ⟨gF, w1, v, s, i, rfl, hi, hw, hg⟩ hgo
      show ∃ g w r t b q v s, (if nI n ≤ nI i then _ else _) = _
      by_cases c : n ≤ i
      · have : i = n := by omega
        subst this
        obtain ⟨b', r', f1, f2, f3⟩ := c_settle N hN (G := p_G H m ta i) (E := H.1 1) (gF := gF) hGle (fun e r he hr => hg _ (by omega)) b1 (bF := seating_bestF) (rF := seating_rowsF)
        rw [if_pos (nI_le (Nat.le_refl _) (by omega)), hc.2.1, f1, xs_bd]
        dsimp only
        by_cases cy : y = -1
        · rw [if_pos cy, if_pos cy]
          show ∃ g w r t b q v s, xq_bd (xq_ald 1024 b' (nI 0)) _ = _
          rw [xs_ald (by omega) (by omega), xs_bd, f2]
          exact ⟨_, _, _, _, _, _, _, _, rfl⟩
        · have hy := hy.resolve_left cy
          obtain ⟨e, rfl, he⟩ := p_one_yes hy
          rw [if_neg cy, if_neg cy, xs_ald (show e < 7 by omega) (by omega), xs_bd, f3 e he, nI_clamp (by omega)]
          exact ⟨_, _, _, _, _, _, _, _, rfl⟩
      · obtain ⟨p1, p2, p3, p4⟩ := p_nights_ok hH (ta := ta) (hu := m 4) hm i
        rw [if_neg (nI_ge (by omega) (by omega)), hw 4 (by omega), p2]
        obtain ⟨m1, v1, s1, f1, f2⟩ := c_move N hN hH hc (moI := w1) (vals := v) (stk := s) (talksF := t) (hu := m 4) hw p1 (fun p hp => ⟨(e7 p (by omega)).trans (hn.2.2 p hp).1, (hn.2.2 p hp).2⟩) (by have := hm.2.2.2.2; omega)
        rw [f1, xs_bd]
        dsimp only
        obtain ⟨q1, q2, q3, q4⟩ := p_move_ok (ta := ta) (hu := m 4) hH p1
        obtain ⟨v2, s2, gF2, f3, f4⟩ := c_counts N hN hH hc (walkI := m1) (vals := v1) (stk := s1) f2 q1 (fun j hj => ⟨hg j hj, by have := p_gn_le H m ta j i; omega⟩)
        rw [f3, xs_bd]
        dsimp only
        obtain ⟨m2, f5, f6⟩ := c_nextNight N f2 q1.1
        rw [f5, xs_bd, nI_1]
        refine hgo _ (k - 1) (by omega) ⟨gF2, m2, v2, s2, i + 1, rfl, by omega, ?_, fun j hj => ?_⟩
        · show cM m2 (va_up _ 0 (min 999 (p_nights H ta (m 4) i m 0 + 1)))
          rw [← q2]; exact f6
        · rw [f4 j hj, q3, p2]; rfl
    by_cases cy : y = -1
    · rw [if_pos cy, if_pos (show true = true ∧ _ from ⟨rfl, Or.inl cy⟩)]
      exact main (Or.inl cy)
    · rw [if_neg cy, c_isEar N hc.2.1 (by omega), xs_bd]
      cases hx : p_one_of (H.1 1) y with
      | false =>
        rw [if_pos (by rfl), if_neg (fun z => by rcases z.2 with w | w; exact cy w; exact Bool.false_ne_true w)]
        exact ⟨_, _, _, _, _, _, _, _, rfl⟩
      | true =>
        rw [if_neg (by decide), if_pos ⟨rfl, Or.inr rfl⟩]
        exact main (Or.inr hx)
