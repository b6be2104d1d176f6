/-! who hears, a NIGHT, n NIGHTS in the class -/
def p_bits (H : PH) (ng hu mi : Nat) (rows : Nat → Nat) : Nat → Nat
  | 0 => 0
  | e + 1 => p_bits H ng hu mi rows e + if p_hear H ng hu (H.2.1 1 e) (rows e) (p_far H mi) = true then 2 ^ e else 0
def p_set (H : PH) (m rows : Nat → Nat) (hu : Nat) : Nat := p_bits H (m 0) hu (m 1) rows (H.1 1)
theorem p_bits_lt (H : PH) (ng hu mi : Nat) (rows : Nat → Nat) : ∀ e, p_bits H ng hu mi rows e < 2 ^ e
  | 0 => Nat.one_pos
  | e + 1 => by
    have ih := p_bits_lt H ng hu mi rows e
    show p_bits H ng hu mi rows e + (if _ then 2 ^ e else 0) < 2 ^ (e + 1)
    rw [Nat.pow_succ]
    generalize 2 ^ e = q at ih ⊢
    split <;> omega
theorem p_set_lt {H : PH} (h : H.1 1 ≤ 7) (m rows : Nat → Nat) (hu : Nat) : p_set H m rows hu < 128 :=
  Nat.lt_of_lt_of_le (p_bits_lt H _ _ _ _ _) (Nat.pow_le_pow_right (n := 2) (by omega) h)
theorem xs_one : ∀ e, e < 31 → (1 : Int32) <<< (nI e &&& 31) = nI (2 ^ e) := by decide
theorem xs_orbit {a e : Nat} (h : a < 2 ^ e) (he : e < 31) : nI a ||| ((1 : Int32) <<< (nI e &&& 31)) = nI (a + 2 ^ e) := by
  rw [xs_one e he, fa_or, Nat.or_comm]
  have := fa_or_sum (k := e) 1 h
  rw [fa_or, Nat.mul_one] at this
  rw [this, Nat.add_comm]
theorem c_ears (N : Nat) (hN : 5000 ≤ N) {H : PH} (hH : ph_ok H) {homeI home_sharpsF home_placeMilesF home_goesF home_hearsF home_talkForF : Nat → Int32} {home_goesN home_hearsN home_talkForN : Nat} (hc : cH H homeI home_sharpsF home_placeMilesF home_goesF home_hearsF home_talkForF home_goesN home_hearsN home_talkForN) {moI vals stk rowsF : Nat → Int32} {m ro : Nat → Nat} {hu : Nat} (hm : cM moI m) (hk : p_mok H m) (ht : ∀ k, k < H.1 1 → rowsF k = nI (ro k) ∧ ro k ≤ 9) (hh : hu ≤ 1000) :
    ∃ v' s', fX0_earsHearing N homeI moI rowsF vals home_sharpsF home_hearsF stk home_hearsN (nI hu) = some (nI (p_set H m ro hu), v', s') := by
  obtain ⟨c1, c5, c6, cp, cs, cg, ch, ct⟩ := hc
  obtain ⟨m0, m1, m2, m3, m4⟩ := hk
  have g7 := hH.2.2.1
  refine xs_loopI (body := fX0_earsHearing_l5 N homeI moI rowsF home_sharpsF home_hearsF home_hearsN) (fun n st => ∃ v s e, st = (v, s, nI hu, nI (p_bits H (m 0) hu (m 1) ro e), nI e) ∧ e + n = H.1 1) (fun r => ∃ v' s', r = some (nI (p_set H m ro hu), v', s')) ?_ N (H.1 1) _ ⟨vals, stk, 0, rfl, by omega⟩ (by omega)
  rintro n st kk ⟨v, s, e, rfl, hn⟩ hgo
  show ∃ v' s', (if homeI 5 ≤ nI e then _ else xq_bd (xq_ald 7 rowsF (nI e)) _) = some (nI (p_set H m ro hu), v', s')
  rw [c5]
  by_cases c : H.1 1 ≤ e
  · rw [if_pos (nI_le c (by omega))]
    have : e = H.1 1 := by omega
    exact ⟨v, s, by rw [this]; rfl⟩
  · have hlt : e < H.1 1 := by omega
    rw [if_neg (nI_ge hlt (by omega)), xs_ald (by omega) (by omega), xs_bd, (ht e hlt).1]
    obtain ⟨v2, s2, e2⟩ := c_hears N hN hH (vals := v) (stk := s) (hu := hu) (row := ro e) ch c1 (cs e hlt) hlt (hm 0 (by omega)) (hm 1 (by omega)) (by omega) (by omega) (by have := (ht e hlt).2; omega) hh
    rw [e2, xs_bd]
    show ∃ v' s', (if p_b (p_hear H (m 0) hu (H.2.1 1 e) (ro e) (p_far H (m 1))) = 0 then kk (v2, s2, nI hu, _, nI e + 1) else kk (v2, s2, nI hu, _, nI e + 1)) = _
    have hb := p_bits_lt H (m 0) hu (m 1) ro e
    cases hq : p_hear H (m 0) hu (H.2.1 1 e) (ro e) (p_far H (m 1)) with
    | false =>
      rw [if_pos (by rfl)]
      refine hgo _ (n - 1) (by omega) ⟨v2, s2, e + 1, ?_, by omega⟩
      rw [nI_1]
      show _ = (v2, s2, nI hu, nI (p_bits H (m 0) hu (m 1) ro e + if _ = true then 2 ^ e else 0), nI (e + 1))
      rw [hq, if_neg (by decide)]
      rfl
    | true =>
      rw [if_neg (by decide)]
      refine hgo _ (n - 1) (by omega) ⟨v2, s2, e + 1, ?_, by omega⟩
      rw [nI_1, xs_orbit hb (by omega)]
      show _ = (v2, s2, nI hu, nI (p_bits H (m 0) hu (m 1) ro e + if _ = true then 2 ^ e else 0), nI (e + 1))
      rw [hq, if_pos rfl]
def p_night (H : PH) (ta : Nat → Nat) (hu : Nat) (m : Nat → Nat) : Nat → Nat := va_up (p_move H m ta hu) 0 (min 999 (m 0 + 1))
def p_nights (H : PH) (ta : Nat → Nat) (hu : Nat) : Nat → (Nat → Nat) → Nat → Nat
  | 0, m => m
  | n + 1, m => p_night H ta hu (p_nights H ta hu n m)
/-- who hears in the NIGHT AHEAD of number i -/
def p_heard (H : PH) (ta ro : Nat → Nat) (hu : Nat) (m : Nat → Nat) (i : Nat) : Nat := p_set H (p_move H (p_nights H ta hu i m) ta hu) ro hu
theorem p_night_ok {H : PH} (hH : ph_ok H) {m ta : Nat → Nat} {hu : Nat} (h : p_mok H m) : p_mok H (p_night H ta hu m) ∧ p_night H ta hu m 4 = m 4 ∧ p_night H ta hu m 5 = m 5 := by
  obtain ⟨⟨a0, a1, a2, a3, a4⟩, b0, b4, b5⟩ := p_move_ok (ta := ta) (hu := hu) hH h
  exact ⟨⟨by show min 999 (m 0 + 1) ≤ 999; omega, a1, a2, a3, a4⟩, b4, b5⟩
theorem p_nights_ok {H : PH} (hH : ph_ok H) {m ta : Nat → Nat} {hu : Nat} (h : p_mok H m) : ∀ n, p_mok H (p_nights H ta hu n m) ∧ p_nights H ta hu n m 4 = m 4 ∧ p_nights H ta hu n m 5 = m 5 ∧ p_nights H ta hu n m 0 = min 999 (m 0 + n)
  | 0 => ⟨h, rfl, rfl, by show m 0 = _; have := h.1; omega⟩
  | n + 1 => by
    obtain ⟨a, b, c, d⟩ := p_nights_ok hH (ta := ta) (hu := hu) h n
    obtain ⟨a2, b2, c2⟩ := p_night_ok (ta := ta) (hu := hu) hH a
    refine ⟨a2, b2.trans b, c2.trans c, ?_⟩
    show min 999 (p_nights H ta hu n m 0 + 1) = _
    rw [d]; omega
theorem c_nextNight (N : Nat) {moI : Nat → Int32} {m : Nat → Nat} (hm : cM moI m) (h0 : m 0 ≤ 999) : ∃ moI', fX6_nextNight N moI = some moI' ∧ cM moI' (va_up m 0 (min 999 (m 0 + 1))) := by
  unfold fX6_nextNight
  refine ⟨_, rfl, ?_⟩
  rw [hm 0 (by omega), nI_1]
  show cM (va_up moI 0 (xq_min (nI 999) _)) _
  rw [xs_min (by omega) (by omega)]
  exact cM_up hm 0 _
theorem c_pass (N : Nat) (hN : 5000 ≤ N) {H : PH} (hH : ph_ok H) {homeI home_sharpsF home_placeMilesF home_goesF home_hearsF home_talkForF : Nat → Int32} {home_goesN home_hearsN home_talkForN : Nat} (hc : cH H homeI home_sharpsF home_placeMilesF home_goesF home_hearsF home_talkForF home_goesN home_hearsN home_talkForN) {moI vals stk rowsF talksF hF : Nat → Int32} {m ro ta : Nat → Nat} {hu n : Nat} (hm : cM moI m) (hk : p_mok H m) (hr : ∀ k, k < H.1 1 → rowsF k = nI (ro k) ∧ ro k ≤ 9) (ht : ∀ k, k < H.1 2 → talksF k = nI (ta k) ∧ ta k ≤ 9) (hh : hu ≤ 1000) (hn : n ≤ 60) :
    ∃ moI' v' s', fX0_passNights N hF moI vals homeI home_goesF stk talksF home_talkForF home_placeMilesF rowsF home_sharpsF home_hearsF 60 home_goesN home_talkForN home_hearsN (nI hu) (nI n) = some (fa_fill (fun i => nI (p_heard H ta ro hu m i)) hF n, moI', v', s') ∧ cM moI' (p_nights H ta hu n m) := by
  refine xs_loopI (body := fX0_passNights_l3 N homeI home_goesF talksF home_talkForF home_placeMilesF rowsF home_sharpsF home_hearsF 60 home_goesN home_talkForN home_hearsN) (fun k st => ∃ mo v s i, st = (fa_fill (fun i => nI (p_heard H ta ro hu m i)) hF i, mo, v, s, nI hu, nI n, nI i) ∧ cM mo (p_nights H ta hu i m) ∧ i + k = n) (fun r => ∃ moI' v' s', r = some (fa_fill (fun i => nI (p_heard H ta ro hu m i)) hF n, moI', v', s') ∧ cM moI' (p_nights H ta hu n m)) ?_ N n _ ⟨moI, vals, stk, 0, by rw [fa_fill_0]; rfl, hm, by omega⟩ (by omega)
  rintro k st kk ⟨mo, v, s, i, rfl, hmo, hi⟩ hgo
  show ∃ moI' v' s', (if nI n ≤ nI i then _ else (if nI 60 ≤ nI i then _ else _)) = some (fa_fill (fun i => nI (p_heard H ta ro hu m i)) hF n, moI', v', s') ∧ _
  by_cases c : n ≤ i
  · rw [if_pos (nI_le c (by omega))]
    have : i = n := by omega
    subst this
    exact ⟨mo, v, s, rfl, hmo⟩
  · have hlt : i < n := by omega
    rw [if_neg (nI_ge hlt (by omega)), if_neg (nI_ge (show i < 60 by omega) (by omega))]
    have hk2 := (p_nights_ok hH (ta := ta) (hu := hu) hk i).1
    obtain ⟨m1, v1, s1, e1, e2⟩ := c_move N hN hH hc (moI := mo) (vals := v) (stk := s) (hu := hu) hmo hk2 ht hh
    rw [e1, xs_bd]
    have hk3 := p_move_ok (ta := ta) (hu := hu) hH hk2
    obtain ⟨v2, s2, e3⟩ := c_ears N hN hH hc (moI := m1) (vals := v1) (stk := s1) (hu := hu) e2 hk3.1 hr hh
    show ∃ moI' v' s', xq_bd (fX0_earsHearing N homeI m1 rowsF v1 home_sharpsF home_hearsF s1 home_hearsN (nI hu)) _ = _ ∧ _
    rw [e3, xs_bd]
    show ∃ moI' v' s', xq_bd (xq_ast 60 _ (nI i) _) _ = _ ∧ _
    rw [xs_ast (by omega) (by omega), xs_bd]
    obtain ⟨m2, e4, e5⟩ := c_nextNight N e2 hk3.1.1
    rw [e4, xs_bd]
    refine hgo _ (k - 1) (by omega) ⟨m2, v2, s2, i + 1, ?_, ?_, by omega⟩
    · rw [nI_1, ← fa_fill_succ]; rfl
    · show cM m2 (va_up _ 0 (min 999 (p_nights H ta hu i m 0 + 1)))
      rw [← hk3.2.1]
      exact e5
