/-! a NIGHT's first half in the class -/
def p_move (H : PH) (m ta : Nat → Nat) (hu : Nat) : Nat → Nat :=
  if 0 < m 3 then va_up m 3 (m 3 - 1)
  else va_up (va_up (va_up m 1 (p_walk H (p_pace H (m 0) hu (m 1) (m 2)) (m 1) (m 2)).1) 2 (p_walk H (p_pace H (m 0) hu (m 1) (m 2)) (m 1) (m 2)).2.1) 3 (if (p_walk H (p_pace H (m 0) hu (m 1) (m 2)) (m 1) (m 2)).2.2 < H.1 2 then p_talk H (m 0) hu (ta (p_walk H (p_pace H (m 0) hu (m 1) (m 2)) (m 1) (m 2)).2.2) else m 3)
def cM (moI : Nat → Int32) (m : Nat → Nat) : Prop := ∀ j, j < 6 → moI j = nI (m j)
def p_mok (H : PH) (m : Nat → Nat) : Prop := m 0 ≤ 999 ∧ m 1 < H.1 0 ∧ m 2 ≤ 999 ∧ m 3 ≤ 20 ∧ m 4 ≤ 9
theorem cM_up {moI : Nat → Int32} {m : Nat → Nat} (h : cM moI m) (k x : Nat) : cM (va_up moI k (nI x)) (va_up m k x) := fun j hj => by
  unfold va_up
  by_cases c : j = k
  · rw [if_pos c, if_pos c]
  · rw [if_neg c, if_neg c]; exact h j hj
theorem p_walk_succ (H : PH) (s m r : Nat) : p_walk H (s + 1) m r = if p_at H (if m + 1 = H.1 0 then 0 else m + 1) < H.1 2 then (if m + 1 = H.1 0 then 0 else m + 1, if m + 1 = H.1 0 then min 999 (r + 1) else r, p_at H (if m + 1 = H.1 0 then 0 else m + 1)) else p_walk H s (if m + 1 = H.1 0 then 0 else m + 1) (if m + 1 = H.1 0 then min 999 (r + 1) else r) := rfl
theorem p_walk_rng {H : PH} (h0 : 5 ≤ H.1 0) : ∀ (s m r : Nat), m < H.1 0 → r ≤ 999 → (p_walk H s m r).1 < H.1 0 ∧ (p_walk H s m r).2.1 ≤ 999 ∧ (p_walk H s m r).2.2 ≤ H.1 2
  | 0, m, r, hm, hr => ⟨hm, hr, Nat.le_refl _⟩
  | s + 1, m, r, hm, hr => by
    have a : (if m + 1 = H.1 0 then 0 else m + 1) < H.1 0 := by split <;> omega
    have b : (if m + 1 = H.1 0 then min 999 (r + 1) else r) ≤ 999 := by split <;> omega
    rw [p_walk_succ]
    by_cases c : p_at H (if m + 1 = H.1 0 then 0 else m + 1) < H.1 2
    · rw [if_pos c]; exact ⟨a, b, Nat.le_of_lt c⟩
    · rw [if_neg c]; exact p_walk_rng h0 s _ _ a b
theorem p_move_ok {H : PH} (hH : ph_ok H) {m ta : Nat → Nat} {hu : Nat} (h : p_mok H m) : p_mok H (p_move H m ta hu) ∧ p_move H m ta hu 0 = m 0 ∧ p_move H m ta hu 4 = m 4 ∧ p_move H m ta hu 5 = m 5 := by
  obtain ⟨h0, h1, h2, h3, h4⟩ := h
  unfold p_move
  split
  · exact ⟨⟨h0, h1, h2, by show m 3 - 1 ≤ 20; omega, h4⟩, rfl, rfl, rfl⟩
  · have a := p_walk_rng hH.1 (p_pace H (m 0) hu (m 1) (m 2)) (m 1) (m 2) h1 h2
    refine ⟨⟨h0, a.1, a.2.1, ?_, h4⟩, rfl, rfl, rfl⟩
    show (if _ < H.1 2 then _ else m 3) ≤ 20
    split
    · exact p_cut_le 20 _
    · exact h3
/-- the class's search for the first PLACE on the way -/
def p_ps (H : PH) (m s : Nat) : Nat → Nat × Nat
  | 0 => (s, 1000)
  | i + 1 => if (p_ps H m s i).1 < p_way H m i then p_ps H m s i else (p_way H m i, i)
theorem p_ps_succ (H : PH) (m s i : Nat) : p_ps H m s (i + 1) = if (p_ps H m s i).1 < p_way H m i then p_ps H m s i else (p_way H m i, i) := rfl
theorem p_ps_inv {H : PH} {m s : Nat} : ∀ i, ((p_ps H m s i).2 = 1000 ∧ (p_ps H m s i).1 = s ∧ ∀ k, k < i → s < p_way H m k) ∨ ((p_ps H m s i).2 < i ∧ (p_ps H m s i).1 = p_way H m (p_ps H m s i).2 ∧ (p_ps H m s i).1 ≤ s ∧ ∀ k, k < i → (p_ps H m s i).1 ≤ p_way H m k)
  | 0 => Or.inl ⟨rfl, rfl, fun k hk => absurd hk (Nat.not_lt_zero _)⟩
  | i + 1 => by
    have ih := p_ps_inv (H := H) (m := m) (s := s) i
    rw [p_ps_succ]
    by_cases c : (p_ps H m s i).1 < p_way H m i
    · rw [if_pos c]
      rcases ih with ⟨a, b, d⟩ | ⟨a, b, d, e⟩
      · refine Or.inl ⟨a, b, fun k hk => ?_⟩
        by_cases q : k = i
        · rw [q, ← b]; exact c
        · exact d k (by omega)
      · refine Or.inr ⟨by omega, b, d, fun k hk => ?_⟩
        by_cases q : k = i
        · rw [q]; omega
        · exact e k (by omega)
    · rw [if_neg c]
      refine Or.inr ⟨Nat.lt_succ_self i, rfl, ?_, fun k hk => ?_⟩
      · show p_way H m i ≤ s
        rcases ih with ⟨a, b, d⟩ | ⟨a, b, d, e⟩ <;> omega
      · show p_way H m i ≤ p_way H m k
        by_cases q : k = i
        · rw [q]; exact Nat.le_refl _
        · rcases ih with ⟨a, b, d⟩ | ⟨a, b, d, e⟩
          · have := d k (by omega); omega
          · have := e k (by omega); omega
def p_st (x : Nat) : Int32 := if x = 1000 then -1 else nI x
theorem c_move (N : Nat) (hN : 5000 ≤ N) {H : PH} (hH : ph_ok H) {homeI home_sharpsF home_placeMilesF home_goesF home_hearsF home_talkForF : Nat → Int32} {home_goesN home_hearsN home_talkForN : Nat} (hc : cH H homeI home_sharpsF home_placeMilesF home_goesF home_hearsF home_talkForF home_goesN home_hearsN home_talkForN) {moI vals stk talksF : Nat → Int32} {m ta : Nat → Nat} {hu : Nat} (hm : cM moI m) (hk : p_mok H m) (ht : ∀ k, k < H.1 2 → talksF k = nI (ta k) ∧ ta k ≤ 9) (hh : hu ≤ 1000) :
    ∃ moI' v' s', fX0_move N moI vals homeI home_goesF stk talksF home_talkForF home_placeMilesF home_goesN home_talkForN (nI hu) = some (moI', v', s') ∧ cM moI' (p_move H m ta hu) := by
  obtain ⟨c1, c5, c6, cp, cs, cg, ch, ct⟩ := hc
  obtain ⟨m0, m1, m2, m3, m4⟩ := hk
  have g200 := hH.2.1
  have g6 := hH.2.2.2.1
  unfold fX0_move p_move
  rw [hm 3 (by omega)]
  by_cases q : 0 < m 3
  · rw [if_neg (nI_nle q (by omega)), if_pos q]
    refine ⟨_, _, _, rfl, ?_⟩
    have e : nI (m 3) - 1 = nI (m 3 - 1) := by show nI (m 3) - nI 1 = _; rw [pk_sub (by omega)]
    rw [e]; exact cM_up hm 3 _
  · have q0 : m 3 = 0 := by omega
    rw [q0, if_pos (show nI 0 ≤ 0 from nI_le (a := 0) (b := 0) (Nat.le_refl _) (by omega)), if_neg (by omega)]
    obtain ⟨v1, s1, e1⟩ := c_pace N hN hH (hu := hu) (vals := vals) (stk := stk) cg (hm 0 (by omega)) (hm 1 (by omega)) (hm 2 (by omega)) (by omega) (by omega) (by omega) hh
    rw [e1, xs_bd]
    generalize hP : p_pace H (m 0) hu (m 1) (m 2) = s
    have hs : s ≤ 99 := by rw [← hP]; exact p_cut_le 99 _
    have inv := p_ps_inv (H := H) (m := m 1) (s := s) (H.1 2)
    have hsb : ∀ i, i ≤ H.1 2 → (p_ps H (m 1) s i).1 ≤ 99 := fun i hi => by
      rcases p_ps_inv (H := H) (m := m 1) (s := s) i with ⟨a, b, d⟩ | ⟨a, b, d, e⟩ <;> omega
    show ∃ moI' v' s', xq_loop (fX0_move_l31 N homeI home_goesF talksF home_talkForF home_placeMilesF home_goesN home_talkForN) N (moI, v1, s1, nI hu, nI s, -1, 0) = some (moI', v', s') ∧ _
    have hgo : ∀ x, x ≤ 200 → fX0_goOn N moI homeI (nI x) = some (va_up (va_up moI 1 (nI ((m 1 + x) % H.1 0))) 2 (nI (min 999 (m 2 + (m 1 + x) / H.1 0)))) := fun x hx => c_goOn N hN hH c1 (hm 1 (by omega)) (hm 2 (by omega)) m1 hx m2
    have run : ∀ r, (∀ kk, fX0_move_l31 N homeI home_goesF talksF home_talkForF home_placeMilesF home_goesN home_talkForN kk (moI, v1, s1, nI hu, nI (p_ps H (m 1) s (H.1 2)).1, p_st (p_ps H (m 1) s (H.1 2)).2, nI (H.1 2)) = r) → xq_loop (fX0_move_l31 N homeI home_goesF talksF home_talkForF home_placeMilesF home_goesN home_talkForN) N (moI, v1, s1, nI hu, nI s, -1, 0) = r := fun r hr => by
      have key := xs_loop (body := fX0_move_l31 N homeI home_goesF talksF home_talkForF home_placeMilesF home_goesN home_talkForN) (fun i => (moI, v1, s1, nI hu, nI (p_ps H (m 1) s i).1, p_st (p_ps H (m 1) s i).2, nI i)) (H.1 2) r ?_ hr N (by omega)
      · exact key
      · intro i hi kk
        have b := p_way_rng hH m1 hi
        have b2 := hsb i (by omega)
        show (if homeI 6 ≤ nI i then _ else xq_bd (xq_ald 6 home_placeMilesF (nI i)) _) = _
        rw [c6, if_neg (nI_ge hi (by omega)), xs_ald (by omega) (by omega), xs_bd, cp i hi, hm 1 (by omega), c_way N hH c1 m1 hi, xs_bd]
        by_cases c : (p_ps H (m 1) s i).1 < p_way H (m 1) i
        · rw [if_pos (nI_lt c (by omega))]
          show kk (moI, v1, s1, nI hu, _, _, nI i + 1) = _
          rw [nI_1]
          show _ = kk (moI, v1, s1, nI hu, nI (p_ps H (m 1) s (i + 1)).1, p_st (p_ps H (m 1) s (i + 1)).2, nI (i + 1))
          rw [p_ps_succ, if_pos c]
        · rw [if_neg (nI_nlt (by omega) (by omega))]
          show kk (moI, v1, s1, nI hu, _, nI i, nI i + 1) = _
          rw [nI_1]
          show _ = kk (moI, v1, s1, nI hu, nI (p_ps H (m 1) s (i + 1)).1, p_st (p_ps H (m 1) s (i + 1)).2, nI (i + 1))
          rw [p_ps_succ, if_neg c]
          unfold p_st
          rw [if_neg (by show ¬ i = 1000; omega)]
    have hex : ∀ kk, fX0_move_l31 N homeI home_goesF talksF home_talkForF home_placeMilesF home_goesN home_talkForN kk (moI, v1, s1, nI hu, nI (p_ps H (m 1) s (H.1 2)).1, p_st (p_ps H (m 1) s (H.1 2)).2, nI (H.1 2)) = xq_bd (fX0_goOn N moI homeI (nI (p_ps H (m 1) s (H.1 2)).1)) fun r_1 => (if p_st (p_ps H (m 1) s (H.1 2)).2 = (-1) then some (r_1, v1, s1) else (xq_bd (fX0_talkingAt N r_1 v1 talksF home_talkForF s1 home_talkForN (p_st (p_ps H (m 1) s (H.1 2)).2) (nI hu)) fun (r_3_0, r_3_1, r_3_2) => some ((va_up r_1 3 r_3_0), r_3_1, r_3_2))) := fun kk => by
      show (if homeI 6 ≤ nI (H.1 2) then _ else _) = _
      rw [c6, if_pos (nI_le (Nat.le_refl _) (by omega))]
    rcases inv with ⟨a, b, d⟩ | ⟨a, b, d, e⟩
    · have w : p_walk H s (m 1) (m 2) = ((m 1 + s) % H.1 0, min 999 (m 2 + (m 1 + s) / H.1 0), H.1 2) := p_walk_free s (m 1) (m 2) m1 m2 (fun j j1 j2 k hk => p_way_first hH m1 hk j1 (by have := d k hk; omega))
      rw [w, if_neg (Nat.lt_irrefl _)]
      refine ⟨va_up (va_up moI 1 (nI ((m 1 + s) % H.1 0))) 2 (nI (min 999 (m 2 + (m 1 + s) / H.1 0))), v1, s1, run _ (fun kk => ?_), ?_⟩
      · rw [hex kk, b, hgo s (by omega), xs_bd, a, if_pos (show p_st 1000 = -1 from rfl)]
      · have := cM_up (cM_up (cM_up hm 1 ((m 1 + s) % H.1 0)) 2 (min 999 (m 2 + (m 1 + s) / H.1 0))) 3 0
        intro j hj
        by_cases c3 : j = 3
        · subst c3
          show moI 3 = nI 0
          rw [hm 3 (by omega), q0]
        · have t := this j hj
          rw [va_up_ne _ _ c3] at t
          exact t
    · generalize hx : p_ps H (m 1) s (H.1 2) = x at a b d e run hex
      have b1 := p_way_rng hH m1 a
      have w : p_walk H s (m 1) (m 2) = ((m 1 + x.1) % H.1 0, min 999 (m 2 + (m 1 + x.1) / H.1 0), x.2) := p_walk_stop hH a x.1 s (m 1) (m 2) m1 m2 (by omega) d (by rw [b]; exact b1.2.2.symm) (fun j j1 j2 k hk => p_way_first hH m1 hk j1 (by have := e k hk; omega))
      rw [w, if_pos a]
      obtain ⟨v2, s2, e2⟩ := c_talk N hN hH (moI := va_up (va_up moI 1 (nI ((m 1 + x.1) % H.1 0))) 2 (nI (min 999 (m 2 + (m 1 + x.1) / H.1 0)))) (vals := v1) (stk := s1) (mo_talksF := talksF) (pl := x.2) (ta := ta x.2) (hu := hu) ct (hm 0 (by omega)) (ht _ a).1 (by omega) (by omega) (by have := (ht _ a).2; omega) hh
      have est : p_st x.2 = nI x.2 := by unfold p_st; rw [if_neg (by omega)]
      refine ⟨va_up (va_up (va_up moI 1 (nI ((m 1 + x.1) % H.1 0))) 2 (nI (min 999 (m 2 + (m 1 + x.1) / H.1 0)))) 3 (nI (p_talk H (m 0) hu (ta x.2))), v2, s2, run _ (fun kk => ?_), ?_⟩
      · rw [hex kk, hgo x.1 (by omega), xs_bd, est, if_neg (fun z => absurd ((fa_eq _ _).mp z) (by rw [nI_toInt (by omega)]; show ¬ (x.2 : Int) = -1; omega)), e2, xs_bd]
      · exact cM_up (cM_up (cM_up hm 1 _) 2 _) 3 _
