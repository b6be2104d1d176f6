/-! watch -/
def pcN : Nat → Nat → Nat
  | 0, _ => 0
  | f + 1, k => if k = 0 then 0 else pcN f (k &&& (k - 1)) + 1
def itN : Nat → Nat → Nat
  | 0, k => k
  | f + 1, k => itN f (k &&& (k - 1))
/-- how many bits -/
def pc (k : Nat) : Nat := pcN 10 k
theorem c_bitc0 : ∀ k, k < 1024 → fJ6_bitCount_0f7a4 0 (nI k) = some (nI (pc k)) := by decide +kernel
theorem c_bitc (N : Nat) {k : Nat} (h : k < 1024) : fJ6_bitCount_0f7a4 N (nI k) = some (nI (pc k)) := c_bitc0 k h
theorem itN10 : ∀ k, k < 1024 → itN 10 k = 0 := by decide +kernel
theorem pcN_le : ∀ f k, pcN f k ≤ f
  | 0, _ => Nat.le_refl _
  | f + 1, k => by
    have := pcN_le f (k &&& (k - 1))
    show (if k = 0 then 0 else pcN f (k &&& (k - 1)) + 1) ≤ f + 1
    split <;> omega
theorem m_bitsL (N : Nat) : ∀ (f k a M : Nat), k < 2 ^ 31 → itN f k = 0 → f < M → xq_loop (fX12_bits_l4 N) M (nI a, nI k) = some (nI (a + pcN f k))
  | 0, k, a, M, hk, h, hM => by
    have h : k = 0 := h
    subst h
    obtain ⟨M, rfl⟩ : ∃ q, M = q + 1 := ⟨M - 1, by omega⟩
    rw [xs_step]
    dsimp only [fX12_bits_l4]
    rw [if_pos (show nI 0 = (0 : Int32) from rfl)]
    rfl
  | f + 1, k, a, M, hk, h, hM => by
    obtain ⟨M, rfl⟩ : ∃ q, M = q + 1 := ⟨M - 1, by omega⟩
    rw [xs_step]
    dsimp only [fX12_bits_l4]
    by_cases c : k = 0
    · subst c
      rw [if_pos (show nI 0 = (0 : Int32) from rfl)]
      rfl
    · rw [if_neg (nI_ne0 (by omega) hk)]
      have e1 : nI k &&& (nI k - 1) = nI (k &&& (k - 1)) := by
        show nI k &&& (nI k - nI 1) = _
        rw [pk_sub (by omega), fa_and]
      have e2 : k &&& (k - 1) < 2 ^ 31 := Nat.lt_of_le_of_lt Nat.and_le_left hk
      rw [e1, nI_1, m_bitsL N f (k &&& (k - 1)) (a + 1) M e2 h (by omega)]
      show _ = some (nI (a + if k = 0 then 0 else pcN f (k &&& (k - 1)) + 1))
      rw [if_neg c]
      congr 1
      exact nI_c (by omega)
theorem m_bits (N : Nat) (hN : 5000 ≤ N) {k : Nat} (h : k < 1024) : fX12_bits N (nI k) = some (nI (pc k)) := by
  have := m_bitsL N 10 k 0 N (by omega) (itN10 k h) (by omega)
  rw [Nat.zero_add] at this
  exact this
/-- the best set of the first i: fewest, then least; 1000 without one -/
def p_bw (ok : Nat → Bool) : Nat → Nat
  | 0 => 1000
  | i + 1 => if (p_bw ok i = 1000 ∨ pc i < pc (p_bw ok i)) ∧ ok i = true then i else p_bw ok i
theorem p_bw_succ (ok : Nat → Bool) (i : Nat) : p_bw ok (i + 1) = if (p_bw ok i = 1000 ∨ pc i < pc (p_bw ok i)) ∧ ok i = true then i else p_bw ok i := rfl
theorem p_bw_rng (ok : Nat → Bool) : ∀ i, p_bw ok i = 1000 ∨ p_bw ok i < i
  | 0 => Or.inl rfl
  | i + 1 => by
    rw [p_bw_succ]
    split
    · exact Or.inr (Nat.lt_succ_self i)
    · rcases p_bw_rng ok i with h | h
      · exact Or.inl h
      · exact Or.inr (by omega)
theorem p_st_m1 {x : Nat} (h : x < 1000) : ¬ p_st x = -1 := by unfold p_st; rw [if_neg (by omega)]; exact nI_nm1 (by omega)
def p_all (f : Nat → Nat) (n set : Nat) : Bool := decide (∀ k, k < n → f k = 0 ∨ ¬ (f k &&& set) = 0)
theorem c_hearAll (N : Nat) (hN : 5000 ≤ N) {hF : Nat → Int32} {f : Nat → Nat} {n set : Nat} (hn : n ≤ 60) (hf : ∀ i, i < n → hF i = nI (f i) ∧ f i < 1000) : fX11_hearAll N hF (nI set) (nI n) = some (p_b (p_all f n set)) := by
  refine xs_loopI (body := fX11_hearAll_l2 N hF) (fun k st => ∃ i, st = (nI set, nI n, nI i) ∧ i + k = n ∧ ∀ j, j < i → f j = 0 ∨ ¬ (f j &&& set) = 0) (fun r => r = some (p_b (p_all f n set))) ?_ N n _ ⟨0, rfl, by omega, fun j hj => absurd hj (Nat.not_lt_zero _)⟩ (by omega)
  rintro k st kk ⟨i, rfl, hi, hall⟩ hgo
  dsimp only [fX11_hearAll_l2]
  by_cases c : n ≤ i
  · have : i = n := by omega
    subst this
    rw [if_pos (nI_le (Nat.le_refl _) (by omega))]
    unfold p_all
    rw [decide_eq_true hall]; rfl
  · rw [if_neg (nI_ge (by omega) (by omega)), if_neg (show ¬ (60 : Int32) ≤ nI i from nI_ge (b := 60) (by omega) (by omega)), xs_ald (show i < 60 by omega) (by omega), xs_bd, (hf i (by omega)).1]
    have hb := (hf i (by omega)).2
    by_cases c1 : f i = 0
    · rw [c1, if_pos (show nI 0 = (0 : Int32) from rfl)]
      dsimp only [fX11_hearAll_b38]
      rw [nI_1]
      exact hgo _ (k - 1) (by omega) ⟨i + 1, rfl, by omega, fun j hj => by
        by_cases q : j = i
        · rw [q]; exact Or.inl c1
        · exact hall j (by omega)⟩
    · rw [if_neg (nI_ne0 (by omega) (by omega)), xs_bd, fa_and]
      have ha : f i &&& set ≤ f i := Nat.and_le_left
      by_cases c2 : (f i &&& set) = 0
      · rw [c2, if_pos (show nI 0 = (0 : Int32) from rfl)]
        unfold p_all
        rw [decide_eq_false (fun z => by rcases z i (by omega) with z | z <;> contradiction)]; rfl
      · rw [if_neg (nI_ne0 (by omega) (by omega))]
        dsimp only [fX11_hearAll_b38]
        rw [nI_1]
        exact hgo _ (k - 1) (by omega) ⟨i + 1, rfl, by omega, fun j hj => by
          by_cases q : j = i
          · rw [q]; exact Or.inr c2
          · exact hall j (by omega)⟩
def qa_watch (H : PH) (m ro ta : Nat → Nat) (x : Int32) : Int32 := if p_ahead (H.1 0) (m 0) x 1 40 = true then p_st (p_bw (p_all (p_heard H ta ro (m 4) m) x.toNatClampNeg) (2 ^ H.1 1)) else -1
theorem xs_128 {E : Nat} (h : E ≤ 7) : 2 ^ E ≤ 128 := Nat.pow_le_pow_right (n := 2) (by omega) h
theorem c_watch (N : Nat) (hN : 5000 ≤ N) {H : PH} {m ro ta : Nat → Nat} (hs : hS H m) {homeI home_sharpsF home_placeMilesF home_goesF home_hearsF home_talkForF : Nat → Int32} {home_goesN home_hearsN home_talkForN : Nat} (hc : cH H homeI home_sharpsF home_placeMilesF home_goesF home_hearsF home_talkForF home_goesN home_hearsN home_talkForN) {nowI now_rowsF now_talksF : Nat → Int32} (hn : cNow H m ro ta nowI now_rowsF now_talksF) {walkI walk_rowsF walk_talksF dv_heardAheadF course_valuesF course_stackF : Nat → Int32} (x : Int32) : ∃ w r t h v s, fX11_watch N homeI nowI walkI now_rowsF walk_rowsF now_talksF walk_talksF dv_heardAheadF course_valuesF home_goesF course_stackF home_talkForF home_placeMilesF home_sharpsF home_hearsF home_goesN home_talkForN home_hearsN x = some (qa_watch H m ro ta x, w, r, t, h, v, s) := by
  obtain ⟨b0, b1, b2, b3⟩ := hs.b
  unfold fX11_watch qa_watch
  have e1 := c_comes N (lo := 1) (hi := 40) hc.1 (hn.1 0 (by omega)) b0 b3 (by omega) (by omega) x
  show ∃ w r t h v s, xq_bd (fX11_comes N homeI nowI x (nI 1) (nI 40)) _ = _
  rw [e1, xs_bd]
  cases ha : p_ahead (H.1 0) (m 0) x 1 40 with
  | false =>
    rw [if_pos (by rfl), if_neg Bool.false_ne_true]
    exact ⟨_, _, _, _, _, _, rfl⟩
  | true =>
    obtain ⟨g0, n, rfl, -, g1, g2⟩ := p_ahead_yes ha
    obtain ⟨hH, hm⟩ := hs.y g0
    obtain ⟨w, r, t, e2, e3, e4, e5⟩ := c_copy N (walkI := walkI) (rowsF := now_rowsF) (wrF := walk_rowsF) (talksF := now_talksF) (wtF := walk_talksF) hn.1
    rw [if_neg (by decide), e2, xs_bd]
    obtain ⟨mo, v, s, e6, e7⟩ := c_pass N hN hH hc (moI := w) (vals := course_valuesF) (stk := course_stackF) (rowsF := r) (talksF := t) (hF := dv_heardAheadF) (hu := m 4) (n := n) e3 hm (fun e he => ⟨(e4 e (by omega)).trans (hn.2.1 e he).1, (hn.2.1 e he).2⟩) (fun p hp => ⟨(e5 p (by omega)).trans (hn.2.2 p hp).1, (hn.2.2 p hp).2⟩) (by have := hm.2.2.2.2; omega) (by omega)
    show ∃ w' r t h v s, xq_bd (fX0_passNights N dv_heardAheadF w course_valuesF homeI home_goesF course_stackF _ home_talkForF home_placeMilesF _ home_sharpsF home_hearsF 60 home_goesN home_talkForN home_hearsN (w 4) (nI n)) _ = _
    rw [e3 4 (by omega), e6, xs_bd, nI_clamp (by omega), if_pos (by rfl)]
    dsimp only
    generalize hh : fa_fill (fun i => nI (p_heard H ta ro (m 4) m i)) dv_heardAheadF n = h
    have hf : ∀ i, i < n → h i = nI (p_heard H ta ro (m 4) m i) ∧ p_heard H ta ro (m 4) m i < 1000 := fun i hi => ⟨by rw [← hh]; exact fa_fill_in hi, by have := p_set_lt hH.2.2.1 (p_move H (p_nights H ta (m 4) i m) ta (m 4)) ro (m 4); unfold p_heard; omega⟩
    have h128 := xs_128 b1
    refine ⟨mo, r, t, h, v, s, ?_⟩
    refine xs_loop (body := fX11_watch_l51 N homeI nowI now_rowsF now_talksF home_goesF home_talkForF home_placeMilesF home_sharpsF home_hearsF home_goesN home_talkForN home_hearsN) (fun i => (mo, r, t, h, v, s, nI n, p_st (p_bw (p_all (p_heard H ta ro (m 4) m) n) i), nI i)) (2 ^ H.1 1) _ ?_ ?_ N (by omega)
    · intro i hi kk
      have hrg := p_bw_rng (p_all (p_heard H ta ro (m 4) m) n) i
      dsimp only [fX11_watch_l51]
      rw [hc.2.1, xs_one _ (by omega), if_neg (nI_ge hi (by omega))]
      have key : ∀ y : Bool, y = decide (p_bw (p_all (p_heard H ta ro (m 4) m) n) i = 1000 ∨ pc i < pc (p_bw (p_all (p_heard H ta ro (m 4) m) n) i)) → fX11_watch_b85 N homeI nowI now_rowsF now_talksF home_goesF home_talkForF home_placeMilesF home_sharpsF home_hearsF home_goesN home_talkForN home_hearsN kk (mo, r, t, h, v, s, nI n, p_st (p_bw (p_all (p_heard H ta ro (m 4) m) n) i), nI i, p_b y) = kk (mo, r, t, h, v, s, nI n, p_st (p_bw (p_all (p_heard H ta ro (m 4) m) n) (i + 1)), nI (i + 1)) := by
        intro y hy
        dsimp only [fX11_watch_b85]
        rw [p_bw_succ]
        cases y with
        | false =>
          rw [if_pos (by rfl), if_neg (fun z => of_decide_eq_false hy.symm z.1)]
          dsimp only [fX11_watch_b103]
          rw [nI_1]
        | true =>
          rw [if_neg (by decide), c_hearAll N hN (by omega) hf, xs_bd]
          have hy := of_decide_eq_true hy.symm
          cases hq : p_all (p_heard H ta ro (m 4) m) n i with
          | false =>
            rw [if_pos (by rfl), if_neg (fun z => Bool.false_ne_true z.2)]
            dsimp only [fX11_watch_b103]
            rw [nI_1]
          | true =>
            rw [if_neg (by decide), if_pos ⟨hy, rfl⟩]
            dsimp only [fX11_watch_b103]
            rw [nI_1]
            have : p_st i = nI i := by unfold p_st; rw [if_neg (by omega)]
            rw [this]
      by_cases c1 : p_bw (p_all (p_heard H ta ro (m 4) m) n) i = 1000
      · rw [if_pos (show p_st (p_bw (p_all (p_heard H ta ro (m 4) m) n) i) = -1 by rw [c1]; rfl)]
        exact key true (by rw [decide_eq_true (Or.inl c1)])
      · have hlt : p_bw (p_all (p_heard H ta ro (m 4) m) n) i < i := by omega
        have est : p_st (p_bw (p_all (p_heard H ta ro (m 4) m) n) i) = nI (p_bw (p_all (p_heard H ta ro (m 4) m) n) i) := by unfold p_st; rw [if_neg c1]
        have hp1 := pcN_le 10 i
        have hp2 := pcN_le 10 (p_bw (p_all (p_heard H ta ro (m 4) m) n) i)
        rw [if_neg (p_st_m1 (by omega)), est, c_bitc N (by omega), xs_bd, c_bitc N (by omega), xs_bd, ← est]
        by_cases c2 : pc (p_bw (p_all (p_heard H ta ro (m 4) m) n) i) ≤ pc i
        · rw [if_pos (nI_le c2 (by unfold pc; omega))]
          exact key false (by rw [decide_eq_false (fun z => by omega)])
        · rw [if_neg (nI_ge (by omega) (by unfold pc; omega))]
          exact key true (by rw [decide_eq_true (Or.inr (by omega))])
    · intro kk
      dsimp only [fX11_watch_l51]
      rw [hc.2.1, xs_one _ (by omega), if_pos (nI_le (Nat.le_refl _) (by omega))]
