/-! watch in the reference -/
section MW
variable {X1 Y : Nat → Nat → Int32} {mmI a hf hi : Nat → Int32} {s : Nat → Int64}
theorem m_inner (N : Nat) (hN : 5000 ≤ N) {f : Nat → Nat} {n i : Nat} (hn : n ≤ 40) (hfi : ∀ k, k < n → hi k = nI (f k) ∧ f k < 1000) (kk : (((Nat → Int32) × (Nat → Int32) × (Nat → Int32) × (Nat → Int32) × (Nat → Int32) × (Nat → Int32) × (Nat → Int32) × (Nat → Int32) × (Nat → Int32) × (Nat → Int32) × (Nat → Int64) × (Nat → Int32) × (Nat → Int32) × Int32 × Int32 × Int32)) → Option (Int32 × (Nat → Int32) × (Nat → Int32) × (Nat → Int32) × (Nat → Int32) × (Nat → Int32) × (Nat → Int32) × (Nat → Int32) × (Nat → Int32) × (Nat → Int32) × (Nat → Int32) × (Nat → Int64) × (Nat → Int32) × (Nat → Int32))) (x2 : Int32) (y : Bool) :
    xq_loop (fX12_watch_l88 N mmI (Y 0) (Y 1) (Y 2) (Y 3) (Y 4) (Y 6) (Y 7) (Y 5) (Y 8) kk) N (X1 0, X1 1, X1 2, X1 3, X1 4, X1 5, X1 6, X1 7, X1 8, a, s, hf, hi, nI n, x2, nI i, p_b y, 0) = fX12_watch_b134 N mmI (Y 0) (Y 1) (Y 2) (Y 3) (Y 4) (Y 6) (Y 7) (Y 5) (Y 8) kk (X1 0, X1 1, X1 2, X1 3, X1 4, X1 5, X1 6, X1 7, X1 8, a, s, hf, hi, nI n, x2, nI i, p_b (y && p_all f n i)) := by
  refine xs_loopI (body := fX12_watch_l88 N mmI (Y 0) (Y 1) (Y 2) (Y 3) (Y 4) (Y 6) (Y 7) (Y 5) (Y 8) kk) (fun k st => ∃ j z, st = (X1 0, X1 1, X1 2, X1 3, X1 4, X1 5, X1 6, X1 7, X1 8, a, s, hf, hi, nI n, x2, nI i, p_b z, nI j) ∧ j + k = n ∧ (z = true → y = true ∧ ∀ q, q < j → f q = 0 ∨ ¬ (f q &&& i) = 0) ∧ (z = false → (y && p_all f n i) = false)) (fun r => r = fX12_watch_b134 N mmI (Y 0) (Y 1) (Y 2) (Y 3) (Y 4) (Y 6) (Y 7) (Y 5) (Y 8) kk (X1 0, X1 1, X1 2, X1 3, X1 4, X1 5, X1 6, X1 7, X1 8, a, s, hf, hi, nI n, x2, nI i, p_b (y && p_all f n i))) ?_ N n _ ⟨0, y, rfl, by omega, fun h => ⟨h, fun q hq => absurd hq (Nat.not_lt_zero _)⟩, fun h => by rw [h]; rfl⟩ (by omega)
  rintro k st k2 ⟨j, z, rfl, hj, h1, h0⟩ hgo
  dsimp only [fX12_watch_l88]
  by_cases c : n ≤ j
  · have : j = n := by omega
    subst this
    rw [if_pos (nI_le (Nat.le_refl _) (by omega))]
    cases z with
    | false => rw [h0 rfl]
    | true =>
      obtain ⟨g1, g2⟩ := h1 rfl
      have : (y && p_all f j i) = true := by rw [g1]; unfold p_all; rw [decide_eq_true g2]; rfl
      rw [this]
  · rw [if_neg (nI_ge (by omega) (by omega))]
    cases z with
    | false => rw [if_pos (by rfl), h0 rfl]
    | true =>
      obtain ⟨g1, g2⟩ := h1 rfl
      rw [if_neg (by decide), xs_ald (show j < 40 by omega) (by omega), xs_bd, (hfi j (by omega)).1]
      have hb := (hfi j (by omega)).2
      by_cases c1 : f j = 0
      · rw [c1, if_pos (show nI 0 = (0 : Int32) from rfl)]
        dsimp only [fX12_watch_b121, fX12_watch_b126]
        rw [nI_1]
        exact hgo _ (k - 1) (by omega) ⟨j + 1, true, rfl, by omega, fun _ => ⟨g1, fun q hq => by
          by_cases e : q = j
          · rw [e]; exact Or.inl c1
          · exact g2 q (by omega)⟩, fun h => absurd h (by decide)⟩
      · rw [if_neg (nI_ne0 (by omega) (by omega)), xs_bd, fa_and]
        have hle : f j &&& i ≤ f j := Nat.and_le_left
        by_cases c2 : (f j &&& i) = 0
        · rw [c2, if_pos (show nI 0 = (0 : Int32) from rfl)]
          dsimp only [fX12_watch_b126]
          rw [nI_1]
          exact hgo _ (k - 1) (by omega) ⟨j + 1, false, rfl, by omega, fun h => absurd h (by decide), fun _ => by
            have : p_all f n i = false := by
              unfold p_all
              exact decide_eq_false (fun z => by rcases z j (by omega) with z | z <;> contradiction)
            rw [this, Bool.and_false]⟩
        · rw [if_neg (nI_ne0 (by omega) (by omega))]
          dsimp only [fX12_watch_b121, fX12_watch_b126]
          rw [nI_1]
          exact hgo _ (k - 1) (by omega) ⟨j + 1, true, rfl, by omega, fun _ => ⟨g1, fun q hq => by
            by_cases e : q = j
            · rw [e]; exact Or.inr c2
            · exact g2 q (by omega)⟩, fun h => absurd h (by decide)⟩
end MW
theorem m_watch (N : Nat) (hN : 5000 ≤ N) {H : PH} {m ro ta : Nat → Nat} (hs : hS H m) {b k : Nat} {mmI hf ask : Nat → Int32} {stk : Nat → Int64} {X Y : Nat → Nat → Int32} (hY : mHY H b mmI Y) (hfl : mFl mmI (H.1 0)) (hL : mLay H 0 m ro ta k X) {mm_heardInF : Nat → Int32} (x : Int32) : ∃ X' a s hi, fX12_watch N mmI (X 0) (X 1) (X 2) (X 3) (X 4) (X 5) (X 6) (X 7) (X 8) (Y 0) ask (Y 1) stk (Y 2) (Y 3) (Y 4) (Y 6) (Y 7) (Y 5) hf (Y 8) mm_heardInF x = some (qa_watch H m ro ta x, X' 0, X' 1, X' 2, X' 3, X' 4, X' 5, X' 6, X' 7, X' 8, a, s, hf, hi) ∧ mOth 1 X X' := by
  obtain ⟨b0, b1, b2, b3⟩ := hs.b
  unfold fX12_watch qa_watch
  have e1 := m_ahead N (lo := 1) (hi := 40) (ngF := X 0) hfl hL.1 b3 (by omega) (by omega) x
  show ∃ X' a s hi, xq_bd (fX12_isAhead N mmI (X 0) x (nI 1) (nI 40)) _ = _ ∧ _
  rw [e1, xs_bd]
  cases ha : p_ahead (H.1 0) (m 0) x 1 40 with
  | false =>
    rw [if_pos (by rfl), if_neg Bool.false_ne_true]
    exact ⟨X, ask, stk, _, rfl, mOth.refl _ _⟩
  | true =>
    obtain ⟨g0, n, rfl, -, g1, g2⟩ := p_ahead_yes ha
    obtain ⟨hH, hm⟩ := hs.y g0
    rw [if_neg (by decide), if_pos (by rfl), nI_clamp (by omega)]
    obtain ⟨X1, e2, e3, e4, -⟩ := m_copyL N hN b1 b2 (show 1 < 22 by omega) (show 0 < 22 by omega) (by omega) hL
    show ∃ X' a s hi, xq_bd (fX12_copies N (X 0) (X 1) (X 2) (X 3) (X 4) (X 5) (X 6) (X 7) (X 8) (nI 1) (nI 0)) _ = _ ∧ _
    rw [e2, xs_bd]
    dsimp only
    have first : ∃ X2 a s, xq_loop (fX12_watch_l21 N mmI (Y 0) (Y 1) (Y 2) (Y 3) (Y 4) (Y 6) (Y 7) (Y 5) (Y 8)) N (X1 0, X1 1, X1 2, X1 3, X1 4, X1 5, X1 6, X1 7, X1 8, ask, stk, hf, mm_heardInF, nI n, 0) = xq_loop (fX12_watch_l47 N mmI (Y 0) (Y 1) (Y 2) (Y 3) (Y 4) (Y 6) (Y 7) (Y 5) (Y 8)) N (X2 0, X2 1, X2 2, X2 3, X2 4, X2 5, X2 6, X2 7, X2 8, a, s, hf, fa_fill (fun i => nI (p_heard H ta ro (m 4) m i)) mm_heardInF n, nI n, -1, 0) ∧ mOth 1 X X2 := by
      refine xs_loopI (body := fX12_watch_l21 N mmI (Y 0) (Y 1) (Y 2) (Y 3) (Y 4) (Y 6) (Y 7) (Y 5) (Y 8)) (fun r st => ∃ X2 a s i, st = (X2 0, X2 1, X2 2, X2 3, X2 4, X2 5, X2 6, X2 7, X2 8, a, s, hf, fa_fill (fun i => nI (p_heard H ta ro (m 4) m i)) mm_heardInF i, nI n, nI i) ∧ mOth 1 X X2 ∧ i + r = n ∧ ∃ k2, mLay H 1 (p_nights H ta (m 4) i m) ro ta k2 X2) (fun q => ∃ X2 a s, q = xq_loop (fX12_watch_l47 N mmI (Y 0) (Y 1) (Y 2) (Y 3) (Y 4) (Y 6) (Y 7) (Y 5) (Y 8)) N (X2 0, X2 1, X2 2, X2 3, X2 4, X2 5, X2 6, X2 7, X2 8, a, s, hf, fa_fill (fun i => nI (p_heard H ta ro (m 4) m i)) mm_heardInF n, nI n, -1, 0) ∧ mOth 1 X X2) ?_ N n _ ⟨X1, ask, stk, 0, by rw [fa_fill_0], e3, by omega, _, e4⟩ (by omega)
      rintro r st kk ⟨X2, a, s, i, rfl, ho, hi, k2, hl2⟩ hgo
      show ∃ X' a' s', (if nI n ≤ nI i then _ else _) = _ ∧ _
      by_cases c : n ≤ i
      · have : i = n := by omega
        subst this
        rw [if_pos (nI_le (Nat.le_refl _) (by omega))]
        exact ⟨X2, a, s, rfl, ho⟩
      · rw [if_neg (nI_ge (by omega) (by omega))]
        obtain ⟨q1, q2, q3, q4⟩ := p_nights_ok hH (ta := ta) (hu := m 4) hm i
        obtain ⟨a3, s3, X3, h1, h2, h3, h4, h5, h6, -⟩ := m_passX N hN hH (hf := hf) (ask := a) (stk := s) hY (show 1 < 22 by omega) hl2 q1
        have h6 := h6 (by omega)
        rw [q2] at h1 h6
        show ∃ X' a' s', xq_bd (fX12_passes N mmI (X2 4) (X2 3) (Y 0) (X2 0) a (X2 1) (X2 2) (Y 1) s (Y 2) (Y 3) (Y 4) (Y 6) (Y 7) (X2 7) (Y 5) hf (Y 8) (X2 5) (X2 6) (X2 8) (nI 1)) _ = _ ∧ _
        rw [h1, xs_bd]
        dsimp only
        rw [xs_ast (show i < 40 by omega) (by omega), xs_bd, ← h2, ← h3, ← h4, nI_1]
        exact hgo (X3 0, X3 1, X3 2, X3 3, X3 4, X3 5, X3 6, X3 7, X3 8, a3, s3, hf, _, nI n, nI (i + 1)) (r - 1) (by omega) ⟨X3, a3, s3, i + 1, by rw [← fa_fill_succ]; rfl, ho.trans h5, by omega, _, h6⟩
    obtain ⟨X2, a, s, f1, f2⟩ := first
    refine ⟨X2, a, s, fa_fill (fun i => nI (p_heard H ta ro (m 4) m i)) mm_heardInF n, f1.trans ?_, f2⟩
    generalize hh : fa_fill (fun i => nI (p_heard H ta ro (m 4) m i)) mm_heardInF n = hi
    have hfi : ∀ i, i < n → hi i = nI (p_heard H ta ro (m 4) m i) ∧ p_heard H ta ro (m 4) m i < 1000 := fun i hi => ⟨by rw [← hh]; exact fa_fill_in hi, by have := p_set_lt hH.2.2.1 (p_move H (p_nights H ta (m 4) i m) ta (m 4)) ro (m 4); unfold p_heard; omega⟩
    have h128 := xs_128 b1
    refine xs_loop (body := fX12_watch_l47 N mmI (Y 0) (Y 1) (Y 2) (Y 3) (Y 4) (Y 6) (Y 7) (Y 5) (Y 8)) (fun i => (X2 0, X2 1, X2 2, X2 3, X2 4, X2 5, X2 6, X2 7, X2 8, a, s, hf, hi, nI n, p_st (p_bw (p_all (p_heard H ta ro (m 4) m) n) i), nI i)) (2 ^ H.1 1) _ ?_ ?_ N (by omega)
    · intro i hi' kk
      have hrg := p_bw_rng (p_all (p_heard H ta ro (m 4) m) n) i
      dsimp only [fX12_watch_l47]
      rw [hY.2.1, xs_ald hY.1 (by omega), xs_bd, hY.2.2.2.1, xs_one _ (by omega), if_neg (nI_ge hi' (by omega))]
      have key : ∀ y : Bool, y = decide (p_bw (p_all (p_heard H ta ro (m 4) m) n) i = 1000 ∨ pc i < pc (p_bw (p_all (p_heard H ta ro (m 4) m) n) i)) → fX12_watch_b83 N mmI (Y 0) (Y 1) (Y 2) (Y 3) (Y 4) (Y 6) (Y 7) (Y 5) (Y 8) kk (X2 0, X2 1, X2 2, X2 3, X2 4, X2 5, X2 6, X2 7, X2 8, a, s, hf, hi, nI n, p_st (p_bw (p_all (p_heard H ta ro (m 4) m) n) i), nI i, p_b y) = kk (X2 0, X2 1, X2 2, X2 3, X2 4, X2 5, X2 6, X2 7, X2 8, a, s, hf, hi, nI n, p_st (p_bw (p_all (p_heard H ta ro (m 4) m) n) (i + 1)), nI (i + 1)) := by
        intro y hy
        dsimp only [fX12_watch_b83]
        rw [m_inner N hN (X1 := X2) (f := p_heard H ta ro (m 4) m) (by omega) hfi]
        dsimp only [fX12_watch_b134]
        rw [p_bw_succ]
        cases y with
        | false =>
          rw [Bool.false_and, if_pos (by rfl), if_neg (fun z => of_decide_eq_false hy.symm z.1)]
          dsimp only [fX12_watch_b141]
          rw [nI_1]
        | true =>
          rw [Bool.true_and]
          have hy := of_decide_eq_true hy.symm
          cases hq : p_all (p_heard H ta ro (m 4) m) n i with
          | false =>
            rw [if_pos (by rfl), if_neg (fun z => Bool.false_ne_true z.2)]
            dsimp only [fX12_watch_b141]
            rw [nI_1]
          | true =>
            rw [if_neg (by decide), if_pos ⟨hy, rfl⟩]
            dsimp only [fX12_watch_b141]
            rw [nI_1]
            have : p_st i = nI i := by unfold p_st; rw [if_neg (by omega)]
            rw [this]
      by_cases c1 : p_bw (p_all (p_heard H ta ro (m 4) m) n) i = 1000
      · rw [if_pos (show p_st (p_bw (p_all (p_heard H ta ro (m 4) m) n) i) = -1 by rw [c1]; rfl)]
        exact key true (by rw [decide_eq_true (Or.inl c1)])
      · have hlt : p_bw (p_all (p_heard H ta ro (m 4) m) n) i < i := by omega
        have est : p_st (p_bw (p_all (p_heard H ta ro (m 4) m) n) i) = nI (p_bw (p_all (p_heard H ta ro (m 4) m) n) i) := by unfold p_st; rw [if_neg c1]
        have hp1 := pcN_le 10 i
        have hp2 := pcN_le 10 (p_bw (p_all (p_heard H ta ro (m 4) m) n) i)
        rw [if_neg (p_st_m1 (by omega)), est, m_bits N hN (by omega), xs_bd, m_bits N hN (by omega), xs_bd, ← est]
        by_cases c2 : pc (p_bw (p_all (p_heard H ta ro (m 4) m) n) i) ≤ pc i
        · rw [if_pos (nI_le c2 (by unfold pc; omega))]
          exact key false (by rw [decide_eq_false (fun z => by omega)])
        · rw [if_neg (nI_ge (by omega) (by unfold pc; omega))]
          exact key true (by rw [decide_eq_true (Or.inr (by omega))])
    · intro kk
      dsimp only [fX12_watch_l47]
      rw [hY.2.1, xs_ald hY.1 (by omega), xs_bd, hY.2.2.2.1, xs_one _ (by omega), if_pos (nI_le (Nat.le_refl _) (by omega))]
