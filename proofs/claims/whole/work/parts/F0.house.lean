/-! house: both read alike -/
section
variable (N : Nat) {t : Nat} {C P Q V : Nat → Nat → Int32} {n : Nat → Nat} {I : Nat → Int32} {J : Nat → Int64} {A : Nat → Nat → Int32} {B : Nat → Nat → Int64}
theorem x_house (hN : 5000 ≤ N) (h : RR t C P Q V n I J A B) : ∃ a c0 c1 c5 c6 c7 c8 c9 c3 c10 c11 c12 c13 c14 c15 c16 c17 n0 c18 n1 c19 n2 i j q15 q16 q17 q18 q21 q14 q24 q33 q34 q35 q37 q40 q26 q27 q36 q25 q28 q29 q22 q23 q19 q20 q45 q46 q47 q48 q49 q50 q52 q51 q44, fX11_house N (C 0) (C 1) (C 2) (C 5) (C 6) (C 7) (C 8) (C 9) (C 3) (C 10) (C 11) (C 12) (C 13) (C 14) (C 15) (C 16) (C 17) (n 0) (C 18) (n 1) (C 19) (n 2) = some (a, c0, c1, c5, c6, c7, c8, c9, c3, c10, c11, c12, c13, c14, c15, c16, c17, n0, c18, n1, c19, n2) ∧ fX12_house N I J (A 15) (A 16) (A 17) (A 18) (A 21) (A 0) (A 14) (A 24) (A 33) (A 34) (A 35) (A 37) (A 40) (A 26) (A 27) (A 36) (A 25) (B 28) (B 29) (A 22) (A 23) (A 19) (A 20) (A 45) (A 46) (A 47) (A 48) (A 49) (A 50) (A 52) (A 51) (A 44) = some (a, i, j, q15, q16, q17, q18, q21, q14, q24, q33, q34, q35, q37, q40, q26, q27, q36, q25, q28, q29, q22, q23, q19, q20, q45, q46, q47, q48, q49, q50, q52, q51, q44) ∧ RR 0 (va_up (va_up (va_up (va_up (va_up (va_up (va_up (va_up (va_up (va_up (va_up (va_up (va_up (va_up (va_up (va_up (va_up (va_up (C) 0 c0) 1 c1) 5 c5) 6 c6) 7 c7) 8 c8) 9 c9) 3 c3) 10 c10) 11 c11) 12 c12) 13 c13) 14 c14) 15 c15) 16 c16) 17 c17) 18 c18) 19 c19) P Q V (va_up (va_up (va_up n 0 n0) 1 n1) 2 n2) i j (va_up (va_up (va_up (va_up (va_up (va_up (va_up (va_up (va_up (va_up (va_up (va_up (va_up (va_up (va_up (va_up (va_up (va_up (va_up (va_up (va_up (va_up (va_up (va_up (va_up (va_up (va_up (va_up (va_up (A) 15 q15) 16 q16) 17 q17) 18 q18) 21 q21) 14 q14) 24 q24) 33 q33) 34 q34) 35 q35) 37 q37) 40 q40) 26 q26) 27 q27) 36 q36) 25 q25) 22 q22) 23 q23) 19 q19) 20 q20) 45 q45) 46 q46) 47 q47) 48 q48) 49 q49) 50 q50) 52 q52) 51 q51) 44 q44) (va_up (va_up B 28 q28) 29 q29) := by
  obtain ⟨b, H, m, ro, ta, U, K, KR, W, sd, T, Im, rf, f, p, hp, hc, hm, ht⟩ := h
  obtain ⟨hs, h5, hUo, hK, hKR, hsd, hT, hTl, hIm⟩ := hp
  obtain ⟨c1, c2, c3, c4, c5, c6, c7, c8, c9, c10, c11, c12, c13⟩ := hc
  obtain ⟨a1, a2, a3, a4, a5, a6, a7, a8, a9, a10, a11, a12, a13, a14⟩ := hm
  obtain ⟨h200, hE, hP, -⟩ := hs.b
  obtain ⟨kK, kS, kV, kn, hx, hall, hn, hcl⟩ := c_house N hN c7 hT
  obtain ⟨hF, hO⟩ := hcl (C 0) (C 5) (C 6) (C 7) (C 8) (C 9) (C 3) (C 10) (C 11) (C 12) (C 13) (C 14) (C 15) (C 16) (C 17) (n 0) (C 18) (n 1) (C 19) (n 2)
  have hgk : (phs kK kV 60 (pp_rnd kK kV, pg1 kV, 1)).1.1 = 0 → gok (phs kK kV 60 (pp_rnd kK kV, pg1 kV, 1)).2.1 := fun z => by
    obtain ⟨_, _, _, _, _, _, _, _, _, _, _, _, _, _, _, _, _, hg, _⟩ := hO z
    exact hg
  obtain ⟨I', J', sf', fr', ph', be', ba', op', cs', cv', pr', sb', pl', ea', en', pn', pa', ta', ro', sh', co', hu', vo', v, q1, q2, q3, q4, q5, q6, q7, q8, q9, q10, q11, q12, q13, q14, q15, k1, k2, k3, hf1, hf2⟩ := m_house N hN hT (vo := A 15) (hu := A 16) (co := A 17) (ea := A 18) (pl := A 21) (mt := A 14) (sf := A 24) (fr := A 33) (ph := A 34) (be := A 35) (ba := A 37) (op := A 40) (cs := A 26) (cv := A 27) (pr := A 36) (sb := A 25) (en := B 28) (pn := B 29) (pa := A 22) (ta := A 23) (ro := A 19) (sh := A 20) (ni := A 45) (mi := A 46) (rn := A 47) (tk := A 48) (hs := A 49) (rw_ := A 50) (km := A 52) (tl := A 51) (rf := A 44) (J := J) a7 hTl a1.1 a1.2.1 rfl hx hall hn hgk (A 53)
  obtain ⟨uf, u1, u2, u3, u4⟩ := a5
  obtain ⟨nw, w1, w2, w3, w4⟩ := c4
  have kk : ∀ j, j = 13 ∨ j = 43 ∨ j = 54 ∨ j = 55 ∨ j = 62 ∨ j = 69 → I' j = I j := fun j hj => k1 j (by unfold mzz; omega)
  generalize (phs kK kV 60 (pp_rnd kK kV, pg1 kV, 1)) = X at hF hO hgk hf1 hf2
  by_cases z : X.1.1 = 0
  · obtain ⟨x1, x2, x3, x4, x5, x6, x7, x8, x9, x10, x11, x12, x13, x14, x15, x16, e1, hg, e2, e3, e4, e5, e6⟩ := hO z
    obtain ⟨b0, b1, b2, b3, b4, b5, b6, b7, g1, g2, Cd, g3, g4⟩ := hf2 z
    obtain ⟨l1, l2, l3, l4, W', l5, l6⟩ := h_glue hg g3 g4
    refine ⟨_, _, _, _, _, _, _, _, _, _, _, _, _, _, _, _, _, _, _, _, _, _, _, _, _, _, _, _, _, _, _, _, _, _, _, _, _, _, _, _, _, _, _, _, _, _, _, _, _, _, _, _, _, _, _, e1, g1, 1 - b, gH X.2.1, gM X.2.1, X.2.1.2.1 2, X.2.1.2.1 3, (0, U.2), (0, K.2), KR, W', sd, (0, T.2), Im, rf, 0, -1, ⟨Or.inl ⟨l1, l2⟩, Nat.zero_le _, ⟨Nat.zero_le _, fun k hk => absurd hk (Nat.not_lt_zero _), fun i j _ hj => absurd hj (Nat.not_lt_zero _)⟩, ⟨Nat.zero_le _, fun i hi => absurd hi (Nat.not_lt_zero _)⟩, fun i hi => absurd hi (Nat.not_lt_zero _), hsd, Nat.zero_le _, fun i hi => absurd hi (Nat.not_lt_zero _), hIm⟩, ⟨e3, e4, e2, ⟨nw, w1, w2, rfl, fun k hk => absurd hk (Nat.not_lt_zero _)⟩, fun i hi => absurd hi (Nat.not_lt_zero _), ⟨rfl, fun i hi => absurd hi (Nat.not_lt_zero _)⟩, ⟨rfl, fun i hi => absurd hi (Nat.not_lt_zero _)⟩, c8, c9, rfl, rfl, c12, l6 _ _ e5 e6⟩, ⟨l3 _ rfl, ?_, g2, fun j f' hj _ => absurd hj (Nat.not_lt_zero _), ⟨uf, u1, (kk 54 (by omega)).trans u2, rfl, fun k hk => absurd hk (Nat.not_lt_zero _)⟩, ⟨rfl, fun i hi => absurd hi (Nat.not_lt_zero _)⟩, ⟨k3, fun i hi => absurd hi (Nat.not_lt_zero _)⟩, ⟨(kk 69 (by omega)).trans a8.1, a8.2⟩, (k2 56 (by decide)).trans a9, rfl, rfl, a12, l4, l5⟩, rfl⟩
    have hpos : 0 < (gH X.2.1).1 0 := by have := l1.1; omega
    unfold mFl
    rw [if_pos hpos]; rfl
  · refine ⟨_, _, _, _, _, _, _, _, _, _, _, _, _, _, _, _, _, _, _, _, _, _, _, _, _, _, _, _, _, _, _, _, _, _, _, _, _, _, _, _, _, _, _, _, _, _, _, _, _, _, _, _, _, _, _, hF z, hf1 z, b, H, m, ro, ta, U, K, KR, W, sd, (0, T.2), Im, rf1 rf 1, nI X.1.1, pp_pl kK kS kV X.1.1 X.1.2.1, ⟨hs, h5, hUo, hK, hKR, hsd, Nat.zero_le _, fun i hi => absurd hi (Nat.not_lt_zero _), hIm⟩, ⟨c1, c2, c3, ⟨nw, w1, w2, w3, w4⟩, c5, c6, ⟨rfl, fun i hi => absurd hi (Nat.not_lt_zero _)⟩, c8, c9, rfl, rfl, pR_up c12 (by decide), c13⟩, ⟨mH_old hE hP rfl q1 q4 q2 q3 q6 q5 q9 q12 (kk 13 (by omega)) a1, ?_, a3, a4, ⟨uf, u1, (kk 54 (by omega)).trans u2, (kk 55 (by omega)).trans u3, u4⟩, ⟨(kk 62 (by omega)).trans a6.1, a6.2⟩, ⟨k3, fun i hi => absurd hi (Nat.not_lt_zero _)⟩, ⟨(kk 69 (by omega)).trans a8.1, a8.2⟩, (k2 56 (by decide)).trans a9, rfl, rfl, pR_up a12 (by decide), ?_, mW_old hE hP a1.1 rfl q7 q8 a14⟩, rfl⟩
    · unfold mFl at a2 ⊢
      exact (kk 43 (by omega)).trans a2
    · have := eqO_at (i := 0) q13 a1.1 rfl (by decide)
      rw [show 1 * b + 0 = b by omega] at this
      exact this.trans a13
end
