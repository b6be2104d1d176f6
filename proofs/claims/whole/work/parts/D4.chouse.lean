/-! the class reads a house -/
def gH (G : PG) : PH := (G.1, G.2.1, G.2.2.2.1)
def gM (G : PG) (k : Nat) : Nat := if k = 1 then G.1 4 else if k = 4 then G.1 5 else 0
theorem c_begin (N : Nat) {moI hoI rF mr tF mt : Nat → Int32} {G : PG} (hg : gok G) (h2 : hoI 2 = nI (G.1 4)) (h3 : hoI 3 = nI (G.1 5)) (hr : ∀ e, e < G.1 1 → rF e = nI (G.2.1 2 e)) (ht : ∀ p, p < G.1 2 → tF p = nI (G.2.1 3 p)) : ∃ a b c, fX6_begin N moI hoI rF mr tF mt = some (a, b, c) ∧ cNow (gH G) (gM G) (G.2.1 2) (G.2.1 3) a b c := by
  unfold fX6_begin xq_cpy
  rw [if_neg (by decide), if_neg (by decide), xs_bd, xs_bd]
  have z0 : (0 : Int32).toNatClampNeg = 0 := rfl
  have z7 : (7 : Int32).toNatClampNeg = 7 := rfl
  have z6 : (6 : Int32).toNatClampNeg = 6 := rfl
  obtain ⟨g0, g1, g2, g3, g4, g5, g6, g7, g8, -⟩ := hg
  refine ⟨_, _, _, rfl, ?_, fun e he => ⟨?_, (g7 e he).1⟩, fun p hp => ⟨?_, (g8 p hp).2.2⟩⟩
  · intro j hj
    have : j = 0 ∨ j = 1 ∨ j = 2 ∨ j = 3 ∨ j = 4 ∨ j = 5 := by omega
    rcases this with rfl | rfl | rfl | rfl | rfl | rfl
    · rfl
    · exact h2
    · rfl
    · rfl
    · exact h3
    · rfl
  · have he' : e < G.1 1 := he
    rw [z0, z7]
    unfold va_cpy
    rw [if_pos (by omega), show 0 + (e - 0) = e by omega]
    exact hr e he
  · have hp' : p < G.1 2 := hp
    rw [z0, z6]
    unfold va_cpy
    rw [if_pos (by omega), show 0 + (p - 0) = p by omega]
    exact ht p hp
theorem xs_ln {k : Nat} (h : k ≤ 134217728) : xq_ln (nI k) = some k := by
  unfold xq_ln
  rw [if_neg (nI_pos (by omega)), nI_clamp (by omega), if_neg (by omega)]
section
variable (N : Nat) {T : PT} {taI bF : Nat → Int32}
theorem c_house (hN : 5000 ≤ N) (h : cT T taI bF) (hT : T.1 ≤ 1600) : ∃ K St V n, cX n (T.1 + 1) K ∧ lxAll T K St V n ∧ 0 < n ∧ ∀ (dvI nowI nr nt paI mkI rf hoI eN rF sF pN pM tF : Nat → Int32) (gF : Nat → Int32) (gN : Nat) (hF : Nat → Int32) (hNn : Nat) (kF : Nat → Int32) (kN : Nat),
    (¬ (phs K V 60 (pp_rnd K V, pg1 V, 1)).1.1 = 0 → fX11_house N dvI taI bF nowI nr nt paI mkI rf hoI eN rF sF pN pM tF gF gN hF hNn kF kN = some (-1, va_up (va_up dvI 13 (nI (phs K V 60 (pp_rnd K V, pg1 V, 1)).1.1)) 14 (pp_pl K St V (phs K V 60 (pp_rnd K V, pg1 V, 1)).1.1 (phs K V 60 (pp_rnd K V, pg1 V, 1)).1.2.1), va_up taI 1 0, nowI, nr, nt, paI, mkI, upd rf 1 (rf 1 + 1), hoI, eN, rF, sF, pN, pM, tF, gF, gN, hF, hNn, kF, kN)) ∧
    ((phs K V 60 (pp_rnd K V, pg1 V, 1)).1.1 = 0 → ∃ a b c hoI' eN' rF' sF' pN' pM' tF' gF' gN' hF' hN' kF' kN', fX11_house N dvI taI bF nowI nr nt paI mkI rf hoI eN rF sF pN pM tF gF gN hF hNn kF kN = some (nI (phs K V 60 (pp_rnd K V, pg1 V, 1)).2.2, va_up (va_up dvI 13 0) 14 (-1), va_up taI 1 0, a, b, c, va_up paI 2 0, va_up mkI 0 0, rf, hoI', eN', rF', sF', pN', pM', tF', gF', gN', hF', hN', kF', kN') ∧ gok (phs K V 60 (pp_rnd K V, pg1 V, 1)).2.1 ∧ cNow (gH (phs K V 60 (pp_rnd K V, pg1 V, 1)).2.1) (gM (phs K V 60 (pp_rnd K V, pg1 V, 1)).2.1) ((phs K V 60 (pp_rnd K V, pg1 V, 1)).2.1.2.1 2) ((phs K V 60 (pp_rnd K V, pg1 V, 1)).2.1.2.1 3) a b c ∧ cH (gH (phs K V 60 (pp_rnd K V, pg1 V, 1)).2.1) hoI' sF' pM' gF' hF' kF' gN' hN' kN' ∧ hoI' 4 = nI ((phs K V 60 (pp_rnd K V, pg1 V, 1)).2.1.1 3) ∧ (∀ e, e < (phs K V 60 (pp_rnd K V, pg1 V, 1)).2.1.1 1 → eN' e = (phs K V 60 (pp_rnd K V, pg1 V, 1)).2.1.2.2.1 0 e) ∧ ∀ p, p < (phs K V 60 (pp_rnd K V, pg1 V, 1)).2.1.1 2 → pN' p = (phs K V 60 (pp_rnd K V, pg1 V, 1)).2.1.2.2.1 1 p) := by
  obtain ⟨tx, K, St, V, n, e1, e2, e3, e4, e5⟩ := c_pieces N hN h hT
  have hb : ∀ i, i < T.1 → T.2 i < 256 := fun i hi => (h.2 i hi).2
  have hall : lxAll T K St V n := ⟨e4, e5⟩
  refine ⟨K, St, V, n, e3, hall, by have := e2.2.2.2.1; omega, ?_⟩
  intro dvI nowI nr nt paI mkI rf hoI eN rF sF pN pM tF gF gN hF hNn kF kN
  obtain ⟨y, f1, f2, f3⟩ := c_readHouse N (St := St) hN e3 (lx_hV hT hb hall) (lx_hV2 hT hb hall) e2
  generalize phs K V 60 (pp_rnd K V, pg1 V, 1) = X at f2 f3
  have hln : xq_ln (taI 1 + 1) = some (T.1 + 1) := by rw [h.1, nI_1]; exact xs_ln (by omega)
  unfold fX11_house
  rw [hln, xs_bd, e1, xs_bd]
  dsimp only
  rw [f1, xs_bd]
  obtain ⟨y0, y1, y2, y3, y4, y5, y6, y7, y8, y9, y10, y11, y12, y13, y14, y15⟩ := y
  dsimp only at f2 f3 ⊢
  unfold jc at f2
  constructor
  · intro z
    rw [if_neg z] at f2
    obtain ⟨-, -, q1, q2, q3⟩ := f2
    have hrf : fX11_refuseNumber N rf 1 = some (-1, upd rf 1 (rf 1 + 1)) := c_refuseN N (rF := rf) (k := 1) (by decide)
    rw [if_neg (by rw [q1]; exact q2), hrf, xs_bd, q1, q3]
  · intro z
    rw [if_pos z] at f2
    obtain ⟨-, -, q1, -, q3⟩ := f2
    obtain ⟨w0, wg, w1, w2, w3, w4, w5, w6, w7, w8, w9, w10, w11, -⟩ := f3 z
    obtain ⟨a, b, c, v1, v2⟩ := c_begin N (moI := nowI) (hoI := y1) (rF := y4) (mr := nr) (tF := y7) (mt := nt) wg w2 w3 (fun e he => (w7 e he).2.1) (fun p hp => (w8 p hp).2.2)
    rw [if_pos q1, v1, xs_bd, q1, q3, w0]
    exact ⟨a, b, c, y1, y2, y4, y5, y3, y6, y7, y10, y11, y12, y13, y14, y15, rfl, wg, v2, ⟨w1, w5, w6, fun k hk => (w8 k hk).2.1, fun e he => (w7 e he).2.2, w9, w10, w11⟩, w4, fun e he => (w7 e he).1, fun p hp => (w8 p hp).1⟩
end
