/-! all STATEMENTS: the class -/
def phs (K V : Nat → Int32) : Nat → PPR × PG × Nat → PPR × PG × Nat
  | 0, x => x
  | m + 1, (r, G, s) => if r.1 = 0 ∧ ¬ K r.2.1 = -1 then (if s = 60 then ((6, r.2.1, []), G, s) else phs K V m (pp_bd (pst K V G r.2.1).1 (pp_tk K 59), (pst K V G r.2.1).2, s + 1)) else (r, G, s)
section
variable {n cN : Nat} {K St V : Nat → Int32} (N : Nat)
theorem pvN_ge (hV : ∀ i, i < n → K i = -3 → ∃ x, x ≤ 9999 ∧ V i = nI x) {j : Nat} (hj : j < n) (hk : K j = -3) (h : ¬ V j < 1) : 1 ≤ pvN V j := by
  obtain ⟨e, h9⟩ := pvN_eq hV hj hk
  rw [e] at h
  by_cases c : 1 ≤ pvN V j
  · exact c
  · exact absurd (show nI (pvN V j) < (1 : Int32) from nI_lt (b := 1) (by omega) (by decide)) h
theorem g_rul (hV : ∀ i, K i = -3 → (V i).toNatClampNeg ≤ 9999) (w i : Nat) (h : (ppF K V w i).1 = 0) : ∃ b, (w = 1 → b = true) ∧ pe_tc (pp_okw w) (ppF K V w i).2.2 [] = some [b] := by
  have g := pp_ty_grp (pp_okw_r w) hV (K := K) 9 (by decide)
  unfold ppF at h ⊢
  by_cases z : w = 1
  · rw [if_pos z] at h ⊢
    obtain ⟨b, e1, e2⟩ := g.2.1 i h [] (by decide)
    exact ⟨b, fun _ => e1 rfl, e2⟩
  · rw [if_neg z] at h ⊢
    obtain ⟨b, -, e2⟩ := g.1 i h [] (by decide)
    exact ⟨b, fun y => absurd y z, e2⟩
theorem g_stmt (hV : ∀ i, i < n → K i = -3 → ∃ x, x ≤ 9999 ∧ V i = nI x) (hV2 : ∀ i, K i = -3 → (V i).toNatClampNeg ≤ 9999) {G : PG} (hg : gok G) {i : Nat} (h0 : (pst K V G i).1.1 = 0) (hlt : (pst K V G i).1.2.1 < n) : gok (pst K V G i).2 := by
  obtain ⟨g1, g2, g3, g4, g5, g6, g7, g8, g9, g10, g11, g12, g13⟩ := hg
  unfold pst at h0 hlt ⊢
  by_cases k301 : K i = 301
  · rw [if_pos k301] at h0 hlt ⊢
    obtain ⟨z1, z2, z3, z4⟩ := pp_num0 h0
    have hlt : (pp_num K V 0 (nI (G.1 0) - 1) (i + 1)).2.1 < n := hlt
    rw [z4] at hlt
    have hlt : i + 1 + 1 < n := hlt
    obtain ⟨m, hm⟩ : ∃ m, G.1 0 = m + 1 := ⟨G.1 0 - 1, by omega⟩
    rw [hm, nI_pred] at z3
    have := pvN_le hV (by omega) z1 (by omega) z3
    exact ⟨g1, g2, g3, g4, by show pvN V (i + 1) < G.1 0; omega, g6, g7, g8, g9, g10, g11, g12, g13⟩
  rw [if_neg k301] at h0 hlt ⊢
  by_cases k302 : K i = 302
  · rw [if_pos k302] at h0 hlt ⊢
    obtain ⟨z1, z2, z3, z4⟩ := pp_num0 h0
    have hlt : (pp_num K V 0 9 (i + 1)).2.1 < n := hlt
    rw [z4] at hlt
    have hlt : i + 1 + 1 < n := hlt
    have := pvN_le hV (m := 9) (by omega) z1 (by omega) z3
    exact ⟨g1, g2, g3, g4, g5, this, g7, g8, g9, g10, g11, g12, g13⟩
  rw [if_neg k302] at h0 hlt ⊢
  by_cases k303 : K i = 303
  · rw [if_pos k303] at h0 hlt ⊢
    obtain ⟨z1, z2, z3, z4⟩ := pp_num0 h0
    have hlt : (pp_num K V 0 100 (i + 1)).2.1 < n := hlt
    rw [z4] at hlt
    have hlt : i + 1 + 1 < n := hlt
    have := pvN_le hV (m := 100) (by omega) z1 (by omega) z3
    exact ⟨g1, g2, g3, g4, g5, g6, this, g8, g9, g10, g11, g12, g13⟩
  rw [if_neg k303] at h0 hlt ⊢
  by_cases k304 : K i = 304
  · rw [if_pos k304] at h0 hlt ⊢
    by_cases y : G.1 1 = 7
    · rw [if_pos y] at h0; cases h0
    · rw [if_neg y] at h0 hlt ⊢
      obtain ⟨a1, a2, ⟨a3, a4, a5⟩, ⟨a6, a7, a8⟩, a9, -⟩ := pp_ear0 h0
      have hlt : (pp_ear K V G (i + 1)).2.1 < n := hlt
      rw [a9] at hlt
      have l1 := pvN_le hV (j := i + 3) (m := 9) (by omega) a3 (by omega) a5
      have l2 := pvN_le hV (j := i + 5) (m := 9) (by omega) a6 (by omega) a8
      refine ⟨g1, g2, by show G.1 1 + 1 ≤ 7; omega, g4, g5, g6, g7, fun e he => ?_, fun p hp => ?_, fun p q hp hq => ?_, g11, g12, g13⟩
      · have he : e < G.1 1 + 1 := he
        show (if e = G.1 1 then (if 2 = 2 then pvN V (i + 3) else if 2 = 1 then pvN V (i + 5) else G.2.1 2 e) else G.2.1 2 e) ≤ 9 ∧ (if e = G.1 1 then (if 1 = 2 then pvN V (i + 3) else if 1 = 1 then pvN V (i + 5) else G.2.1 1 e) else G.2.1 1 e) ≤ 9
        by_cases ee : e = G.1 1
        · rw [if_pos ee, if_pos ee, if_pos rfl, if_neg (by decide), if_pos rfl]; exact ⟨l1, l2⟩
        · rw [if_neg ee, if_neg ee]; exact g8 e (by omega)
      · have hp : p < G.1 2 := hp
        show 1 ≤ (if p = G.1 1 then (if 0 = 2 then pvN V (i + 3) else if 0 = 1 then pvN V (i + 5) else G.2.1 0 p) else G.2.1 0 p) ∧ (if p = G.1 1 then (if 0 = 2 then pvN V (i + 3) else if 0 = 1 then pvN V (i + 5) else G.2.1 0 p) else G.2.1 0 p) < G.1 0 ∧ (if p = G.1 1 then (if 3 = 2 then pvN V (i + 3) else if 3 = 1 then pvN V (i + 5) else G.2.1 3 p) else G.2.1 3 p) ≤ 9
        rw [if_neg (show ¬ (0 : Nat) = 2 by decide), if_neg (show ¬ (0 : Nat) = 1 by decide), if_neg (show ¬ (3 : Nat) = 2 by decide), if_neg (show ¬ (3 : Nat) = 1 by decide), ite_self, ite_self]
        exact g9 p hp
      · have hp : p < G.1 2 := hp
        have hq : q < G.1 2 := hq
        show (if p = G.1 1 then (if 0 = 2 then pvN V (i + 3) else if 0 = 1 then pvN V (i + 5) else G.2.1 0 p) else G.2.1 0 p) = (if q = G.1 1 then (if 0 = 2 then pvN V (i + 3) else if 0 = 1 then pvN V (i + 5) else G.2.1 0 q) else G.2.1 0 q) → p = q
        rw [if_neg (show ¬ (0 : Nat) = 2 by decide), if_neg (show ¬ (0 : Nat) = 1 by decide), if_neg (show ¬ (0 : Nat) = 2 by decide), if_neg (show ¬ (0 : Nat) = 1 by decide), ite_self, ite_self]
        exact g10 p q hp hq
  rw [if_neg k304] at h0 hlt ⊢
  by_cases k307 : K i = 307
  · rw [if_pos k307] at h0 hlt ⊢
    by_cases y : G.1 2 = 6
    · rw [if_pos y] at h0; cases h0
    · rw [if_neg y] at h0 hlt ⊢
      obtain ⟨a1, a2, ⟨a3, a30, a4, a5⟩, ⟨a6, a7, a8⟩, a9, -⟩ := pp_plc0 h0
      have hlt : (pp_plc K V G (i + 1)).2.1 < n := hlt
      rw [a9] at hlt
      obtain ⟨m, hm⟩ : ∃ m, G.1 0 = m + 1 := ⟨G.1 0 - 1, by omega⟩
      rw [hm, nI_pred] at a5
      have l1 := pvN_le hV (j := i + 3) (by omega) a3 (by omega) a5
      have l0 := pvN_ge hV (j := i + 3) (by omega) a3 a4
      have l2 := pvN_le hV (j := i + 5) (m := 9) (by omega) a6 (by omega) a8
      have ve := (pvN_eq hV (j := i + 3) (by omega) a3).1
      have dif : ∀ p, p < G.1 2 → ¬ G.2.1 0 p = pvN V (i + 3) := fun p hp z => by
        have := of_decide_eq_false a30
        exact this ⟨p, hp, by rw [z]; exact ve.symm⟩
      refine ⟨g1, g2, g3, by show G.1 2 + 1 ≤ 6; omega, g5, g6, g7, fun e he => ?_, fun p hp => ?_, fun p q hp hq => ?_, g11, g12, g13⟩
      · have he : e < G.1 1 := he
        show (if e = G.1 2 then (if 2 = 0 then pvN V (i + 3) else if 2 = 3 then pvN V (i + 5) else G.2.1 2 e) else G.2.1 2 e) ≤ 9 ∧ (if e = G.1 2 then (if 1 = 0 then pvN V (i + 3) else if 1 = 3 then pvN V (i + 5) else G.2.1 1 e) else G.2.1 1 e) ≤ 9
        rw [if_neg (show ¬ (2 : Nat) = 0 by decide), if_neg (show ¬ (2 : Nat) = 3 by decide), if_neg (show ¬ (1 : Nat) = 0 by decide), if_neg (show ¬ (1 : Nat) = 3 by decide), ite_self, ite_self]
        exact g8 e he
      · have hp : p < G.1 2 + 1 := hp
        show 1 ≤ (if p = G.1 2 then (if 0 = 0 then pvN V (i + 3) else if 0 = 3 then pvN V (i + 5) else G.2.1 0 p) else G.2.1 0 p) ∧ (if p = G.1 2 then (if 0 = 0 then pvN V (i + 3) else if 0 = 3 then pvN V (i + 5) else G.2.1 0 p) else G.2.1 0 p) < G.1 0 ∧ (if p = G.1 2 then (if 3 = 0 then pvN V (i + 3) else if 3 = 3 then pvN V (i + 5) else G.2.1 3 p) else G.2.1 3 p) ≤ 9
        by_cases ee : p = G.1 2
        · rw [if_pos ee, if_pos rfl, if_pos ee, if_neg (by decide), if_pos rfl]; exact ⟨l0, by omega, l2⟩
        · rw [if_neg ee, if_neg ee]; exact g9 p (by omega)
      · have hp : p < G.1 2 + 1 := hp
        have hq : q < G.1 2 + 1 := hq
        show (if p = G.1 2 then (if 0 = 0 then pvN V (i + 3) else if 0 = 3 then pvN V (i + 5) else G.2.1 0 p) else G.2.1 0 p) = (if q = G.1 2 then (if 0 = 0 then pvN V (i + 3) else if 0 = 3 then pvN V (i + 5) else G.2.1 0 q) else G.2.1 0 q) → p = q
        intro z
        by_cases ep : p = G.1 2
        · by_cases eq : q = G.1 2
          · omega
          · rw [if_pos ep, if_pos rfl, if_neg eq] at z
            exact absurd z.symm (dif q (by omega))
        · by_cases eq : q = G.1 2
          · rw [if_neg ep, if_pos eq, if_pos rfl] at z
            exact absurd z (dif p (by omega))
          · rw [if_neg ep, if_neg eq] at z
            exact g10 p q (by omega) (by omega) z
  rw [if_neg k307] at h0 hlt ⊢
  have rul : ∀ w, w < 3 → (pp_rul K V G w i).1.1 = 0 → gok (pp_rul K V G w i).2 := by
    intro w hw z
    unfold pp_rul at z ⊢
    by_cases y : G.2.2.2.2 w = true
    · rw [if_pos y] at z; cases z
    · rw [if_neg y] at z ⊢
      obtain ⟨b, e1, e2⟩ := g_rul hV2 w (i + 1) z
      have : w = 0 ∨ w = 1 ∨ w = 2 := by omega
      rcases this with rfl | rfl | rfl
      · exact ⟨g1, g2, g3, g4, g5, g6, g7, g8, g9, g10, ⟨b, e2⟩, g12, g13⟩
      · have hb := e1 rfl
        subst hb
        exact ⟨g1, g2, g3, g4, g5, g6, g7, g8, g9, g10, g11, e2, g13⟩
      · exact ⟨g1, g2, g3, g4, g5, g6, g7, g8, g9, g10, g11, g12, ⟨b, e2⟩⟩
  by_cases k310 : K i = 310
  · rw [if_pos k310] at h0 ⊢; exact rul 0 (by decide) h0
  rw [if_neg k310] at h0 ⊢
  by_cases k311 : K i = 311
  · rw [if_pos k311] at h0 ⊢; exact rul 1 (by decide) h0
  rw [if_neg k311] at h0 ⊢
  by_cases k312 : K i = 312
  · rw [if_pos k312] at h0 ⊢; exact rul 2 (by decide) h0
  rw [if_neg k312] at h0; cases h0

/-- the class behind its STATEMENTS -/
def cZ (n : Nat) (K St V : Nat → Int32) (x : PPR × PG × Nat) (y : CT16) : Prop := jc n K St V x.1 y.1 ∧ (x.1.1 = 0 → y.2.1 0 = nI x.2.2 ∧ gok x.2.1 ∧ cHs x.2.1 (y.2.1) (y.2.2.1) (y.2.2.2.1) (y.2.2.2.2.1) (y.2.2.2.2.2.1) (y.2.2.2.2.2.2.1) (y.2.2.2.2.2.2.2.1) (y.2.2.2.2.2.2.2.2.2.2.1) (y.2.2.2.2.2.2.2.2.2.2.2.1) (y.2.2.2.2.2.2.2.2.2.2.2.2.1) (y.2.2.2.2.2.2.2.2.2.2.2.2.2.1) (y.2.2.2.2.2.2.2.2.2.2.2.2.2.2.1) (y.2.2.2.2.2.2.2.2.2.2.2.2.2.2.2))
theorem c_loop (hN : 5000 ≤ N) (hx : cX n cN K) (hV : ∀ i, i < n → K i = -3 → ∃ x, x ≤ 9999 ∧ V i = nI x) (hV2 : ∀ i, K i = -3 → (V i).toNatClampNeg ≤ 9999) :
    ∀ (m M : Nat), m ≤ 60 → m < M → ∀ (r : PPR) (G : PG) (s : Nat) (mI b eN pN rF sF mF tF fI fc gF : Nat → Int32) (gM : Nat) (hF : Nat → Int32) (hM : Nat) (kF : Nat → Int32) (kM : Nat), s + m = 61 → cZ n K St V (r, G, s) (b, mI, eN, pN, rF, sF, mF, tF, fI, fc, gF, gM, hF, hM, kF, kM) → ∃ y, xq_loop (fX3_readHouse_l44 N K St V cN cN cN cN) M (b, mI, eN, pN, rF, sF, mF, tF, fI, fc, gF, gM, hF, hM, kF, kM, nI (60 - m)) = some y ∧ cZ n K St V (phs K V m (r, G, s)) y
  | _, 0, _, hM => absurd hM (Nat.not_lt_zero _)
  | 0, M + 1, _, _ => by
    intro r G s mI b eN pN rF sF mF tF fI fc gF gM hF hM kF kM hs h
    refine ⟨_, ?_, h⟩
    show fX3_readHouse_l44 N K St V cN cN cN cN _ (b, mI, eN, pN, rF, sF, mF, tF, fI, fc, gF, gM, hF, hM, kF, kM, nI 60) = _
    dsimp only [fX3_readHouse_l44]
    rw [if_pos (show (60 : Int32) ≤ nI 60 by decide)]
    rfl
  | m + 1, M + 1, hm, hM => by
    intro r G s mI b eN pN rF sF mF tF fI fc gF gM hF hMM kF kM hs h
    show ∃ y, fX3_readHouse_l44 N K St V cN cN cN cN (xq_loop (fX3_readHouse_l44 N K St V cN cN cN cN) M) (b, mI, eN, pN, rF, sF, mF, tF, fI, fc, gF, gM, hF, hMM, kF, kM, nI (60 - (m + 1))) = _ ∧ _
    dsimp only [fX3_readHouse_l44]
    rw [if_neg (show ¬ (60 : Int32) ≤ nI (60 - (m + 1)) from nI_ge (b := 60) (by omega) (by decide))]
    obtain ⟨h1, h2⟩ := h
    have h1 : jc n K St V r b := h1
    by_cases h0 : r.1 = 0
    · have hA := jc_al h0 h1
      obtain ⟨q1, q2, q3⟩ := h2 h0
      have q1 : mI 0 = nI s := q1
      have q2 : gok G := q2
      have q3 : cHs G mI eN pN rF sF mF tF gF gM hF hMM kF kM := q3
      rw [if_pos hA.2.2.1, jf_pieceA N hx hA, xs_bd]
      by_cases k : K r.2.1 = -1
      · rw [if_pos k]
        have e : phs K V (m + 1) (r, G, s) = (r, G, s) := by unfold phs; rw [if_neg (fun z => z.2 k)]
        rw [e]
        exact ⟨_, rfl, h1, fun _ => ⟨q1, q2, q3⟩⟩
      · rw [if_neg k]
        by_cases s60 : s = 60
        · have e : phs K V (m + 1) (r, G, s) = ((6, r.2.1, []), G, s) := by unfold phs; rw [if_pos ⟨h0, k⟩, if_pos s60]
          obtain ⟨b1, e1, e2⟩ := jf_failA N (St := St) (V := V) hx (f := 6) (by decide) (by decide) hA
          have eS : fX3_readStatement N mI b K V St eN pN rF sF mF tF fI fc gF gM hF hMM kF kM cN cN cN cN = some (mI, b1, eN, pN, rF, sF, mF, tF, fI, fc, gF, gM, hF, hMM, kF, kM) := by
            unfold fX3_readStatement
            have q1 : mI 0 = nI s := q1
            rw [q1, s60, if_neg (show ¬ nI 60 < (60 : Int32) by decide), show (6 : Int32) = nI 6 from rfl, e1, xs_bd]
          rw [eS, xs_bd, e]
          have hm0 : m = 0 := by omega
          subst hm0
          obtain ⟨M', rfl⟩ : ∃ M', M = M' + 1 := ⟨M - 1, by omega⟩
          refine ⟨(b1, va_up mI 0 (mI 0 + 1), eN, pN, rF, sF, mF, tF, fI, fc, gF, gM, hF, hMM, kF, kM), ?_, jc_f (by decide) e2, fun z => by cases z⟩
          show fX3_readHouse_l44 N K St V cN cN cN cN (xq_loop (fX3_readHouse_l44 N K St V cN cN cN cN) M') (b1, va_up mI 0 (mI 0 + 1), eN, pN, rF, sF, mF, tF, fI, fc, gF, gM, hF, hMM, kF, kM, nI (60 - 1) + 1) = _
          dsimp only [fX3_readHouse_l44]
          rw [if_pos (show (60 : Int32) ≤ nI (60 - 1) + 1 by decide)]
          rfl
        · obtain ⟨y, e1, e2, e3, e4⟩ := c_stmt N hN hx hV q2 hA q1 (by omega) q3 (fI := fI) (fc := fc)
          have e : phs K V (m + 1) (r, G, s) = phs K V m (pp_bd (pst K V G r.2.1).1 (pp_tk K 59), (pst K V G r.2.1).2, s + 1) := by
            show (if r.1 = 0 ∧ ¬ K r.2.1 = -1 then (if s = 60 then ((6, r.2.1, []), G, s) else phs K V m (pp_bd (pst K V G r.2.1).1 (pp_tk K 59), (pst K V G r.2.1).2, s + 1)) else (r, G, s)) = _
            rw [if_pos ⟨h0, k⟩, if_neg s60]
          obtain ⟨mI2, b2, eN2, pN2, rF2, sF2, mF2, tF2, fI2, fc2, gF2, gM2, hF2, hM2, kF2, kM2⟩ := y
          rw [e1, xs_bd, e]
          dsimp only
          have e3 : mI2 0 = nI s := e3
          rw [e3, nI_1, nI_1, show 60 - (m + 1) + 1 = 60 - m by omega]
          refine c_loop hN hx hV hV2 m M (by omega) (by omega) _ _ (s + 1) (va_up mI2 0 (nI (s + 1))) b2 eN2 pN2 rF2 sF2 mF2 tF2 fI2 fc2 gF2 gM2 hF2 hM2 kF2 kM2 (by omega) ⟨e2, fun z => ⟨rfl, ?_, e4 z⟩⟩
          obtain ⟨z1, z2, z3⟩ := pp_bd0 z
          have hlt := (jc_al z (show jc n K St V (pp_bd (pst K V G r.2.1).1 (pp_tk K 59)) b2 from e2)).2.2.2.1
          obtain ⟨t1, t2⟩ := pp_tk0 z2
          rw [z3] at hlt
          have hlt : (pp_tk K 59 (pst K V G r.2.1).1.2.1).2.1 < n := hlt
          rw [t2] at hlt
          have hlt : (pst K V G r.2.1).1.2.1 + 1 < n := hlt
          exact g_stmt hV hV2 q2 z1 (by omega)
    · have hd := jc_de h0 h1
      have e : phs K V (m + 1) (r, G, s) = (r, G, s) := by unfold phs; rw [if_neg (fun z => h0 z.1)]
      rw [if_neg (fun z => hd.2.2.2.1 (hd.2.2.1.symm.trans z)), e]
      exact ⟨_, rfl, h1, fun z => absurd z h0⟩
def pg1 (V : Nat → Int32) : PG := (fun k => if k = 0 then pvN V 1 else 0, fun _ _ => 0, fun _ _ => 0, pDf, fun _ => false)
def pp_rnd (K V : Nat → Int32) : PPR := pp_bd (pp_bd (pp_tk K 300 0) (pp_num K V 5 200)) (pp_tk K 59)
theorem pp_rnd0 {K V : Nat → Int32} (h : (pp_rnd K V).1 = 0) : K 1 = -3 ∧ ¬ V 1 < 5 ∧ ¬ 200 < V 1 ∧ (pp_rnd K V).2.1 = 3 ∧ (pp_tk K 300 0).1 = 0 ∧ (pp_tk K 300 0).2.1 = 1 := by
  unfold pp_rnd at h ⊢
  obtain ⟨a1, a2, a3⟩ := pp_bd0 h
  obtain ⟨b1, b2, b3⟩ := pp_bd0 a1
  obtain ⟨c1, c2⟩ := pp_tk0 b1
  rw [c2] at b2 b3
  obtain ⟨d1, d2, d3, d4⟩ := pp_num0 b2
  have e1 : (pp_bd (pp_tk K 300 0) (pp_num K V 5 200)).2.1 = 2 := by rw [c2, b3]; show (pp_num K V 5 200 (0 + 1)).2.1 = _; rw [d4]
  rw [e1] at a2 a3
  obtain ⟨f1, f2⟩ := pp_tk0 a2
  refine ⟨d1, d2, d3, ?_, b1, by rw [c2]⟩
  rw [a3]; show (pp_tk K 59 2).2.1 = 3; rw [f2]
theorem g_one (hV : ∀ i, i < n → K i = -3 → ∃ x, x ≤ 9999 ∧ V i = nI x) (h : (pp_rnd K V).1 = 0) (hn : 3 < n) : gok (pg1 V) := by
  obtain ⟨a1, a2, a3, -⟩ := pp_rnd0 h
  obtain ⟨e, h9⟩ := pvN_eq hV (j := 1) (by omega) a1
  have l1 := pvN_le hV (j := 1) (m := 200) (by omega) a1 (by omega) a3
  have l2 : 5 ≤ pvN V 1 := by
    rw [e] at a2
    by_cases c : 5 ≤ pvN V 1
    · exact c
    · exact absurd (show nI (pvN V 1) < (5 : Int32) from nI_lt (b := 5) (by omega) (by decide)) a2
  exact ⟨l2, l1, by show 0 ≤ 7; omega, by show 0 ≤ 6; omega, by show 0 < pvN V 1; omega, by show 0 ≤ 9; omega, by show 0 ≤ 100; omega, fun e he => absurd he (Nat.not_lt_zero _), fun p hp => absurd hp (Nat.not_lt_zero _), fun p q hp => absurd hp (Nat.not_lt_zero _), ⟨true, rfl⟩, rfl, ⟨false, rfl⟩⟩
theorem c_readHouse (hN : 5000 ≤ N) (hx : cX n cN K) (hV : ∀ i, i < n → K i = -3 → ∃ x, x ≤ 9999 ∧ V i = nI x) (hV2 : ∀ i, K i = -3 → (V i).toNatClampNeg ≤ 9999) {b : Nat → Int32} (hA : cA n 0 b) :
    ∃ y, fX3_readHouse N b K St V (fun _ => 0) (fun _ => 0) (fun _ => 0) (fun _ => 0) (fun _ => 0) (fun _ => 0) (fun _ => 0) (va_up (fun _ => 0) 4 310) (fun _ => 0) (upd (fun _ => 0) 0 1) 1 (upd (upd (upd (fun _ => 0) 0 10316) 1 10) 2 20060) 3 (upd (fun _ => 0) 0 10309) 1 cN cN cN cN = some y ∧ cZ n K St V (phs K V 60 (pp_rnd K V, pg1 V, 1)) y := by
  obtain ⟨b1, e1, e2⟩ := jf_take N (St := St) (V := V) hx (r := (0, 0, [])) 300 (by decide) (by decide) (jc_0 hA)
  obtain ⟨v, b2, f1, f2, f3⟩ := jf_number N hx 5 200 e2
  obtain ⟨b3, g1, g2⟩ := jf_take N hx 59 (by decide) (by decide) f2
  unfold fX3_readHouse
  rw [e1, xs_bd, f1, xs_bd]
  dsimp only
  rw [g1, xs_bd]
  refine c_loop N hN hx hV hV2 60 61 (by decide) (by decide) _ _ 1 _ _ _ _ _ _ _ _ _ _ _ _ _ _ _ _ (by decide) ⟨g2, fun z => ?_⟩
  have z : (pp_rnd K V).1 = 0 := z
  obtain ⟨a1, a2, a3, a4, a5, a6⟩ := pp_rnd0 z
  have hlt := (jc_al z (show jc n K St V (pp_rnd K V) b3 from g2)).2.2.2.1
  rw [a4] at hlt
  have hv : v = nI (pvN V 1) := by
    have := f3 a5
    rw [show pp_bd (0, 0, []) (pp_tk K 300) = pp_tk K 300 0 from rfl, a6] at this
    rw [this]; exact (pvN_eq hV (by omega) a1).1
  refine ⟨rfl, g_one hV z hlt, hv, rfl, rfl, rfl, rfl, rfl, fun e he => absurd he (Nat.not_lt_zero _), fun p hp => absurd hp (Nat.not_lt_zero _), ⟨rfl, fun j c hj => ?_⟩, ⟨rfl, fun j c hj => ?_⟩, ⟨rfl, fun j c hj => ?_⟩, rfl, rfl, rfl⟩
  · cases j with
    | zero => cases hj; rfl
    | succ j => cases hj
  · cases j with
    | zero => cases hj; rfl
    | succ j =>
      cases j with
      | zero => cases hj; rfl
      | succ j =>
        cases j with
        | zero => cases hj; rfl
        | succ j => cases hj
  · cases j with
    | zero => cases hj; rfl
    | succ j => cases hj
end
