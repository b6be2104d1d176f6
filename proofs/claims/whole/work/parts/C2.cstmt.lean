/-! the class reads a STATEMENT -/
abbrev CT16 := (Nat → Int32) × (Nat → Int32) × (Nat → Int32) × (Nat → Int32) × (Nat → Int32) × (Nat → Int32) × (Nat → Int32) × (Nat → Int32) × (Nat → Int32) × (Nat → Int32) × (Nat → Int32) × Nat × (Nat → Int32) × Nat × (Nat → Int32) × Nat
def cY (n : Nat) (K St V : Nat → Int32) (r : PPR) (G : PG) (s : Nat) (y : CT16) : Prop := jc n K St V r y.2.1 ∧ y.1 0 = nI s ∧ (r.1 = 0 → cHs G (y.1) (y.2.2.1) (y.2.2.2.1) (y.2.2.2.2.1) (y.2.2.2.2.2.1) (y.2.2.2.2.2.2.1) (y.2.2.2.2.2.2.2.1) (y.2.2.2.2.2.2.2.2.2.2.1) (y.2.2.2.2.2.2.2.2.2.2.2.1) (y.2.2.2.2.2.2.2.2.2.2.2.2.1) (y.2.2.2.2.2.2.2.2.2.2.2.2.2.1) (y.2.2.2.2.2.2.2.2.2.2.2.2.2.2.1) (y.2.2.2.2.2.2.2.2.2.2.2.2.2.2.2))
section
variable {n cN : Nat} {K St V : Nat → Int32} (N : Nat)
theorem c_b167 (hx : cX n cN K) {r : PPR} {G : PG} {s : Nat} {mI b eN pN rF sF mF tF fI fc gF : Nat → Int32} {gM : Nat} {hF : Nat → Int32} {hM : Nat} {kF : Nat → Int32} {kM : Nat} (h : cY n K St V r G s (mI, b, eN, pN, rF, sF, mF, tF, fI, fc, gF, gM, hF, hM, kF, kM)) : ∃ y, fX3_readStatement_b167 N K V St cN cN cN cN (mI, b, eN, pN, rF, sF, mF, tF, fI, fc, gF, gM, hF, hM, kF, kM) = some y ∧ cY n K St V (pp_bd r (pp_tk K 59)) G s y := by
  obtain ⟨h1, h2, h3⟩ := h
  obtain ⟨b', e1, e2⟩ := jf_take N hx 59 (by decide) (by decide) (show jc n K St V r b from h1)
  dsimp only [fX3_readStatement_b167]
  rw [e1, xs_bd]
  exact ⟨_, rfl, e2, h2, fun z => h3 (pp_bd0 z).1⟩
theorem c_stmt (hN : 5000 ≤ N) (hx : cX n cN K) (hV : ∀ i, i < n → K i = -3 → ∃ x, x ≤ 9999 ∧ V i = nI x) {G : PG} (hg : gok G) {i s : Nat} {mI b eN pN rF sF mF tF fI fc gF : Nat → Int32} {gM : Nat} {hF : Nat → Int32} {hM : Nat} {kF : Nat → Int32} {kM : Nat} (hA : cA n i b) (hs : mI 0 = nI s) (hs60 : s < 60) (hG : cHs G mI eN pN rF sF mF tF gF gM hF hM kF kM) :
    ∃ y, fX3_readStatement N mI b K V St eN pN rF sF mF tF fI fc gF gM hF hM kF kM cN cN cN cN = some y ∧ cY n K St V (pp_bd (pst K V G i).1 (pp_tk K 59)) (pst K V G i).2 s y := by
  have hin := hA.2.2.2.1
  have nxt : ∀ c : Int32, ¬ c = -1 → ¬ c = -2 → K i = c → ∃ b1, fX10_next N b = some b1 ∧ cA n (i + 1) b1 := fun c c1 c2 z => jf_nextA N hx hA (cX_in hx hin (by rw [z]; exact c1) (by rw [z]; exact c2))
  have wrong : ∃ y, xq_bd (fX10_wrong N b K St V cN cN cN) (fun r_11 => fX3_readStatement_b167 N K V St cN cN cN cN (mI, r_11, eN, pN, rF, sF, mF, tF, fI, fc, gF, gM, hF, hM, kF, kM)) = some y ∧ cY n K St V (pp_bd (1, i, []) (pp_tk K 59)) G s y := by
    obtain ⟨b1, e1, e2⟩ := jf_wrongA N (St := St) (V := V) hx hA
    rw [e1, xs_bd]
    exact c_b167 N hx ⟨jc_f (by decide) e2, hs, fun z => by cases z⟩
  obtain ⟨c1, c2, c3, c4, c5, c6, c7, c8, c9, c10, c11, c12, c13, c14⟩ := hG
  have hG : cHs G mI eN pN rF sF mF tF gF gM hF hM kF kM := ⟨c1, c2, c3, c4, c5, c6, c7, c8, c9, c10, c11, c12, c13, c14⟩
  unfold fX3_readStatement pst
  rw [hs, if_pos (show nI s < (60 : Int32) from nI_lt (b := 60) hs60 (by decide)), jf_pieceA N hx hA, xs_bd]

  by_cases k301 : K i = 301
  · rw [if_pos k301, if_pos k301]
    obtain ⟨b1, e1, e2⟩ := nxt 301 (by decide) (by decide) k301
    obtain ⟨v, b2, e3, e4, e5⟩ := jf_number N (St := St) (V := V) (r := (0, i + 1, [])) hx 0 (nI (G.1 0) - 1) (jc_0 e2)
    have eS : fX3_readSetting N b V K St mI cN cN cN (K i) = some (b2, va_up mI 2 v) := by
      unfold fX3_readSetting
      rw [e1, xs_bd]
      rw [if_pos (show K i = 301 from k301)]
      rw [c1, e3, xs_bd]
    rw [eS, xs_bd]
    refine c_b167 N hx ⟨e4, hs, fun z => ?_⟩
    have z : (pp_num K V 0 (nI (G.1 0) - 1) (i + 1)).1 = 0 := z
    obtain ⟨z1, z2, z3, z4⟩ := pp_num0 z
    have hlt := (jc_al z (show jc n K St V (pp_num K V 0 (nI (G.1 0) - 1) (i + 1)) b2 from e4)).2.2.2.1
    rw [z4] at hlt
    have hlt : i + 1 + 1 < n := hlt
    have hv : v = nI (pvN V (i + 1)) := (e5 rfl).trans (pvN_eq hV (by omega) z1).1
    exact ⟨c1, hv, c3, c4, c5, c6, c7, c8, c9, c10, c11, c12, c13, c14⟩
  rw [if_neg k301, if_neg k301]
  by_cases k302 : K i = 302
  · rw [if_pos k302, if_pos k302]
    obtain ⟨b1, e1, e2⟩ := nxt 302 (by decide) (by decide) k302
    obtain ⟨v, b2, e3, e4, e5⟩ := jf_number N (St := St) (V := V) (r := (0, i + 1, [])) hx 0 9 (jc_0 e2)
    have eS : fX3_readSetting N b V K St mI cN cN cN (K i) = some (b2, va_up mI 3 v) := by
      unfold fX3_readSetting
      rw [e1, xs_bd]
      rw [if_neg (show ¬ K i = 301 by rw [k302]; decide), if_pos (show K i = 302 from k302)]
      rw [e3, xs_bd]
    rw [eS, xs_bd]
    refine c_b167 N hx ⟨e4, hs, fun z => ?_⟩
    have z : (pp_num K V 0 9 (i + 1)).1 = 0 := z
    obtain ⟨z1, z2, z3, z4⟩ := pp_num0 z
    have hlt := (jc_al z (show jc n K St V (pp_num K V 0 9 (i + 1)) b2 from e4)).2.2.2.1
    rw [z4] at hlt
    have hlt : i + 1 + 1 < n := hlt
    have hv : v = nI (pvN V (i + 1)) := (e5 rfl).trans (pvN_eq hV (by omega) z1).1
    exact ⟨c1, c2, hv, c4, c5, c6, c7, c8, c9, c10, c11, c12, c13, c14⟩
  rw [if_neg k302, if_neg k302]
  by_cases k303 : K i = 303
  · rw [if_pos k303, if_pos k303]
    obtain ⟨b1, e1, e2⟩ := nxt 303 (by decide) (by decide) k303
    obtain ⟨v, b2, e3, e4, e5⟩ := jf_number N (St := St) (V := V) (r := (0, i + 1, [])) hx 0 100 (jc_0 e2)
    have eS : fX3_readSetting N b V K St mI cN cN cN (K i) = some (b2, va_up mI 4 v) := by
      unfold fX3_readSetting
      rw [e1, xs_bd]
      rw [if_neg (show ¬ K i = 301 by rw [k303]; decide), if_neg (show ¬ K i = 302 by rw [k303]; decide)]
      rw [e3, xs_bd]
    rw [eS, xs_bd]
    refine c_b167 N hx ⟨e4, hs, fun z => ?_⟩
    have z : (pp_num K V 0 100 (i + 1)).1 = 0 := z
    obtain ⟨z1, z2, z3, z4⟩ := pp_num0 z
    have hlt := (jc_al z (show jc n K St V (pp_num K V 0 100 (i + 1)) b2 from e4)).2.2.2.1
    rw [z4] at hlt
    have hlt : i + 1 + 1 < n := hlt
    have hv : v = nI (pvN V (i + 1)) := (e5 rfl).trans (pvN_eq hV (by omega) z1).1
    exact ⟨c1, c2, c3, hv, c5, c6, c7, c8, c9, c10, c11, c12, c13, c14⟩
  rw [if_neg k303, if_neg k303]
  by_cases k304 : K i = 304
  · rw [if_pos k304, if_pos k304]
    unfold fX3_readEar
    rw [c5]
    by_cases hE7 : G.1 1 = 7
    · obtain ⟨b1, e1, e2⟩ := jf_failA N (St := St) (V := V) hx (f := 6) (by decide) (by decide) hA
      rw [if_pos hE7, hE7, if_neg (show ¬ nI 7 < (7 : Int32) by decide), show (6 : Int32) = nI 6 from rfl, e1, xs_bd, xs_bd]
      exact c_b167 N hx ⟨jc_f (by decide) e2, hs, fun z => by cases z⟩
    · have hE : G.1 1 < 7 := by have := hg.2.2.1; omega
      rw [if_neg hE7, if_pos (show nI (G.1 1) < (7 : Int32) from nI_lt (b := 7) hE (by decide))]
      obtain ⟨b1, e1, e2⟩ := nxt 304 (by decide) (by decide) k304
      obtain ⟨v1, b2, f1, f2, f3⟩ := jf_name N (St := St) (V := V) (r := (0, i + 1, [])) hN hx (by omega) hg.2.2.2.1 c5 c6 (eN := eN) (pN := pN) (jc_0 e2)
      have hfn : (fun i => nmHas (G.1 1) (G.1 2) eN pN (V i)) = fun j => nmG G (V j) := funext fun j => nmG_c hG (V j)
      rw [hfn, pp_bd_z] at f2
      obtain ⟨b3, g1, g2⟩ := jf_take N hx 305 (by decide) (by decide) f2
      obtain ⟨v2, b4, g3, g4, g5⟩ := jf_number N hx 0 9 g2
      obtain ⟨b5, g6, g7⟩ := jf_take N hx 306 (by decide) (by decide) g4
      obtain ⟨v3, b6, g8, g9, g10⟩ := jf_number N hx 0 9 g7
      rw [e1, xs_bd, f1, xs_bd]
      dsimp only
      rw [xs_ast hE (by decide), xs_bd, g1, xs_bd, g3, xs_bd]
      dsimp only
      rw [xs_ast hE (by decide), xs_bd, g6, xs_bd, g8, xs_bd]
      dsimp only
      rw [xs_ast hE (by decide), xs_bd, xs_bd]
      refine c_b167 N hx ⟨g9, hs, fun z => ?_⟩
      have z : (pp_ear K V G (i + 1)).1 = 0 := z
      obtain ⟨a1, a2, ⟨a3, a4, a5⟩, ⟨a6, a7, a8⟩, a9, d1, d2, d3, d4, d5, d6⟩ := pp_ear0 z
      have hlt := (jc_al z (show jc n K St V (pp_ear K V G (i + 1)) b6 from g9)).2.2.2.1
      rw [a9] at hlt
      have hv2 : v2 = nI (pvN V (i + 3)) := by rw [g5 d3, d4]; exact (pvN_eq hV (by omega) a3).1
      have hv3 : v3 = nI (pvN V (i + 5)) := by rw [g10 d5, d6]; exact (pvN_eq hV (by omega) a6).1
      refine ⟨c1, c2, c3, c4, nI_1 _, c6, fun e he => ?_, fun p hp => ?_, c9, c10, c11, c12, c13, c14⟩
      · have he : e < G.1 1 + 1 := he
        show upd eN (G.1 1) v1 e = (if 0 = 0 ∧ e = G.1 1 then V (i + 1) else G.2.2.1 0 e) ∧ upd rF (G.1 1) v2 e = nI (if e = G.1 1 then (if 2 = 2 then pvN V (i + 3) else if 2 = 1 then pvN V (i + 5) else G.2.1 2 e) else G.2.1 2 e) ∧ upd sF (G.1 1) v3 e = nI (if e = G.1 1 then (if 1 = 2 then pvN V (i + 3) else if 1 = 1 then pvN V (i + 5) else G.2.1 1 e) else G.2.1 1 e)
        unfold upd
        by_cases ee : e = G.1 1
        · rw [if_pos ee, if_pos ee, if_pos ee, if_pos ⟨rfl, ee⟩, if_pos ee, if_pos ee, if_pos rfl, if_neg (by decide), if_pos rfl]
          exact ⟨f3 rfl, hv2, hv3⟩
        · rw [if_neg ee, if_neg ee, if_neg ee, if_neg (fun z => ee z.2), if_neg ee, if_neg ee]
          exact c7 e (by omega)
      · have hp : p < G.1 2 := hp
        show pN p = (if 1 = 0 ∧ p = G.1 1 then V (i + 1) else G.2.2.1 1 p) ∧ mF p = nI (if p = G.1 1 then (if 0 = 2 then pvN V (i + 3) else if 0 = 1 then pvN V (i + 5) else G.2.1 0 p) else G.2.1 0 p) ∧ tF p = nI (if p = G.1 1 then (if 3 = 2 then pvN V (i + 3) else if 3 = 1 then pvN V (i + 5) else G.2.1 3 p) else G.2.1 3 p)
        rw [if_neg (fun z => absurd z.1 (by decide)), if_neg (show ¬ (0 : Nat) = 2 by decide), if_neg (show ¬ (0 : Nat) = 1 by decide), if_neg (show ¬ (3 : Nat) = 2 by decide), if_neg (show ¬ (3 : Nat) = 1 by decide), ite_self, ite_self]
        exact c8 p hp
  rw [if_neg k304, if_neg k304]
  by_cases k305 : K i = 305
  · rw [if_pos k305, if_neg (by rw [k305]; decide), if_neg (by rw [k305]; decide), if_neg (by rw [k305]; decide), if_neg (by rw [k305]; decide)]; exact wrong
  rw [if_neg k305]
  by_cases k306 : K i = 306
  · rw [if_pos k306, if_neg (by rw [k306]; decide), if_neg (by rw [k306]; decide), if_neg (by rw [k306]; decide), if_neg (by rw [k306]; decide)]; exact wrong
  rw [if_neg k306]
  by_cases k307 : K i = 307
  · rw [if_pos k307, if_pos k307]
    unfold fX3_readPlace
    rw [c6]
    by_cases hP6 : G.1 2 = 6
    · obtain ⟨b1, e1, e2⟩ := jf_failA N (St := St) (V := V) hx (f := 6) (by decide) (by decide) hA
      rw [if_pos hP6, hP6, if_neg (show ¬ nI 6 < (6 : Int32) by decide), show (6 : Int32) = nI 6 from rfl, e1, xs_bd, xs_bd]
      exact c_b167 N hx ⟨jc_f (by decide) e2, hs, fun z => by cases z⟩
    · have hP : G.1 2 < 6 := by have := hg.2.2.2.1; omega
      rw [if_neg hP6, if_pos (show nI (G.1 2) < (6 : Int32) from nI_lt (b := 6) hP (by decide))]
      obtain ⟨b1, e1, e2⟩ := nxt 307 (by decide) (by decide) k307
      obtain ⟨v1, b2, f1, f2, f3⟩ := jf_name N (St := St) (V := V) (r := (0, i + 1, [])) hN hx hg.2.2.1 hg.2.2.2.1 c5 c6 (eN := eN) (pN := pN) (jc_0 e2)
      have hfn : (fun i => nmHas (G.1 1) (G.1 2) eN pN (V i)) = fun j => nmG G (V j) := funext fun j => nmG_c hG (V j)
      rw [hfn, pp_bd_z] at f2
      obtain ⟨b3, g1, g2⟩ := jf_take N hx 308 (by decide) (by decide) f2
      rw [e1, xs_bd, f1, xs_bd]
      dsimp only
      rw [xs_ast hP (by decide), xs_bd, g1, xs_bd]
      -- the number, with the PLACES that are there
      have key := jf_pnm N (St := St) (V := V) hN hx hg.2.2.2.1 (mF := mF) c6 (plG_c hG) 1 (nI (G.1 0) - 1) g2 (fun b4 => fX3_readPlace_b95 N V K eN St cN cN cN (mI, b4, upd pN (G.1 2) v1, mF, tF)) (fun q => ∃ b6 v2 v3, q = some (va_up mI 6 (nI (G.1 2) + 1), b6, upd pN (G.1 2) v1, upd mF (G.1 2) v2, upd tF (G.1 2) v3) ∧ jc n K St V (pp_plc K V G (i + 1)) b6 ∧ ((pp_plc K V G (i + 1)).1 = 0 → v2 = V (i + 3) ∧ v3 = V (i + 5))) (fun v2 b4 b5 q1 q2 q3 => by
        obtain ⟨b6, g6, g7⟩ := jf_take N hx 309 (by decide) (by decide) q2
        obtain ⟨v3, b7, g8, g9, g10⟩ := jf_number N hx 0 9 g7
        refine ⟨b7, v2, v3, ?_, g9, fun z => ?_⟩
        · dsimp only [fX3_readPlace_b95]
          rw [c1, q1, xs_bd]
          dsimp only
          rw [c6, xs_ast hP (by decide), xs_bd, g6, xs_bd, g8, xs_bd]
          dsimp only
          rw [xs_ast hP (by decide), xs_bd]
        · obtain ⟨a1, a2, ⟨a3, a30, a4, a5⟩, ⟨a6, a7, a8⟩, a9, d1, d2, d3, d4, d5, d6⟩ := pp_plc0 z
          refine ⟨?_, by rw [g10 d5, d6]⟩
          have := q3 d3
          rw [d4] at this
          refine this ?_
          obtain ⟨y1, y2, y3⟩ := pp_bd0 (pp_bd0 (show (pp_bd (pp_bd (pp_bd (pp_bd (pp_nam K (fun j => nmG G (V j)) (i + 1)) (pp_tk K 308)) (pp_pnm K V (plG G) 1 (nI (G.1 0) - 1))) (pp_tk K 309)) (pp_num K V 0 9)).1 = 0 from z)).1
          have := (pp_bd0 y1).2.1
          rw [d4] at this; exact this)
      obtain ⟨b6, v2, v3, k1, k2, k3⟩ := key
      have hpc : ∀ q : Int32, xq_bd (fX10_piece N b3 K cN) (fun r_8 => if r_8 = (-3) then xq_bd (fX10_value N b3 V cN) fun r_10 => xq_bd (fX2_hasPlaceAt N mI mF r_10) fun r_12 => if r_12 = 0 then fX3_readPlace_b95 N V K eN St cN cN cN (mI, b3, upd pN (G.1 2) v1, mF, tF) else xq_bd (fX10_fail N b3 St cN 4) fun r_14 => fX3_readPlace_b95 N V K eN St cN cN cN (mI, r_14, upd pN (G.1 2) v1, mF, tF) else fX3_readPlace_b95 N V K eN St cN cN cN (mI, b3, upd pN (G.1 2) v1, mF, tF)) = some (va_up mI 6 (nI (G.1 2) + 1), b6, upd pN (G.1 2) v1, upd mF (G.1 2) v2, upd tF (G.1 2) v3) := fun _ => k1
      rw [hpc 0, xs_bd]
      refine c_b167 N hx ⟨k2, hs, fun z => ?_⟩
      have z : (pp_plc K V G (i + 1)).1 = 0 := z
      obtain ⟨a1, a2, ⟨a3, a30, a4, a5⟩, ⟨a6, a7, a8⟩, a9, d1, d2, d3, d4, d5, d6⟩ := pp_plc0 z
      have hlt := (jc_al z k2).2.2.2.1
      rw [a9] at hlt
      have hv2 : v2 = nI (pvN V (i + 3)) := (k3 z).1.trans (pvN_eq hV (by omega) a3).1
      have hv3 : v3 = nI (pvN V (i + 5)) := (k3 z).2.trans (pvN_eq hV (by omega) a6).1
      refine ⟨c1, c2, c3, c4, c5, nI_1 _, fun e he => ?_, fun p hp => ?_, c9, c10, c11, c12, c13, c14⟩
      · have he : e < G.1 1 := he
        show eN e = (if 0 = 1 ∧ e = G.1 2 then V (i + 1) else G.2.2.1 0 e) ∧ rF e = nI (if e = G.1 2 then (if 2 = 0 then pvN V (i + 3) else if 2 = 3 then pvN V (i + 5) else G.2.1 2 e) else G.2.1 2 e) ∧ sF e = nI (if e = G.1 2 then (if 1 = 0 then pvN V (i + 3) else if 1 = 3 then pvN V (i + 5) else G.2.1 1 e) else G.2.1 1 e)
        rw [if_neg (fun z => absurd z.1 (by decide)), if_neg (show ¬ (2 : Nat) = 0 by decide), if_neg (show ¬ (2 : Nat) = 3 by decide), if_neg (show ¬ (1 : Nat) = 0 by decide), if_neg (show ¬ (1 : Nat) = 3 by decide), ite_self, ite_self]
        exact c7 e he
      · have hp : p < G.1 2 + 1 := hp
        show upd pN (G.1 2) v1 p = (if 1 = 1 ∧ p = G.1 2 then V (i + 1) else G.2.2.1 1 p) ∧ upd mF (G.1 2) v2 p = nI (if p = G.1 2 then (if 0 = 0 then pvN V (i + 3) else if 0 = 3 then pvN V (i + 5) else G.2.1 0 p) else G.2.1 0 p) ∧ upd tF (G.1 2) v3 p = nI (if p = G.1 2 then (if 3 = 0 then pvN V (i + 3) else if 3 = 3 then pvN V (i + 5) else G.2.1 3 p) else G.2.1 3 p)
        unfold upd
        by_cases ee : p = G.1 2
        · rw [if_pos ee, if_pos ee, if_pos ee, if_pos ⟨rfl, ee⟩, if_pos ee, if_pos ee, if_pos rfl, if_neg (by decide), if_pos rfl]
          exact ⟨f3 rfl, hv2, hv3⟩
        · rw [if_neg ee, if_neg ee, if_neg ee, if_neg (fun z => ee z.2), if_neg ee, if_neg ee]
          exact c8 p (by omega)
  rw [if_neg k307, if_neg k307]
  by_cases k308 : K i = 308
  · rw [if_pos k308, if_neg (by rw [k308]; decide), if_neg (by rw [k308]; decide), if_neg (by rw [k308]; decide)]; exact wrong
  rw [if_neg k308]
  by_cases k309 : K i = 309
  · rw [if_pos k309, if_neg (by rw [k309]; decide), if_neg (by rw [k309]; decide), if_neg (by rw [k309]; decide)]; exact wrong
  rw [if_neg k309]

  by_cases k310 : K i = 310
  · rw [if_pos k310, if_pos k310]
    unfold pp_rul
    have hru : fX2_ruled N mI (K i) = some (p_b (G.2.2.2.2 0)) := by
      unfold fX2_ruled
      rw [if_pos (show K i = 310 from k310), c12]
      unfold xq_zb
      cases G.2.2.2.2 0 <;> rfl
    rw [hru, xs_bd]
    have hgo : ∀ (r : PPR) (b1 : Nat → Int32), jc n K St V r b1 → (r.1 = 0 → r.2.1 = i) → (¬ r.1 = 0 → r.2.2 = []) → ∃ b2 fI2 fc2 n9 F9, fX3_readStatement_b134 N K V St cN cN cN cN (mI, b1, eN, pN, rF, sF, mF, tF, fI, fc, gF, gM, hF, hM, kF, kM, K i) = fX3_readStatement_b167 N K V St cN cN cN cN (va_up mI 16 1, b2, eN, pN, rF, sF, mF, tF, fI2, fc2, F9, n9, hF, hM, kF, kM) ∧ jc n K St V (pp_bd (pp_bd r pp_go) (ppF K V 0)) b2 ∧ (r.1 = 0 → (ppF K V 0 (i + 1)).1 = 0 → cL F9 n9 (ppF K V 0 (i + 1)).2.2) := by
      intro r b1 hr hri _
      obtain ⟨b2, e1, e2⟩ := jf_next N hx (fun z => by rw [hri z, k310]; decide) hr
      obtain ⟨fI2, b3, fc2, n9, F9, e3, e4, e5⟩ := cf_formula N hN hx hV (w := 0) (by decide) (a := fI) (c := fc) e2
      refine ⟨b3, fI2, fc2, n9, F9, ?_, e4, fun z1 z2 => ?_⟩
      · dsimp only [fX3_readStatement_b134]
        rw [e1, xs_bd, show K i = nI (310 + 0) from k310, e3, xs_bd]
        dsimp only
        unfold fX2_rule
        rw [← (show K i = nI (310 + 0) from k310)]
        rw [if_pos (show K i = 310 from k310)]
        rfl
      · have ei : (pp_bd r pp_go).2.1 = i + 1 := by rw [pp_bd_pos z1]; show r.2.1 + 1 = _; rw [hri z1]
        have := e5 (by rw [pp_bd_pos z1]; rfl)
        rw [ei] at this
        exact this z2
    cases ht : G.2.2.2.2 0 with
    | true =>
      rw [if_neg (show ¬ p_b true = 0 by decide), if_pos rfl]
      obtain ⟨b1, e1, e2⟩ := jf_failA N (St := St) (V := V) hx (f := 6) (by decide) (by decide) hA
      obtain ⟨b2, fI2, fc2, n9, F9, g1, g2, g3⟩ := hgo (6, i, []) b1 (jc_f (by decide) e2) (fun z => by cases z) (fun _ => rfl)
      rw [show (6 : Int32) = nI 6 from rfl, e1, xs_bd, g1]
      exact c_b167 N hx ⟨g2, hs, fun z => by cases z⟩
    | false =>
      rw [if_pos (show p_b false = 0 from rfl), if_neg (by decide)]
      obtain ⟨b2, fI2, fc2, n9, F9, g1, g2, g3⟩ := hgo (0, i, []) b (jc_0 hA) (fun _ => rfl) (fun z => absurd rfl z)
      rw [g1]
      refine c_b167 N hx ⟨g2, hs, fun z => ?_⟩
      have hcl := g3 rfl z
      exact ⟨c1, c2, c3, c4, c5, c6, c7, c8, hcl, c10, c11, rfl, c13, c14⟩
  rw [if_neg k310, if_neg k310]
  by_cases k311 : K i = 311
  · rw [if_pos k311, if_pos k311]
    unfold pp_rul
    have hru : fX2_ruled N mI (K i) = some (p_b (G.2.2.2.2 1)) := by
      unfold fX2_ruled
      rw [if_neg (show ¬ K i = 310 by rw [k311]; decide), if_pos (show K i = 311 from k311), c13]
      unfold xq_zb
      cases G.2.2.2.2 1 <;> rfl
    rw [hru, xs_bd]
    have hgo : ∀ (r : PPR) (b1 : Nat → Int32), jc n K St V r b1 → (r.1 = 0 → r.2.1 = i) → (¬ r.1 = 0 → r.2.2 = []) → ∃ b2 fI2 fc2 n9 F9, fX3_readStatement_b134 N K V St cN cN cN cN (mI, b1, eN, pN, rF, sF, mF, tF, fI, fc, gF, gM, hF, hM, kF, kM, K i) = fX3_readStatement_b167 N K V St cN cN cN cN (va_up mI 17 1, b2, eN, pN, rF, sF, mF, tF, fI2, fc2, gF, gM, F9, n9, kF, kM) ∧ jc n K St V (pp_bd (pp_bd r pp_go) (ppF K V 1)) b2 ∧ (r.1 = 0 → (ppF K V 1 (i + 1)).1 = 0 → cL F9 n9 (ppF K V 1 (i + 1)).2.2) := by
      intro r b1 hr hri _
      obtain ⟨b2, e1, e2⟩ := jf_next N hx (fun z => by rw [hri z, k311]; decide) hr
      obtain ⟨fI2, b3, fc2, n9, F9, e3, e4, e5⟩ := cf_formula N hN hx hV (w := 1) (by decide) (a := fI) (c := fc) e2
      refine ⟨b3, fI2, fc2, n9, F9, ?_, e4, fun z1 z2 => ?_⟩
      · dsimp only [fX3_readStatement_b134]
        rw [e1, xs_bd, show K i = nI (310 + 1) from k311, e3, xs_bd]
        dsimp only
        unfold fX2_rule
        rw [← (show K i = nI (310 + 1) from k311)]
        rw [if_neg (show ¬ K i = 310 by rw [k311]; decide), if_pos (show K i = 311 from k311)]
        rfl
      · have ei : (pp_bd r pp_go).2.1 = i + 1 := by rw [pp_bd_pos z1]; show r.2.1 + 1 = _; rw [hri z1]
        have := e5 (by rw [pp_bd_pos z1]; rfl)
        rw [ei] at this
        exact this z2
    cases ht : G.2.2.2.2 1 with
    | true =>
      rw [if_neg (show ¬ p_b true = 0 by decide), if_pos rfl]
      obtain ⟨b1, e1, e2⟩ := jf_failA N (St := St) (V := V) hx (f := 6) (by decide) (by decide) hA
      obtain ⟨b2, fI2, fc2, n9, F9, g1, g2, g3⟩ := hgo (6, i, []) b1 (jc_f (by decide) e2) (fun z => by cases z) (fun _ => rfl)
      rw [show (6 : Int32) = nI 6 from rfl, e1, xs_bd, g1]
      exact c_b167 N hx ⟨g2, hs, fun z => by cases z⟩
    | false =>
      rw [if_pos (show p_b false = 0 from rfl), if_neg (by decide)]
      obtain ⟨b2, fI2, fc2, n9, F9, g1, g2, g3⟩ := hgo (0, i, []) b (jc_0 hA) (fun _ => rfl) (fun z => absurd rfl z)
      rw [g1]
      refine c_b167 N hx ⟨g2, hs, fun z => ?_⟩
      have hcl := g3 rfl z
      exact ⟨c1, c2, c3, c4, c5, c6, c7, c8, c9, hcl, c11, c12, rfl, c14⟩
  rw [if_neg k311, if_neg k311]
  by_cases k312 : K i = 312
  · rw [if_pos k312, if_pos k312]
    unfold pp_rul
    have hru : fX2_ruled N mI (K i) = some (p_b (G.2.2.2.2 2)) := by
      unfold fX2_ruled
      rw [if_neg (show ¬ K i = 310 by rw [k312]; decide), if_neg (show ¬ K i = 311 by rw [k312]; decide), c14]
      unfold xq_zb
      cases G.2.2.2.2 2 <;> rfl
    rw [hru, xs_bd]
    have hgo : ∀ (r : PPR) (b1 : Nat → Int32), jc n K St V r b1 → (r.1 = 0 → r.2.1 = i) → (¬ r.1 = 0 → r.2.2 = []) → ∃ b2 fI2 fc2 n9 F9, fX3_readStatement_b134 N K V St cN cN cN cN (mI, b1, eN, pN, rF, sF, mF, tF, fI, fc, gF, gM, hF, hM, kF, kM, K i) = fX3_readStatement_b167 N K V St cN cN cN cN (va_up mI 18 1, b2, eN, pN, rF, sF, mF, tF, fI2, fc2, gF, gM, hF, hM, F9, n9) ∧ jc n K St V (pp_bd (pp_bd r pp_go) (ppF K V 2)) b2 ∧ (r.1 = 0 → (ppF K V 2 (i + 1)).1 = 0 → cL F9 n9 (ppF K V 2 (i + 1)).2.2) := by
      intro r b1 hr hri _
      obtain ⟨b2, e1, e2⟩ := jf_next N hx (fun z => by rw [hri z, k312]; decide) hr
      obtain ⟨fI2, b3, fc2, n9, F9, e3, e4, e5⟩ := cf_formula N hN hx hV (w := 2) (by decide) (a := fI) (c := fc) e2
      refine ⟨b3, fI2, fc2, n9, F9, ?_, e4, fun z1 z2 => ?_⟩
      · dsimp only [fX3_readStatement_b134]
        rw [e1, xs_bd, show K i = nI (310 + 2) from k312, e3, xs_bd]
        dsimp only
        unfold fX2_rule
        rw [← (show K i = nI (310 + 2) from k312)]
        rw [if_neg (show ¬ K i = 310 by rw [k312]; decide), if_neg (show ¬ K i = 311 by rw [k312]; decide)]
        rfl
      · have ei : (pp_bd r pp_go).2.1 = i + 1 := by rw [pp_bd_pos z1]; show r.2.1 + 1 = _; rw [hri z1]
        have := e5 (by rw [pp_bd_pos z1]; rfl)
        rw [ei] at this
        exact this z2
    cases ht : G.2.2.2.2 2 with
    | true =>
      rw [if_neg (show ¬ p_b true = 0 by decide), if_pos rfl]
      obtain ⟨b1, e1, e2⟩ := jf_failA N (St := St) (V := V) hx (f := 6) (by decide) (by decide) hA
      obtain ⟨b2, fI2, fc2, n9, F9, g1, g2, g3⟩ := hgo (6, i, []) b1 (jc_f (by decide) e2) (fun z => by cases z) (fun _ => rfl)
      rw [show (6 : Int32) = nI 6 from rfl, e1, xs_bd, g1]
      exact c_b167 N hx ⟨g2, hs, fun z => by cases z⟩
    | false =>
      rw [if_pos (show p_b false = 0 from rfl), if_neg (by decide)]
      obtain ⟨b2, fI2, fc2, n9, F9, g1, g2, g3⟩ := hgo (0, i, []) b (jc_0 hA) (fun _ => rfl) (fun z => absurd rfl z)
      rw [g1]
      refine c_b167 N hx ⟨g2, hs, fun z => ?_⟩
      have hcl := g3 rfl z
      exact ⟨c1, c2, c3, c4, c5, c6, c7, c8, c9, c10, hcl, c12, c13, rfl⟩
  rw [if_neg k312, if_neg k312]
  exact wrong
end
