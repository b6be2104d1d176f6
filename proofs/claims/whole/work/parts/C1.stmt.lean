/-! a STATEMENT, plainly; the class's half -/
abbrev PG := (Nat → Nat) × (Nat → Nat → Nat) × (Nat → Nat → Int32) × (Nat → List Nat) × (Nat → Bool)
def pgI (G : PG) (k v : Nat) : PG := (va_up G.1 k v, G.2)
def pgE (G : PG) (nm : Int32) (r s : Nat) : PG := (va_up G.1 1 (G.1 1 + 1), fun k j => if j = G.1 1 then (if k = 2 then r else if k = 1 then s else G.2.1 k j) else G.2.1 k j, fun k j => if k = 0 ∧ j = G.1 1 then nm else G.2.2.1 k j, G.2.2.2)
def pgP (G : PG) (nm : Int32) (m t : Nat) : PG := (va_up G.1 2 (G.1 2 + 1), fun k j => if j = G.1 2 then (if k = 0 then m else if k = 3 then t else G.2.1 k j) else G.2.1 k j, fun k j => if k = 1 ∧ j = G.1 2 then nm else G.2.2.1 k j, G.2.2.2)
def pgL (G : PG) (w : Nat) (L : List Nat) : PG := (G.1, G.2.1, G.2.2.1, fun k => if k = w then L else G.2.2.2.1 k, fun k => if k = w then true else G.2.2.2.2 k)
def nmG (G : PG) (v : Int32) : Bool := decide ((∃ e, e < G.1 1 ∧ G.2.2.1 0 e = v) ∨ ∃ p, p < G.1 2 ∧ G.2.2.1 1 p = v)
def plG (G : PG) (v : Int32) : Bool := decide (∃ p, p < G.1 2 ∧ nI (G.2.1 0 p) = v)
def pp_pnm (K V : Nat → Int32) (has : Int32 → Bool) (lo hi : Int32) (i : Nat) : PPR := if K i = -3 then (if has (V i) = true ∨ V i < lo ∨ hi < V i then (4, i, []) else (0, i + 1, [])) else (1, i, [])
def pp_ear (K V : Nat → Int32) (G : PG) (i : Nat) : PPR := pp_bd (pp_bd (pp_bd (pp_bd (pp_nam K (fun j => nmG G (V j)) i) (pp_tk K 305)) (pp_num K V 0 9)) (pp_tk K 306)) (pp_num K V 0 9)
def pp_plc (K V : Nat → Int32) (G : PG) (i : Nat) : PPR := pp_bd (pp_bd (pp_bd (pp_bd (pp_nam K (fun j => nmG G (V j)) i) (pp_tk K 308)) (pp_pnm K V (plG G) 1 (nI (G.1 0) - 1))) (pp_tk K 309)) (pp_num K V 0 9)
def pvN (V : Nat → Int32) (j : Nat) : Nat := (V j).toNatClampNeg
def pp_rul (K V : Nat → Int32) (G : PG) (w i : Nat) : PPR × PG := if G.2.2.2.2 w = true then ((6, i, []), G) else (ppF K V w (i + 1), pgL G w (ppF K V w (i + 1)).2.2)
/-- the STATEMENT at piece i (without its end), and the house with it -/
def pst (K V : Nat → Int32) (G : PG) (i : Nat) : PPR × PG :=
  if K i = 301 then (pp_num K V 0 (nI (G.1 0) - 1) (i + 1), pgI G 4 (pvN V (i + 1)))
  else if K i = 302 then (pp_num K V 0 9 (i + 1), pgI G 5 (pvN V (i + 1)))
  else if K i = 303 then (pp_num K V 0 100 (i + 1), pgI G 3 (pvN V (i + 1)))
  else if K i = 304 then (if G.1 1 = 7 then ((6, i, []), G) else (pp_ear K V G (i + 1), pgE G (V (i + 1)) (pvN V (i + 3)) (pvN V (i + 5))))
  else if K i = 307 then (if G.1 2 = 6 then ((6, i, []), G) else (pp_plc K V G (i + 1), pgP G (V (i + 1)) (pvN V (i + 3)) (pvN V (i + 5))))
  else if K i = 310 then pp_rul K V G 0 i
  else if K i = 311 then pp_rul K V G 1 i
  else if K i = 312 then pp_rul K V G 2 i
  else ((1, i, []), G)
theorem pp_num0 {K V : Nat → Int32} {lo hi : Int32} {i : Nat} (h : (pp_num K V lo hi i).1 = 0) : K i = -3 ∧ ¬ V i < lo ∧ ¬ hi < V i ∧ pp_num K V lo hi i = (0, i + 1, []) := by
  unfold pp_num at h ⊢
  by_cases e : K i = -3
  · rw [if_pos e] at h ⊢
    by_cases c : V i < lo ∨ hi < V i
    · rw [if_pos c] at h; cases h
    · rw [if_neg c]; exact ⟨e, fun z => c (Or.inl z), fun z => c (Or.inr z), rfl⟩
  · rw [if_neg e] at h; cases h
theorem pp_pnm0 {K V : Nat → Int32} {has : Int32 → Bool} {lo hi : Int32} {i : Nat} (h : (pp_pnm K V has lo hi i).1 = 0) : K i = -3 ∧ has (V i) = false ∧ ¬ V i < lo ∧ ¬ hi < V i ∧ pp_pnm K V has lo hi i = (0, i + 1, []) := by
  unfold pp_pnm at h ⊢
  by_cases e : K i = -3
  · rw [if_pos e] at h ⊢
    by_cases c : has (V i) = true ∨ V i < lo ∨ hi < V i
    · rw [if_pos c] at h; cases h
    · rw [if_neg c]; exact ⟨e, by cases hh : has (V i) with | true => exact absurd (Or.inl hh) c | false => rfl, fun z => c (Or.inr (Or.inl z)), fun z => c (Or.inr (Or.inr z)), rfl⟩
  · rw [if_neg e] at h; cases h
theorem pp_nam0 {K : Nat → Int32} {has : Nat → Bool} {i : Nat} (h : (pp_nam K has i).1 = 0) : K i = -4 ∧ has i = false ∧ pp_nam K has i = (0, i + 1, []) := by
  unfold pp_nam at h ⊢
  by_cases e : K i = -4
  · rw [if_pos e] at h ⊢
    by_cases c : has i = true
    · rw [if_pos c] at h; cases h
    · rw [if_neg c]; exact ⟨e, by cases hh : has i with | true => exact absurd hh c | false => rfl, rfl⟩
  · rw [if_neg e] at h; cases h
/-- a read ear: where its numbers stand -/
theorem pp_ear0 {K V : Nat → Int32} {G : PG} {i : Nat} (h : (pp_ear K V G i).1 = 0) : K i = -4 ∧ nmG G (V i) = false ∧ (K (i + 2) = -3 ∧ ¬ V (i + 2) < 0 ∧ ¬ 9 < V (i + 2)) ∧ (K (i + 4) = -3 ∧ ¬ V (i + 4) < 0 ∧ ¬ 9 < V (i + 4)) ∧ (pp_ear K V G i).2.1 = i + 5 ∧ (pp_nam K (fun j => nmG G (V j)) i).1 = 0 ∧ (pp_nam K (fun j => nmG G (V j)) i).2.1 = i + 1 ∧ (pp_bd (pp_nam K (fun j => nmG G (V j)) i) (pp_tk K 305)).1 = 0 ∧ (pp_bd (pp_nam K (fun j => nmG G (V j)) i) (pp_tk K 305)).2.1 = i + 2 ∧ (pp_bd (pp_bd (pp_bd (pp_nam K (fun j => nmG G (V j)) i) (pp_tk K 305)) (pp_num K V 0 9)) (pp_tk K 306)).1 = 0 ∧ (pp_bd (pp_bd (pp_bd (pp_nam K (fun j => nmG G (V j)) i) (pp_tk K 305)) (pp_num K V 0 9)) (pp_tk K 306)).2.1 = i + 4 := by
  unfold pp_ear at h ⊢
  obtain ⟨a1, a2, a3⟩ := pp_bd0 h
  obtain ⟨b1, b2, b3⟩ := pp_bd0 a1
  obtain ⟨c1, c2, c3⟩ := pp_bd0 b1
  obtain ⟨d1, d2, d3⟩ := pp_bd0 c1
  obtain ⟨e1, e2, e3⟩ := pp_nam0 d1
  rw [e3] at d2 d3
  obtain ⟨f1, f2⟩ := pp_tk0 d2
  have d4 : (pp_bd (pp_nam K (fun j => nmG G (V j)) i) (pp_tk K 305)).2.1 = i + 2 := by rw [e3, d3]; show (pp_tk K 305 (i + 1)).2.1 = _; rw [f2]
  rw [d4] at c2 c3
  obtain ⟨g1, g2, g3, g4⟩ := pp_num0 c2
  have c4 : (pp_bd (pp_bd (pp_nam K (fun j => nmG G (V j)) i) (pp_tk K 305)) (pp_num K V 0 9)).2.1 = i + 3 := by rw [c3]; show (pp_num K V 0 9 (i + 2)).2.1 = _; rw [g4]
  rw [c4] at b2 b3
  obtain ⟨h1, h2⟩ := pp_tk0 b2
  have b4 : (pp_bd (pp_bd (pp_bd (pp_nam K (fun j => nmG G (V j)) i) (pp_tk K 305)) (pp_num K V 0 9)) (pp_tk K 306)).2.1 = i + 4 := by rw [b3]; show (pp_tk K 306 (i + 3)).2.1 = _; rw [h2]
  rw [b4] at a2 a3
  obtain ⟨k1, k2, k3, k4⟩ := pp_num0 a2
  refine ⟨e1, e2, ⟨g1, g2, g3⟩, ⟨k1, k2, k3⟩, ?_, d1, by rw [e3], c1, d4, a1, b4⟩
  rw [a3]; show (pp_num K V 0 9 (i + 4)).2.1 = _; rw [k4]
theorem pp_plc0 {K V : Nat → Int32} {G : PG} {i : Nat} (h : (pp_plc K V G i).1 = 0) : K i = -4 ∧ nmG G (V i) = false ∧ (K (i + 2) = -3 ∧ plG G (V (i + 2)) = false ∧ ¬ V (i + 2) < 1 ∧ ¬ nI (G.1 0) - 1 < V (i + 2)) ∧ (K (i + 4) = -3 ∧ ¬ V (i + 4) < 0 ∧ ¬ 9 < V (i + 4)) ∧ (pp_plc K V G i).2.1 = i + 5 ∧ (pp_nam K (fun j => nmG G (V j)) i).1 = 0 ∧ (pp_nam K (fun j => nmG G (V j)) i).2.1 = i + 1 ∧ (pp_bd (pp_nam K (fun j => nmG G (V j)) i) (pp_tk K 308)).1 = 0 ∧ (pp_bd (pp_nam K (fun j => nmG G (V j)) i) (pp_tk K 308)).2.1 = i + 2 ∧ (pp_bd (pp_bd (pp_bd (pp_nam K (fun j => nmG G (V j)) i) (pp_tk K 308)) (pp_pnm K V (plG G) 1 (nI (G.1 0) - 1))) (pp_tk K 309)).1 = 0 ∧ (pp_bd (pp_bd (pp_bd (pp_nam K (fun j => nmG G (V j)) i) (pp_tk K 308)) (pp_pnm K V (plG G) 1 (nI (G.1 0) - 1))) (pp_tk K 309)).2.1 = i + 4 := by
  unfold pp_plc at h ⊢
  obtain ⟨a1, a2, a3⟩ := pp_bd0 h
  obtain ⟨b1, b2, b3⟩ := pp_bd0 a1
  obtain ⟨c1, c2, c3⟩ := pp_bd0 b1
  obtain ⟨d1, d2, d3⟩ := pp_bd0 c1
  obtain ⟨e1, e2, e3⟩ := pp_nam0 d1
  rw [e3] at d2 d3
  obtain ⟨f1, f2⟩ := pp_tk0 d2
  have d4 : (pp_bd (pp_nam K (fun j => nmG G (V j)) i) (pp_tk K 308)).2.1 = i + 2 := by rw [e3, d3]; show (pp_tk K 308 (i + 1)).2.1 = _; rw [f2]
  rw [d4] at c2 c3
  obtain ⟨g1, g0, g2, g3, g4⟩ := pp_pnm0 c2
  have c4 : (pp_bd (pp_bd (pp_nam K (fun j => nmG G (V j)) i) (pp_tk K 308)) (pp_pnm K V (plG G) 1 (nI (G.1 0) - 1))).2.1 = i + 3 := by rw [c3]; show (pp_pnm K V (plG G) 1 (nI (G.1 0) - 1) (i + 2)).2.1 = _; rw [g4]
  rw [c4] at b2 b3
  obtain ⟨h1, h2⟩ := pp_tk0 b2
  have b4 : (pp_bd (pp_bd (pp_bd (pp_nam K (fun j => nmG G (V j)) i) (pp_tk K 308)) (pp_pnm K V (plG G) 1 (nI (G.1 0) - 1))) (pp_tk K 309)).2.1 = i + 4 := by rw [b3]; show (pp_tk K 309 (i + 3)).2.1 = _; rw [h2]
  rw [b4] at a2 a3
  obtain ⟨k1, k2, k3, k4⟩ := pp_num0 a2
  refine ⟨e1, e2, ⟨g1, g0, g2, g3⟩, ⟨k1, k2, k3⟩, ?_, d1, by rw [e3], c1, d4, a1, b4⟩
  rw [a3]; show (pp_num K V 0 9 (i + 4)).2.1 = _; rw [k4]
/-- the house that the class makes -/
def cHs (G : PG) (mI eN pN rF sF mF tF gF : Nat → Int32) (gN : Nat) (hF : Nat → Int32) (hN : Nat) (kF : Nat → Int32) (kN : Nat) : Prop := mI 1 = nI (G.1 0) ∧ mI 2 = nI (G.1 4) ∧ mI 3 = nI (G.1 5) ∧ mI 4 = nI (G.1 3) ∧ mI 5 = nI (G.1 1) ∧ mI 6 = nI (G.1 2) ∧ (∀ e, e < G.1 1 → eN e = G.2.2.1 0 e ∧ rF e = nI (G.2.1 2 e) ∧ sF e = nI (G.2.1 1 e)) ∧ (∀ p, p < G.1 2 → pN p = G.2.2.1 1 p ∧ mF p = nI (G.2.1 0 p) ∧ tF p = nI (G.2.1 3 p)) ∧ cL gF gN (G.2.2.2.1 0) ∧ cL hF hN (G.2.2.2.1 1) ∧ cL kF kN (G.2.2.2.1 2) ∧ mI 16 = p_b (G.2.2.2.2 0) ∧ mI 17 = p_b (G.2.2.2.2 1) ∧ mI 18 = p_b (G.2.2.2.2 2)
def gok (G : PG) : Prop := 5 ≤ G.1 0 ∧ G.1 0 ≤ 200 ∧ G.1 1 ≤ 7 ∧ G.1 2 ≤ 6 ∧ G.1 4 < G.1 0 ∧ G.1 5 ≤ 9 ∧ G.1 3 ≤ 100 ∧ (∀ e, e < G.1 1 → G.2.1 2 e ≤ 9 ∧ G.2.1 1 e ≤ 9) ∧ (∀ p, p < G.1 2 → 1 ≤ G.2.1 0 p ∧ G.2.1 0 p < G.1 0 ∧ G.2.1 3 p ≤ 9) ∧ (∀ p q, p < G.1 2 → q < G.1 2 → G.2.1 0 p = G.2.1 0 q → p = q) ∧ (∃ b, pe_tc pe_okG (G.2.2.2.1 0) [] = some [b]) ∧ pe_tc pe_okH (G.2.2.2.1 1) [] = some [true] ∧ (∃ b, pe_tc pe_okT (G.2.2.2.1 2) [] = some [b])
theorem nmG_c {G : PG} {mI eN pN rF sF mF tF gF : Nat → Int32} {gN : Nat} {hF : Nat → Int32} {hN : Nat} {kF : Nat → Int32} {kN : Nat} (h : cHs G mI eN pN rF sF mF tF gF gN hF hN kF kN) (v : Int32) : nmHas (G.1 1) (G.1 2) eN pN v = nmG G v := by
  unfold nmHas nmG
  congr 1
  apply propext
  constructor
  · rintro (⟨e, he, z⟩ | ⟨p, hp, z⟩)
    · exact Or.inl ⟨e, he, (h.2.2.2.2.2.2.1 e he).1.symm.trans z⟩
    · exact Or.inr ⟨p, hp, (h.2.2.2.2.2.2.2.1 p hp).1.symm.trans z⟩
  · rintro (⟨e, he, z⟩ | ⟨p, hp, z⟩)
    · exact Or.inl ⟨e, he, (h.2.2.2.2.2.2.1 e he).1.trans z⟩
    · exact Or.inr ⟨p, hp, (h.2.2.2.2.2.2.2.1 p hp).1.trans z⟩
theorem plG_c {G : PG} {mI eN pN rF sF mF tF gF : Nat → Int32} {gN : Nat} {hF : Nat → Int32} {hN : Nat} {kF : Nat → Int32} {kN : Nat} (h : cHs G mI eN pN rF sF mF tF gF gN hF hN kF kN) (v : Int32) : plHas (G.1 2) mF v = plG G v := by
  unfold plHas plG
  congr 1
  apply propext
  constructor
  · rintro ⟨p, hp, z⟩
    exact ⟨p, hp, (h.2.2.2.2.2.2.2.1 p hp).2.1.symm.trans z⟩
  · rintro ⟨p, hp, z⟩
    exact ⟨p, hp, (h.2.2.2.2.2.2.2.1 p hp).2.1.trans z⟩
section
variable {n cN : Nat} {K St V : Nat → Int32} (N : Nat)
theorem pvN_eq (hV : ∀ i, i < n → K i = -3 → ∃ x, x ≤ 9999 ∧ V i = nI x) {j : Nat} (hj : j < n) (hk : K j = -3) : V j = nI (pvN V j) ∧ pvN V j ≤ 9999 := by
  obtain ⟨x, h1, h2⟩ := hV j hj hk
  unfold pvN
  rw [h2, nI_clamp (by omega)]
  exact ⟨rfl, h1⟩
theorem pvN_le (hV : ∀ i, i < n → K i = -3 → ∃ x, x ≤ 9999 ∧ V i = nI x) {j : Nat} (hj : j < n) (hk : K j = -3) {m : Nat} (hm : m < 2 ^ 31) (h : ¬ nI m < V j) : pvN V j ≤ m := by
  obtain ⟨e, h9⟩ := pvN_eq hV hj hk
  rw [e] at h
  by_cases c : pvN V j ≤ m
  · exact c
  · exact absurd ((nI_ltI hm (by omega)).mpr (by omega)) h
theorem jf_pnm (hN : 5000 ≤ N) (hx : cX n cN K) {Pn : Nat} (hP : Pn ≤ 6) {mI mF : Nat → Int32} (h6 : mI 6 = nI Pn) {has : Int32 → Bool} (hh : ∀ v, plHas Pn mF v = has v) {r : PPR} {b : Nat → Int32} (lo hi : Int32) (h : jc n K St V r b) {β : Type} (k : (Nat → Int32) → Option β) (Q : Option β → Prop) (hk : ∀ v b1 b2, fX3_readNumber N b1 V K St cN cN cN lo hi = some (v, b2) → jc n K St V (pp_bd r (pp_pnm K V has lo hi)) b2 → (r.1 = 0 → (pp_pnm K V has lo hi r.2.1).1 = 0 → v = V r.2.1) → Q (k b1)) :
    Q (xq_bd (fX10_piece N b K cN) fun r_8 => if r_8 = (-3) then xq_bd (fX10_value N b V cN) fun r_10 => xq_bd (fX2_hasPlaceAt N mI mF r_10) fun r_12 => if r_12 = 0 then k b else xq_bd (fX10_fail N b St cN 4) fun r_14 => k r_14 else k b) := by
  by_cases h0 : r.1 = 0
  · have ha := jc_al h0 h
    rw [jf_pieceA N hx ha, xs_bd]
    by_cases e : K r.2.1 = -3
    · rw [if_pos e, jf_valueA N (V := V) hx ha, xs_bd, jf_hasPlaceAt N hN hP h6, xs_bd, hh]
      cases hb : has (V r.2.1) with
      | true =>
        rw [if_neg (show ¬ p_b true = 0 by decide)]
        obtain ⟨b1, e1, e2⟩ := jf_failA N (St := St) (V := V) hx (f := 4) (by decide) (by decide) ha
        rw [show (4 : Int32) = nI 4 from rfl, e1, xs_bd]
        obtain ⟨v, b2, f1, f2, -⟩ := jf_number N (r := (4, r.2.1, [])) hx lo hi (jc_f (by decide) e2)
        rw [pp_bd_neg (show ¬ ((4, r.2.1, []) : PPR).1 = 0 from (by decide : ¬ (4 : Nat) = 0))] at f2
        have e5 : pp_pnm K V has lo hi r.2.1 = (4, r.2.1, []) := by unfold pp_pnm; rw [if_pos e, if_pos (Or.inl hb)]
        refine hk v b1 b2 f1 (jc_bd h0 ?_) (fun _ z => by rw [e5] at z; cases z)
        unfold pp_pnm; rw [if_pos e, if_pos (Or.inl hb)]; exact f2
      | false =>
        rw [if_pos (show p_b false = 0 from rfl)]
        obtain ⟨v, b2, f1, f2, f3⟩ := jf_number N hx lo hi h
        refine hk v b b2 f1 ?_ (fun z _ => f3 z)
        have e2 : pp_num K V lo hi r.2.1 = pp_pnm K V has lo hi r.2.1 := by
          unfold pp_num pp_pnm
          rw [if_pos e, if_pos e, hb]
          congr 1
          simp
        rw [pp_bd_pos h0] at f2 ⊢
        rw [← e2]; exact f2
    · rw [if_neg e]
      obtain ⟨v, b2, f1, f2, f3⟩ := jf_number N hx lo hi h
      refine hk v b b2 f1 ?_ (fun z _ => f3 z)
      have e2 : pp_num K V lo hi r.2.1 = pp_pnm K V has lo hi r.2.1 := by
        unfold pp_num pp_pnm
        rw [if_neg e, if_neg e]
      rw [pp_bd_pos h0] at f2 ⊢
      rw [← e2]; exact f2
  · have hd := jc_de h0 h
    rw [jf_pieceB N hd (cB_n hd), xs_bd, if_neg (by decide)]
    obtain ⟨v, b2, f1, f2, f3⟩ := jf_number N hx lo hi h
    refine hk v b b2 f1 ?_ (fun z => absurd z h0)
    rw [pp_bd_neg h0] at f2 ⊢; exact f2

end
