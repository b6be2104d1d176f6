/-! small steps of reading a house: the class -/
def pp_num (K V : Nat → Int32) (lo hi : Int32) (i : Nat) : PPR := if K i = -3 then (if V i < lo ∨ hi < V i then (4, i, []) else (0, i + 1, [])) else (1, i, [])
def pp_nam (K : Nat → Int32) (has : Nat → Bool) (i : Nat) : PPR := if K i = -4 then (if has i = true then (2, i, []) else (0, i + 1, [])) else (1, i, [])
def pp_go (i : Nat) : PPR := (0, i + 1, [])
def pp_no (f i : Nat) : PPR := (f, i, [])
theorem jc_al {n : Nat} {K St V : Nat → Int32} {r : PPR} {b : Nat → Int32} (h0 : r.1 = 0) (h : jc n K St V r b) : cA n r.2.1 b := by unfold jc at h; rw [if_pos h0] at h; exact h
theorem jc_de {n : Nat} {K St V : Nat → Int32} {r : PPR} {b : Nat → Int32} (h0 : ¬ r.1 = 0) (h : jc n K St V r b) : cB n (nI r.1) (pp_pl K St V r.1 r.2.1) b := by unfold jc at h; rw [if_neg h0] at h; exact h
theorem jc_0 {n i : Nat} {K St V : Nat → Int32} {L : List Nat} {b : Nat → Int32} (h : cA n i b) : jc n K St V (0, i, L) b := by unfold jc; rw [if_pos rfl]; exact h
theorem jc_f {n f i : Nat} {K St V : Nat → Int32} {L : List Nat} {b : Nat → Int32} (hf : ¬ f = 0) (h : cB n (nI f) (pp_pl K St V f i) b) : jc n K St V (f, i, L) b := by unfold jc; rw [if_neg (show ¬ ((f, i, L) : PPR).1 = 0 from hf)]; exact h
theorem jc_bd {n : Nat} {K St V : Nat → Int32} {r : PPR} {X : Nat → PPR} {b : Nat → Int32} (h0 : r.1 = 0) (h : jc n K St V (X r.2.1) b) : jc n K St V (pp_bd r X) b := by
  rw [pp_bd_pos h0]; exact h
theorem jc_dd {n : Nat} {K St V : Nat → Int32} {r : PPR} {X : Nat → PPR} {b b' : Nat → Int32} (h0 : ¬ r.1 = 0) (h : jc n K St V r b) (hb : ∀ f p, cB n f p b → cB n f p b') : jc n K St V (pp_bd r X) b' := by
  rw [pp_bd_neg h0]; unfold jc at h ⊢; rw [if_neg h0] at h ⊢; exact hb _ _ h
section
variable {n cN : Nat} {K St V : Nat → Int32} (N : Nat)
theorem jf_pieceA (hx : cX n cN K) {i : Nat} {b : Nat → Int32} (h : cA n i b) : fX10_piece N b K cN = some (K i) := cf_piece N hx (cA_cS (a := fun _ => 0) (c := fun _ => 0) h rfl rfl)
theorem jf_pieceB {f p : Int32} {b : Nat → Int32} (h : cB n f p b) (hn : 0 < n) : fX10_piece N b K cN = some (-2) := cf_pieceD N (cB_cD (cN := cN) (a := fun _ => 0) h rfl hn)
theorem jf_valueA (hx : cX n cN K) {i : Nat} {b : Nat → Int32} (h : cA n i b) : fX10_value N b V cN = some (V i) := cf_value N hx (cA_cS (a := fun _ => 0) (c := fun _ => 0) h rfl rfl)
theorem jf_valueB (hx : cX n cN K) {f p : Int32} {b : Nat → Int32} (h : cB n f p b) (hn : 0 < n) : ∃ v, fX10_value N b V cN = some v := cf_valueD N hx (cB_cD (cN := cN) (a := fun _ => 0) h rfl hn)
theorem jf_nextA (hx : cX n cN K) {i : Nat} {b : Nat → Int32} (h : cA n i b) (hi : i + 1 < n) : ∃ b', fX10_next N b = some b' ∧ cA n (i + 1) b' := by
  obtain ⟨b', e1, e2⟩ := cf_next N hx (cA_cS (a := fun _ => 0) (c := fun _ => 0) h rfl rfl) hi
  exact ⟨b', e1, cS_cA e2⟩
theorem jf_nextB (hx : cX n cN K) {f p : Int32} {b : Nat → Int32} (h : cB n f p b) : ∃ b', fX10_next N b = some b' ∧ cB n f p b' := by
  obtain ⟨j, hj, -⟩ := h.2.1
  obtain ⟨b', e1, e2⟩ := cf_nextD N hx (cB_cD (cN := cN) (s := 0) (a := fun _ => 0) h rfl (by omega))
  exact ⟨b', e1, cD_cB e2⟩
theorem jf_wrongA (hx : cX n cN K) {i : Nat} {b : Nat → Int32} (h : cA n i b) : ∃ b', fX10_wrong N b K St V cN cN cN = some b' ∧ cB n (nI 1) (pp_pl K St V 1 i) b' := by
  obtain ⟨b', e1, e2⟩ := cf_wrong N (St := St) (V := V) hx (cA_cS (a := fun _ => 0) (c := fun _ => 0) h rfl rfl)
  exact ⟨b', e1, cD_cB e2⟩
theorem jf_wrongB {f p : Int32} {b : Nat → Int32} (h : cB n f p b) : fX10_wrong N b K St V cN cN cN = some b := by
  unfold fX10_wrong
  rw [if_neg (fun z => h.2.2.2.1 (h.2.2.1.symm.trans z))]
theorem jf_failA (hx : cX n cN K) {i f : Nat} (hf : 1 < f) (hf2 : f < 2 ^ 31) {b : Nat → Int32} (h : cA n i b) : ∃ b', fX10_fail N b St cN (nI f) = some b' ∧ cB n (nI f) (pp_pl K St V f i) b' := by
  obtain ⟨b', e1, e2⟩ := cf_fail N (St := St) (V := V) hx (s' := 0) hf hf2 (cA_cS (a := fun _ => 0) (c := fun _ => 0) h rfl rfl) (by show 0 + 0 < n; have := h.2.2.2.1; omega)
  exact ⟨b', e1, cD_cB e2⟩
theorem jf_failB {f p q : Int32} {b : Nat → Int32} (h : cB n f p b) : fX10_fail N b St cN q = some b := by
  unfold fX10_fail
  rw [if_neg (fun z => h.2.2.2.1 (h.2.2.1.symm.trans z))]
theorem cB_n {f p : Int32} {b : Nat → Int32} (h : cB n f p b) : 0 < n := by obtain ⟨j, hj, -⟩ := h.2.1; omega
theorem jf_take (hx : cX n cN K) {r : PPR} {b : Nat → Int32} (t : Int32) (ht1 : ¬ t = -1) (ht2 : ¬ t = -2) (h : jc n K St V r b) : ∃ b', fX10_take N b K St V cN cN cN t = some b' ∧ jc n K St V (pp_bd r (pp_tk K t)) b' := by
  unfold fX10_take
  by_cases h0 : r.1 = 0
  · have h := jc_al h0 h
    rw [jf_pieceA N hx h, xs_bd]
    by_cases e : K r.2.1 = t
    · obtain ⟨b', e1, e2⟩ := jf_nextA N hx h (cX_in hx h.2.2.2.1 (by rw [e]; exact ht1) (by rw [e]; exact ht2))
      rw [if_pos e, e1, xs_bd]
      refine ⟨_, rfl, jc_bd h0 ?_⟩
      unfold pp_tk; rw [if_pos e]; exact jc_0 e2
    · obtain ⟨b', e1, e2⟩ := jf_wrongA N (St := St) (V := V) hx h
      rw [if_neg e, e1, xs_bd]
      refine ⟨_, rfl, jc_bd h0 ?_⟩
      unfold pp_tk; rw [if_neg e]; exact jc_f (by decide) e2
  · have hd := jc_de h0 h
    rw [jf_pieceB N hd (cB_n hd), xs_bd, if_neg (fun z => ht2 z.symm), jf_wrongB N hd, xs_bd]
    exact ⟨_, rfl, jc_dd h0 h fun _ _ z => z⟩
theorem jf_next (hx : cX n cN K) {r : PPR} {b : Nat → Int32} (hk : r.1 = 0 → ¬ K r.2.1 = -1 ∧ ¬ K r.2.1 = -2) (h : jc n K St V r b) : ∃ b', fX10_next N b = some b' ∧ jc n K St V (pp_bd r pp_go) b' := by
  by_cases h0 : r.1 = 0
  · have h := jc_al h0 h
    obtain ⟨b', e1, e2⟩ := jf_nextA N hx h (cX_in hx h.2.2.2.1 (hk h0).1 (hk h0).2)
    exact ⟨b', e1, jc_bd h0 (jc_0 e2)⟩
  · obtain ⟨b', e1, e2⟩ := jf_nextB N hx (jc_de h0 h)
    refine ⟨b', e1, ?_⟩
    rw [pp_bd_neg h0]; unfold jc; rw [if_neg h0]; exact e2
theorem jf_fail (hx : cX n cN K) {r : PPR} {f : Nat} (hf : 1 < f) (hf2 : f < 2 ^ 31) {b : Nat → Int32} (h : jc n K St V r b) : ∃ b', fX10_fail N b St cN (nI f) = some b' ∧ jc n K St V (pp_bd r (pp_no f)) b' := by
  by_cases h0 : r.1 = 0
  · obtain ⟨b', e1, e2⟩ := jf_failA N (St := St) (V := V) hx hf hf2 (jc_al h0 h)
    exact ⟨b', e1, jc_bd h0 (jc_f (by omega) e2)⟩
  · exact ⟨b, jf_failB N (jc_de h0 h), jc_dd h0 h fun _ _ z => z⟩
theorem jf_number (hx : cX n cN K) {r : PPR} {b : Nat → Int32} (lo hi : Int32) (h : jc n K St V r b) : ∃ v b', fX3_readNumber N b V K St cN cN cN lo hi = some (v, b') ∧ jc n K St V (pp_bd r (pp_num K V lo hi)) b' ∧ (r.1 = 0 → v = V r.2.1) := by
  unfold fX3_readNumber
  by_cases h0 : r.1 = 0
  · have h := jc_al h0 h
    rw [jf_valueA N (V := V) hx h, xs_bd, jf_pieceA N hx h, xs_bd]
    have dead : ∀ f b1, ¬ f = 0 → cB n (nI f) (pp_pl K St V f r.2.1) b1 → ∃ b', fX3_readNumber_b48 N V K St cN cN cN (b1, V r.2.1) = some (V r.2.1, b') ∧ jc n K St V (f, r.2.1, []) b' := by
      intro f b1 hf hb
      obtain ⟨b', e1, e2⟩ := jf_nextB N hx hb
      refine ⟨b', ?_, jc_f hf e2⟩
      dsimp only [fX3_readNumber_b48]
      rw [e1, xs_bd]
    by_cases e : K r.2.1 = -3
    · rw [if_pos e]
      by_cases l1 : V r.2.1 < lo
      · obtain ⟨b1, e1, e2⟩ := jf_failA N (St := St) (V := V) hx (f := 4) (by decide) (by decide) h
        obtain ⟨b', e3, e4⟩ := dead 4 b1 (by decide) e2
        rw [if_pos l1]
        dsimp only [fX3_readNumber_b40]
        rw [show (4 : Int32) = nI 4 from rfl, e1, xs_bd, e3]
        refine ⟨_, _, rfl, jc_bd h0 ?_, fun _ => rfl⟩
        unfold pp_num; rw [if_pos e, if_pos (Or.inl l1)]; exact e4
      · by_cases l2 : V r.2.1 ≤ hi
        · obtain ⟨b', e3, e4⟩ := jf_nextA N hx h (cX_in hx h.2.2.2.1 (by rw [e]; decide) (by rw [e]; decide))
          rw [if_neg l1, if_pos l2]
          dsimp only [fX3_readNumber_b48]
          rw [e3, xs_bd]
          refine ⟨_, _, rfl, jc_bd h0 ?_, fun _ => rfl⟩
          unfold pp_num
          rw [if_pos e, if_neg (fun z => by
            rcases z with z | z
            · exact l1 z
            · rw [fa_lt] at z; rw [fa_le] at l2; omega)]
          exact jc_0 e4
        · obtain ⟨b1, e1, e2⟩ := jf_failA N (St := St) (V := V) hx (f := 4) (by decide) (by decide) h
          obtain ⟨b', e3, e4⟩ := dead 4 b1 (by decide) e2
          rw [if_neg l1, if_neg l2]
          dsimp only [fX3_readNumber_b40]
          rw [show (4 : Int32) = nI 4 from rfl, e1, xs_bd, e3]
          refine ⟨_, _, rfl, jc_bd h0 ?_, fun _ => rfl⟩
          unfold pp_num; rw [if_pos e, if_pos (Or.inr (fa_of_nle l2))]; exact e4
    · obtain ⟨b1, e1, e2⟩ := jf_wrongA N (St := St) (V := V) hx h
      obtain ⟨b', e3, e4⟩ := dead 1 b1 (by decide) e2
      rw [if_neg e, e1, xs_bd, e3]
      refine ⟨_, _, rfl, jc_bd h0 ?_, fun _ => rfl⟩
      unfold pp_num; rw [if_neg e]; exact e4
  · have hd := jc_de h0 h
    obtain ⟨v, ev⟩ := jf_valueB N (V := V) hx hd (cB_n hd)
    obtain ⟨b', e1, e2⟩ := jf_nextB N hx hd
    rw [ev, xs_bd, jf_pieceB N hd (cB_n hd), xs_bd, if_neg (by decide), jf_wrongB N hd, xs_bd]
    dsimp only [fX3_readNumber_b48]
    rw [e1, xs_bd]
    refine ⟨_, _, rfl, ?_, fun z => absurd z h0⟩
    rw [pp_bd_neg h0]; unfold jc; rw [if_neg h0]; exact e2
/-- whether a name is among those told -/
def nmHas (E Pn : Nat) (eN pN : Nat → Int32) (v : Int32) : Bool := decide ((∃ e, e < E ∧ eN e = v) ∨ ∃ p, p < Pn ∧ pN p = v)
theorem jf_hasName (hN : 5000 ≤ N) {E Pn : Nat} (hE : E ≤ 7) (hP : Pn ≤ 6) {mI eN pN : Nat → Int32} (h5 : mI 5 = nI E) (h6 : mI 6 = nI Pn) (v : Int32) : fX2_hasName N mI eN pN v = some (p_b (nmHas E Pn eN pN v)) := by
  unfold fX2_hasName
  refine xs_loopI (body := fX2_hasName_l2 N mI eN pN) (fun r st => ∃ j, st = (v, nI j) ∧ j + r = E ∧ ∀ e, e < j → ¬ eN e = v) (fun q => q = some (p_b (nmHas E Pn eN pN v))) ?_ N E _ ⟨0, rfl, by omega, fun e he => absurd he (Nat.not_lt_zero _)⟩ (by omega)
  rintro r st kk ⟨j, rfl, hj, hall⟩ hgo
  dsimp only [fX2_hasName_l2]
  rw [h5]
  by_cases c : E ≤ j
  · rw [if_pos (nI_le c (by omega))]
    refine xs_loopI (body := fX2_hasName_l30 N mI eN pN) (fun r st => ∃ j, st = (v, nI j) ∧ j + r = Pn ∧ ∀ e, e < j → ¬ pN e = v) (fun q => q = some (p_b (nmHas E Pn eN pN v))) ?_ N Pn _ ⟨0, rfl, by omega, fun e he => absurd he (Nat.not_lt_zero _)⟩ (by omega)
    rintro r2 st2 kk2 ⟨j2, rfl, hj2, hall2⟩ hgo2
    dsimp only [fX2_hasName_l30]
    rw [h6]
    by_cases c2 : Pn ≤ j2
    · rw [if_pos (nI_le c2 (by omega))]
      unfold nmHas
      rw [decide_eq_false (fun z => by
        rcases z with ⟨e, he, z⟩ | ⟨p, hp, z⟩
        · exact hall e (by omega) z
        · exact hall2 p (by omega) z)]; rfl
    · rw [if_neg (nI_ge (by omega) (by omega)), xs_ald (by omega) (by decide), xs_bd]
      by_cases d : pN j2 = v
      · rw [if_pos d]
        unfold nmHas
        rw [decide_eq_true (Or.inr ⟨j2, by omega, d⟩)]; rfl
      · rw [if_neg d, nI_1]
        exact hgo2 _ (r2 - 1) (by omega) ⟨j2 + 1, rfl, by omega, fun e he => by
          by_cases g : e = j2
          · rw [g]; exact d
          · exact hall2 e (by omega)⟩
  · rw [if_neg (nI_ge (by omega) (by omega)), xs_ald (by omega) (by decide), xs_bd]
    by_cases d : eN j = v
    · rw [if_pos d]
      unfold nmHas
      rw [decide_eq_true (Or.inl ⟨j, by omega, d⟩)]; rfl
    · rw [if_neg d, nI_1]
      exact hgo _ (r - 1) (by omega) ⟨j + 1, rfl, by omega, fun e he => by
        by_cases g : e = j
        · rw [g]; exact d
        · exact hall e (by omega)⟩
theorem jf_name (hN : 5000 ≤ N) (hx : cX n cN K) {E Pn : Nat} (hE : E ≤ 7) (hP : Pn ≤ 6) {mI eN pN : Nat → Int32} (h5 : mI 5 = nI E) (h6 : mI 6 = nI Pn) {r : PPR} {b : Nat → Int32} (h : jc n K St V r b) : ∃ v b', fX3_readNewName N b V K mI eN pN St cN cN cN = some (v, b') ∧ jc n K St V (pp_bd r (pp_nam K (fun i => nmHas E Pn eN pN (V i)))) b' ∧ (r.1 = 0 → v = V r.2.1) := by
  unfold fX3_readNewName
  by_cases h0 : r.1 = 0
  · have h := jc_al h0 h
    rw [jf_valueA N (V := V) hx h, xs_bd, jf_pieceA N hx h, xs_bd]
    have dead : ∀ f b1, ¬ f = 0 → cB n (nI f) (pp_pl K St V f r.2.1) b1 → ∃ b', fX3_readNewName_b49 N V K mI eN pN St cN cN cN (b1, V r.2.1) = some (V r.2.1, b') ∧ jc n K St V (f, r.2.1, []) b' := by
      intro f b1 hf hb
      obtain ⟨b', e1, e2⟩ := jf_nextB N hx hb
      refine ⟨b', ?_, jc_f hf e2⟩
      dsimp only [fX3_readNewName_b49]
      rw [e1, xs_bd]
    by_cases e : K r.2.1 = -4
    · rw [if_pos e, jf_hasName N hN hE hP h5 h6, xs_bd]
      cases hh : nmHas E Pn eN pN (V r.2.1) with
      | true =>
        obtain ⟨b1, e1, e2⟩ := jf_failA N (St := St) (V := V) hx (f := 2) (by decide) (by decide) h
        obtain ⟨b', e3, e4⟩ := dead 2 b1 (by decide) e2
        rw [if_neg (show ¬ p_b true = 0 by decide), show (2 : Int32) = nI 2 from rfl, e1, xs_bd, e3]
        refine ⟨_, _, rfl, jc_bd h0 ?_, fun _ => rfl⟩
        unfold pp_nam; rw [if_pos e, if_pos hh]; exact e4
      | false =>
        obtain ⟨b', e3, e4⟩ := jf_nextA N hx h (cX_in hx h.2.2.2.1 (by rw [e]; decide) (by rw [e]; decide))
        rw [if_pos (show p_b false = 0 from rfl)]
        dsimp only [fX3_readNewName_b49]
        rw [e3, xs_bd]
        refine ⟨_, _, rfl, jc_bd h0 ?_, fun _ => rfl⟩
        unfold pp_nam; rw [if_pos e, if_neg (show ¬ nmHas E Pn eN pN (V r.2.1) = true by rw [hh]; decide)]; exact jc_0 e4
    · obtain ⟨b1, e1, e2⟩ := jf_wrongA N (St := St) (V := V) hx h
      obtain ⟨b', e3, e4⟩ := dead 1 b1 (by decide) e2
      rw [if_neg e, e1, xs_bd, e3]
      refine ⟨_, _, rfl, jc_bd h0 ?_, fun _ => rfl⟩
      unfold pp_nam; rw [if_neg e]; exact e4
  · have hd := jc_de h0 h
    obtain ⟨v, ev⟩ := jf_valueB N (V := V) hx hd (cB_n hd)
    obtain ⟨b', e1, e2⟩ := jf_nextB N hx hd
    rw [ev, xs_bd, jf_pieceB N hd (cB_n hd), xs_bd, if_neg (by decide), jf_wrongB N hd, xs_bd]
    dsimp only [fX3_readNewName_b49]
    rw [e1, xs_bd]
    refine ⟨_, _, rfl, ?_, fun z => absurd z h0⟩
    rw [pp_bd_neg h0]; unfold jc; rw [if_neg h0]; exact e2
def plHas (Pn : Nat) (mF : Nat → Int32) (v : Int32) : Bool := decide (∃ p, p < Pn ∧ mF p = v)
theorem jf_hasPlaceAt (hN : 5000 ≤ N) {Pn : Nat} (hP : Pn ≤ 6) {mI mF : Nat → Int32} (h6 : mI 6 = nI Pn) (v : Int32) : fX2_hasPlaceAt N mI mF v = some (p_b (plHas Pn mF v)) := by
  unfold fX2_hasPlaceAt
  refine xs_loopI (body := fX2_hasPlaceAt_l2 N mI mF) (fun r st => ∃ j, st = (v, nI j) ∧ j + r = Pn ∧ ∀ e, e < j → ¬ mF e = v) (fun q => q = some (p_b (plHas Pn mF v))) ?_ N Pn _ ⟨0, rfl, by omega, fun e he => absurd he (Nat.not_lt_zero _)⟩ (by omega)
  rintro r st kk ⟨j, rfl, hj, hall⟩ hgo
  dsimp only [fX2_hasPlaceAt_l2]
  rw [h6]
  by_cases c : Pn ≤ j
  · rw [if_pos (nI_le c (by omega))]
    unfold plHas
    rw [decide_eq_false (fun z => by obtain ⟨p, hp, z⟩ := z; exact hall p (by omega) z)]; rfl
  · rw [if_neg (nI_ge (by omega) (by omega)), xs_ald (by omega) (by decide), xs_bd]
    by_cases d : mF j = v
    · rw [if_pos d]
      unfold plHas
      rw [decide_eq_true ⟨j, by omega, d⟩]; rfl
    · rw [if_neg d, nI_1]
      exact hgo _ (r - 1) (by omega) ⟨j + 1, rfl, by omega, fun e he => by
        by_cases g : e = j
        · rw [g]; exact d
        · exact hall e (by omega)⟩
end
