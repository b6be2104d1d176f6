/-! steps of the reference's formula reader: operand -/
section
variable {K St V E : Nat → Int32} {nm : Int32 → Int64 → Prop} {sz : Int32} {n b : Nat} {I0 : Nat → Int32} {J0 : Nat → Int64} {cs0 cv0 tF : Nat → Int32} (N : Nat)
theorem mR_ah (hA : mAh N tF K St V E nm sz n) {i o : Nat} {fr : List FR} {P C : List Nat} {I : Nat → Int32} {J : Nat → Int64} {fF pF bF aF oF cs cv qF : Nat → Int32} (hi : i + 1 < n) (hT : mTok K St V E nm sz i I J) (h8 : I 8 = 0) (h9 : I 9 = -1) (h38 : I 38 = nI fr.length) (h39 : I 39 = nI o) (h41 : I 41 = nI P.length) (h30 : I 30 = nI C.length) (hF : mFr fr fF pF bF aF qF) (hO : mOps P oF) (hC : mCd b C cs cv) (hK : mKeep b I0 J0 cs0 cv0 I J cs cv) (hn1 : C.length + P.length ≤ i + 1) (hn2 : o + 1 = fr.length + pp_ns P) (hn3 : o ≤ 7) (hn4 : b < 2) (hn5 : I0 31 = nI b) (hn6 : P.length ≤ 400) (hn7 : n ≤ 1601) :
    ∃ I' J', fX12_ahead N I J tF = some (I', J') ∧ I' 8 = 0 ∧ (∀ u, mR K St V E nm sz n b I0 J0 cs0 cv0 u (i + 1) fr P C o (va_up I' 42 (nI u), J', fF, pF, bF, aF, oF, cs, cv, qF)) ∧ ∀ u, I 42 = nI u → mR K St V E nm sz n b I0 J0 cs0 cv0 u (i + 1) fr P C o (I', J', fF, pF, bF, aF, oF, cs, cv, qF) := by
  obtain ⟨I', J', e1, e2, e3, e4⟩ := hA i I J hT hi
  have g8 : I' 8 = 0 := (e3 8 (by omega)).trans h8
  have g9 : I' 9 = -1 := (e3 9 (by omega)).trans h9
  have g38 : I' 38 = _ := (e3 38 (by omega)).trans h38
  have g39 : I' 39 = _ := (e3 39 (by omega)).trans h39
  have g41 : I' 41 = _ := (e3 41 (by omega)).trans h41
  have g30 : I' 30 = _ := (e3 30 (by omega)).trans h30
  have gK := mKeep_ah hK e3 e4
  refine ⟨I', J', e1, g8, fun u => ⟨e2, ⟨g8, g9, rfl, g38, g39, g41, g30⟩, hF, hO, hC, mKeep_up gK (by unfold mzz; omega), by omega, by omega, hn7, by omega, hn2, hn3, hn4, hn5, hn6⟩, fun u hu => ⟨e2, ⟨g8, g9, (e3 42 (by omega)).trans hu, g38, g39, g41, g30⟩, hF, hO, hC, gK, by omega, by omega, hn7, by omega, hn2, hn3, hn4, hn5, hn6⟩⟩
theorem m_8n (I : Nat → Int32) {f : Int32} (p : Int32) (hf : ¬ f ≤ 0) : ¬ (va_up (va_up I 8 f) 9 p) 8 ≤ 0 := hf
theorem s_lexO {i o : Nat} {fr : List FR} {P C : List Nat} {I : Nat → Int32} {J : Nat → Int64} {fF pF bF aF oF cs cv qF : Nat → Int32} (h : mR K St V E nm sz n b I0 J0 cs0 cv0 0 i fr P C o (I, J, fF, pF, bF, aF, oF, cs, cv, qF)) (h12 : ¬ I 12 = -1) : ∃ y, mEnd N tF 2 (I, J, fF, pF, bF, aF, oF, cs, cv, qF) y ∧ mDe b I0 J0 cs0 cv0 1 (pp_pl K St V 1 i) y := by
  obtain ⟨hT, hI, hF, hO, hC, hK, hn⟩ := mR_get h
  obtain ⟨k1, k2, -⟩ := hT.2.2.2.1 h12
  have e : fX12_operand N I J fF bF oF tF pF aF cs cv qF = some (1, va_up (va_up I 8 1) 9 (I 12), J, fF, bF, oF, pF, aF, cs, cv, qF) := by
    unfold fX12_operand
    rw [m_lex1 N h12 hI.1, xs_bd, if_neg (m_8n _ _ (by decide))]
  refine ⟨_, mLp_opD N hI.2.2.1 e (Or.inr rfl) (show ¬ (1 : Int32) = 0 by decide), rfl, ?_, mKeep_up (mKeep_up (mKeep_up hK (by unfold mzz; omega)) (by unfold mzz; omega)) (by unfold mzz; omega)⟩
  show I 12 = _
  unfold pp_pl; rw [if_pos ⟨rfl, k1⟩, k2]
theorem s_fl {i o u : Nat} {fr : List FR} {t : FR} {P C : List Nat} {I : Nat → Int32} {J : Nat → Int64} {fF pF bF aF oF cs cv qF : Nat → Int32} (h : mR K St V E nm sz n b I0 J0 cs0 cv0 u i (fr ++ [t]) P C o (I, J, fF, pF, bF, aF, oF, cs, cv, qF)) : fr.length < 8 ∧ I 38 = nI (fr.length + 1) ∧ o + 1 = fr.length + 1 + pp_ns P := by
  obtain ⟨hT, hI, hF, hO, hC, hK, hn⟩ := mR_get h
  have h1 := hn.2.2.2.2.1
  rw [List.length_append] at h1
  have h1 : o + 1 = fr.length + 1 + pp_ns P := h1
  have h2 := hI.2.2.2.1
  rw [List.length_append] at h2
  exact ⟨by omega, h2, h1⟩
theorem pp_pl_ne {f i : Nat} (hf : ¬ f = 1) : pp_pl K St V f i = St i := by unfold pp_pl; rw [if_neg (fun z => hf z.1)]
theorem pp_pl_st {i : Nat} {I : Nat → Int32} {J : Nat → Int64} (hT : mTok K St V E nm sz i I J) (h12 : I 12 = -1) : pp_pl K St V 1 i = I 4 := by
  unfold pp_pl
  by_cases k : K i = -2
  · rw [if_pos ⟨rfl, k⟩, (hT.2.2.2.2 h12).1 k, hT.2.1]
  · rw [if_neg (fun z => k z.2), hT.2.1]
theorem s_not (hA : mAh N tF K St V E nm sz n) {i o : Nat} {fr : List FR} {t : FR} {P C : List Nat} {I : Nat → Int32} {J : Nat → Int64} {fF pF bF aF oF cs cv qF : Nat → Int32} (h : mR K St V E nm sz n b I0 J0 cs0 cv0 0 i (fr ++ [t]) P C o (I, J, fF, pF, bF, aF, oF, cs, cv, qF)) (h12 : I 12 = -1) (ht : t.1 < 100) (ht2 : t.2.2.1 ≤ 1) (hf : pp_first t = true) (hk : K i = 320) (hi : i + 1 < n) (hP : P.length < 400) :
    (o = 7 → ∃ y, mEnd N tF 2 (I, J, fF, pF, bF, aF, oF, cs, cv, qF) y ∧ mDe b I0 J0 cs0 cv0 5 (pp_pl K St V 5 i) y) ∧ (o < 7 → ∃ y, mTo N tF 1 (I, J, fF, pF, bF, aF, oF, cs, cv, qF) y ∧ mR K St V E nm sz n b I0 J0 cs0 cv0 0 (i + 1) (fr ++ [t]) (P ++ [20320]) C (o + 1) y) := by
  obtain ⟨hT, hI, hF, hO, hC, hK, hn⟩ := mR_get h
  obtain ⟨hfl, h38, hon⟩ := s_fl h
  have hd : fX12_operand N I J fF bF oF tF pF aF cs cv qF = (if I 39 = 7 then xq_bd (fX12_blame N I 5 (I 4)) fun r => fX12_operand_b79 N tF (r, J, fF, bF, oF, pF, aF, cs, cv, qF) else fX12_operand_b79 N tF (I, J, fF, bF, oF, pF, aF, cs, cv, qF)) := by
    rw [m_opH N h h12 ht ht2]
    dsimp only [fX12_operand_b46]
    rw [hf, if_neg (show ¬ p_b true = 0 by decide), m_wdT N hT h12 20 (by decide) (p := 7237492) rfl (x := 320) rfl hk, xs_bd, if_neg (by decide)]
  refine ⟨fun ho => ?_, fun ho => ?_⟩
  · rw [hI.2.2.2.2.1, ho, if_pos (show nI 7 = 7 from rfl), m_blame N hI.1, xs_bd] at hd
    dsimp only [fX12_operand_b79] at hd
    rw [if_neg (m_8n _ _ (by decide))] at hd
    refine ⟨_, mLp_opD N hI.2.2.1 hd (Or.inr rfl) (show ¬ (5 : Int32) = 0 by decide), rfl, ?_, mKeep_up (mKeep_up (mKeep_up hK (by unfold mzz; omega)) (by unfold mzz; omega)) (by unfold mzz; omega)⟩
    show I 4 = _
    rw [pp_pl_ne (by decide), hT.2.1]
  · rw [hI.2.2.2.2.1, if_neg (show ¬ nI o = (7 : Int32) from fun z => by have := (nI_eq (b := 7) (by omega) (by omega)).mp z; omega)] at hd
    dsimp only [fX12_operand_b79] at hd
    unfold fX12_holdsBack at hd
    rw [if_pos (by rw [hI.1]; decide), show (va_up I 39 (I 39 + 1)) 41 = nI P.length from hI.2.2.2.2.2.1, xs_ast (by omega) (by decide), xs_bd, xs_bd] at hd
    dsimp only at hd
    obtain ⟨I', J', e1, e2, e3, -⟩ := mR_ah N hA (I := va_up (va_up I 39 (I 39 + 1)) 41 (nI P.length + 1)) (J := J) (fr := fr ++ [t]) (P := P ++ [20320]) (C := C) (o := o + 1) (oF := upd oF P.length 43) (fF := fF) (pF := pF) (bF := bF) (aF := aF) (qF := qF) (cs := cs) (cv := cv) (b := b) (I0 := I0) (J0 := J0) (cs0 := cs0) (cv0 := cv0) hi hT hI.1 hI.2.1 hI.2.2.2.1 (by show I 39 + 1 = _; rw [hI.2.2.2.2.1, nI_1]) (by show nI P.length + 1 = _; rw [nI_1, List.length_append]; rfl) hI.2.2.2.2.2.2 hF (mOps_snoc hO (by unfold pp_isop; omega)) hC (mKeep_up (mKeep_up hK (by unfold mzz; omega)) (by unfold mzz; omega)) (by rw [List.length_append]; show C.length + (P.length + 1) ≤ i + 1; omega) (by rw [pp_ns_app, List.length_append]; show o + 1 + 1 = fr.length + 1 + (pp_ns P + 1); omega) (by omega) hn.2.2.2.2.2.2.1 hn.2.2.2.2.2.2.2.1 (by rw [List.length_append]; show P.length + 1 ≤ 400; omega) hn.2.2.1
    rw [e1, xs_bd] at hd
    exact ⟨_, mLp_op N hI.2.2.1 hd (Or.inl rfl) e2, e3 0⟩
/-- opens: a frame more, or FAULT 5 -/
theorem s_opens7 {I : Nat → Int32} {J : Nat → Int64} {fF pF bF aF : Nat → Int32} (h8 : I 8 = 0) (h39 : I 39 = 7) (kd : Int32) : fX12_opens N I J tF fF pF bF aF kd = some (va_up (va_up I 8 5) 9 (I 4), J, fF, pF, bF, aF) := by
  unfold fX12_opens
  rw [if_pos h39, m_blame N h8, xs_bd]
  dsimp only [fX12_opens_b18]
  rw [if_neg (m_8n _ _ (by decide))]
theorem s_opensD {I : Nat → Int32} {J : Nat → Int64} {fF pF bF aF : Nat → Int32} (h8 : ¬ I 8 ≤ 0) (kd : Int32) : fX12_opens N I J tF fF pF bF aF kd = some (I, J, fF, pF, bF, aF) := by
  unfold fX12_opens
  have e : fX12_opens_b18 N tF (I, J, fF, pF, bF, aF, kd) = some (I, J, fF, pF, bF, aF) := by
    dsimp only [fX12_opens_b18]
    rw [if_neg h8]
  by_cases c : I 39 = 7
  · rw [if_pos c, m_blame1 N h8, xs_bd]; exact e
  · rw [if_neg c]; exact e
theorem s_opens (hA : mAh N tF K St V E nm sz n) {i o : Nat} {fr : List FR} {P C : List Nat} {I : Nat → Int32} {J : Nat → Int64} {fF pF bF aF oF cs cv qF : Nat → Int32} (hi : i + 1 < n) (hT : mTok K St V E nm sz i I J) (h8 : I 8 = 0) (h9 : I 9 = -1) (h38 : I 38 = nI fr.length) (h39 : I 39 = nI o) (h41 : I 41 = nI P.length) (h30 : I 30 = nI C.length) (hF : mFr fr fF pF bF aF qF) (hO : mOps P oF) (hC : mCd b C cs cv) (hK : mKeep b I0 J0 cs0 cv0 I J cs cv) (hn1 : C.length + P.length ≤ i + 1) (hn2 : o + 1 = fr.length + pp_ns P) (hn3 : o < 7) (hn4 : b < 2) (hn5 : I0 31 = nI b) (hn6 : P.length ≤ 400) (hn7 : n ≤ 1601) (kd pr : Nat) :
    ∃ I' J', fX12_opens N I J tF fF pF bF aF (nI kd) = some (va_up I' 38 (nI (fr.length + 1)), J', upd fF fr.length (nI kd), upd pF fr.length 0, upd bF fr.length 1, upd aF fr.length (nI P.length)) ∧ I' 8 = 0 ∧ ∀ u qF', (∀ j, j < fr.length → qF' j = qF j) → (kd = 3 ∨ kd = 4 ∨ kd = 6 → qF' fr.length = nI pr) → mR K St V E nm sz n b I0 J0 cs0 cv0 u (i + 1) (fr ++ [(kd, 0, 1, P.length, pr)]) P C (o + 1) (va_up (va_up I' 38 (nI (fr.length + 1))) 42 (nI u), J', upd fF fr.length (nI kd), upd pF fr.length 0, upd bF fr.length 1, upd aF fr.length (nI P.length), oF, cs, cv, qF') := by
  obtain ⟨I', J', e1, e2, e3, e4⟩ := hA i (va_up I 39 (I 39 + 1)) J hT hi
  have g8 : I' 8 = 0 := (e3 8 (by omega)).trans h8
  have g9 : I' 9 = -1 := (e3 9 (by omega)).trans h9
  have g38 : I' 38 = nI fr.length := (e3 38 (by omega)).trans h38
  have g39 : I' 39 = nI (o + 1) := (e3 39 (by omega)).trans (by show I 39 + 1 = _; rw [h39, nI_1])
  have g41 : I' 41 = nI P.length := (e3 41 (by omega)).trans h41
  have g30 : I' 30 = nI C.length := (e3 30 (by omega)).trans h30
  refine ⟨I', J', ?_, g8, ?_⟩
  · unfold fX12_opens
    rw [h39, if_neg (show ¬ nI o = (7 : Int32) from fun z => by have := (nI_eq (b := 7) (by omega) (by omega)).mp z; omega)]
    dsimp only [fX12_opens_b18]
    rw [if_pos (by rw [h8]; decide), e1, xs_bd]
    dsimp only
    unfold fX12_pushes
    rw [g38, xs_ast (by omega) (by decide), xs_bd, xs_ast (by omega) (by decide), xs_bd, show vp_nar .boolean 1 = 1 from by decide +kernel, xs_ast (by omega) (by decide), xs_bd, g41, xs_ast (by omega) (by decide), xs_bd, xs_bd, nI_1]
  · intro u qF' hq1 hq2
    have hl : ∀ j, j < fr.length → ¬ j = fr.length := fun j hj => by omega
    refine ⟨e2, ⟨g8, g9, rfl, ?_, g39, g41, g30⟩, mFr_set hF (fun j hj => ⟨if_neg (hl j hj), if_neg (hl j hj), if_neg (hl j hj), if_neg (hl j hj), hq1 j hj⟩) ⟨if_pos rfl, if_pos rfl, if_pos rfl, if_pos rfl, hq2⟩, hO, hC, ?_, by omega, by omega, hn7, by omega, ?_, by omega, hn4, hn5, hn6⟩
    · rw [List.length_append]; rfl
    · exact mKeep_up (mKeep_up (mKeep_ah (mKeep_up hK (by unfold mzz; omega)) e3 e4) (by unfold mzz; omega)) (by unfold mzz; omega)
    · rw [List.length_append]; show o + 1 + 1 = fr.length + 1 + pp_ns P; omega
theorem mFr_b0 {fr : List FR} {t : FR} {fF pF bF aF qF : Nat → Int32} (h : mFr (fr ++ [t]) fF pF bF aF qF) : mFr (fr ++ [(t.1, t.2.1, 0, t.2.2.2.1, t.2.2.2.2)]) fF pF (upd bF fr.length 0) aF qF := by
  obtain ⟨f1, f2, f3, f4, f5⟩ := mFr_top h
  exact mFr_set (mFr_low h) (fun j hj => ⟨rfl, rfl, if_neg (by omega), rfl, rfl⟩) ⟨f1, f2, if_pos rfl, f4, f5⟩
/-- the top frame behind its first operand -/
def fr_b0 (t : FR) : FR := (t.1, t.2.1, 0, t.2.2.2.1, t.2.2.2.2)
theorem s_sq (hA : mAh N tF K St V E nm sz n) {i o : Nat} {fr : List FR} {t : FR} {P C : List Nat} {I : Nat → Int32} {J : Nat → Int64} {fF pF bF aF oF cs cv qF : Nat → Int32} (h : mR K St V E nm sz n b I0 J0 cs0 cv0 0 i (fr ++ [t]) P C o (I, J, fF, pF, bF, aF, oF, cs, cv, qF)) (h12 : I 12 = -1) (ht : t.1 < 100) (ht2 : t.2.2.1 ≤ 1) (hf : pp_first t = true) (hk : K i = 91) (hi : i + 1 < n) :
    (o = 7 → ∃ y, mEnd N tF 2 (I, J, fF, pF, bF, aF, oF, cs, cv, qF) y ∧ mDe b I0 J0 cs0 cv0 5 (pp_pl K St V 5 i) y) ∧ (o < 7 → ∃ y, mTo N tF 1 (I, J, fF, pF, bF, aF, oF, cs, cv, qF) y ∧ mR K St V E nm sz n b I0 J0 cs0 cv0 0 (i + 1) (fr ++ [fr_b0 t] ++ [(5, 0, 1, P.length, 0)]) P C (o + 1) y) := by
  obtain ⟨hT, hI, hF, hO, hC, hK, hn⟩ := mR_get h
  obtain ⟨hfl, h38, hon⟩ := s_fl h
  have hd : fX12_operand N I J fF bF oF tF pF aF cs cv qF = (xq_bd (fX12_opens N I J tF fF pF (upd bF fr.length 0) aF 5) fun (r_58_0, r_58_1, r_58_2, r_58_3, r_58_4, r_58_5) => some ((0 : Int32), r_58_0, r_58_1, r_58_2, r_58_4, oF, r_58_3, r_58_5, cs, cv, qF)) := by
    rw [m_opH N h h12 ht ht2]
    dsimp only [fX12_operand_b46]
    rw [hf, if_neg (show ¬ p_b true = 0 by decide), m_wdF N hT h12 20 (by decide) (p := 7237492) rfl (x := 320) rfl (by rw [hk]; decide), xs_bd, if_pos rfl]
    dsimp only [fX12_operand_b110]
    rw [xs_ast (by omega) (by decide), xs_bd, show vp_nar .boolean 0 = 0 from by decide +kernel, if_neg (show ¬ p_b true = 0 by decide), m_sgT N hT h12 91 (by unfold mSg; omega) (x := 91) rfl hk, xs_bd, if_neg (by decide)]
  refine ⟨fun ho => ?_, fun ho => ?_⟩
  · rw [s_opens7 N hI.1 (by rw [hI.2.2.2.2.1, ho]; rfl), xs_bd] at hd
    refine ⟨_, mLp_opD N hI.2.2.1 hd (Or.inl rfl) (show ¬ (5 : Int32) = 0 by decide), rfl, ?_, mKeep_up (mKeep_up (mKeep_up hK (by unfold mzz; omega)) (by unfold mzz; omega)) (by unfold mzz; omega)⟩
    show I 4 = _
    rw [pp_pl_ne (by decide), hT.2.1]
  · obtain ⟨I', J', e1, e2, e3⟩ := s_opens N hA hi hT hI.1 hI.2.1 (fr := fr ++ [fr_b0 t]) (by rw [List.length_append]; exact h38) hI.2.2.2.2.1 hI.2.2.2.2.2.1 hI.2.2.2.2.2.2 (mFr_b0 hF) hO hC hK (by omega) (by rw [List.length_append]; exact hon) ho hn.2.2.2.2.2.2.1 hn.2.2.2.2.2.2.2.1 hn.2.2.2.2.2.2.2.2 hn.2.2.1 5 0
    rw [show (5 : Int32) = nI 5 from rfl, e1, xs_bd] at hd
    exact ⟨_, mLp_op N hI.2.2.1 hd (Or.inl rfl) e2, e3 0 qF (fun _ _ => rfl) (fun z => by omega)⟩
theorem s_all (hA : mAh N tF K St V E nm sz n) {i o : Nat} {fr : List FR} {t : FR} {P C : List Nat} {I : Nat → Int32} {J : Nat → Int64} {fF pF bF aF oF cs cv qF : Nat → Int32} (h : mR K St V E nm sz n b I0 J0 cs0 cv0 0 i (fr ++ [t]) P C o (I, J, fF, pF, bF, aF, oF, cs, cv, qF)) (h12 : I 12 = -1) (ht : t.1 < 100) (ht2 : t.2.2.1 ≤ 1) (hf : pp_first t = true) (hk : K i = 321) (hi : i + 1 < n) :
    ∃ y, mTo N tF 1 (I, J, fF, pF, bF, aF, oF, cs, cv, qF) y ∧ mR K St V E nm sz n b I0 J0 cs0 cv0 1 (i + 1) (fr ++ [(t.1, 2, 0, t.2.2.2.1, t.2.2.2.2)]) P (C ++ [1]) o y := by
  obtain ⟨hT, hI, hF, hO, hC, hK, hn⟩ := mR_get h
  obtain ⟨hfl, h38, hon⟩ := s_fl h
  have h31 : I 31 = nI b := (hK.1 31 (by unfold mzz; omega)).trans hn.2.2.2.2.2.2.2.1
  have hd : fX12_operand N I J fF bF oF tF pF aF cs cv qF = (xq_bd (fX12_ahead N (va_up I 30 (nI (C.length + 1))) J tF) fun (r_53_0, r_53_1) => some ((1 : Int32), r_53_0, r_53_1, fF, upd bF fr.length 0, oF, upd pF fr.length 2, aF, upd cs (1600 * b + C.length) 30, upd cv (1600 * b + C.length) 0, qF)) := by
    rw [m_opH N h h12 ht ht2]
    dsimp only [fX12_operand_b46]
    rw [hf, if_neg (show ¬ p_b true = 0 by decide), m_wdF N hT h12 20 (by decide) (p := 7237492) rfl (x := 320) rfl (by rw [hk]; decide), xs_bd, if_pos rfl]
    dsimp only [fX12_operand_b110]
    rw [xs_ast (by omega) (by decide), xs_bd, show vp_nar .boolean 0 = 0 from by decide +kernel, if_neg (show ¬ p_b true = 0 by decide), m_sgF N hT h12 91 (by unfold mSg; omega) (x := 91) rfl (by rw [hk]; decide), xs_bd, if_pos rfl]
    dsimp only [fX12_operand_b137]
    rw [if_neg (show ¬ p_b true = 0 by decide), m_wdT N hT h12 21 (by decide) (p := 6384748) rfl (x := 321) rfl hk, xs_bd, if_neg (by decide), m_add N (b := b) (nc := C.length) h31 hI.2.2.2.2.2.2 hn.2.2.2.2.2.2.1 (by omega), xs_bd]
    dsimp only
    rw [xs_ast (by omega) (by decide), xs_bd]
  obtain ⟨f1, f2, f3, f4, f5⟩ := mFr_top hF
  obtain ⟨I', J', e1, e2, e3, -⟩ := mR_ah N hA (I := va_up I 30 (nI (C.length + 1))) (J := J) (fr := fr ++ [(t.1, 2, 0, t.2.2.2.1, t.2.2.2.2)]) (P := P) (C := C ++ [1]) (o := o) (oF := oF) (fF := fF) (pF := upd pF fr.length 2) (bF := upd bF fr.length 0) (aF := aF) (qF := qF) (cs := upd cs (1600 * b + C.length) (nI 30)) (cv := upd cv (1600 * b + C.length) 0) (b := b) (I0 := I0) (J0 := J0) (cs0 := cs0) (cv0 := cv0) hi hT hI.1 hI.2.1 (by rw [List.length_append]; exact h38) hI.2.2.2.2.1 hI.2.2.2.2.2.1 (by rw [List.length_append]; rfl) (mFr_set (mFr_low hF) (fun j hj => ⟨rfl, if_neg (by omega), if_neg (by omega), rfl, rfl⟩) ⟨f1, if_pos rfl, if_pos rfl, f4, f5⟩) hO (mCd_snoc hC ⟨0, fun z => absurd z (by decide), Or.inr (Or.inl ⟨rfl, rfl⟩)⟩) (mKeep_cd (mKeep_up hK (by unfold mzz; omega)) (by omega)) (by rw [List.length_append]; show C.length + 1 + P.length ≤ i + 1; omega) (by rw [List.length_append]; exact hon) hn.2.2.2.2.2.1 hn.2.2.2.2.2.2.1 hn.2.2.2.2.2.2.2.1 hn.2.2.2.2.2.2.2.2 hn.2.2.1
  rw [e1, xs_bd] at hd
  exact ⟨_, mLp_op N hI.2.2.1 hd (Or.inr rfl) e2, e3 1⟩
theorem s_par (hA : mAh N tF K St V E nm sz n) {i o : Nat} {fr : List FR} {t : FR} {P C : List Nat} {I : Nat → Int32} {J : Nat → Int64} {fF pF bF aF oF cs cv qF : Nat → Int32} (h : mR K St V E nm sz n b I0 J0 cs0 cv0 0 i (fr ++ [t]) P C o (I, J, fF, pF, bF, aF, oF, cs, cv, qF)) (h12 : I 12 = -1) (ht : t.1 < 100) (ht2 : t.2.2.1 ≤ 1) (hk : K i = 40) (hi : i + 1 < n) :
    (o = 7 → ∃ y, mEnd N tF 2 (I, J, fF, pF, bF, aF, oF, cs, cv, qF) y ∧ mDe b I0 J0 cs0 cv0 5 (pp_pl K St V 5 i) y) ∧ (o < 7 → ∃ y, mTo N tF 1 (I, J, fF, pF, bF, aF, oF, cs, cv, qF) y ∧ mR K St V E nm sz n b I0 J0 cs0 cv0 0 (i + 1) (fr ++ [fr_b0 t] ++ [(2, 0, 1, P.length, 0)]) P C (o + 1) y) := by
  obtain ⟨hT, hI, hF, hO, hC, hK, hn⟩ := mR_get h
  obtain ⟨hfl, h38, hon⟩ := s_fl h
  have hd : fX12_operand N I J fF bF oF tF pF aF cs cv qF = (xq_bd (fX12_opens N I J tF fF pF (upd bF fr.length 0) aF 2) fun (r_58_0, r_58_1, r_58_2, r_58_3, r_58_4, r_58_5) => some ((0 : Int32), r_58_0, r_58_1, r_58_2, r_58_4, oF, r_58_3, r_58_5, cs, cv, qF)) := by
    rw [m_opR N h h12 ht ht2 (fun _ => by rw [hk]; decide)]
    dsimp only [fX12_operand_b171]
    rw [m_sgT N hT h12 40 (by unfold mSg; omega) (x := 40) rfl hk, xs_bd, if_neg (by decide)]
  refine ⟨fun ho => ?_, fun ho => ?_⟩
  · rw [s_opens7 N hI.1 (by rw [hI.2.2.2.2.1, ho]; rfl), xs_bd] at hd
    refine ⟨_, mLp_opD N hI.2.2.1 hd (Or.inl rfl) (show ¬ (5 : Int32) = 0 by decide), rfl, ?_, mKeep_up (mKeep_up (mKeep_up hK (by unfold mzz; omega)) (by unfold mzz; omega)) (by unfold mzz; omega)⟩
    show I 4 = _
    rw [pp_pl_ne (by decide), hT.2.1]
  · obtain ⟨I', J', e1, e2, e3⟩ := s_opens N hA hi hT hI.1 hI.2.1 (fr := fr ++ [fr_b0 t]) (by rw [List.length_append]; exact h38) hI.2.2.2.2.1 hI.2.2.2.2.2.1 hI.2.2.2.2.2.2 (mFr_b0 hF) hO hC hK (by omega) (by rw [List.length_append]; exact hon) ho hn.2.2.2.2.2.2.1 hn.2.2.2.2.2.2.2.1 hn.2.2.2.2.2.2.2.2 hn.2.2.1 2 0
    rw [show (2 : Int32) = nI 2 from rfl, e1, xs_bd] at hd
    exact ⟨_, mLp_op N hI.2.2.1 hd (Or.inl rfl) e2, e3 0 qF (fun _ _ => rfl) (fun z => by omega)⟩
theorem s_var (hA : mAh N tF K St V E nm sz n) {lw : Nat} (hlw : I0 32 = nI lw) (hl3 : lw < 3) {i o c s : Nat} {fr : List FR} {t : FR} {P C : List Nat} {I : Nat → Int32} {J : Nat → Int64} {fF pF bF aF oF cs cv qF : Nat → Int32} (h : mR K St V E nm sz n b I0 J0 cs0 cv0 0 i (fr ++ [t]) P C o (I, J, fF, pF, bF, aF, oF, cs, cv, qF)) (h12 : I 12 = -1) (ht : t.1 < 100) (ht2 : t.2.2.1 ≤ 1) (hno : pp_first t = true → ¬ K i = 320 ∧ ¬ K i = 91 ∧ ¬ K i = 321) (h40 : ¬ K i = 40) (h322 : ¬ K i = 322) (h323 : ¬ K i = 323) (h317 : ¬ K i = 317) (hs : pp_vs lw (K i) = nI s) (hs9 : s ≤ 8) (hrel : ∃ v, (s = 0 → I 6 = nI v) ∧ pm_rel c s v) (hi : i + 1 < n) :
    ∃ y, mTo N tF 1 (I, J, fF, pF, bF, aF, oF, cs, cv, qF) y ∧ mR K St V E nm sz n b I0 J0 cs0 cv0 1 (i + 1) (fr ++ [fr_b0 t]) P (C ++ [c]) o y := by
  obtain ⟨hT, hI, hF, hO, hC, hK, hn⟩ := mR_get h
  obtain ⟨hfl, h38, hon⟩ := s_fl h
  have h31 : I 31 = nI b := (hK.1 31 (by unfold mzz; omega)).trans hn.2.2.2.2.2.2.2.1
  have h32 : I 32 = nI lw := (hK.1 32 (by unfold mzz; omega)).trans hlw
  have hd : fX12_operand N I J fF bF oF tF pF aF cs cv qF = (xq_bd (fX12_ahead N (va_up I 30 (nI (C.length + 1))) J tF) fun (r_53_0, r_53_1) => some ((1 : Int32), r_53_0, r_53_1, fF, upd bF fr.length 0, oF, pF, aF, upd cs (1600 * b + C.length) (nI s), upd cv (1600 * b + C.length) (I 6), qF)) := by
    rw [m_opR N h h12 ht ht2 hno, m_opV N hT h12 h40 h322 h323 h317, m_opL N h32 hl3, hs]
    dsimp only [fX12_operand_b476]
    rw [if_neg (nI_nm1 (by omega))]
    dsimp only [fX12_operand_b490]
    rw [if_pos (by rw [hI.1]; decide), m_add N (b := b) (nc := C.length) h31 hI.2.2.2.2.2.2 hn.2.2.2.2.2.2.1 (by omega), xs_bd]
  obtain ⟨I', J', e1, e2, e3, -⟩ := mR_ah N hA (I := va_up I 30 (nI (C.length + 1))) (J := J) (fr := fr ++ [fr_b0 t]) (P := P) (C := C ++ [c]) (o := o) (oF := oF) (fF := fF) (pF := pF) (bF := upd bF fr.length 0) (aF := aF) (qF := qF) (cs := upd cs (1600 * b + C.length) (nI s)) (cv := upd cv (1600 * b + C.length) (I 6)) (b := b) (I0 := I0) (J0 := J0) (cs0 := cs0) (cv0 := cv0) hi hT hI.1 hI.2.1 (by rw [List.length_append]; exact h38) hI.2.2.2.2.1 hI.2.2.2.2.2.1 (by rw [List.length_append]; rfl) (mFr_b0 hF) hO (mCd_snoc hC hrel) (mKeep_cd (mKeep_up hK (by unfold mzz; omega)) (by omega)) (by rw [List.length_append]; show C.length + 1 + P.length ≤ i + 1; omega) (by rw [List.length_append]; exact hon) hn.2.2.2.2.2.1 hn.2.2.2.2.2.2.1 hn.2.2.2.2.2.2.2.1 hn.2.2.2.2.2.2.2.2 hn.2.2.1
  rw [e1, xs_bd] at hd
  exact ⟨_, mLp_op N hI.2.2.1 hd (Or.inr rfl) e2, e3 1⟩
theorem s_bad {lw : Nat} (hlw : I0 32 = nI lw) (hl3 : lw < 3) {i o : Nat} {fr : List FR} {t : FR} {P C : List Nat} {I : Nat → Int32} {J : Nat → Int64} {fF pF bF aF oF cs cv qF : Nat → Int32} (h : mR K St V E nm sz n b I0 J0 cs0 cv0 0 i (fr ++ [t]) P C o (I, J, fF, pF, bF, aF, oF, cs, cv, qF)) (h12 : I 12 = -1) (ht : t.1 < 100) (ht2 : t.2.2.1 ≤ 1) (hno : pp_first t = true → ¬ K i = 320 ∧ ¬ K i = 91 ∧ ¬ K i = 321) (h40 : ¬ K i = 40) (h322 : ¬ K i = 322) (h323 : ¬ K i = 323) (h317 : ¬ K i = 317) (hs : pp_vs lw (K i) = -1) :
    ∃ y, mEnd N tF 2 (I, J, fF, pF, bF, aF, oF, cs, cv, qF) y ∧ mDe b I0 J0 cs0 cv0 1 (pp_pl K St V 1 i) y := by
  obtain ⟨hT, hI, hF, hO, hC, hK, hn⟩ := mR_get h
  have h32 : I 32 = nI lw := (hK.1 32 (by unfold mzz; omega)).trans hlw
  have hd : fX12_operand N I J fF bF oF tF pF aF cs cv qF = some (1, va_up (va_up I 8 1) 9 (I 4), J, fF, upd bF fr.length 0, oF, pF, aF, cs, cv, qF) := by
    rw [m_opR N h h12 ht ht2 hno, m_opV N hT h12 h40 h322 h323 h317, m_opL N h32 hl3, hs]
    dsimp only [fX12_operand_b476]
    rw [if_pos rfl, m_blame N hI.1, xs_bd]
    dsimp only [fX12_operand_b490]
    rw [if_neg (m_8n _ _ (by decide))]
  refine ⟨_, mLp_opD N hI.2.2.1 hd (Or.inr rfl) (show ¬ (1 : Int32) = 0 by decide), rfl, ?_, mKeep_up (mKeep_up (mKeep_up hK (by unfold mzz; omega)) (by unfold mzz; omega)) (by unfold mzz; omega)⟩
  show I 4 = _
  rw [pp_pl_st hT h12]
theorem s_fun (hA : mAh N tF K St V E nm sz n) {i o c kd : Nat} {fr : List FR} {t : FR} {P C : List Nat} {I : Nat → Int32} {J : Nat → Int64} {fF pF bF aF oF cs cv qF : Nat → Int32} (h : mR K St V E nm sz n b I0 J0 cs0 cv0 0 i (fr ++ [t]) P C o (I, J, fF, pF, bF, aF, oF, cs, cv, qF)) (h12 : I 12 = -1) (ht : t.1 < 100) (ht2 : t.2.2.1 ≤ 1) (hk : (K i = 317 ∧ c = 44 ∧ kd = 6) ∨ (K i = 322 ∧ c = 36 ∧ kd = 3) ∨ (K i = 323 ∧ c = 37 ∧ kd = 3)) (hi : i + 1 < n) (hE : ∀ i, i < n → ¬ K i = -1 → ¬ K i = -2 → i + 1 < n) :
    (¬ K (i + 1) = 40 → ∃ y, mEnd N tF 2 (I, J, fF, pF, bF, aF, oF, cs, cv, qF) y ∧ mDe b I0 J0 cs0 cv0 1 (pp_pl K St V 1 (i + 1)) y) ∧ (K (i + 1) = 40 → (o = 7 → ∃ y, mEnd N tF 2 (I, J, fF, pF, bF, aF, oF, cs, cv, qF) y ∧ mDe b I0 J0 cs0 cv0 5 (pp_pl K St V 5 (i + 1)) y) ∧ (o < 7 → ∃ y, mTo N tF 1 (I, J, fF, pF, bF, aF, oF, cs, cv, qF) y ∧ mR K St V E nm sz n b I0 J0 cs0 cv0 0 (i + 2) (fr ++ [fr_b0 t] ++ [(kd, 0, 1, P.length, c)]) P C (o + 1) y)) := by
  obtain ⟨hT, hI, hF, hO, hC, hK, hn⟩ := mR_get h
  obtain ⟨hfl, h38, hon⟩ := s_fl h
  obtain ⟨I', J', e1, e2, e3, e4⟩ := hA i I J hT hi
  have g8 : I' 8 = 0 := (e3 8 (by omega)).trans hI.1
  have gK := mKeep_ah hK e3 e4
  have hne : (pp_first t = true → ¬ K i = 320 ∧ ¬ K i = 91 ∧ ¬ K i = 321) ∧ ¬ K i = 40 := by
    rcases hk with ⟨z, -⟩ | ⟨z, -⟩ | ⟨z, -⟩ <;> (refine ⟨fun _ => ?_, ?_⟩ <;> (rw [z]; decide))
  have hd : fX12_operand N I J fF bF oF tF pF aF cs cv qF = fX12_operand_b249 N tF (I, J, fF, upd bF fr.length 0, oF, pF, aF, cs, cv, qF, nI c) := by
    rw [m_opR N h h12 ht ht2 hne.1]
    dsimp only [fX12_operand_b171]
    rw [m_sgF N hT h12 40 (by unfold mSg; omega) (x := 40) rfl hne.2, xs_bd, if_pos rfl]
    rcases hk with ⟨z, rfl, -⟩ | ⟨z, rfl, -⟩ | ⟨z, rfl, -⟩
    · rw [m_wdF N hT h12 22 (by decide) (p := 7170414) rfl (x := 322) rfl (by rw [z]; decide), xs_bd, if_pos rfl, m_wdF N hT h12 23 (by decide) (p := 7168376) rfl (x := 323) rfl (by rw [z]; decide), xs_bd, if_pos rfl, m_wdT N hT h12 17 (by decide) (p := 26982) rfl (x := 317) rfl z, xs_bd, if_neg (by decide)]
      dsimp only [fX12_operand_b217]
      rw [m_wdF N hT h12 22 (by decide) (p := 7170414) rfl (x := 322) rfl (by rw [z]; decide), xs_bd, if_pos rfl, m_wdF N hT h12 23 (by decide) (p := 7168376) rfl (x := 323) rfl (by rw [z]; decide), xs_bd, if_pos rfl]; rfl
    · rw [m_wdT N hT h12 22 (by decide) (p := 7170414) rfl (x := 322) rfl z, xs_bd, if_neg (by decide)]
      dsimp only [fX12_operand_b217]
      rw [m_wdT N hT h12 22 (by decide) (p := 7170414) rfl (x := 322) rfl z, xs_bd, if_neg (by decide)]; rfl
    · rw [m_wdF N hT h12 22 (by decide) (p := 7170414) rfl (x := 322) rfl (by rw [z]; decide), xs_bd, if_pos rfl, m_wdT N hT h12 23 (by decide) (p := 7168376) rfl (x := 323) rfl z, xs_bd, if_neg (by decide)]
      dsimp only [fX12_operand_b217]
      rw [m_wdF N hT h12 22 (by decide) (p := 7170414) rfl (x := 322) rfl (by rw [z]; decide), xs_bd, if_pos rfl, m_wdT N hT h12 23 (by decide) (p := 7168376) rfl (x := 323) rfl z, xs_bd, if_neg (by decide)]; rfl
  have h276 : ∀ (I1 : Nat → Int32), fX12_operand_b276 N tF (I1, J', fF, upd bF fr.length 0, oF, pF, aF, cs, cv, qF, nI c) = fX12_operand_b289 N tF (I1, J', fF, upd bF fr.length 0, oF, pF, aF, cs, cv, qF, nI c, nI kd) := by
    intro I1
    dsimp only [fX12_operand_b276]
    rcases hk with ⟨-, rfl, rfl⟩ | ⟨-, rfl, rfl⟩ | ⟨-, rfl, rfl⟩
    · rw [if_pos (show nI 44 = 44 from rfl)]; rfl
    · rw [if_neg (show ¬ nI 36 = 44 by decide)]; rfl
    · rw [if_neg (show ¬ nI 37 = 44 by decide)]; rfl
  have h289 : ∀ (I1 : Nat → Int32), ¬ I1 8 ≤ 0 → fX12_operand_b289 N tF (I1, J', fF, upd bF fr.length 0, oF, pF, aF, cs, cv, qF, nI c, nI kd) = some (0, I1, J', fF, upd bF fr.length 0, oF, pF, aF, cs, cv, qF) := by
    intro I1 h1
    dsimp only [fX12_operand_b289]
    rw [s_opensD N h1, xs_bd]
    dsimp only
    rw [if_neg (fun z => h1 (by rw [z]; decide))]
  dsimp only [fX12_operand_b249] at hd
  rw [e1, xs_bd] at hd
  dsimp only at hd
  by_cases g12 : I' 12 = -1
  · rw [m_lex0 N g12, xs_bd] at hd
    by_cases k4 : K (i + 1) = 40
    · refine ⟨fun z => absurd k4 z, fun _ => ⟨fun ho => ?_, fun ho => ?_⟩⟩
      · rw [m_sgT N e2 g12 40 (by unfold mSg; omega) (x := 40) rfl k4, xs_bd, if_neg (by decide), h276] at hd
        dsimp only [fX12_operand_b289] at hd
        rw [s_opens7 N g8 ((e3 39 (by omega)).trans (by rw [hI.2.2.2.2.1, ho]; rfl)), xs_bd] at hd
        dsimp only at hd
        rw [if_neg (show ¬ (va_up (va_up I' 8 5) 9 (I' 4)) 8 = 0 from (by decide : ¬ (5 : Int32) = 0))] at hd
        refine ⟨_, mLp_opD N hI.2.2.1 hd (Or.inl rfl) (show ¬ (5 : Int32) = 0 by decide), rfl, ?_, mKeep_up (mKeep_up (mKeep_up gK (by unfold mzz; omega)) (by unfold mzz; omega)) (by unfold mzz; omega)⟩
        show I' 4 = _
        rw [pp_pl_ne (by decide), e2.2.1]
      · obtain ⟨I2, J2, d1, d2, d3⟩ := s_opens N hA (hE (i + 1) hi (by rw [k4]; decide) (by rw [k4]; decide)) e2 g8 ((e3 9 (by omega)).trans hI.2.1) (fr := fr ++ [fr_b0 t]) ((e3 38 (by omega)).trans (by rw [List.length_append]; exact h38)) ((e3 39 (by omega)).trans hI.2.2.2.2.1) ((e3 41 (by omega)).trans hI.2.2.2.2.2.1) ((e3 30 (by omega)).trans hI.2.2.2.2.2.2) (mFr_b0 hF) hO hC gK (by omega) (by rw [List.length_append]; exact hon) ho hn.2.2.2.2.2.2.1 hn.2.2.2.2.2.2.2.1 hn.2.2.2.2.2.2.2.2 hn.2.2.1 kd c
        rw [m_sgT N e2 g12 40 (by unfold mSg; omega) (x := 40) rfl k4, xs_bd, if_neg (by decide), h276] at hd
        dsimp only [fX12_operand_b289] at hd
        rw [d1, xs_bd] at hd
        dsimp only at hd
        have hlen : (fr ++ [fr_b0 t]).length = fr.length + 1 := by rw [List.length_append]; rfl
        rw [if_pos (show (va_up I2 38 (nI ((fr ++ [fr_b0 t]).length + 1))) 8 = 0 from d2), show (va_up I2 38 (nI ((fr ++ [fr_b0 t]).length + 1))) 38 - 1 = nI (fr ++ [fr_b0 t]).length from nI_pred _, xs_ast (by rw [hlen]; omega) (by decide), xs_bd] at hd
        exact ⟨_, mLp_op N hI.2.2.1 hd (Or.inl rfl) d2, d3 0 _ (fun j hj => if_neg (by omega)) (fun _ => if_pos rfl)⟩
    · refine ⟨fun _ => ?_, fun z => absurd z k4⟩
      rw [m_sgF N e2 g12 40 (by unfold mSg; omega) (x := 40) rfl k4, xs_bd, if_pos rfl, m_blame N g8, xs_bd, h276, h289 _ (show ¬ (1 : Int32) ≤ 0 by decide)] at hd
      refine ⟨_, mLp_opD N hI.2.2.1 hd (Or.inl rfl) (show ¬ (1 : Int32) = 0 by decide), rfl, ?_, mKeep_up (mKeep_up (mKeep_up gK (by unfold mzz; omega)) (by unfold mzz; omega)) (by unfold mzz; omega)⟩
      show I' 4 = _
      rw [pp_pl_st e2 g12]
  · obtain ⟨q1, q2, -⟩ := e2.2.2.2.1 g12
    refine ⟨fun _ => ?_, fun z => by rw [q1] at z; exact absurd z (by decide)⟩
    rw [m_lex1 N g12 g8, xs_bd] at hd
    have hb : ∃ rr, fX12_isSign N (va_up (va_up I' 8 1) 9 (I' 12)) 40 = some rr := by
      unfold fX12_isSign
      by_cases z : (va_up (va_up I' 8 1) 9 (I' 12)) 3 = 3
      · rw [if_pos z]
        by_cases z2 : (va_up (va_up I' 8 1) 9 (I' 12)) 6 = 40
        · rw [if_pos z2]; exact ⟨_, rfl⟩
        · rw [if_neg z2]; exact ⟨_, rfl⟩
      · rw [if_neg z]; exact ⟨_, rfl⟩
    obtain ⟨rr, hrr⟩ := hb
    have hd : fX12_operand N I J fF bF oF tF pF aF cs cv qF = some (0, va_up (va_up I' 8 1) 9 (I' 12), J', fF, upd bF fr.length 0, oF, pF, aF, cs, cv, qF) := by
      rw [hd, hrr, xs_bd]
      by_cases z : rr = 0
      · rw [if_pos z, m_blame1 N (show ¬ (1 : Int32) ≤ 0 by decide), xs_bd, h276, h289 _ (show ¬ (1 : Int32) ≤ 0 by decide)]
      · rw [if_neg z, h276, h289 _ (show ¬ (1 : Int32) ≤ 0 by decide)]
    refine ⟨_, mLp_opD N hI.2.2.1 hd (Or.inl rfl) (show ¬ (1 : Int32) = 0 by decide), rfl, ?_, mKeep_up (mKeep_up (mKeep_up gK (by unfold mzz; omega)) (by unfold mzz; omega)) (by unfold mzz; omega)⟩
    show I' 12 = _
    unfold pp_pl; rw [if_pos ⟨rfl, q1⟩, q2]
end
