/-! steps of the reference's formula reader: goesOn -/
section
variable {K St V E : Nat → Int32} {nm : Int32 → Int64 → Prop} {sz : Int32} {n b : Nat} {I0 : Nat → Int32} {J0 : Nat → Int64} {cs0 cv0 tF : Nat → Int32} (N : Nat)
theorem mTok_cg {i : Nat} {I I1 : Nat → Int32} {J : Nat → Int64} (h : mTok K St V E nm sz i I J) (he : ∀ j, ¬ (j = 41 ∨ j = 30 ∨ j = 39) → I1 j = I j) : mTok K St V E nm sz i I1 J := by
  unfold mTok
  rw [he 2 (by omega), he 4 (by omega), he 5 (by omega), he 12 (by omega), he 3 (by omega), he 6 (by omega)]; exact h
theorem s_joins (hN : 5000 ≤ N) {r i o : Nat} (hr : r < 100) {fr : List FR} {t : FR} {P R C : List Nat} {I : Nat → Int32} {J : Nat → Int64} {fF pF bF aF oF cs cv qF : Nat → Int32} (h : mR K St V E nm sz n b I0 J0 cs0 cv0 1 i (fr ++ [t]) (P ++ R.reverse) C (o + pp_ns R) (I, J, fF, pF, bF, aF, oF, cs, cv, qF)) (hrk : ∀ q, q ∈ R → r ≤ pp_rk q) (ht : mTop r t P) :
    ∃ I' cs' cv', fX12_joins N I aF oF cs cv (nI r) = some (I', cs', cv') ∧ mTok K St V E nm sz i I' J ∧ I' 8 = 0 ∧ I' 9 = -1 ∧ I' 42 = nI 1 ∧ I' 38 = nI (fr.length + 1) ∧ I' 39 = nI o ∧ I' 41 = nI P.length ∧ I' 30 = nI (C ++ R).length ∧ mOps P oF ∧ mCd b (C ++ R) cs' cv' ∧ mKeep b I0 J0 cs0 cv0 I' J cs' cv' ∧ (C ++ R).length + P.length ≤ i ∧ I' 12 = I 12 ∧ I' 4 = I 4 ∧ o + 1 = fr.length + 1 + pp_ns P ∧ o ≤ 7 ∧ P.length ≤ 400 ∧ fr.length < 8 := by
  obtain ⟨hT, hI, hF, hO, hC, hK, hn⟩ := mR_get h
  obtain ⟨hfl, h38, hon⟩ := s_fl h
  rw [pp_ns_app, pp_ns_rev] at hon
  have hl : (P ++ R.reverse).length = P.length + R.length := by rw [List.length_append, List.length_reverse]
  obtain ⟨n1, n2, n3, n4, n5, n6, n7, n8, n9⟩ := hn
  have h41 := hI.2.2.2.2.2.1
  rw [hl] at n4 n9 h41
  obtain ⟨I', cs', cv', e1, e2, e3, e4, e5, e6, e7⟩ := m_joinsL N hr (show fr.length < 20 by omega) (mFr_top hF).2.2.2.1 ht n7 R C o I cs cv N (by omega) h38 h41 hO hC hI.2.2.2.2.2.2 ((hK.1 31 (by unfold mzz; omega)).trans n8) hI.2.2.2.2.1 hrk (by omega) n9
  refine ⟨I', cs', cv', e1, mTok_cg hT e5, (e5 8 (by omega)).trans hI.1, (e5 9 (by omega)).trans hI.2.1, (e5 42 (by omega)).trans hI.2.2.1, (e5 38 (by omega)).trans h38, e4, e2, ?_, fun j c hj => hO j c (li_low hj), e6, ⟨fun j hj => (e5 j (fun z => hj (by unfold mzz; omega))).trans (hK.1 j hj), hK.2.1, fun j hj => ⟨(e7 j hj).1.trans (hK.2.2 j hj).1, (e7 j hj).2.trans (hK.2.2 j hj).2⟩⟩, ?_, e5 12 (by omega), e5 4 (by omega), by omega, by omega, by omega, hfl⟩
  · rw [e3, List.length_append]
  · rw [List.length_append]; omega
theorem s_lexG {i o : Nat} {fr : List FR} {P C : List Nat} {I : Nat → Int32} {J : Nat → Int64} {fF pF bF aF oF cs cv qF : Nat → Int32} (h : mR K St V E nm sz n b I0 J0 cs0 cv0 1 i fr P C o (I, J, fF, pF, bF, aF, oF, cs, cv, qF)) (h12 : ¬ I 12 = -1) : ∃ y, mEnd N tF 2 (I, J, fF, pF, bF, aF, oF, cs, cv, qF) y ∧ mDe b I0 J0 cs0 cv0 1 (pp_pl K St V 1 i) y := by
  obtain ⟨hT, hI, hF, hO, hC, hK, hn⟩ := mR_get h
  obtain ⟨k1, k2, -⟩ := hT.2.2.2.1 h12
  have e : fX12_goesOn N I J fF pF aF oF cs cv tF bF qF = some (0, va_up (va_up I 8 1) 9 (I 12), J, fF, pF, oF, cs, cv, bF) := by
    unfold fX12_goesOn
    rw [m_lex1 N h12 hI.1, xs_bd, if_neg (m_8n _ _ (by decide))]
  refine ⟨_, mLp_goD N hI.2.2.1 e, rfl, ?_, mKeep_up (mKeep_up hK (by unfold mzz; omega)) (by unfold mzz; omega)⟩
  show I 12 = _
  unfold pp_pl; rw [if_pos ⟨rfl, k1⟩, k2]
def pp_ar (k : Int32) : Prop := k = 43 ∨ k = 45 ∨ k = 42 ∨ k = 47 ∨ k = 37
theorem g_headA {i o : Nat} {fr : List FR} {t : FR} {P C : List Nat} {I : Nat → Int32} {J : Nat → Int64} {fF pF bF aF oF cs cv qF : Nat → Int32} (h : mR K St V E nm sz n b I0 J0 cs0 cv0 1 i (fr ++ [t]) P C o (I, J, fF, pF, bF, aF, oF, cs, cv, qF)) (h12 : I 12 = -1) (ht : t.1 < 100) (hp : t.2.1 < 2) (hk : pp_ar (K i)) : fX12_goesOn N I J fF pF aF oF cs cv tF bF qF = fX12_goesOn_b87 N aF tF qF (I, J, fF, pF, oF, cs, cv, bF) := by
  obtain ⟨hT, hI, hF, hO, hC, hK, hn⟩ := mR_get h
  obtain ⟨hfl, h38, hon⟩ := s_fl h
  obtain ⟨f1, f2, f3, f4, f5⟩ := mFr_top hF
  unfold fX12_goesOn
  rw [m_lex0 N h12, xs_bd, if_pos (by rw [hI.1]; decide), h38, nI_pred, xs_ald (by omega) (by decide), xs_bd, f1, m_kt N ht, xs_bd, xs_ald (by omega) (by decide), xs_bd, f2, if_neg (show ¬ (2 : Int32) ≤ nI t.2.1 from nI_ge (b := 2) hp (by decide))]
  rcases hk with z | z | z | z | z
  · rw [m_sgT N hT h12 43 (by unfold mSg; omega) (x := 43) rfl z, xs_bd, if_neg (by decide)]
  · rw [m_sgF N hT h12 43 (by unfold mSg; omega) (x := 43) rfl (by rw [z]; decide), xs_bd, if_pos rfl, m_sgT N hT h12 45 (by unfold mSg; omega) (x := 45) rfl z, xs_bd, if_neg (by decide)]
  · rw [m_sgF N hT h12 43 (by unfold mSg; omega) (x := 43) rfl (by rw [z]; decide), xs_bd, if_pos rfl, m_sgF N hT h12 45 (by unfold mSg; omega) (x := 45) rfl (by rw [z]; decide), xs_bd, if_pos rfl, m_sgT N hT h12 42 (by unfold mSg; omega) (x := 42) rfl z, xs_bd, if_neg (by decide)]
  · rw [m_sgF N hT h12 43 (by unfold mSg; omega) (x := 43) rfl (by rw [z]; decide), xs_bd, if_pos rfl, m_sgF N hT h12 45 (by unfold mSg; omega) (x := 45) rfl (by rw [z]; decide), xs_bd, if_pos rfl, m_sgF N hT h12 42 (by unfold mSg; omega) (x := 42) rfl (by rw [z]; decide), xs_bd, if_pos rfl, m_sgT N hT h12 47 (by unfold mSg; omega) (x := 47) rfl z, xs_bd, if_neg (by decide)]
  · rw [m_sgF N hT h12 43 (by unfold mSg; omega) (x := 43) rfl (by rw [z]; decide), xs_bd, if_pos rfl, m_sgF N hT h12 45 (by unfold mSg; omega) (x := 45) rfl (by rw [z]; decide), xs_bd, if_pos rfl, m_sgF N hT h12 42 (by unfold mSg; omega) (x := 42) rfl (by rw [z]; decide), xs_bd, if_pos rfl, m_sgF N hT h12 47 (by unfold mSg; omega) (x := 47) rfl (by rw [z]; decide), xs_bd, if_pos rfl, m_sgT N hT h12 37 (by unfold mSg; omega) (x := 37) rfl z, xs_bd, if_neg (by decide)]
theorem g_headB {i o : Nat} {fr : List FR} {t : FR} {P C : List Nat} {I : Nat → Int32} {J : Nat → Int64} {fF pF bF aF oF cs cv qF : Nat → Int32} (h : mR K St V E nm sz n b I0 J0 cs0 cv0 1 i (fr ++ [t]) P C o (I, J, fF, pF, bF, aF, oF, cs, cv, qF)) (h12 : I 12 = -1) (ht : t.1 < 100) (hp2 : t.2.1 ≤ 2) (hk : t.2.1 = 2 ∨ ¬ pp_ar (K i)) : fX12_goesOn N I J fF pF aF oF cs cv tF bF qF = fX12_goesOn_b188 N aF tF qF (I, J, fF, pF, oF, cs, cv, bF, nI fr.length, nI t.1, p_b (pp_kt t.1)) := by
  obtain ⟨hT, hI, hF, hO, hC, hK, hn⟩ := mR_get h
  obtain ⟨hfl, h38, hon⟩ := s_fl h
  obtain ⟨f1, f2, f3, f4, f5⟩ := mFr_top hF
  unfold fX12_goesOn
  rw [m_lex0 N h12, xs_bd, if_pos (by rw [hI.1]; decide), h38, nI_pred, xs_ald (by omega) (by decide), xs_bd, f1, m_kt N ht, xs_bd, xs_ald (by omega) (by decide), xs_bd, f2]
  by_cases c : t.2.1 = 2
  · rw [if_pos (show (2 : Int32) ≤ nI t.2.1 by rw [c]; decide)]
  · have hk : ¬ pp_ar (K i) := by
      rcases hk with z | z
      · exact absurd z c
      · exact z
    rw [if_neg (show ¬ (2 : Int32) ≤ nI t.2.1 from nI_ge (b := 2) (by omega) (by decide)), m_sgF N hT h12 43 (by unfold mSg; omega) (x := 43) rfl (fun z => hk (Or.inl z)), xs_bd, if_pos rfl, m_sgF N hT h12 45 (by unfold mSg; omega) (x := 45) rfl (fun z => hk (Or.inr (Or.inl z))), xs_bd, if_pos rfl, m_sgF N hT h12 42 (by unfold mSg; omega) (x := 42) rfl (fun z => hk (Or.inr (Or.inr (Or.inl z)))), xs_bd, if_pos rfl, m_sgF N hT h12 47 (by unfold mSg; omega) (x := 47) rfl (fun z => hk (Or.inr (Or.inr (Or.inr (Or.inl z))))), xs_bd, if_pos rfl, m_sgF N hT h12 37 (by unfold mSg; omega) (x := 37) rfl (fun z => hk (Or.inr (Or.inr (Or.inr (Or.inr z))))), xs_bd, if_pos rfl]
theorem s_arith (hN : 5000 ≤ N) (hA : mAh N tF K St V E nm sz n) {r i o c : Nat} {fr : List FR} {t : FR} {P R C : List Nat} {I : Nat → Int32} {J : Nat → Int64} {fF pF bF aF oF cs cv qF : Nat → Int32} (h : mR K St V E nm sz n b I0 J0 cs0 cv0 1 i (fr ++ [t]) (P ++ R.reverse) C (o + pp_ns R) (I, J, fF, pF, bF, aF, oF, cs, cv, qF)) (h12 : I 12 = -1) (ht1 : t.1 < 100) (hp : t.2.1 < 2) (hk : (K i = 43 ∧ c = 20043 ∧ r = 5) ∨ (K i = 45 ∧ c = 20045 ∧ r = 5) ∨ (K i = 42 ∧ c = 20042 ∧ r = 6) ∨ (K i = 47 ∧ c = 20047 ∧ r = 6) ∨ (K i = 37 ∧ c = 20037 ∧ r = 6)) (hrk : ∀ q, q ∈ R → r ≤ pp_rk q) (ht : mTop r t P) (hi : i + 1 < n) (hP : P.length < 400) :
    ∃ y, mTo N tF 1 (I, J, fF, pF, bF, aF, oF, cs, cv, qF) y ∧ mR K St V E nm sz n b I0 J0 cs0 cv0 0 (i + 1) (fr ++ [t]) (P ++ [c]) (C ++ R) o y := by
  have hr : r < 100 := by omega
  have hkar : pp_ar (K i) := by
    rcases hk with ⟨z, -⟩ | ⟨z, -⟩ | ⟨z, -⟩ | ⟨z, -⟩ | ⟨z, -⟩ <;> (rw [z]; unfold pp_ar; decide)
  obtain ⟨hT0, hI0, hF, hO0, hC0, hK0, hn⟩ := mR_get h
  obtain ⟨I', cs', cv', e1, hT, g8, g9, g42, g38, g39, g41, g30, gO, gC, gK, gn, g12, g4, gon, go7, gP, gfl⟩ := s_joins N hN hr h hrk ht
  have g12 : I' 12 = -1 := g12.trans h12
  have hd : fX12_goesOn N I J fF pF aF oF cs cv tF bF qF = fX12_goesOn_b174 N aF tF qF (I', J, fF, pF, oF, cs', cv', bF, nI (pp_so c)) := by
    rw [g_headA N h h12 ht1 hp hkar]
    dsimp only [fX12_goesOn_b87]
    rcases hk with ⟨z, rfl, rfl⟩ | ⟨z, rfl, rfl⟩ | ⟨z, rfl, rfl⟩ | ⟨z, rfl, rfl⟩ | ⟨z, rfl, rfl⟩
    · rw [m_sgT N hT0 h12 43 (by unfold mSg; omega) (x := 43) rfl z, xs_bd, if_neg (by decide)]
      dsimp only [fX12_goesOn_b106, fX12_goesOn_b112]
      rw [show (5 : Int32) = nI 5 from rfl, e1, xs_bd]
      dsimp only
      rw [m_sgT N hT g12 43 (by unfold mSg; omega) (x := 43) rfl z, xs_bd, if_neg (by decide)]; rfl
    · rw [m_sgF N hT0 h12 43 (by unfold mSg; omega) (x := 43) rfl (by rw [z]; decide), xs_bd, if_pos rfl, m_sgT N hT0 h12 45 (by unfold mSg; omega) (x := 45) rfl z, xs_bd, if_neg (by decide)]
      dsimp only [fX12_goesOn_b106, fX12_goesOn_b112]
      rw [show (5 : Int32) = nI 5 from rfl, e1, xs_bd]
      dsimp only
      rw [m_sgF N hT g12 43 (by unfold mSg; omega) (x := 43) rfl (by rw [z]; decide), xs_bd, if_pos rfl, m_sgT N hT g12 45 (by unfold mSg; omega) (x := 45) rfl z, xs_bd, if_neg (by decide)]; rfl
    · rw [m_sgF N hT0 h12 43 (by unfold mSg; omega) (x := 43) rfl (by rw [z]; decide), xs_bd, if_pos rfl, m_sgF N hT0 h12 45 (by unfold mSg; omega) (x := 45) rfl (by rw [z]; decide), xs_bd, if_pos rfl]
      dsimp only [fX12_goesOn_b112]
      rw [show (6 : Int32) = nI 6 from rfl, e1, xs_bd]
      dsimp only
      rw [m_sgF N hT g12 43 (by unfold mSg; omega) (x := 43) rfl (by rw [z]; decide), xs_bd, if_pos rfl, m_sgF N hT g12 45 (by unfold mSg; omega) (x := 45) rfl (by rw [z]; decide), xs_bd, if_pos rfl, m_sgT N hT g12 42 (by unfold mSg; omega) (x := 42) rfl z, xs_bd, if_neg (by decide)]; rfl
    · rw [m_sgF N hT0 h12 43 (by unfold mSg; omega) (x := 43) rfl (by rw [z]; decide), xs_bd, if_pos rfl, m_sgF N hT0 h12 45 (by unfold mSg; omega) (x := 45) rfl (by rw [z]; decide), xs_bd, if_pos rfl]
      dsimp only [fX12_goesOn_b112]
      rw [show (6 : Int32) = nI 6 from rfl, e1, xs_bd]
      dsimp only
      rw [m_sgF N hT g12 43 (by unfold mSg; omega) (x := 43) rfl (by rw [z]; decide), xs_bd, if_pos rfl, m_sgF N hT g12 45 (by unfold mSg; omega) (x := 45) rfl (by rw [z]; decide), xs_bd, if_pos rfl, m_sgF N hT g12 42 (by unfold mSg; omega) (x := 42) rfl (by rw [z]; decide), xs_bd, if_pos rfl, m_sgT N hT g12 47 (by unfold mSg; omega) (x := 47) rfl z, xs_bd, if_neg (by decide)]; rfl
    · rw [m_sgF N hT0 h12 43 (by unfold mSg; omega) (x := 43) rfl (by rw [z]; decide), xs_bd, if_pos rfl, m_sgF N hT0 h12 45 (by unfold mSg; omega) (x := 45) rfl (by rw [z]; decide), xs_bd, if_pos rfl]
      dsimp only [fX12_goesOn_b112]
      rw [show (6 : Int32) = nI 6 from rfl, e1, xs_bd]
      dsimp only
      rw [m_sgF N hT g12 43 (by unfold mSg; omega) (x := 43) rfl (by rw [z]; decide), xs_bd, if_pos rfl, m_sgF N hT g12 45 (by unfold mSg; omega) (x := 45) rfl (by rw [z]; decide), xs_bd, if_pos rfl, m_sgF N hT g12 42 (by unfold mSg; omega) (x := 42) rfl (by rw [z]; decide), xs_bd, if_pos rfl, m_sgF N hT g12 47 (by unfold mSg; omega) (x := 47) rfl (by rw [z]; decide), xs_bd, if_pos rfl]; rfl
  have hc : pp_isop c ∧ ¬ c = 20320 := by unfold pp_isop; omega
  dsimp only [fX12_goesOn_b174] at hd
  unfold fX12_holdsBack at hd
  rw [g41, xs_ast (by omega) (by decide), xs_bd, xs_bd] at hd
  dsimp only at hd
  obtain ⟨I2, J2, d1, d2, d3, -⟩ := mR_ah N hA (I := va_up I' 41 (nI P.length + 1)) (J := J) (fr := fr ++ [t]) (P := P ++ [c]) (C := C ++ R) (o := o) (oF := upd oF P.length (nI (pp_so c))) (fF := fF) (pF := pF) (bF := bF) (aF := aF) (qF := qF) (cs := cs') (cv := cv') (b := b) (I0 := I0) (J0 := J0) (cs0 := cs0) (cv0 := cv0) hi hT g8 g9 (by rw [List.length_append]; exact g38) g39 (by show nI P.length + 1 = _; rw [nI_1, List.length_append]; rfl) g30 hF (mOps_snoc gO hc.1) gC (mKeep_up gK (by unfold mzz; omega)) (by rw [List.length_append (as := P)]; show (C ++ R).length + (P.length + 1) ≤ i + 1; omega) (by rw [pp_ns_app, List.length_append]; show o + 1 = fr.length + 1 + (pp_ns P + ((if c = 20320 then 1 else 0) + 0)); rw [if_neg hc.2]; omega) go7 hn.2.2.2.2.2.2.1 hn.2.2.2.2.2.2.2.1 (by rw [List.length_append]; show P.length + 1 ≤ 400; omega) hn.2.2.1
  rw [d1, xs_bd] at hd
  exact ⟨_, mLp_go N hI0.2.2.1 hd d2, d3 0⟩
theorem s_cmp (hN : 5000 ≤ N) (hA : mAh N tF K St V E nm sz n) {i o c : Nat} {fr : List FR} {t : FR} {P R C : List Nat} {I : Nat → Int32} {J : Nat → Int64} {fF pF bF aF oF cs cv qF : Nat → Int32} (h : mR K St V E nm sz n b I0 J0 cs0 cv0 1 i (fr ++ [t]) (P ++ R.reverse) C (o + pp_ns R) (I, J, fF, pF, bF, aF, oF, cs, cv, qF)) (h12 : I 12 = -1) (ht1 : t.1 < 100) (hp : t.2.1 = 0) (hkt : pp_kt t.1 = true) (hk : (K i = 60 ∧ c = 20060) ∨ (K i = 62 ∧ c = 20062) ∨ (K i = 61 ∧ c = 20061)) (hrk : ∀ q, q ∈ R → 5 ≤ pp_rk q) (ht : mTop 5 t P) (hi : i + 1 < n) (hP : P.length < 400) :
    ∃ y, mTo N tF 1 (I, J, fF, pF, bF, aF, oF, cs, cv, qF) y ∧ mR K St V E nm sz n b I0 J0 cs0 cv0 0 (i + 1) (fr ++ [(t.1, 1, t.2.2.1, t.2.2.2.1, t.2.2.2.2)]) (P ++ [c]) (C ++ R) o y := by
  have hkar : ¬ pp_ar (K i) := by
    rcases hk with ⟨z, -⟩ | ⟨z, -⟩ | ⟨z, -⟩ <;> (rw [z]; unfold pp_ar; decide)
  obtain ⟨hT0, hI0, hF, hO0, hC0, hK0, hn⟩ := mR_get h
  obtain ⟨f1, f2, f3, f4, f5⟩ := mFr_top hF
  obtain ⟨I', cs', cv', e1, hT, g8, g9, g42, g38, g39, g41, g30, gO, gC, gK, gn, g12, g4, gon, go7, gP, gfl⟩ := s_joins N hN (r := 5) (by decide) h hrk ht
  have g12 : I' 12 = -1 := g12.trans h12
  have hd : fX12_goesOn N I J fF pF aF oF cs cv tF bF qF = fX12_goesOn_b264 N aF tF qF (I', J, fF, pF, oF, cs', cv', bF, nI fr.length, nI (pp_so c)) := by
    rw [g_headB N h h12 ht1 (by omega) (Or.inr hkar)]
    dsimp only [fX12_goesOn_b188]
    rw [hkt, if_neg (show ¬ p_b true = 0 by decide), xs_ald (by omega) (by decide), xs_bd, f2, hp, if_pos (show nI 0 = 0 from rfl)]
    rcases hk with ⟨z, rfl⟩ | ⟨z, rfl⟩ | ⟨z, rfl⟩
    · rw [m_sgT N hT0 h12 60 (by unfold mSg; omega) (x := 60) rfl z, xs_bd, if_neg (by decide)]
      dsimp only [fX12_goesOn_b228]
      rw [show (5 : Int32) = nI 5 from rfl, e1, xs_bd]
      dsimp only
      rw [m_sgT N hT g12 60 (by unfold mSg; omega) (x := 60) rfl z, xs_bd, if_neg (by decide)]; rfl
    · rw [m_sgF N hT0 h12 60 (by unfold mSg; omega) (x := 60) rfl (by rw [z]; decide), xs_bd, if_pos rfl, m_sgT N hT0 h12 62 (by unfold mSg; omega) (x := 62) rfl z, xs_bd, if_neg (by decide)]
      dsimp only [fX12_goesOn_b228]
      rw [show (5 : Int32) = nI 5 from rfl, e1, xs_bd]
      dsimp only
      rw [m_sgF N hT g12 60 (by unfold mSg; omega) (x := 60) rfl (by rw [z]; decide), xs_bd, if_pos rfl, m_sgT N hT g12 62 (by unfold mSg; omega) (x := 62) rfl z, xs_bd, if_neg (by decide)]; rfl
    · rw [m_sgF N hT0 h12 60 (by unfold mSg; omega) (x := 60) rfl (by rw [z]; decide), xs_bd, if_pos rfl, m_sgF N hT0 h12 62 (by unfold mSg; omega) (x := 62) rfl (by rw [z]; decide), xs_bd, if_pos rfl, m_sgT N hT0 h12 61 (by unfold mSg; omega) (x := 61) rfl z, xs_bd, if_neg (by decide)]
      dsimp only [fX12_goesOn_b228]
      rw [show (5 : Int32) = nI 5 from rfl, e1, xs_bd]
      dsimp only
      rw [m_sgF N hT g12 60 (by unfold mSg; omega) (x := 60) rfl (by rw [z]; decide), xs_bd, if_pos rfl, m_sgF N hT g12 62 (by unfold mSg; omega) (x := 62) rfl (by rw [z]; decide), xs_bd, if_pos rfl]; rfl
  have hc : pp_isop c ∧ ¬ c = 20320 := by unfold pp_isop; omega
  dsimp only [fX12_goesOn_b264] at hd
  unfold fX12_holdsBack at hd
  rw [g41, xs_ast (by omega) (by decide), xs_bd, xs_bd] at hd
  dsimp only at hd
  rw [xs_ast (by omega) (by decide), xs_bd] at hd
  obtain ⟨I2, J2, d1, d2, d3, -⟩ := mR_ah N hA (I := va_up I' 41 (nI P.length + 1)) (J := J) (fr := fr ++ [(t.1, 1, t.2.2.1, t.2.2.2.1, t.2.2.2.2)]) (P := P ++ [c]) (C := C ++ R) (o := o) (oF := upd oF P.length (nI (pp_so c))) (fF := fF) (pF := upd pF fr.length 1) (bF := bF) (aF := aF) (qF := qF) (cs := cs') (cv := cv') (b := b) (I0 := I0) (J0 := J0) (cs0 := cs0) (cv0 := cv0) hi hT g8 g9 (by rw [List.length_append]; exact g38) g39 (by show nI P.length + 1 = _; rw [nI_1, List.length_append]; rfl) g30 (mFr_set (mFr_low hF) (fun j hj => ⟨rfl, if_neg (by omega), rfl, rfl, rfl⟩) ⟨f1, if_pos rfl, f3, f4, f5⟩) (mOps_snoc gO hc.1) gC (mKeep_up gK (by unfold mzz; omega)) (by rw [List.length_append (as := P)]; show (C ++ R).length + (P.length + 1) ≤ i + 1; omega) (by rw [pp_ns_app, List.length_append]; show o + 1 = fr.length + 1 + (pp_ns P + ((if c = 20320 then 1 else 0) + 0)); rw [if_neg hc.2]; omega) go7 hn.2.2.2.2.2.2.1 hn.2.2.2.2.2.2.2.1 (by rw [List.length_append]; show P.length + 1 ≤ 400; omega) hn.2.2.1
  rw [d1, xs_bd] at hd
  exact ⟨_, mLp_go N hI0.2.2.1 hd d2, d3 0⟩
theorem s_logic (hN : 5000 ≤ N) (hA : mAh N tF K St V E nm sz n) {r i o c : Nat} {fr : List FR} {t : FR} {P R C : List Nat} {I : Nat → Int32} {J : Nat → Int64} {fF pF bF aF oF cs cv qF : Nat → Int32} (h : mR K St V E nm sz n b I0 J0 cs0 cv0 1 i (fr ++ [t]) (P ++ R.reverse) C (o + pp_ns R) (I, J, fF, pF, bF, aF, oF, cs, cv, qF)) (h12 : I 12 = -1) (ht1 : t.1 < 100) (hp : ¬ t.2.1 = 0) (hp2 : t.2.1 ≤ 2) (hkt : pp_kt t.1 = true) (hk : (K i = 319 ∧ c = 20319 ∧ r = 2) ∨ (K i = 318 ∧ c = 20318 ∧ r = 1)) (hrk : ∀ q, q ∈ R → r ≤ pp_rk q) (ht : mTop r t P) (hi : i + 1 < n) (hP : P.length < 400) :
    ∃ y, mTo N tF 1 (I, J, fF, pF, bF, aF, oF, cs, cv, qF) y ∧ mR K St V E nm sz n b I0 J0 cs0 cv0 0 (i + 1) (fr ++ [(t.1, 0, 1, t.2.2.2.1, t.2.2.2.2)]) (P ++ [c]) (C ++ R) o y := by
  have hr : r < 100 := by omega
  have hkar : ¬ pp_ar (K i) := by
    rcases hk with ⟨z, -⟩ | ⟨z, -⟩ <;> (rw [z]; unfold pp_ar; decide)
  obtain ⟨hT0, hI0, hF, hO0, hC0, hK0, hn⟩ := mR_get h
  obtain ⟨f1, f2, f3, f4, f5⟩ := mFr_top hF
  obtain ⟨I', cs', cv', e1, hT, g8, g9, g42, g38, g39, g41, g30, gO, gC, gK, gn, g12, g4, gon, go7, gP, gfl⟩ := s_joins N hN hr h hrk ht
  have hd : fX12_goesOn N I J fF pF aF oF cs cv tF bF qF = fX12_goesOn_b372 N aF tF qF (I', J, fF, pF, oF, cs', cv', bF, nI fr.length, nI (pp_so c)) := by
    rw [g_headB N h h12 ht1 hp2 (Or.inr hkar)]
    dsimp only [fX12_goesOn_b188]
    rw [hkt, if_neg (show ¬ p_b true = 0 by decide), xs_ald (by omega) (by decide), xs_bd, f2, if_neg (nI_ne0 (by omega) (by omega))]
    dsimp only [fX12_goesOn_b285]
    rw [if_neg (show ¬ p_b true = 0 by decide)]
    rcases hk with ⟨z, rfl, rfl⟩ | ⟨z, rfl, rfl⟩
    · rw [m_wdT N hT0 h12 19 (by decide) (p := 6385252) rfl (x := 319) rfl z, xs_bd, if_neg (by decide)]
      dsimp only [fX12_goesOn_b309]
      rw [xs_ald (by omega) (by decide), xs_bd, f2, if_neg (nI_ne0 (by omega) (by omega))]
      dsimp only [fX12_goesOn_b327]
      rw [if_pos (by rw [hI0.1]; decide), m_wdT N hT0 h12 19 (by decide) (p := 6385252) rfl (x := 319) rfl z, xs_bd, if_neg (by decide)]
      dsimp only [fX12_goesOn_b356]
      rw [show (2 : Int32) = nI 2 from rfl, e1, xs_bd]
      dsimp only
      rw [if_neg (by decide)]; rfl
    · rw [m_wdF N hT0 h12 19 (by decide) (p := 6385252) rfl (x := 319) rfl (by rw [z]; decide), xs_bd, if_pos rfl, m_wdT N hT0 h12 18 (by decide) (p := 28530) rfl (x := 318) rfl z, xs_bd, if_neg (by decide)]
      dsimp only [fX12_goesOn_b309]
      rw [xs_ald (by omega) (by decide), xs_bd, f2, if_neg (nI_ne0 (by omega) (by omega))]
      dsimp only [fX12_goesOn_b327]
      rw [if_pos (by rw [hI0.1]; decide), m_wdF N hT0 h12 19 (by decide) (p := 6385252) rfl (x := 319) rfl (by rw [z]; decide), xs_bd, if_pos rfl]
      dsimp only [fX12_goesOn_b356]
      rw [show (1 : Int32) = nI 1 from rfl, e1, xs_bd]
      dsimp only
      rw [if_pos rfl]; rfl
  have hc : pp_isop c ∧ ¬ c = 20320 := by unfold pp_isop; omega
  dsimp only [fX12_goesOn_b372] at hd
  unfold fX12_holdsBack at hd
  rw [g41, xs_ast (by omega) (by decide), xs_bd, xs_bd] at hd
  dsimp only at hd
  rw [xs_ast (by omega) (by decide), xs_bd, xs_ast (by omega) (by decide), xs_bd, show vp_nar .boolean 1 = 1 from by decide +kernel] at hd
  obtain ⟨I2, J2, d1, d2, d3, -⟩ := mR_ah N hA (I := va_up I' 41 (nI P.length + 1)) (J := J) (fr := fr ++ [(t.1, 0, 1, t.2.2.2.1, t.2.2.2.2)]) (P := P ++ [c]) (C := C ++ R) (o := o) (oF := upd oF P.length (nI (pp_so c))) (fF := fF) (pF := upd pF fr.length 0) (bF := upd bF fr.length 1) (aF := aF) (qF := qF) (cs := cs') (cv := cv') (b := b) (I0 := I0) (J0 := J0) (cs0 := cs0) (cv0 := cv0) hi hT g8 g9 (by rw [List.length_append]; exact g38) g39 (by show nI P.length + 1 = _; rw [nI_1, List.length_append]; rfl) g30 (mFr_set (mFr_low hF) (fun j hj => ⟨rfl, if_neg (by omega), if_neg (by omega), rfl, rfl⟩) ⟨f1, if_pos rfl, if_pos rfl, f4, f5⟩) (mOps_snoc gO hc.1) gC (mKeep_up gK (by unfold mzz; omega)) (by rw [List.length_append (as := P)]; show (C ++ R).length + (P.length + 1) ≤ i + 1; omega) (by rw [pp_ns_app, List.length_append]; show o + 1 = fr.length + 1 + (pp_ns P + ((if c = 20320 then 1 else 0) + 0)); rw [if_neg hc.2]; omega) go7 hn.2.2.2.2.2.2.1 hn.2.2.2.2.2.2.2.1 (by rw [List.length_append]; show P.length + 1 ≤ 400; omega) hn.2.2.1
  rw [d1, xs_bd] at hd
  exact ⟨_, mLp_go N hI0.2.2.1 hd d2, d3 0⟩
theorem m_sgE (I : Nat → Int32) (x : Int32) : ∃ rr, fX12_isSign N I x = some rr := by
  unfold fX12_isSign
  by_cases z : I 3 = 3
  · rw [if_pos z]
    by_cases z2 : I 6 = x
    · rw [if_pos z2]; exact ⟨_, rfl⟩
    · rw [if_neg z2]; exact ⟨_, rfl⟩
  · rw [if_neg z]; exact ⟨_, rfl⟩
/-- with a FAULT the rest of goesOn does nothing -/
theorem g_dead422 {I : Nat → Int32} {J : Nat → Int64} {fF pF bF aF oF cs cv qF : Nat → Int32} (h8 : ¬ I 8 ≤ 0) (x1 x2 : Int32) : fX12_goesOn_b422 N aF tF qF (I, J, fF, pF, oF, cs, cv, bF, x1, x2) = some (0, I, J, fF, pF, oF, cs, cv, bF) := by
  have h80 : ¬ I 8 = 0 := fun z => h8 (by rw [z]; decide)
  have h452 : fX12_goesOn_b452 N aF tF qF (I, J, fF, pF, oF, cs, cv, bF, x1, x2) = some (0, I, J, fF, pF, oF, cs, cv, bF) := by
    dsimp only [fX12_goesOn_b452]
    obtain ⟨rr, e⟩ := m_sgE N I 44
    rw [e, xs_bd, m_blame1 N h8, xs_bd]
    dsimp only [fX12_goesOn_b470]
    rw [if_neg h8]
    split <;> rfl
  have h531 : ∀ y, fX12_goesOn_b531 N aF tF qF (I, J, fF, pF, oF, cs, cv, bF, x1, x2, y) = some (0, I, J, fF, pF, oF, cs, cv, bF) := by
    intro y
    dsimp only [fX12_goesOn_b531]
    obtain ⟨rr, e⟩ := m_sgE N I y
    rw [e, xs_bd, m_blame1 N h8, xs_bd]
    dsimp only [fX12_goesOn_b546]
    rw [if_neg h8]
    split <;> rfl
  dsimp only [fX12_goesOn_b422]
  rw [h452, h531, h531, if_neg h80]
  split
  · split
    · rfl
    · split
      · rfl
      · split <;> rfl
  · rfl
theorem s_noTest {i o : Nat} {fr : List FR} {t : FR} {P C : List Nat} {I : Nat → Int32} {J : Nat → Int64} {fF pF bF aF oF cs cv qF : Nat → Int32} (h : mR K St V E nm sz n b I0 J0 cs0 cv0 1 i (fr ++ [t]) P C o (I, J, fF, pF, bF, aF, oF, cs, cv, qF)) (h12 : I 12 = -1) (ht1 : t.1 < 100) (hp : t.2.1 = 0) (hkt : pp_kt t.1 = true) (hka : ¬ pp_ar (K i)) (hkc : ¬ (K i = 60 ∨ K i = 62 ∨ K i = 61)) : ∃ y, mEnd N tF 2 (I, J, fF, pF, bF, aF, oF, cs, cv, qF) y ∧ mDe b I0 J0 cs0 cv0 1 (pp_pl K St V 1 i) y := by
  obtain ⟨hT, hI, hF, hO, hC, hK, hn⟩ := mR_get h
  obtain ⟨f1, f2, f3, f4, f5⟩ := mFr_top hF
  obtain ⟨hfl, h38, hon⟩ := s_fl h
  have h309 : fX12_goesOn_b309 N aF tF qF (I, J, fF, pF, oF, cs, cv, bF, nI fr.length) = some (0, va_up (va_up I 8 1) 9 (I 4), J, fF, pF, oF, cs, cv, bF) := by
    dsimp only [fX12_goesOn_b309]
    rw [xs_ald (by omega) (by decide), xs_bd, f2, hp, if_pos (show nI 0 = 0 from rfl), m_blame N hI.1, xs_bd]
    dsimp only [fX12_goesOn_b327]
    rw [if_neg (m_8n _ _ (by decide))]
  have h400 : fX12_goesOn_b400 N aF tF qF (I, J, fF, pF, oF, cs, cv, bF, nI fr.length, nI t.1, p_b true) = some (0, va_up (va_up I 8 1) 9 (I 4), J, fF, pF, oF, cs, cv, bF) := by
    dsimp only [fX12_goesOn_b400]
    rw [if_neg (show ¬ p_b true = 0 by decide), xs_ald (by omega) (by decide), xs_bd, f2, hp, if_pos (show nI 0 = 0 from rfl), m_blame N hI.1, xs_bd, g_dead422 N (m_8n _ _ (by decide))]
  have hd : fX12_goesOn N I J fF pF aF oF cs cv tF bF qF = some (0, va_up (va_up I 8 1) 9 (I 4), J, fF, pF, oF, cs, cv, bF) := by
    rw [g_headB N h h12 ht1 (by omega) (Or.inr hka)]
    dsimp only [fX12_goesOn_b188]
    rw [hkt, if_neg (show ¬ p_b true = 0 by decide), xs_ald (by omega) (by decide), xs_bd, f2, hp, if_pos (show nI 0 = 0 from rfl), m_sgF N hT h12 60 (by unfold mSg; omega) (x := 60) rfl (fun z => hkc (Or.inl z)), xs_bd, if_pos rfl, m_sgF N hT h12 62 (by unfold mSg; omega) (x := 62) rfl (fun z => hkc (Or.inr (Or.inl z))), xs_bd, if_pos rfl, m_sgF N hT h12 61 (by unfold mSg; omega) (x := 61) rfl (fun z => hkc (Or.inr (Or.inr z))), xs_bd, if_pos rfl]
    dsimp only [fX12_goesOn_b285]
    rw [if_neg (show ¬ p_b true = 0 by decide), h309, h400]
    by_cases z : K i = 319
    · rw [m_wdT N hT h12 19 (by decide) (p := 6385252) rfl (x := 319) rfl z, xs_bd, if_neg (by decide)]
    · rw [m_wdF N hT h12 19 (by decide) (p := 6385252) rfl (x := 319) rfl z, xs_bd, if_pos rfl]
      by_cases z : K i = 318
      · rw [m_wdT N hT h12 18 (by decide) (p := 28530) rfl (x := 318) rfl z, xs_bd, if_neg (by decide)]
      · rw [m_wdF N hT h12 18 (by decide) (p := 28530) rfl (x := 318) rfl z, xs_bd, if_pos rfl]
  refine ⟨_, mLp_goD N hI.2.2.1 hd, rfl, ?_, mKeep_up (mKeep_up hK (by unfold mzz; omega)) (by unfold mzz; omega)⟩
  show I 4 = _
  rw [pp_pl_st hT h12]
theorem g_422 {i o : Nat} {fr : List FR} {t : FR} {P C : List Nat} {I : Nat → Int32} {J : Nat → Int64} {fF pF bF aF oF cs cv qF : Nat → Int32} (h : mR K St V E nm sz n b I0 J0 cs0 cv0 1 i (fr ++ [t]) P C o (I, J, fF, pF, bF, aF, oF, cs, cv, qF)) (h12 : I 12 = -1) (ht1 : t.1 < 100) (hp2 : t.2.1 ≤ 2) (hka : t.2.1 = 2 ∨ ¬ pp_ar (K i)) (hkt : pp_kt t.1 = true → ¬ t.2.1 = 0 ∧ ¬ K i = 319 ∧ ¬ K i = 318) : fX12_goesOn N I J fF pF aF oF cs cv tF bF qF = fX12_goesOn_b422 N aF tF qF (I, J, fF, pF, oF, cs, cv, bF, nI fr.length, nI t.1) := by
  obtain ⟨hT, hI, hF, hO, hC, hK, hn⟩ := mR_get h
  obtain ⟨f1, f2, f3, f4, f5⟩ := mFr_top hF
  obtain ⟨hfl, h38, hon⟩ := s_fl h
  rw [g_headB N h h12 ht1 hp2 hka]
  dsimp only [fX12_goesOn_b188]
  cases hk : pp_kt t.1 with
  | false =>
    rw [if_pos (show p_b false = 0 from rfl)]
    dsimp only [fX12_goesOn_b285]
    rw [if_pos (show p_b false = 0 from rfl)]
    dsimp only [fX12_goesOn_b400]
    rw [if_pos (show p_b false = 0 from rfl)]
  | true =>
    obtain ⟨k1, k2, k3⟩ := hkt hk
    rw [if_neg (show ¬ p_b true = 0 by decide), xs_ald (by omega) (by decide), xs_bd, f2, if_neg (nI_ne0 (by omega) (by omega))]
    dsimp only [fX12_goesOn_b285]
    rw [if_neg (show ¬ p_b true = 0 by decide), m_wdF N hT h12 19 (by decide) (p := 6385252) rfl (x := 319) rfl k2, xs_bd, if_pos rfl, m_wdF N hT h12 18 (by decide) (p := 28530) rfl (x := 318) rfl k3, xs_bd, if_pos rfl]
    dsimp only [fX12_goesOn_b400]
    rw [if_neg (show ¬ p_b true = 0 by decide), xs_ald (by omega) (by decide), xs_bd, f2, if_neg (nI_ne0 (by omega) (by omega))]
/-- the state behind a whole formula -/
def mFin (K St V E : Nat → Int32) (nm : Int32 → Int64 → Prop) (sz : Int32) (b : Nat) (I0 : Nat → Int32) (J0 : Nat → Int64) (cs0 cv0 : Nat → Int32) (i : Nat) (C : List Nat) (x : RS) : Prop := mTok K St V E nm sz i x.1 x.2.1 ∧ x.1 8 = 0 ∧ x.1 9 = -1 ∧ x.1 30 = nI C.length ∧ mCd b C x.2.2.2.2.2.2.2.1 x.2.2.2.2.2.2.2.2.1 ∧ mKeep b I0 J0 cs0 cv0 x.1 x.2.1 x.2.2.2.2.2.2.2.1 x.2.2.2.2.2.2.2.2.1 ∧ C.length ≤ i
theorem s_end (hN : 5000 ≤ N) {i o : Nat} {fr : List FR} {t : FR} {P R C : List Nat} {I : Nat → Int32} {J : Nat → Int64} {fF pF bF aF oF cs cv qF : Nat → Int32} (h : mR K St V E nm sz n b I0 J0 cs0 cv0 1 i (fr ++ [t]) (P ++ R.reverse) C (o + pp_ns R) (I, J, fF, pF, bF, aF, oF, cs, cv, qF)) (h12 : I 12 = -1) (ht1 : t.1 < 2) (hp2 : t.2.1 ≤ 2) (hka : t.2.1 = 2 ∨ ¬ pp_ar (K i)) (hkt : pp_kt t.1 = true → ¬ t.2.1 = 0 ∧ ¬ K i = 319 ∧ ¬ K i = 318) (hrk : ∀ q, q ∈ R → 1 ≤ pp_rk q) (ht : mTop 1 t P) : ∃ y, mEnd N tF 2 (I, J, fF, pF, bF, aF, oF, cs, cv, qF) y ∧ mFin K St V E nm sz b I0 J0 cs0 cv0 i (C ++ R) y := by
  obtain ⟨hT0, hI0, hF, hO0, hC0, hK0, hn⟩ := mR_get h
  obtain ⟨I', cs', cv', e1, hT, g8, g9, g42, g38, g39, g41, g30, gO, gC, gK, gn, g12, g4, gon, go7, gP, gfl⟩ := s_joins N hN (r := 1) (by decide) h hrk ht
  have hd : fX12_goesOn N I J fF pF aF oF cs cv tF bF qF = some (0, I', J, fF, pF, oF, cs', cv', bF) := by
    rw [g_422 N h h12 (by omega) hp2 hka hkt]
    dsimp only [fX12_goesOn_b422]
    rw [if_neg (show ¬ (2 : Int32) ≤ nI t.1 from nI_ge (b := 2) ht1 (by decide)), if_pos hI0.1, show (1 : Int32) = nI 1 from rfl, e1, xs_bd]
  exact ⟨_, mLp_goD N hI0.2.2.1 hd, hT, g8, g9, g30, gC, gK, by omega⟩
theorem s_comma (hN : 5000 ≤ N) (hA : mAh N tF K St V E nm sz n) {i o kd : Nat} {fr : List FR} {t : FR} {P R C : List Nat} {I : Nat → Int32} {J : Nat → Int64} {fF pF bF aF oF cs cv qF : Nat → Int32} (h : mR K St V E nm sz n b I0 J0 cs0 cv0 1 i (fr ++ [t]) (P ++ R.reverse) C (o + pp_ns R) (I, J, fF, pF, bF, aF, oF, cs, cv, qF)) (h12 : I 12 = -1) (ht1 : (t.1 = 3 ∧ kd = 4) ∨ (t.1 = 6 ∧ kd = 3)) (hp2 : t.2.1 ≤ 2) (hka : t.2.1 = 2 ∨ ¬ pp_ar (K i)) (hkt : pp_kt t.1 = true → ¬ t.2.1 = 0 ∧ ¬ K i = 319 ∧ ¬ K i = 318) (hrk : ∀ q, q ∈ R → 1 ≤ pp_rk q) (ht : mTop 1 t P) (hi : K i = 44 → i + 1 < n) :
    (¬ K i = 44 → ∃ y, mEnd N tF 2 (I, J, fF, pF, bF, aF, oF, cs, cv, qF) y ∧ mDe b I0 J0 cs0 cv0 1 (pp_pl K St V 1 i) y) ∧ (K i = 44 → ∃ y, mTo N tF 1 (I, J, fF, pF, bF, aF, oF, cs, cv, qF) y ∧ mR K St V E nm sz n b I0 J0 cs0 cv0 0 (i + 1) (fr ++ [(kd, 0, t.2.2.1, t.2.2.2.1, t.2.2.2.2)]) P (C ++ R) o y) := by
  obtain ⟨hT0, hI0, hF, hO0, hC0, hK0, hn⟩ := mR_get h
  obtain ⟨f1, f2, f3, f4, f5⟩ := mFr_top hF
  have hd : fX12_goesOn N I J fF pF aF oF cs cv tF bF qF = fX12_goesOn_b452 N aF tF qF (I, J, fF, pF, oF, cs, cv, bF, nI fr.length, nI t.1) := by
    rw [g_422 N h h12 (by omega) hp2 hka hkt]
    dsimp only [fX12_goesOn_b422]
    rcases ht1 with ⟨z, -⟩ | ⟨z, -⟩
    · rw [z, if_pos (by decide), if_pos (show nI 3 = 3 from rfl)]
    · rw [z, if_pos (by decide), if_neg (show ¬ nI 6 = 3 by decide), if_pos (show nI 6 = 6 from rfl)]
  dsimp only [fX12_goesOn_b452] at hd
  refine ⟨fun hk => ?_, fun hk => ?_⟩
  · rw [m_sgF N hT0 h12 44 (by unfold mSg; omega) (x := 44) rfl hk, xs_bd, if_pos rfl, m_blame N hI0.1, xs_bd] at hd
    dsimp only [fX12_goesOn_b470] at hd
    rw [if_neg (m_8n _ _ (by decide))] at hd
    refine ⟨_, mLp_goD N hI0.2.2.1 hd, rfl, ?_, mKeep_up (mKeep_up hK0 (by unfold mzz; omega)) (by unfold mzz; omega)⟩
    show I 4 = _
    rw [pp_pl_st hT0 h12]
  · obtain ⟨I', cs', cv', e1, hT, g8, g9, g42, g38, g39, g41, g30, gO, gC, gK, gn, g12, g4, gon, go7, gP, gfl⟩ := s_joins N hN (r := 1) (by decide) h hrk ht
    rw [m_sgT N hT0 h12 44 (by unfold mSg; omega) (x := 44) rfl hk, xs_bd, if_neg (by decide)] at hd
    dsimp only [fX12_goesOn_b470] at hd
    rw [if_pos (by rw [hI0.1]; decide), show (1 : Int32) = nI 1 from rfl, e1, xs_bd] at hd
    have hd : fX12_goesOn N I J fF pF aF oF cs cv tF bF qF = fX12_goesOn_b499 N aF tF qF (I', J, fF, pF, oF, cs', cv', bF, nI fr.length, nI fr.length, nI kd) := by
      rw [hd]
      rcases ht1 with ⟨z, rfl⟩ | ⟨z, rfl⟩
      · rw [z, if_pos (show nI 3 = 3 from rfl)]; rfl
      · rw [z, if_neg (show ¬ nI 6 = 3 by decide)]; rfl
    dsimp only [fX12_goesOn_b499] at hd
    rw [xs_ast (by omega) (by decide), xs_bd, xs_ast (by omega) (by decide), xs_bd] at hd
    obtain ⟨I2, J2, d1, d2, d3, -⟩ := mR_ah N hA (I := I') (J := J) (fr := fr ++ [(kd, 0, t.2.2.1, t.2.2.2.1, t.2.2.2.2)]) (P := P) (C := C ++ R) (o := o) (oF := oF) (fF := upd fF fr.length (nI kd)) (pF := upd pF fr.length 0) (bF := bF) (aF := aF) (qF := qF) (cs := cs') (cv := cv') (b := b) (I0 := I0) (J0 := J0) (cs0 := cs0) (cv0 := cv0) (hi hk) hT g8 g9 (by rw [List.length_append]; exact g38) g39 g41 g30 (mFr_set (mFr_low hF) (fun j hj => ⟨if_neg (by omega), if_neg (by omega), rfl, rfl, rfl⟩) ⟨if_pos rfl, if_pos rfl, f3, f4, fun _ => f5 (by omega)⟩) gO gC gK (by omega) (by rw [List.length_append]; exact gon) go7 hn.2.2.2.2.2.2.1 hn.2.2.2.2.2.2.2.1 gP hn.2.2.1
    rw [d1, xs_bd] at hd
    exact ⟨_, mLp_go N hI0.2.2.1 hd d2, d3 0⟩
theorem s_close (hN : 5000 ≤ N) (hA : mAh N tF K St V E nm sz n) {i o pc : Nat} {fr : List FR} {t0 t : FR} {P R C : List Nat} {I : Nat → Int32} {J : Nat → Int64} {fF pF bF aF oF cs cv qF : Nat → Int32} (h : mR K St V E nm sz n b I0 J0 cs0 cv0 1 i (fr ++ [t0] ++ [t]) (P ++ R.reverse) C (o + pp_ns R) (I, J, fF, pF, bF, aF, oF, cs, cv, qF)) (h12 : I 12 = -1) (ht1 : t.1 = 2 ∨ t.1 = 4 ∨ t.1 = 5) {x : Int32} (hx : x = if t.1 = 5 then 93 else 41) (hp2 : t.2.1 ≤ 2) (hka : t.2.1 = 2 ∨ ¬ pp_ar (K i)) (hkt : pp_kt t.1 = true → ¬ t.2.1 = 0 ∧ ¬ K i = 319 ∧ ¬ K i = 318) (hrk : ∀ q, q ∈ R → 1 ≤ pp_rk q) (ht : mTop 1 t P) (hi : K i = x → i + 1 < n) (hpc : t.1 = 4 → t.2.2.2.2 = pp_so pc ∧ (pc = 20322 ∨ pc = 20323 ∨ pc = 20317)) :
    (¬ K i = x → ∃ y, mEnd N tF 2 (I, J, fF, pF, bF, aF, oF, cs, cv, qF) y ∧ mDe b I0 J0 cs0 cv0 1 (pp_pl K St V 1 i) y) ∧ (K i = x → ∃ y, mTo N tF 1 (I, J, fF, pF, bF, aF, oF, cs, cv, qF) y ∧ ∃ o', o = o' + 1 ∧ mR K St V E nm sz n b I0 J0 cs0 cv0 1 (i + 1) (fr ++ [if t.1 = 5 then (t0.1, 2, t0.2.2.1, t0.2.2.2.1, t0.2.2.2.2) else t0]) P (C ++ R ++ (if t.1 = 4 then [pc] else [])) o' y) := by
  obtain ⟨hT0, hI0, hF, hO0, hC0, hK0, hn⟩ := mR_get h
  obtain ⟨f1, f2, f3, f4, f5⟩ := mFr_top hF
  have hlen : (fr ++ [t0]).length = fr.length + 1 := by rw [List.length_append]; rfl
  have hd : fX12_goesOn N I J fF pF aF oF cs cv tF bF qF = fX12_goesOn_b531 N aF tF qF (I, J, fF, pF, oF, cs, cv, bF, nI (fr ++ [t0]).length, nI t.1, x) := by
    rw [g_422 N h h12 (by omega) hp2 hka hkt]
    dsimp only [fX12_goesOn_b422]
    subst hx
    rcases ht1 with z | z | z
    · rw [z, if_pos (by decide), if_neg (show ¬ nI 2 = 3 by decide), if_neg (show ¬ nI 2 = 6 by decide), if_neg (show ¬ nI 2 = 5 by decide)]; rfl
    · rw [z, if_pos (by decide), if_neg (show ¬ nI 4 = 3 by decide), if_neg (show ¬ nI 4 = 6 by decide), if_neg (show ¬ nI 4 = 5 by decide)]; rfl
    · rw [z, if_pos (by decide), if_neg (show ¬ nI 5 = 3 by decide), if_neg (show ¬ nI 5 = 6 by decide), if_pos (show nI 5 = 5 from rfl)]; rfl
  have hsg : ∃ c, mSg c ∧ x = nI c := by
    subst hx
    by_cases z : t.1 = 5
    · rw [if_pos z]; exact ⟨93, by unfold mSg; omega, rfl⟩
    · rw [if_neg z]; exact ⟨41, by unfold mSg; omega, rfl⟩
  obtain ⟨c, hc1, hc2⟩ := hsg
  dsimp only [fX12_goesOn_b531] at hd
  refine ⟨fun hk => ?_, fun hk => ?_⟩
  · rw [m_sgF N hT0 h12 c hc1 hc2 hk, xs_bd, if_pos rfl, m_blame N hI0.1, xs_bd] at hd
    dsimp only [fX12_goesOn_b546] at hd
    rw [if_neg (m_8n _ _ (by decide))] at hd
    refine ⟨_, mLp_goD N hI0.2.2.1 hd, rfl, ?_, mKeep_up (mKeep_up hK0 (by unfold mzz; omega)) (by unfold mzz; omega)⟩
    show I 4 = _
    rw [pp_pl_st hT0 h12]
  · obtain ⟨I', cs', cv', e1, hT, g8, g9, g42, g38, g39, g41, g30, gO, gC, gK, gn, g12, g4, gon, go7, gP, gfl⟩ := s_joins N hN (r := 1) (by decide) h hrk ht
    rw [hlen] at gon gfl
    have h31 : I' 31 = nI b := (gK.1 31 (by unfold mzz; omega)).trans hn.2.2.2.2.2.2.2.1
    obtain ⟨o', rfl⟩ : ∃ o', o = o' + 1 := ⟨o - 1, by omega⟩
    rw [m_sgT N hT0 h12 c hc1 hc2 hk, xs_bd, if_neg (by decide)] at hd
    dsimp only [fX12_goesOn_b546] at hd
    rw [if_pos (by rw [hI0.1]; decide), show fX12_joins N I aF oF cs cv 1 = some (I', cs', cv') from e1, xs_bd] at hd
    dsimp only at hd
    have g38' : I' 38 - 1 = nI (fr.length + 1) := by rw [g38, hlen, nI_pred]
    have g39' : I' 39 - 1 = nI o' := by rw [g39, nI_pred]
    have hFl := mFr_low hF
    obtain ⟨k1, k2, k3, k4, k5⟩ := mFr_top hFl
    -- the codes
    have step : ∃ I3 cs3 cv3, fX12_goesOn N I J fF pF aF oF cs cv tF bF qF = fX12_goesOn_b596 N aF tF qF (I3, J, fF, pF, oF, cs3, cv3, bF, nI t.1) ∧ mTok K St V E nm sz i I3 J ∧ I3 8 = 0 ∧ I3 9 = -1 ∧ I3 42 = nI 1 ∧ I3 38 = nI (fr.length + 1) ∧ I3 39 = nI o' ∧ I3 41 = nI P.length ∧ I3 30 = nI (C ++ R ++ (if t.1 = 4 then [pc] else [])).length ∧ mCd b (C ++ R ++ (if t.1 = 4 then [pc] else [])) cs3 cv3 ∧ mKeep b I0 J0 cs0 cv0 I3 J cs3 cv3 ∧ (C ++ R ++ (if t.1 = 4 then [pc] else [])).length + P.length ≤ i + 1 := by
      by_cases z : t.1 = 4
      · obtain ⟨p1, p2⟩ := hpc z
        have hi1 := hi hk
        have hi2 := hn.2.2.1
        rw [z, if_pos (show nI 4 = 4 from rfl), xs_ald (by rw [hlen]; omega) (by decide), xs_bd, f5 (by omega), p1, m_add N (b := b) (nc := (C ++ R).length) (show (va_up (va_up I' 38 (I' 38 - 1)) 39 (I' 39 - 1)) 31 = nI b from h31) (show (va_up (va_up I' 38 (I' 38 - 1)) 39 (I' 39 - 1)) 30 = nI (C ++ R).length from g30) hn.2.2.2.2.2.2.1 (by omega), xs_bd] at hd
        rw [if_pos z, z]
        refine ⟨_, _, _, hd, hT, g8, g9, g42, g38', g39', g41, ?_, mCd_snoc gC ⟨0, fun y => absurd y (pp_so_rel (Or.inr p2)).2, (pp_so_rel (Or.inr p2)).1⟩, mKeep_cd (mKeep_up (mKeep_up (mKeep_up gK (by unfold mzz; omega)) (by unfold mzz; omega)) (by unfold mzz; omega)) (by omega), ?_⟩
        · rw [List.length_append (as := C ++ R)]; rfl
        · rw [List.length_append (as := C ++ R)]; show (C ++ R).length + 1 + P.length ≤ i + 1; omega
      · rw [if_neg (show ¬ nI t.1 = (4 : Int32) from fun y => z ((nI_eq (b := 4) (by omega) (by omega)).mp y))] at hd
        rw [if_neg z, List.append_nil]
        exact ⟨_, _, _, hd, hT, g8, g9, g42, g38', g39', g41, g30, gC, mKeep_up (mKeep_up gK (by unfold mzz; omega)) (by unfold mzz; omega), by omega⟩
    obtain ⟨I3, cs3, cv3, hd, j1, j8, j9, j42, j38, j39, j41, j30, jC, jK, jn⟩ := step
    dsimp only [fX12_goesOn_b596] at hd
    by_cases z : t.1 = 5
    · rw [z, if_pos (show nI 5 = 5 from rfl), j38, nI_pred, xs_ast (by omega) (by decide), xs_bd] at hd
      dsimp only [fX12_goesOn_b613] at hd
      obtain ⟨I2, J2, d1, d2, -, d3⟩ := mR_ah N hA (I := I3) (J := J) (fr := fr ++ [(t0.1, 2, t0.2.2.1, t0.2.2.2.1, t0.2.2.2.2)]) (P := P) (C := C ++ R ++ (if t.1 = 4 then [pc] else [])) (o := o') (oF := oF) (fF := fF) (pF := upd pF fr.length 2) (bF := bF) (aF := aF) (qF := qF) (cs := cs3) (cv := cv3) (b := b) (I0 := I0) (J0 := J0) (cs0 := cs0) (cv0 := cv0) (hi hk) j1 j8 j9 (by rw [List.length_append]; exact j38) j39 j41 j30 (mFr_set (mFr_low hFl) (fun j hj => ⟨rfl, if_neg (by omega), rfl, rfl, rfl⟩) ⟨k1, if_pos rfl, k3, k4, k5⟩) gO jC jK jn (by rw [List.length_append]; show o' + 1 = fr.length + 1 + pp_ns P; omega) (by omega) hn.2.2.2.2.2.2.1 hn.2.2.2.2.2.2.2.1 gP hn.2.2.1
      rw [d1, xs_bd] at hd
      refine ⟨_, mLp_go N hI0.2.2.1 hd d2, o', rfl, ?_⟩
      rw [if_pos z]; exact d3 1 j42
    · rw [if_neg (show ¬ nI t.1 = (5 : Int32) from fun y => z ((nI_eq (b := 5) (by omega) (by omega)).mp y))] at hd
      dsimp only [fX12_goesOn_b613] at hd
      obtain ⟨I2, J2, d1, d2, -, d3⟩ := mR_ah N hA (I := I3) (J := J) (fr := fr ++ [t0]) (P := P) (C := C ++ R ++ (if t.1 = 4 then [pc] else [])) (o := o') (oF := oF) (fF := fF) (pF := pF) (bF := bF) (aF := aF) (qF := qF) (cs := cs3) (cv := cv3) (b := b) (I0 := I0) (J0 := J0) (cs0 := cs0) (cv0 := cv0) (hi hk) j1 j8 j9 (by rw [List.length_append]; exact j38) j39 j41 j30 hFl gO jC jK jn (by rw [List.length_append]; show o' + 1 = fr.length + 1 + pp_ns P; omega) (by omega) hn.2.2.2.2.2.2.1 hn.2.2.2.2.2.2.2.1 gP hn.2.2.1
      rw [d1, xs_bd] at hd
      refine ⟨_, mLp_go N hI0.2.2.1 hd d2, o', rfl, ?_⟩
      rw [if_neg z]; exact d3 1 j42
end
