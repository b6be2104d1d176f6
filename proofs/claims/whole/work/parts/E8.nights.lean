/-! acts: nights, chance -/
section
variable {H : PH} {m ro ta m' ro' ta' : Nat → Nat} {U U' : PU} {K : PK} {KR KR' : Nat → Nat → Nat} {W : Nat → Nat → Nat → Nat} {sd sd' : Nat} {T Im : PT} {rf : Nat → Int32} {f p : Int32} {b : Nat} {I I' : Nat → Int32} {J J' : Nat → Int64} {A A' : Nat → Nat → Int32} {B B' : Nat → Nat → Int64}
theorem RM_act2 (h : RMb b H m ro ta U K KR W sd T Im rf f p I J A B) (hI : ∀ i, i ≠ 54 → i ≠ 55 → I' i = I i) (hL : mLay H 0 m' ro' ta' (min 40 (m' 5)) (AX A')) (hK : mKp 0 (m' 5) KR' (AX A')) (hU : mU H U' KR' I' (AX A')) (hA : ∀ j, ¬ ((45 ≤ j ∧ j ≤ 53) ∨ j = 58 ∨ j = 59) → A' j = A j) (hJ : J' 56 = lN sd') (h28 : B' 28 = B 28) (h29 : B' 29 = B 29) : RMb b H m' ro' ta' U' K KR' W sd' T Im rf f p I' J' A' B' := by
  obtain ⟨⟨a0, a01, a02⟩, a2, a3, a4, a5, a6, a7, a8, a9, a10, a11, a12, a13, a14⟩ := h
  have e1 : AY A' = AY A := by
    unfold AY
    rw [hA 24 (by omega), hA 25 (by omega), hA 26 (by omega), hA 27 (by omega), hA 14 (by omega), hA 18 (by omega), hA 21 (by omega), hA 22 (by omega), hA 20 (by omega)]
  unfold RMb
  rw [e1, hA 63 (by omega), hA 64 (by omega), hA 65 (by omega), hA 0 (by omega), hA 68 (by omega), hA 17 (by omega), hA 44 (by omega), h28, h29]
  refine ⟨⟨a0, (hI 13 (by decide) (by decide)).trans a01, a02⟩, ?_, hL, hK, hU, ⟨(hI 62 (by decide) (by decide)).trans a6.1, a6.2⟩, ⟨(hI 1 (by decide) (by decide)).trans a7.1, a7.2⟩, ⟨(hI 69 (by decide) (by decide)).trans a8.1, a8.2⟩, hJ, (hI 10 (by decide) (by decide)).trans a10, (hI 11 (by decide) (by decide)).trans a11, a12, a13, a14⟩
  unfold mFl at a2 ⊢
  rw [hI 43 (by decide) (by decide)]; exact a2
theorem RM_B (h : RMb b H m ro ta U K KR W sd T Im rf f p I J A B) (h28 : B' 28 = B 28) (h29 : B' 29 = B 29) : RMb b H m ro ta U K KR W sd T Im rf f p I J A B' := by
  unfold RMb at h ⊢
  rw [h28, h29]; exact h
end
section
variable (N : Nat) {t : Nat} {C P Q V : Nat → Nat → Int32} {n : Nat → Nat} {I : Nat → Int32} {J : Nat → Int64} {A : Nat → Nat → Int32} {B : Nat → Nat → Int64}
theorem x_nights (hN : 5000 ≤ N) (h : RR t C P Q V n I J A B) (p1 : Int32) : ∃ a c5 c8 P' Q' V' c3 c25 c20 c21 c34 i q45 q46 q47 q48 q49 q50 q52 q51 q53 q44 q58 q57 q59, fX11_nights N (C 10) (C 5) (C 8) P Q V (C 6) (C 7) (C 3) (C 25) (C 20) (C 17) (C 21) (C 19) (C 15) (C 13) (C 18) (C 34) (n 0) (n 2) (n 1) p1 = some (a, c5, c8, P', Q', V', c3, c25, c20, c21, c34) ∧ fX12_nights N I (A 45) (A 46) (A 47) (A 48) (A 49) (A 50) (A 52) (A 51) (A 53) (A 44) (A 24) (A 58) (A 25) (B 57) (A 26) (A 27) (A 14) (A 21) (A 22) (A 18) (A 59) (A 20) p1 = some (a, i, q45, q46, q47, q48, q49, q50, q52, q51, q53, q44, q58, q57, q59) ∧ RR t (va_up (va_up (va_up (va_up (va_up (va_up (va_up (C) 5 c5) 8 c8) 3 c3) 25 c25) 20 c20) 21 c21) 34 c34) P' Q' V' n i J (va_up (va_up (va_up (va_up (va_up (va_up (va_up (va_up (va_up (va_up (va_up (va_up (A) 45 q45) 46 q46) 47 q47) 48 q48) 49 q49) 50 q50) 52 q52) 51 q51) 53 q53) 44 q44) 58 q58) 59 q59) (va_up B 57 q57) := by
  obtain ⟨b, H, m, ro, ta, U, K, KR, W, sd, T, Im, rf, f, p, hp, hc, hm, ht⟩ := h
  have hp0 := hp
  obtain ⟨hs, h5, hUo, hK, hKR, hsd, hT, hTl, hIm⟩ := hp
  have hc0 := hc
  obtain ⟨c1, c2, c3, c4, c5, c6, c7, c8, c9, c10, c11, c12, c13⟩ := hc
  have hm0 := hm
  obtain ⟨a1, a2, a3, a4, a5, a6, a7, a8, a9, a10, a11, a12, a13, a14⟩ := hm
  obtain ⟨h200, hE, hP, -⟩ := hs.b
  cases c : p_ahead (H.1 0) (m 0) p1 1 60 with
  | false =>
    refine ⟨_, _, _, _, _, _, _, _, _, _, _, _, _, _, _, _, _, _, _, _, _, _, _, _, _, c_nights_no N (pastI := C 8) (pastmP := P) (pastmU := Q) (pastmV := V) (dv_refusedF := C 3) (dv_heardAheadF := C 25) (course_valuesF := C 20) (course_stackF := C 21) (past_keptRowsF := C 34) hs c1 c3 p1 c, m_nights_no N (hf := A 59) (ask := A 58) (stk := B 57) (mm_refusedF := A 44) hs a1 a2 a3 p1 c, b, H, m, ro, ta, U, K, KR, W, sd, T, Im, rf1 rf 2, f, p, hp0, RC_r hc0 (fun j hj h3 => ?_) (pR_up c12 (by decide)), RM_B (RM_r hm0 (fun j hj => ?_) (pR_up a12 (by decide))) rfl rfl, ht⟩
    · unfold cScr at hj
      by_cases z34 : j = 34
      · subst z34; rfl
      · rw [va_up_ne _ _ z34, va_up_ne _ _ (by omega), va_up_ne _ _ (by omega), va_up_ne _ _ (by omega), va_up_ne _ _ h3]
        by_cases z8 : j = 8
        · subst z8; rfl
        · rw [va_up_ne _ _ z8]
          by_cases z5 : j = 5
          · subst z5; rfl
          · exact va_up_ne _ _ z5
    · by_cases z59 : j = 59
      · subst z59; rfl
      · rw [va_up_ne _ _ z59]
        by_cases z58 : j = 58
        · subst z58; rfl
        · rw [va_up_ne _ _ z58, va_up_ne _ _ hj]
          by_cases z53 : j = 53
          · subst z53; rfl
          · rw [va_up_ne _ _ z53]
            by_cases z51 : j = 51
            · subst z51; rfl
            · rw [va_up_ne _ _ z51]
              by_cases z52 : j = 52
              · subst z52; rfl
              · rw [va_up_ne _ _ z52]
                by_cases z50 : j = 50
                · subst z50; rfl
                · rw [va_up_ne _ _ z50]
                  by_cases z49 : j = 49
                  · subst z49; rfl
                  · rw [va_up_ne _ _ z49]
                    by_cases z48 : j = 48
                    · subst z48; rfl
                    · rw [va_up_ne _ _ z48]
                      by_cases z47 : j = 47
                      · subst z47; rfl
                      · rw [va_up_ne _ _ z47]
                        by_cases z46 : j = 46
                        · subst z46; rfl
                        · rw [va_up_ne _ _ z46]
                          by_cases z45 : j = 45
                          · subst z45; rfl
                          · exact va_up_ne _ _ z45
  | true =>
    obtain ⟨o1, kk, o3, o4, o5, o6⟩ := p_ahead_yes c
    have o2 : m 0 + p1.toNatClampNeg ≤ 999 := by rw [o3, nI_clamp (by omega)]; exact o6
    have y := hs.y o1
    have ok := p_lvm_ok (ro := ro) (ta := ta) y.1 y.2 h5 p1.toNatClampNeg o2
    obtain ⟨n1, n2, n3, n4, n5, n6, n7, n8, n9, e1, e2, e3, e6⟩ := c_nights_yes N hN (dv_refusedF := C 3) (dv_heardAheadF := C 25) (course_valuesF := C 20) (course_stackF := C 21) hs h5 hUo.1 c1 c3 c4 c5 p1 c
    obtain ⟨i', X', s1, s2, g1, g2, g3, g4, g5⟩ := m_nights_yes N hN (hf := A 59) (ask := A 58) (stk := B 57) (mm_refusedF := A 44) hs h5 hUo a1 a2 a3 a4 a5 p1 c
    have pu := pU_push_ok (ro := ro) (ta := ta) hUo y.2 h5
    refine ⟨_, _, _, _, _, _, _, _, _, _, _, _, _, _, _, _, _, _, _, _, _, _, _, _, _, e1, g1, b, H, (p_lvm H m ro ta p1.toNatClampNeg), ro, ta, pU_push m ro ta U, K, (p_lvk H m ro ta KR p1.toNatClampNeg), W, sd, T, Im, rf, f, p, ⟨Or.inl ⟨y.1, ok.1⟩, ok.2.2.2.1, ⟨pu.1, fun k hk => ⟨(pu.2.1 k hk).1, (pu.2.1 k hk).2.1, Nat.le_trans (pu.2.1 k hk).2.2 ok.2.2.2.2⟩, pu.2.2⟩, hK, p_lvk_ok y.1 y.2 h5 hKR _ o2, hsd, hT, hTl, hIm⟩, ⟨c1, c2, e2, e3, e6, c6, c7, c8, c9, c10, c11, c12, c13⟩, RM_act2 hm0 g2 g3 g4 g5 (fun j hj => ?_) a9 rfl rfl, ht⟩
    rw [va_up_ne _ _ (by omega), va_up_ne _ _ (by omega)]
    by_cases z44 : j = 44
    · subst z44; rfl
    · rw [va_up_ne _ _ z44, va_up_ne _ _ (by omega), va_up_ne _ _ (by omega), va_up_ne _ _ (by omega), va_up_ne _ _ (by omega), va_up_ne _ _ (by omega), va_up_ne _ _ (by omega), va_up_ne _ _ (by omega), va_up_ne _ _ (by omega), va_up_ne _ _ (by omega)]
theorem x_chance (hN : 5000 ≤ N) (h : RR t C P Q V n I J A B) (p1 : Int32) : ∃ a c0 c5 c8 P' Q' V' c3 c25 c20 c21 c34 i jj q45 q46 q47 q48 q49 q50 q52 q51 q53 q44 q58 q57 q59, fX11_chance N (C 0) (C 10) (C 5) (C 8) P Q V (C 6) (C 7) (C 3) (C 25) (C 20) (C 17) (C 21) (C 19) (C 15) (C 13) (C 18) (C 34) (n 0) (n 2) (n 1) p1 = some (a, c0, c5, c8, P', Q', V', c3, c25, c20, c21, c34) ∧ fX12_chance N I J (A 45) (A 46) (A 47) (A 48) (A 49) (A 50) (A 52) (A 51) (A 53) (A 44) (A 17) (A 24) (A 58) (A 25) (B 57) (A 26) (A 27) (A 14) (A 21) (A 22) (A 18) (A 59) (A 20) p1 = some (a, i, jj, q45, q46, q47, q48, q49, q50, q52, q51, q53, q44, q58, q57, q59) ∧ RR t (va_up (va_up (va_up (va_up (va_up (va_up (va_up (va_up (C) 0 c0) 5 c5) 8 c8) 3 c3) 25 c25) 20 c20) 21 c21) 34 c34) P' Q' V' n i jj (va_up (va_up (va_up (va_up (va_up (va_up (va_up (va_up (va_up (va_up (va_up (va_up (A) 45 q45) 46 q46) 47 q47) 48 q48) 49 q49) 50 q50) 52 q52) 51 q51) 53 q53) 44 q44) 58 q58) 59 q59) (va_up B 57 q57) := by
  obtain ⟨b, H, m, ro, ta, U, K, KR, W, sd, T, Im, rf, f, p, hp, hc, hm, ht⟩ := h
  have hp0 := hp
  obtain ⟨hs, h5, hUo, hK, hKR, hsd, hT, hTl, hIm⟩ := hp
  have hc0 := hc
  obtain ⟨c1, c2, c3, c4, c5, c6, c7, c8, c9, c10, c11, c12, c13⟩ := hc
  have hm0 := hm
  obtain ⟨a1, a2, a3, a4, a5, a6, a7, a8, a9, a10, a11, a12, a13, a14⟩ := hm
  obtain ⟨h200, hE, hP, -⟩ := hs.b
  cases c : p_ahead (H.1 0) (m 0) p1 1 60 with
  | false =>
    refine ⟨_, _, _, _, _, _, _, _, _, _, _, _, _, _, _, _, _, _, _, _, _, _, _, _, _, _, _, c_chance_no N (pastI := C 8) (pastmP := P) (pastmU := Q) (pastmV := V) (dv_refusedF := C 3) (dv_heardAheadF := C 25) (course_valuesF := C 20) (course_stackF := C 21) (past_keptRowsF := C 34) (dvI := C 0) hs c1 c3 p1 c, m_chance_no N (hf := A 59) (ask := A 58) (stk := B 57) (mm_refusedF := A 44) (mm_coughToldF := A 17) (mmJ := J) hs a1 a2 a3 p1 c, b, H, m, ro, ta, U, K, KR, W, sd, T, Im, rf1 rf 2, f, p, hp0, RC_r hc0 (fun j hj h3 => ?_) (pR_up c12 (by decide)), RM_B (RM_r hm0 (fun j hj => ?_) (pR_up a12 (by decide))) rfl rfl, ht⟩
    · unfold cScr at hj
      by_cases z34 : j = 34
      · subst z34; rfl
      · rw [va_up_ne _ _ z34, va_up_ne _ _ (by omega), va_up_ne _ _ (by omega), va_up_ne _ _ (by omega), va_up_ne _ _ h3]
        by_cases z8 : j = 8
        · subst z8; rfl
        · rw [va_up_ne _ _ z8]
          by_cases z5 : j = 5
          · subst z5; rfl
          · rw [va_up_ne _ _ z5]
            by_cases z0 : j = 0
            · subst z0; rfl
            · exact va_up_ne _ _ z0
    · by_cases z59 : j = 59
      · subst z59; rfl
      · rw [va_up_ne _ _ z59]
        by_cases z58 : j = 58
        · subst z58; rfl
        · rw [va_up_ne _ _ z58, va_up_ne _ _ hj]
          by_cases z53 : j = 53
          · subst z53; rfl
          · rw [va_up_ne _ _ z53]
            by_cases z51 : j = 51
            · subst z51; rfl
            · rw [va_up_ne _ _ z51]
              by_cases z52 : j = 52
              · subst z52; rfl
              · rw [va_up_ne _ _ z52]
                by_cases z50 : j = 50
                · subst z50; rfl
                · rw [va_up_ne _ _ z50]
                  by_cases z49 : j = 49
                  · subst z49; rfl
                  · rw [va_up_ne _ _ z49]
                    by_cases z48 : j = 48
                    · subst z48; rfl
                    · rw [va_up_ne _ _ z48]
                      by_cases z47 : j = 47
                      · subst z47; rfl
                      · rw [va_up_ne _ _ z47]
                        by_cases z46 : j = 46
                        · subst z46; rfl
                        · rw [va_up_ne _ _ z46]
                          by_cases z45 : j = 45
                          · subst z45; rfl
                          · exact va_up_ne _ _ z45
  | true =>
    obtain ⟨o1, kk, o3, o4, o5, o6⟩ := p_ahead_yes c
    have o2 : m 0 + p1.toNatClampNeg ≤ 999 := by rw [o3, nI_clamp (by omega)]; exact o6
    have y := hs.y o1
    have ok := p_chm_ok (ro := ro) (ta := ta) (x := sd) y.1 y.2 h5 p1.toNatClampNeg o2
    obtain ⟨d0, n1, n2, n3, n4, n5, n6, n7, n8, n9, e1, e4, e5, e2, e3, e6⟩ := c_chance_yes N hN (dv_refusedF := C 3) (dv_heardAheadF := C 25) (course_valuesF := C 20) (course_stackF := C 21) hs h5 hUo.1 c1 c2 c3 hsd c9 c4 c5 p1 c
    obtain ⟨i', j', X', s1, s2, g1, g2, g6, g7, g3, g4, g5⟩ := m_chance_yes N hN (hf := A 59) (ask := A 58) (stk := B 57) (mm_refusedF := A 44) hs h5 hUo a13 hsd a9 a1 a2 a3 a4 a5 p1 c
    have pu := pU_push_ok (ro := ro) (ta := ta) hUo y.2 h5
    refine ⟨_, _, _, _, _, _, _, _, _, _, _, _, _, _, _, _, _, _, _, _, _, _, _, _, _, _, _, e1, g1, b, H, (p_chm H m ro ta sd p1.toNatClampNeg), ro, ta, pU_push m ro ta U, K, (p_chk H m ro ta sd KR p1.toNatClampNeg), W, (p_chx H sd p1.toNatClampNeg), T, Im, rf, f, p, ⟨Or.inl ⟨y.1, ok.1⟩, ok.2.2.2.1, ⟨pu.1, fun k hk => ⟨(pu.2.1 k hk).1, (pu.2.1 k hk).2.1, Nat.le_trans (pu.2.1 k hk).2.2 ok.2.2.2.2⟩, pu.2.2⟩, hK, p_chk_ok y.1 y.2 h5 hKR _ o2, p_chx_lt hsd _, hT, hTl, hIm⟩, ⟨c1, c2, e2, e3, e6, c6, c7, c8, e5, (e4 13 (by decide)).trans c10, (e4 14 (by decide)).trans c11, c12, c13⟩, RM_act2 hm0 g2 g3 g4 g5 (fun j hj => ?_) g7 rfl rfl, ht⟩
    rw [va_up_ne _ _ (by omega), va_up_ne _ _ (by omega)]
    by_cases z44 : j = 44
    · subst z44; rfl
    · rw [va_up_ne _ _ z44, va_up_ne _ _ (by omega), va_up_ne _ _ (by omega), va_up_ne _ _ (by omega), va_up_ne _ _ (by omega), va_up_ne _ _ (by omega), va_up_ne _ _ (by omega), va_up_ne _ _ (by omega), va_up_ne _ _ (by omega), va_up_ne _ _ (by omega)]
end
