/-! acts: hush, sit, please, undo -/
section
variable {H : PH} {m ro ta m' ro' ta' : Nat → Nat} {U U' : PU} {K : PK} {KR : Nat → Nat → Nat} {W : Nat → Nat → Nat → Nat} {sd : Nat} {T Im : PT} {rf : Nat → Int32} {f p : Int32} {b : Nat} {I I' : Nat → Int32} {J : Nat → Int64} {A A' : Nat → Nat → Int32} {B : Nat → Nat → Int64}
theorem RM_act (h : RMb b H m ro ta U K KR W sd T Im rf f p I J A B) (hI : ∀ i, i ≠ 54 → i ≠ 55 → I' i = I i) (hL : mLay H 0 m' ro' ta' (min 40 (m' 5)) (AX A')) (hK : mKp 0 (m' 5) KR (AX A')) (hU : mU H U' KR I' (AX A')) (hA : ∀ j, ¬ (45 ≤ j ∧ j ≤ 53) → A' j = A j) : RMb b H m' ro' ta' U' K KR W sd T Im rf f p I' J A' B := by
  obtain ⟨⟨a0, a01, a02⟩, a2, a3, a4, a5, a6, a7, a8, a9, a10, a11, a12, a13, a14⟩ := h
  have e1 : AY A' = AY A := by
    unfold AY
    rw [hA 24 (by omega), hA 25 (by omega), hA 26 (by omega), hA 27 (by omega), hA 14 (by omega), hA 18 (by omega), hA 21 (by omega), hA 22 (by omega), hA 20 (by omega)]
  unfold RMb
  rw [e1, hA 63 (by omega), hA 64 (by omega), hA 65 (by omega), hA 0 (by omega), hA 68 (by omega), hA 17 (by omega), hA 44 (by omega)]
  refine ⟨⟨a0, (hI 13 (by decide) (by decide)).trans a01, a02⟩, ?_, hL, hK, hU, ⟨(hI 62 (by decide) (by decide)).trans a6.1, a6.2⟩, ⟨(hI 1 (by decide) (by decide)).trans a7.1, a7.2⟩, ⟨(hI 69 (by decide) (by decide)).trans a8.1, a8.2⟩, a9, (hI 10 (by decide) (by decide)).trans a10, (hI 11 (by decide) (by decide)).trans a11, a12, a13, a14⟩
  unfold mFl at a2 ⊢
  rw [hI 43 (by decide) (by decide)]; exact a2
end
theorem p_dig_e6 {x : Int32} (h : p_dig x = true) : ∃ k : Nat, x = nI k ∧ k ≤ 9 := by
  have h := of_decide_eq_true h
  exact ⟨x.toInt.toNat, by rw [fa_eq, nI_toInt (by have := fb_rng x; omega)]; omega, by omega⟩
section
variable (N : Nat) {t : Nat} {C P Q V : Nat → Nat → Int32} {n : Nat → Nat} {I : Nat → Int32} {J : Nat → Int64} {A : Nat → Nat → Int32} {B : Nat → Nat → Int64}
theorem x_hush (hN : 5000 ≤ N) (h : RR t C P Q V n I J A B) (p1 : Int32) : ∃ a c5 c8 P' Q' V' c3 i q49 q45 q46 q47 q48 q50 q52 q51 q53 q44, fX11_hush N (C 10) (C 5) (C 8) P Q V (C 6) (C 7) (C 3) p1 = some (a, c5, c8, P', Q', V', c3) ∧ fX12_hush N I (A 49) (A 45) (A 46) (A 47) (A 48) (A 50) (A 52) (A 51) (A 53) (A 44) p1 = some (a, i, q49, q45, q46, q47, q48, q50, q52, q51, q53, q44) ∧ RR t (va_up (va_up (va_up (C) 5 c5) 8 c8) 3 c3) P' Q' V' n i J (va_up (va_up (va_up (va_up (va_up (va_up (va_up (va_up (va_up (va_up (A) 49 q49) 45 q45) 46 q46) 47 q47) 48 q48) 50 q50) 52 q52) 51 q51) 53 q53) 44 q44) B := by
  obtain ⟨b, H, m, ro, ta, U, K, KR, W, sd, T, Im, rf, f, p, hp, hc, hm, ht⟩ := h
  have hp0 := hp
  obtain ⟨hs, h5, hUo, hK, hKR, hsd, hT, hTl, hIm⟩ := hp
  have hc0 := hc
  obtain ⟨c1, c2, c3, c4, c5, c6, c7, c8, c9, c10, c11, c12, c13⟩ := hc
  have hm0 := hm
  obtain ⟨a1, a2, a3, a4, a5, a6, a7, a8, a9, a10, a11, a12, a13, a14⟩ := hm
  obtain ⟨h200, hE, hP, -⟩ := hs.b
  cases c : pa_hush H m p1 with
  | false =>
    refine ⟨_, _, _, _, _, _, _, _, _, _, _, _, _, _, _, _, _, _, c_hush_no N (pastI := C 8) (pastmP := P) (pastmQ := Q) (pastmV := V) (dv_refusedF := C 3) c1.1 h200 c3 p1 c, m_hush_no N (mm_refusedF := A 44) a2 a3 p1 c, b, H, m, ro, ta, U, K, KR, W, sd, T, Im, rf1 rf 3, f, p, hp0, RC_r hc0 (fun j hj h3 => ?_) (pR_up c12 (by decide)), RM_r hm0 (fun j hj => ?_) (pR_up a12 (by decide)), ht⟩
    · rw [va_up_ne _ _ h3]
      by_cases z8 : j = 8
      · subst z8; rfl
      · rw [va_up_ne _ _ z8]
        by_cases z5 : j = 5
        · subst z5; rfl
        · exact va_up_ne _ _ z5
    · rw [va_up_ne _ _ hj]
      by_cases z53 : j = 53
      · subst z53; rfl
      · rw [va_up_ne _ _ z53]
        by_cases z51 : j = 51
        · subst z51; rfl
        · rw [va_up_ne _ _ z51]
          by_cases z52 : j = 52
          · subst z52; rfl
          · rw [va_up_ne _ _ z52]
            by_cases z50 : j = 50
            · subst z50; rfl
            · rw [va_up_ne _ _ z50]
              by_cases z48 : j = 48
              · subst z48; rfl
              · rw [va_up_ne _ _ z48]
                by_cases z47 : j = 47
                · subst z47; rfl
                · rw [va_up_ne _ _ z47]
                  by_cases z46 : j = 46
                  · subst z46; rfl
                  · rw [va_up_ne _ _ z46]
                    by_cases z45 : j = 45
                    · subst z45; rfl
                    · rw [va_up_ne _ _ z45]
                      by_cases z49 : j = 49
                      · subst z49; rfl
                      · exact va_up_ne _ _ z49
  | true =>
    have cc := of_decide_eq_true c
    obtain ⟨k, hk, hk9⟩ := p_dig_e6 cc.2.1
    have ek : p1.toNatClampNeg = k := by rw [hk]; exact nI_clamp (by omega)
    have y := hs.y cc.1
    obtain ⟨n1, n2, n3, n4, n5, e1, e2, e3⟩ := c_hush_yes N (dv_refusedF := C 3) c1.1 h200 hE hP c3 c4 hUo.1 p1 c
    obtain ⟨i', X', g1, g2, g3, g4, g5⟩ := m_hush_yes N (mm_refusedF := A 44) hN hE hP a2 a3 a4 a5 hUo.1 p1 c
    refine ⟨_, _, _, _, _, _, _, _, _, _, _, _, _, _, _, _, _, _, e1, g1, b, H, (va_up m 4 p1.toNatClampNeg), ro, ta, pU_push m ro ta U, K, KR, W, sd, T, Im, rf, f, p, ⟨Or.inl ⟨y.1, y.2.1, y.2.2.1, y.2.2.2.1, y.2.2.2.2.1, by show p1.toNatClampNeg ≤ 9; omega⟩, h5, pU_push_ok hUo y.2 h5, hK, hKR, hsd, hT, hTl, hIm⟩, ⟨c1, c2, e2, e3, c5, c6, c7, c8, c9, c10, c11, c12, c13⟩, RM_act hm0 g2 g3 g4 g5 (fun j hj => ?_), ht⟩
    by_cases z44 : j = 44
    · subst z44; rfl
    · rw [va_up_ne _ _ z44, va_up_ne _ _ (by omega), va_up_ne _ _ (by omega), va_up_ne _ _ (by omega), va_up_ne _ _ (by omega), va_up_ne _ _ (by omega), va_up_ne _ _ (by omega), va_up_ne _ _ (by omega), va_up_ne _ _ (by omega), va_up_ne _ _ (by omega)]
theorem x_sit (hN : 5000 ≤ N) (h : RR t C P Q V n I J A B) (p1 p2 : Int32) : ∃ a c6 c8 P' Q' V' c3 i q50 q45 q46 q47 q48 q49 q52 q51 q53 q44, fX11_sit N (C 10) (C 5) (C 6) (C 8) P Q V (C 7) (C 3) p1 p2 = some (a, c6, c8, P', Q', V', c3) ∧ fX12_sit N I (A 18) (A 50) (A 45) (A 46) (A 47) (A 48) (A 49) (A 52) (A 51) (A 53) (A 44) p1 p2 = some (a, i, q50, q45, q46, q47, q48, q49, q52, q51, q53, q44) ∧ RR t (va_up (va_up (va_up (C) 6 c6) 8 c8) 3 c3) P' Q' V' n i J (va_up (va_up (va_up (va_up (va_up (va_up (va_up (va_up (va_up (va_up (A) 50 q50) 45 q45) 46 q46) 47 q47) 48 q48) 49 q49) 52 q52) 51 q51) 53 q53) 44 q44) B := by
  obtain ⟨b, H, m, ro, ta, U, K, KR, W, sd, T, Im, rf, f, p, hp, hc, hm, ht⟩ := h
  have hp0 := hp
  obtain ⟨hs, h5, hUo, hK, hKR, hsd, hT, hTl, hIm⟩ := hp
  have hc0 := hc
  obtain ⟨c1, c2, c3, c4, c5, c6, c7, c8, c9, c10, c11, c12, c13⟩ := hc
  have hm0 := hm
  obtain ⟨a1, a2, a3, a4, a5, a6, a7, a8, a9, a10, a11, a12, a13, a14⟩ := hm
  obtain ⟨h200, hE, hP, -⟩ := hs.b
  cases c : pa_sit H ro p1 p2 with
  | false =>
    refine ⟨_, _, _, _, _, _, _, _, _, _, _, _, _, _, _, _, _, _, c_sit_no N (pastI := C 8) (pastmP := P) (pastmQ := Q) (pastmV := V) (dv_refusedF := C 3) c1.2.1 hE c3 p1 p2 c, m_sit_no N (mm_refusedF := A 44) a1 hE a3 p1 p2 c, b, H, m, ro, ta, U, K, KR, W, sd, T, Im, rf1 rf 3, f, p, hp0, RC_r hc0 (fun j hj h3 => ?_) (pR_up c12 (by decide)), RM_r hm0 (fun j hj => ?_) (pR_up a12 (by decide)), ht⟩
    · rw [va_up_ne _ _ h3]
      by_cases z8 : j = 8
      · subst z8; rfl
      · rw [va_up_ne _ _ z8]
        by_cases z6 : j = 6
        · subst z6; rfl
        · exact va_up_ne _ _ z6
    · rw [va_up_ne _ _ hj]
      by_cases z53 : j = 53
      · subst z53; rfl
      · rw [va_up_ne _ _ z53]
        by_cases z51 : j = 51
        · subst z51; rfl
        · rw [va_up_ne _ _ z51]
          by_cases z52 : j = 52
          · subst z52; rfl
          · rw [va_up_ne _ _ z52]
            by_cases z49 : j = 49
            · subst z49; rfl
            · rw [va_up_ne _ _ z49]
              by_cases z48 : j = 48
              · subst z48; rfl
              · rw [va_up_ne _ _ z48]
                by_cases z47 : j = 47
                · subst z47; rfl
                · rw [va_up_ne _ _ z47]
                  by_cases z46 : j = 46
                  · subst z46; rfl
                  · rw [va_up_ne _ _ z46]
                    by_cases z45 : j = 45
                    · subst z45; rfl
                    · rw [va_up_ne _ _ z45]
                      by_cases z50 : j = 50
                      · subst z50; rfl
                      · exact va_up_ne _ _ z50
  | true =>
    have cc := of_decide_eq_true c
    obtain ⟨k, hk, hk9⟩ := p_one_yes cc.1
    have y := hs.y (hs.ho (e := k) (Or.inl hk9))
    obtain ⟨n1, n2, n3, n4, n5, e1, e2, e3⟩ := c_sit_yes N (dv_refusedF := C 3) c1.2.1 hE hP c3 c4 hUo.1 p1 p2 c
    obtain ⟨i', X', g1, g2, g3, g4, g5⟩ := m_sit_yes N (mm_refusedF := A 44) hN a1 hE hP a3 a4 a5 hUo.1 p1 p2 c
    refine ⟨_, _, _, _, _, _, _, _, _, _, _, _, _, _, _, _, _, _, e1, g1, b, H, m, (va_up ro p1.toNatClampNeg p2.toNatClampNeg), ta, pU_push m ro ta U, K, KR, W, sd, T, Im, rf, f, p, ⟨hs, h5, pU_push_ok hUo y.2 h5, hK, hKR, hsd, hT, hTl, hIm⟩, ⟨c1, c2, e2, e3, c5, c6, c7, c8, c9, c10, c11, c12, c13⟩, RM_act hm0 g2 g3 g4 g5 (fun j hj => ?_), ht⟩
    by_cases z44 : j = 44
    · subst z44; rfl
    · rw [va_up_ne _ _ z44, va_up_ne _ _ (by omega), va_up_ne _ _ (by omega), va_up_ne _ _ (by omega), va_up_ne _ _ (by omega), va_up_ne _ _ (by omega), va_up_ne _ _ (by omega), va_up_ne _ _ (by omega), va_up_ne _ _ (by omega), va_up_ne _ _ (by omega)]
theorem x_please (hN : 5000 ≤ N) (h : RR t C P Q V n I J A B) (p1 p2 : Int32) : ∃ a c7 c8 P' Q' V' c3 i q51 q45 q46 q47 q48 q49 q50 q52 q53 q44, fX11_please N (C 10) (C 5) (C 7) (C 8) P Q V (C 6) (C 3) p1 p2 = some (a, c7, c8, P', Q', V', c3) ∧ fX12_please N I (A 21) (A 51) (A 45) (A 46) (A 47) (A 48) (A 49) (A 50) (A 52) (A 53) (A 44) p1 p2 = some (a, i, q51, q45, q46, q47, q48, q49, q50, q52, q53, q44) ∧ RR t (va_up (va_up (va_up (C) 7 c7) 8 c8) 3 c3) P' Q' V' n i J (va_up (va_up (va_up (va_up (va_up (va_up (va_up (va_up (va_up (va_up (A) 51 q51) 45 q45) 46 q46) 47 q47) 48 q48) 49 q49) 50 q50) 52 q52) 53 q53) 44 q44) B := by
  obtain ⟨b, H, m, ro, ta, U, K, KR, W, sd, T, Im, rf, f, p, hp, hc, hm, ht⟩ := h
  have hp0 := hp
  obtain ⟨hs, h5, hUo, hK, hKR, hsd, hT, hTl, hIm⟩ := hp
  have hc0 := hc
  obtain ⟨c1, c2, c3, c4, c5, c6, c7, c8, c9, c10, c11, c12, c13⟩ := hc
  have hm0 := hm
  obtain ⟨a1, a2, a3, a4, a5, a6, a7, a8, a9, a10, a11, a12, a13, a14⟩ := hm
  obtain ⟨h200, hE, hP, -⟩ := hs.b
  cases c : pa_please H ta p1 p2 with
  | false =>
    refine ⟨_, _, _, _, _, _, _, _, _, _, _, _, _, _, _, _, _, _, c_please_no N (pastI := C 8) (pastmP := P) (pastmQ := Q) (pastmV := V) (dv_refusedF := C 3) c1.2.2.1 hP c3 p1 p2 c, m_please_no N (mm_refusedF := A 44) a1 hP a3 p1 p2 c, b, H, m, ro, ta, U, K, KR, W, sd, T, Im, rf1 rf 3, f, p, hp0, RC_r hc0 (fun j hj h3 => ?_) (pR_up c12 (by decide)), RM_r hm0 (fun j hj => ?_) (pR_up a12 (by decide)), ht⟩
    · rw [va_up_ne _ _ h3]
      by_cases z8 : j = 8
      · subst z8; rfl
      · rw [va_up_ne _ _ z8]
        by_cases z7 : j = 7
        · subst z7; rfl
        · exact va_up_ne _ _ z7
    · rw [va_up_ne _ _ hj]
      by_cases z53 : j = 53
      · subst z53; rfl
      · rw [va_up_ne _ _ z53]
        by_cases z52 : j = 52
        · subst z52; rfl
        · rw [va_up_ne _ _ z52]
          by_cases z50 : j = 50
          · subst z50; rfl
          · rw [va_up_ne _ _ z50]
            by_cases z49 : j = 49
            · subst z49; rfl
            · rw [va_up_ne _ _ z49]
              by_cases z48 : j = 48
              · subst z48; rfl
              · rw [va_up_ne _ _ z48]
                by_cases z47 : j = 47
                · subst z47; rfl
                · rw [va_up_ne _ _ z47]
                  by_cases z46 : j = 46
                  · subst z46; rfl
                  · rw [va_up_ne _ _ z46]
                    by_cases z45 : j = 45
                    · subst z45; rfl
                    · rw [va_up_ne _ _ z45]
                      by_cases z51 : j = 51
                      · subst z51; rfl
                      · exact va_up_ne _ _ z51
  | true =>
    have cc := of_decide_eq_true c
    obtain ⟨k, hk, hk9⟩ := p_one_yes cc.1
    have y := hs.y (hs.ho (e := k) (Or.inr hk9))
    obtain ⟨n1, n2, n3, n4, n5, e1, e2, e3⟩ := c_please_yes N (dv_refusedF := C 3) c1.2.2.1 hE hP c3 c4 hUo.1 p1 p2 c
    obtain ⟨i', X', g1, g2, g3, g4, g5⟩ := m_please_yes N (mm_refusedF := A 44) hN a1 hE hP a3 a4 a5 hUo.1 p1 p2 c
    refine ⟨_, _, _, _, _, _, _, _, _, _, _, _, _, _, _, _, _, _, e1, g1, b, H, m, ro, (va_up ta p1.toNatClampNeg p2.toNatClampNeg), pU_push m ro ta U, K, KR, W, sd, T, Im, rf, f, p, ⟨hs, h5, pU_push_ok hUo y.2 h5, hK, hKR, hsd, hT, hTl, hIm⟩, ⟨c1, c2, e2, e3, c5, c6, c7, c8, c9, c10, c11, c12, c13⟩, RM_act hm0 g2 g3 g4 g5 (fun j hj => ?_), ht⟩
    by_cases z44 : j = 44
    · subst z44; rfl
    · rw [va_up_ne _ _ z44, va_up_ne _ _ (by omega), va_up_ne _ _ (by omega), va_up_ne _ _ (by omega), va_up_ne _ _ (by omega), va_up_ne _ _ (by omega), va_up_ne _ _ (by omega), va_up_ne _ _ (by omega), va_up_ne _ _ (by omega), va_up_ne _ _ (by omega)]
end
