/-! acts: undo -/
section
variable (N : Nat) {t : Nat} {C P Q V : Nat → Nat → Int32} {n : Nat → Nat} {I : Nat → Int32} {J : Nat → Int64} {A : Nat → Nat → Int32} {B : Nat → Nat → Int64}
theorem x_undo (hN : 5000 ≤ N) (h : RR t C P Q V n I J A B) : ∃ a c8 c5 c6 c7 c3 i q45 q46 q47 q48 q49 q50 q52 q51 q53 q44, fX11_undo N (C 8) P Q V (C 5) (C 6) (C 7) (C 3) = some (a, c8, c5, c6, c7, c3) ∧ fX12_undo N I (A 45) (A 46) (A 47) (A 48) (A 49) (A 50) (A 52) (A 51) (A 53) (A 44) = some (a, i, q45, q46, q47, q48, q49, q50, q52, q51, q53, q44) ∧ RR t (va_up (va_up (va_up (va_up (va_up (C) 8 c8) 5 c5) 6 c6) 7 c7) 3 c3) P Q V n i J (va_up (va_up (va_up (va_up (va_up (va_up (va_up (va_up (va_up (va_up (A) 45 q45) 46 q46) 47 q47) 48 q48) 49 q49) 50 q50) 52 q52) 51 q51) 53 q53) 44 q44) B := by
  obtain ⟨b, H, m, ro, ta, U, K, KR, W, sd, T, Im, rf, f, p, hp, hc, hm, ht⟩ := h
  have hp0 := hp
  obtain ⟨hs, h5, hUo, hK, hKR, hsd, hT, hTl, hIm⟩ := hp
  have hc0 := hc
  obtain ⟨c1, c2, c3, c4, c5, c6, c7, c8, c9, c10, c11, c12, c13⟩ := hc
  have hm0 := hm
  obtain ⟨a1, a2, a3, a4, a5, a6, a7, a8, a9, a10, a11, a12, a13, a14⟩ := hm
  obtain ⟨h200, hE, hP, -⟩ := hs.b
  by_cases c : U.1 = 0
  · refine ⟨_, _, _, _, _, _, _, _, _, _, _, _, _, _, _, _, _, c_undo_no N (nowI := C 5) (now_rowsF := C 6) (now_talksF := C 7) (dv_refusedF := C 3) c4 c, m_undo_no N (mm_refusedF := A 44) a5 c, b, H, m, ro, ta, U, K, KR, W, sd, T, Im, rf1 rf 4, f, p, hp0, RC_r hc0 (fun j hj h3 => ?_) (pR_up c12 (by decide)), RM_r hm0 (fun j hj => ?_) (pR_up a12 (by decide)), ht⟩
    · rw [va_up_ne _ _ h3]
      by_cases z7 : j = 7
      · subst z7; rfl
      · rw [va_up_ne _ _ z7]
        by_cases z6 : j = 6
        · subst z6; rfl
        · rw [va_up_ne _ _ z6]
          by_cases z5 : j = 5
          · subst z5; rfl
          · rw [va_up_ne _ _ z5]
            by_cases z8 : j = 8
            · subst z8; rfl
            · exact va_up_ne _ _ z8
    · rw [va_up_ne _ _ hj]
      by_cases z53 : j = 53
      · subst z53; rfl
      · rw [va_up_ne _ _ z53]
        by_cases z51 : j = 51
        · subst z51; rfl
        · rw [va_up_ne _ _ z51]
          by_cases z52 : j = 52
          · subst z52; rfl
          · rw [va_up_ne _ _ z52]
            by_cases z50 : j = 50
            · subst z50; rfl
            · rw [va_up_ne _ _ z50]
              by_cases z49 : j = 49
              · subst z49; rfl
              · rw [va_up_ne _ _ z49]
                by_cases z48 : j = 48
                · subst z48; rfl
                · rw [va_up_ne _ _ z48]
                  by_cases z47 : j = 47
                  · subst z47; rfl
                  · rw [va_up_ne _ _ z47]
                    by_cases z46 : j = 46
                    · subst z46; rfl
                    · rw [va_up_ne _ _ z46]
                      by_cases z45 : j = 45
                      · subst z45; rfl
                      · exact va_up_ne _ _ z45
  · have h0 : 0 < U.1 := by omega
    obtain ⟨o1, o2, o3⟩ := hUo.2.1 0 h0
    have y := hs.y (by have := o1.2.1; omega)
    obtain ⟨n1, n2, n3, n4, e1, e2, e3⟩ := c_undo_yes N (nowI := C 5) (now_rowsF := C 6) (now_talksF := C 7) (dv_refusedF := C 3) hE hP c4 hUo.1 h0
    obtain ⟨i', X', g1, g2, g3, g4, g5⟩ := m_undo_yes N (mm_refusedF := A 44) hN hE hP a5 hUo.1 h0
    refine ⟨_, _, _, _, _, _, _, _, _, _, _, _, _, _, _, _, _, e1, g1, b, H, U.2.1 0, U.2.2.1 0, U.2.2.2 0, pU_pop U, K, KR, W, sd, T, Im, rf, f, p, ⟨Or.inl ⟨y.1, o1⟩, o2, pU_pop_ok hUo h0, hK, fun i hi => hKR i (by omega), hsd, hT, hTl, hIm⟩, ⟨c1, c2, e3, e2, fun i hi => c5 i (by omega), c6, c7, c8, c9, c10, c11, c12, c13⟩, RM_act hm0 (fun i _ hi => g2 i hi) g3 g4 g5 (fun j hj => ?_), ht⟩
    by_cases z44 : j = 44
    · subst z44; rfl
    · rw [va_up_ne _ _ z44, va_up_ne _ _ (by omega), va_up_ne _ _ (by omega), va_up_ne _ _ (by omega), va_up_ne _ _ (by omega), va_up_ne _ _ (by omega), va_up_ne _ _ (by omega), va_up_ne _ _ (by omega), va_up_ne _ _ (by omega), va_up_ne _ _ (by omega)]
end
