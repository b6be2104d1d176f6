/-! calls that change something: mark, on -/
section
variable (N : Nat) {t : Nat} {C P Q V : Nat → Nat → Int32} {n : Nat → Nat} {I : Nat → Int32} {J : Nat → Int64} {A : Nat → Nat → Int32} {B : Nat → Nat → Int64}
theorem x_mark (hN : 5000 ≤ N) (h : RR t C P Q V n I J A B) : ∃ a c1 c9 c30 c31 c32 c3 i q44 q63 q64 q65, fX11_mark N (C 10) (C 1) (C 2) (C 9) (C 30) (C 31) (C 32) (C 3) = some (a, c1, c9, c30, c31, c32, c3) ∧ fX12_mark N I (A 0) (A 18) (A 44) (A 63) (A 64) (A 65) = some (a, i, q44, q63, q64, q65) ∧ RR 0 (va_up (va_up (va_up (va_up (va_up (va_up C 1 c1) 9 c9) 30 c30) 31 c31) 32 c32) 3 c3) P Q V n i J (va_up (va_up (va_up (va_up A 44 q44) 63 q63) 64 q64) 65 q65) B := by
  obtain ⟨b, H, m, ro, ta, U, K, KR, W, sd, T, Im, rf, f, p, hp, hc, hm, ht⟩ := h
  obtain ⟨hs, h5, hUo, hK, hKR, hsd, hT, hTl, hIm⟩ := hp
  obtain ⟨c1, c2, c3, c4, c5, c6, c7, c8, c9, c10, c11, c12, c13⟩ := hc
  have hm1 := RM_i (I' := va_up I 1 0) (A' := A) (T' := (0, T.2)) hm rfl rfl rfl rfl rfl rfl rfl rfl ⟨rfl, fun i hi => absurd hi (Nat.not_lt_zero _)⟩ (fun j _ => rfl)
  obtain ⟨a1, a2, a3, a4, a5, a6, a7, a8, a9, a10, a11, a12, a13, a14⟩ := hm
  obtain ⟨-, hE, hP, -⟩ := hs.b
  cases c : pa_mark (H.1 1) T with
  | false =>
    have e1 := c_mark_no N hN (marksI := C 9) (marks_nightsAheadF := C 30) (marks_earsF := C 31) (marks_hearingF := C 32) (dv_refusedF := C 3) c1.2.1 hE c7 hT c
    have g1 := m_mark_no N (mm_refusedF := A 44) (mm_markNightF := A 63) (mm_markEarF := A 64) (mm_markIsF := A 65) hN a1.1 a1.2.1 a1.2.2.2.1 hE a7 hT hTl c
    refine ⟨_, _, _, _, _, _, _, _, _, _, _, _, e1, g1, b, H, m, ro, ta, U, K, KR, W, sd, (0, T.2), Im, rf1 rf 5, f, p, ⟨hs, h5, hUo, hK, hKR, hsd, Nat.zero_le _, fun i hi => absurd hi (Nat.not_lt_zero _), hIm⟩, ⟨c1, c2, c3, c4, c5, c6, ⟨rfl, fun i hi => absurd hi (Nat.not_lt_zero _)⟩, c8, c9, c10, c11, pR_up c12 (by decide), c13⟩, RM_r hm1 (fun j hj => ?_) (pR_up a12 (by decide)), rfl⟩
    by_cases k5 : j = 65
    · subst k5; rfl
    · rw [va_up_ne _ _ k5]
      by_cases k4 : j = 64
      · subst k4; rfl
      · rw [va_up_ne _ _ k4]
        by_cases k3 : j = 63
        · subst k3; rfl
        · rw [va_up_ne _ _ k3, va_up_ne _ _ hj]
  | true =>
    obtain ⟨mk, nF, eF, hF, e1, e2⟩ := c_mark_yes N hN (marksI := C 9) (marks_nightsAheadF := C 30) (marks_earsF := C 31) (marks_hearingF := C 32) (dv_refusedF := C 3) c1.2.1 hE c7 hT c
    obtain ⟨nM, eM, hM, g1, g2⟩ := m_mark_yes N (mm_refusedF := A 44) (mm_markNightF := A 63) (mm_markEarF := A 64) (mm_markIsF := A 65) hN a1.1 a1.2.1 a1.2.2.2.1 hE a7 hTl c
    obtain ⟨uf, u1, u2, u3, u4⟩ := a5
    obtain ⟨y0, y1, y2⟩ := a1
    exact ⟨_, _, _, _, _, _, _, _, _, _, _, _, e1, g1, b, H, m, ro, ta, U, pT_K T, KR, W, sd, (0, T.2), Im, rf, f, p, ⟨hs, h5, hUo, pa_mark_ok c, hKR, hsd, Nat.zero_le _, fun i hi => absurd hi (Nat.not_lt_zero _), hIm⟩, ⟨c1, c2, c3, c4, c5, e2, ⟨rfl, fun i hi => absurd hi (Nat.not_lt_zero _)⟩, c8, c9, c10, c11, c12, c13⟩, ⟨⟨y0, y1, y2⟩, a2, a3, a4, ⟨uf, u1, u2, u3, u4⟩, g2, ⟨rfl, fun i hi => absurd hi (Nat.not_lt_zero _)⟩, ⟨a8.1, a8.2⟩, a9, a10, a11, a12, a13, a14⟩, rfl⟩
theorem x_on (hN : 5000 ≤ N) (h : RR t C P Q V n I J A B) : ∃ a c1 c22 c23 c24 c5 c6 c7 c8 c3 i q45 q46 q47 q48 q49 q50 q52 q51 q53 q44, fX11_on N (C 10) (C 1) (C 2) (C 22) (C 23) (C 24) (C 5) (C 6) (C 7) (C 8) (C 3) = some (a, c1, c22, c23, c24, c5, c6, c7, c8, c3) ∧ fX12_on N I (A 18) (A 21) (A 0) (A 14) (A 45) (A 46) (A 47) (A 48) (A 49) (A 50) (A 52) (A 51) (A 53) (A 44) = some (a, i, q45, q46, q47, q48, q49, q50, q52, q51, q53, q44) ∧ RR 0 (va_up (va_up (va_up (va_up (va_up (va_up (va_up (va_up (va_up C 1 c1) 22 c22) 23 c23) 24 c24) 5 c5) 6 c6) 7 c7) 8 c8) 3 c3) P Q V n i J (va_up (va_up (va_up (va_up (va_up (va_up (va_up (va_up (va_up (va_up A 44 q44) 45 q45) 46 q46) 47 q47) 48 q48) 49 q49) 50 q50) 52 q52) 51 q51) 53 q53) B := by
  obtain ⟨b, H, m, ro, ta, U, K, KR, W, sd, T, Im, rf, f, p, hp, hc, hm, ht⟩ := h
  obtain ⟨hs, h5, hUo, hK, hKR, hsd, hT, hTl, hIm⟩ := hp
  obtain ⟨c1, c2, c3, c4, c5, c6, c7, c8, c9, c10, c11, c12, c13⟩ := hc
  have hm1 := RM_i (I' := va_up I 1 0) (A' := A) (T' := (0, T.2)) hm rfl rfl rfl rfl rfl rfl rfl rfl ⟨rfl, fun i hi => absurd hi (Nat.not_lt_zero _)⟩ (fun j _ => rfl)
  obtain ⟨a1, a2, a3, a4, a5, a6, a7, a8, a9, a10, a11, a12, a13, a14⟩ := hm
  obtain ⟨h200, hE, hP, -⟩ := hs.b
  by_cases c : pO_all H T
  · obtain ⟨w, r, tt, n2, r2, t2, e1, e2⟩ := c_on_yes N (walkI := C 22) (walk_rowsF := C 23) (walk_talksF := C 24) (nowI := C 5) (now_rowsF := C 6) (now_talksF := C 7) (pastI := C 8) (dv_refusedF := C 3) hN c7 hE hP h200 c1.1 c1.2.1 c1.2.2.1 c
    obtain ⟨X', g1, g2⟩ := m_on_yes N (mm_refusedF := A 44) hN a1 a2 h200 hE hP a7 hT hTl a3.2.2.2.2.2.2.1 a3.2.2.2.2.2.2.2.1 c
    obtain ⟨uf, u1, u2, u3, u4⟩ := a5
    obtain ⟨y0, y1, y2⟩ := a1
    obtain ⟨nw, w1, w2, w3, w4⟩ := c4
    refine ⟨_, _, _, _, _, _, _, _, _, _, _, _, _, _, _, _, _, _, _, _, _, e1, g1, b, H, pO_m T, pO_ro T, pO_ta H T, (0, U.2), K, KR, W, sd, (0, T.2), Im, rf, f, p, ⟨Or.inl ⟨(hs.y c.1).1, pO_mok c.2.2⟩, Nat.zero_le _, ⟨Nat.zero_le _, fun k hk => absurd hk (Nat.not_lt_zero _), fun i j _ hj => absurd hj (Nat.not_lt_zero _)⟩, hK, fun i hi => absurd hi (Nat.not_lt_zero _), hsd, Nat.zero_le _, fun i hi => absurd hi (Nat.not_lt_zero _), hIm⟩, ⟨c1, c2, e2, ⟨nw, w1, w2, rfl, fun k hk => absurd hk (Nat.not_lt_zero _)⟩, fun i hi => absurd hi (Nat.not_lt_zero _), c6, ⟨rfl, fun i hi => absurd hi (Nat.not_lt_zero _)⟩, c8, c9, c10, c11, c12, c13⟩, ⟨⟨y0, y1, y2⟩, a2, g2, fun j f' hj _ => absurd hj (Nat.not_lt_zero _), ⟨uf, u1, u2, rfl, fun k hk => absurd hk (Nat.not_lt_zero _)⟩, ⟨a6.1, a6.2⟩, ⟨rfl, fun i hi => absurd hi (Nat.not_lt_zero _)⟩, ⟨a8.1, a8.2⟩, a9, a10, a11, a12, a13, a14⟩, rfl⟩
  · obtain ⟨w, r, tt, e1⟩ := c_on_no N (walkI := C 22) (walk_rowsF := C 23) (walk_talksF := C 24) (nowI := C 5) (now_rowsF := C 6) (now_talksF := C 7) (pastI := C 8) (dv_refusedF := C 3) hN c7 hT hE hP h200 c1.1 c1.2.1 c1.2.2.1 c
    obtain ⟨X', g1, g2⟩ := m_on_no N (mm_refusedF := A 44) hN a1 a2 h200 hE hP a7 hT hTl a3.2.2.2.2.2.2.1 a3.2.2.2.2.2.2.2.1 c
    have hm2 := RM_r (A' := va_up A 44 (upd (A 44) 5 (A 44 5 + 1))) hm1 (fun j hj => va_up_ne _ _ hj) (pR_up a12 (by decide))
    refine ⟨_, _, _, _, _, _, _, _, _, _, _, _, _, _, _, _, _, _, _, _, _, e1, g1, b, H, m, ro, ta, U, K, KR, W, sd, (0, T.2), Im, rf1 rf 5, f, p, ⟨hs, h5, hUo, hK, hKR, hsd, Nat.zero_le _, fun i hi => absurd hi (Nat.not_lt_zero _), hIm⟩, ⟨c1, c2, c3, c4, c5, c6, ⟨rfl, fun i hi => absurd hi (Nat.not_lt_zero _)⟩, c8, c9, c10, c11, pR_up c12 (by decide), c13⟩, RM_w hs hm2 (fun j hj => ?_) (mOth_cg g2 (fun j hj => ?_)) rfl rfl, rfl⟩
    · unfold mScr at hj
      rw [va_up_ne _ _ (by omega), va_up_ne _ _ (by omega), va_up_ne _ _ (by omega), va_up_ne _ _ (by omega), va_up_ne _ _ (by omega), va_up_ne _ _ (by omega), va_up_ne _ _ (by omega), va_up_ne _ _ (by omega), va_up_ne _ _ (by omega)]
    · have : j = 0 ∨ j = 1 ∨ j = 2 ∨ j = 3 ∨ j = 4 ∨ j = 5 ∨ j = 6 ∨ j = 7 ∨ j = 8 := by omega
      rcases this with rfl | rfl | rfl | rfl | rfl | rfl | rfl | rfl | rfl <;> rfl
end
