/-! calls that change something: feed, end, image -/
theorem pT4_lt {T : PT} (h : pI_lt T) (x : Int32) : pI_lt (pT4 T x) := pI_lt1 (pI_lt1 (pI_lt1 (pI_lt1 h (p_by_lt _ _)) (p_by_lt _ _)) (p_by_lt _ _)) (p_by_lt _ _)
theorem pT20_lt {T : PT} (h : pI_lt T) (a b c d e : Int32) : pI_lt (pT20 T a b c d e) := pT4_lt (pT4_lt (pT4_lt (pT4_lt (pT4_lt h a) b) c) d) e
section
variable (N : Nat) {t : Nat} {C P Q V : Nat → Nat → Int32} {n : Nat → Nat} {I : Nat → Int32} {J : Nat → Int64} {A : Nat → Nat → Int32} {B : Nat → Nat → Int64}
theorem x_feed (hN : 5000 ≤ N) (h : RR t C P Q V n I J A B) (p1 p2 p3 p4 p5 : Int32) : ∃ a c1 c2 c3 i q0 q44 t', fX11_feed N (C 1) (C 2) (C 3) p1 p2 p3 p4 p5 = some (a, c1, c2, c3) ∧ fX12_feed N I (A 0) (A 44) p1 p2 p3 p4 p5 = some (a, i, q0, q44) ∧ t' ≤ t + 20 ∧ RR t' (va_up (va_up (va_up C 1 c1) 2 c2) 3 c3) P Q V n i J (va_up (va_up A 0 q0) 44 q44) B := by
  obtain ⟨b, H, m, ro, ta, U, K, KR, W, sd, T, Im, rf, f, p, hp, hc, hm, ht⟩ := h
  have hp0 := hp
  obtain ⟨hs, h5, hUo, hK, hKR, hsd, hT, hTl, hIm⟩ := hp
  have hc0 := hc
  obtain ⟨c1, c2, c3, c4, c5, c6, c7, c8, c9, c10, c11, c12, c13⟩ := hc
  have hm0 := hm
  obtain ⟨a1, a2, a3, a4, a5, a6, a7, a8, a9, a10, a11, a12, a13, a14⟩ := hm
  by_cases c : T.1 ≤ 1580
  · obtain ⟨tI, bF, e1, e2, e3⟩ := c_feed_yes N hN (dv_refusedF := C 3) c7 c p1 p2 p3 p4 p5
    obtain ⟨i', tF, g1, g2, g3⟩ := m_feed_yes N hN (mm_refusedF := A 44) a7 c p1 p2 p3 p4 p5
    refine ⟨_, _, _, _, _, _, _, t + 20, e1, g1, Nat.le_refl _, b, H, m, ro, ta, U, K, KR, W, sd, pT20 T p1 p2 p3 p4 p5, Im, rf, f, p, ⟨hs, h5, hUo, hK, hKR, hsd, by rw [pT20_n]; omega, pT20_lt hTl _ _ _ _ _, hIm⟩, ⟨c1, c2, c3, c4, c5, c6, e2, c8, c9, c10, c11, c12, c13⟩, RM_i hm0 (g3 13 (by decide)) (g3 43 (by decide)) (g3 54 (by decide)) (g3 55 (by decide)) (g3 62 (by decide)) (g3 69 (by decide)) (g3 10 (by decide)) (g3 11 (by decide)) g2 (fun j hj => ?_), by rw [pT20_n, ht]⟩
    by_cases cj : j = 44
    · subst cj; rfl
    · rw [va_up_ne _ _ cj]; exact va_up_ne _ _ hj
  · have e1 := c_feed_no N (dv_refusedF := C 3) c7 hT (by omega) p1 p2 p3 p4 p5
    have g1 := m_feed_no N (mm_refusedF := A 44) a7 hT (by omega) p1 p2 p3 p4 p5
    refine ⟨_, _, _, _, _, _, _, t, e1, g1, by omega, b, H, m, ro, ta, U, K, KR, W, sd, T, Im, rf1 rf 0, f, p, hp0, RC_r hc0 (fun j hj h3 => ?_) (pR_up c12 (by decide)), RM_r hm0 (fun j hj => ?_) (pR_up a12 (by decide)), ht⟩
    · rw [va_up_ne _ _ h3]
      by_cases k2 : j = 2
      · subst k2; rfl
      · rw [va_up_ne _ _ k2]
        by_cases k1 : j = 1
        · subst k1; rfl
        · exact va_up_ne _ _ k1
    · rw [va_up_ne _ _ hj]
      by_cases k0 : j = 0
      · subst k0; rfl
      · exact va_up_ne _ _ k0
theorem x_end (h : RR t C P Q V n I J A B) (p1 : Int32) : ∃ a c1 c3 i q44 t', fX11_end N (C 1) (C 3) p1 = some (a, c1, c3) ∧ fX12_end N I (A 44) p1 = some (a, i, q44) ∧ t' ≤ t ∧ RR t' (va_up (va_up C 1 c1) 3 c3) P Q V n i J (va_up A 44 q44) B := by
  obtain ⟨b, H, m, ro, ta, U, K, KR, W, sd, T, Im, rf, f, p, hp, hc, hm, ht⟩ := h
  have hp0 := hp
  obtain ⟨hs, h5, hUo, hK, hKR, hsd, hT, hTl, hIm⟩ := hp
  have hc0 := hc
  obtain ⟨c1, c2, c3, c4, c5, c6, c7, c8, c9, c10, c11, c12, c13⟩ := hc
  have hm0 := hm
  obtain ⟨a1, a2, a3, a4, a5, a6, a7, a8, a9, a10, a11, a12, a13, a14⟩ := hm
  cases c : pa_end T p1 with
  | true =>
    have c := of_decide_eq_true c
    obtain ⟨k, rfl, hk⟩ : ∃ k : Nat, p1 = nI k ∧ k ≤ T.1 := ⟨p1.toInt.toNat, by rw [fa_eq, nI_toInt (by have := fb_rng p1; omega)]; omega, by omega⟩
    have e1 := c_end_yes N (dv_refusedF := C 3) c7 hT hk
    have g1 := m_end_yes N (mm_refusedF := A 44) a7 hT hk
    refine ⟨_, _, _, _, _, k, e1, g1, by omega, b, H, m, ro, ta, U, K, KR, W, sd, (k, T.2), Im, rf, f, p, ⟨hs, h5, hUo, hK, hKR, hsd, by show k ≤ 1600; omega, fun i hi => hTl i (by have : i < k := hi; omega), hIm⟩, ⟨c1, c2, c3, c4, c5, c6, ⟨rfl, fun i hi => c7.2 i (by have : i < k := hi; omega)⟩, c8, c9, c10, c11, c12, c13⟩, RM_i (I' := va_up I 1 (nI k)) (A' := va_up A 44 (A 44)) (T' := (k, T.2)) hm0 rfl rfl rfl rfl rfl rfl rfl rfl ⟨rfl, fun i hi => a7.2 i (by have : i < k := hi; omega)⟩ (fun j hj => ?_), rfl⟩
    by_cases cj : j = 44
    · subst cj; rfl
    · exact va_up_ne _ _ cj
  | false =>
    have e1 := c_end_no N (dv_refusedF := C 3) c7 hT c
    have g1 := m_end_no N (mm_refusedF := A 44) a7 hT c
    refine ⟨_, _, _, _, _, t, e1, g1, by omega, b, H, m, ro, ta, U, K, KR, W, sd, T, Im, rf1 rf 0, f, p, hp0, RC_r hc0 (fun j hj h3 => ?_) (pR_up c12 (by decide)), RM_r hm0 (fun j hj => va_up_ne _ _ hj) (pR_up a12 (by decide)), ht⟩
    rw [va_up_ne _ _ h3]
    by_cases k1 : j = 1
    · subst k1; rfl
    · exact va_up_ne _ _ k1
theorem x_image (hN : 5000 ≤ N) (h : RR t C P Q V n I J A B) : ∃ a c35 c36 i q68, fX11_image N (C 10) (C 35) (C 5) (C 36) (C 6) (C 7) = some (a, c35, c36) ∧ fX12_image N I (A 45) (A 68) (A 46) (A 47) (A 48) (A 49) (A 18) (A 50) (A 21) (A 51) = some (a, i, q68) ∧ RR t (va_up (va_up C 35 c35) 36 c36) P Q V n i J (va_up A 68 q68) B := by
  obtain ⟨b, H, m, ro, ta, U, K, KR, W, sd, T, Im, rf, f, p, hp, hc, hm, ht⟩ := h
  obtain ⟨hs, h5, hUo, hK, hKR, hsd, hT, hTl, hIm⟩ := hp
  obtain ⟨c1, c2, c3, c4, c5, c6, c7, c8, c9, c10, c11, c12, c13⟩ := hc
  obtain ⟨a1, a2, a3, a4, a5, a6, a7, a8, a9, a10, a11, a12, a13, a14⟩ := hm
  obtain ⟨pI', bF, e1, e2⟩ := c_image N hN (pictureI := C 35) (picture_bytesF := C 36) hs c1 c3
  obtain ⟨i', oF, g1, g2, g3⟩ := m_image N hN (hf := A 59) (ask := A 58) (stk := B 57) (mm_outF := A 68) hs a1 a2 a3
  obtain ⟨uf, u1, u2, u3, u4⟩ := a5
  obtain ⟨y0, y1, y2⟩ := a1
  have hb := hs.b
  refine ⟨_, _, _, _, _, e1, g1, b, H, m, ro, ta, U, K, KR, W, sd, T, pI H m ro ta, rf, f, p, ⟨hs, h5, hUo, hK, hKR, hsd, hT, hTl, ?_⟩, ⟨c1, c2, c3, c4, c5, c6, c7, e2, c9, c10, c11, c12, c13⟩, ⟨⟨y0, (g3 13 (by decide)).trans y1, y2⟩, ?_, a3, a4, ⟨uf, u1, (g3 54 (by decide)).trans u2, (g3 55 (by decide)).trans u3, u4⟩, ⟨(g3 62 (by decide)).trans a6.1, a6.2⟩, ⟨(g3 1 (by decide)).trans a7.1, a7.2⟩, g2, a9, (g3 10 (by decide)).trans a10, (g3 11 (by decide)).trans a11, a12, a13, a14⟩, ht⟩
  · show (pI_bd H m ro ta).1 + 1 ≤ 22
    rw [pI_bd_n]; omega
  · unfold mFl at a2 ⊢
    rw [g3 43 (by decide)]; exact a2
end
