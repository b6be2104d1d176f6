/-! calls that change something: seed, feed, end -/
section
variable {H : PH} {m ro ta : Nat → Nat} {U : PU} {K : PK} {KR : Nat → Nat → Nat} {W : Nat → Nat → Nat → Nat} {sd : Nat} {T Im : PT} {rf : Nat → Int32} {f p : Int32} {C C' P Q V : Nat → Nat → Int32} {n : Nat → Nat} {b : Nat} {I I' : Nat → Int32} {J : Nat → Int64} {A A' : Nat → Nat → Int32} {B : Nat → Nat → Int64}
theorem RC_r {rf' : Nat → Int32} (h : RC H m ro ta U K KR W sd T Im rf f p C P Q V n) (hC : ∀ j, ¬ cScr j → j ≠ 3 → C' j = C j) (hr : pR rf' (C' 3)) : RC H m ro ta U K KR W sd T Im rf' f p C' P Q V n := by
  obtain ⟨c1, c2, c3, c4, c5, c6, c7, c8, c9, c10, c11, c12, c13⟩ := h
  unfold RC
  unfold cScr at hC
  rw [hC 10 (by omega) (by omega), hC 13 (by omega) (by omega), hC 15 (by omega) (by omega), hC 17 (by omega) (by omega), hC 18 (by omega) (by omega), hC 19 (by omega) (by omega), hC 5 (by omega) (by omega), hC 6 (by omega) (by omega), hC 7 (by omega) (by omega), hC 8 (by omega) (by omega), hC 34 (by omega) (by omega), hC 9 (by omega) (by omega), hC 30 (by omega) (by omega), hC 31 (by omega) (by omega), hC 32 (by omega) (by omega), hC 1 (by omega) (by omega), hC 2 (by omega) (by omega), hC 35 (by omega) (by omega), hC 36 (by omega) (by omega), hC 0 (by omega) (by omega), hC 11 (by omega) (by omega), hC 14 (by omega) (by omega)]
  exact ⟨c1, c2, c3, c4, c5, c6, c7, c8, c9, c10, c11, hr, c13⟩
theorem RM_r {rf' : Nat → Int32} (h : RMb b H m ro ta U K KR W sd T Im rf f p I J A B) (hA : ∀ j, j ≠ 44 → A' j = A j) (hr : pR rf' (A' 44)) : RMb b H m ro ta U K KR W sd T Im rf' f p I J A' B := by
  obtain ⟨a1, a2, a3, a4, a5, a6, a7, a8, a9, a10, a11, a12, a13, a14⟩ := h
  have e1 : AY A' = AY A := by
    unfold AY
    rw [hA 24 (by omega), hA 25 (by omega), hA 26 (by omega), hA 27 (by omega), hA 14 (by omega), hA 18 (by omega), hA 21 (by omega), hA 22 (by omega), hA 20 (by omega)]
  have e2 : AX A' = AX A := by
    unfold AX
    rw [hA 45 (by omega), hA 46 (by omega), hA 47 (by omega), hA 48 (by omega), hA 49 (by omega), hA 50 (by omega), hA 52 (by omega), hA 51 (by omega), hA 53 (by omega)]
  unfold RMb
  rw [e1, e2, hA 63 (by omega), hA 64 (by omega), hA 65 (by omega), hA 0 (by omega), hA 68 (by omega), hA 17 (by omega)]
  exact ⟨a1, a2, a3, a4, a5, a6, a7, a8, a9, a10, a11, hr, a13, a14⟩
/-- the fields of the reference that the relation reads -/
theorem RM_i (h : RMb b H m ro ta U K KR W sd T Im rf f p I J A B) (h13 : I' 13 = I 13) (h43 : I' 43 = I 43) (h54 : I' 54 = I 54) (h55 : I' 55 = I 55) (h62 : I' 62 = I 62) (h69 : I' 69 = I 69) (h10 : I' 10 = I 10) (h11 : I' 11 = I 11) {T' : PT} (hT : mT T' I' (A' 0)) (hA : ∀ j, j ≠ 0 → A' j = A j) : RMb b H m ro ta U K KR W sd T' Im rf f p I' J A' B := by
  obtain ⟨⟨a0, a01, a02⟩, a2, a3, a4, ⟨uf, u1, u2, u3, u4⟩, a6, a7, a8, a9, a10, a11, a12, a13, a14⟩ := h
  have e1 : AY A' = AY A := by
    unfold AY
    rw [hA 24 (by omega), hA 25 (by omega), hA 26 (by omega), hA 27 (by omega), hA 14 (by omega), hA 18 (by omega), hA 21 (by omega), hA 22 (by omega), hA 20 (by omega)]
  have e2 : AX A' = AX A := by
    unfold AX
    rw [hA 45 (by omega), hA 46 (by omega), hA 47 (by omega), hA 48 (by omega), hA 49 (by omega), hA 50 (by omega), hA 52 (by omega), hA 51 (by omega), hA 53 (by omega)]
  unfold RMb
  rw [e1, e2, hA 63 (by omega), hA 64 (by omega), hA 65 (by omega), hA 68 (by omega), hA 17 (by omega), hA 44 (by omega)]
  refine ⟨⟨a0, h13.trans a01, a02⟩, ?_, a3, a4, ⟨uf, u1, h54.trans u2, h55.trans u3, u4⟩, ⟨h62.trans a6.1, a6.2⟩, hT, ⟨h69.trans a8.1, a8.2⟩, a9, h10.trans a10, h11.trans a11, a12, a13, a14⟩
  unfold mFl at a2 ⊢
  rw [h43]; exact a2
end
section
variable (N : Nat) {t : Nat} {C P Q V : Nat → Nat → Int32} {n : Nat → Nat} {I : Nat → Int32} {J : Nat → Int64} {A : Nat → Nat → Int32} {B : Nat → Nat → Int64}
theorem x_seed (h : RR t C P Q V n I J A B) (p1 : Int32) : ∃ a c0 c3 j q, fX11_seed N (C 0) (C 3) p1 = some (a, c0, c3) ∧ fX12_seed N J (A 44) p1 = some (a, j, q) ∧ RR t (va_up (va_up C 0 c0) 3 c3) P Q V n I j (va_up A 44 q) B := by
  obtain ⟨b, H, m, ro, ta, U, K, KR, W, sd, T, Im, rf, f, p, hp, hc, hm, ht⟩ := h
  by_cases c : 0 ≤ p1
  · refine ⟨_, _, _, _, _, c_seed_yes N c, m_seed_yes N c, b, H, m, ro, ta, U, K, KR, W, p1.toInt.toNat, T, Im, rf, f, p, ?_, ?_, ?_, ht⟩
    · obtain ⟨hs, h5, hUo, hK, hKR, hsd, hT, hTl, hIm⟩ := hp
      exact ⟨hs, h5, hUo, hK, hKR, by have := fb_rng p1; omega, hT, hTl, hIm⟩
    · obtain ⟨c1, c2, c3, c4, c5, c6, c7, c8, c9, c10, c11, c12, c13⟩ := hc
      refine ⟨c1, c2, c3, c4, c5, c6, c7, c8, ?_, c10, c11, c12, c13⟩
      show p1 = nI p1.toInt.toNat
      rw [fa_le] at c
      have e0 : (0 : Int32).toInt = 0 := rfl
      rw [fa_eq, nI_toInt (by have := fb_rng p1; omega)]; omega
    · obtain ⟨a1, a2, a3, a4, a5, a6, a7, a8, a9, a10, a11, a12, a13, a14⟩ := hm
      refine ⟨a1, a2, a3, a4, a5, a6, a7, a8, ?_, a10, a11, a12, a13, a14⟩
      show p1.toInt64 = lN p1.toInt.toNat
      rw [fa_le] at c
      have e0 : (0 : Int32).toInt = 0 := rfl
      have e : p1 = nI p1.toInt.toNat := by rw [fa_eq, nI_toInt (by have := fb_rng p1; omega)]; omega
      rw [← nI_l (by have := fb_rng p1; omega), ← e]
  · refine ⟨_, _, _, _, _, c_seed_no N c, m_seed_no N c, b, H, m, ro, ta, U, K, KR, W, sd, T, Im, rf1 rf 5, f, p, hp, RC_r hc (fun j hj h3 => ?_) (pR_up hc.2.2.2.2.2.2.2.2.2.2.2.1 (by decide)), RM_r hm (fun j hj => va_up_ne _ _ hj) (pR_up hm.2.2.2.2.2.2.2.2.2.2.2.1 (by decide)), ht⟩
    rw [va_up_ne _ _ h3]
    by_cases c0 : j = 0
    · subst c0; rfl
    · exact va_up_ne _ _ c0
end
