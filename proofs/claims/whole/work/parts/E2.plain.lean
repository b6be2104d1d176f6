/-! what both hold, as one word; the calls that change nothing -/
def RR (t : Nat) (C P Q V : Nat → Nat → Int32) (n : Nat → Nat) (I : Nat → Int32) (J : Nat → Int64) (A : Nat → Nat → Int32) (B : Nat → Nat → Int64) : Prop := ∃ b H m ro ta U K KR W sd T Im rf f p, PS H m U K KR sd T Im ∧ RC H m ro ta U K KR W sd T Im rf f p C P Q V n ∧ RMb b H m ro ta U K KR W sd T Im rf f p I J A B ∧ T.1 = t
section
variable (N : Nat) {t : Nat} {C P Q V : Nat → Nat → Int32} {n : Nat → Nat} {I : Nat → Int32} {J : Nat → Int64} {A : Nat → Nat → Int32} {B : Nat → Nat → Int64}
theorem x_has (h : RR t C P Q V n I J A B) (p1 : Int32) : ∃ a, fX11_has N (C 0) (C 10) (C 5) (C 9) (C 8) p1 = some a ∧ fX12_has N I J (A 14) (A 18) (A 21) (A 45) (A 46) (A 47) (A 48) (A 49) (A 52) p1 = some a := by
  obtain ⟨b, H, m, ro, ta, U, K, KR, W, sd, T, Im, rf, f, p, ⟨hs, h5, hUo, hK, hKR, hsd, hT, hTl, hIm⟩, ⟨c1, c2, c3, c4, c5, c6, c7, c8, c9, c10, c11, c12, c13⟩, ⟨m1, m2, m3, m4, m5, m6, m7, m8, m9_, m10, m11, m12, m13, m14⟩, ht⟩ := h
  obtain ⟨nw, u1, u2, u3, u4⟩ := c4
  obtain ⟨uf, v1, v2, v3, v4⟩ := m5
  have := hs.b
  exact ⟨_, c_has N hs (by omega) c1 c3 c6.1 u3 c9 p1, m_has N hs (hf := A 59) (ask := A 58) (stk := B 57) m1 m2 m3 rfl m6.1 v3 m9_ p1⟩
theorem x_letter (hN : 5000 ≤ N) (h : RR t C P Q V n I J A B) (p1 p2 p3 : Int32) : ∃ a, fX11_letter N (C 10) (C 11) (C 14) p1 p2 p3 = some a ∧ fX12_letter N I (A 21) (A 18) (B 29) (B 28) p1 p2 p3 = some a := by
  obtain ⟨b, H, m, ro, ta, U, K, KR, W, sd, T, Im, rf, f, p, ⟨hs, h5, hUo, hK, hKR, hsd, hT, hTl, hIm⟩, ⟨c1, c2, c3, c4, c5, c6, c7, c8, c9, c10, c11, c12, c13⟩, ⟨m1, m2, m3, m4, m5, m6, m7, m8, m9_, m10, m11, m12, m13, m14⟩, ht⟩ := h
  obtain ⟨-, hE, hP, -⟩ := hs.b
  exact ⟨_, c_letter N hN hE hP c1.2.1 c1.2.2.1 c13 p1 p2 p3, m_letter N hN hE hP m1.1 m1.2.1 m1.2.2.2.1 m1.2.2.2.2.1 m14 p1 p2 p3⟩
theorem x_kept (h : RR t C P Q V n I J A B) (p1 p2 : Int32) : ∃ a, fX11_kept N (C 5) (C 34) p1 p2 = some a ∧ fX12_kept N (A 52) (A 53) p1 p2 = some a := by
  obtain ⟨b, H, m, ro, ta, U, K, KR, W, sd, T, Im, rf, f, p, ⟨hs, h5, hUo, hK, hKR, hsd, hT, hTl, hIm⟩, ⟨c1, c2, c3, c4, c5, c6, c7, c8, c9, c10, c11, c12, c13⟩, ⟨m1, m2, m3, m4, m5, m6, m7, m8, m9_, m10, m11, m12, m13, m14⟩, ht⟩ := h
  have := hs.b
  exact ⟨_, c_kept N (c3.1 5 (by omega)) (by omega) c5 hKR p1 p2, m_kept N (X := AX A) m3.2.2.2.2.2.2.1 m4 p1 p2⟩
theorem x_status (h : RR t C P Q V n I J A B) (p1 : Int32) : ∃ a, fX11_status N (C 3) p1 = some a ∧ fX12_status N (A 44) p1 = some a := by
  obtain ⟨b, H, m, ro, ta, U, K, KR, W, sd, T, Im, rf, f, p, -, ⟨c1, c2, c3, c4, c5, c6, c7, c8, c9, c10, c11, c12, c13⟩, ⟨m1, m2, m3, m4, m5, m6, m7, m8, m9_, m10, m11, m12, m13, m14⟩, ht⟩ := h
  exact ⟨_, c_status N c12 p1, m_status N m12 p1⟩
theorem x_octet (h : RR t C P Q V n I J A B) (p1 : Int32) : ∃ a, fX11_octet N (C 35) (C 36) p1 = some a ∧ fX12_octet N I (A 68) p1 = some a := by
  obtain ⟨b, H, m, ro, ta, U, K, KR, W, sd, T, Im, rf, f, p, ⟨hs, h5, hUo, hK, hKR, hsd, hT, hTl, hIm⟩, ⟨c1, c2, c3, c4, c5, c6, c7, c8, c9, c10, c11, c12, c13⟩, ⟨m1, m2, m3, m4, m5, m6, m7, m8, m9_, m10, m11, m12, m13, m14⟩, ht⟩ := h
  exact ⟨_, c_octet N c8 hIm p1, m_octet N m8 hIm p1⟩
theorem x_fault (h : RR t C P Q V n I J A B) (p1 : Int32) : ∃ a, fX11_fault N (C 0) p1 = some a ∧ fX12_fault N I p1 = some a := by
  obtain ⟨b, H, m, ro, ta, U, K, KR, W, sd, T, Im, rf, f, p, -, ⟨c1, c2, c3, c4, c5, c6, c7, c8, c9, c10, c11, c12, c13⟩, ⟨m1, m2, m3, m4, m5, m6, m7, m8, m9_, m10, m11, m12, m13, m14⟩, ht⟩ := h
  unfold fX11_fault fX12_fault
  rw [c10, c11, m10, m11]
  split
  · exact ⟨_, rfl, rfl⟩
  · split
    · exact ⟨_, rfl, rfl⟩
    · exact ⟨_, rfl, rfl⟩
end
