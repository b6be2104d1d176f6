/-! house: the old bank stands when only the other bank has changed -/
theorem eqO_at {α : Type} {k b b0 i : Nat} {f g : Nat → α} (h : eqO k b f g) (hb0 : b0 < 2) (hb : b = 1 - b0) (hi : i < k) : g (k * b0 + i) = f (k * b0 + i) := by
  have : b0 = 0 ∨ b0 = 1 := by omega
  rcases this with rfl | rfl
  · subst hb; exact h _ (Or.inl (by rw [Nat.mul_zero, Nat.sub_zero, Nat.mul_one]; omega))
  · subst hb; exact h _ (Or.inr (by rw [Nat.sub_self, Nat.mul_zero, Nat.mul_one]; omega))
theorem mL_old {b b0 w : Nat} {sf sb cs cv sf' sb' cs' cv' : Nat → Int32} {D L : List Nat} (hb0 : b0 < 2) (hb : b = 1 - b0) (hw : w < 3) (h1 : eqO 3 b sf sf') (h2 : eqO 3 b sb sb') (h3 : eqO 1600 b cs cs') (h4 : eqO 1600 b cv cv') (h : mL b0 w sf sb cs cv D L) : mL b0 w sf' sb' cs' cv' D L := by
  rcases h with ⟨a1, a2⟩ | ⟨f, e, a1, a2, a3, a4, a5⟩
  · exact Or.inl ⟨(eqO_at h1 hb0 hb hw).trans a1, a2⟩
  · refine Or.inr ⟨f, e, (eqO_at h1 hb0 hb hw).trans a1, (eqO_at h2 hb0 hb hw).trans a2, a3, a4, fun j c hj => ?_⟩
    obtain ⟨s, v, e1, e2, e3⟩ := a5 j c hj
    have hlt := (List.getElem?_eq_some_iff.mp hj).1
    have q1 := eqO_at (i := f + j) h3 hb0 hb (by omega)
    have q2 := eqO_at (i := f + j) h4 hb0 hb (by omega)
    rw [← Nat.add_assoc] at q1 q2
    exact ⟨s, v, q1.trans e1, fun z => q2.trans (e2 z), e3⟩
theorem mH_old {H : PH} {b b0 : Nat} {I I' sf sb cs cv mt me mp pa sh sf' sb' cs' cv' me' mp' pa' sh' : Nat → Int32} {v : Int32} (hE : H.1 1 ≤ 7) (hP : H.1 2 ≤ 6) (hb : b = 1 - b0) (h1 : eqO 3 b sf sf') (h2 : eqO 3 b sb sb') (h3 : eqO 1600 b cs cs') (h4 : eqO 1600 b cv cv') (h5 : eqO 1 b me me') (h6 : eqO 1 b mp mp') (h7 : eqO 6 b pa pa') (h8 : eqO 7 b sh sh') (h13 : I' 13 = I 13) (h : mH H b0 I sf sb cs cv mt me mp pa sh) : mH H b0 I' sf' sb' cs' cv' (upd mt b v) me' mp' pa' sh' := by
  obtain ⟨a0, a1, a2, a3, a4, a5, a6, a7, a8, a9⟩ := h
  refine ⟨a0, h13.trans a1, (pk_un (by omega)).trans a2, ?_, ?_, fun k hk => (eqO_at h7 a0 hb (by omega)).trans (a5 k hk), fun e he => (eqO_at h8 a0 hb (by omega)).trans (a6 e he), mL_old a0 hb (by decide) h1 h2 h3 h4 a7, mL_old a0 hb (by decide) h1 h2 h3 h4 a8, mL_old a0 hb (by decide) h1 h2 h3 h4 a9⟩
  · have := eqO_at (i := 0) h5 a0 hb (by decide)
    rw [show 1 * b0 + 0 = b0 by omega] at this
    exact this.trans a3
  · have := eqO_at (i := 0) h6 a0 hb (by decide)
    rw [show 1 * b0 + 0 = b0 by omega] at this
    exact this.trans a4
theorem mW_old {H : PH} {W : Nat → Nat → Nat → Nat} {b b0 : Nat} {en pn en' pn' : Nat → Int64} (hE : H.1 1 ≤ 7) (hP : H.1 2 ≤ 6) (hb0 : b0 < 2) (hb : b = 1 - b0) (h1 : eqO 7 b en en') (h2 : eqO 6 b pn pn') (h : mW H W b0 en pn) : mW H W b0 en' pn' := by
  refine ⟨fun e he => ?_, fun p hp => ?_⟩
  · obtain ⟨k, k1, k2, k3, k4, k5⟩ := h.1 e he
    exact ⟨k, k1, k2, k3, k4, (eqO_at h1 hb0 hb (by omega)).trans k5⟩
  · obtain ⟨k, k1, k2, k3, k4, k5⟩ := h.2 p hp
    exact ⟨k, k1, k2, k3, k4, (eqO_at h2 hb0 hb (by omega)).trans k5⟩
