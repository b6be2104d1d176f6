/-! the new house: what the later calls want of it -/
def mW (H : PH) (W : Nat → Nat → Nat → Nat) (b : Nat) (en pn : Nat → Int64) : Prop := (∀ e, e < H.1 1 → ∃ k, 1 ≤ k ∧ k ≤ 6 ∧ (∀ i, i < k → 1 ≤ W 0 e i ∧ W 0 e i ≤ 26) ∧ (∀ i, k ≤ i → W 0 e i = 0) ∧ en (7 * b + e) = lN (pn_256 (W 0 e) k)) ∧ ∀ p, p < H.1 2 → ∃ k, 1 ≤ k ∧ k ≤ 6 ∧ (∀ i, i < k → 1 ≤ W 1 p i ∧ W 1 p i ≤ 26) ∧ (∀ i, k ≤ i → W 1 p i = 0) ∧ pn (6 * b + p) = lN (pn_256 (W 1 p) k)
theorem nm_pick {n : Nat} {f : Nat → Int32} {g : Nat → Int64} (h : ∀ e, e < n → nmR (f e) (g e)) : ∃ w : Nat → Nat → Nat, ∀ e, e < n → (f e = nI (pn_27 (w e)) ∧ pn_ok (w e)) ∧ ∃ k, 1 ≤ k ∧ k ≤ 6 ∧ (∀ i, i < k → 1 ≤ w e i ∧ w e i ≤ 26) ∧ (∀ i, k ≤ i → w e i = 0) ∧ g e = lN (pn_256 (w e) k) := by
  have h1 : ∀ e, ∃ l : Nat → Nat, e < n → (f e = nI (pn_27 l) ∧ pn_ok l) ∧ ∃ k, 1 ≤ k ∧ k ≤ 6 ∧ (∀ i, i < k → 1 ≤ l i ∧ l i ≤ 26) ∧ (∀ i, k ≤ i → l i = 0) ∧ g e = lN (pn_256 l k) := fun e => by
    by_cases c : e < n
    · obtain ⟨l, k, k1, k2, k3, k4, k5, k6⟩ := h e c
      exact ⟨l, fun _ => ⟨⟨k5, k, k2, k3, k4⟩, k, k1, k2, k3, k4, k6⟩⟩
    · exact ⟨fun _ => 0, fun z => absurd z c⟩
  exact ⟨fun e => Classical.choose (h1 e), fun e he => Classical.choose_spec (h1 e) he⟩
theorem mRul_L {b w : Nat} {told : Bool} {L : List Nat} {sf sb cs cv : Nat → Int32} {Cd : List Nat} (h : mRul b w told L sf sb Cd) (hc : mCd b Cd cs cv) (hl : Cd.length ≤ 1600) : mL b w sf sb cs cv (pDf w) L ∧ L.length ≤ 1600 := by
  rcases h with ⟨-, h1, h2⟩ | ⟨-, f, h1, h2, h3, h4⟩
  · refine ⟨Or.inl ⟨h1, h2⟩, ?_⟩
    rw [h2]; unfold pDf
    split
    · show 1 ≤ 1600; omega
    · split
      · show 3 ≤ 1600; omega
      · show 1 ≤ 1600; omega
  · refine ⟨Or.inr ⟨f, f + L.length, h1, h2, rfl, by omega, fun j c hj => ?_⟩, by omega⟩
    obtain ⟨s, v, e1, e2, e3⟩ := hc (f + j) c (h4 j c hj)
    rw [← Nat.add_assoc] at e1 e2
    exact ⟨s, v, e1, e2, e3⟩
theorem h_glue {G : PG} (hg : gok G) {b : Nat} {Cd : List Nat} {I sf cs cv sb pl ea : Nat → Int32} {en pn : Nat → Int64} {mt pa ta ro sh co hu vo : Nat → Int32} (h : mHs nmR G b Cd I sf cs cv sb pl ea en pn mt pa ta ro sh co hu vo) (hl : Cd.length ≤ 1600) :
    ph_ok (gH G) ∧ p_mok (gH G) (gM G) ∧ (∀ mmI : Nat → Int32, mmI 13 = nI b → mH (gH G) b mmI sf sb cs cv mt ea pl pa sh) ∧ co b = nI ((gH G).1 3) ∧ ∃ W : Nat → Nat → Nat → Nat, mW (gH G) W b en pn ∧ ∀ eF pF : Nat → Int32, (∀ e, e < G.1 1 → eF e = G.2.2.1 0 e) → (∀ p, p < G.1 2 → pF p = G.2.2.1 1 p) → cW (gH G) W eF pF := by
  obtain ⟨g0, g1, g2, g3, g4, g5, g6, g7, g8, g9, g10, g11, g12⟩ := hg
  obtain ⟨hb, -, -, hc, h1, h2, h3, h4, h5, h6, h7, h8, h9⟩ := h
  have r0 := mRul_L (h9 0 (by decide)) hc hl
  have r1 := mRul_L (h9 1 (by decide)) hc hl
  have r2 := mRul_L (h9 2 (by decide)) hc hl
  refine ⟨⟨g0, g1, g2, g3, fun k hk => ⟨(g8 k hk).1, (g8 k hk).2.1⟩, g9, fun e he => (g7 e he).2, g10, g11, g12, r0.2, r1.2, r2.2, g6⟩, ⟨by show 0 ≤ 999; omega, g4, by show 0 ≤ 999; omega, by show 0 ≤ 20; omega, g5⟩, fun mmI h13 => ⟨hb, h13, h1, h5, h6, fun k hk => (h8 k hk).2.1, fun e he => (h7 e he).2.2, r0.1, r1.1, r2.1⟩, h4, ?_⟩
  obtain ⟨w0, hw0⟩ := nm_pick (n := G.1 1) (f := G.2.2.1 0) (g := fun e => en (7 * b + e)) (fun e he => (h7 e he).1)
  obtain ⟨w1, hw1⟩ := nm_pick (n := G.1 2) (f := G.2.2.1 1) (g := fun e => pn (6 * b + e)) (fun e he => (h8 e he).1)
  refine ⟨fun t => if t = 0 then w0 else w1, ⟨fun e he => (hw0 e he).2, fun p hp => (hw1 p hp).2⟩, fun eF pF k1 k2 => ⟨fun e he => ?_, fun p hp => ?_⟩⟩
  · rw [k1 e he]; exact (hw0 e he).1
  · rw [k2 p hp]; exact (hw1 p hp).1
