/-! what the readers want of the pieces, from the lexers -/
section
variable (N : Nat) {T : PT} {tF K St V : Nat → Int32} {n : Nat}
theorem lxR_m1 (hT : T.1 ≤ 1600) (hb : ∀ i, i < T.1 → T.2 i < 256) {e : Nat} {k v : Int32} (h : lxR T e k v) : T.1 ≤ lxS T e ↔ k = -1 := by
  have n1 : (-1 : Int32).toInt < 0 := by decide
  obtain ⟨r1, r2, r3, r4⟩ := h
  constructor
  · intro z; exact (r1 z).1
  · intro z
    by_cases ca : T.1 ≤ lxS T e
    · exact ca
    · exfalso
      subst z
      have ca : lxS T e < T.1 := by omega
      cases hL : lxL (T.2 (lxS T e)) with
      | true =>
        obtain ⟨q1, q2, q3⟩ := r2 ca hL
        by_cases cj : lxJ T e
        · exact absurd (q1 cj).1 (by decide)
        · by_cases c6 : 6 < lxE T e - lxS T e
          · exact absurd (q2 cj c6).1 (by decide)
          · rcases (q3 cj (by omega)).2 with ⟨w, hw, -, y⟩ | ⟨y, -⟩
            · exact nI_ng (by omega) n1 y.symm
            · exact absurd y (by decide)
      | false =>
        cases hD : lxD (T.2 (lxS T e)) with
        | true =>
          obtain ⟨q1, q2, q3⟩ := r3 ca hL hD
          by_cases cj : lxJ T e
          · exact absurd (q1 cj).1 (by decide)
          · by_cases c6 : 4 < lxE T e - lxS T e
            · exact absurd (q2 cj c6).1 (by decide)
            · exact absurd (q3 cj (by omega)).1 (by decide)
        | false =>
          obtain ⟨q1, q2, q3⟩ := r4 ca hL hD
          by_cases c : mSg (T.2 (lxS T e))
          · exact nI_ng (by have := hb _ ca; omega) n1 (q2 c).symm
          · exact absurd (q3 c) (by decide)
theorem lxR_m3 (hT : T.1 ≤ 1600) (hb : ∀ i, i < T.1 → T.2 i < 256) {e : Nat} (he : e ≤ T.1) {k v : Int32} (h : lxR T e k v) (h3 : k = -3) : ∃ x, x ≤ 9999 ∧ v = nI x := by
  have n3 : (-3 : Int32).toInt < 0 := by decide
  have hm := lxR_m1 hT hb h
  obtain ⟨r1, r2, r3, r4⟩ := h
  subst h3
  have ca : lxS T e < T.1 := by
    by_cases ca : lxS T e < T.1
    · exact ca
    · exact absurd (hm.mp (by omega)) (by decide)
  cases hL : lxL (T.2 (lxS T e)) with
  | true =>
    exfalso
    obtain ⟨q1, q2, q3⟩ := r2 ca hL
    by_cases cj : lxJ T e
    · exact absurd (q1 cj).1 (by decide)
    · by_cases c6 : 6 < lxE T e - lxS T e
      · exact absurd (q2 cj c6).1 (by decide)
      · rcases (q3 cj (by omega)).2 with ⟨w, hw, -, y⟩ | ⟨y, -⟩
        · exact nI_ng (by omega) n3 y.symm
        · exact absurd y (by decide)
  | false =>
    cases hD : lxD (T.2 (lxS T e)) with
    | true =>
      obtain ⟨q1, q2, q3⟩ := r3 ca hL hD
      by_cases cj : lxJ T e
      · exact absurd (q1 cj).1 (by decide)
      · by_cases c6 : 4 < lxE T e - lxS T e
        · exact absurd (q2 cj c6).1 (by decide)
        · refine ⟨_, ?_, (q3 cj (by omega)).2⟩
          have eE : lxE T e = lxG lxD T (lxS T e) := by
            unfold lxE
            rw [if_neg (by omega), if_neg (by rw [hL]; decide), if_pos hD]
          obtain ⟨g1, g2, g3, g4⟩ := lxG_s lxD T (lxS T e)
          rw [← eE] at g1 g2 g3 g4
          have h10 := lx10_lt (T := T) (a := lxS T e) (b := lxE T e) g3 (lxE T e - lxS T e) (by have := (lxE_s T he).1; omega)
          have hp : 10 ^ (lxE T e - lxS T e) ≤ 10 ^ 4 := Nat.pow_le_pow_right (by decide) (by omega)
          have e4 : (10 : Nat) ^ 4 = 10000 := rfl
          omega
    | false =>
      exfalso
      obtain ⟨q1, q2, q3⟩ := r4 ca hL hD
      by_cases c : mSg (T.2 (lxS T e))
      · exact nI_ng (by have := hb _ ca; omega) n3 (q2 c).symm
      · exact absurd (q3 c) (by decide)
def lxAll (T : PT) (K St V : Nat → Int32) (n : Nat) : Prop := (∀ i, i < n → lxR T (lxe T i) (K i) (V i) ∧ St i = nI (lxS T (lxe T i))) ∧ ∀ i, n ≤ i → K i = 0
theorem lx_hV (hT : T.1 ≤ 1600) (hb : ∀ i, i < T.1 → T.2 i < 256) (h : lxAll T K St V n) (i : Nat) (hi : i < n) (h3 : K i = -3) : ∃ x, x ≤ 9999 ∧ V i = nI x := lxR_m3 hT hb (lxe_le T i) (h.1 i hi).1 h3
theorem lx_hV2 (hT : T.1 ≤ 1600) (hb : ∀ i, i < T.1 → T.2 i < 256) (h : lxAll T K St V n) (i : Nat) (h3 : K i = -3) : (V i).toNatClampNeg ≤ 9999 := by
  by_cases hi : i < n
  · obtain ⟨x, x1, x2⟩ := lx_hV hT hb h i hi h3
    rw [x2, nI_clamp (by omega)]; exact x1
  · rw [h.2 i (by omega)] at h3; exact absurd h3 (by decide)
theorem lx_mAh (hN : 5000 ≤ N) (hT : T.1 ≤ 1600) (htF : ∀ i, i < T.1 → tF i = nI (T.2 i) ∧ T.2 i < 256) (h : lxAll T K St V n) : mAh N tF K St V (fun i => nI (lxe T i)) nmR (nI T.1) n := fun i I J ht hi =>
  m_aheadT N hN hT htF (lxe_le T (i + 1)) ht.1 ht.2.2.1 (h.1 (i + 1) hi).1 (h.1 (i + 1) hi).2 rfl
theorem lx_first (hN : 5000 ≤ N) (hT : T.1 ≤ 1600) (htF : ∀ i, i < T.1 → tF i = nI (T.2 i) ∧ T.2 i < 256) (h : lxAll T K St V n) (hn : 0 < n) {I : Nat → Int32} {J : Nat → Int64} (h2 : I 2 = nI T.1) (h5 : I 5 = 0) :
    ∃ I' J', fX12_ahead N I J tF = some (I', J') ∧ mTok K St V (fun i => nI (lxe T i)) nmR (nI T.1) 0 I' J' ∧ (∀ i, ¬ (i = 3 ∨ i = 4 ∨ i = 5 ∨ i = 6 ∨ i = 12) → I' i = I i) ∧ ∀ i, ¬ i = 7 → J' i = J i :=
  m_aheadT N hN hT htF (lxe_le T 0) h2 h5 (h.1 0 hn).1 (h.1 0 hn).2 rfl
theorem m_skip2 (hN : 5000 ≤ N) (hT : T.1 ≤ 1600) (htF : ∀ i, i < T.1 → tF i = nI (T.2 i) ∧ T.2 i < 256) {e : Nat} (he : e ≤ T.1) {I : Nat → Int32} {J : Nat → Int64} (x1 : Int32) (h2 : I 2 = nI T.1) : xq_loop (fX12_finishes_l17 N tF) N (I, J, x1, nI e) = fX12_finishes_b53 N tF (I, J, x1, nI (lxS T e)) := by
  obtain ⟨s1, s2, s3, s4⟩ := lxS_s T he
  refine xs_loop (body := fX12_finishes_l17 N tF) (fun k => (I, J, x1, nI (e + k))) (lxS T e - e) _ ?_ ?_ N (by omega)
  · intro k hk kk
    have hp := of_decide_eq_true (s3 (e + k) (by omega) (by omega))
    dsimp only [fX12_finishes_l17]
    rw [h2, if_neg (nI_ge (by omega) (by omega)), xs_ald (by omega) (by decide), xs_bd, xs_bd, (htF (e + k) (by omega)).1]
    by_cases c : T.2 (e + k) = 32
    · rw [c, if_pos (show nI 32 = 32 from rfl)]
      dsimp only [fX12_finishes_b47]
      rw [nI_1]; rfl
    · have : T.2 (e + k) = 10 := by omega
      rw [this, if_neg (show ¬ nI 10 = (32 : Int32) by decide), if_pos (show nI 10 = 10 from rfl)]
      dsimp only [fX12_finishes_b47]
      rw [nI_1]; rfl
  · intro kk
    dsimp only [fX12_finishes_l17]
    rw [show e + (lxS T e - e) = lxS T e by omega, h2]
    by_cases c : T.1 ≤ lxS T e
    · rw [if_pos (nI_le c (by omega))]
    · have hp := of_decide_eq_false (s4 (by omega))
      have hb := htF (lxS T e) (by omega)
      rw [if_neg (nI_ge (by omega) (by omega)), xs_ald (by omega) (by decide), xs_bd, xs_bd, hb.1, if_neg (show ¬ nI (T.2 (lxS T e)) = (32 : Int32) from fun z => by have := (nI_eq (b := 32) (by omega) (by omega)).mp z; omega), if_neg (show ¬ nI (T.2 (lxS T e)) = (10 : Int32) from fun z => by have := (nI_eq (b := 10) (by omega) (by omega)).mp z; omega)]
theorem lx_mSk (hN : 5000 ≤ N) (hT : T.1 ≤ 1600) (htF : ∀ i, i < T.1 → tF i = nI (T.2 i) ∧ T.2 i < 256) (h : lxAll T K St V n) : mSk N tF K St (fun i => nI (lxe T i)) (nI T.1) n := fun i I J x1 hi h5 h2 => by
  refine ⟨nI (lxS T (lxe T (i + 1))), ?_, fun hi2 => ⟨(h.1 (i + 1) hi2).2.symm, ?_⟩⟩
  · rw [h5]
    exact m_skip2 N hN hT htF (lxe_le T (i + 1)) x1 h2
  · rw [(h.1 (i + 1) hi2).2]
    have hm := lxR_m1 hT (fun i hi => (htF i hi).2) (h.1 (i + 1) hi2).1
    have hs := (lxS_s T (lxe_le T (i + 1))).2.1
    rw [← hm]
    constructor
    · intro z
      by_cases c : T.1 ≤ lxS T (lxe T (i + 1))
      · exact c
      · exact absurd z (nI_ge (by omega) (by omega))
    · intro z; exact nI_le z (by omega)
end
