/-! the class's row of pieces -/
theorem nI_lt300 {c : Nat} (h : c < 300) : nI c < (300 : Int32) := nI_lt (b := 300) h (by decide)
theorem mSg_lt {c : Nat} (h : mSg c) : c < 128 := by unfold mSg at h; omega
/-- whether a kind is a word or a number -/
def lxWn (k : Int32) : Bool := decide (k = -3 ∨ k = -4 ∨ ¬ k < 300)
theorem lx_wn {T : PT} (hb : ∀ i, i < T.1 → T.2 i < 256) {e : Nat} (he : e ≤ T.1) {k v : Int32} (h : lxR T e k v) (h1 : ¬ k = -1) (h2 : ¬ k = -2) : 0 < lxE T e ∧ (lxWn k = true ↔ lxAl (T.2 (lxE T e - 1)) = true) := by
  obtain ⟨s1, s2, s3, s4⟩ := lxS_s T he
  obtain ⟨x1, x2, x3⟩ := lxE_s T he
  obtain ⟨r1, r2, r3, r4⟩ := h
  have ca : lxS T e < T.1 := by
    by_cases c : lxS T e < T.1
    · exact c
    · exact absurd (r1 (by omega)).1 h1
  have x4 := x3 ca
  refine ⟨by omega, ?_⟩
  cases hL : lxL (T.2 (lxS T e)) with
  | true =>
    have eE : lxE T e = lxG lxL T (lxS T e) := by unfold lxE; rw [if_neg (by omega), if_pos hL]
    obtain ⟨g1, g2, g3, g4⟩ := lxG_s lxL T (lxS T e)
    rw [← eE] at g3
    have ha : lxAl (T.2 (lxE T e - 1)) = true := by unfold lxAl; rw [g3 _ (by omega) (by omega)]; rfl
    obtain ⟨q1, q2, q3⟩ := r2 ca hL
    have hw : lxWn k = true := by
      by_cases cj : lxJ T e
      · exact absurd (q1 cj).1 h2
      · by_cases c6 : lxE T e - lxS T e ≤ 6
        · rcases (q3 cj c6).2 with ⟨w, hw, -, z⟩ | ⟨z, -⟩
          · refine decide_eq_true (Or.inr (Or.inr ?_))
            rw [z]; exact nI_nlt (b := 300) (by omega) (by omega)
          · exact decide_eq_true (Or.inr (Or.inl z))
        · exact absurd (q2 cj (by omega)).1 h2
    rw [hw, ha]
  | false =>
    cases hD : lxD (T.2 (lxS T e)) with
    | true =>
      have eE : lxE T e = lxG lxD T (lxS T e) := by unfold lxE; rw [if_neg (by omega), if_neg (by rw [hL]; decide), if_pos hD]
      obtain ⟨g1, g2, g3, g4⟩ := lxG_s lxD T (lxS T e)
      rw [← eE] at g3
      have ha : lxAl (T.2 (lxE T e - 1)) = true := by unfold lxAl; rw [g3 _ (by omega) (by omega), Bool.or_true]
      obtain ⟨q1, q2, q3⟩ := r3 ca hL hD
      have hw : lxWn k = true := by
        by_cases cj : lxJ T e
        · exact absurd (q1 cj).1 h2
        · by_cases c6 : lxE T e - lxS T e ≤ 4
          · exact decide_eq_true (Or.inl (q3 cj c6).1)
          · exact absurd (q2 cj (by omega)).1 h2
      rw [hw, ha]
    | false =>
      have eE : lxE T e = lxS T e + 1 := by unfold lxE; rw [if_neg (by omega), if_neg (by rw [hL]; decide), if_neg (by rw [hD]; decide)]
      have ha : lxAl (T.2 (lxE T e - 1)) = false := by
        rw [eE, show lxS T e + 1 - 1 = lxS T e by omega]; unfold lxAl; rw [hL, hD]; rfl
      obtain ⟨q1, q2, q3⟩ := r4 ca hL hD
      have hw : lxWn k = false := by
        by_cases cs : mSg (T.2 (lxS T e))
        · have := mSg_lt cs
          have z := q2 cs
          refine decide_eq_false (fun y => ?_)
          rw [z] at y
          rcases y with y | y | y
          · have := (fa_eq _ _).mp y
            rw [nI_toInt (by omega)] at this
            have e3 : (-3 : Int32).toInt = -3 := rfl
            omega
          · have := (fa_eq _ _).mp y
            rw [nI_toInt (by omega)] at this
            have e3 : (-4 : Int32).toInt = -4 := rfl
            omega
          · exact y (nI_lt300 (by omega))
        · exact absurd (q3 cs) h2
      rw [hw, ha]
section
variable (N : Nat) {T : PT} {taI bF : Nat → Int32}
theorem c_ends {txI kF : Nat → Int32} {t nT : Nat} (h4 : txI 4 = nI t) (ht : t < nT) (hn : nT ≤ 1601) : fX10_endsInWordOrNumber N txI kF nT = some (p_b (decide (0 < t) && lxWn (kF (t - 1)))) := by
  unfold fX10_endsInWordOrNumber
  rw [h4]
  by_cases c : t = 0
  · subst c; rw [if_pos (show nI 0 = 0 from rfl)]; rfl
  · obtain ⟨k, rfl⟩ : ∃ k, t = k + 1 := ⟨t - 1, by omega⟩
    rw [if_neg (nI_ne0 (by omega) (by omega)), nI_pred, xs_ald (by omega) (by omega), xs_bd, decide_eq_true (show 0 < k + 1 by omega), Bool.true_and, show k + 1 - 1 = k by omega]
    unfold lxWn
    by_cases c1 : kF k = -3
    · rw [if_pos c1, decide_eq_true (Or.inl c1)]; rfl
    · rw [if_neg c1]
      by_cases c2 : kF k = -4
      · rw [if_pos c2, decide_eq_true (Or.inr (Or.inl c2))]; rfl
      · rw [if_neg c2]
        by_cases c3 : kF k < 300
        · rw [if_pos c3, decide_eq_false (fun z => by
            rcases z with z | z | z
            · exact c1 z
            · exact c2 z
            · exact z c3)]; rfl
        · rw [if_neg c3, decide_eq_true (Or.inr (Or.inr c3))]; rfl
theorem c_pieces (hN : 5000 ≤ N) (h : cT T taI bF) (hT : T.1 ≤ 1600) : ∃ txI' K St V n, fX10_readPieces N (va_up (fun _ => 0) 7 (-1)) taI bF (fun _ => 0) (fun _ => 0) (fun _ => 0) (T.1 + 1) (T.1 + 1) (T.1 + 1) = some (txI', K, St, V) ∧ cA n 0 txI' ∧ cX n (T.1 + 1) K ∧ (∀ i, i < n → lxR T (lxe T i) (K i) (V i) ∧ St i = nI (lxS T (lxe T i))) ∧ ∀ i, n ≤ i → K i = 0 := by
  unfold fX10_readPieces
  refine xs_loopI (body := fX10_readPieces_l4 N taI bF (T.1 + 1) (T.1 + 1) (T.1 + 1)) (fun r st => ∃ t txI kF sF vF, st = (txI, kF, sF, vF, nI (lxe T t), nI t) ∧ t + r = T.1 + 1 ∧ txI 4 = nI t ∧ txI 5 = 0 ∧ txI 6 = 0 ∧ txI 7 = -1 ∧ t ≤ lxe T t ∧ (∀ i, i < t → (lxR T (lxe T i) (kF i) (vF i) ∧ sF i = nI (lxS T (lxe T i))) ∧ ¬ kF i = -1 ∧ ¬ kF i = -2) ∧ ∀ i, t ≤ i → kF i = 0) (fun q => ∃ txI' K St V n, q = some (txI', K, St, V) ∧ cA n 0 txI' ∧ cX n (T.1 + 1) K ∧ (∀ i, i < n → lxR T (lxe T i) (K i) (V i) ∧ St i = nI (lxS T (lxe T i))) ∧ ∀ i, n ≤ i → K i = 0) ?_ N (T.1 + 1) _ ⟨0, va_up (fun _ => 0) 7 (-1), fun _ => 0, fun _ => 0, fun _ => 0, rfl, by omega, rfl, rfl, rfl, rfl, Nat.zero_le _, fun i hi => absurd hi (Nat.not_lt_zero _), fun _ _ => rfl⟩ (by omega)
  rintro r st kk ⟨t, txI, kF, sF, vF, rfl, hr, h4, h5, h6, h7, hte, hall, hz⟩ hgo
  have hle := lxe_le T t
  obtain ⟨s1, s2, s3, s4⟩ := lxS_s T hle
  obtain ⟨x1, x2, x3⟩ := lxE_s T hle
  have hb : ∀ i, i < T.1 → T.2 i < 256 := fun i hi => (h.2 i hi).2
  dsimp only [fX10_readPieces_l4]
  rw [h.1, if_neg (nI_nlt (by omega) (by omega))]
  have skip : xq_loop (fX10_readPieces_l17 N taI bF (T.1 + 1) (T.1 + 1) (T.1 + 1) kk) N (txI, kF, sF, vF, nI (lxe T t), nI t, nI (lxe T t)) = fX10_readPieces_b48 N taI bF (T.1 + 1) (T.1 + 1) (T.1 + 1) kk (txI, kF, sF, vF, nI (lxe T t), nI t, nI (lxS T (lxe T t))) := by
    refine xs_loop (body := fX10_readPieces_l17 N taI bF (T.1 + 1) (T.1 + 1) (T.1 + 1) kk) (fun k => (txI, kF, sF, vF, nI (lxe T t), nI t, nI (lxe T t + k))) (lxS T (lxe T t) - lxe T t) _ ?_ ?_ N (by omega)
    · intro k hk kk2
      have hp := s3 (lxe T t + k) (by omega) (by omega)
      dsimp only [fX10_readPieces_l17]
      rw [h.1, if_neg (nI_ge (by omega) (by omega)), c_at N h hT (by omega), xs_bd, c_isB N _ (hb _ (by omega)), xs_bd, hp, if_neg (show ¬ p_b true = 0 by decide), nI_1]
      rfl
    · intro kk2
      dsimp only [fX10_readPieces_l17]
      rw [show lxe T t + (lxS T (lxe T t) - lxe T t) = lxS T (lxe T t) by omega, h.1]
      by_cases c : T.1 ≤ lxS T (lxe T t)
      · rw [if_pos (nI_le c (by omega))]
      · rw [if_neg (nI_ge (by omega) (by omega)), c_at N h hT (by omega), xs_bd, c_isB N _ (hb _ (by omega)), xs_bd, s4 (by omega), if_pos (show p_b false = 0 from rfl)]
  rw [skip]
  obtain ⟨k, v, e1, e2⟩ := c_readPiece N hN h hT (txI := txI) (kF := kF) (sF := sF) (vF := vF) (c := t) (nT := T.1 + 1) hle h4 (by omega) (by omega) (jb := decide (lxe T t = lxS T (lxe T t))) ⟨fun z => of_decide_eq_true z, fun z => decide_eq_true z⟩ (c_ends N h4 (by omega) (by omega)) (fun he => by
    by_cases c : t = 0
    · subst c
      have e0 : lxe T 0 = 0 := rfl
      rw [e0] at he
      rw [e0, ← he]
      constructor
      · intro z; cases z
      · intro z; omega
    · obtain ⟨u, rfl⟩ : ∃ u, t = u + 1 := ⟨t - 1, by omega⟩
      obtain ⟨⟨q1, -⟩, q2, q3⟩ := hall u (by omega)
      obtain ⟨w1, w2⟩ := lx_wn hb (lxe_le T u) q1 q2 q3
      have w1 : 0 < lxe T (u + 1) := w1
      have w2 : lxWn (kF u) = true ↔ lxAl (T.2 (lxe T (u + 1) - 1)) = true := w2
      rw [← he, decide_eq_true (show 0 < u + 1 by omega), Bool.true_and, show u + 1 - 1 = u by omega, w2]
      exact ⟨fun z => ⟨w1, z⟩, fun z => z.2⟩)
  have h48 : fX10_readPieces_b48 N taI bF (T.1 + 1) (T.1 + 1) (T.1 + 1) kk (txI, kF, sF, vF, nI (lxe T t), nI t, nI (lxS T (lxe T t))) = fX10_readPieces_b60 N taI bF (T.1 + 1) (T.1 + 1) (T.1 + 1) kk (txI, kF, sF, vF, nI t, nI (lxS T (lxe T t)), p_b (decide (lxe T t = lxS T (lxe T t)))) := by
    dsimp only [fX10_readPieces_b48]
    by_cases c : lxe T t = lxS T (lxe T t)
    · rw [if_pos (by rw [← c]), decide_eq_true c]; rfl
    · rw [if_neg (fun z => c ((nI_eq (by omega) (by omega)).mp z).symm), decide_eq_false c]; rfl
  rw [h48]
  dsimp only [fX10_readPieces_b60]
  rw [e1, xs_bd]
  dsimp only
  have ald : xq_ald (T.1 + 1) (upd kF t k) ((va_up txI 4 (nI (t + 1))) 4 - 1) = some k := by
    show xq_ald (T.1 + 1) (upd kF t k) (nI (t + 1) - 1) = some k
    rw [nI_pred, xs_ald (by omega) (by omega), show upd kF t k t = k from if_pos rfl]
  rw [if_neg (show ¬ (va_up txI 4 (nI (t + 1))) 4 = 0 from nI_ne0 (by omega) (by omega)), ald, xs_bd, xs_bd]
  have good : ∀ i, i < t + 1 → lxR T (lxe T i) (upd kF t k i) (upd vF t v i) ∧ upd sF t (nI (lxS T (lxe T t))) i = nI (lxS T (lxe T i)) := by
    intro i hi
    unfold upd
    by_cases c : i = t
    · rw [if_pos c, if_pos c, if_pos c, c]; exact ⟨e2, rfl⟩
    · rw [if_neg c, if_neg c, if_neg c]; exact (hall i (by omega)).1
  have zero : ∀ i, t + 1 ≤ i → upd kF t k i = 0 := fun i hi => (if_neg (by omega)).trans (hz i (by omega))
  have fin : k = -1 ∨ k = -2 → ∃ txI' K St V n, some (va_up txI 4 (nI (t + 1)), upd kF t k, upd sF t (nI (lxS T (lxe T t))), upd vF t v) = some (txI', K, St, V) ∧ cA n 0 txI' ∧ cX n (T.1 + 1) K ∧ (∀ i, i < n → lxR T (lxe T i) (K i) (V i) ∧ St i = nI (lxS T (lxe T i))) ∧ ∀ i, n ≤ i → K i = 0 := by
    intro hk
    refine ⟨_, _, _, _, t + 1, rfl, ⟨rfl, h5, h6, by omega, h7⟩, ⟨by omega, by omega, fun j hj => ?_, ?_⟩, good, zero⟩
    · rw [show upd kF t k j = kF j from if_neg (by omega)]; exact (hall j (by omega)).2
    · rw [show t + 1 - 1 = t by omega, show upd kF t k t = k from if_pos rfl]; exact hk
  by_cases k1 : k = -1
  · rw [if_pos k1]; exact fin (Or.inl k1)
  · rw [if_neg k1]
    by_cases k2 : k = -2
    · rw [if_pos k2]; exact fin (Or.inr k2)
    · have ca : lxS T (lxe T t) < T.1 := by
        by_cases c : lxS T (lxe T t) < T.1
        · exact c
        · exact absurd (e2.1 (by omega)).1 k1
      have x4 := x3 ca
      rw [if_neg k2, nI_1]
      refine hgo _ (r - 1) (by omega) ⟨t + 1, va_up txI 4 (nI (t + 1)), upd kF t k, upd sF t (nI (lxS T (lxe T t))), upd vF t v, rfl, by omega, rfl, h5, h6, h7, ?_, fun i hi => ⟨good i hi, ?_⟩, zero⟩
      · show t + 1 ≤ lxE T (lxe T t)
        omega
      · by_cases c : i = t
        · rw [c, show upd kF t k t = k from if_pos rfl]; exact ⟨k1, k2⟩
        · rw [show upd kF t k i = kF i from if_neg c]; exact (hall i (by omega)).2
end
