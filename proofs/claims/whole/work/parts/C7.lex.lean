/-! the pieces of a text, plainly -/
def lxB (c : Nat) : Bool := decide (c = 10 ∨ c = 32)
def lxL (c : Nat) : Bool := decide (97 ≤ c ∧ c ≤ 122)
def lxD (c : Nat) : Bool := decide (48 ≤ c ∧ c ≤ 57)
def lxG (p : Nat → Bool) (T : PT) (e : Nat) : Nat := e + fa_first (fun k => !(p (T.2 (e + k)))) (T.1 - e)
theorem lxG_s (p : Nat → Bool) (T : PT) (e : Nat) : e ≤ lxG p T e ∧ (e ≤ T.1 → lxG p T e ≤ T.1) ∧ (∀ j, e ≤ j → j < lxG p T e → p (T.2 j) = true) ∧ (lxG p T e < T.1 → p (T.2 (lxG p T e)) = false) := by
  have h1 := fa_first_le (fun k => !(p (T.2 (e + k)))) (T.1 - e)
  have h2 := fa_first_no (fun k => !(p (T.2 (e + k)))) (T.1 - e)
  have h3 := fa_first_yes (fun k => !(p (T.2 (e + k)))) (T.1 - e)
  unfold lxG
  refine ⟨by omega, fun h => by omega, fun j j1 j2 => ?_, fun h => ?_⟩
  · have := h2 (j - e) (by omega)
    have e1 : e + (j - e) = j := by omega
    simp only [e1] at this
    simpa using this
  · have := h3 (by omega)
    simpa using this
def lxOs : List Nat := [114, 111, 117, 110, 100, 32, 118, 111, 105, 99, 101, 32, 104, 117, 115, 104, 32, 99, 111, 117, 103, 104, 32, 101, 97, 114, 32, 114, 111, 119, 32, 115, 104, 97, 114, 112, 32, 112, 108, 97, 99, 101, 32, 97, 116, 32, 116, 97, 108, 107, 32, 103, 111, 101, 115, 32, 104, 101, 97, 114, 115, 32, 116, 97, 108, 107, 115, 32, 110, 105, 103, 104, 116, 32, 109, 105, 108, 101, 32, 114, 111, 117, 110, 100, 115, 32, 102, 97, 114, 32, 105, 102, 32, 111, 114, 32, 97, 110, 100, 32, 110, 111, 116, 32, 97, 108, 108, 32, 109, 105, 110, 32, 109, 97, 120, 32]
def lxO (i : Nat) : Nat := lxOs.getD i 0
def lxF (w : Nat) : Nat := ([0, 6, 12, 17, 23, 27, 31, 37, 43, 46, 51, 56, 62, 68, 74, 79, 86, 90, 93, 96, 100, 104, 108, 112, 116] : List Nat).getD w 0
def lxN (w : Nat) : Nat := ([5, 5, 4, 5, 3, 3, 5, 5, 2, 4, 4, 5, 5, 5, 4, 6, 3, 2, 2, 3, 3, 3, 3, 3] : List Nat).getD w 0
def lxC (w : Nat) : Nat := ([491496238692, 508675318629, 1752527720, 427071727464, 6644082, 7499639, 495672455792, 482854658917, 24948, 1952541803, 1735353715, 448377483891, 499850701683, 474214787188, 1835625573, 125823037105267, 6709618, 26982, 28530, 6385252, 7237492, 6384748, 7170414, 7168376] : List Nat).getD w 0
theorem lx_t1 : ∀ w, w < 24 → lxF (w + 1) = lxF w + lxN w + 1 ∧ lxO (lxF w + lxN w) = 32 ∧ lxF (w + 1) ≤ 116 ∧ 1 ≤ lxN w ∧ lxN w ≤ 6 := by decide +kernel
theorem lx_t2 : ∀ w, w < 24 → ∀ j, j < lxN w → ¬ lxO (lxF w + j) = 32 ∧ 97 ≤ lxO (lxF w + j) ∧ lxO (lxF w + j) ≤ 122 := by decide +kernel
theorem lx_t3 (w : Nat) (h : w < 24) : mWd w = lN (lxC w) := by
  have : w = 0 ∨ w = 1 ∨ w = 2 ∨ w = 3 ∨ w = 4 ∨ w = 5 ∨ w = 6 ∨ w = 7 ∨ w = 8 ∨ w = 9 ∨ w = 10 ∨ w = 11 ∨ w = 12 ∨ w = 13 ∨ w = 14 ∨ w = 15 ∨ w = 16 ∨ w = 17 ∨ w = 18 ∨ w = 19 ∨ w = 20 ∨ w = 21 ∨ w = 22 ∨ w = 23 := by omega
  rcases this with rfl | rfl | rfl | rfl | rfl | rfl | rfl | rfl | rfl | rfl | rfl | rfl | rfl | rfl | rfl | rfl | rfl | rfl | rfl | rfl | rfl | rfl | rfl | rfl <;> rfl
def pw256 (f : Nat → Nat) : Nat → Nat
  | 0 => 0
  | i + 1 => pw256 f i * 256 + f i
theorem lx_t4 : ∀ w, w < 24 → lxC w = pw256 (fun i => lxO (lxF w + i)) (lxN w) := by decide +kernel
theorem pw_cg {f g : Nat → Nat} : ∀ {k : Nat}, (∀ i, i < k → f i = g i) → pw256 f k = pw256 g k
  | 0, _ => rfl
  | k + 1, h => by
    show pw256 f k * 256 + f k = pw256 g k * 256 + g k
    rw [pw_cg fun i hi => h i (by omega), h k (by omega)]
theorem pw_inj {f g : Nat → Nat} : ∀ {k m : Nat}, (∀ i, i < k → 1 ≤ f i ∧ f i < 256) → (∀ i, i < m → 1 ≤ g i ∧ g i < 256) → pw256 f k = pw256 g m → k = m ∧ ∀ i, i < k → f i = g i
  | 0, 0, _, _, _ => ⟨rfl, fun i hi => absurd hi (Nat.not_lt_zero _)⟩
  | 0, m + 1, _, hg, h => by
    have := hg m (by omega)
    have h : 0 = pw256 g m * 256 + g m := h
    omega
  | k + 1, 0, hf, _, h => by
    have := hf k (by omega)
    have h : pw256 f k * 256 + f k = 0 := h
    omega
  | k + 1, m + 1, hf, hg, h => by
    have a := hf k (by omega)
    have b := hg m (by omega)
    have h : pw256 f k * 256 + f k = pw256 g m * 256 + g m := h
    obtain ⟨e1, e2⟩ := pw_inj (k := k) (m := m) (fun i hi => hf i (by omega)) (fun i hi => hg i (by omega)) (by omega)
    refine ⟨by omega, fun i hi => ?_⟩
    by_cases c : i = k
    · subst c e1; omega
    · exact e2 i (by omega)
theorem pw_lt {f : Nat → Nat} (hf : ∀ i, f i < 256) : ∀ k, pw256 f k < 256 ^ k
  | 0 => by show 0 < 1; omega
  | k + 1 => by
    have h1 := pw_lt hf k
    have h2 := hf k
    show pw256 f k * 256 + f k < 256 ^ k * 256
    omega
/-- the word of bytes a .. b: which of the own ones -/
def lxM (T : PT) (a b w : Nat) : Prop := b = a + lxN w ∧ ∀ i, i < lxN w → T.2 (a + i) = lxO (lxF w + i)
theorem lxM_1 {T : PT} {a b w w' : Nat} (hw : w < 24) (hw' : w' < 24) (h : lxM T a b w) (h' : lxM T a b w') : w = w' := by
  have e : lxN w = lxN w' := by have := h.1; have := h'.1; omega
  have : lxC w = lxC w' := by
    rw [lx_t4 w hw, lx_t4 w' hw', ← e]
    exact pw_cg fun i hi => (h.2 i hi).symm.trans (h'.2 i (by omega))
  have inj : ∀ u, u < 24 → ∀ u', u' < 24 → lxC u = lxC u' → u = u' := by decide +kernel
  exact inj w hw w' hw' this
theorem lxM_c {T : PT} {a b w : Nat} (hw : w < 24) (hb : a ≤ b) (hT : ∀ i, a ≤ i → i < b → lxL (T.2 i) = true) : lxM T a b w ↔ pw256 (fun i => T.2 (a + i)) (b - a) = lxC w := by
  rw [lx_t4 w hw]
  constructor
  · intro h
    have : b - a = lxN w := by have := h.1; omega
    rw [this]; exact pw_cg fun i hi => h.2 i hi
  · intro h
    obtain ⟨e1, e2⟩ := pw_inj (fun i hi => by have := of_decide_eq_true (hT (a + i) (by omega) (by omega)); omega) (fun i hi => by have := lx_t2 w hw i hi; omega) h
    exact ⟨by omega, fun i hi => e2 i (by omega)⟩
section
variable (N : Nat) {T : PT} {taI bF : Nat → Int32}
theorem c_chr {i : Nat} (hi : i < 116) : fJ0_charAt_5068e_s1 N (nI i) = some (nI (lxO i)) := by
  have : ∀ i, i < 116 → fJ0_charAt_5068e_s1 0 (nI i) = some (nI (lxO i)) := by decide +kernel
  exact this i hi
theorem c_ownWord (hN : 5000 ≤ N) (h : cT T taI bF) (hT : T.1 ≤ 1600) {a b : Nat} (hab : a < b) (hb : b ≤ T.1) : ∃ r, fX10_ownWord N taI bF (nI a) (nI b) = some r ∧ ((∃ w, w < 24 ∧ lxM T a b w ∧ r = nI w) ∨ (r = -1 ∧ ∀ w, w < 24 → ¬ lxM T a b w)) := by
  unfold fX10_ownWord
  refine xs_loopI (body := fX10_ownWord_l11 N taI bF) (fun r st => ∃ (w j : Nat) (same : Bool), st = (nI a, nI b, nI w, nI (a + j), p_b same, nI (lxF w + j)) ∧ w ≤ 24 ∧ (w = 24 → j = 0) ∧ (w < 24 → j ≤ lxN w) ∧ lxF w + j + r = 116 ∧ (same = true ↔ ∀ i, i < j → a + i < b ∧ T.2 (a + i) = lxO (lxF w + i)) ∧ ∀ w', w' < w → ¬ lxM T a b w') (fun q => ∃ r, q = some r ∧ ((∃ w, w < 24 ∧ lxM T a b w ∧ r = nI w) ∨ (r = -1 ∧ ∀ w, w < 24 → ¬ lxM T a b w))) ?_ N 116 _ ⟨0, 0, true, rfl, by omega, fun _ => rfl, fun _ => by omega, rfl, ⟨fun _ i hi => absurd hi (Nat.not_lt_zero _), fun _ => rfl⟩, fun w' hw' => absurd hw' (Nat.not_lt_zero _)⟩ (by omega)
  rintro r st kk ⟨w, j, same, rfl, hw, hw24, hj, hr, hsame, hno⟩ hgo
  dsimp only [fX10_ownWord_l11]
  rw [show fJ0_length_8abf5_s1 N = some 116 from rfl, xs_bd]
  by_cases c24 : w = 24
  · have := hw24 c24
    subst c24; subst this
    rw [if_pos (show (116 : Int32) ≤ nI (lxF 24 + 0) by decide)]
    exact ⟨_, rfl, Or.inr ⟨rfl, hno⟩⟩
  · have hw' : w < 24 := by omega
    obtain ⟨t1, t2, t3, t4, t5⟩ := lx_t1 w hw'
    have hj := hj hw'
    rw [if_neg (show ¬ (116 : Int32) ≤ nI (lxF w + j) from nI_ge (b := 116) (by omega) (by decide)), c_chr N (by omega), xs_bd]
    have next : (¬ lxM T a b w) → j = lxN w → ∃ r, fX10_ownWord_b88 N taI bF kk (nI a, nI b, nI w, nI (lxF w + j)) = some r ∧ ((∃ w, w < 24 ∧ lxM T a b w ∧ r = nI w) ∨ (r = -1 ∧ ∀ w, w < 24 → ¬ lxM T a b w)) := by
      intro hn e
      dsimp only [fX10_ownWord_b88, fX10_ownWord_b97]
      rw [nI_1, nI_1]
      refine hgo _ (r - 1) (by omega) ⟨w + 1, 0, true, ?_, by omega, fun _ => rfl, fun _ => by omega, by omega, ⟨fun _ i hi => absurd hi (Nat.not_lt_zero _), fun _ => rfl⟩, fun w2 hw2 => ?_⟩
      · rw [t1, e]; rfl
      · by_cases e2 : w2 = w
        · rw [e2]; exact hn
        · exact hno w2 (by omega)
    by_cases cj : j = lxN w
    · rw [cj, t2, if_pos (show nI 32 = 32 from rfl), ← cj]
      cases hs : same with
      | false =>
        rw [if_pos (show p_b false = 0 from rfl)]
        refine next (fun hm => ?_) cj
        have : same = true := hsame.mpr fun i hi => ⟨by have := hm.1; omega, hm.2 i (by omega)⟩
        rw [hs] at this; cases this
      | true =>
        rw [if_neg (show ¬ p_b true = 0 by decide)]
        have hall := hsame.mp hs
        by_cases eb : a + j = b
        · rw [if_pos (by rw [eb])]
          exact ⟨_, rfl, Or.inl ⟨w, hw', ⟨by omega, fun i hi => (hall i (by omega)).2⟩, rfl⟩⟩
        · rw [if_neg (fun z => eb ((nI_eq (by omega) (by omega)).mp z))]
          exact next (fun hm => eb (by have := hm.1; omega)) cj
    · have hjl : j < lxN w := by omega
      obtain ⟨u1, u2, u3⟩ := lx_t2 w hw' j hjl
      rw [if_neg (show ¬ nI (lxO (lxF w + j)) = (32 : Int32) from fun z => u1 ((nI_eq (b := 32) (by omega) (by omega)).mp z))]
      have step : ∀ (y : Int32) (same' : Bool), y = p_b same' → (same' = true ↔ ∀ i, i < j + 1 → a + i < b ∧ T.2 (a + i) = lxO (lxF w + i)) → ∃ r, fX10_ownWord_b67 N taI bF kk (nI a, nI b, nI w, nI (a + j), nI (lxF w + j), y) = some r ∧ ((∃ w, w < 24 ∧ lxM T a b w ∧ r = nI w) ∨ (r = -1 ∧ ∀ w, w < 24 → ¬ lxM T a b w)) := by
        intro y same' hy hs'
        dsimp only [fX10_ownWord_b67, fX10_ownWord_b97]
        rw [nI_1, nI_1, hy]
        exact hgo _ (r - 1) (by omega) ⟨w, j + 1, same', rfl, hw, fun z => absurd z c24, fun _ => by omega, by omega, hs', hno⟩
      have no : ¬ (a + j < b ∧ T.2 (a + j) = lxO (lxF w + j)) ∨ same = false → ∃ r, fX10_ownWord_b66 N taI bF kk (nI a, nI b, nI w, nI (a + j), nI (lxF w + j)) = some r ∧ ((∃ w, w < 24 ∧ lxM T a b w ∧ r = nI w) ∨ (r = -1 ∧ ∀ w, w < 24 → ¬ lxM T a b w)) := by
        intro hn
        dsimp only [fX10_ownWord_b66]
        refine step 0 false rfl ⟨fun z => (by cases z), fun z => ?_⟩
        rcases hn with hn | hn
        · exact absurd (z j (by omega)) hn
        · have : same = true := hsame.mpr fun i hi => z i (by omega)
          rw [hn] at this; cases this
      cases hs : same with
      | false =>
        rw [if_pos (show p_b false = 0 from rfl)]
        exact no (Or.inr hs)
      | true =>
        rw [if_neg (show ¬ p_b true = 0 by decide)]
        have hall := hsame.mp hs
        by_cases cb : b ≤ a + j
        · rw [if_pos (nI_le cb (by omega))]
          exact no (Or.inl (fun z => by omega))
        · rw [if_neg (nI_ge (by omega) (by omega)), c_at N h hT (by omega), xs_bd]
          by_cases ce : T.2 (a + j) = lxO (lxF w + j)
          · rw [if_pos (by rw [ce])]
            refine step 1 true rfl ⟨fun _ i hi => ?_, fun _ => rfl⟩
            by_cases ei : i = j
            · rw [ei]; exact ⟨by omega, ce⟩
            · exact hall i (by omega)
          · have hb2 := (h.2 (a + j) (by omega)).2
            rw [if_neg (fun z => ce ((nI_eq (by omega) (by omega)).mp z))]
            exact no (Or.inl (fun z => ce z.2))
theorem lx_sgn : ∀ c, c < 256 → ((∃ j, j < 14 ∧ xq_sb 0 j = (nI c).toInt8.toInt32) ↔ (c = 59 ∨ c = 44 ∨ c = 40 ∨ c = 41 ∨ c = 91 ∨ c = 93 ∨ c = 43 ∨ c = 45 ∨ c = 42 ∨ c = 47 ∨ c = 37 ∨ c = 60 ∨ c = 62 ∨ c = 61)) := by decide +kernel
theorem c_indexOf (hN : 5000 ≤ N) {c : Nat} (hc : c < 256) : ∃ r, fJ0_indexOf_0f7a4_s0 N (nI c) = some r ∧ (0 ≤ r ↔ mSg c) := by
  have key : ∃ r, xq_loop (fJ1_indexOfChar_4cfef_s0_l7 N) N (14, (nI c).toInt8.toInt32, 0) = some r ∧ (0 ≤ r ↔ ∃ j, j < 14 ∧ xq_sb 0 j = (nI c).toInt8.toInt32) := by
    refine xs_loopI (body := fJ1_indexOfChar_4cfef_s0_l7 N) (fun r st => ∃ j, st = (14, (nI c).toInt8.toInt32, nI j) ∧ j + r = 14 ∧ ∀ i, i < j → ¬ xq_sb 0 i = (nI c).toInt8.toInt32) (fun q => ∃ r, q = some r ∧ (0 ≤ r ↔ ∃ j, j < 14 ∧ xq_sb 0 j = (nI c).toInt8.toInt32)) ?_ N 14 _ ⟨0, rfl, by omega, fun i hi => absurd hi (Nat.not_lt_zero _)⟩ (by omega)
    rintro r st kk ⟨j, rfl, hj, hall⟩ hgo
    dsimp only [fJ1_indexOfChar_4cfef_s0_l7]
    by_cases e : 14 ≤ j
    · rw [if_pos (show (14 : Int32) ≤ nI j from nI_le (a := 14) e (by omega))]
      exact ⟨_, rfl, ⟨fun z => absurd z (by decide), fun z => by obtain ⟨i, hi, z⟩ := z; exact absurd z (hall i (by omega))⟩⟩
    · rw [if_neg (show ¬ (14 : Int32) ≤ nI j from nI_ge (b := 14) (by omega) (by decide)), xs_ald (by omega) (by decide), xs_bd]
      by_cases z : xq_sb 0 j = (nI c).toInt8.toInt32
      · rw [if_pos z]
        exact ⟨_, rfl, ⟨fun _ => ⟨j, by omega, z⟩, fun _ => nI_pos' (by omega)⟩⟩
      · rw [if_neg z, nI_1]
        exact hgo _ (r - 1) (by omega) ⟨j + 1, rfl, by omega, fun i hi => by
          by_cases g : i = j
          · rw [g]; exact z
          · exact hall i (by omega)⟩
  obtain ⟨r, e1, e2⟩ := key
  refine ⟨r, ?_, e2.trans (lx_sgn c hc)⟩
  unfold fJ0_indexOf_0f7a4_s0 fJ0_indexOf_7cf53_s0 fJ1_indexOf_4cfef_s0 fJ1_canEncode_9a6ad fJ1_indexOfChar_4cfef_s0
  rw [show fJ0_length_8abf5_s0 N = some 14 from rfl, xs_bd, if_neg (nI_pos (by omega)), if_neg (show ¬ (255 : Int32) < nI c from nI_nlt (a := 255) (by omega) (by decide)), xs_bd, if_neg (by decide), show xq_max 0 0 = 0 from rfl, show xq_min 14 14 = 14 from rfl, if_pos (by decide), e1, xs_bd, xs_bd, xs_bd]
end
