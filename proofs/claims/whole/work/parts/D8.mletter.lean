/-! letters of names, as the reference finds them -/
theorem lN_bn {a : Nat} (h : a < 2 ^ 63) : (lN a).toBitVec.toNat = a := by
  show (BitVec.ofNat 64 a).toNat = a
  rw [BitVec.toNat_ofNat]
  exact Nat.mod_eq_of_lt (by omega)
theorem lN_shr {a : Nat} (ha : a < 2 ^ 63) {s : Int64} {k : Nat} (hk : k < 64) (hs : s.toBitVec.smod 64 = BitVec.ofNat 64 k) : lN a >>> s = lN (a / 2 ^ k) := by
  have hd : a / 2 ^ k ≤ a := Nat.div_le_self _ _
  apply Int64.toBitVec_inj.mp
  apply BitVec.eq_of_toNat_eq
  rw [lN_bn (by omega), Int64.toBitVec_shiftRight, hs]
  unfold BitVec.sshiftRight'
  rw [BitVec.sshiftRight_eq_of_msb_false (BitVec.msb_eq_false_iff_two_mul_lt.mpr (by rw [lN_bn ha]; omega)), BitVec.toNat_ushiftRight, lN_bn ha, Nat.shiftRight_eq_div_pow, BitVec.toNat_ofNat, Nat.mod_eq_of_lt (show k < 2 ^ 64 by omega)]
theorem lN_le0 {a : Nat} (ha : a < 2 ^ 63) : lg_cmp (lN a) 0 ≤ 0 ↔ a = 0 := by
  rw [lg_cmp_le, fa_le64]
  have e1 : (lN a).toInt = (a : Int) := lg_ofNat_toInt ha
  have e2 : (0 : Int64).toInt = 0 := rfl
  rw [e1, e2]; omega
theorem pn_256_dv {l : Nat → Nat} (h : ∀ i, l i ≤ 26) (k : Nat) : ∀ j, j ≤ k → pn_256 l k / 256 ^ j = pn_256 l (k - j)
  | 0, _ => by rw [Nat.pow_zero, Nat.div_one]; rfl
  | j + 1, hj => by
    rw [Nat.pow_succ, ← Nat.div_div_eq_div_mul, pn_256_dv h k j (by omega)]
    obtain ⟨d, hd⟩ : ∃ d, k - j = d + 1 := ⟨k - j - 1, by omega⟩
    rw [hd, pn_256_s h d, show k - (j + 1) = d by omega]
theorem m_letterAt (N : Nat) (hN : 5000 ≤ N) {mmI mp me : Nat → Int32} {pn en : Nat → Int64} {l : Nat → Nat} {k : Nat} (h6 : k ≤ 6) (h1 : ∀ i, i < k → 1 ≤ l i ∧ l i ≤ 26) (h0 : ∀ i, k ≤ i → l i = 0) {i : Nat} (hi : i < 6) : fX12_letter_b83 N mmI mp me pn en (nI i, lN (pn_256 l k)) = some (nI (l i)) := by
  have hl : ∀ i, l i ≤ 26 := fun i => by
    by_cases c : i < k
    · exact (h1 i c).2
    · rw [h0 i (by omega)]; omega
  have hlt := pn_256_lt hl k
  have hp : 256 ^ k ≤ 256 ^ 6 := Nat.pow_le_pow_right (by decide) h6
  have e6 : (256 : Nat) ^ 6 = 281474976710656 := rfl
  have e8 : ((8 : Int32).toInt64 &&& 63).toBitVec.smod 64 = BitVec.ofNat 64 8 := by decide
  dsimp only [fX12_letter_b83]
  have key := xs_loop (body := fX12_letter_l92 N mmI mp me pn en) (fun j => (nI i, lN (pn_256 l k), nI j, lN (pn_256 l k / 256 ^ j))) k (some (nI (l i))) ?_ ?_ N (by omega)
  · have e : pn_256 l k / 256 ^ 0 = pn_256 l k := Nat.div_one _
    rw [e] at key
    exact key
  · intro j hj kk
    have hle : pn_256 l k / 256 ^ j ≤ pn_256 l k := Nat.div_le_self _ _
    dsimp only [fX12_letter_l92]
    rw [if_neg (fun z => by
      have z2 := (lN_le0 (by omega)).mp z
      rw [pn_256_dv hl k j (by omega)] at z2
      obtain ⟨d, hd⟩ : ∃ d, k - j = d + 1 := ⟨k - j - 1, by omega⟩
      rw [hd] at z2
      have := pn_256_pos l d
      omega), lN_shr (by omega) (by decide) e8, nI_1, Nat.div_div_eq_div_mul]
    rfl
  · intro kk
    have hz : pn_256 l k / 256 ^ k = 0 := Nat.div_eq_of_lt hlt
    dsimp only [fX12_letter_l92]
    rw [hz, if_pos ((lN_le0 (a := 0) (by omega)).mpr rfl)]
    by_cases c : i < k
    · obtain ⟨d, hd⟩ : ∃ d, d = k - 1 - i := ⟨_, rfl⟩
      have es : (8 : Int32) * ((nI k - 1) - nI i) = nI (8 * d) := by
        obtain ⟨k', rfl⟩ : ∃ k', k = k' + 1 := ⟨k - 1, by omega⟩
        have : ∀ k', k' < 6 → ∀ i, i < k' + 1 → (8 : Int32) * ((nI (k' + 1) - 1) - nI i) = nI (8 * (k' + 1 - 1 - i)) := by decide
        rw [hd]; exact this k' (by omega) i (by omega)
      have eb : ((nI (8 * d)).toInt64 &&& 63).toBitVec.smod 64 = BitVec.ofNat 64 (8 * d) := by
        have : ∀ d, d < 6 → ((nI (8 * d)).toInt64 &&& 63).toBitVec.smod 64 = BitVec.ofNat 64 (8 * d) := by decide
        exact this d (by omega)
      have ef : (255 : Int64) = lN 255 := rfl
      have hat := pn_256_at hl k i c
      rw [← hd] at hat
      rw [if_pos (nI_lt c (by omega)), es, lN_shr (by omega) (by omega) eb, ef, fb_andL, lN_i, show (255 : Nat) = 2 ^ 8 - 1 from rfl, Nat.and_two_pow_sub_one_eq_mod, show (2 : Nat) ^ 8 = 256 from rfl, hat]
      have : ∀ x, x < 27 → nI (96 + x) - 97 + 1 = nI x := by decide
      rw [this (l i) (by have := hl i; omega)]
    · rw [if_neg (nI_nlt (by omega) (by omega)), h0 i (by omega)]; rfl
theorem m_letter (N : Nat) (hN : 5000 ≤ N) {H : PH} (hE : H.1 1 ≤ 7) (hP : H.1 2 ≤ 6) {W : Nat → Nat → Nat → Nat} {b : Nat} (hb : b < 2) {mmI mp me : Nat → Int32} {pn en : Nat → Int64} (h13 : mmI 13 = nI b) (h5 : me b = nI (H.1 1)) (h6 : mp b = nI (H.1 2)) (hw : mW H W b en pn) (x y z : Int32) : fX12_letter N mmI mp me pn en x y z = some (qa_letter H W x y z) := by
  have e0 : (0 : Int32).toInt = 0 := rfl
  have hz : fX12_is N z 0 5 = some (p_b (p_one_of 6 z)) := by
    have := m_is N (lo := 0) (hi := 5) (by omega) (by omega) z
    rw [show (decide (((0 : Nat) : Int) ≤ z.toInt ∧ z.toInt ≤ (5 : Nat))) = p_one_of 6 z from by
      unfold p_one_of
      congr 1
      apply propext
      constructor <;> intro q <;> omega] at this
    exact this
  unfold fX12_letter qa_letter
  by_cases c0 : x = 0
  · rw [if_pos c0, if_pos c0, m_isEar N hb h13 h5 (by omega), xs_bd]
    dsimp only [fX12_letter_b30]
    cases hy : p_one_of (H.1 1) y with
    | false =>
      rw [if_pos (show p_b false = 0 by rfl), if_pos (show false = false from rfl)]
      split <;> rfl
    | true =>
      obtain ⟨e, rfl, he⟩ := p_one_yes hy
      rw [if_neg (show ¬ p_b true = 0 by decide), hz, xs_bd]
      cases hq : p_one_of 6 z with
      | false => rw [if_pos (show p_b false = 0 by rfl), if_pos rfl]
      | true =>
        obtain ⟨i, rfl, hi⟩ := p_one_yes hq
        obtain ⟨k, k1, k2, k3, k4, k5⟩ := hw.1 e he
        rw [if_neg (show ¬ p_b true = 0 by decide), if_pos c0, if_neg (show ¬ true = false by decide), if_neg (show ¬ true = false by decide), h13, mx7, xs_aldL (by omega) (by decide), xs_bd, k5, m_letterAt N hN k2 k3 k4 hi, nI_clamp (by omega), nI_clamp (by omega)]
  · rw [if_neg c0, if_neg c0]
    by_cases c1 : x = 1
    · rw [if_pos c1, if_pos c1, m_isPlace N hb h13 h6 (by omega), xs_bd]
      dsimp only [fX12_letter_b30, fX12_letter_b29]
      cases hy : p_one_of (H.1 2) y with
      | false =>
        rw [if_pos (show p_b false = 0 by rfl), if_pos (show (0 : Int32) = 0 from rfl), if_pos (show false = false from rfl)]
        split <;> rfl
      | true =>
        obtain ⟨e, rfl, he⟩ := p_one_yes hy
        rw [if_neg (show ¬ p_b true = 0 by decide), if_neg (show ¬ (1 : Int32) = 0 by decide), hz, xs_bd]
        cases hq : p_one_of 6 z with
        | false => rw [if_pos (show p_b false = 0 by rfl), if_pos rfl]
        | true =>
          obtain ⟨i, rfl, hi⟩ := p_one_yes hq
          obtain ⟨k, k1, k2, k3, k4, k5⟩ := hw.2 e he
          rw [if_neg (show ¬ p_b true = 0 by decide), if_neg c0, if_neg (show ¬ true = false by decide), if_neg (show ¬ true = false by decide), h13, mx6, xs_aldL (by omega) (by decide), xs_bd, k5, m_letterAt N hN k2 k3 k4 hi, nI_clamp (by omega), nI_clamp (by omega)]
    · rw [if_neg c1, if_neg c1]
      dsimp only [fX12_letter_b30, fX12_letter_b29]
      rw [if_pos (show (0 : Int32) = 0 from rfl)]
      split <;> rfl
