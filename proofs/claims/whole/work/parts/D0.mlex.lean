/-! the reference's pieces -/
def nmR (v : Int32) (x : Int64) : Prop := ∃ l k, 1 ≤ k ∧ k ≤ 6 ∧ (∀ i, i < k → 1 ≤ l i ∧ l i ≤ 26) ∧ (∀ i, k ≤ i → l i = 0) ∧ v = nI (pn_27 l) ∧ x = lN (pn_256 l k)
theorem nI_ng {c : Nat} (hc : c < 2 ^ 31) {x : Int32} (hx : x.toInt < 0) : ¬ nI c = x := fun z => by
  have := (fa_eq _ _).mp z
  rw [nI_toInt hc] at this
  omega
theorem pn_256_pw (l : Nat → Nat) : ∀ k, pn_256 l k = pw256 (fun i => 96 + l i) k
  | 0 => rfl
  | k + 1 => by
    show pn_256 l k * 256 + (96 + l k) = pw256 (fun i => 96 + l i) k * 256 + (96 + l k)
    rw [pn_256_pw l k]
theorem pn_27_inj {l l' : Nat → Nat} (h : pn_ok l) (h' : pn_ok l') (e : pn_27 l = pn_27 l') : ∀ i, i < 6 → l i = l' i := fun i hi => by
  rw [← pn_27_at h hi, ← pn_27_at h' hi, e]
theorem nmR_inj (v : Int32) (x : Int64) (v' : Int32) (x' : Int64) (h : nmR v x) (h' : nmR v' x') : v = v' ↔ x = x' := by
  obtain ⟨l, k, a1, a2, a3, a4, rfl, rfl⟩ := h
  obtain ⟨l', k', b1, b2, b3, b4, rfl, rfl⟩ := h'
  have ho : pn_ok l := ⟨k, a2, a3, a4⟩
  have ho' : pn_ok l' := ⟨k', b2, b3, b4⟩
  have h1 := pn_27_lt ho
  have h2 := pn_27_lt ho'
  have hp : ∀ (m : Nat → Nat) (q : Nat), q ≤ 6 → (∀ i, m i ≤ 26) → pn_256 m q < 2 ^ 63 := fun m q hq hm => by
    have := pn_256_lt hm q
    have e6 : 256 ^ q ≤ 256 ^ 6 := Nat.pow_le_pow_right (by decide) hq
    have e7 : (256 : Nat) ^ 6 = 281474976710656 := rfl
    omega
  rw [nI_eq (by omega) (by omega), fb_lN_inj (hp l k a2 (pn_le ho)) (hp l' k' b2 (pn_le ho')), pn_256_pw, pn_256_pw]
  constructor
  · intro e
    have hi := pn_27_inj ho ho' e
    have hk : k = k' := by
      by_cases c : k = k'
      · exact c
      · by_cases c2 : k < k'
        · have := (b3 k c2).1
          have z := a4 k (Nat.le_refl _)
          rw [hi k (by omega)] at z; omega
        · have := (a3 k' (by omega)).1
          have z := b4 k' (Nat.le_refl _)
          rw [← hi k' (by omega)] at z; omega
    subst hk
    exact pw_cg fun i hi2 => by rw [hi i (by omega)]
  · intro e
    obtain ⟨e1, e2⟩ := pw_inj (fun i hi => by have := a3 i hi; omega) (fun i hi => by have := b3 i hi; omega) e
    subst e1
    have : ∀ i, l i = l' i := fun i => by
      by_cases c : i < k
      · have := e2 i c; omega
      · rw [a4 i (by omega), b4 i (by omega)]
    rw [show l = l' from funext this]
section
variable (N : Nat) {T : PT} {tF : Nat → Int32}
theorem m_isL (c : Nat) (hc : c < 256) : fX12_isLetter N (nI c) = some (p_b (lxL c)) := c_isL N c hc
theorem m_isD (c : Nat) (hc : c < 256) : fX12_isDigit N (nI c) = some (p_b (lxD c)) := c_isD N c hc
theorem lxB_al {c : Nat} (h : lxB c = true) : lxAl c = false := by
  rcases of_decide_eq_true h with rfl | rfl <;> rfl
theorem lx_join {e : Nat} (he : e ≤ T.1) : lxJ T e ↔ 0 < lxS T e ∧ lxAl (T.2 (lxS T e - 1)) = true := by
  obtain ⟨s1, s2, s3, s4⟩ := lxS_s T he
  unfold lxJ
  constructor
  · exact fun z => z.2
  · intro z
    refine ⟨?_, z⟩
    by_cases c : e = lxS T e
    · exact c
    · have := lxB_al (s3 (lxS T e - 1) (by omega) (by omega))
      rw [this] at z; cases z.2
theorem lx_w8 {x c : Nat} (hx : x < 1099511627776) (hc : c < 256) : (lN x <<< ((8 : Int32).toInt64 &&& 63)) ||| (nI c).toInt64 = lN (x * 256 + c) := by
  rw [nI_l (by omega)]
  have e8 : ((8 : Int32).toInt64 &&& 63) = 8 := by decide
  rw [e8]
  have e1 : lN x <<< (8 : Int64) = lN (2 ^ 8 * x) := by
    have : lN x <<< (8 : Int64) = lN x * 256 := by
      apply Int64.toBitVec_inj.mp
      rw [Int64.toBitVec_shiftLeft, Int64.toBitVec_mul]
      have e3 : ((8 : Int64).toBitVec.smod 64) = 8#64 := by decide
      have e4 : (256 : Int64).toBitVec = BitVec.twoPow 64 8 := by decide
      rw [e3, e4, BitVec.mul_twoPow_eq_shiftLeft]
      rfl
    rw [this]
    have e5 : (256 : Int64) = lN 256 := rfl
    rw [e5, lN_mul, Nat.mul_comm]
  rw [e1, fb_or_sumL x (by omega)]
  congr 1
  omega
end
