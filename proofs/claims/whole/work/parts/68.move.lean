/-! the voice goes on: mile by mile (as the reference does), or at once (as the class does) -/
def p_at (H : PH) (m : Nat) : Nat := fa_first (fun k => decide (H.2.1 0 k = m)) (H.1 2)
def p_walk (H : PH) : Nat → Nat → Nat → Nat × Nat × Nat
  | 0, m, r => (m, r, H.1 2)
  | s + 1, m, r =>
    if p_at H (if m + 1 = H.1 0 then 0 else m + 1) < H.1 2 then (if m + 1 = H.1 0 then 0 else m + 1, if m + 1 = H.1 0 then min 999 (r + 1) else r, p_at H (if m + 1 = H.1 0 then 0 else m + 1))
    else p_walk H s (if m + 1 = H.1 0 then 0 else m + 1) (if m + 1 = H.1 0 then min 999 (r + 1) else r)
theorem p_at_yes {H : PH} {m : Nat} (h : p_at H m < H.1 2) : H.2.1 0 (p_at H m) = m := of_decide_eq_true (fa_first_yes _ _ h)
theorem p_at_is {H : PH} (hH : ph_ok H) {m k : Nat} (hk : k < H.1 2) (e : H.2.1 0 k = m) : p_at H m = k := by
  have h : p_at H m < H.1 2 := by
    apply Nat.lt_of_not_le
    intro z
    have := fa_first_no (fun k => decide (H.2.1 0 k = m)) (H.1 2) k (Nat.lt_of_lt_of_le hk z)
    exact absurd e (of_decide_eq_false this)
  exact hH.2.2.2.2.2.1 _ _ h hk ((p_at_yes h).trans e.symm)
theorem p_at_no {H : PH} {m : Nat} (h : ∀ k, k < H.1 2 → ¬ H.2.1 0 k = m) : ¬ p_at H m < H.1 2 := fun z => h _ z (p_at_yes z)
theorem p_next {M m j : Nat} (hm : m < M) : ((if m + 1 = M then 0 else m + 1) + j) % M = (m + (j + 1)) % M ∧ (if m + 1 = M then 1 else 0) + ((if m + 1 = M then 0 else m + 1) + j) / M = (m + (j + 1)) / M ∧ (if m + 1 = M then 0 else m + 1) < M := by
  by_cases c : m + 1 = M
  · rw [if_pos c, if_pos c]
    have e : m + (j + 1) = j + M := by omega
    rw [e, Nat.zero_add, Nat.add_mod_right, Nat.add_div_right _ (by omega)]
    refine ⟨rfl, by omega, by omega⟩
  · rw [if_neg c, if_neg c]
    have e : m + (j + 1) = m + 1 + j := by omega
    rw [e]
    exact ⟨rfl, by omega, by omega⟩
theorem p_walk_free {H : PH} : ∀ (s m r : Nat), m < H.1 0 → r ≤ 999 → (∀ j, 1 ≤ j → j ≤ s → ∀ k, k < H.1 2 → ¬ H.2.1 0 k = (m + j) % H.1 0) → p_walk H s m r = ((m + s) % H.1 0, min 999 (r + (m + s) / H.1 0), H.1 2)
  | 0, m, r, hm, hr, _ => by
    show (m, r, H.1 2) = _
    rw [Nat.add_zero, Nat.mod_eq_of_lt hm, Nat.div_eq_of_lt hm, Nat.add_zero, Nat.min_eq_right hr]
  | s + 1, m, r, hm, hr, h => by
    obtain ⟨a1, a2, a3⟩ := p_next (j := 0) hm
    simp only [Nat.add_zero] at a1 a2
    obtain ⟨b1, b2, -⟩ := p_next (j := s) hm
    have hno : ¬ p_at H (if m + 1 = H.1 0 then 0 else m + 1) < H.1 2 := p_at_no (fun k hk e => h 1 (by omega) (by omega) k hk (by rw [e, ← a1, Nat.mod_eq_of_lt a3]))
    show (if p_at H (if m + 1 = H.1 0 then 0 else m + 1) < H.1 2 then _ else _) = _
    rw [if_neg hno, p_walk_free s _ _ a3 (by split <;> omega) (fun j h1 h2 k hk e => h (j + 1) (by omega) (by omega) k hk (by rw [e]; exact (p_next (j := j) hm).1)), b1, ← b2]
    have e : min 999 ((if m + 1 = H.1 0 then min 999 (r + 1) else r) + ((if m + 1 = H.1 0 then 0 else m + 1) + s) / H.1 0) = min 999 (r + ((if m + 1 = H.1 0 then 1 else 0) + ((if m + 1 = H.1 0 then 0 else m + 1) + s) / H.1 0)) := by
      generalize ((if m + 1 = H.1 0 then 0 else m + 1) + s) / H.1 0 = q
      split <;> omega
    rw [e]
theorem p_walk_stop {H : PH} (hH : ph_ok H) {k0 : Nat} (hk0 : k0 < H.1 2) : ∀ (w s m r : Nat), m < H.1 0 → r ≤ 999 → 1 ≤ w → w ≤ s → H.2.1 0 k0 = (m + w) % H.1 0 → (∀ j, 1 ≤ j → j < w → ∀ k, k < H.1 2 → ¬ H.2.1 0 k = (m + j) % H.1 0) → p_walk H s m r = ((m + w) % H.1 0, min 999 (r + (m + w) / H.1 0), k0)
  | 0, _, _, _, _, _, h, _, _, _ => absurd h (by omega)
  | w + 1, 0, _, _, _, _, _, h, _, _ => absurd h (by omega)
  | w + 1, s + 1, m, r, hm, hr, _, hws, he, h => by
    obtain ⟨a1, a2, a3⟩ := p_next (j := 0) hm
    simp only [Nat.add_zero] at a1 a2
    obtain ⟨b1, b2, -⟩ := p_next (j := w) hm
    show (if p_at H (if m + 1 = H.1 0 then 0 else m + 1) < H.1 2 then _ else _) = _
    by_cases hw : w = 0
    · subst hw
      have e1 : H.2.1 0 k0 = (if m + 1 = H.1 0 then 0 else m + 1) := by rw [he, ← a1, Nat.mod_eq_of_lt a3]
      have e2 := p_at_is hH hk0 e1
      have e3 : (m + (0 + 1)) % H.1 0 = (if m + 1 = H.1 0 then 0 else m + 1) := he.symm.trans e1
      rw [e2, if_pos hk0, e3, ← a2, Nat.div_eq_of_lt a3, Nat.add_zero (if m + 1 = H.1 0 then 1 else 0)]
      have e : (if m + 1 = H.1 0 then min 999 (r + 1) else r) = min 999 (r + if m + 1 = H.1 0 then 1 else 0) := by split <;> omega
      rw [e]
    · have hno : ¬ p_at H (if m + 1 = H.1 0 then 0 else m + 1) < H.1 2 := p_at_no (fun k hk e => h 1 (by omega) (by omega) k hk (by rw [e, ← a1, Nat.mod_eq_of_lt a3]))
      rw [if_neg hno, p_walk_stop hH hk0 w s _ _ a3 (by split <;> omega) (by omega) (by omega) (by rw [he, b1]) (fun j h1 h2 k hk e => h (j + 1) (by omega) (by omega) k hk (by rw [e]; exact (p_next (j := j) hm).1)), b1, ← b2]
      have e : min 999 ((if m + 1 = H.1 0 then min 999 (r + 1) else r) + ((if m + 1 = H.1 0 then 0 else m + 1) + w) / H.1 0) = min 999 (r + ((if m + 1 = H.1 0 then 1 else 0) + ((if m + 1 = H.1 0 then 0 else m + 1) + w) / H.1 0)) := by
        generalize ((if m + 1 = H.1 0 then 0 else m + 1) + w) / H.1 0 = q
        split <;> omega
      rw [e]
/-- how far it is to a PLACE -/
def p_way (H : PH) (m k : Nat) : Nat := if m < H.2.1 0 k then H.2.1 0 k - m else H.2.1 0 k + H.1 0 - m
theorem p_way_rng {H : PH} (hH : ph_ok H) {m k : Nat} (hm : m < H.1 0) (hk : k < H.1 2) : 1 ≤ p_way H m k ∧ p_way H m k ≤ H.1 0 ∧ (m + p_way H m k) % H.1 0 = H.2.1 0 k := by
  have := hH.2.2.2.2.1 k hk
  unfold p_way
  split
  · refine ⟨by omega, by omega, ?_⟩
    rw [show m + (H.2.1 0 k - m) = H.2.1 0 k by omega, Nat.mod_eq_of_lt this.2]
  · refine ⟨by omega, by omega, ?_⟩
    rw [show m + (H.2.1 0 k + H.1 0 - m) = H.2.1 0 k + H.1 0 by omega, Nat.add_mod_right, Nat.mod_eq_of_lt this.2]
theorem p_way_first {H : PH} (hH : ph_ok H) {m k j : Nat} (hm : m < H.1 0) (hk : k < H.1 2) (h1 : 1 ≤ j) (h2 : j < p_way H m k) : ¬ H.2.1 0 k = (m + j) % H.1 0 := by
  have a := hH.2.2.2.2.1 k hk
  have b := p_way_rng hH hm hk
  intro e
  have hj : j < H.1 0 := by omega
  by_cases c : m + j < H.1 0
  · rw [Nat.mod_eq_of_lt c] at e
    unfold p_way at h2
    rw [if_pos (by omega)] at h2
    omega
  · rw [Nat.mod_eq_sub_mod (by omega), Nat.mod_eq_of_lt (by omega)] at e
    unfold p_way at h2
    rw [if_neg (by omega)] at h2
    omega
theorem c_way (N : Nat) {H : PH} (hH : ph_ok H) {homeI : Nat → Int32} (h : homeI 1 = nI (H.1 0)) {m k : Nat} (hm : m < H.1 0) (hk : k < H.1 2) : fX0_wayTo N homeI (nI (H.2.1 0 k)) (nI m) = some (nI (p_way H m k)) := by
  have a := hH.2.2.2.2.1 k hk
  have b := hH.2.1
  unfold fX0_wayTo p_way
  have e0 : (0 : Int32).toInt = 0 := rfl
  have e1 : (nI (H.2.1 0 k) - nI m).toInt = (H.2.1 0 k : Int) - m := pk_sub_toInt (by omega) (by omega)
  by_cases c : m < H.2.1 0 k
  · rw [if_neg (by rw [fa_le, e1, e0]; omega), if_pos c, pk_sub (by omega)]
  · rw [if_pos (by rw [fa_le, e1, e0]; omega), if_neg c, h]
    congr 1
    rw [fa_eq, fb_addI (by rw [e1, nI_toInt (by omega)]; omega) (by rw [e1, nI_toInt (by omega)]; omega), e1, nI_toInt (by omega), nI_toInt (by omega)]
    omega
theorem c_goOn (N : Nat) (hN : 5000 ≤ N) {H : PH} (hH : ph_ok H) {homeI moI : Nat → Int32} (h : homeI 1 = nI (H.1 0)) {m r s : Nat} (h1 : moI 1 = nI m) (h2 : moI 2 = nI r) (hm : m < H.1 0) (hs : s ≤ 200) (hr : r ≤ 999) : fX0_goOn N moI homeI (nI s) = some (va_up (va_up moI 1 (nI ((m + s) % H.1 0))) 2 (nI (min 999 (r + (m + s) / H.1 0)))) := by
  obtain ⟨g5, g200, -⟩ := hH
  have hq : (m + s) / H.1 0 ≤ 80 := by
    have : (m + s) / H.1 0 < 81 := (Nat.div_lt_iff_lt_mul (by omega)).mpr (by omega)
    omega
  unfold fX0_goOn
  rw [h1, nI_add]
  have hst : ∀ i, i ≤ (m + s) / H.1 0 → m + s - i * H.1 0 < 1000 ∧ (i < (m + s) / H.1 0 → H.1 0 ≤ m + s - i * H.1 0) := fun i hi => by
    refine ⟨by omega, fun hlt => ?_⟩
    have : (i + 1) * H.1 0 ≤ m + s := (Nat.le_div_iff_mul_le (by omega)).mp hlt
    rw [Nat.add_mul, Nat.one_mul] at this
    omega
  have key := xs_loop (body := fX0_goOn_l12 N homeI) (fun i => (va_up (if i = 0 then moI else va_up moI 2 (nI (min 999 (r + i)))) 1 (nI (m + s - i * H.1 0)), nI i)) ((m + s) / H.1 0) (some (va_up (va_up moI 1 (nI ((m + s) % H.1 0))) 2 (nI (min 999 (r + (m + s) / H.1 0))))) ?_ ?_ N (by omega)
  · rw [if_pos rfl] at key
    rw [Nat.zero_mul, Nat.sub_zero] at key
    exact key
  · intro i hi kk
    have b := hst i (by omega)
    have b2 := b.2 hi
    show (if (99 : Int32) < nI i then _ else (if va_up _ 1 (nI (m + s - i * H.1 0)) 1 < homeI 1 then _ else kk (va_up (va_up _ 1 (va_up _ 1 _ 1 - homeI 1)) 2 (xq_min 999 (va_up _ 1 _ 2 + 1)), nI i + 1))) = _
    rw [if_neg (show ¬ (99 : Int32) < _ from nI_nlt (a := 99) (by omega) (by omega)), va_up_self, h, if_neg (nI_nlt (by omega) (by omega)), pk_sub b2, nI_1, va_up_ne _ _ (by decide)]
    congr 1
    have e1 : m + s - i * H.1 0 - H.1 0 = m + s - (i + 1) * H.1 0 := by rw [Nat.add_mul, Nat.one_mul]; omega
    have e2 : xq_min 999 ((if i = 0 then moI else va_up moI 2 (nI (min 999 (r + i)))) 2 + 1) = nI (min 999 (r + (i + 1))) := by
      have : (if i = 0 then moI else va_up moI 2 (nI (min 999 (r + i)))) 2 = nI (min 999 (r + i)) := by
        by_cases c : i = 0
        · rw [if_pos c, h2, c, Nat.add_zero, Nat.min_eq_right hr]
        · rw [if_neg c, va_up_self]
      rw [this, nI_1]
      show xq_min (nI 999) _ = _
      rw [xs_min (by omega) (by omega)]
      exact nI_c (by omega)
    rw [e1, e2, if_neg (Nat.succ_ne_zero i)]
    congr 1
    funext j
    unfold va_up
    by_cases c2 : j = 2
    · subst c2; simp
    · by_cases c1 : j = 1
      · subst c1; simp
      · simp only [c1, c2, if_false]
        by_cases c : i = 0
        · rw [if_pos c]
        · rw [if_neg c, if_neg c2]
  · intro kk
    have e1 : m + s - (m + s) / H.1 0 * H.1 0 = (m + s) % H.1 0 := by
      have := Nat.mod_add_div (m + s) (H.1 0)
      rw [Nat.mul_comm] at this
      omega
    have e2 : (m + s) % H.1 0 < H.1 0 := Nat.mod_lt _ (by omega)
    show (if (99 : Int32) < nI ((m + s) / H.1 0) then _ else (if va_up _ 1 (nI (m + s - (m + s) / H.1 0 * H.1 0)) 1 < homeI 1 then some _ else _)) = _
    rw [if_neg (show ¬ (99 : Int32) < _ from nI_nlt (a := 99) (by omega) (by omega)), va_up_self, h, e1, if_pos (nI_lt e2 (by omega))]
    congr 1
    funext j
    unfold va_up
    by_cases c2 : j = 2
    · subst c2
      simp only [if_true]
      by_cases c : (m + s) / H.1 0 = 0
      · rw [if_pos c, c, Nat.add_zero, Nat.min_eq_right hr, ← h2]; simp
      · rw [if_neg c]; simp
    · by_cases c1 : j = 1
      · subst c1; simp
      · simp only [c1, c2, if_false]
        by_cases c : (m + s) / H.1 0 = 0
        · rw [if_pos c]
        · rw [if_neg c, if_neg c2]
