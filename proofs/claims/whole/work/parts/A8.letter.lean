/-! letters of names: a name is l (six letters, 0 where none) -/
def pn_27 (l : Nat → Nat) : Nat := ((((l 0 * 27 + l 1) * 27 + l 2) * 27 + l 3) * 27 + l 4) * 27 + l 5
def pn_ok (l : Nat → Nat) : Prop := ∃ n, n ≤ 6 ∧ (∀ i, i < n → 1 ≤ l i ∧ l i ≤ 26) ∧ ∀ i, n ≤ i → l i = 0
theorem pn_le {l : Nat → Nat} (h : pn_ok l) (i : Nat) : l i ≤ 26 := by
  obtain ⟨n, -, h1, h2⟩ := h
  by_cases c : i < n
  · exact (h1 i c).2
  · rw [h2 i (by omega)]; omega
theorem pn_27_lt {l : Nat → Nat} (h : pn_ok l) : pn_27 l < 387420489 := by
  have a0 := pn_le h 0
  have a1 := pn_le h 1
  have a2 := pn_le h 2
  have a3 := pn_le h 3
  have a4 := pn_le h 4
  have a5 := pn_le h 5
  unfold pn_27
  omega
theorem pn_27_at {l : Nat → Nat} (h : pn_ok l) {i : Nat} (hi : i < 6) : pn_27 l / 27 ^ (5 - i) % 27 = l i := by
  have a0 := pn_le h 0
  have a1 := pn_le h 1
  have a2 := pn_le h 2
  have a3 := pn_le h 3
  have a4 := pn_le h 4
  have a5 := pn_le h 5
  unfold pn_27
  have : i = 0 ∨ i = 1 ∨ i = 2 ∨ i = 3 ∨ i = 4 ∨ i = 5 := by omega
  rcases this with rfl | rfl | rfl | rfl | rfl | rfl
  · show _ / 14348907 % 27 = _; omega
  · show _ / 531441 % 27 = _; omega
  · show _ / 19683 % 27 = _; omega
  · show _ / 729 % 27 = _; omega
  · show _ / 27 % 27 = _; omega
  · show _ / 1 % 27 = _; omega
theorem c_letterOf (N : Nat) (hN : 5000 ≤ N) {l : Nat → Nat} (h : pn_ok l) {i : Nat} (hi : i < 6) : fX11_letterOf N (nI (pn_27 l)) (nI i) = some (nI (l i)) := by
  have hlt := pn_27_lt h
  unfold fX11_letterOf
  rw [nI_1]
  have key := xs_loop (body := fX11_letterOf_l6 N) (fun j => (nI (pn_27 l / 27 ^ j), nI (i + 1 + j))) (5 - i) (some (nI (l i))) ?_ ?_ N (by omega)
  · have e : pn_27 l / 27 ^ 0 = pn_27 l := Nat.div_one _
    rw [← e]
    exact key
  · intro j hj kk
    have hle : pn_27 l / 27 ^ j ≤ pn_27 l := Nat.div_le_self _ _
    dsimp only [fX11_letterOf_l6]
    rw [if_neg (show ¬ (6 : Int32) ≤ nI (i + 1 + j) from nI_ge (b := 6) (by omega) (by omega))]
    show xq_bd (xq_dv (nI (pn_27 l / 27 ^ j)) (nI 27)) _ = _
    rw [xs_dv (by omega) (by decide) (by decide), xs_bd, nI_1, Nat.div_div_eq_div_mul]
    rfl
  · intro kk
    have hle : pn_27 l / 27 ^ (5 - i) ≤ pn_27 l := Nat.div_le_self _ _
    dsimp only [fX11_letterOf_l6]
    rw [if_pos (show (6 : Int32) ≤ nI (i + 1 + (5 - i)) from nI_le (a := 6) (by omega) (by omega))]
    show xq_bd (xq_rm (nI (pn_27 l / 27 ^ (5 - i))) (nI 27)) _ = _
    rw [xs_rm (by omega) (by decide) (by decide), xs_bd, pn_27_at h hi]
def qa_letter (H : PH) (W : Nat → Nat → Nat → Nat) (x y z : Int32) : Int32 := if p_one_of 6 z = false then -1 else if x = 0 then (if p_one_of (H.1 1) y = false then -1 else nI (W 0 y.toNatClampNeg z.toNatClampNeg)) else if x = 1 then (if p_one_of (H.1 2) y = false then -1 else nI (W 1 y.toNatClampNeg z.toNatClampNeg)) else -1
def cW (H : PH) (W : Nat → Nat → Nat → Nat) (eF pF : Nat → Int32) : Prop := (∀ e, e < H.1 1 → eF e = nI (pn_27 (W 0 e)) ∧ pn_ok (W 0 e)) ∧ ∀ p, p < H.1 2 → pF p = nI (pn_27 (W 1 p)) ∧ pn_ok (W 1 p)
theorem c_letter (N : Nat) (hN : 5000 ≤ N) {H : PH} (hE : H.1 1 ≤ 7) (hP : H.1 2 ≤ 6) {W : Nat → Nat → Nat → Nat} {homeI home_earNamesF home_placeNamesF : Nat → Int32} (h5 : homeI 5 = nI (H.1 1)) (h6 : homeI 6 = nI (H.1 2)) (hw : cW H W home_earNamesF home_placeNamesF) (x y z : Int32) : fX11_letter N homeI home_earNamesF home_placeNamesF x y z = some (qa_letter H W x y z) := by
  have e0 : (0 : Int32).toInt = 0 := rfl
  have e6 : (6 : Int32).toInt = 6 := rfl
  unfold fX11_letter qa_letter
  cases hz : p_one_of 6 z with
  | false =>
    have g := of_decide_eq_false hz
    rw [if_pos rfl]
    by_cases d : z < 0
    · rw [if_pos d]
    · rw [if_neg d, if_neg (by rw [fa_lt, e6]; rw [fa_lt, e0] at d; omega)]
  | true =>
    obtain ⟨i, rfl, hi⟩ := p_one_yes hz
    rw [if_neg (show ¬ true = false by decide), if_neg (nI_pos (by omega)), if_pos (show nI i < (6 : Int32) from (nI_ltI (b := 6) (by omega) (by omega)).mpr hi), nI_clamp (n := i) (by omega)]
    have tail : ∀ x : Int32, ¬ (x = 0 ∧ p_one_of (H.1 1) y = true) → fX11_letter_b38 N homeI home_earNamesF home_placeNamesF (x, y, nI i) = some (if x = 1 then (if p_one_of (H.1 2) y = false then -1 else nI (W 1 y.toNatClampNeg i)) else -1) := by
      intro x _
      dsimp only [fX11_letter_b38]
      by_cases c1 : x = 1
      · rw [if_pos c1, if_pos c1, c_isPlace N h6 (by omega), xs_bd]
        cases hy : p_one_of (H.1 2) y with
        | false => rw [if_pos (show p_b false = 0 by rfl), if_pos rfl]
        | true =>
          obtain ⟨e, rfl, he⟩ := p_one_yes hy
          rw [if_neg (show ¬ p_b true = 0 by decide), if_neg (show ¬ true = false by decide), xs_ald (show e < 6 by omega) (by omega), xs_bd, (hw.2 e he).1, c_letterOf N hN (hw.2 e he).2 hi, xs_bd, nI_clamp (by omega)]
      · rw [if_neg c1, if_neg c1]
    by_cases c0 : x = 0
    · rw [if_pos c0, if_pos c0, c_isEar N h5 (by omega), xs_bd]
      cases hy : p_one_of (H.1 1) y with
      | false =>
        rw [if_pos (show p_b false = 0 by rfl), if_pos rfl, tail x (fun q => absurd (hy.symm.trans q.2) (by decide)), if_neg (by rw [c0]; decide)]
      | true =>
        obtain ⟨e, rfl, he⟩ := p_one_yes hy
        rw [if_neg (show ¬ p_b true = 0 by decide), if_neg (show ¬ true = false by decide), xs_ald (show e < 7 by omega) (by omega), xs_bd, (hw.1 e he).1, c_letterOf N hN (hw.1 e he).2 hi, xs_bd, nI_clamp (by omega)]
    · rw [if_neg c0, if_neg c0]
      exact tail x (fun q => c0 q.1)
