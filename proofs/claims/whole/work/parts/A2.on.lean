/-! on: an image read from the tape; the class -/
def pO_w (T : PT) (i : Nat) : Nat := 256 * T.2 i + T.2 (i + 1)
def pO_m (T : PT) : Nat → Nat := fun j => if j = 0 then pO_w T 0 else if j = 1 then pO_w T 2 else if j = 2 then pO_w T 4 else if j = 3 then T.2 6 else if j = 4 then T.2 7 else 0
def pO_ro (T : PT) : Nat → Nat := fun e => T.2 (8 + e)
def pO_ta (H : PH) (T : PT) : Nat → Nat := fun p => T.2 (8 + H.1 1 + p)
def pO_ok (H : PH) (T : PT) : Prop := T.2 (8 + H.1 1 + H.1 2) = pI_ck T (8 + H.1 1 + H.1 2) ∧ T.2 7 ≤ 9 ∧ (∀ e, e < H.1 1 → T.2 (8 + e) ≤ 9) ∧ (∀ p, p < H.1 2 → T.2 (8 + H.1 1 + p) ≤ 9) ∧ pO_w T 0 ≤ 999 ∧ pO_w T 2 < H.1 0 ∧ pO_w T 4 ≤ 999 ∧ T.2 6 ≤ 20
theorem dig_of {b : Nat} (h : b < 256) : (p_dig (nI b) = true) ↔ b ≤ 9 := by
  unfold p_dig
  rw [decide_eq_true_iff, nI_toInt (by omega)]; omega
theorem xs_8 (a : Nat) : (8 : Int32) + nI a = nI (8 + a) := nI_add 8 a
theorem xs_two {a b : Nat} (ha : a < 256) (hb : b < 256) : (nI a <<< ((8 : Int32) &&& 31)) ||| nI b = nI (256 * a + b) := by
  have e8 : nI a <<< ((8 : Int32) &&& 31) = nI (2 ^ 8 * a) := by rw [pk_shlN _ 8 (by decide) (by omega), Nat.mul_comm]
  rw [e8, fa_or_sum (k := 8) a (by omega)]
theorem c_twoAt (N : Nat) {T : PT} {taI bF : Nat → Int32} (h : cT T taI bF) (hT : T.1 ≤ 1600) {i : Nat} (hi : i + 1 < T.1) : fX4_twoAt N taI bF (nI i) = some (nI (pO_w T i)) := by
  unfold fX4_twoAt
  rw [c_at N h hT (by omega), xs_bd, nI_1, c_at N h hT hi, xs_bd, xs_two (h.2 i (by omega)).2 (h.2 (i + 1) hi).2]
  rfl
section RD
variable (N : Nat) {H : PH} {T : PT} {homeI taI bF : Nat → Int32}
theorem c_rd181 (hN : 5000 ≤ N) (h : cT T taI bF) (hT : T.1 = 9 + H.1 1 + H.1 2) (hE : H.1 1 ≤ 7) (hP : H.1 2 ≤ 6) (h200 : H.1 0 ≤ 200) (h1 : homeI 1 = nI (H.1 0)) (h5 : homeI 5 = nI (H.1 1)) (h6 : homeI 6 = nI (H.1 2)) {moI roF taF : Nat → Int32} {F0 : Bool} {ck a0 a1 a2 a3 : Nat} (hck : ck < 256) (b0 : a0 < 65536) (b1 : a1 < 65536) (b2 : a2 < 65536) (b3 : a3 < 65536) (m0 : moI 0 = nI a0) (m1 : moI 1 = nI a1) (m2 : moI 2 = nI a2) (m3 : moI 3 = nI a3) : ∃ g taF', xq_loop (fX4_isRead_l181 N homeI taI bF) N (moI, roF, taF, nI (8 + H.1 1 + H.1 2), nI ck, p_b F0, 0) = some (p_b g, moI, roF, taF') ∧ (g = true ↔ F0 = true ∧ (∀ p, p < H.1 2 → T.2 (8 + H.1 1 + p) ≤ 9) ∧ T.2 (8 + H.1 1 + H.1 2) = ck ∧ a0 ≤ 999 ∧ a1 < H.1 0 ∧ a2 ≤ 999 ∧ a3 ≤ 20) ∧ ∀ p, p < H.1 2 → taF' p = nI (T.2 (8 + H.1 1 + p)) := by
  refine xs_loopI (body := fX4_isRead_l181 N homeI taI bF) (fun r st => ∃ t F j, st = (moI, roF, t, nI (8 + H.1 1 + H.1 2), nI ck, p_b F, nI j) ∧ j + r = H.1 2 ∧ (F = true ↔ F0 = true ∧ ∀ p, p < j → T.2 (8 + H.1 1 + p) ≤ 9) ∧ ∀ p, p < j → t p = nI (T.2 (8 + H.1 1 + p))) (fun q => ∃ g taF', q = some (p_b g, moI, roF, taF') ∧ (g = true ↔ F0 = true ∧ (∀ p, p < H.1 2 → T.2 (8 + H.1 1 + p) ≤ 9) ∧ T.2 (8 + H.1 1 + H.1 2) = ck ∧ a0 ≤ 999 ∧ a1 < H.1 0 ∧ a2 ≤ 999 ∧ a3 ≤ 20) ∧ ∀ p, p < H.1 2 → taF' p = nI (T.2 (8 + H.1 1 + p))) ?_ N (H.1 2) _ ⟨taF, F0, 0, rfl, by omega, ⟨fun z => ⟨z, fun p hp => absurd hp (Nat.not_lt_zero _)⟩, fun z => z.1⟩, fun p hp => absurd hp (Nat.not_lt_zero _)⟩ (by omega)
  rintro r st kk ⟨t, F, j, rfl, hj, hF, ht⟩ hgo
  dsimp only [fX4_isRead_l181]
  rw [h6]
  by_cases c : H.1 2 ≤ j
  · have : j = H.1 2 := by omega
    subst this
    have hl := (h.2 (8 + H.1 1 + H.1 2) (by omega)).2
    rw [if_pos (nI_le c (by omega)), c_at N h (by omega) (by omega), xs_bd]
    have no : ¬ (F0 = true ∧ (∀ p, p < H.1 2 → T.2 (8 + H.1 1 + p) ≤ 9) ∧ T.2 (8 + H.1 1 + H.1 2) = ck ∧ a0 ≤ 999 ∧ a1 < H.1 0 ∧ a2 ≤ 999 ∧ a3 ≤ 20) → ∃ g taF', some ((0 : Int32), moI, roF, t) = some (p_b g, moI, roF, taF') ∧ (g = true ↔ F0 = true ∧ (∀ p, p < H.1 2 → T.2 (8 + H.1 1 + p) ≤ 9) ∧ T.2 (8 + H.1 1 + H.1 2) = ck ∧ a0 ≤ 999 ∧ a1 < H.1 0 ∧ a2 ≤ 999 ∧ a3 ≤ 20) ∧ ∀ p, p < H.1 2 → taF' p = nI (T.2 (8 + H.1 1 + p)) := fun z => ⟨false, t, rfl, ⟨fun y => absurd y (by decide), fun y => absurd y z⟩, ht⟩
    by_cases c1 : ck = T.2 (8 + H.1 1 + H.1 2)
    · rw [if_pos (by rw [c1])]
      cases F with
      | false =>
        rw [if_pos (show p_b false = 0 by rfl)]
        exact no (fun z => absurd (hF.mpr ⟨z.1, z.2.1⟩) (by decide))
      | true =>
        rw [if_neg (show ¬ p_b true = 0 by decide), m0, m1, m2, m3, h1]
        obtain ⟨f1, f2⟩ := hF.mp rfl
        by_cases d0 : a0 ≤ 999
        · rw [if_neg (show ¬ (999 : Int32) < nI a0 from fun z => by have := (nI_ltI (a := 999) (by omega) (by omega)).mp z; omega)]
          by_cases d1 : a1 < H.1 0
          · rw [if_neg (nI_ge d1 (by omega))]
            by_cases d2 : a2 ≤ 999
            · rw [if_neg (show ¬ (999 : Int32) < nI a2 from fun z => by have := (nI_ltI (a := 999) (by omega) (by omega)).mp z; omega)]
              by_cases d3 : a3 ≤ 20
              · rw [if_neg (show ¬ (20 : Int32) < nI a3 from fun z => by have := (nI_ltI (a := 20) (by omega) (by omega)).mp z; omega)]
                exact ⟨true, t, rfl, ⟨fun _ => ⟨f1, f2, c1.symm, d0, d1, d2, d3⟩, fun _ => rfl⟩, ht⟩
              · rw [if_pos (show (20 : Int32) < nI a3 from (nI_ltI (a := 20) (by omega) (by omega)).mpr (by omega))]
                exact no (fun z => d3 z.2.2.2.2.2.2)
            · rw [if_pos (show (999 : Int32) < nI a2 from (nI_ltI (a := 999) (by omega) (by omega)).mpr (by omega))]
              exact no (fun z => d2 z.2.2.2.2.2.1)
          · rw [if_pos (nI_le (by omega) (by omega))]
            exact no (fun z => d1 z.2.2.2.2.1)
        · rw [if_pos (show (999 : Int32) < nI a0 from (nI_ltI (a := 999) (by omega) (by omega)).mpr (by omega))]
          exact no (fun z => d0 z.2.2.2.1)
    · rw [if_neg (fun z => c1 ((nI_eq (by omega) (by omega)).mp z))]
      exact no (fun z => c1 z.2.2.1.symm)
  · have hl := (h.2 (8 + H.1 1 + j) (by omega)).2
    rw [if_neg (nI_ge (by omega) (by omega)), h5, xs_8, nI_add, c_at N h (by omega) (by omega), xs_bd, xs_ast (show j < 6 by omega) (by omega), xs_bd]
    have ht2 : ∀ p, p < j + 1 → upd t j (nI (T.2 (8 + H.1 1 + j))) p = nI (T.2 (8 + H.1 1 + p)) := fun p hp => by
      by_cases e : p = j
      · subst e; rw [pk_us]
      · rw [pk_un e]; exact ht p (by omega)
    cases F with
    | false =>
      rw [if_pos (show p_b false = 0 by rfl)]
      dsimp only [fX4_isRead_b233, fX4_isRead_b234]
      rw [nI_1]
      exact hgo _ (r - 1) (by omega) ⟨_, false, j + 1, rfl, by omega, ⟨fun y => absurd y (by decide), fun y => absurd (hF.mpr ⟨y.1, fun p hp => y.2 p (by omega)⟩) (by decide)⟩, ht2⟩
    | true =>
      obtain ⟨f1, f2⟩ := hF.mp rfl
      rw [if_neg (show ¬ p_b true = 0 by decide), xs_ald (show j < 6 by omega) (by omega), xs_bd, pk_us, c_isDigit, xs_bd]
      cases hd : p_dig (nI (T.2 (8 + H.1 1 + j))) with
      | false =>
        rw [if_pos (show p_b false = 0 by rfl)]
        dsimp only [fX4_isRead_b233, fX4_isRead_b234]
        rw [nI_1]
        exact hgo _ (r - 1) (by omega) ⟨_, false, j + 1, rfl, by omega, ⟨fun y => absurd y (by decide), fun y => by have := (dig_of hl).mpr (y.2 j (by omega)); rw [hd] at this; exact this⟩, ht2⟩
      | true =>
        rw [if_neg (show ¬ p_b true = 0 by decide)]
        dsimp only [fX4_isRead_b234]
        rw [nI_1]
        refine hgo _ (r - 1) (by omega) ⟨_, true, j + 1, rfl, by omega, ⟨fun _ => ⟨f1, fun p hp => ?_⟩, fun _ => rfl⟩, ht2⟩
        by_cases e : p = j
        · rw [e]; exact (dig_of hl).mp hd
        · exact f2 p (by omega)
theorem c_rd122 (hN : 5000 ≤ N) (h : cT T taI bF) (hT : T.1 = 9 + H.1 1 + H.1 2) (hE : H.1 1 ≤ 7) (hP : H.1 2 ≤ 6) (h200 : H.1 0 ≤ 200) (h1 : homeI 1 = nI (H.1 0)) (h5 : homeI 5 = nI (H.1 1)) (h6 : homeI 6 = nI (H.1 2)) {moI roF taF : Nat → Int32} {F0 : Bool} {ck a0 a1 a2 a3 : Nat} (hck : ck < 256) (b0 : a0 < 65536) (b1 : a1 < 65536) (b2 : a2 < 65536) (b3 : a3 < 65536) (m0 : moI 0 = nI a0) (m1 : moI 1 = nI a1) (m2 : moI 2 = nI a2) (m3 : moI 3 = nI a3) : ∃ g roF' taF', xq_loop (fX4_isRead_l122 N homeI taI bF) N (moI, roF, taF, nI (8 + H.1 1 + H.1 2), nI ck, p_b F0, 0) = some (p_b g, moI, roF', taF') ∧ (g = true ↔ F0 = true ∧ (∀ e, e < H.1 1 → T.2 (8 + e) ≤ 9) ∧ (∀ p, p < H.1 2 → T.2 (8 + H.1 1 + p) ≤ 9) ∧ T.2 (8 + H.1 1 + H.1 2) = ck ∧ a0 ≤ 999 ∧ a1 < H.1 0 ∧ a2 ≤ 999 ∧ a3 ≤ 20) ∧ (∀ e, e < H.1 1 → roF' e = nI (T.2 (8 + e))) ∧ ∀ p, p < H.1 2 → taF' p = nI (T.2 (8 + H.1 1 + p)) := by
  refine xs_loopI (body := fX4_isRead_l122 N homeI taI bF) (fun r st => ∃ t F j, st = (moI, t, taF, nI (8 + H.1 1 + H.1 2), nI ck, p_b F, nI j) ∧ j + r = H.1 1 ∧ (F = true ↔ F0 = true ∧ ∀ p, p < j → T.2 (8 + p) ≤ 9) ∧ ∀ p, p < j → t p = nI (T.2 (8 + p))) (fun q => ∃ g roF' taF', q = some (p_b g, moI, roF', taF') ∧ (g = true ↔ F0 = true ∧ (∀ e, e < H.1 1 → T.2 (8 + e) ≤ 9) ∧ (∀ p, p < H.1 2 → T.2 (8 + H.1 1 + p) ≤ 9) ∧ T.2 (8 + H.1 1 + H.1 2) = ck ∧ a0 ≤ 999 ∧ a1 < H.1 0 ∧ a2 ≤ 999 ∧ a3 ≤ 20) ∧ (∀ e, e < H.1 1 → roF' e = nI (T.2 (8 + e))) ∧ ∀ p, p < H.1 2 → taF' p = nI (T.2 (8 + H.1 1 + p))) ?_ N (H.1 1) _ ⟨roF, F0, 0, rfl, by omega, ⟨fun z => ⟨z, fun p hp => absurd hp (Nat.not_lt_zero _)⟩, fun z => z.1⟩, fun p hp => absurd hp (Nat.not_lt_zero _)⟩ (by omega)
  rintro r st kk ⟨t, F, j, rfl, hj, hF, ht⟩ hgo
  dsimp only [fX4_isRead_l122]
  rw [h5]
  by_cases c : H.1 1 ≤ j
  · have : j = H.1 1 := by omega
    subst this
    rw [if_pos (nI_le c (by omega))]
    obtain ⟨g, t2, e1, e2, e3⟩ := c_rd181 N hN h hT hE hP h200 h1 h5 h6 (moI := moI) (roF := t) (taF := taF) (F0 := F) hck b0 b1 b2 b3 m0 m1 m2 m3
    refine ⟨g, t, t2, e1, ?_, ht, e3⟩
    constructor
    · intro z
      obtain ⟨y1, y2⟩ := e2.mp z
      obtain ⟨x1, x2⟩ := hF.mp y1
      exact ⟨x1, x2, y2⟩
    · rintro ⟨x1, x2, y2⟩
      exact e2.mpr ⟨hF.mpr ⟨x1, x2⟩, y2⟩
  · have hl := (h.2 (8 + j) (by omega)).2
    rw [if_neg (nI_ge (by omega) (by omega)), xs_8, c_at N h (by omega) (by omega), xs_bd, xs_ast (show j < 7 by omega) (by omega), xs_bd]
    have ht2 : ∀ p, p < j + 1 → upd t j (nI (T.2 (8 + j))) p = nI (T.2 (8 + p)) := fun p hp => by
      by_cases e : p = j
      · subst e; rw [pk_us]
      · rw [pk_un e]; exact ht p (by omega)
    cases F with
    | false =>
      rw [if_pos (show p_b false = 0 by rfl)]
      dsimp only [fX4_isRead_b169, fX4_isRead_b170]
      rw [nI_1]
      exact hgo _ (r - 1) (by omega) ⟨_, false, j + 1, rfl, by omega, ⟨fun y => absurd y (by decide), fun y => absurd (hF.mpr ⟨y.1, fun p hp => y.2 p (by omega)⟩) (by decide)⟩, ht2⟩
    | true =>
      obtain ⟨f1, f2⟩ := hF.mp rfl
      rw [if_neg (show ¬ p_b true = 0 by decide), xs_ald (show j < 7 by omega) (by omega), xs_bd, pk_us, c_isDigit, xs_bd]
      cases hd : p_dig (nI (T.2 (8 + j))) with
      | false =>
        rw [if_pos (show p_b false = 0 by rfl)]
        dsimp only [fX4_isRead_b169, fX4_isRead_b170]
        rw [nI_1]
        exact hgo _ (r - 1) (by omega) ⟨_, false, j + 1, rfl, by omega, ⟨fun y => absurd y (by decide), fun y => by have := (dig_of hl).mpr (y.2 j (by omega)); rw [hd] at this; exact this⟩, ht2⟩
      | true =>
        rw [if_neg (show ¬ p_b true = 0 by decide)]
        dsimp only [fX4_isRead_b170]
        rw [nI_1]
        refine hgo _ (r - 1) (by omega) ⟨_, true, j + 1, rfl, by omega, ⟨fun _ => ⟨f1, fun p hp => ?_⟩, fun _ => rfl⟩, ht2⟩
        by_cases e : p = j
        · rw [e]; exact (dig_of hl).mp hd
        · exact f2 p (by omega)
theorem c_isRead (hN : 5000 ≤ N) (h : cT T taI bF) (hT : T.1 = 9 + H.1 1 + H.1 2) (hE : H.1 1 ≤ 7) (hP : H.1 2 ≤ 6) (h200 : H.1 0 ≤ 200) (h1 : homeI 1 = nI (H.1 0)) (h5 : homeI 5 = nI (H.1 1)) (h6 : homeI 6 = nI (H.1 2)) {moI roF taF : Nat → Int32} : ∃ g moI' roF' taF', fX4_isRead N homeI taI bF moI roF taF = some (p_b g, moI', roF', taF') ∧ (g = true ↔ pO_ok H T) ∧ cM moI' (pO_m T) ∧ (∀ e, e < H.1 1 → roF' e = nI (T.2 (8 + e))) ∧ ∀ p, p < H.1 2 → taF' p = nI (T.2 (8 + H.1 1 + p)) := by
  have hlt : ∀ i, i < 9 + H.1 1 + H.1 2 → T.2 i < 256 := fun i hi => (h.2 i (by omega)).2
  have l0 := hlt 0 (by omega)
  have l1 := hlt 1 (by omega)
  have l2 := hlt 2 (by omega)
  have l3 := hlt 3 (by omega)
  have l4 := hlt 4 (by omega)
  have l5 := hlt 5 (by omega)
  have l6 := hlt 6 (by omega)
  have l7 := hlt 7 (by omega)
  have w0 : pO_w T 0 < 65536 := by show 256 * T.2 0 + T.2 1 < 65536; omega
  have w2 : pO_w T 2 < 65536 := by show 256 * T.2 2 + T.2 3 < 65536; omega
  have w4 : pO_w T 4 < 65536 := by show 256 * T.2 4 + T.2 5 < 65536; omega
  have en : (8 : Int32) + nI (H.1 1) + nI (H.1 2) = nI (8 + H.1 1 + H.1 2) := by rw [xs_8, nI_add]
  unfold fX4_isRead
  rw [h.1, h5, h6, en, if_pos (show nI T.1 = nI (8 + H.1 1 + H.1 2) + 1 by rw [nI_1]; exact nI_c (by omega))]
  refine xs_loopI (body := fX4_isRead_l33 N homeI taI bF) (fun r st => ∃ j, st = (moI, roF, taF, nI (8 + H.1 1 + H.1 2), nI (pI_ck T j), nI j) ∧ j + r = 8 + H.1 1 + H.1 2) (fun q => ∃ g moI' roF' taF', q = some (p_b g, moI', roF', taF') ∧ (g = true ↔ pO_ok H T) ∧ cM moI' (pO_m T) ∧ (∀ e, e < H.1 1 → roF' e = nI (T.2 (8 + e))) ∧ ∀ p, p < H.1 2 → taF' p = nI (T.2 (8 + H.1 1 + p))) ?_ N (8 + H.1 1 + H.1 2) _ ⟨0, rfl, by omega⟩ (by omega)
  rintro r st kk ⟨j, rfl, hj⟩ hgo
  dsimp only [fX4_isRead_l33]
  by_cases c : 8 + H.1 1 + H.1 2 ≤ j
  · have : j = 8 + H.1 1 + H.1 2 := by omega
    subst this
    rw [if_pos (nI_le c (by omega))]
    have t0 : fX4_twoAt N taI bF 0 = some (nI (pO_w T 0)) := c_twoAt N h (by omega) (i := 0) (by omega)
    have t2 : fX4_twoAt N taI bF 2 = some (nI (pO_w T 2)) := c_twoAt N h (by omega) (i := 2) (by omega)
    have t4 : fX4_twoAt N taI bF 4 = some (nI (pO_w T 4)) := c_twoAt N h (by omega) (i := 4) (by omega)
    have t6 : fX9_at N taI bF 6 = some (nI (T.2 6)) := c_at N h (by omega) (i := 6) (by omega)
    have t7 : fX9_at N taI bF 7 = some (nI (T.2 7)) := c_at N h (by omega) (i := 7) (by omega)
    rw [t0, xs_bd, t2, xs_bd, t4, xs_bd, t6, xs_bd, t7, xs_bd, c_isDigit, xs_bd]
    obtain ⟨g, ro2, ta2, e1, e2, e3, e4⟩ := c_rd122 N hN h hT hE hP h200 h1 h5 h6 (roF := roF) (taF := taF) (moI := va_up (va_up (va_up (va_up (va_up (va_up moI 0 (nI (pO_w T 0))) 1 (nI (pO_w T 2))) 2 (nI (pO_w T 4))) 3 (nI (T.2 6))) 4 (nI (T.2 7))) 5 0) (F0 := p_dig (nI (T.2 7))) (ck := pI_ck T (8 + H.1 1 + H.1 2)) (pI_ck_lt _ _) w0 w2 w4 (show T.2 6 < 65536 by omega) rfl rfl rfl rfl
    refine ⟨g, _, ro2, ta2, e1, ?_, ?_, e3, e4⟩
    · rw [e2, dig_of l7]
      unfold pO_ok
      constructor
      · rintro ⟨z1, z2, z3, z4, z5⟩; exact ⟨z4, z1, z2, z3, z5⟩
      · rintro ⟨z4, z1, z2, z3, z5⟩; exact ⟨z1, z2, z3, z4, z5⟩
    · intro i hi
      have : i = 0 ∨ i = 1 ∨ i = 2 ∨ i = 3 ∨ i = 4 ∨ i = 5 := by omega
      rcases this with rfl | rfl | rfl | rfl | rfl | rfl <;> rfl
  · have hb := hlt j (by omega)
    have hc := pI_ck_lt T j
    rw [if_neg (nI_ge (by omega) (by omega)), c_at N h (by omega) (by omega), xs_bd]
    unfold fX4_checkOn
    rw [xs_ck hc hb, xs_bd, xs_bd, nI_1]
    exact hgo _ (r - 1) (by omega) ⟨j + 1, rfl, by omega⟩
end RD
