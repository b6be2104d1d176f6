/-! the pieces of a text: what a piece is, the class's row of them -/
def lxS (T : PT) (e : Nat) : Nat := lxG lxB T e
def lxAl (c : Nat) : Bool := lxL c || lxD c
def lxE (T : PT) (e : Nat) : Nat := if T.1 ≤ lxS T e then lxS T e else if lxL (T.2 (lxS T e)) = true then lxG lxL T (lxS T e) else if lxD (T.2 (lxS T e)) = true then lxG lxD T (lxS T e) else lxS T e + 1
def lxJ (T : PT) (e : Nat) : Prop := e = lxS T e ∧ 0 < lxS T e ∧ lxAl (T.2 (lxS T e - 1)) = true
def lxl (T : PT) (a b : Nat) (i : Nat) : Nat := if a + i < b then T.2 (a + i) - 96 else 0
def lx10 (T : PT) (a : Nat) : Nat → Nat
  | 0 => 0
  | k + 1 => lx10 T a k * 10 + (T.2 (a + k) - 48)
/-- kind k and value v of the piece that is looked for from e on -/
def lxR (T : PT) (e : Nat) (k v : Int32) : Prop :=
  (T.1 ≤ lxS T e → k = -1 ∧ v = 0) ∧
  (lxS T e < T.1 → lxL (T.2 (lxS T e)) = true → (lxJ T e → k = -2 ∧ v = nI (lxS T e)) ∧ (¬ lxJ T e → 6 < lxE T e - lxS T e → k = -2 ∧ v = nI (lxS T e + 6)) ∧ (¬ lxJ T e → lxE T e - lxS T e ≤ 6 → v = nI (pn_27 (lxl T (lxS T e) (lxE T e))) ∧ ((∃ w, w < 24 ∧ lxM T (lxS T e) (lxE T e) w ∧ k = nI (300 + w)) ∨ (k = -4 ∧ ∀ w, w < 24 → ¬ lxM T (lxS T e) (lxE T e) w)))) ∧
  (lxS T e < T.1 → lxL (T.2 (lxS T e)) = false → lxD (T.2 (lxS T e)) = true → (lxJ T e → k = -2 ∧ v = nI (lxS T e)) ∧ (¬ lxJ T e → 4 < lxE T e - lxS T e → k = -2 ∧ v = nI (lxS T e + 4)) ∧ (¬ lxJ T e → lxE T e - lxS T e ≤ 4 → k = -3 ∧ v = nI (lx10 T (lxS T e) (lxE T e - lxS T e)))) ∧
  (lxS T e < T.1 → lxL (T.2 (lxS T e)) = false → lxD (T.2 (lxS T e)) = false → v = nI (lxS T e) ∧ (mSg (T.2 (lxS T e)) → k = nI (T.2 (lxS T e))) ∧ (¬ mSg (T.2 (lxS T e)) → k = -2))
theorem lxS_s (T : PT) {e : Nat} (h : e ≤ T.1) : e ≤ lxS T e ∧ lxS T e ≤ T.1 ∧ (∀ j, e ≤ j → j < lxS T e → lxB (T.2 j) = true) ∧ (lxS T e < T.1 → lxB (T.2 (lxS T e)) = false) := by
  obtain ⟨h1, h2, h3, h4⟩ := lxG_s lxB T e
  exact ⟨h1, h2 h, h3, h4⟩
theorem lxG_gt {p : Nat → Bool} {T : PT} {a : Nat} (h : a < T.1) (hp : p (T.2 a) = true) : a < lxG p T a := by
  obtain ⟨h1, h2, h3, h4⟩ := lxG_s p T a
  by_cases c : a < lxG p T a
  · exact c
  · have e : lxG p T a = a := by omega
    have := h4 (by omega)
    rw [e, hp] at this; cases this
theorem lxE_s (T : PT) {e : Nat} (h : e ≤ T.1) : lxS T e ≤ lxE T e ∧ lxE T e ≤ T.1 ∧ (lxS T e < T.1 → lxS T e < lxE T e) := by
  obtain ⟨s1, s2, -, -⟩ := lxS_s T h
  unfold lxE
  by_cases c : T.1 ≤ lxS T e
  · rw [if_pos c]; exact ⟨by omega, s2, fun z => by omega⟩
  · rw [if_neg c]
    by_cases c1 : lxL (T.2 (lxS T e)) = true
    · rw [if_pos c1]
      obtain ⟨g1, g2, -, -⟩ := lxG_s lxL T (lxS T e)
      exact ⟨g1, g2 s2, fun z => lxG_gt z c1⟩
    · rw [if_neg c1]
      by_cases c2 : lxD (T.2 (lxS T e)) = true
      · rw [if_pos c2]
        obtain ⟨g1, g2, -, -⟩ := lxG_s lxD T (lxS T e)
        exact ⟨g1, g2 s2, fun z => lxG_gt z c2⟩
      · rw [if_neg c2]; exact ⟨by omega, by omega, fun _ => by omega⟩
def lxe (T : PT) : Nat → Nat
  | 0 => 0
  | i + 1 => lxE T (lxe T i)
theorem lxe_le (T : PT) : ∀ i, lxe T i ≤ T.1
  | 0 => Nat.zero_le _
  | i + 1 => (lxE_s T (lxe_le T i)).2.1
section
variable (N : Nat) {T : PT} {taI bF : Nat → Int32}
theorem c_isL (c : Nat) (hc : c < 256) : fX10_isLetter N (nI c) = some (p_b (lxL c)) := by
  unfold fX10_isLetter lxL
  by_cases h1 : c < 97
  · rw [if_pos (show nI c < (97 : Int32) from nI_lt (b := 97) h1 (by decide)), decide_eq_false (by omega)]; rfl
  · rw [if_neg (show ¬ nI c < (97 : Int32) from nI_nlt (b := 97) (by omega) (by omega))]
    by_cases h2 : 122 < c
    · rw [if_pos (show (122 : Int32) < nI c from nI_lt (a := 122) h2 (by omega)), decide_eq_false (by omega)]; rfl
    · rw [if_neg (show ¬ (122 : Int32) < nI c from nI_nlt (a := 122) (by omega) (by decide)), decide_eq_true (by omega)]; rfl
theorem c_isD (c : Nat) (hc : c < 256) : fX10_isFigure N (nI c) = some (p_b (lxD c)) := by
  unfold fX10_isFigure lxD
  by_cases h1 : c < 48
  · rw [if_pos (show nI c < (48 : Int32) from nI_lt (b := 48) h1 (by decide)), decide_eq_false (by omega)]; rfl
  · rw [if_neg (show ¬ nI c < (48 : Int32) from nI_nlt (b := 48) (by omega) (by omega))]
    by_cases h2 : 57 < c
    · rw [if_pos (show (57 : Int32) < nI c from nI_lt (a := 57) h2 (by omega)), decide_eq_false (by omega)]; rfl
    · rw [if_neg (show ¬ (57 : Int32) < nI c from nI_nlt (a := 57) (by omega) (by decide)), decide_eq_true (by omega)]; rfl
theorem c_isB (c : Nat) (hc : c < 256) : fX10_isBlank N (nI c) = some (p_b (lxB c)) := by
  unfold fX10_isBlank lxB
  by_cases h1 : c = 10
  · subst h1; rfl
  · rw [if_neg (show ¬ nI c = (10 : Int32) from fun z => h1 ((nI_eq (b := 10) (by omega) (by omega)).mp z))]
    by_cases h2 : c = 32
    · subst h2; rfl
    · rw [if_neg (show ¬ nI c = (32 : Int32) from fun z => h2 ((nI_eq (b := 32) (by omega) (by omega)).mp z)), decide_eq_false (by omega)]; rfl
def pn_acc (l : Nat → Nat) : Nat → Nat
  | 0 => 0
  | k + 1 => pn_acc l k * 27 + l k
theorem pn_acc_lt {l : Nat → Nat} (h : ∀ i, l i ≤ 26) : ∀ k, pn_acc l k < 27 ^ k
  | 0 => by show 0 < 1; omega
  | k + 1 => by
    have h1 := pn_acc_lt h k
    have h2 := h k
    show pn_acc l k * 27 + l k < 27 ^ k * 27
    omega
theorem lxl_le {a b : Nat} (hL : ∀ j, a ≤ j → j < b → lxL (T.2 j) = true) (i : Nat) : lxl T a b i ≤ 26 := by
  unfold lxl
  by_cases c : a + i < b
  · rw [if_pos c]
    have := of_decide_eq_true (hL (a + i) (by omega) c)
    omega
  · rw [if_neg c]; omega
theorem c_nameOf (hN : 5000 ≤ N) (h : cT T taI bF) (hT : T.1 ≤ 1600) {a b : Nat} (ha : a ≤ 1600) (hb : b ≤ T.1) (hL : ∀ j, a ≤ j → j < b → lxL (T.2 j) = true) : fX10_nameOf N taI bF (nI a) (nI b) = some (nI (pn_27 (lxl T a b))) := by
  unfold fX10_nameOf
  refine xs_loop (body := fX10_nameOf_l5 N taI bF) (fun k => (nI a, nI b, nI (pn_acc (lxl T a b) k), nI (a + k))) 6 (some (nI (pn_27 (lxl T a b)))) ?_ ?_ N (by omega)
  · intro k hk kk
    have hlt := pn_acc_lt (lxl_le (T := T) hL) k
    have hpow : 27 ^ k ≤ 27 ^ 5 := Nat.pow_le_pow_right (by decide) (by omega)
    have e5 : (27 : Nat) ^ 5 = 14348907 := rfl
    dsimp only [fX10_nameOf_l5]
    rw [show nI a + 6 = nI (a + 6) from nI_add a 6, if_neg (nI_ge (by omega) (by omega)), show nI (pn_acc (lxl T a b) k) * 27 = nI (pn_acc (lxl T a b) k * 27) from pk_mul _ _]
    by_cases c : a + k < b
    · have hl := of_decide_eq_true (hL (a + k) (by omega) c)
      rw [if_neg (nI_ge c (by omega)), c_at N h hT (by omega), xs_bd]
      dsimp only [fX10_nameOf_b42]
      rw [show nI (T.2 (a + k)) - 97 = nI (T.2 (a + k) - 97) from pk_sub (b := 97) (by omega), nI_1, nI_add, nI_1]
      congr 1
      have : pn_acc (lxl T a b) (k + 1) = pn_acc (lxl T a b) k * 27 + (T.2 (a + k) - 97 + 1) := by
        show pn_acc (lxl T a b) k * 27 + lxl T a b k = _
        unfold lxl
        rw [if_pos c]; omega
      rw [this]; rfl
    · rw [if_pos (nI_le (by omega) (by omega))]
      dsimp only [fX10_nameOf_b42]
      rw [show nI (pn_acc (lxl T a b) k * 27) + 0 = nI (pn_acc (lxl T a b) k * 27 + 0) from nI_add _ 0, nI_1]
      congr 1
      have : pn_acc (lxl T a b) (k + 1) = pn_acc (lxl T a b) k * 27 + 0 := by
        show pn_acc (lxl T a b) k * 27 + lxl T a b k = _
        have : lxl T a b k = 0 := by unfold lxl; rw [if_neg c]
        omega
      rw [this]; rfl
  · intro kk
    dsimp only [fX10_nameOf_l5]
    rw [show nI a + 6 = nI (a + 6) from nI_add a 6, if_pos (nI_le (Nat.le_refl _) (by omega))]
    have : pn_acc (lxl T a b) 6 = pn_27 (lxl T a b) := by
      unfold pn_27
      show (((((0 * 27 + lxl T a b 0) * 27 + lxl T a b 1) * 27 + lxl T a b 2) * 27 + lxl T a b 3) * 27 + lxl T a b 4) * 27 + lxl T a b 5 = _
      rw [Nat.zero_mul, Nat.zero_add]
    rw [this]
theorem lx10_lt {a b : Nat} (hD : ∀ j, a ≤ j → j < b → lxD (T.2 j) = true) : ∀ k, a + k ≤ b → lx10 T a k < 10 ^ k
  | 0, _ => by show 0 < 1; omega
  | k + 1, hk => by
    have h1 := lx10_lt hD k (by omega)
    have h2 := of_decide_eq_true (hD (a + k) (by omega) (by omega))
    show lx10 T a k * 10 + (T.2 (a + k) - 48) < 10 ^ k * 10
    omega
theorem c_numberOf (hN : 5000 ≤ N) (h : cT T taI bF) (hT : T.1 ≤ 1600) {a b : Nat} (hab : a ≤ b) (hb : b ≤ T.1) (h4 : b - a ≤ 4) (hD : ∀ j, a ≤ j → j < b → lxD (T.2 j) = true) : fX10_numberOf N taI bF (nI a) (nI b) = some (nI (lx10 T a (b - a))) := by
  unfold fX10_numberOf
  refine xs_loop (body := fX10_numberOf_l5 N taI bF) (fun k => (nI b, nI (lx10 T a k), nI (a + k))) (b - a) (some (nI (lx10 T a (b - a)))) ?_ ?_ N (by omega)
  · intro k hk kk
    have hlt := lx10_lt hD k (by omega)
    have hpow : 10 ^ k ≤ 10 ^ 4 := Nat.pow_le_pow_right (by decide) (by omega)
    have e4 : (10 : Nat) ^ 4 = 10000 := rfl
    have hd := of_decide_eq_true (hD (a + k) (by omega) (by omega))
    dsimp only [fX10_numberOf_l5]
    rw [if_neg (nI_ge (by omega) (by omega)), c_at N h hT (by omega), xs_bd, show nI (lx10 T a k) * 10 = nI (lx10 T a k * 10) from pk_mul _ _, nI_add, show nI (lx10 T a k * 10 + T.2 (a + k)) - 48 = nI (lx10 T a k * 10 + T.2 (a + k) - 48) from pk_sub (b := 48) (by omega), nI_1]
    congr 1
    have : lx10 T a (k + 1) = lx10 T a k * 10 + T.2 (a + k) - 48 := by
      show lx10 T a k * 10 + (T.2 (a + k) - 48) = _
      omega
    rw [this]; rfl
  · intro kk
    dsimp only [fX10_numberOf_l5]
    rw [show a + (b - a) = b by omega, if_pos (nI_le (Nat.le_refl _) (by omega))]
theorem c_addPiece {txI kF sF vF : Nat → Int32} {c nT : Nat} (h4 : txI 4 = nI c) (hc : c < nT) (hn : nT ≤ 1601) (k s v : Int32) : fX10_addPiece N txI kF sF vF nT nT nT k s v = some (va_up txI 4 (nI (c + 1)), upd kF c k, upd sF c s, upd vF c v) := by
  unfold fX10_addPiece
  rw [h4, if_neg (nI_ge (by omega) (by omega)), xs_ast hc (by omega), xs_bd, xs_ast hc (by omega), xs_bd, xs_ast hc (by omega), xs_bd, nI_1]
/-- readPiece at a, behind the blanks from e on -/
theorem c_readPiece (hN : 5000 ≤ N) (h : cT T taI bF) (hT : T.1 ≤ 1600) {txI kF sF vF : Nat → Int32} {c nT e : Nat} (he : e ≤ T.1) (h4 : txI 4 = nI c) (hc : c < nT) (hn : nT ≤ 1601) {jb : Bool} (hjb : jb = true ↔ e = lxS T e) {en : Bool} (hen : fX10_endsInWordOrNumber N txI kF nT = some (p_b en)) (hJ : e = lxS T e → (en = true ↔ 0 < lxS T e ∧ lxAl (T.2 (lxS T e - 1)) = true)) :
    ∃ k v, fX10_readPiece N txI taI bF kF sF vF nT nT nT (nI (lxS T e)) (p_b jb) = some (nI (lxE T e), va_up txI 4 (nI (c + 1)), upd kF c k, upd sF c (nI (lxS T e)), upd vF c v) ∧ lxR T e k v := by
  obtain ⟨s1, s2, s3, s4⟩ := lxS_s T he
  obtain ⟨x1, x2, x3⟩ := lxE_s T he
  have hjoin : (jb = true ∧ en = true) ↔ lxJ T e := by
    unfold lxJ
    constructor
    · rintro ⟨a, b⟩
      have e1 := hjb.mp a
      exact ⟨e1, (hJ e1).mp b⟩
    · rintro ⟨a, b⟩
      exact ⟨hjb.mpr a, (hJ a).mpr b⟩
  unfold fX10_readPiece
  by_cases ca : T.1 ≤ lxS T e
  · have eE : lxE T e = lxS T e := by unfold lxE; rw [if_pos ca]
    rw [c_at_no N h hT ca (by omega), xs_bd, if_pos rfl, c_addPiece N h4 hc hn, xs_bd, eE]
    exact ⟨_, _, rfl, fun _ => ⟨rfl, rfl⟩, fun z => by omega, fun z => by omega, fun z => by omega⟩
  have ca : lxS T e < T.1 := by omega
  have hb := (h.2 (lxS T e) ca).2
  have nE : ¬ T.1 ≤ lxS T e := by omega
  -- the run of letters or figures
  have run : ∀ (p : Nat → Bool) (wd : Bool), (wd = true → p = lxL) → (wd = false → p = lxD) → lxE T e = lxG p T (lxS T e) → fX10_readPiece_b67 N taI bF nT nT nT (txI, kF, sF, vF, nI (lxS T e), p_b jb, p_b wd) = fX10_readPiece_b126 N taI bF nT nT nT (txI, kF, sF, vF, nI (lxS T e), p_b jb, p_b wd, nI (lxE T e)) := by
    intro p wd hp1 hp2 eE
    obtain ⟨g1, g2, g3, g4⟩ := lxG_s p T (lxS T e)
    rw [← eE] at g1 g2 g3 g4
    dsimp only [fX10_readPiece_b67]
    refine xs_loop (body := fX10_readPiece_l70 N taI bF nT nT nT) (fun k => (txI, kF, sF, vF, nI (lxS T e), p_b jb, p_b wd, nI (lxS T e + k))) (lxE T e - lxS T e) _ ?_ ?_ N (by omega)
    · intro k hk kk
      have hbk := (h.2 (lxS T e + k) (by omega)).2
      have hp := g3 (lxS T e + k) (by omega) (by omega)
      dsimp only [fX10_readPiece_l70]
      rw [h.1, if_neg (nI_ge (by omega) (by omega)), c_at N h hT (by omega), xs_bd, xs_bd, c_isD N _ hbk, c_isL N _ hbk, xs_bd, xs_bd]
      cases wd with
      | true =>
        rw [hp1 rfl] at hp
        rw [if_neg (show ¬ p_b true = 0 by decide), hp, if_neg (show ¬ p_b true = 0 by decide)]
        dsimp only [fX10_readPiece_b120]
        rw [nI_1]; rfl
      | false =>
        rw [hp2 rfl] at hp
        rw [if_pos (show p_b false = 0 from rfl), hp, if_neg (show ¬ p_b true = 0 by decide)]
        dsimp only [fX10_readPiece_b120]
        rw [nI_1]; rfl
    · intro kk
      dsimp only [fX10_readPiece_l70]
      rw [show lxS T e + (lxE T e - lxS T e) = lxE T e by omega, h.1]
      by_cases cz : T.1 ≤ lxE T e
      · rw [if_pos (nI_le cz (by omega))]
      · have hbk := (h.2 (lxE T e) (by omega)).2
        have hp := g4 (by omega)
        rw [if_neg (nI_ge (by omega) (by omega)), c_at N h hT (by omega), xs_bd, xs_bd, c_isD N _ hbk, c_isL N _ hbk, xs_bd, xs_bd]
        cases wd with
        | true =>
          rw [hp1 rfl] at hp
          rw [if_neg (show ¬ p_b true = 0 by decide), hp, if_pos (show p_b false = 0 from rfl)]
        | false =>
          rw [hp2 rfl] at hp
          rw [if_pos (show p_b false = 0 from rfl), hp, if_pos (show p_b false = 0 from rfl)]
  -- behind the run
  have behind : ∀ (wd : Bool) (most : Nat), most = (if wd = true then 6 else 4) → ∀ (Q : Int32 → Int32 → Prop), ((lxJ T e → Q (-2) (nI (lxS T e))) ∧ (¬ lxJ T e → most < lxE T e - lxS T e → Q (-2) (nI (lxS T e + most)))) → (¬ lxJ T e → lxE T e - lxS T e ≤ most → ∃ k v, fX10_readPiece_b161 N taI bF nT nT nT (txI, kF, sF, vF, nI (lxS T e), p_b wd, nI (lxE T e), nI most) = some (nI (lxE T e), va_up txI 4 (nI (c + 1)), upd kF c k, upd sF c (nI (lxS T e)), upd vF c v) ∧ Q k v) → ∃ k v, fX10_readPiece_b126 N taI bF nT nT nT (txI, kF, sF, vF, nI (lxS T e), p_b jb, p_b wd, nI (lxE T e)) = some (nI (lxE T e), va_up txI 4 (nI (c + 1)), upd kF c k, upd sF c (nI (lxS T e)), upd vF c v) ∧ Q k v := by
    intro wd most hmost Q hQ hok
    have h137 : ∃ k v, fX10_readPiece_b137 N taI bF nT nT nT (txI, kF, sF, vF, nI (lxS T e), p_b jb, p_b wd, nI (lxE T e), nI most) = some (nI (lxE T e), va_up txI 4 (nI (c + 1)), upd kF c k, upd sF c (nI (lxS T e)), upd vF c v) ∧ Q k v := by
      have no : ¬ lxJ T e → ∃ k v, fX10_readPiece_b161 N taI bF nT nT nT (txI, kF, sF, vF, nI (lxS T e), p_b wd, nI (lxE T e), nI most) = some (nI (lxE T e), va_up txI 4 (nI (c + 1)), upd kF c k, upd sF c (nI (lxS T e)), upd vF c v) ∧ Q k v := by
        intro nj
        by_cases cm : lxE T e - lxS T e ≤ most
        · exact hok nj cm
        · have hm6 : most ≤ 6 := by
            rw [hmost]; split <;> omega
          dsimp only [fX10_readPiece_b161]
          rw [show nI (lxE T e) - nI (lxS T e) = nI (lxE T e - lxS T e) from pk_sub x1, if_neg (nI_ge (by omega) (by omega)), nI_add, c_addPiece N h4 hc hn, xs_bd]
          exact ⟨_, _, rfl, hQ.2 nj (by omega)⟩
      dsimp only [fX10_readPiece_b137]
      cases hjv : jb with
      | false =>
        rw [if_pos (show p_b false = 0 from rfl)]
        exact no (fun z => by have := (hjoin.mpr z).1; rw [hjv] at this; cases this)
      | true =>
        rw [if_neg (show ¬ p_b true = 0 by decide), hen, xs_bd]
        cases hev : en with
        | false =>
          rw [if_pos (show p_b false = 0 from rfl)]
          exact no (fun z => by have := (hjoin.mpr z).2; rw [hev] at this; cases this)
        | true =>
          rw [if_neg (show ¬ p_b true = 0 by decide), c_addPiece N h4 hc hn, xs_bd]
          exact ⟨_, _, rfl, hQ.1 (hjoin.mp ⟨hjv, hev⟩)⟩
    dsimp only [fX10_readPiece_b126]
    cases wd with
    | true =>
      rw [if_neg (show ¬ p_b true = 0 by decide)]
      rw [if_pos rfl] at hmost
      rw [hmost] at h137; exact h137
    | false =>
      rw [if_pos (show p_b false = 0 from rfl)]
      rw [if_neg (by decide)] at hmost
      rw [hmost] at h137; exact h137
  rw [c_at N h hT ca, xs_bd, if_neg (nI_nm1 (by omega)), c_isL N _ hb, xs_bd]
  cases hL : lxL (T.2 (lxS T e)) with
  | true =>
    rw [if_neg (show ¬ p_b true = 0 by decide)]
    have eE : lxE T e = lxG lxL T (lxS T e) := by unfold lxE; rw [if_neg nE, if_pos hL]
    rw [run lxL true (fun _ => rfl) (fun z => by cases z) eE]
    obtain ⟨g1, g2, g3, g4⟩ := lxG_s lxL T (lxS T e)
    rw [← eE] at g3
    obtain ⟨k, v, e1, e2⟩ := behind true 6 rfl (fun k v => (lxJ T e → k = -2 ∧ v = nI (lxS T e)) ∧ (¬ lxJ T e → 6 < lxE T e - lxS T e → k = -2 ∧ v = nI (lxS T e + 6)) ∧ (¬ lxJ T e → lxE T e - lxS T e ≤ 6 → v = nI (pn_27 (lxl T (lxS T e) (lxE T e))) ∧ ((∃ w, w < 24 ∧ lxM T (lxS T e) (lxE T e) w ∧ k = nI (300 + w)) ∨ (k = -4 ∧ ∀ w, w < 24 → ¬ lxM T (lxS T e) (lxE T e) w)))) ⟨fun z => ⟨fun _ => ⟨rfl, rfl⟩, fun y => absurd z y, fun y => absurd z y⟩, fun z1 z2 => ⟨fun y => absurd y z1, fun _ _ => ⟨rfl, rfl⟩, fun _ y => by omega⟩⟩ (fun nj cm => by
        obtain ⟨r, o1, o2⟩ := c_ownWord N hN h hT (x3 ca) x2
        have hnm := c_nameOf N hN h hT (a := lxS T e) (b := lxE T e) (by omega) x2 g3
        dsimp only [fX10_readPiece_b161]
        rw [show nI (lxE T e) - nI (lxS T e) = nI (lxE T e - lxS T e) from pk_sub x1, if_pos (nI_le cm (by omega)), if_neg (show ¬ p_b true = 0 by decide)]
        unfold fX10_addWord
        rw [o1, xs_bd]
        rcases o2 with ⟨w, hw, hm, rfl⟩ | ⟨rfl, hno⟩
        · rw [if_neg (nI_nm1 (by omega))]
          dsimp only [fX10_addWord_b23]
          rw [hnm, xs_bd, c_addPiece N h4 hc hn, xs_bd, xs_bd]
          exact ⟨_, _, rfl, fun y => absurd y nj, fun _ y => by omega, fun _ _ => ⟨rfl, Or.inl ⟨w, hw, hm, nI_add 300 w⟩⟩⟩
        · rw [if_pos rfl]
          dsimp only [fX10_addWord_b23]
          rw [hnm, xs_bd, c_addPiece N h4 hc hn, xs_bd, xs_bd]
          exact ⟨_, _, rfl, fun y => absurd y nj, fun _ y => by omega, fun _ _ => ⟨rfl, Or.inr ⟨rfl, hno⟩⟩⟩)
    exact ⟨k, v, e1, fun z => by omega, fun _ _ => e2, (fun _ z => by rw [hL] at z; cases z), (fun _ z => by rw [hL] at z; cases z)⟩
  | false =>
    rw [if_pos (show p_b false = 0 from rfl), c_isD N _ hb, xs_bd]
    cases hD : lxD (T.2 (lxS T e)) with
    | true =>
      rw [if_neg (show ¬ p_b true = 0 by decide)]
      have eE : lxE T e = lxG lxD T (lxS T e) := by unfold lxE; rw [if_neg nE, if_neg (by rw [hL]; decide), if_pos hD]
      rw [run lxD false (fun z => by cases z) (fun _ => rfl) eE]
      obtain ⟨g1, g2, g3, g4⟩ := lxG_s lxD T (lxS T e)
      rw [← eE] at g3
      obtain ⟨k, v, e1, e2⟩ := behind false 4 rfl (fun k v => (lxJ T e → k = -2 ∧ v = nI (lxS T e)) ∧ (¬ lxJ T e → 4 < lxE T e - lxS T e → k = -2 ∧ v = nI (lxS T e + 4)) ∧ (¬ lxJ T e → lxE T e - lxS T e ≤ 4 → k = -3 ∧ v = nI (lx10 T (lxS T e) (lxE T e - lxS T e)))) ⟨fun z => ⟨fun _ => ⟨rfl, rfl⟩, fun y => absurd z y, fun y => absurd z y⟩, fun z1 z2 => ⟨fun y => absurd y z1, fun _ _ => ⟨rfl, rfl⟩, fun _ y => by omega⟩⟩ (fun nj cm => by
          have hnm := c_numberOf N hN h hT (a := lxS T e) (b := lxE T e) x1 x2 cm g3
          dsimp only [fX10_readPiece_b161]
          rw [show nI (lxE T e) - nI (lxS T e) = nI (lxE T e - lxS T e) from pk_sub x1, if_pos (nI_le cm (by omega)), if_pos (show p_b false = 0 from rfl), hnm, xs_bd, c_addPiece N h4 hc hn, xs_bd]
          exact ⟨_, _, rfl, fun y => absurd y nj, fun _ y => by omega, fun _ _ => ⟨rfl, rfl⟩⟩)
      exact ⟨k, v, e1, fun z => by omega, (fun _ z => by rw [hL] at z; cases z), fun _ _ _ => e2, (fun _ _ z => by rw [hD] at z; cases z)⟩
    | false =>
      rw [if_pos (show p_b false = 0 from rfl)]
      have eE : lxE T e = lxS T e + 1 := by unfold lxE; rw [if_neg nE, if_neg (by rw [hL]; decide), if_neg (by rw [hD]; decide)]
      obtain ⟨r, o1, o2⟩ := c_indexOf N hN hb
      have hch : ((nI (T.2 (lxS T e))).toUInt32 % 65536).toInt32 = nI (T.2 (lxS T e)) := by
        have : ∀ c, c < 256 → ((nI c).toUInt32 % 65536).toInt32 = nI c := by decide +kernel
        exact this _ hb
      rw [hch, o1, xs_bd]
      by_cases cs : mSg (T.2 (lxS T e))
      · rw [if_pos (o2.mpr cs)]
        dsimp only [fX10_readPiece_b58]
        rw [c_addPiece N h4 hc hn, xs_bd, nI_1, eE]
        exact ⟨_, _, rfl, fun z => by omega, (fun _ z => by rw [hL] at z; cases z), (fun _ _ z => by rw [hD] at z; cases z), fun _ _ _ => ⟨rfl, fun _ => rfl, fun z => absurd cs z⟩⟩
      · rw [if_neg (fun z => cs (o2.mp z))]
        dsimp only [fX10_readPiece_b58]
        rw [c_addPiece N h4 hc hn, xs_bd, nI_1, eE]
        exact ⟨_, _, rfl, fun z => by omega, (fun _ z => by rw [hL] at z; cases z), (fun _ _ z => by rw [hD] at z; cases z), fun _ _ _ => ⟨rfl, fun z => absurd z cs, fun _ => rfl⟩⟩
end
