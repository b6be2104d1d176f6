/-! questions: what both ask first -/
theorem c_copy (N : Nat) {nowI walkI rowsF wrF talksF wtF : Nat → Int32} {m : Nat → Nat} (hm : cM nowI m) : ∃ w' r' t', fX6_copy N nowI walkI rowsF wrF talksF wtF = some (w', r', t') ∧ cM w' m ∧ (∀ e, e < 7 → r' e = rowsF e) ∧ (∀ p, p < 6 → t' p = talksF p) := by
  unfold fX6_copy xq_cpy
  rw [if_neg (by decide), if_neg (by decide), xs_bd, xs_bd]
  have z0 : (0 : Int32).toNatClampNeg = 0 := rfl
  have z7 : (7 : Int32).toNatClampNeg = 7 := rfl
  have z6 : (6 : Int32).toNatClampNeg = 6 := rfl
  refine ⟨_, _, _, rfl, ?_, ?_, ?_⟩
  · intro j hj
    have : j = 0 ∨ j = 1 ∨ j = 2 ∨ j = 3 ∨ j = 4 ∨ j = 5 := by omega
    rcases this with rfl | rfl | rfl | rfl | rfl | rfl
    · exact hm 0 (by omega)
    · exact hm 1 (by omega)
    · exact hm 2 (by omega)
    · exact hm 3 (by omega)
    · exact hm 4 (by omega)
    · exact hm 5 (by omega)
  · intro e he
    rw [z0, z7, pk_cpy_in (by omega) (by omega), Nat.zero_add, Nat.sub_zero]
  · intro e he
    rw [z0, z6, pk_cpy_in (by omega) (by omega), Nat.zero_add, Nat.sub_zero]
def p_ahead (Ml ng : Nat) (x : Int32) (lo hi : Nat) : Bool := decide (0 < Ml ∧ (lo : Int) ≤ x.toInt ∧ x.toInt ≤ hi ∧ x.toInt ≤ 999 - (ng : Int))
theorem p_ahead_yes {Ml ng lo hi : Nat} {x : Int32} (h : p_ahead Ml ng x lo hi = true) : 0 < Ml ∧ ∃ n : Nat, x = nI n ∧ lo ≤ n ∧ n ≤ hi ∧ ng + n ≤ 999 := by
  have h := of_decide_eq_true h
  refine ⟨h.1, x.toInt.toNat, ?_, by omega, by omega, by omega⟩
  rw [fa_eq, nI_toInt (by have := fb_rng x; omega)]; omega
theorem p_b_0 {b : Bool} : p_b b = 0 ↔ b = false := by cases b <;> decide
theorem c_comes (N : Nat) {Ml ng lo hi : Nat} {homeI nowI : Nat → Int32} (h1 : homeI 1 = nI Ml) (h0 : nowI 0 = nI ng) (hM : Ml ≤ 200) (hn : ng ≤ 999) (hl : lo < 1000) (hh : hi < 1000) (x : Int32) : fX11_comes N homeI nowI x (nI lo) (nI hi) = some (p_b (p_ahead Ml ng x lo hi)) := by
  unfold fX11_comes fX11_hasHouse p_ahead
  have e999 : (999 - nI ng).toInt = 999 - (ng : Int) := pk_sub_toInt (a := 999) (by omega) (by omega)
  rw [h1, h0]
  by_cases c0 : 0 < Ml
  · rw [if_neg (nI_nle c0 (by omega)), xs_bd, if_neg (by decide)]
    by_cases c1 : (lo : Int) ≤ x.toInt
    · rw [if_neg (by rw [fa_lt, nI_toInt (by omega)]; omega)]
      by_cases c2 : x.toInt ≤ hi
      · rw [if_neg (by rw [fa_lt, nI_toInt (by omega)]; omega)]
        by_cases c3 : x.toInt ≤ 999 - (ng : Int)
        · rw [if_neg (by rw [fa_lt, e999]; omega), decide_eq_true ⟨c0, c1, c2, c3⟩]; rfl
        · rw [if_pos (by rw [fa_lt, e999]; omega), decide_eq_false (fun z => c3 z.2.2.2)]; rfl
      · rw [if_pos (by rw [fa_lt, nI_toInt (by omega)]; omega), decide_eq_false (fun z => c2 z.2.2.1)]; rfl
    · rw [if_pos (by rw [fa_lt, nI_toInt (by omega)]; omega), decide_eq_false (fun z => c1 z.2.1)]; rfl
  · have : Ml = 0 := by omega
    subst this
    rw [if_pos (by decide), xs_bd, if_pos (by rfl), decide_eq_false (fun z => c0 z.1)]; rfl
theorem m_is (N : Nat) {lo hi : Nat} (hl : lo < 2 ^ 31) (hh : hi < 2 ^ 31) (x : Int32) : fX12_is N x (nI lo) (nI hi) = some (p_b (decide ((lo : Int) ≤ x.toInt ∧ x.toInt ≤ hi))) := by
  unfold fX12_is
  by_cases c1 : (lo : Int) ≤ x.toInt
  · rw [if_neg (by rw [fa_lt, nI_toInt hl]; omega)]
    by_cases c2 : x.toInt ≤ hi
    · rw [if_neg (by rw [fa_lt, nI_toInt hh]; omega), decide_eq_true ⟨c1, c2⟩]; rfl
    · rw [if_pos (by rw [fa_lt, nI_toInt hh]; omega), decide_eq_false (fun z => c2 z.2)]; rfl
  · rw [if_pos (by rw [fa_lt, nI_toInt hl]; omega), decide_eq_false (fun z => c1 z.1)]; rfl
/-- a house or none: the reference's flag -/
def mFl (mmI : Nat → Int32) (Ml : Nat) : Prop := mmI 43 = if 0 < Ml then 1 else 0
theorem m_ahead (N : Nat) {Ml ng lo hi : Nat} {mmI ngF : Nat → Int32} (h1 : mFl mmI Ml) (h0 : ngF 0 = nI ng) (hn : ng ≤ 999) (hl : lo < 1000) (hh : hi < 1000) (x : Int32) : fX12_isAhead N mmI ngF x (nI lo) (nI hi) = some (p_b (p_ahead Ml ng x lo hi)) := by
  unfold fX12_isAhead p_ahead
  rw [h1]
  by_cases c0 : 0 < Ml
  · rw [if_pos c0, if_neg (by decide), m_is N (by omega) (by omega), xs_bd]
    by_cases c1 : (lo : Int) ≤ x.toInt ∧ x.toInt ≤ hi
    · rw [decide_eq_true c1, if_neg (by decide)]
      show xq_bd (xq_ald 22 ngF (nI 0)) _ = _
      rw [xs_ald (by omega) (by omega), xs_bd, h0]
      have e999 : (999 - x).toInt = 999 - x.toInt := by
        have e : (999 : Int32).toInt = 999 := rfl
        rw [fb_subI (by rw [e]; omega) (by rw [e]; omega), e]
      by_cases c3 : x.toInt ≤ 999 - (ng : Int)
      · rw [if_neg (by rw [fa_lt, e999, nI_toInt (by omega)]; omega), decide_eq_true ⟨c0, c1.1, c1.2, c3⟩]; rfl
      · rw [if_pos (by rw [fa_lt, e999, nI_toInt (by omega)]; omega), decide_eq_false (fun z => c3 z.2.2.2)]; rfl
    · rw [decide_eq_false c1, if_pos (by rfl), decide_eq_false (fun z => c1 ⟨z.2.1, z.2.2.1⟩)]; rfl
  · rw [if_neg c0, if_pos (by rfl), decide_eq_false (fun z => c0 z.1)]; rfl
/-- one of E -/
def p_one_of (E : Nat) (x : Int32) : Bool := decide (0 ≤ x.toInt ∧ x.toInt < E)
theorem p_one_yes {E : Nat} {x : Int32} (h : p_one_of E x = true) : ∃ e : Nat, x = nI e ∧ e < E := by
  have h := of_decide_eq_true h
  refine ⟨x.toInt.toNat, ?_, by omega⟩
  rw [fa_eq, nI_toInt (by have := fb_rng x; omega)]; omega
theorem xs_one_of {E : Nat} (hE : E < 1000) (x : Int32) : (if x < 0 then some (0 : Int32) else (if nI E ≤ x then some 0 else some 1)) = some (p_b (p_one_of E x)) := by
  unfold p_one_of
  have e0 : (0 : Int32).toInt = 0 := rfl
  by_cases c1 : 0 ≤ x.toInt
  · rw [if_neg (by rw [fa_lt, e0]; omega)]
    by_cases c2 : x.toInt < E
    · rw [if_neg (by rw [fa_le, nI_toInt (by omega)]; omega), decide_eq_true ⟨c1, c2⟩]; rfl
    · rw [if_pos (by rw [fa_le, nI_toInt (by omega)]; omega), decide_eq_false (fun z => c2 z.2)]; rfl
  · rw [if_pos (by rw [fa_lt, e0]; omega), decide_eq_false (fun z => c1 z.1)]; rfl
theorem c_isEar (N : Nat) {E : Nat} {homeI : Nat → Int32} (h : homeI 5 = nI E) (hE : E < 1000) (x : Int32) : fX11_isEar N homeI x = some (p_b (p_one_of E x)) := by
  unfold fX11_isEar; rw [h]; exact xs_one_of hE x
theorem c_isPlace (N : Nat) {E : Nat} {homeI : Nat → Int32} (h : homeI 6 = nI E) (hE : E < 1000) (x : Int32) : fX11_isPlace N homeI x = some (p_b (p_one_of E x)) := by
  unfold fX11_isPlace; rw [h]; exact xs_one_of hE x
theorem m_isEar (N : Nat) {E b : Nat} {mmI me : Nat → Int32} (hb : b < 2) (h13 : mmI 13 = nI b) (h : me b = nI E) (hE : E < 1000) (x : Int32) : fX12_isEar N mmI me x = some (p_b (p_one_of E x)) := by
  unfold fX12_isEar; rw [h13, xs_ald hb (by omega), xs_bd, h]; exact xs_one_of hE x
theorem m_isPlace (N : Nat) {E b : Nat} {mmI mp : Nat → Int32} (hb : b < 2) (h13 : mmI 13 = nI b) (h : mp b = nI E) (hE : E < 1000) (x : Int32) : fX12_isPlace N mmI mp x = some (p_b (p_one_of E x)) := by
  unfold fX12_isPlace; rw [h13, xs_ald hb (by omega), xs_bd, h]; exact xs_one_of hE x
theorem xs_sh31 : ∀ e, e < 31 → ((nI e &&& 31).toBitVec.smod 32).toNat = e := by decide
theorem xs_bit {s e : Nat} (hs : s < 2 ^ 31) (he : e < 31) : (nI s >>> (nI e &&& 31)) &&& 1 = nI (s / 2 ^ e % 2) := by
  rw [pk_shrN hs _ e (xs_sh31 e he)]
  exact pk_andN (Nat.lt_of_le_of_lt (Nat.div_le_self _ _) (by omega)) (m := 1) 1 rfl
theorem m_has2 (N : Nat) {s e : Nat} (hs : s < 2 ^ 31) (he : e < 31) : fX12_has2 N (nI s) (nI e) = some (nI (s / 2 ^ e % 2)) := by
  unfold fX12_has2
  rw [xs_bit hs he]
  have : s / 2 ^ e % 2 < 2 := Nat.mod_lt _ (by omega)
  by_cases c : s / 2 ^ e % 2 = 1
  · rw [c, if_pos (by rfl)]; rfl
  · have c : s / 2 ^ e % 2 = 0 := by omega
    rw [c, if_neg (by decide)]; rfl
/-- in how many of the first n NIGHTS an EAR hears -/
def p_times (f : Nat → Nat) (e : Nat) : Nat → Nat
  | 0 => 0
  | n + 1 => p_times f e n + f n / 2 ^ e % 2
theorem p_times_le (f : Nat → Nat) (e : Nat) : ∀ n, p_times f e n ≤ n
  | 0 => Nat.le_refl _
  | n + 1 => by
    have := p_times_le f e n
    have h : f n / 2 ^ e % 2 < 2 := Nat.mod_lt _ (by omega)
    show p_times f e n + f n / 2 ^ e % 2 ≤ n + 1
    omega
theorem c_times (N : Nat) (hN : 5000 ≤ N) {hF : Nat → Int32} {f : Nat → Nat} {e n : Nat} (hn : n ≤ 60) (he : e < 31) (hf : ∀ i, i < n → hF i = nI (f i) ∧ f i < 1000) : fX11_timesHeard N hF (nI e) (nI n) = some (nI (p_times f e n)) := by
  refine xs_loop (body := fX11_timesHeard_l5 N hF) (fun i => (nI e, nI n, nI (p_times f e i), nI i)) n _ ?_ ?_ N (by omega)
  · intro i hi kk
    have := p_times_le f e i
    show (if nI n ≤ nI i then _ else (if nI 60 ≤ nI i then _ else xq_bd (xq_ald 60 hF (nI i)) _)) = _
    rw [if_neg (nI_ge hi (by omega)), if_neg (nI_ge (by omega) (by omega)), xs_ald (by omega) (by omega), xs_bd, (hf i hi).1, xs_bit (by have := (hf i hi).2; omega) he, nI_add, nI_1]
    rfl
  · intro kk
    show (if nI n ≤ nI n then _ else _) = _
    rw [if_pos (nI_le (Nat.le_refl _) (by omega))]
/-- the class's house, and now -/
def cNow (H : PH) (m ro ta : Nat → Nat) (nowI rowsF talksF : Nat → Int32) : Prop := cM nowI m ∧ (∀ e, e < H.1 1 → rowsF e = nI (ro e) ∧ ro e ≤ 9) ∧ (∀ p, p < H.1 2 → talksF p = nI (ta p) ∧ ta p ≤ 9)
/-- a house with its voice, or none -/
def hS (H : PH) (m : Nat → Nat) : Prop := (ph_ok H ∧ p_mok H m) ∨ (H.1 0 = 0 ∧ H.1 1 = 0 ∧ H.1 2 = 0 ∧ ∀ j, j < 6 → m j = 0)
theorem hS.b {H : PH} {m : Nat → Nat} (h : hS H m) : H.1 0 ≤ 200 ∧ H.1 1 ≤ 7 ∧ H.1 2 ≤ 6 ∧ m 0 ≤ 999 := by
  rcases h with ⟨a, b⟩ | ⟨a, b, c, d⟩
  · exact ⟨a.2.1, a.2.2.1, a.2.2.2.1, b.1⟩
  · have := d 0 (by omega); omega
theorem hS.y {H : PH} {m : Nat → Nat} (h : hS H m) (h0 : 0 < H.1 0) : ph_ok H ∧ p_mok H m := by
  rcases h with h | ⟨a, -⟩
  · exact h
  · omega
