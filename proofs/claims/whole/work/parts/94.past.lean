/-! what is kept, what can be undone: U is (how many, moments, rows, talks; 0 the newest), KR the kept rows (0 NIGHT, 1 MILE, 2 EARS) -/
abbrev PU := Nat × (Nat → Nat → Nat) × (Nat → Nat → Nat) × (Nat → Nat → Nat)
def pU_ok (H : PH) (m : Nat → Nat) (U : PU) : Prop := U.1 ≤ 20 ∧ (∀ k, k < U.1 → p_mok H (U.2.1 k) ∧ U.2.1 k 5 ≤ U.2.1 k 0 ∧ U.2.1 k 5 ≤ m 5) ∧ ∀ i j, i ≤ j → j < U.1 → U.2.1 j 5 ≤ U.2.1 i 5
def pKR_ok (n : Nat) (KR : Nat → Nat → Nat) : Prop := ∀ i, i < n → KR i 0 ≤ 999 ∧ KR i 1 < 256 ∧ KR i 2 < 128
def cU (H : PH) (U : PU) (pastI : Nat → Int32) (P Q V : Nat → Nat → Int32) : Prop := ∃ nw, nw < 20 ∧ pastI 1 = nI nw ∧ pastI 2 = nI U.1 ∧ ∀ k, k < U.1 → cNow H (U.2.1 k) (U.2.2.1 k) (U.2.2.2 k) (P ((nw + 20 - k) % 20)) (Q ((nw + 20 - k) % 20)) (V ((nw + 20 - k) % 20))
def cKR (n : Nat) (KR : Nat → Nat → Nat) (kF : Nat → Int32) : Prop := ∀ i, i < n → kF i = nI (32768 * KR i 0 + 128 * KR i 1 + KR i 2)
def mKp (v c : Nat) (KR : Nat → Nat → Nat) (X : Nat → Nat → Int32) : Prop := ∀ j f, j < min 40 c → f < 3 → X 8 (120 * v + (3 * j + f)) = nI (KR (c - min 40 c + j) f)
def mU (H : PH) (U : PU) (KR : Nat → Nat → Nat) (mmI : Nat → Int32) (X : Nat → Nat → Int32) : Prop := ∃ uf, uf < 20 ∧ mmI 54 = nI uf ∧ mmI 55 = nI U.1 ∧ ∀ k, k < U.1 → mLay H (2 + (uf + (U.1 - 1 - k)) % 20) (U.2.1 k) (U.2.2.1 k) (U.2.2.2 k) (min 40 (U.2.1 k 5)) X ∧ mKp (2 + (uf + (U.1 - 1 - k)) % 20) (U.2.1 k 5) KR X
def pU_push (m ro ta : Nat → Nat) (U : PU) : PU := (min 20 (U.1 + 1), fun k => if k = 0 then m else U.2.1 (k - 1), fun k => if k = 0 then ro else U.2.2.1 (k - 1), fun k => if k = 0 then ta else U.2.2.2 (k - 1))
def pU_pop (U : PU) : PU := (U.1 - 1, fun k => U.2.1 (k + 1), fun k => U.2.2.1 (k + 1), fun k => U.2.2.2 (k + 1))
theorem pU_push_ok {H : PH} {m ro ta : Nat → Nat} {U : PU} (h : pU_ok H m U) (hm : p_mok H m) (h5 : m 5 ≤ m 0) : pU_ok H m (pU_push m ro ta U) := by
  refine ⟨by show min 20 (U.1 + 1) ≤ 20; omega, fun k hk => ?_, fun i j hij hj => ?_⟩
  · have hk : k < min 20 (U.1 + 1) := hk
    show p_mok H (if k = 0 then m else U.2.1 (k - 1)) ∧ (if k = 0 then m else U.2.1 (k - 1)) 5 ≤ (if k = 0 then m else U.2.1 (k - 1)) 0 ∧ (if k = 0 then m else U.2.1 (k - 1)) 5 ≤ m 5
    by_cases c : k = 0
    · rw [if_pos c]; exact ⟨hm, h5, Nat.le_refl _⟩
    · rw [if_neg c]; exact h.2.1 (k - 1) (by omega)
  · have hj : j < min 20 (U.1 + 1) := hj
    show (if j = 0 then m else U.2.1 (j - 1)) 5 ≤ (if i = 0 then m else U.2.1 (i - 1)) 5
    by_cases c : i = 0
    · rw [if_pos c]
      by_cases d : j = 0
      · rw [if_pos d]; exact Nat.le_refl _
      · rw [if_neg d]; exact (h.2.1 (j - 1) (by omega)).2.2
    · rw [if_neg c, if_neg (by omega)]
      exact h.2.2 (i - 1) (j - 1) (by omega) (by omega)
theorem pU_pop_ok {H : PH} {m : Nat → Nat} {U : PU} (h : pU_ok H m U) (h0 : 0 < U.1) : pU_ok H (U.2.1 0) (pU_pop U) := by
  refine ⟨by show U.1 - 1 ≤ 20; have := h.1; omega, fun k hk => ?_, fun i j hij hj => ?_⟩
  · have hk : k < U.1 - 1 := hk
    have := h.2.1 (k + 1) (by omega)
    exact ⟨this.1, this.2.1, h.2.2 0 (k + 1) (by omega) (by omega)⟩
  · have hj : j < U.1 - 1 := hj
    exact h.2.2 (i + 1) (j + 1) (by omega) (by omega)
theorem pU_ok.up {H : PH} {m m' : Nat → Nat} {U : PU} (h : pU_ok H m U) (h5 : m 5 ≤ m' 5) : pU_ok H m' U := ⟨h.1, fun k hk => ⟨(h.2.1 k hk).1, (h.2.1 k hk).2.1, Nat.le_trans (h.2.1 k hk).2.2 h5⟩, h.2.2⟩
theorem mKp.oth {v u c : Nat} {KR : Nat → Nat → Nat} {X X' : Nat → Nat → Int32} (h : mKp u c KR X) (g : mOth v X X') (hu : u ≠ v) : mKp u c KR X' := fun j f hj hf => by
  rw [g.2.2.2 _ (by omega)]; exact h j f hj hf
theorem mKp.kr {v c : Nat} {KR KR' : Nat → Nat → Nat} {X : Nat → Nat → Int32} (h : mKp v c KR X) (g : ∀ i f, i < c → KR' i f = KR i f) : mKp v c KR' X := fun j f hj hf => by
  rw [g _ f (by omega)]; exact h j f hj hf
theorem c_remember (N : Nat) {H : PH} {m ro ta : Nat → Nat} {U : PU} (hE : H.1 1 ≤ 7) (hP : H.1 2 ≤ 6) {nowI rowsF talksF pastI : Nat → Int32} {P Q V : Nat → Nat → Int32} (hn : cNow H m ro ta nowI rowsF talksF) (hU : cU H U pastI P Q V) (hb : U.1 ≤ 20) : ∃ pastI' P' Q' V', fX7_remember N pastI P Q V nowI rowsF talksF = some (pastI', P', Q', V') ∧ cU H (pU_push m ro ta U) pastI' P' Q' V' := by
  obtain ⟨nw, h1, h2, h3, h4⟩ := hU
  obtain ⟨w, r, t, e1, e2, e3, e4⟩ := c_copy N (walkI := P ((nw + 1) % 20)) (rowsF := rowsF) (wrF := Q ((nw + 1) % 20)) (talksF := talksF) (wtF := V ((nw + 1) % 20)) hn.1
  have hlt : (nw + 1) % 20 < 20 := Nat.mod_lt _ (by omega)
  have r20 : xq_rm (pastI 1 + 1) 20 = some (nI ((nw + 1) % 20)) := by
    rw [h2, nI_1]
    exact xs_rm (b := 20) (by omega) (by omega) (by omega)
  unfold fX7_remember
  rw [r20, xs_bd, if_neg (nI_in hlt (by omega)), nI_clamp (by omega), e1, xs_bd]
  refine ⟨_, _, _, _, rfl, (nw + 1) % 20, hlt, rfl, ?_, fun k hk => ?_⟩
  · show xq_min 20 (pastI 2 + 1) = nI (min 20 (U.1 + 1))
    rw [h3, nI_1]
    show xq_min (nI 20) _ = _
    rw [xs_min (by omega) (by omega)]
  · have hk : k < min 20 (U.1 + 1) := hk
    show cNow H (if k = 0 then m else U.2.1 (k - 1)) (if k = 0 then ro else U.2.2.1 (k - 1)) (if k = 0 then ta else U.2.2.2 (k - 1)) _ _ _
    by_cases c : k = 0
    · subst c
      have ei : ((nw + 1) % 20 + 20 - 0) % 20 = (nw + 1) % 20 := by omega
      rw [ei, if_pos rfl, if_pos rfl, if_pos rfl, va_up_self, va_up_self, va_up_self]
      exact ⟨e2, fun e he => ⟨(e3 e (by omega)).trans (hn.2.1 e he).1, (hn.2.1 e he).2⟩, fun p hp => ⟨(e4 p (by omega)).trans (hn.2.2 p hp).1, (hn.2.2 p hp).2⟩⟩
    · have ei : ((nw + 1) % 20 + 20 - k) % 20 = (nw + 20 - (k - 1)) % 20 := by omega
      have ne : (nw + 20 - (k - 1)) % 20 ≠ (nw + 1) % 20 := by omega
      rw [ei, if_neg c, if_neg c, if_neg c, va_up_ne _ _ ne, va_up_ne _ _ ne, va_up_ne _ _ ne]
      exact h4 (k - 1) (by omega)
theorem c_bring (N : Nat) {H : PH} {U : PU} (hE : H.1 1 ≤ 7) (hP : H.1 2 ≤ 6) {nowI rowsF talksF pastI : Nat → Int32} {P Q V : Nat → Nat → Int32} (hU : cU H U pastI P Q V) (hb : U.1 ≤ 20) (h0 : 0 < U.1) : ∃ pastI' w r t, fX7_bringBack N pastI P Q V nowI rowsF talksF = some (pastI', w, r, t) ∧ cU H (pU_pop U) pastI' P Q V ∧ cNow H (U.2.1 0) (U.2.2.1 0) (U.2.2.2 0) w r t := by
  obtain ⟨nw, h1, h2, h3, h4⟩ := hU
  have hn := h4 0 h0
  have ei : (nw + 20 - 0) % 20 = nw := by omega
  rw [ei] at hn
  obtain ⟨w, r, t, e1, e2, e3, e4⟩ := c_copy N (walkI := nowI) (rowsF := Q nw) (wrF := rowsF) (talksF := V nw) (wtF := talksF) hn.1
  have r20 : xq_rm (nI nw + 20 - 1) 20 = some (nI ((nw + 19) % 20)) := by
    have : nI nw + 20 - 1 = nI (nw + 19) := by
      show nI nw + nI 20 - nI 1 = _
      rw [nI_add, pk_sub (by omega)]
      exact nI_c (by omega)
    rw [this]
    exact xs_rm (b := 20) (by omega) (by omega) (by omega)
  unfold fX7_bringBack
  rw [h2, if_neg (nI_in h1 (by omega)), nI_clamp (by omega), e1, xs_bd]
  dsimp only
  rw [r20, xs_bd]
  refine ⟨_, w, r, t, rfl, ⟨(nw + 19) % 20, Nat.mod_lt _ (by omega), rfl, ?_, fun k hk => ?_⟩, ⟨e2, fun e he => ⟨(e3 e (by omega)).trans (hn.2.1 e he).1, (hn.2.1 e he).2⟩, fun p hp => ⟨(e4 p (by omega)).trans (hn.2.2 p hp).1, (hn.2.2 p hp).2⟩⟩⟩
  · show pastI 2 - 1 = nI (U.1 - 1)
    rw [h3]
    show nI U.1 - nI 1 = _
    rw [pk_sub (by omega)]
  · have hk : k < U.1 - 1 := hk
    have ek : ((nw + 19) % 20 + 20 - k) % 20 = (nw + 20 - (k + 1)) % 20 := by omega
    rw [ek]
    exact h4 (k + 1) (by omega)
/-- the reference keeps a moment -/
theorem m_keeps (N : Nat) (hN : 5000 ≤ N) {H : PH} {m ro ta : Nat → Nat} {U : PU} {KR : Nat → Nat → Nat} {mmI : Nat → Int32} {X : Nat → Nat → Int32} (hE : H.1 1 ≤ 7) (hP : H.1 2 ≤ 6) (hL : mLay H 0 m ro ta (min 40 (m 5)) X) (hK : mKp 0 (m 5) KR X) (hU : mU H U KR mmI X) (hb : U.1 ≤ 20) : ∃ mmI' X', fX12_keeps N mmI (X 0) (X 1) (X 2) (X 3) (X 4) (X 5) (X 6) (X 7) (X 8) = some (mmI', X' 0, X' 1, X' 2, X' 3, X' 4, X' 5, X' 6, X' 7, X' 8) ∧ (∀ i, i ≠ 54 → i ≠ 55 → mmI' i = mmI i) ∧ mLay H 0 m ro ta (min 40 (m 5)) X' ∧ mKp 0 (m 5) KR X' ∧ mU H (pU_push m ro ta U) KR mmI' X' := by
  obtain ⟨uf, h1, h2, h3, h4⟩ := hU
  have base : ∀ (I : Nat → Int32) (uf' ac : Nat), uf' < 20 → ac < 20 → I 54 = nI uf' → I 55 = nI ac → (∀ i, i ≠ 54 → i ≠ 55 → I i = mmI i) → (∀ k, k < ac → (uf' + (ac - 1 - k)) % 20 = (uf + (U.1 - 1 - k)) % 20) → min 20 (U.1 + 1) = ac + 1 → ac ≤ U.1 → ∃ mmI' X', fX12_keeps_b32 N (I, X 0, X 1, X 2, X 3, X 4, X 5, X 6, X 7, X 8) = some (mmI', X' 0, X' 1, X' 2, X' 3, X' 4, X' 5, X' 6, X' 7, X' 8) ∧ (∀ i, i ≠ 54 → i ≠ 55 → mmI' i = mmI i) ∧ mLay H 0 m ro ta (min 40 (m 5)) X' ∧ mKp 0 (m 5) KR X' ∧ mU H (pU_push m ro ta U) KR mmI' X' := by
    intro I uf' ac q1 q2 q3 q4 q5 q6 q7 q8
    dsimp only [fX12_keeps_b32]
    have es : fX12_slot N I (I 55) = some (nI (2 + (uf' + ac) % 20)) := by
      unfold fX12_slot
      have r20 : xq_rm (I 54 + I 55) 20 = some (nI ((uf' + ac) % 20)) := by
        rw [q3, q4, nI_add]
        exact xs_rm (b := 20) (by omega) (by omega) (by omega)
      rw [r20, xs_bd]
      show some (nI 2 + nI _) = _
      rw [nI_add]
    rw [es, xs_bd]
    obtain ⟨X', e1, e2, e3, e4⟩ := m_copyL N hN hE hP (show 2 + (uf' + ac) % 20 < 22 by omega) (show 0 < 22 by omega) (by omega) hL
    show ∃ mmI' X', xq_bd (fX12_copies N (X 0) (X 1) (X 2) (X 3) (X 4) (X 5) (X 6) (X 7) (X 8) (nI (2 + (uf' + ac) % 20)) (nI 0)) _ = _ ∧ _
    rw [e1, xs_bd]
    refine ⟨va_up I 55 (I 55 + 1), X', rfl, fun i i1 i2 => by rw [va_up_ne _ _ i2]; exact q5 i i1 i2, hL.oth e2 (by omega) hE hP, hK.oth e2 (by omega), uf', q1, by show I 54 = _; exact q3, ?_, fun k hk => ?_⟩
    · show I 55 + 1 = nI (min 20 (U.1 + 1))
      rw [q4, nI_1, q7]
    · have hk : k < min 20 (U.1 + 1) := hk
      have ea : (pU_push m ro ta U).1 = ac + 1 := q7
      rw [ea]
      show mLay H _ (if k = 0 then m else U.2.1 (k - 1)) (if k = 0 then ro else U.2.2.1 (k - 1)) (if k = 0 then ta else U.2.2.2 (k - 1)) (min 40 ((if k = 0 then m else U.2.1 (k - 1)) 5)) X' ∧ mKp _ ((if k = 0 then m else U.2.1 (k - 1)) 5) KR X'
      by_cases c : k = 0
      · subst c
        rw [if_pos rfl, if_pos rfl, if_pos rfl]
        have ei : ac + 1 - 1 - 0 = ac := by omega
        rw [ei]
        refine ⟨e3, fun j f hj hf => ?_⟩
        rw [e4 _ (by omega)]
        have := hK j f hj hf
        rw [Nat.mul_zero, Nat.zero_add] at this
        rw [Nat.mul_zero, Nat.zero_add]
        exact this
      · rw [if_neg c, if_neg c, if_neg c]
        have hq := q6 (k - 1) (by omega)
        have ei : (uf' + (ac + 1 - 1 - k)) % 20 = (uf + (U.1 - 1 - (k - 1))) % 20 := by rw [← hq]; congr 2; omega
        rw [ei]
        obtain ⟨a, b⟩ := h4 (k - 1) (by omega)
        have ne : 2 + (uf + (U.1 - 1 - (k - 1))) % 20 ≠ 2 + (uf' + ac) % 20 := by rw [← hq]; omega
        exact ⟨a.oth e2 ne hE hP, b.oth e2 ne⟩
  unfold fX12_keeps
  rw [h3]
  by_cases c : U.1 = 20
  · have r20 : xq_rm (mmI 54 + 1) 20 = some (nI ((uf + 1) % 20)) := by
      rw [h2, nI_1]
      exact xs_rm (b := 20) (by omega) (by omega) (by omega)
    have e19 : nI U.1 - 1 = nI 19 := by rw [c]; decide
    rw [if_pos (show nI U.1 = (20 : Int32) by rw [c]; rfl), r20, xs_bd, e19]
    exact base _ ((uf + 1) % 20) 19 (Nat.mod_lt _ (by omega)) (by omega) rfl rfl (fun i i1 i2 => by rw [va_up_ne _ _ i2, va_up_ne _ _ i1]) (fun k hk => by omega) (by omega) (by omega)
  · rw [if_neg (show ¬ nI U.1 = (20 : Int32) from fun z => c ((nI_eq (b := 20) (by omega) (by omega)).mp z))]
    exact base mmI uf U.1 h1 (by omega) h2 h3 (fun _ _ _ => rfl) (fun k hk => rfl) (by omega) (by omega)
