/-! where the voice can be: marks K rows of (night, ear, hears) -/
abbrev PK := Nat × (Nat → Nat) × (Nat → Nat) × (Nat → Nat)
def pk_ok (H : PH) (K : PK) : Prop := K.1 ≤ 16 ∧ ∀ i, i < K.1 → K.2.1 i ≤ 30 ∧ K.2.2.1 i < H.1 1 ∧ K.2.2.2 i ≤ 1
def p_atm (m : Nat → Nat) (mile : Nat) : Nat → Nat := va_up (va_up m 1 mile) 3 0
/-- who hears in the NIGHT AHEAD k, if the voice is at that MILE now -/
def p_qh (H : PH) (m ro ta : Nat → Nat) (mile k : Nat) : Nat := p_heard H ta ro (m 4) (p_atm m mile) k
def p_sat (H : PH) (m ro ta : Nat → Nat) (K : PK) (mile i : Nat) : Bool := decide (p_qh H m ro ta mile (K.2.1 i) / 2 ^ (K.2.2.1 i) % 2 = K.2.2.2 i)
def p_so (H : PH) (m ro ta : Nat → Nat) (K : PK) (n mile : Nat) : Bool := decide (∀ i, i < K.1 → K.2.1 i < n ∧ p_sat H m ro ta K mile i = true)
theorem p_atm_ok {H : PH} {m : Nat → Nat} (h : p_mok H m) {mile : Nat} (hm : mile < H.1 0) : p_mok H (p_atm m mile) := ⟨h.1, hm, h.2.2.1, Nat.zero_le _, h.2.2.2.2⟩
theorem p_qh_lt {H : PH} (hE : H.1 1 ≤ 7) (m ro ta : Nat → Nat) (mile k : Nat) : p_qh H m ro ta mile k < 128 := p_set_lt hE _ _ _
/-- the class's marks -/
def cK (K : PK) (marksI nF eF hF : Nat → Int32) : Prop := marksI 0 = nI K.1 ∧ ∀ i, i < K.1 → nF i = nI (K.2.1 i) ∧ eF i = nI (K.2.2.1 i) ∧ hF i = nI (K.2.2.2 i)
theorem c_areSo (N : Nat) (hN : 5000 ≤ N) {H : PH} (hE : H.1 1 ≤ 7) {m ro ta : Nat → Nat} {K : PK} (hK : pk_ok H K) {marksI nF eF hF aF : Nat → Int32} (hk : cK K marksI nF eF hF) {n mile : Nat} (hn : n ≤ 60) (ha : ∀ k, k < n → aF k = nI (p_qh H m ro ta mile k)) : fX5_areSo N marksI nF aF eF hF 60 (nI n) = some (p_b (p_so H m ro ta K n mile)) := by
  refine xs_loopI (body := fX5_areSo_l2 N marksI nF aF eF hF 60) (fun k st => ∃ i, st = (nI n, nI i) ∧ i + k = K.1 ∧ ∀ j, j < i → K.2.1 j < n ∧ p_sat H m ro ta K mile j = true) (fun r => r = some (p_b (p_so H m ro ta K n mile))) ?_ N K.1 _ ⟨0, rfl, by omega, fun j hj => absurd hj (Nat.not_lt_zero _)⟩ (by have := hK.1; omega)
  rintro k st kk ⟨i, rfl, hi, hall⟩ hgo
  have h16 := hK.1
  dsimp only [fX5_areSo_l2]
  rw [hk.1]
  by_cases c : K.1 ≤ i
  · have : i = K.1 := by omega
    subst this
    rw [if_pos (nI_le (Nat.le_refl _) (by omega))]
    unfold p_so
    rw [decide_eq_true hall]; rfl
  · obtain ⟨k1, k2, k3⟩ := hk.2 i (by omega)
    obtain ⟨q1, q2, q3⟩ := hK.2 i (by omega)
    rw [if_neg (nI_ge (by omega) (by omega)), xs_ald (show i < 16 by omega) (by omega), xs_bd, k1]
    by_cases d : K.2.1 i < n
    · rw [if_neg (nI_ge d (by omega)), if_neg (nI_ge (show K.2.1 i < 60 by omega) (by omega)), xs_ald (show K.2.1 i < 60 by omega) (by omega), xs_bd, xs_ald (show i < 16 by omega) (by omega), xs_bd, xs_ald (show i < 16 by omega) (by omega), xs_bd, k2, k3, ha _ d]
      have hb := p_qh_lt hE m ro ta mile (K.2.1 i)
      have hbit : p_qh H m ro ta mile (K.2.1 i) / 2 ^ (K.2.2.1 i) % 2 < 2 := Nat.mod_lt _ (by omega)
      rw [xs_bit (by omega) (by omega)]
      by_cases e : p_qh H m ro ta mile (K.2.1 i) / 2 ^ (K.2.2.1 i) % 2 = K.2.2.2 i
      · rw [if_pos (by rw [e]), nI_1]
        exact hgo _ (k - 1) (by omega) ⟨i + 1, rfl, by omega, fun j hj => by
          by_cases g : j = i
          · rw [g]; exact ⟨d, decide_eq_true e⟩
          · exact hall j (by omega)⟩
      · rw [if_neg (fun z => e ((nI_eq (by omega) (by omega)).mp z))]
        unfold p_so
        rw [decide_eq_false (fun z => by
          have := (z i (by omega)).2
          exact e (of_decide_eq_true this))]; rfl
    · rw [if_pos (nI_le (by omega) (by omega))]
      unfold p_so
      rw [decide_eq_false (fun z => d (z i (by omega)).1)]; rfl
/-- the marked NIGHTS -/
def p_nm (K : PK) : Nat → Nat
  | 0 => 0
  | i + 1 => max (p_nm K i) (K.2.1 i + 1)
theorem p_nm_ok {H : PH} {K : PK} (hK : pk_ok H K) : ∀ n, n ≤ K.1 → p_nm K n ≤ 31 ∧ ∀ i, i < n → K.2.1 i < p_nm K n
  | 0, _ => ⟨Nat.zero_le _, fun i h => absurd h (Nat.not_lt_zero _)⟩
  | n + 1, h => by
    obtain ⟨a, b⟩ := p_nm_ok hK n (by omega)
    have := (hK.2 n (by omega)).1
    refine ⟨by show max (p_nm K n) (K.2.1 n + 1) ≤ 31; omega, fun i hi => ?_⟩
    show K.2.1 i < max (p_nm K n) (K.2.1 n + 1)
    by_cases g : i = n
    · subst g; omega
    · have := b i (by omega); omega
theorem c_nightsMarked (N : Nat) (hN : 5000 ≤ N) {H : PH} {K : PK} (hK : pk_ok H K) {marksI nF eF hF : Nat → Int32} (hk : cK K marksI nF eF hF) : fX5_nightsMarked N marksI nF = some (nI (p_nm K K.1)) := by
  have h16 := hK.1
  refine xs_loop (body := fX5_nightsMarked_l4 N marksI nF) (fun i => (nI (p_nm K i), nI i)) K.1 _ ?_ ?_ N (by omega)
  · intro i hi kk
    have a := (p_nm_ok hK i (by omega)).1
    have b := (hK.2 i hi).1
    dsimp only [fX5_nightsMarked_l4]
    rw [hk.1, if_neg (nI_ge hi (by omega)), xs_ald (show i < 16 by omega) (by omega), xs_bd, (hk.2 i hi).1, nI_1, xs_max (by omega) (by omega), nI_1]
    rfl
  · intro kk
    dsimp only [fX5_nightsMarked_l4]
    rw [hk.1, if_pos (nI_le (Nat.le_refl _) (by omega))]
/-- so at all that comes -/
def p_lf (H : PH) (m ro ta : Nat → Nat) (K : PK) (mile : Nat) : Bool := p_so H m ro ta K (999 - m 0) mile
theorem p_so_all {H : PH} {m ro ta : Nat → Nat} {K : PK} (mile : Nat) {n B : Nat} (h : ∀ i, i < K.1 → K.2.1 i < B) (hn : n = min B (999 - m 0)) : p_so H m ro ta K n mile = p_lf H m ro ta K mile := by
  unfold p_lf p_so
  congr 1
  apply propext
  constructor
  · intro z i hi; have := z i hi; exact ⟨by omega, this.2⟩
  · intro z i hi; have := z i hi; have := h i hi; exact ⟨by omega, (z i hi).2⟩
theorem c_canBe (N : Nat) (hN : 5000 ≤ N) {H : PH} {m ro ta : Nat → Nat} (hH : ph_ok H) (hm : p_mok H m) {homeI home_sharpsF home_placeMilesF home_goesF home_hearsF home_talkForF : Nat → Int32} {home_goesN home_hearsN home_talkForN : Nat} (hc : cH H homeI home_sharpsF home_placeMilesF home_goesF home_hearsF home_talkForF home_goesN home_hearsN home_talkForN) {nowI now_rowsF now_talksF : Nat → Int32} (hn : cNow H m ro ta nowI now_rowsF now_talksF) {K : PK} (hK : pk_ok H K) {marksI marks_nightsAheadF marks_earsF marks_hearingF : Nat → Int32} (hk : cK K marksI marks_nightsAheadF marks_earsF marks_hearingF) {walkI walk_rowsF walk_talksF dv_heardAheadF course_valuesF course_stackF : Nat → Int32} {mile n : Nat} (hmi : mile < H.1 0) (hn60 : n ≤ 60) : ∃ w r t h v s, fX11_canBeAt N nowI walkI now_rowsF walk_rowsF now_talksF walk_talksF dv_heardAheadF course_valuesF homeI home_goesF course_stackF home_talkForF home_placeMilesF home_sharpsF home_hearsF marksI marks_nightsAheadF marks_earsF marks_hearingF home_goesN home_talkForN home_hearsN (nI mile) (nI n) = some (p_b (p_so H m ro ta K n mile), w, r, t, h, v, s) ∧ ∀ k, k < n → h k = nI (p_qh H m ro ta mile k) := by
  have g7 := hH.2.2.1
  have g6 := hH.2.2.2.1
  obtain ⟨w, r, t, e2, e3, e4, e5⟩ := c_copy N (walkI := walkI) (rowsF := now_rowsF) (wrF := walk_rowsF) (talksF := now_talksF) (wtF := walk_talksF) hn.1
  unfold fX11_canBeAt
  rw [e2, xs_bd]
  dsimp only
  obtain ⟨mo, v, s, e6, e7⟩ := c_pass N hN hH hc (moI := va_up (va_up w 1 (nI mile)) 3 (nI 0)) (vals := course_valuesF) (stk := course_stackF) (rowsF := r) (talksF := t) (hF := dv_heardAheadF) (hu := m 4) (n := n) (m := p_atm m mile) (cM_up (cM_up e3 1 mile) 3 0) (p_atm_ok hm hmi) (fun e he => ⟨(e4 e (by omega)).trans (hn.2.1 e he).1, (hn.2.1 e he).2⟩) (fun p hp => ⟨(e5 p (by omega)).trans (hn.2.2 p hp).1, (hn.2.2 p hp).2⟩) (by have := hm.2.2.2.2; omega) hn60
  show ∃ w' r' t' h v s, xq_bd (fX0_passNights N dv_heardAheadF (va_up (va_up w 1 (nI mile)) 3 (nI 0)) course_valuesF homeI home_goesF course_stackF t home_talkForF home_placeMilesF r home_sharpsF home_hearsF 60 home_goesN home_talkForN home_hearsN (w 4) (nI n)) _ = _ ∧ _
  rw [e3 4 (by omega), e6, xs_bd]
  dsimp only
  have hh : ∀ k, k < n → fa_fill (fun i => nI (p_heard H ta ro (m 4) (p_atm m mile) i)) dv_heardAheadF n k = nI (p_qh H m ro ta mile k) := fun k hk => fa_fill_in hk
  rw [c_areSo N hN g7 hK hk hn60 hh, xs_bd]
  have ez : xq_zb (p_b (p_so H m ro ta K n mile)) = some (p_b (p_so H m ro ta K n mile)) := by
    cases p_so H m ro ta K n mile <;> rfl
  rw [ez, xs_bd]
  exact ⟨_, _, _, _, _, _, rfl, hh⟩
def p_kth (ok : Nat → Bool) (k Ml : Nat) : Nat := fa_first (fun mile => ok mile && decide (fb_ct ok mile = k)) Ml
def qa_miles (H : PH) (m ro ta : Nat → Nat) (K : PK) (x : Int32) : Int32 := if 0 < H.1 0 ∧ -1 ≤ x.toInt then (if x = -1 then nI (fb_ct (p_lf H m ro ta K) (H.1 0)) else if p_kth (p_lf H m ro ta K) x.toNatClampNeg (H.1 0) < H.1 0 then nI (p_kth (p_lf H m ro ta K) x.toNatClampNeg (H.1 0)) else -1) else -1
theorem p_kth_is {ok : Nat → Bool} {k Ml i : Nat} (h : i ≤ p_kth ok k Ml) (hi : i < Ml) (c : ok i = true) (c2 : fb_ct ok i = k) : p_kth ok k Ml = i := by
  apply Nat.le_antisymm _ h
  apply Nat.le_of_not_lt
  intro z
  have := fa_first_no (fun mile => ok mile && decide (fb_ct ok mile = k)) Ml i z
  rw [c, decide_eq_true c2] at this
  exact absurd this (by decide)
theorem p_kth_next {ok : Nat → Bool} {k Ml i : Nat} (h : i ≤ p_kth ok k Ml) (hi : i < Ml) (c : ¬ (ok i = true ∧ fb_ct ok i = k)) : i + 1 ≤ p_kth ok k Ml := by
  apply Nat.lt_of_le_of_ne h
  intro z
  have := fa_first_yes (fun mile => ok mile && decide (fb_ct ok mile = k)) Ml (by show p_kth ok k Ml < Ml; omega)
  have this : (ok (p_kth ok k Ml) && decide (fb_ct ok (p_kth ok k Ml) = k)) = true := this
  rw [← z] at this
  have := (Bool.and_eq_true _ _).mp this
  exact c ⟨this.1, of_decide_eq_true this.2⟩
theorem c_miles (N : Nat) (hN : 5000 ≤ N) {H : PH} {m ro ta : Nat → Nat} (hs : hS H m) {homeI home_sharpsF home_placeMilesF home_goesF home_hearsF home_talkForF : Nat → Int32} {home_goesN home_hearsN home_talkForN : Nat} (hc : cH H homeI home_sharpsF home_placeMilesF home_goesF home_hearsF home_talkForF home_goesN home_hearsN home_talkForN) {nowI now_rowsF now_talksF : Nat → Int32} (hn : cNow H m ro ta nowI now_rowsF now_talksF) {K : PK} (hK : pk_ok H K) {marksI marks_nightsAheadF marks_earsF marks_hearingF : Nat → Int32} (hk : cK K marksI marks_nightsAheadF marks_earsF marks_hearingF) {walkI walk_rowsF walk_talksF dv_heardAheadF course_valuesF course_stackF : Nat → Int32} (x : Int32) : ∃ w r t h v s, fX11_miles N homeI marksI marks_nightsAheadF nowI walkI now_rowsF walk_rowsF now_talksF walk_talksF dv_heardAheadF course_valuesF home_goesF course_stackF home_talkForF home_placeMilesF home_sharpsF home_hearsF marks_earsF marks_hearingF home_goesN home_talkForN home_hearsN x = some (qa_miles H m ro ta K x, w, r, t, h, v, s) := by
  obtain ⟨b0, b1, b2, b3⟩ := hs.b
  have km : (-1 : Int32).toInt = -1 := rfl
  unfold fX11_miles fX11_hasHouse qa_miles
  rw [hc.1]
  by_cases g0 : 0 < H.1 0
  · rw [if_neg (nI_nle g0 (by omega)), xs_bd, if_neg (by decide)]
    by_cases c1 : (-1 : Int32) ≤ x
    · have d1 : (-1 : Int) ≤ x.toInt := by have := (fa_le _ _).mp c1; rw [km] at this; exact this
      obtain ⟨hH, hm⟩ := hs.y g0
      rw [if_pos c1, if_pos ⟨g0, d1⟩, c_nightsMarked N hN hK hk, xs_bd, hn.1 0 (by omega)]
      obtain ⟨n1, n2⟩ := p_nm_ok hK K.1 (Nat.le_refl _)
      have em : xq_min (nI (p_nm K K.1)) (999 - nI (m 0)) = nI (min (p_nm K K.1) (999 - m 0)) := by
        show xq_min _ (nI 999 - nI (m 0)) = _
        rw [pk_sub b3, xs_min (by omega) (by omega)]
      rw [em]
      have hle : p_kth (p_lf H m ro ta K) x.toNatClampNeg (H.1 0) ≤ H.1 0 := fa_first_le _ _
      refine xs_loopI (body := fX11_miles_l41 N homeI marksI marks_nightsAheadF nowI now_rowsF now_talksF home_goesF home_talkForF home_placeMilesF home_sharpsF home_hearsF marks_earsF marks_hearingF home_goesN home_talkForN home_hearsN) (fun k st => ∃ w r t h v s i, st = (w, r, t, h, v, s, x, nI (min (p_nm K K.1) (999 - m 0)), nI (fb_ct (p_lf H m ro ta K) i), nI i) ∧ i + k = H.1 0 ∧ (x ≠ -1 → i ≤ p_kth (p_lf H m ro ta K) x.toNatClampNeg (H.1 0))) (fun q => ∃ w r t h v s, q = some ((if x = -1 then nI (fb_ct (p_lf H m ro ta K) (H.1 0)) else if p_kth (p_lf H m ro ta K) x.toNatClampNeg (H.1 0) < H.1 0 then nI (p_kth (p_lf H m ro ta K) x.toNatClampNeg (H.1 0)) else -1), w, r, t, h, v, s)) ?_ N (H.1 0) _ ⟨_, _, _, _, _, _, 0, rfl, by omega, fun _ => Nat.zero_le _⟩ (by omega)
      rintro k st kk ⟨w, r, t, h, v, s, i, rfl, hi, hl⟩ hgo
      have hct := fb_ct_le (p_lf H m ro ta K) i
      show ∃ w r t h v s, (if homeI 1 ≤ nI i then _ else _) = _
      rw [hc.1]
      by_cases c : H.1 0 ≤ i
      · have : i = H.1 0 := by omega
        subst this
        rw [if_pos (nI_le (Nat.le_refl _) (by omega))]
        by_cases cx : x = -1
        · rw [if_pos cx, if_pos cx]
          exact ⟨_, _, _, _, _, _, rfl⟩
        · rw [if_neg cx, if_neg cx, if_neg (by have := hl cx; omega)]
          exact ⟨_, _, _, _, _, _, rfl⟩
      · rw [if_neg (nI_ge (by omega) (by omega))]
        obtain ⟨w2, r2, t2, h2, v2, s2, e2, -⟩ := c_canBe N hN hH hm hc hn hK hk (walkI := w) (walk_rowsF := r) (walk_talksF := t) (dv_heardAheadF := h) (course_valuesF := v) (course_stackF := s) (mile := i) (n := min (p_nm K K.1) (999 - m 0)) (by omega) (by omega)
        rw [e2, xs_bd, p_so_all i n2 rfl]
        dsimp only
        have hs1 := fb_ct_succ (p_lf H m ro ta K) i
        cases hq : p_lf H m ro ta K i with
        | false =>
          rw [if_pos (by rfl)]
          dsimp only [fX11_miles_b74]
          rw [nI_1]
          refine hgo _ (k - 1) (by omega) ⟨w2, r2, t2, h2, v2, s2, i + 1, ?_, by omega, fun cx => p_kth_next (hl cx) (by omega) (fun z => by rw [hq] at z; exact Bool.false_ne_true z.1)⟩
          rw [hs1, hq]; rfl
        | true =>
          rw [if_neg (by decide)]
          by_cases ce : nI (fb_ct (p_lf H m ro ta K) i) = x
          · have cx : x ≠ -1 := fun z => nI_nm1 (by omega) (ce.trans z)
            rw [if_pos ce, if_neg cx]
            have ek : x.toNatClampNeg = fb_ct (p_lf H m ro ta K) i := by rw [← ce, nI_clamp (by omega)]
            rw [p_kth_is (hl cx) (by omega) hq ek.symm, if_pos (by omega)]
            exact ⟨_, _, _, _, _, _, rfl⟩
          · rw [if_neg ce]
            dsimp only [fX11_miles_b74]
            rw [nI_1, nI_1]
            refine hgo _ (k - 1) (by omega) ⟨w2, r2, t2, h2, v2, s2, i + 1, ?_, by omega, fun cx => p_kth_next (hl cx) (by omega) (fun z => ce ?_)⟩
            · rw [hs1, hq]; rfl
            · rw [z.2]
              have : ¬ x < 0 := by
                rw [fa_lt]
                show ¬ x.toInt < 0
                intro q
                apply cx
                rw [fa_eq, km]; omega
              obtain ⟨j, hj, rfl⟩ := nI_of this
              rw [nI_clamp hj]
    · rw [if_neg c1, if_neg (fun z => c1 (by rw [fa_le, km]; exact z.2))]
      exact ⟨_, _, _, _, _, _, rfl⟩
  · have : H.1 0 = 0 := by omega
    rw [this, if_pos (by decide), xs_bd, if_pos (by rfl), if_neg (fun z => by omega)]
    exact ⟨_, _, _, _, _, _, rfl⟩
