/-! tells -/
/-- does that EAR hear in that NIGHT from that MILE, if it is left -/
def p_tb (H : PH) (m ro ta : Nat → Nat) (K : PK) (j mile : Nat) : Nat := if p_lf H m ro ta K mile = true then p_qh H m ro ta mile (j / 7) / 2 ^ (j % 7) % 2 else 0
def p_tl (H : PH) (m ro ta : Nat → Nat) (K : PK) (j n : Nat) : Nat := fb_sm (p_tb H m ro ta K j) n
theorem p_tl_le (H : PH) (m ro ta : Nat → Nat) (K : PK) (j : Nat) : ∀ n, p_tl H m ro ta K j n ≤ fb_ct (p_lf H m ro ta K) n
  | 0 => Nat.le_refl _
  | n + 1 => by
    have ih := p_tl_le H m ro ta K j n
    have h1 : p_tl H m ro ta K j (n + 1) = p_tl H m ro ta K j n + p_tb H m ro ta K j n := fb_sm_succ _ n
    have h2 := fb_ct_succ (p_lf H m ro ta K) n
    have h3 : p_tb H m ro ta K j n ≤ if p_lf H m ro ta K n = true then 1 else 0 := by
      unfold p_tb
      split
      · have : p_qh H m ro ta n (j / 7) / 2 ^ (j % 7) % 2 < 2 := Nat.mod_lt _ (by omega)
        omega
      · omega
    omega
def p_L (H : PH) (m ro ta : Nat → Nat) (K : PK) : Nat := fb_ct (p_lf H m ro ta K) (H.1 0)
def p_mo (H : PH) (m ro ta : Nat → Nat) (K : PK) (j : Nat) : Nat := max (p_tl H m ro ta K j (H.1 0)) (p_L H m ro ta K - p_tl H m ro ta K j (H.1 0))
theorem p_mo_le (H : PH) (m ro ta : Nat → Nat) (K : PK) (j : Nat) : p_mo H m ro ta K j ≤ p_L H m ro ta K := by
  have := p_tl_le H m ro ta K j (H.1 0)
  unfold p_mo p_L at *
  omega
/-- the best of the first j; 1000 without one -/
def p_bt (E : Nat) (mo : Nat → Nat) : Nat → Nat
  | 0 => 1000
  | j + 1 => if j % 7 < E ∧ (p_bt E mo j = 1000 ∨ mo j < mo (p_bt E mo j)) then j else p_bt E mo j
theorem p_bt_s (E : Nat) (mo : Nat → Nat) (j : Nat) : p_bt E mo (j + 1) = if j % 7 < E ∧ (p_bt E mo j = 1000 ∨ mo j < mo (p_bt E mo j)) then j else p_bt E mo j := rfl
theorem p_bt_rng (E : Nat) (mo : Nat → Nat) : ∀ j, p_bt E mo j = 1000 ∨ p_bt E mo j < j
  | 0 => Or.inl rfl
  | j + 1 => by
    rw [p_bt_s]
    split
    · exact Or.inr (Nat.lt_succ_self j)
    · rcases p_bt_rng E mo j with h | h
      · exact Or.inl h
      · exact Or.inr (by omega)
theorem p_bt_pos {E : Nat} (hE : 0 < E) (mo : Nat → Nat) : ∀ j, j < 990 → p_bt E mo (j + 1) ≠ 1000
  | 0, _ => by
    rw [p_bt_s, if_pos ⟨hE, Or.inl rfl⟩]; decide
  | j + 1, h => by
    have ih := p_bt_pos hE mo j (by omega)
    rw [p_bt_s]
    split
    · omega
    · exact ih
theorem p_bt_skip (E : Nat) (mo : Nat → Nat) (k : Nat) : ∀ d, E + d ≤ 7 → p_bt E mo (7 * k + (E + d)) = p_bt E mo (7 * k + E)
  | 0, _ => rfl
  | d + 1, h => by
    have ih := p_bt_skip E mo k d (by omega)
    have : 7 * k + (E + (d + 1)) = 7 * k + (E + d) + 1 := by omega
    rw [this, p_bt_s, if_neg (fun z => by have := z.1; omega)]
    exact ih
def p_av (m : Nat → Nat) : Nat := min 31 (999 - m 0)
def p_B (H : PH) (m ro ta : Nat → Nat) (K : PK) : Nat := p_bt (H.1 1) (p_mo H m ro ta K) (7 * p_av m)
def qa_tells (H : PH) (m ro ta : Nat → Nat) (K : PK) (x : Int32) : Int32 := if 0 < H.1 0 ∧ 0 < H.1 1 ∧ 0 < p_av m ∧ (x = 0 ∨ x = 1 ∨ x = 2) ∧ 0 < p_L H m ro ta K then (if x = 0 then nI (p_B H m ro ta K / 7) else if x = 1 then nI (p_B H m ro ta K % 7) else nI (p_mo H m ro ta K (p_B H m ro ta K))) else -1
theorem c_tally (N : Nat) (hN : 5000 ≤ N) {E n : Nat} {homeI hF tF : Nat → Int32} {g q : Nat → Nat} (hE : E ≤ 7) (h5 : homeI 5 = nI E) (hn : n ≤ 31) (hh : ∀ k, k < n → hF k = nI (q k) ∧ q k < 1000) (hg : ∀ j, j < 217 → tF j = nI (g j) ∧ g j ≤ 1000) : ∃ tF', fX11_addToTally N homeI tF hF (nI n) = some tF' ∧ ∀ j, j < 217 → tF' j = nI (g j + if j / 7 < n ∧ j % 7 < E then q (j / 7) / 2 ^ (j % 7) % 2 else 0) := by
  refine xs_loopI (body := fX11_addToTally_l2 N homeI hF) (fun r st => ∃ t k, st = (t, nI n, nI k) ∧ k + r = n ∧ ∀ j, j < 217 → t j = nI (g j + if j < 7 * k ∧ j % 7 < E then q (j / 7) / 2 ^ (j % 7) % 2 else 0)) (fun z => ∃ tF', z = some tF' ∧ ∀ j, j < 217 → tF' j = nI (g j + if j / 7 < n ∧ j % 7 < E then q (j / 7) / 2 ^ (j % 7) % 2 else 0)) ?_ N n _ ⟨tF, 0, rfl, by omega, fun j hj => by rw [if_neg (fun z => by omega), (hg j hj).1]; rfl⟩ (by omega)
  rintro r st kk ⟨t, k, rfl, hk, ht⟩ hgo
  show ∃ tF', (if nI n ≤ nI k then _ else _) = _ ∧ _
  by_cases c : n ≤ k
  · have : k = n := by omega
    subst this
    rw [if_pos (nI_le (Nat.le_refl _) (by omega))]
    refine ⟨t, rfl, fun j hj => ?_⟩
    rw [ht j hj]
    by_cases d : j / 7 < k ∧ j % 7 < E
    · rw [if_pos d, if_pos ⟨by omega, d.2⟩]
    · rw [if_neg d, if_neg (fun z => d ⟨by omega, z.2⟩)]
  · rw [if_neg (nI_ge (by omega) (by omega)), if_neg (show ¬ (31 : Int32) ≤ nI k from nI_ge (b := 31) (by omega) (by omega))]
    refine xs_loopI (body := fX11_addToTally_l15 N homeI hF kk) (fun r2 st => ∃ t e, st = (t, nI n, nI k, nI e) ∧ e + r2 = E ∧ ∀ j, j < 217 → t j = nI (g j + if j < 7 * k + e ∧ j % 7 < E then q (j / 7) / 2 ^ (j % 7) % 2 else 0)) (fun z => ∃ tF', z = some tF' ∧ ∀ j, j < 217 → tF' j = nI (g j + if j / 7 < n ∧ j % 7 < E then q (j / 7) / 2 ^ (j % 7) % 2 else 0)) ?_ N E _ ⟨t, 0, rfl, by omega, ht⟩ (by omega)
    rintro r2 st kk2 ⟨t2, e, rfl, he, ht2⟩ hgo2
    show ∃ tF', (if homeI 5 ≤ nI e then _ else _) = _ ∧ _
    rw [h5]
    by_cases d : E ≤ e
    · have : e = E := by omega
      subst this
      rw [if_pos (nI_le (Nat.le_refl _) (by omega)), nI_1]
      refine hgo _ (r - 1) (by omega) ⟨t2, k + 1, rfl, by omega, fun j hj => ?_⟩
      rw [ht2 j hj]
      by_cases f : j < 7 * k + e ∧ j % 7 < e
      · rw [if_pos f, if_pos ⟨by omega, f.2⟩]
      · rw [if_neg f, if_neg (fun z => f ⟨by omega, z.2⟩)]
    · have e7 : nI k * 7 + nI e = nI (7 * k + e) := by
        show nI k * nI 7 + nI e = _
        rw [pk_mul, nI_add, Nat.mul_comm]
      have hcur := ht2 (7 * k + e) (by omega)
      rw [if_neg (fun z => by omega), Nat.add_zero (g (7 * k + e))] at hcur
      have hb := (hh k (by omega)).2
      rw [if_neg (nI_ge (by omega) (by omega)), e7, xs_ald (show 7 * k + e < 217 by omega) (by omega), xs_bd, xs_ald (show k < 60 by omega) (by omega), xs_bd, hcur, (hh k (by omega)).1, xs_bit (by omega) (by omega), nI_add, xs_ast (show 7 * k + e < 217 by omega) (by omega), xs_bd, nI_1]
      refine hgo2 _ (r2 - 1) (by omega) ⟨_, e + 1, rfl, by omega, fun j hj => ?_⟩
      by_cases f : j = 7 * k + e
      · subst f
        have d1 : (7 * k + e) / 7 = k := by omega
        have d2 : (7 * k + e) % 7 = e := by omega
        rw [pk_us, d1, d2, if_pos ⟨by omega, by omega⟩]
      · rw [pk_un f, ht2 j hj]
        by_cases g1 : j < 7 * k + e ∧ j % 7 < E
        · rw [if_pos g1, if_pos ⟨by omega, g1.2⟩]
        · rw [if_neg g1, if_neg (fun z => g1 ⟨by omega, z.2⟩)]
theorem c_mostTelling (N : Nat) (hN : 5000 ≤ N) {E n L : Nat} {homeI tF : Nat → Int32} {tl : Nat → Nat} (hE : E ≤ 7) (h5 : homeI 5 = nI E) (hn : n ≤ 31) (hL : L ≤ 200) (ht : ∀ j, j < 7 * n → j % 7 < E → tF j = nI (tl j)) (hl : ∀ j, tl j ≤ L) : fX11_mostTelling N tF homeI (nI L) (nI n) = some (nI (if p_bt E (fun j => max (tl j) (L - tl j)) (7 * n) = 1000 then 0 else p_bt E (fun j => max (tl j) (L - tl j)) (7 * n))) := by
  have e1 : nI L + 1 = nI (L + 1) := nI_1 L
  unfold fX11_mostTelling
  rw [e1]
  have h7 : nI n * 7 = nI (7 * n) := by
    show nI n * nI 7 = _
    rw [pk_mul, Nat.mul_comm]
  refine xs_loop (body := fX11_mostTelling_l10 N tF homeI) (fun j => (nI L, nI n, nI (if p_bt E (fun j => max (tl j) (L - tl j)) j = 1000 then 0 else p_bt E (fun j => max (tl j) (L - tl j)) j), nI (if p_bt E (fun j => max (tl j) (L - tl j)) j = 1000 then L + 1 else max (tl (p_bt E (fun j => max (tl j) (L - tl j)) j)) (L - tl (p_bt E (fun j => max (tl j) (L - tl j)) j))), nI j)) (7 * n) _ ?_ ?_ N (by omega)
  · intro j hj kk
    dsimp only [fX11_mostTelling_l10]
    have r7 : xq_rm (nI j) 7 = some (nI (j % 7)) := xs_rm (b := 7) (by omega) (by omega) (by omega)
    rw [h7, if_neg (nI_ge hj (by omega)), if_neg (show ¬ (217 : Int32) ≤ nI j from nI_ge (b := 217) (by omega) (by omega)), xs_ald (show j < 217 by omega) (by omega), xs_bd, xs_bd, r7, xs_bd, h5]
    have hrg := p_bt_rng E (fun j => max (tl j) (L - tl j)) j
    by_cases c : j % 7 < E
    · rw [if_neg (nI_ge c (by omega)), ht j hj c]
      have hlj := hl j
      have em : xq_max (nI (tl j)) (nI L - nI (tl j)) = nI (max (tl j) (L - tl j)) := by rw [pk_sub hlj, xs_max (by omega) (by omega)]
      rw [em]
      have hlb := hl (p_bt E (fun j => max (tl j) (L - tl j)) j)
      by_cases d : p_bt E (fun j => max (tl j) (L - tl j)) j = 1000 ∨ max (tl j) (L - tl j) < max (tl (p_bt E (fun j => max (tl j) (L - tl j)) j)) (L - tl (p_bt E (fun j => max (tl j) (L - tl j)) j))
      · have es : p_bt E (fun j => max (tl j) (L - tl j)) (j + 1) = j := by rw [p_bt_s, if_pos ⟨c, d⟩]
        rw [es, if_neg (show ¬ j = 1000 by omega), if_neg (show ¬ j = 1000 by omega)]
        rw [if_neg (nI_ge (by
          rcases d with d | d
          · rw [if_pos d]; omega
          · split <;> omega) (by split <;> omega))]
        dsimp only [fX11_mostTelling_b79]
        rw [nI_1]
      · have es : p_bt E (fun j => max (tl j) (L - tl j)) (j + 1) = p_bt E (fun j => max (tl j) (L - tl j)) j := by rw [p_bt_s, if_neg (fun z => d z.2)]
        rw [es]
        rw [if_pos (nI_le (by rw [if_neg (fun z => d (Or.inl z))]; omega) (by omega))]
        dsimp only [fX11_mostTelling_b79]
        rw [nI_1]
    · have es : p_bt E (fun j => max (tl j) (L - tl j)) (j + 1) = p_bt E (fun j => max (tl j) (L - tl j)) j := by rw [p_bt_s, if_neg (fun z => c z.1)]
      rw [es, if_pos (nI_le (by omega) (by omega))]
      dsimp only [fX11_mostTelling_b79]
      rw [nI_1]
  · intro kk
    dsimp only [fX11_mostTelling_l10]
    rw [h7, if_pos (nI_le (Nat.le_refl _) (by omega))]
theorem c_tells (N : Nat) (hN : 5000 ≤ N) {H : PH} {m ro ta : Nat → Nat} (hs : hS H m) {homeI home_sharpsF home_placeMilesF home_goesF home_hearsF home_talkForF : Nat → Int32} {home_goesN home_hearsN home_talkForN : Nat} (hc : cH H homeI home_sharpsF home_placeMilesF home_goesF home_hearsF home_talkForF home_goesN home_hearsN home_talkForN) {nowI now_rowsF now_talksF : Nat → Int32} (hn : cNow H m ro ta nowI now_rowsF now_talksF) {K : PK} (hK : pk_ok H K) {marksI marks_nightsAheadF marks_earsF marks_hearingF dv_tallyF : Nat → Int32} (hk : cK K marksI marks_nightsAheadF marks_earsF marks_hearingF) {walkI walk_rowsF walk_talksF dv_heardAheadF course_valuesF course_stackF : Nat → Int32} (x : Int32) : ∃ tt w r t h v s, fX11_tells N nowI homeI dv_tallyF walkI now_rowsF walk_rowsF now_talksF walk_talksF dv_heardAheadF course_valuesF home_goesF course_stackF home_talkForF home_placeMilesF home_sharpsF home_hearsF marksI marks_nightsAheadF marks_earsF marks_hearingF home_goesN home_talkForN home_hearsN x = some (qa_tells H m ro ta K x, tt, w, r, t, h, v, s) := by
  obtain ⟨b0, b1, b2, b3⟩ := hs.b
  have k0 : (0 : Int32).toInt = 0 := rfl
  have k2 : (2 : Int32).toInt = 2 := rfl
  have k1 : (1 : Int32).toInt = 1 := rfl
  unfold fX11_tells fX11_hasHouse qa_tells
  rw [hc.1, hc.2.1, hn.1 0 (by omega)]
  have em : xq_min 31 (999 - nI (m 0)) = nI (p_av m) := by
    show xq_min (nI 31) (nI 999 - nI (m 0)) = _
    rw [pk_sub b3, xs_min (by omega) (by omega)]; rfl
  rw [em]
  have hav : p_av m ≤ 31 := by unfold p_av; omega
  by_cases g0 : 0 < H.1 0
  · rw [if_neg (nI_nle g0 (by omega)), xs_bd, if_neg (by decide)]
    by_cases g1 : H.1 1 = 0
    · rw [g1, if_pos (show nI 0 = (0 : Int32) from rfl), if_neg (fun z => by omega)]
      exact ⟨_, _, _, _, _, _, _, rfl⟩
    · rw [if_neg (nI_ne0 (by omega) (by omega))]
      by_cases g2 : p_av m = 0
      · rw [g2, if_pos (show nI 0 < (1 : Int32) from by decide), if_neg (fun z => by omega)]
        exact ⟨_, _, _, _, _, _, _, rfl⟩
      · rw [if_neg (show ¬ nI (p_av m) < (1 : Int32) from nI_nlt (b := 1) (by omega) (by omega))]
        by_cases c1 : x < 0
        · rw [if_pos c1, if_neg (fun z => by
            rw [fa_lt, k0] at c1
            rcases z.2.2.2.1 with q | q | q <;> rw [fa_eq] at q <;> omega)]
          exact ⟨_, _, _, _, _, _, _, rfl⟩
        · rw [if_neg c1]
          by_cases c2 : x ≤ 2
          · have hx : x = 0 ∨ x = 1 ∨ x = 2 := by
              rw [fa_lt, k0] at c1
              rw [fa_le, k2] at c2
              rw [fa_eq, fa_eq, fa_eq, k0, k1, k2]; omega
            obtain ⟨hH, hm⟩ := hs.y g0
            obtain ⟨F', f1, f2⟩ := c_fill N hN (F := dv_tallyF) (n := 217) (by omega) 0
            rw [if_pos c2, f1, xs_bd]
            refine xs_loopI (body := fX11_tells_l63 N nowI homeI now_rowsF now_talksF home_goesF home_talkForF home_placeMilesF home_sharpsF home_hearsF marksI marks_nightsAheadF marks_earsF marks_hearingF home_goesN home_talkForN home_hearsN) (fun k st => ∃ tt w r t h v s i, st = (tt, w, r, t, h, v, s, x, nI (p_av m), nI (fb_ct (p_lf H m ro ta K) i), nI i) ∧ i + k = H.1 0 ∧ ∀ j, j < 217 → tt j = nI (if j / 7 < p_av m ∧ j % 7 < H.1 1 then p_tl H m ro ta K j i else 0)) (fun q => ∃ tt w r t h v s, q = some ((if 0 < H.1 0 ∧ 0 < H.1 1 ∧ 0 < p_av m ∧ (x = 0 ∨ x = 1 ∨ x = 2) ∧ 0 < p_L H m ro ta K then (if x = 0 then nI (p_B H m ro ta K / 7) else if x = 1 then nI (p_B H m ro ta K % 7) else nI (p_mo H m ro ta K (p_B H m ro ta K))) else -1), tt, w, r, t, h, v, s)) ?_ N (H.1 0) _ ⟨F', _, _, _, _, _, _, 0, rfl, by omega, fun j hj => by rw [f2 j hj]; split <;> rfl⟩ (by omega)
            rintro k st kk ⟨tt, w, r, t, h, v, s, i, rfl, hi, htt⟩ hgo
            have hct := fb_ct_le (p_lf H m ro ta K) i
            show ∃ tt w r t h v s, (if homeI 1 ≤ nI i then _ else _) = _
            rw [hc.1]
            by_cases c : H.1 0 ≤ i
            · have : i = H.1 0 := by omega
              subst this
              rw [if_pos (nI_le (Nat.le_refl _) (by omega))]
              have hLe : p_L H m ro ta K = fb_ct (p_lf H m ro ta K) (H.1 0) := rfl
              by_cases cl : fb_ct (p_lf H m ro ta K) (H.1 0) = 0
              · rw [cl, if_pos (show nI 0 = (0 : Int32) from rfl), if_neg (fun z => by omega)]
                exact ⟨_, _, _, _, _, _, _, rfl⟩
              · rw [if_neg (nI_ne0 (by omega) (by omega)), if_pos ⟨g0, by omega, by omega, hx, by omega⟩]
                have hmt := c_mostTelling N hN (E := H.1 1) (n := p_av m) (L := fb_ct (p_lf H m ro ta K) (H.1 0)) (homeI := homeI) (tF := tt) (tl := fun j => p_tl H m ro ta K j (H.1 0)) b1 hc.2.1 hav (by omega) (fun j hj he => by rw [htt j (by omega), if_pos ⟨by omega, he⟩]) (fun j => p_tl_le H m ro ta K j (H.1 0))
                have hB : p_bt (H.1 1) (fun j => max (p_tl H m ro ta K j (H.1 0)) (fb_ct (p_lf H m ro ta K) (H.1 0) - p_tl H m ro ta K j (H.1 0))) (7 * p_av m) = p_B H m ro ta K := rfl
                have hBne : p_B H m ro ta K ≠ 1000 := by
                  have := p_bt_pos (E := H.1 1) (by omega) (p_mo H m ro ta K) (7 * p_av m - 1) (by omega)
                  rw [show 7 * p_av m - 1 + 1 = 7 * p_av m by omega] at this
                  exact this
                have hBlt : p_B H m ro ta K < 7 * p_av m := by
                  rcases p_bt_rng (H.1 1) (p_mo H m ro ta K) (7 * p_av m) with q | q
                  · exact absurd q hBne
                  · exact q
                rw [hmt, xs_bd, hB, if_neg hBne]
                have hval : p_B H m ro ta K / 7 < p_av m ∧ p_B H m ro ta K % 7 < H.1 1 → tt (p_B H m ro ta K) = nI (p_tl H m ro ta K (p_B H m ro ta K) (H.1 0)) := fun z => by rw [htt _ (by omega), if_pos z]
                have hmod : p_B H m ro ta K % 7 < H.1 1 := by
                  have gen : ∀ q, p_bt (H.1 1) (p_mo H m ro ta K) q ≠ 1000 → p_bt (H.1 1) (p_mo H m ro ta K) q % 7 < H.1 1 := by
                    intro q
                    induction q with
                    | zero => intro z; exact absurd rfl z
                    | succ q ih =>
                      rw [p_bt_s]
                      intro z
                      by_cases w : q % 7 < H.1 1 ∧ (p_bt (H.1 1) (p_mo H m ro ta K) q = 1000 ∨ p_mo H m ro ta K q < p_mo H m ro ta K (p_bt (H.1 1) (p_mo H m ro ta K) q))
                      · rw [if_pos w]; exact w.1
                      · rw [if_neg w] at z ⊢; exact ih z
                  exact gen _ hBne
                have htb := hval ⟨by omega, hmod⟩
                have htl := p_tl_le H m ro ta K (p_B H m ro ta K) (H.1 0)
                rcases hx with rfl | rfl | rfl
                · rw [if_neg (show ¬ (0 : Int32) = 2 from by decide), if_pos (show (0 : Int32) = 0 from rfl), if_pos (show (0 : Int32) = 0 from rfl)]
                  have d7 : xq_dv (nI (p_B H m ro ta K)) 7 = some (nI (p_B H m ro ta K / 7)) := xs_dv (b := 7) (by omega) (by omega) (by omega)
                  rw [d7, xs_bd]
                  exact ⟨_, _, _, _, _, _, _, rfl⟩
                · rw [if_neg (show ¬ (1 : Int32) = 2 from by decide), if_neg (show ¬ (1 : Int32) = 0 from by decide), if_neg (show ¬ (1 : Int32) = 0 from by decide), if_pos (show (1 : Int32) = 1 from rfl)]
                  have r7 : xq_rm (nI (p_B H m ro ta K)) 7 = some (nI (p_B H m ro ta K % 7)) := xs_rm (b := 7) (by omega) (by omega) (by omega)
                  rw [r7, xs_bd]
                  exact ⟨_, _, _, _, _, _, _, rfl⟩
                · rw [if_pos (show (2 : Int32) = 2 from rfl), if_neg (show ¬ (2 : Int32) = 0 from by decide), if_neg (show ¬ (2 : Int32) = 1 from by decide), xs_ald (show p_B H m ro ta K < 217 by omega) (by omega), xs_bd, xs_bd, htb, pk_sub htl, xs_max (by omega) (by omega)]
                  exact ⟨_, _, _, _, _, _, _, rfl⟩
            · rw [if_neg (nI_ge (by omega) (by omega))]
              obtain ⟨w2, r2, t2, h2, v2, s2, e2, e3⟩ := c_canBe N hN hH hm hc hn hK hk (walkI := w) (walk_rowsF := r) (walk_talksF := t) (dv_heardAheadF := h) (course_valuesF := v) (course_stackF := s) (mile := i) (n := p_av m) (by omega) (by omega)
              have hso : p_so H m ro ta K (p_av m) i = p_lf H m ro ta K i := p_so_all i (B := 31) (fun q hq => by have := (hK.2 q hq).1; omega) rfl
              rw [e2, xs_bd, hso]
              dsimp only
              have hs1 := fb_ct_succ (p_lf H m ro ta K) i
              have hs2 : ∀ j, p_tl H m ro ta K j (i + 1) = p_tl H m ro ta K j i + p_tb H m ro ta K j i := fun j => fb_sm_succ _ i
              cases hq : p_lf H m ro ta K i with
              | false =>
                rw [if_pos (by rfl)]
                dsimp only [fX11_tells_b93]
                rw [nI_1]
                refine hgo _ (k - 1) (by omega) ⟨tt, w2, r2, t2, h2, v2, s2, i + 1, ?_, by omega, fun j hj => ?_⟩
                · rw [hs1, hq]; rfl
                · rw [htt j hj, hs2]
                  unfold p_tb
                  rw [hq, if_neg Bool.false_ne_true]; rfl
              | true =>
                rw [if_neg (by decide), nI_1]
                obtain ⟨tt2, f3, f4⟩ := c_tally N hN (E := H.1 1) (n := p_av m) (homeI := homeI) (hF := h2) (tF := tt) (g := fun j => if j / 7 < p_av m ∧ j % 7 < H.1 1 then p_tl H m ro ta K j i else 0) (q := p_qh H m ro ta i) b1 hc.2.1 hav (fun k hk => ⟨e3 k hk, by have := p_qh_lt b1 m ro ta i k; omega⟩) (fun j hj => ⟨htt j hj, by have := p_tl_le H m ro ta K j i; split <;> omega⟩)
                rw [f3, xs_bd]
                dsimp only [fX11_tells_b93]
                rw [nI_1]
                refine hgo _ (k - 1) (by omega) ⟨tt2, w2, r2, t2, h2, v2, s2, i + 1, ?_, by omega, fun j hj => ?_⟩
                · rw [hs1, hq]; rfl
                · rw [f4 j hj, hs2]
                  by_cases z : j / 7 < p_av m ∧ j % 7 < H.1 1
                  · rw [if_pos z, if_pos z, if_pos z]
                    unfold p_tb
                    rw [if_pos hq]
                  · rw [if_neg z, if_neg z, if_neg z]
          · rw [if_neg c2, if_neg (fun z => by
              rw [fa_le, k2] at c2
              rcases z.2.2.2.1 with q | q | q <;> rw [fa_eq] at q <;> omega)]
            exact ⟨_, _, _, _, _, _, _, rfl⟩
  · have : H.1 0 = 0 := by omega
    rw [this, if_pos (by decide), xs_bd, if_pos (by rfl), if_neg (fun z => by omega)]
    exact ⟨_, _, _, _, _, _, _, rfl⟩
