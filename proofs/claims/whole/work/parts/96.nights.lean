/-! a NIGHT that is lived; nights -/
def p_S (H : PH) (m ro ta : Nat → Nat) (hu : Nat) : Nat := p_set H (p_move H m ta hu) ro hu
def p_live (H : PH) (m ro ta : Nat → Nat) (hu : Nat) : Nat → Nat := if p_S H m ro ta hu = 0 then p_night H ta hu m else va_up (p_night H ta hu m) 5 (m 5 + 1)
def p_lKR (H : PH) (m ro ta : Nat → Nat) (hu : Nat) (KR : Nat → Nat → Nat) : Nat → Nat → Nat := if p_S H m ro ta hu = 0 then KR else fun i f => if i = m 5 then (if f = 0 then m 0 else if f = 1 then p_move H m ta hu 1 else p_S H m ro ta hu) else KR i f
theorem p_live_5 {H : PH} (hH : ph_ok H) {m ro ta : Nat → Nat} {hu : Nat} (hm : p_mok H m) : p_live H m ro ta hu 5 = m 5 + if p_S H m ro ta hu = 0 then 0 else 1 := by
  unfold p_live
  obtain ⟨-, -, c⟩ := p_night_ok (ta := ta) (hu := hu) hH hm
  by_cases d : p_S H m ro ta hu = 0
  · rw [if_pos d, if_pos d]; exact c
  · rw [if_neg d, if_neg d]; rfl
theorem p_live_ok {H : PH} (hH : ph_ok H) {m ro ta : Nat → Nat} {hu : Nat} (hm : p_mok H m) (h9 : m 0 < 999) (h5 : m 5 ≤ m 0) : p_mok H (p_live H m ro ta hu) ∧ p_live H m ro ta hu 4 = m 4 ∧ p_live H m ro ta hu 0 = m 0 + 1 ∧ p_live H m ro ta hu 5 ≤ m 0 + 1 ∧ m 5 ≤ p_live H m ro ta hu 5 := by
  obtain ⟨a, b, c⟩ := p_night_ok (ta := ta) (hu := hu) hH hm
  have e5 := p_live_5 (ro := ro) (ta := ta) (hu := hu) hH hm
  have h0 : p_night H ta hu m 0 = min 999 (m 0 + 1) := rfl
  refine ⟨?_, ?_, ?_, ?_, ?_⟩
  · unfold p_live
    split
    · exact a
    · exact ⟨a.1, a.2.1, a.2.2.1, a.2.2.2.1, a.2.2.2.2⟩
  · unfold p_live
    split
    · exact b
    · exact b
  · unfold p_live
    split
    · rw [h0]; omega
    · show p_night H ta hu m 0 = _; rw [h0]; omega
  · rw [e5]; split <;> omega
  · rw [e5]; split <;> omega
theorem p_lKR_old {H : PH} {m ro ta : Nat → Nat} {hu : Nat} {KR : Nat → Nat → Nat} (i f : Nat) (h : i < m 5) : p_lKR H m ro ta hu KR i f = KR i f := by
  unfold p_lKR
  split
  · rfl
  · show (if i = m 5 then _ else KR i f) = KR i f
    rw [if_neg (show ¬ i = m 5 by omega)]
theorem p_lKR_ok {H : PH} (hH : ph_ok H) {m ro ta : Nat → Nat} {hu : Nat} {KR : Nat → Nat → Nat} (hm : p_mok H m) (hK : pKR_ok (m 5) KR) : pKR_ok (p_live H m ro ta hu 5) (p_lKR H m ro ta hu KR) := by
  intro i hi
  rw [p_live_5 hH hm] at hi
  have hk := (p_move_ok (ta := ta) (hu := hu) hH hm).1
  have h200 := hH.2.1
  have hS : p_S H m ro ta hu < 128 := p_set_lt hH.2.2.1 _ _ _
  unfold p_lKR
  by_cases c : p_S H m ro ta hu = 0
  · rw [if_pos c] at hi ⊢; exact hK i (by omega)
  · rw [if_neg c] at hi ⊢
    by_cases d : i = m 5
    · rw [if_pos d, if_pos d, if_pos d]
      exact ⟨by rw [if_pos rfl]; exact hm.1, by rw [if_neg (by decide), if_pos rfl]; have := hk.2.1; omega, by rw [if_neg (by decide), if_neg (by decide)]; exact hS⟩
    · rw [if_neg d, if_neg d, if_neg d]; exact hK i (by omega)
theorem c_keep (N : Nat) {kF : Nat → Int32} {c ng mi st : Nat} (hc : c < 999) (h1 : ng ≤ 999) (h2 : mi < 256) (h3 : st < 128) : fX7_keep N kF (nI c) (nI ng) (nI mi) (nI st) = some (upd kF c (nI (32768 * ng + 128 * mi + st))) := by
  unfold fX7_keep
  have e15 : nI ng <<< ((15 : Int32) &&& 31) = nI (2 ^ 15 * ng) := by rw [pk_shlN _ 15 (by decide) (by omega), Nat.mul_comm]
  have e7 : nI mi <<< ((7 : Int32) &&& 31) = nI (2 ^ 7 * mi) := by rw [pk_shlN _ 7 (by decide) (by omega), Nat.mul_comm]
  have e1 : nI (2 ^ 15 * ng) ||| nI (2 ^ 7 * mi) = nI (2 ^ 7 * (256 * ng + mi)) := by
    rw [fa_or_sum (k := 15) ng (by omega)]; exact nI_c (by omega)
  rw [if_neg (nI_pos (by omega)), if_neg (show ¬ (999 : Int32) ≤ nI c from nI_ge (b := 999) hc (by omega)), e15, e7, e1, fa_or_sum (k := 7) _ (by omega), xs_ast hc (by omega), xs_bd]
  have : 2 ^ 7 * (256 * ng + mi) + st = 32768 * ng + 128 * mi + st := by omega
  rw [this]
theorem c_live (N : Nat) (hN : 5000 ≤ N) {H : PH} {m ro ta : Nat → Nat} (hH : ph_ok H) (hm : p_mok H m) (h9 : m 0 < 999) (h5 : m 5 ≤ m 0) {homeI home_sharpsF home_placeMilesF home_goesF home_hearsF home_talkForF : Nat → Int32} {home_goesN home_hearsN home_talkForN : Nat} (hc : cH H homeI home_sharpsF home_placeMilesF home_goesF home_hearsF home_talkForF home_goesN home_hearsN home_talkForN) {nowI now_rowsF now_talksF : Nat → Int32} (hn : cNow H m ro ta nowI now_rowsF now_talksF) {KR : Nat → Nat → Nat} {dv_heardAheadF course_valuesF course_stackF past_keptRowsF : Nat → Int32} (hK : cKR (m 5) KR past_keptRowsF) {hu : Nat} (hh : hu ≤ 9) : ∃ nowI' h v s kF', fX11_live N nowI dv_heardAheadF course_valuesF homeI home_goesF course_stackF now_talksF home_talkForF home_placeMilesF now_rowsF home_sharpsF home_hearsF past_keptRowsF home_goesN home_talkForN home_hearsN (nI hu) = some (p_b (decide (p_S H m ro ta hu ≠ 0)), nowI', h, v, s, kF') ∧ cNow H (p_live H m ro ta hu) ro ta nowI' now_rowsF now_talksF ∧ cKR (p_live H m ro ta hu 5) (p_lKR H m ro ta hu KR) kF' := by
  have h200 := hH.2.1
  obtain ⟨k1, k2, k3, k4⟩ := p_move_ok (ta := ta) (hu := hu) hH hm
  obtain ⟨mo, v, s, e6, e7⟩ := c_pass N hN hH hc (moI := nowI) (vals := course_valuesF) (stk := course_stackF) (rowsF := now_rowsF) (talksF := now_talksF) (hF := dv_heardAheadF) (hu := hu) (n := 1) hn.1 hm hn.2.1 hn.2.2 (by omega) (by omega)
  have e7 : cM mo (p_night H ta hu m) := e7
  obtain ⟨q1, q2, q3⟩ := p_night_ok (ta := ta) (hu := hu) hH hm
  have hS : p_S H m ro ta hu < 128 := p_set_lt hH.2.2.1 _ _ _
  have h5' := p_live_5 (ro := ro) (ta := ta) (hu := hu) hH hm
  unfold fX11_live
  show ∃ nowI' h v s kF', xq_bd (fX0_passNights N dv_heardAheadF nowI course_valuesF homeI home_goesF course_stackF now_talksF home_talkForF home_placeMilesF now_rowsF home_sharpsF home_hearsF 60 home_goesN home_talkForN home_hearsN (nI hu) (nI 1)) _ = _ ∧ _
  rw [e6, xs_bd]
  dsimp only
  show ∃ nowI' h v s kF', xq_bd (xq_ald 60 _ (nI 0)) (fun v_3 => if v_3 = 0 then _ else xq_bd (xq_ald 60 _ (nI 0)) _) = _ ∧ _
  have e8 : fa_fill (fun i => nI (p_heard H ta ro hu m i)) dv_heardAheadF 1 0 = nI (p_S H m ro ta hu) := fa_fill_in (by omega)
  rw [xs_ald (by omega) (by omega), xs_bd, xs_bd, e8]
  by_cases c : p_S H m ro ta hu = 0
  · rw [c, if_pos (show nI 0 = (0 : Int32) from rfl)]
    refine ⟨mo, _, v, s, past_keptRowsF, rfl, ⟨?_, hn.2⟩, ?_⟩
    · unfold p_live; rw [if_pos c]; exact e7
    · rw [h5', if_pos c]
      unfold p_lKR; rw [if_pos c]; exact hK
  · rw [if_neg (nI_ne0 (by omega) (by omega)), e7 5 (by omega), q3, e7 1 (by omega), hn.1 0 (by omega)]
    have hmi : p_night H ta hu m 1 = p_move H m ta hu 1 := rfl
    rw [hmi, c_keep N (show m 5 < 999 by omega) (by omega) (by have := k1.2.1; omega) hS, xs_bd, nI_1, decide_eq_true c]
    refine ⟨_, _, v, s, _, rfl, ⟨?_, hn.2⟩, ?_⟩
    · unfold p_live; rw [if_neg c]; exact cM_up e7 5 _
    · rw [h5', if_neg c]
      intro i hi
      unfold p_lKR
      rw [if_neg c]
      by_cases d : i = m 5
      · subst d
        rw [pk_us, if_pos rfl, if_pos rfl, if_pos rfl, if_pos rfl, if_neg (by decide), if_pos rfl, if_neg (by decide), if_neg (by decide)]
      · rw [pk_un d, if_neg d, if_neg d, if_neg d]; exact hK i (by omega)
/-- the reference's NIGHT of now, as a tick has left it -/
theorem m_lived {H : PH} {m ro ta : Nat → Nat} (hH : ph_ok H) (hm : p_mok H m) (h9 : m 0 < 999) {hu : Nat} {U : PU} {KR : Nat → Nat → Nat} {mmI : Nat → Int32} {X X' : Nat → Nat → Int32} (hK : mKp 0 (m 5) KR X) (hU : mU H U KR mmI X) (hUo : pU_ok H m U) (ho : mOth 0 X X') (hl : m 0 < 999 → mLay H 0 (p_night H ta hu m) ro ta (m_many (min 40 (m 5)) (p_set H (p_move H m ta hu) ro hu)) X') (hw : m_wrote 0 (min 40 (m 5)) (m 0) (p_move H m ta hu 1) (p_set H (p_move H m ta hu) ro hu) (X 8) (X' 8)) : mLay H 0 (p_live H m ro ta hu) ro ta (min 40 (p_live H m ro ta hu 5)) X' ∧ mKp 0 (p_live H m ro ta hu 5) (p_lKR H m ro ta hu KR) X' ∧ mU H U (p_lKR H m ro ta hu KR) mmI X' := by
  have hE := hH.2.2.1
  have hP := hH.2.2.2.1
  have hl := hl h9
  have h5' := p_live_5 (ro := ro) (ta := ta) (hu := hu) hH hm
  have hSd : p_S H m ro ta hu = p_set H (p_move H m ta hu) ro hu := rfl
  have hmU : mU H U (p_lKR H m ro ta hu KR) mmI X' := by
    obtain ⟨uf, u1, u2, u3, u4⟩ := hU
    exact ⟨uf, u1, u2, u3, fun k hk => ⟨(u4 k hk).1.oth ho (by omega) hE hP, ((u4 k hk).2.oth ho (by omega)).kr (fun i f hi => p_lKR_old i f (by have := (hUo.2.1 k hk).2.2; omega))⟩⟩
  refine ⟨?_, ?_, hmU⟩
  · rw [h5']
    unfold m_many at hl
    unfold p_live
    by_cases c : p_S H m ro ta hu = 0
    · rw [if_pos c, if_pos c]
      rw [← hSd, if_pos c] at hl
      exact hl
    · rw [if_neg c, if_neg c]
      rw [← hSd, if_neg c] at hl
      have : min 40 (m 5 + 1) = min 40 (min 40 (m 5) + 1) := by omega
      rw [this]
      exact hl
  · rw [h5']
    by_cases c : p_S H m ro ta hu = 0
    · rw [if_pos c]
      have e := hw.1 c
      unfold p_lKR
      rw [if_pos c]
      intro j f hj hf
      rw [e]; exact hK j f hj hf
    · rw [if_neg c]
      obtain ⟨w1, w2, w3, w4, w5⟩ := hw.2 (by rw [← hSd]; omega)
      unfold p_lKR
      rw [if_neg c]
      intro j f hj hf
      have em : min 40 (min 40 (m 5) + 1) = min 40 (m 5 + 1) := by omega
      rw [em] at w2 w3 w4 w5
      by_cases d : j + 1 = min 40 (m 5 + 1)
      · have ej : min 40 (m 5 + 1) - 1 = j := by omega
        rw [ej] at w3 w4 w5
        show _ = nI (if m 5 + 1 - min 40 (m 5 + 1) + j = m 5 then _ else _)
        rw [if_pos (show m 5 + 1 - min 40 (m 5 + 1) + j = m 5 by omega)]
        have hf3 : f = 0 ∨ f = 1 ∨ f = 2 := by omega
        rcases hf3 with rfl | rfl | rfl
        · exact w3
        · exact w4
        · exact w5
      · rw [w2 j f (by omega) hf]
        show _ = nI (if m 5 + 1 - min 40 (m 5 + 1) + j = m 5 then _ else KR (m 5 + 1 - min 40 (m 5 + 1) + j) f)
        rw [if_neg (show ¬ (m 5 + 1 - min 40 (m 5 + 1) + j = m 5) by omega)]
        have := hK (if min 40 (m 5) = 40 then j + 1 else j) f (by split <;> omega) hf
        rw [this]
        congr 1
        have ei : m 5 - min 40 (m 5) + (if min 40 (m 5) = 40 then j + 1 else j) = m 5 + 1 - min 40 (m 5 + 1) + j := by split <;> omega
        rw [ei]
def p_lvm (H : PH) (m ro ta : Nat → Nat) : Nat → Nat → Nat
  | 0 => m
  | i + 1 => p_live H (p_lvm H m ro ta i) ro ta (m 4)
def p_lvk (H : PH) (m ro ta : Nat → Nat) (KR : Nat → Nat → Nat) : Nat → Nat → Nat → Nat
  | 0 => KR
  | i + 1 => p_lKR H (p_lvm H m ro ta i) ro ta (m 4) (p_lvk H m ro ta KR i)
def p_lvc (H : PH) (m ro ta : Nat → Nat) : Nat → Nat
  | 0 => 0
  | i + 1 => p_lvc H m ro ta i + if p_S H (p_lvm H m ro ta i) ro ta (m 4) = 0 then 0 else 1
theorem p_lvc_le (H : PH) (m ro ta : Nat → Nat) : ∀ n, p_lvc H m ro ta n ≤ n
  | 0 => Nat.le_refl _
  | n + 1 => by
    have := p_lvc_le H m ro ta n
    show p_lvc H m ro ta n + (if _ then 0 else 1) ≤ n + 1
    split <;> omega
theorem p_lvm_ok {H : PH} (hH : ph_ok H) {m ro ta : Nat → Nat} (hm : p_mok H m) (h5 : m 5 ≤ m 0) : ∀ n, m 0 + n ≤ 999 → p_mok H (p_lvm H m ro ta n) ∧ p_lvm H m ro ta n 4 = m 4 ∧ p_lvm H m ro ta n 0 = m 0 + n ∧ p_lvm H m ro ta n 5 ≤ p_lvm H m ro ta n 0 ∧ m 5 ≤ p_lvm H m ro ta n 5
  | 0, _ => ⟨hm, rfl, rfl, h5, Nat.le_refl _⟩
  | n + 1, h => by
    obtain ⟨a, b, c, d, e⟩ := p_lvm_ok hH hm h5 n (by omega)
    obtain ⟨a2, b2, c2, d2, e2⟩ := p_live_ok (ro := ro) (ta := ta) (hu := m 4) hH a (by omega) d
    exact ⟨a2, b2.trans b, by show p_live H (p_lvm H m ro ta n) ro ta (m 4) 0 = _; rw [c2, c]; omega, by show p_live H (p_lvm H m ro ta n) ro ta (m 4) 5 ≤ p_live H (p_lvm H m ro ta n) ro ta (m 4) 0; rw [c2]; exact d2, Nat.le_trans e e2⟩
theorem c_nights_no (N : Nat) {H : PH} {m ro ta : Nat → Nat} (hs : hS H m) {homeI home_sharpsF home_placeMilesF home_goesF home_hearsF home_talkForF : Nat → Int32} {home_goesN home_hearsN home_talkForN : Nat} (hc : cH H homeI home_sharpsF home_placeMilesF home_goesF home_hearsF home_talkForF home_goesN home_hearsN home_talkForN) {nowI now_rowsF now_talksF : Nat → Int32} (hn : cNow H m ro ta nowI now_rowsF now_talksF) {pastI dv_refusedF dv_heardAheadF course_valuesF course_stackF past_keptRowsF : Nat → Int32} {pastmP pastmU pastmV : Nat → Nat → Int32} (x : Int32) (h : p_ahead (H.1 0) (m 0) x 1 60 = false) : fX11_nights N homeI nowI pastI pastmP pastmU pastmV now_rowsF now_talksF dv_refusedF dv_heardAheadF course_valuesF home_goesF course_stackF home_talkForF home_placeMilesF home_sharpsF home_hearsF past_keptRowsF home_goesN home_talkForN home_hearsN x = some (-1, nowI, pastI, pastmP, pastmU, pastmV, upd dv_refusedF 2 (dv_refusedF 2 + 1), dv_heardAheadF, course_valuesF, course_stackF, past_keptRowsF) := by
  obtain ⟨b0, b1, b2, b3⟩ := hs.b
  have e1 := c_comes N (lo := 1) (hi := 60) hc.1 (hn.1 0 (by omega)) b0 b3 (by omega) (by omega) x
  unfold fX11_nights
  show xq_bd (fX11_comes N homeI nowI x (nI 1) (nI 60)) _ = _
  rw [e1, xs_bd, h, if_pos (by rfl)]
  show xq_bd (fX11_refuseNumber N dv_refusedF (nI 2)) _ = _
  rw [c_refuseN N (by omega), xs_bd]
theorem c_nights_yes (N : Nat) (hN : 5000 ≤ N) {H : PH} {m ro ta : Nat → Nat} (hs : hS H m) (h5 : m 5 ≤ m 0) {U : PU} (hb : U.1 ≤ 20) {KR : Nat → Nat → Nat} {homeI home_sharpsF home_placeMilesF home_goesF home_hearsF home_talkForF : Nat → Int32} {home_goesN home_hearsN home_talkForN : Nat} (hc : cH H homeI home_sharpsF home_placeMilesF home_goesF home_hearsF home_talkForF home_goesN home_hearsN home_talkForN) {nowI now_rowsF now_talksF : Nat → Int32} (hn : cNow H m ro ta nowI now_rowsF now_talksF) {pastI dv_refusedF dv_heardAheadF course_valuesF course_stackF past_keptRowsF : Nat → Int32} {pastmP pastmU pastmV : Nat → Nat → Int32} (hU : cU H U pastI pastmP pastmU pastmV) (hK : cKR (m 5) KR past_keptRowsF) (x : Int32) (h : p_ahead (H.1 0) (m 0) x 1 60 = true) : ∃ nowI' pastI' P' Q' V' h v s kF', fX11_nights N homeI nowI pastI pastmP pastmU pastmV now_rowsF now_talksF dv_refusedF dv_heardAheadF course_valuesF home_goesF course_stackF home_talkForF home_placeMilesF home_sharpsF home_hearsF past_keptRowsF home_goesN home_talkForN home_hearsN x = some (nI (p_lvc H m ro ta x.toNatClampNeg), nowI', pastI', P', Q', V', dv_refusedF, h, v, s, kF') ∧ cNow H (p_lvm H m ro ta x.toNatClampNeg) ro ta nowI' now_rowsF now_talksF ∧ cU H (pU_push m ro ta U) pastI' P' Q' V' ∧ cKR (p_lvm H m ro ta x.toNatClampNeg 5) (p_lvk H m ro ta KR x.toNatClampNeg) kF' := by
  obtain ⟨b0, b1, b2, b3⟩ := hs.b
  have e1 := c_comes N (lo := 1) (hi := 60) hc.1 (hn.1 0 (by omega)) b0 b3 (by omega) (by omega) x
  obtain ⟨g0, n, rfl, -, g1, g2⟩ := p_ahead_yes h
  obtain ⟨hH, hm⟩ := hs.y g0
  obtain ⟨pastI', P', Q', V', f1, f2⟩ := c_remember N b1 b2 hn hU hb
  unfold fX11_nights
  show ∃ nowI' pastI' P' Q' V' h v s kF', xq_bd (fX11_comes N homeI nowI (nI n) (nI 1) (nI 60)) _ = _ ∧ _
  rw [e1, xs_bd, h, if_neg (by decide), f1, xs_bd, nI_clamp (by omega)]
  dsimp only
  refine xs_loopI (body := fX11_nights_l32 N homeI now_rowsF now_talksF home_goesF home_talkForF home_placeMilesF home_sharpsF home_hearsF home_goesN home_talkForN home_hearsN) (fun r st => ∃ w h v s kF i, st = (w, pastI', P', Q', V', dv_refusedF, h, v, s, kF, nI n, nI (p_lvc H m ro ta i), nI i) ∧ i + r = n ∧ cNow H (p_lvm H m ro ta i) ro ta w now_rowsF now_talksF ∧ cKR (p_lvm H m ro ta i 5) (p_lvk H m ro ta KR i) kF) (fun z => ∃ nowI' pastI' P' Q' V' h v s kF', z = some (nI (p_lvc H m ro ta n), nowI', pastI', P', Q', V', dv_refusedF, h, v, s, kF') ∧ cNow H (p_lvm H m ro ta n) ro ta nowI' now_rowsF now_talksF ∧ cU H (pU_push m ro ta U) pastI' P' Q' V' ∧ cKR (p_lvm H m ro ta n 5) (p_lvk H m ro ta KR n) kF') ?_ N n _ ⟨nowI, dv_heardAheadF, course_valuesF, course_stackF, past_keptRowsF, 0, rfl, by omega, hn, hK⟩ (by omega)
  rintro r st kk ⟨w, hh, v, s, kF, i, rfl, hi, hw, hk⟩ hgo
  show ∃ nowI' pastI' P' Q' V' h v s kF', (if nI n ≤ nI i then _ else _) = _ ∧ _
  by_cases c : n ≤ i
  · have : i = n := by omega
    subst this
    rw [if_pos (nI_le (Nat.le_refl _) (by omega))]
    exact ⟨w, _, _, _, _, hh, v, s, kF, rfl, hw, f2, hk⟩
  · obtain ⟨q1, q2, q3, q4, q5⟩ := p_lvm_ok hH (ro := ro) (ta := ta) hm h5 i (by omega)
    have hm4 := hm.2.2.2.2
    rw [if_neg (nI_ge (by omega) (by omega)), hw.1 4 (by omega), q2]
    obtain ⟨w2, h2, v2, s2, kF2, e2, e3, e4⟩ := c_live N hN hH q1 (by omega) q4 hc hw (dv_heardAheadF := hh) (course_valuesF := v) (course_stackF := s) hk (hu := m 4) hm4
    rw [e2, xs_bd]
    dsimp only
    have hcl := p_lvc_le H m ro ta i
    have es : p_lvc H m ro ta (i + 1) = p_lvc H m ro ta i + if p_S H (p_lvm H m ro ta i) ro ta (m 4) = 0 then 0 else 1 := rfl
    by_cases d : p_S H (p_lvm H m ro ta i) ro ta (m 4) = 0
    · rw [decide_eq_false (fun z => z d), if_pos (by rfl)]
      dsimp only [fX11_nights_b54]
      rw [nI_1]
      refine hgo _ (r - 1) (by omega) ⟨w2, h2, v2, s2, kF2, i + 1, ?_, by omega, e3, e4⟩
      rw [es, if_pos d]; rfl
    · rw [decide_eq_true d, if_neg (by decide)]
      dsimp only [fX11_nights_b54]
      rw [nI_1, nI_1]
      refine hgo _ (r - 1) (by omega) ⟨w2, h2, v2, s2, kF2, i + 1, ?_, by omega, e3, e4⟩
      rw [es, if_neg d]
theorem m_nights_no (N : Nat) {H : PH} {m ro ta : Nat → Nat} (hs : hS H m) {b k : Nat} {mmI hf ask : Nat → Int32} {stk : Nat → Int64} {X Y : Nat → Nat → Int32} (hY : mHY H b mmI Y) (hfl : mFl mmI (H.1 0)) (hL : mLay H 0 m ro ta k X) {mm_refusedF : Nat → Int32} (x : Int32) (h : p_ahead (H.1 0) (m 0) x 1 60 = false) : fX12_nights N mmI (X 0) (X 1) (X 2) (X 3) (X 4) (X 5) (X 6) (X 7) (X 8) mm_refusedF (Y 0) ask (Y 1) stk (Y 2) (Y 3) (Y 4) (Y 6) (Y 7) (Y 5) hf (Y 8) x = some (-1, mmI, X 0, X 1, X 2, X 3, X 4, X 5, X 6, X 7, X 8, upd mm_refusedF 2 (mm_refusedF 2 + 1), ask, stk, hf) := by
  obtain ⟨b0, b1, b2, b3⟩ := hs.b
  have e1 := m_ahead N (lo := 1) (hi := 60) (ngF := X 0) hfl hL.1 b3 (by omega) (by omega) x
  unfold fX12_nights
  show xq_bd (fX12_isAhead N mmI (X 0) x (nI 1) (nI 60)) _ = _
  rw [e1, xs_bd, h, if_pos (by rfl)]
  show xq_bd (fX12_refuses N mm_refusedF (nI 2)) _ = _
  rw [m_refuses N (by omega), xs_bd]
theorem mHY.of {H : PH} {b : Nat} {mmI mmI' : Nat → Int32} {Y : Nat → Nat → Int32} (h : mHY H b mmI Y) (e : mmI' 13 = mmI 13) : mHY H b mmI' Y := ⟨h.1, e.trans h.2.1, h.2.2⟩
theorem m_nights_yes (N : Nat) (hN : 5000 ≤ N) {H : PH} {m ro ta : Nat → Nat} (hs : hS H m) (h5 : m 5 ≤ m 0) {U : PU} (hUo : pU_ok H m U) {KR : Nat → Nat → Nat} {b : Nat} {mmI hf ask mm_refusedF : Nat → Int32} {stk : Nat → Int64} {X Y : Nat → Nat → Int32} (hY : mHY H b mmI Y) (hfl : mFl mmI (H.1 0)) (hL : mLay H 0 m ro ta (min 40 (m 5)) X) (hK : mKp 0 (m 5) KR X) (hU : mU H U KR mmI X) (x : Int32) (h : p_ahead (H.1 0) (m 0) x 1 60 = true) : ∃ mmI' X' a s, fX12_nights N mmI (X 0) (X 1) (X 2) (X 3) (X 4) (X 5) (X 6) (X 7) (X 8) mm_refusedF (Y 0) ask (Y 1) stk (Y 2) (Y 3) (Y 4) (Y 6) (Y 7) (Y 5) hf (Y 8) x = some (nI (p_lvc H m ro ta x.toNatClampNeg), mmI', X' 0, X' 1, X' 2, X' 3, X' 4, X' 5, X' 6, X' 7, X' 8, mm_refusedF, a, s, hf) ∧ (∀ i, i ≠ 54 → i ≠ 55 → mmI' i = mmI i) ∧ mLay H 0 (p_lvm H m ro ta x.toNatClampNeg) ro ta (min 40 (p_lvm H m ro ta x.toNatClampNeg 5)) X' ∧ mKp 0 (p_lvm H m ro ta x.toNatClampNeg 5) (p_lvk H m ro ta KR x.toNatClampNeg) X' ∧ mU H (pU_push m ro ta U) (p_lvk H m ro ta KR x.toNatClampNeg) mmI' X' := by
  obtain ⟨b0, b1, b2, b3⟩ := hs.b
  have e1 := m_ahead N (lo := 1) (hi := 60) (ngF := X 0) hfl hL.1 b3 (by omega) (by omega) x
  obtain ⟨g0, n, rfl, -, g1, g2⟩ := p_ahead_yes h
  obtain ⟨hH, hm⟩ := hs.y g0
  obtain ⟨mmI', X1, f1, f2, f3, f4, f5⟩ := m_keeps N hN b1 b2 hL hK hU hUo.1
  have hY' : mHY H b mmI' Y := hY.of (f2 13 (by decide) (by decide))
  have hUo' := pU_push_ok (ro := ro) (ta := ta) hUo hm h5
  unfold fX12_nights
  show ∃ mmI' X' a s, xq_bd (fX12_isAhead N mmI (X 0) (nI n) (nI 1) (nI 60)) _ = _ ∧ _
  rw [e1, xs_bd, h, if_neg (by decide), f1, xs_bd, nI_clamp (by omega)]
  dsimp only
  refine xs_loopI (body := fX12_nights_l25 N (Y 0) (Y 1) (Y 2) (Y 3) (Y 4) (Y 6) (Y 7) (Y 5) (Y 8)) (fun r st => ∃ X2 a s i, st = (mmI', X2 0, X2 1, X2 2, X2 3, X2 4, X2 5, X2 6, X2 7, X2 8, mm_refusedF, a, s, hf, nI n, nI (p_lvc H m ro ta i), nI i) ∧ i + r = n ∧ mLay H 0 (p_lvm H m ro ta i) ro ta (min 40 (p_lvm H m ro ta i 5)) X2 ∧ mKp 0 (p_lvm H m ro ta i 5) (p_lvk H m ro ta KR i) X2 ∧ mU H (pU_push m ro ta U) (p_lvk H m ro ta KR i) mmI' X2) (fun z => ∃ mmI' X' a s, z = some (nI (p_lvc H m ro ta n), mmI', X' 0, X' 1, X' 2, X' 3, X' 4, X' 5, X' 6, X' 7, X' 8, mm_refusedF, a, s, hf) ∧ (∀ i, i ≠ 54 → i ≠ 55 → mmI' i = mmI i) ∧ mLay H 0 (p_lvm H m ro ta n) ro ta (min 40 (p_lvm H m ro ta n 5)) X' ∧ mKp 0 (p_lvm H m ro ta n 5) (p_lvk H m ro ta KR n) X' ∧ mU H (pU_push m ro ta U) (p_lvk H m ro ta KR n) mmI' X') ?_ N n _ ⟨X1, ask, stk, 0, rfl, by omega, f3, f4, f5⟩ (by omega)
  rintro r st kk ⟨X2, a, s, i, rfl, hi, hl, hk, hu⟩ hgo
  show ∃ mmI' X' a s, (if nI n ≤ nI i then _ else _) = _ ∧ _
  by_cases c : n ≤ i
  · have : i = n := by omega
    subst this
    rw [if_pos (nI_le (Nat.le_refl _) (by omega))]
    exact ⟨mmI', X2, a, s, rfl, f2, hl, hk, hu⟩
  · obtain ⟨q1, q2, q3, q4, q5⟩ := p_lvm_ok hH (ro := ro) (ta := ta) hm h5 i (by omega)
    obtain ⟨a3, s3, X3, h1, h2, h3, h4, h5', h6, h7⟩ := m_passX N hN hH (hf := hf) (ask := a) (stk := s) hY' (show 0 < 22 by omega) hl q1
    rw [q2] at h1 h6 h7
    rw [if_neg (nI_ge (by omega) (by omega))]
    show ∃ mmI'' X' a' s', xq_bd (fX12_passes N mmI' (X2 4) (X2 3) (Y 0) (X2 0) a (X2 1) (X2 2) (Y 1) s (Y 2) (Y 3) (Y 4) (Y 6) (Y 7) (X2 7) (Y 5) hf (Y 8) (X2 5) (X2 6) (X2 8) (nI 0)) _ = _ ∧ _
    rw [h1, xs_bd]
    dsimp only
    rw [← h2, ← h3, ← h4]
    obtain ⟨l1, l2, l3⟩ := m_lived hH q1 (by omega) (hu := m 4) hk hu (hUo'.up q5) h5' h6 h7
    have hcl := p_lvc_le H m ro ta i
    have hS : p_S H (p_lvm H m ro ta i) ro ta (m 4) < 128 := p_set_lt hH.2.2.1 _ _ _
    have es : p_lvc H m ro ta (i + 1) = p_lvc H m ro ta i + if p_S H (p_lvm H m ro ta i) ro ta (m 4) = 0 then 0 else 1 := rfl
    show ∃ mmI'' X' a' s', (if nI (p_S H (p_lvm H m ro ta i) ro ta (m 4)) = 0 then _ else _) = _ ∧ _
    by_cases d : p_S H (p_lvm H m ro ta i) ro ta (m 4) = 0
    · rw [d, if_pos (show nI 0 = (0 : Int32) from rfl)]
      dsimp only [fX12_nights_b44]
      show ∃ mmI'' X' a' s', kk (_, _, _, _, _, _, _, _, _, _, _, _, _, _, _, nI (p_lvc H m ro ta i) + nI 0, nI i + 1) = _ ∧ _
      rw [nI_1, nI_add]
      refine hgo _ (r - 1) (by omega) ⟨X3, a3, s3, i + 1, ?_, by omega, l1, l2, l3⟩
      rw [es, if_pos d]
    · rw [if_neg (nI_ne0 (by omega) (by omega))]
      dsimp only [fX12_nights_b44]
      show ∃ mmI'' X' a' s', kk (_, _, _, _, _, _, _, _, _, _, _, _, _, _, _, nI (p_lvc H m ro ta i) + nI 1, nI i + 1) = _ ∧ _
      rw [nI_1, nI_add]
      refine hgo _ (r - 1) (by omega) ⟨X3, a3, s3, i + 1, ?_, by omega, l1, l2, l3⟩
      rw [es, if_neg d]
