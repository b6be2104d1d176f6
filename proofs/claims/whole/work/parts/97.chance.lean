/-! a DRAW; NIGHTS by the seed -/
def p_dr (x : Nat) : Nat := (1103515245 * x + 12345) % 2147483648
theorem p_dr_lt (x : Nat) : p_dr x < 2147483648 := Nat.mod_lt _ (by decide)
theorem c_draw (N : Nat) {dvI : Nat → Int32} {x k : Nat} (h : dvI 12 = nI x) (hx : x < 2147483648) (hk : 0 < k) (hk2 : k < 1000) : fX11_draw N dvI (nI k) = some (nI (p_dr x / 64 % k), va_up dvI 12 (nI (p_dr x))) := by
  have hd := p_dr_lt x
  have e : (1103515245 : Int64) * (nI x).toInt64 + 12345 = lN (1103515245 * x + 12345) := by
    rw [nI_l hx]
    show lN 1103515245 * lN x + lN 12345 = _
    rw [lN_mul, lN_add]
  unfold fX11_draw xq_rmL
  rw [h, e, if_neg (show ¬ (2147483648 : Int64) = 0 by decide), xs_bd]
  have e2 : lN (1103515245 * x + 12345) - lN (1103515245 * x + 12345) / 2147483648 * 2147483648 = lN (p_dr x) := pk_lRem (b := 2147483648) (by omega) (by decide) (by decide)
  rw [e2, lN_i, if_pos (show (1 : Int32) ≤ nI k from nI_le (a := 1) hk (by omega))]
  show xq_bd (xq_dv (nI (p_dr x)) (nI 64)) _ = _
  rw [xs_dv hd (by decide) (by decide), xs_bd, xs_rm (by omega) hk (by omega), xs_bd]
theorem m_draw (N : Nat) {mmJ : Nat → Int64} {x k : Nat} (h : mmJ 56 = lN x) (hx : x < 2147483648) (hk : 0 < k) (hk2 : k < 1000) : fX12_draw N mmJ (nI k) = some (nI (p_dr x / 64 % k), va_up mmJ 56 (lN (p_dr x))) := by
  have hd := p_dr_lt x
  have e : (1103515245 : Int64) * lN x + 12345 = lN (1103515245 * x + 12345) := by
    show lN 1103515245 * lN x + lN 12345 = _
    rw [lN_mul, lN_add]
  unfold fX12_draw xq_rmL xq_dvL
  rw [h, e, if_neg (show ¬ (2147483648 : Int64) = 0 by decide), xs_bd, if_neg (show ¬ (64 : Int64) = 0 by decide), xs_bd]
  have e2 : lN (1103515245 * x + 12345) - lN (1103515245 * x + 12345) / 2147483648 * 2147483648 = lN (p_dr x) := pk_lRem (b := 2147483648) (by omega) (by decide) (by decide)
  have e3 : lN (p_dr x) / 64 = lN (p_dr x / 64) := pk_lDiv (b := 64) (by omega) (by decide) (by decide)
  rw [e2, e3, nI_l (by omega), if_neg (show ¬ lN k = 0 from fun z => by have := (pk_lEQ (b := 0) (show k < 2 ^ 63 by omega) (by decide)).mp z; omega), xs_bd, pk_lRem (by omega) hk (by omega), lN_i]
def p_chx (H : PH) (x : Nat) : Nat → Nat
  | 0 => x
  | i + 1 => if H.1 3 ≤ p_dr (p_chx H x i) / 64 % 100 then p_dr (p_chx H x i) else p_dr (p_dr (p_chx H x i))
def p_chh (H : PH) (hu x i : Nat) : Nat := if H.1 3 ≤ p_dr (p_chx H x i) / 64 % 100 then hu else p_dr (p_dr (p_chx H x i)) / 64 % 10
def p_chc (H : PH) (x : Nat) : Nat → Nat
  | 0 => 0
  | i + 1 => p_chc H x i + if H.1 3 ≤ p_dr (p_chx H x i) / 64 % 100 then 0 else 1
def p_chm (H : PH) (m ro ta : Nat → Nat) (x : Nat) : Nat → Nat → Nat
  | 0 => m
  | i + 1 => p_live H (p_chm H m ro ta x i) ro ta (p_chh H (m 4) x i)
def p_chk (H : PH) (m ro ta : Nat → Nat) (x : Nat) (KR : Nat → Nat → Nat) : Nat → Nat → Nat → Nat
  | 0 => KR
  | i + 1 => p_lKR H (p_chm H m ro ta x i) ro ta (p_chh H (m 4) x i) (p_chk H m ro ta x KR i)
theorem p_chx_lt {H : PH} {x : Nat} (hx : x < 2147483648) : ∀ n, p_chx H x n < 2147483648
  | 0 => hx
  | n + 1 => by
    show (if _ then _ else _) < _
    split <;> exact p_dr_lt _
theorem p_chh_le {H : PH} {hu x : Nat} (h : hu ≤ 9) (i : Nat) : p_chh H hu x i ≤ 9 := by
  unfold p_chh; split
  · exact h
  · omega
theorem p_chc_le (H : PH) (x : Nat) : ∀ n, p_chc H x n ≤ n
  | 0 => Nat.le_refl _
  | n + 1 => by
    have := p_chc_le H x n
    show p_chc H x n + (if _ then 0 else 1) ≤ n + 1
    split <;> omega
theorem p_chm_ok {H : PH} (hH : ph_ok H) {m ro ta : Nat → Nat} {x : Nat} (hm : p_mok H m) (h5 : m 5 ≤ m 0) : ∀ n, m 0 + n ≤ 999 → p_mok H (p_chm H m ro ta x n) ∧ p_chm H m ro ta x n 4 = m 4 ∧ p_chm H m ro ta x n 0 = m 0 + n ∧ p_chm H m ro ta x n 5 ≤ p_chm H m ro ta x n 0 ∧ m 5 ≤ p_chm H m ro ta x n 5
  | 0, _ => ⟨hm, rfl, rfl, h5, Nat.le_refl _⟩
  | n + 1, h => by
    obtain ⟨a, b, c, d, e⟩ := p_chm_ok hH (ro := ro) (ta := ta) (x := x) hm h5 n (by omega)
    obtain ⟨a2, b2, c2, d2, e2⟩ := p_live_ok (ro := ro) (ta := ta) (hu := p_chh H (m 4) x n) hH a (by omega) d
    exact ⟨a2, b2.trans b, by show p_live H (p_chm H m ro ta x n) ro ta (p_chh H (m 4) x n) 0 = _; rw [c2, c]; omega, by show p_live H (p_chm H m ro ta x n) ro ta (p_chh H (m 4) x n) 5 ≤ p_live H (p_chm H m ro ta x n) ro ta (p_chh H (m 4) x n) 0; rw [c2]; exact d2, Nat.le_trans e e2⟩
theorem p_chk_ok {H : PH} (hH : ph_ok H) {m ro ta : Nat → Nat} {x : Nat} {KR : Nat → Nat → Nat} (hm : p_mok H m) (h5 : m 5 ≤ m 0) (hK : pKR_ok (m 5) KR) : ∀ n, m 0 + n ≤ 999 → pKR_ok (p_chm H m ro ta x n 5) (p_chk H m ro ta x KR n)
  | 0, _ => hK
  | n + 1, h => p_lKR_ok hH (p_chm_ok hH hm h5 n (by omega)).1 (p_chk_ok hH hm h5 hK n (by omega))
theorem p_lvk_ok {H : PH} (hH : ph_ok H) {m ro ta : Nat → Nat} {KR : Nat → Nat → Nat} (hm : p_mok H m) (h5 : m 5 ≤ m 0) (hK : pKR_ok (m 5) KR) : ∀ n, m 0 + n ≤ 999 → pKR_ok (p_lvm H m ro ta n 5) (p_lvk H m ro ta KR n)
  | 0, _ => hK
  | n + 1, h => p_lKR_ok hH (p_lvm_ok hH hm h5 n (by omega)).1 (p_lvk_ok hH hm h5 hK n (by omega))
theorem c_chance_no (N : Nat) {H : PH} {m ro ta : Nat → Nat} (hs : hS H m) {homeI home_sharpsF home_placeMilesF home_goesF home_hearsF home_talkForF : Nat → Int32} {home_goesN home_hearsN home_talkForN : Nat} (hc : cH H homeI home_sharpsF home_placeMilesF home_goesF home_hearsF home_talkForF home_goesN home_hearsN home_talkForN) {nowI now_rowsF now_talksF : Nat → Int32} (hn : cNow H m ro ta nowI now_rowsF now_talksF) {dvI pastI dv_refusedF dv_heardAheadF course_valuesF course_stackF past_keptRowsF : Nat → Int32} {pastmP pastmU pastmV : Nat → Nat → Int32} (x : Int32) (h : p_ahead (H.1 0) (m 0) x 1 60 = false) : fX11_chance N dvI homeI nowI pastI pastmP pastmU pastmV now_rowsF now_talksF dv_refusedF dv_heardAheadF course_valuesF home_goesF course_stackF home_talkForF home_placeMilesF home_sharpsF home_hearsF past_keptRowsF home_goesN home_talkForN home_hearsN x = some (-1, dvI, nowI, pastI, pastmP, pastmU, pastmV, upd dv_refusedF 2 (dv_refusedF 2 + 1), dv_heardAheadF, course_valuesF, course_stackF, past_keptRowsF) := by
  obtain ⟨b0, b1, b2, b3⟩ := hs.b
  have e1 := c_comes N (lo := 1) (hi := 60) hc.1 (hn.1 0 (by omega)) b0 b3 (by omega) (by omega) x
  unfold fX11_chance
  show xq_bd (fX11_comes N homeI nowI x (nI 1) (nI 60)) _ = _
  rw [e1, xs_bd, h, if_pos (by rfl)]
  show xq_bd (fX11_refuseNumber N dv_refusedF (nI 2)) _ = _
  rw [c_refuseN N (by omega), xs_bd]
theorem c_chance_yes (N : Nat) (hN : 5000 ≤ N) {H : PH} {m ro ta : Nat → Nat} (hs : hS H m) (h5 : m 5 ≤ m 0) {U : PU} (hb : U.1 ≤ 20) {KR : Nat → Nat → Nat} {homeI home_sharpsF home_placeMilesF home_goesF home_hearsF home_talkForF : Nat → Int32} {home_goesN home_hearsN home_talkForN : Nat} (hc : cH H homeI home_sharpsF home_placeMilesF home_goesF home_hearsF home_talkForF home_goesN home_hearsN home_talkForN) (hc4 : homeI 4 = nI (H.1 3)) {nowI now_rowsF now_talksF : Nat → Int32} (hn : cNow H m ro ta nowI now_rowsF now_talksF) {dvI pastI dv_refusedF dv_heardAheadF course_valuesF course_stackF past_keptRowsF : Nat → Int32} {sd : Nat} (hsd : sd < 2147483648) (h12 : dvI 12 = nI sd) {pastmP pastmU pastmV : Nat → Nat → Int32} (hU : cU H U pastI pastmP pastmU pastmV) (hK : cKR (m 5) KR past_keptRowsF) (x : Int32) (h : p_ahead (H.1 0) (m 0) x 1 60 = true) : ∃ dvI' nowI' pastI' P' Q' V' h v s kF', fX11_chance N dvI homeI nowI pastI pastmP pastmU pastmV now_rowsF now_talksF dv_refusedF dv_heardAheadF course_valuesF home_goesF course_stackF home_talkForF home_placeMilesF home_sharpsF home_hearsF past_keptRowsF home_goesN home_talkForN home_hearsN x = some (nI (p_chc H sd x.toNatClampNeg), dvI', nowI', pastI', P', Q', V', dv_refusedF, h, v, s, kF') ∧ (∀ i, i ≠ 12 → dvI' i = dvI i) ∧ dvI' 12 = nI (p_chx H sd x.toNatClampNeg) ∧ cNow H (p_chm H m ro ta sd x.toNatClampNeg) ro ta nowI' now_rowsF now_talksF ∧ cU H (pU_push m ro ta U) pastI' P' Q' V' ∧ cKR (p_chm H m ro ta sd x.toNatClampNeg 5) (p_chk H m ro ta sd KR x.toNatClampNeg) kF' := by
  obtain ⟨b0, b1, b2, b3⟩ := hs.b
  have e1 := c_comes N (lo := 1) (hi := 60) hc.1 (hn.1 0 (by omega)) b0 b3 (by omega) (by omega) x
  obtain ⟨g0, n, rfl, -, g1, g2⟩ := p_ahead_yes h
  obtain ⟨hH, hm⟩ := hs.y g0
  obtain ⟨pastI', P', Q', V', f1, f2⟩ := c_remember N b1 b2 hn hU hb
  have hm4 := hm.2.2.2.2
  have h3 : H.1 3 ≤ 100 := hH.2.2.2.2.2.2.2.2.2.2.2.2.2
  unfold fX11_chance
  show ∃ dvI' nowI' pastI' P' Q' V' h v s kF', xq_bd (fX11_comes N homeI nowI (nI n) (nI 1) (nI 60)) _ = _ ∧ _
  rw [e1, xs_bd, h, if_neg (by decide), f1, xs_bd, nI_clamp (by omega)]
  dsimp only
  refine xs_loopI (body := fX11_chance_l32 N homeI now_rowsF now_talksF home_goesF home_talkForF home_placeMilesF home_sharpsF home_hearsF home_goesN home_talkForN home_hearsN) (fun r st => ∃ d w h v s kF i, st = (d, w, pastI', P', Q', V', dv_refusedF, h, v, s, kF, nI n, nI (p_chc H sd i), nI i) ∧ i + r = n ∧ (∀ j, j ≠ 12 → d j = dvI j) ∧ d 12 = nI (p_chx H sd i) ∧ cNow H (p_chm H m ro ta sd i) ro ta w now_rowsF now_talksF ∧ cKR (p_chm H m ro ta sd i 5) (p_chk H m ro ta sd KR i) kF) (fun z => ∃ dvI' nowI' pastI' P' Q' V' h v s kF', z = some (nI (p_chc H sd n), dvI', nowI', pastI', P', Q', V', dv_refusedF, h, v, s, kF') ∧ (∀ i, i ≠ 12 → dvI' i = dvI i) ∧ dvI' 12 = nI (p_chx H sd n) ∧ cNow H (p_chm H m ro ta sd n) ro ta nowI' now_rowsF now_talksF ∧ cU H (pU_push m ro ta U) pastI' P' Q' V' ∧ cKR (p_chm H m ro ta sd n 5) (p_chk H m ro ta sd KR n) kF') ?_ N n _ ⟨dvI, nowI, dv_heardAheadF, course_valuesF, course_stackF, past_keptRowsF, 0, rfl, by omega, fun _ _ => rfl, h12, hn, hK⟩ (by omega)
  rintro r st kk ⟨d, w, hh, v, s, kF, i, rfl, hi, hd, hd2, hw, hk⟩ hgo
  show ∃ dvI' nowI' pastI' P' Q' V' h v s kF', (if nI n ≤ nI i then _ else _) = _ ∧ _
  by_cases c : n ≤ i
  · have : i = n := by omega
    subst this
    rw [if_pos (nI_le (Nat.le_refl _) (by omega))]
    exact ⟨d, w, _, _, _, _, hh, v, s, kF, rfl, hd, hd2, hw, f2, hk⟩
  · obtain ⟨q1, q2, q3, q4, q5⟩ := p_chm_ok hH (ro := ro) (ta := ta) (x := sd) hm h5 i (by omega)
    have hcl := p_chc_le H sd i
    have hxl := p_chx_lt (H := H) hsd i
    have hdl := p_dr_lt (p_chx H sd i)
    have hdl2 := p_dr_lt (p_dr (p_chx H sd i))
    have hul := p_chh_le (H := H) (x := sd) hm4 i
    obtain ⟨w2, h2, v2, s2, kF2, e2, e3, e4⟩ := c_live N hN hH q1 (by omega) q4 hc hw (dv_heardAheadF := hh) (course_valuesF := v) (course_stackF := s) hk (hu := p_chh H (m 4) sd i) hul
    rw [if_neg (nI_ge (by omega) (by omega))]
    show ∃ dvI' nowI' pastI' P' Q' V' h v s kF', xq_bd (fX11_draw N d (nI 100)) _ = _ ∧ _
    rw [c_draw N hd2 hxl (by decide) (by decide), xs_bd, hc4]
    dsimp only
    have es : p_chc H sd (i + 1) = p_chc H sd i + if H.1 3 ≤ p_dr (p_chx H sd i) / 64 % 100 then 0 else 1 := rfl
    have ex : p_chx H sd (i + 1) = if H.1 3 ≤ p_dr (p_chx H sd i) / 64 % 100 then p_dr (p_chx H sd i) else p_dr (p_dr (p_chx H sd i)) := rfl
    by_cases dd : H.1 3 ≤ p_dr (p_chx H sd i) / 64 % 100
    · have eh : p_chh H (m 4) sd i = m 4 := if_pos dd
      rw [if_pos (nI_le dd (by omega)), hw.1 4 (by omega), q2]
      dsimp only [fX11_chance_b73]
      rw [eh] at e2 e3 e4
      rw [e2, xs_bd]
      dsimp only
      rw [nI_1]
      refine hgo _ (r - 1) (by omega) ⟨va_up d 12 (nI (p_dr (p_chx H sd i))), w2, h2, v2, s2, kF2, i + 1, ?_, by omega, fun j hj => (if_neg hj).trans (hd j hj), ?_, ?_, ?_⟩
      · rw [es, if_pos dd]; rfl
      · rw [ex, if_pos dd]; rfl
      · show cNow H (p_live H (p_chm H m ro ta sd i) ro ta (p_chh H (m 4) sd i)) ro ta _ _ _
        rw [eh]; exact e3
      · show cKR (p_live H (p_chm H m ro ta sd i) ro ta (p_chh H (m 4) sd i) 5) (p_lKR H (p_chm H m ro ta sd i) ro ta (p_chh H (m 4) sd i) (p_chk H m ro ta sd KR i)) _
        rw [eh]; exact e4
    · have eh : p_chh H (m 4) sd i = p_dr (p_dr (p_chx H sd i)) / 64 % 10 := if_neg dd
      rw [if_neg (nI_ge (by omega) (by omega))]
      show ∃ dvI' nowI' pastI' P' Q' V' h v s kF', xq_bd (fX11_draw N (va_up d 12 (nI (p_dr (p_chx H sd i)))) (nI 10)) _ = _ ∧ _
      rw [c_draw N (dvI := va_up d 12 (nI (p_dr (p_chx H sd i)))) (x := p_dr (p_chx H sd i)) (if_pos rfl) hdl (by decide) (by decide), xs_bd]
      dsimp only [fX11_chance_b73]
      rw [eh] at e2 e3 e4
      rw [e2, xs_bd]
      dsimp only
      rw [nI_1, nI_1]
      refine hgo _ (r - 1) (by omega) ⟨va_up (va_up d 12 (nI (p_dr (p_chx H sd i)))) 12 (nI (p_dr (p_dr (p_chx H sd i)))), w2, h2, v2, s2, kF2, i + 1, ?_, by omega, fun j hj => (if_neg hj).trans ((if_neg hj).trans (hd j hj)), ?_, ?_, ?_⟩
      · rw [es, if_neg dd]
      · rw [ex, if_neg dd]; rfl
      · show cNow H (p_live H (p_chm H m ro ta sd i) ro ta (p_chh H (m 4) sd i)) ro ta _ _ _
        rw [eh]; exact e3
      · show cKR (p_live H (p_chm H m ro ta sd i) ro ta (p_chh H (m 4) sd i) 5) (p_lKR H (p_chm H m ro ta sd i) ro ta (p_chh H (m 4) sd i) (p_chk H m ro ta sd KR i)) _
        rw [eh]; exact e4
theorem m_chance_no (N : Nat) {H : PH} {m ro ta : Nat → Nat} (hs : hS H m) {b k : Nat} {mmI hf ask : Nat → Int32} {stk : Nat → Int64} {X Y : Nat → Nat → Int32} (hY : mHY H b mmI Y) (hfl : mFl mmI (H.1 0)) (hL : mLay H 0 m ro ta k X) {mmJ : Nat → Int64} {mm_refusedF mm_coughToldF : Nat → Int32} (x : Int32) (h : p_ahead (H.1 0) (m 0) x 1 60 = false) : fX12_chance N mmI mmJ (X 0) (X 1) (X 2) (X 3) (X 4) (X 5) (X 6) (X 7) (X 8) mm_refusedF mm_coughToldF (Y 0) ask (Y 1) stk (Y 2) (Y 3) (Y 4) (Y 6) (Y 7) (Y 5) hf (Y 8) x = some (-1, mmI, mmJ, X 0, X 1, X 2, X 3, X 4, X 5, X 6, X 7, X 8, upd mm_refusedF 2 (mm_refusedF 2 + 1), ask, stk, hf) := by
  obtain ⟨b0, b1, b2, b3⟩ := hs.b
  have e1 := m_ahead N (lo := 1) (hi := 60) (ngF := X 0) hfl hL.1 b3 (by omega) (by omega) x
  unfold fX12_chance
  show xq_bd (fX12_isAhead N mmI (X 0) x (nI 1) (nI 60)) _ = _
  rw [e1, xs_bd, h, if_pos (by rfl)]
  show xq_bd (fX12_refuses N mm_refusedF (nI 2)) _ = _
  rw [m_refuses N (by omega), xs_bd]
theorem m_chance_yes (N : Nat) (hN : 5000 ≤ N) {H : PH} {m ro ta : Nat → Nat} (hs : hS H m) (h5 : m 5 ≤ m 0) {U : PU} (hUo : pU_ok H m U) {KR : Nat → Nat → Nat} {b : Nat} {mmI hf ask mm_refusedF mm_coughToldF : Nat → Int32} (hcg : mm_coughToldF b = nI (H.1 3)) {mmJ : Nat → Int64} {sd : Nat} (hsd : sd < 2147483648) (h56 : mmJ 56 = lN sd) {stk : Nat → Int64} {X Y : Nat → Nat → Int32} (hY : mHY H b mmI Y) (hfl : mFl mmI (H.1 0)) (hL : mLay H 0 m ro ta (min 40 (m 5)) X) (hK : mKp 0 (m 5) KR X) (hU : mU H U KR mmI X) (x : Int32) (h : p_ahead (H.1 0) (m 0) x 1 60 = true) : ∃ mmI' mmJ' X' a s, fX12_chance N mmI mmJ (X 0) (X 1) (X 2) (X 3) (X 4) (X 5) (X 6) (X 7) (X 8) mm_refusedF mm_coughToldF (Y 0) ask (Y 1) stk (Y 2) (Y 3) (Y 4) (Y 6) (Y 7) (Y 5) hf (Y 8) x = some (nI (p_chc H sd x.toNatClampNeg), mmI', mmJ', X' 0, X' 1, X' 2, X' 3, X' 4, X' 5, X' 6, X' 7, X' 8, mm_refusedF, a, s, hf) ∧ (∀ i, i ≠ 54 → i ≠ 55 → mmI' i = mmI i) ∧ (∀ i, i ≠ 56 → mmJ' i = mmJ i) ∧ mmJ' 56 = lN (p_chx H sd x.toNatClampNeg) ∧ mLay H 0 (p_chm H m ro ta sd x.toNatClampNeg) ro ta (min 40 (p_chm H m ro ta sd x.toNatClampNeg 5)) X' ∧ mKp 0 (p_chm H m ro ta sd x.toNatClampNeg 5) (p_chk H m ro ta sd KR x.toNatClampNeg) X' ∧ mU H (pU_push m ro ta U) (p_chk H m ro ta sd KR x.toNatClampNeg) mmI' X' := by
  obtain ⟨b0, b1, b2, b3⟩ := hs.b
  have e1 := m_ahead N (lo := 1) (hi := 60) (ngF := X 0) hfl hL.1 b3 (by omega) (by omega) x
  obtain ⟨g0, n, rfl, -, g1, g2⟩ := p_ahead_yes h
  obtain ⟨hH, hm⟩ := hs.y g0
  have hm4 := hm.2.2.2.2
  have h3 : H.1 3 ≤ 100 := hH.2.2.2.2.2.2.2.2.2.2.2.2.2
  obtain ⟨mmI', X1, f1, f2, f3, f4, f5⟩ := m_keeps N hN b1 b2 hL hK hU hUo.1
  have hY' : mHY H b mmI' Y := hY.of (f2 13 (by decide) (by decide))
  have hb2 := hY'.1
  have hUo' := pU_push_ok (ro := ro) (ta := ta) hUo hm h5
  unfold fX12_chance
  show ∃ mmI' mmJ' X' a s, xq_bd (fX12_isAhead N mmI (X 0) (nI n) (nI 1) (nI 60)) _ = _ ∧ _
  rw [e1, xs_bd, h, if_neg (by decide), f1, xs_bd, nI_clamp (by omega)]
  dsimp only
  refine xs_loopI (body := fX12_chance_l25 N mm_coughToldF (Y 0) (Y 1) (Y 2) (Y 3) (Y 4) (Y 6) (Y 7) (Y 5) (Y 8)) (fun r st => ∃ J X2 a s i, st = (mmI', J, X2 0, X2 1, X2 2, X2 3, X2 4, X2 5, X2 6, X2 7, X2 8, mm_refusedF, a, s, hf, nI n, nI (p_chc H sd i), nI i) ∧ i + r = n ∧ (∀ i, i ≠ 56 → J i = mmJ i) ∧ J 56 = lN (p_chx H sd i) ∧ mLay H 0 (p_chm H m ro ta sd i) ro ta (min 40 (p_chm H m ro ta sd i 5)) X2 ∧ mKp 0 (p_chm H m ro ta sd i 5) (p_chk H m ro ta sd KR i) X2 ∧ mU H (pU_push m ro ta U) (p_chk H m ro ta sd KR i) mmI' X2) (fun z => ∃ mmI' mmJ' X' a s, z = some (nI (p_chc H sd n), mmI', mmJ', X' 0, X' 1, X' 2, X' 3, X' 4, X' 5, X' 6, X' 7, X' 8, mm_refusedF, a, s, hf) ∧ (∀ i, i ≠ 54 → i ≠ 55 → mmI' i = mmI i) ∧ (∀ i, i ≠ 56 → mmJ' i = mmJ i) ∧ mmJ' 56 = lN (p_chx H sd n) ∧ mLay H 0 (p_chm H m ro ta sd n) ro ta (min 40 (p_chm H m ro ta sd n 5)) X' ∧ mKp 0 (p_chm H m ro ta sd n 5) (p_chk H m ro ta sd KR n) X' ∧ mU H (pU_push m ro ta U) (p_chk H m ro ta sd KR n) mmI' X') ?_ N n _ ⟨mmJ, X1, ask, stk, 0, rfl, by omega, fun _ _ => rfl, h56, f3, f4, f5⟩ (by omega)
  rintro r st kk ⟨J, X2, a, s, i, rfl, hi, hJ, hJ2, hl, hk, hu⟩ hgo
  show ∃ mmI' mmJ' X' a s, (if nI n ≤ nI i then _ else _) = _ ∧ _
  by_cases c : n ≤ i
  · have : i = n := by omega
    subst this
    rw [if_pos (nI_le (Nat.le_refl _) (by omega))]
    exact ⟨mmI', J, X2, a, s, rfl, f2, hJ, hJ2, hl, hk, hu⟩
  · obtain ⟨q1, q2, q3, q4, q5⟩ := p_chm_ok hH (ro := ro) (ta := ta) (x := sd) hm h5 i (by omega)
    have hcl := p_chc_le H sd i
    have hxl := p_chx_lt (H := H) hsd i
    have hdl := p_dr_lt (p_chx H sd i)
    have hdl2 := p_dr_lt (p_dr (p_chx H sd i))
    have hul := p_chh_le (H := H) (x := sd) hm4 i
    obtain ⟨a3, s3, X3, h1, h2, h3', h4, h5', h6, h7⟩ := m_tickX N hN hH (hf := hf) (ask := a) (stk := s) hY' (show 0 < 22 by omega) hl q1 (hu := p_chh H (m 4) sd i) (by omega)
    obtain ⟨l1, l2, l3⟩ := m_lived hH q1 (by omega) (hu := p_chh H (m 4) sd i) hk hu (hUo'.up q5) h5' h6 h7
    have es : p_chc H sd (i + 1) = p_chc H sd i + if H.1 3 ≤ p_dr (p_chx H sd i) / 64 % 100 then 0 else 1 := rfl
    have ex : p_chx H sd (i + 1) = if H.1 3 ≤ p_dr (p_chx H sd i) / 64 % 100 then p_dr (p_chx H sd i) else p_dr (p_dr (p_chx H sd i)) := rfl
    have key : ∀ (J' : Nat → Int64), (∀ i, i ≠ 56 → J' i = mmJ i) → J' 56 = lN (p_chx H sd (i + 1)) → ∃ mmI'' mmJ' X' a' s', fX12_chance_b90 N mm_coughToldF (Y 0) (Y 1) (Y 2) (Y 3) (Y 4) (Y 6) (Y 7) (Y 5) (Y 8) kk (mmI', J', X2 0, X2 1, X2 2, X2 3, X2 4, X2 5, X2 6, X2 7, X2 8, mm_refusedF, a, s, hf, nI n, nI (p_chc H sd (i + 1)), nI i, 0, nI (p_chh H (m 4) sd i)) = some (nI (p_chc H sd n), mmI'', mmJ', X' 0, X' 1, X' 2, X' 3, X' 4, X' 5, X' 6, X' 7, X' 8, mm_refusedF, a', s', hf) ∧ (∀ i, i ≠ 54 → i ≠ 55 → mmI'' i = mmI i) ∧ (∀ i, i ≠ 56 → mmJ' i = mmJ i) ∧ mmJ' 56 = lN (p_chx H sd n) ∧ mLay H 0 (p_chm H m ro ta sd n) ro ta (min 40 (p_chm H m ro ta sd n 5)) X' ∧ mKp 0 (p_chm H m ro ta sd n 5) (p_chk H m ro ta sd KR n) X' ∧ mU H (pU_push m ro ta U) (p_chk H m ro ta sd KR n) mmI'' X' := by
      intro J' hJ' hJ2'
      dsimp only [fX12_chance_b90]
      show ∃ mmI'' mmJ' X' a' s', xq_bd (fX12_ticks N mmI' (X2 3) (Y 0) (X2 0) a (X2 1) (X2 2) (Y 1) s (Y 2) (Y 3) (Y 4) (Y 6) (Y 7) (X2 7) (Y 5) hf (Y 8) (X2 5) (X2 6) (X2 8) (nI 0) (nI (p_chh H (m 4) sd i)) 0) _ = _ ∧ _
      rw [h1, xs_bd]
      dsimp only
      rw [← h2, ← h3', ← h4, nI_1]
      exact hgo _ (r - 1) (by omega) ⟨J', X3, a3, s3, i + 1, rfl, by omega, hJ', hJ2', l1, l2, l3⟩
    rw [if_neg (nI_ge (by omega) (by omega))]
    show ∃ mmI' mmJ' X' a s, xq_bd (fX12_draw N J (nI 100)) _ = _ ∧ _
    rw [m_draw N hJ2 hxl (by decide) (by decide), xs_bd]
    dsimp only
    rw [hY'.2.1, xs_ald hb2 (by omega), xs_bd, hcg]
    by_cases dd : H.1 3 ≤ p_dr (p_chx H sd i) / 64 % 100
    · have eh : p_chh H (m 4) sd i = m 4 := if_pos dd
      rw [if_pos (nI_le dd (by omega))]
      have k2 := key (va_up J 56 (lN (p_dr (p_chx H sd i)))) (fun j hj => (if_neg hj).trans (hJ j hj)) (by rw [ex, if_pos dd]; rfl)
      have e0 : nI (p_chc H sd i) + nI 0 = nI (p_chc H sd i + 0) := by rw [nI_add]
      rw [es, if_pos dd, eh, ← e0] at k2
      dsimp only [fX12_chance_b53]
      rw [if_pos (by rfl)]
      dsimp only [fX12_chance_b66]
      rw [if_pos (by rfl)]
      show ∃ mmI'' mmJ' X' a' s', xq_bd (xq_ald 22 (X2 4) (nI 0)) _ = _ ∧ _
      rw [xs_ald (by omega) (by omega), xs_bd, hl.2.2.2.2.1, q2]
      exact k2
    · have eh : p_chh H (m 4) sd i = p_dr (p_dr (p_chx H sd i)) / 64 % 10 := if_neg dd
      rw [if_neg (nI_ge (by omega) (by omega))]
      have k2 := key (va_up (va_up J 56 (lN (p_dr (p_chx H sd i)))) 56 (lN (p_dr (p_dr (p_chx H sd i))))) (fun j hj => (if_neg hj).trans ((if_neg hj).trans (hJ j hj))) (by rw [ex, if_neg dd]; rfl)
      rw [es, if_neg dd, eh] at k2
      dsimp only [fX12_chance_b53]
      rw [if_neg (by decide)]
      dsimp only [fX12_chance_b66]
      rw [if_neg (by decide)]
      show ∃ mmI'' mmJ' X' a' s', xq_bd (fX12_draw N (va_up J 56 (lN (p_dr (p_chx H sd i)))) (nI 10)) _ = _ ∧ _
      rw [m_draw N (mmJ := va_up J 56 (lN (p_dr (p_chx H sd i)))) (x := p_dr (p_chx H sd i)) (if_pos rfl) hdl (by decide) (by decide), xs_bd]
      dsimp only
      rw [nI_1]
      exact k2
