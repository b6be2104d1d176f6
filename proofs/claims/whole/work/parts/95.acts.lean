/-! acts: refused, hush, sit, please, undo -/
def pR (rf rF : Nat → Int32) : Prop := ∀ i, i < 6 → rF i = rf i
def rf1 (rf : Nat → Int32) (k : Nat) : Nat → Int32 := upd rf k (rf k + 1)
theorem pR_up {rf rF : Nat → Int32} (h : pR rf rF) {k : Nat} (hk : k < 6) : pR (rf1 rf k) (upd rF k (rF k + 1)) := fun i hi => by
  unfold rf1
  by_cases c : i = k
  · subst c; rw [pk_us, pk_us, h i hi]
  · rw [pk_un c, pk_un c]; exact h i hi
theorem c_refuse (N : Nat) {rF : Nat → Int32} {k : Nat} (hk : k < 6) : fX11_refuse N rF (nI k) = some (0, upd rF k (rF k + 1)) := by
  unfold fX11_refuse
  rw [xs_ald hk (by omega), xs_bd, xs_ast hk (by omega), xs_bd]
theorem c_refuseN (N : Nat) {rF : Nat → Int32} {k : Nat} (hk : k < 6) : fX11_refuseNumber N rF (nI k) = some (-1, upd rF k (rF k + 1)) := by
  unfold fX11_refuseNumber
  rw [xs_ald hk (by omega), xs_bd, xs_ast hk (by omega), xs_bd]
theorem m_refuses (N : Nat) {rF : Nat → Int32} {k : Nat} (hk : k < 6) : fX12_refuses N rF (nI k) = some (-1, upd rF k (rF k + 1)) := by
  unfold fX12_refuses
  rw [xs_ald hk (by omega), xs_bd, xs_ast hk (by omega), xs_bd]
def p_dig (x : Int32) : Bool := decide (0 ≤ x.toInt ∧ x.toInt ≤ 9)
theorem p_dig_yes {x : Int32} (h : p_dig x = true) : ∃ d : Nat, x = nI d ∧ d ≤ 9 := by
  have h := of_decide_eq_true h
  refine ⟨x.toInt.toNat, ?_, by omega⟩
  rw [fa_eq, nI_toInt (by have := fb_rng x; omega)]; omega
theorem c_isDigit (N : Nat) (x : Int32) : fX11_isDigit N x = some (p_b (p_dig x)) := by
  unfold fX11_isDigit p_dig
  have e0 : (0 : Int32).toInt = 0 := rfl
  have e9 : (9 : Int32).toInt = 9 := rfl
  by_cases c1 : 0 ≤ x.toInt
  · rw [if_neg (by rw [fa_lt, e0]; omega)]
    by_cases c2 : x.toInt ≤ 9
    · rw [if_neg (by rw [fa_lt, e9]; omega), decide_eq_true ⟨c1, c2⟩]; rfl
    · rw [if_pos (by rw [fa_lt, e9]; omega), decide_eq_false (fun z => c2 z.2)]; rfl
  · rw [if_pos (by rw [fa_lt, e0]; omega), decide_eq_false (fun z => c1 z.1)]; rfl
theorem m_is9 (N : Nat) (x : Int32) : fX12_is N x 0 9 = some (p_b (p_dig x)) := m_is N (lo := 0) (hi := 9) (by omega) (by omega) x
def pa_hush (H : PH) (m : Nat → Nat) (x : Int32) : Bool := decide (0 < H.1 0 ∧ p_dig x = true ∧ x ≠ nI (m 4))
def pa_sit (H : PH) (ro : Nat → Nat) (x y : Int32) : Bool := decide (p_one_of (H.1 1) x = true ∧ p_dig y = true ∧ y ≠ nI (ro x.toNatClampNeg))
def pa_please (H : PH) (ta : Nat → Nat) (x y : Int32) : Bool := decide (p_one_of (H.1 2) x = true ∧ p_dig y = true ∧ y ≠ nI (ta x.toNatClampNeg))
section CA
variable (N : Nat) {H : PH} {m ro ta : Nat → Nat} {U : PU} {homeI nowI now_rowsF now_talksF pastI dv_refusedF : Nat → Int32} {pastmP pastmQ pastmV : Nat → Nat → Int32}
theorem xq_zb0 : xq_zb (0 : Int32) = some 0 := rfl
theorem c_hush_no (h1 : homeI 1 = nI (H.1 0)) (h200 : H.1 0 ≤ 200) (hn : cNow H m ro ta nowI now_rowsF now_talksF) (x : Int32) (h : pa_hush H m x = false) : fX11_hush N homeI nowI pastI pastmP pastmQ pastmV now_rowsF now_talksF dv_refusedF x = some (0, nowI, pastI, pastmP, pastmQ, pastmV, upd dv_refusedF 3 (dv_refusedF 3 + 1)) := by
  have hb : fX11_hush_b25 N homeI now_rowsF now_talksF (nowI, pastI, pastmP, pastmQ, pastmV, dv_refusedF) = some (0, nowI, pastI, pastmP, pastmQ, pastmV, upd dv_refusedF 3 (dv_refusedF 3 + 1)) := by
    dsimp only [fX11_hush_b25]
    show xq_bd (fX11_refuse N dv_refusedF (nI 3)) _ = _
    rw [c_refuse N (by omega), xs_bd]
    rfl
  have h := of_decide_eq_false h
  unfold fX11_hush fX11_hasHouse
  rw [h1]
  by_cases g0 : 0 < H.1 0
  · rw [if_neg (nI_nle g0 (by omega)), xs_bd, if_neg (by decide), c_isDigit, xs_bd]
    cases hd : p_dig x with
    | false => rw [if_pos (by rfl), hb]
    | true =>
      rw [if_neg (by decide), hn.1 4 (by omega)]
      by_cases c : x = nI (m 4)
      · rw [if_pos c, hb]
      · exact absurd ⟨g0, hd, c⟩ h
  · have : H.1 0 = 0 := by omega
    rw [this, if_pos (by decide), xs_bd, if_pos (by rfl), hb]
theorem c_hush_yes (h1 : homeI 1 = nI (H.1 0)) (h200 : H.1 0 ≤ 200) (hE : H.1 1 ≤ 7) (hP : H.1 2 ≤ 6) (hn : cNow H m ro ta nowI now_rowsF now_talksF) (hU : cU H U pastI pastmP pastmQ pastmV) (hb : U.1 ≤ 20) (x : Int32) (h : pa_hush H m x = true) : ∃ nowI' pastI' P' Q' V', fX11_hush N homeI nowI pastI pastmP pastmQ pastmV now_rowsF now_talksF dv_refusedF x = some (1, nowI', pastI', P', Q', V', dv_refusedF) ∧ cNow H (va_up m 4 x.toNatClampNeg) ro ta nowI' now_rowsF now_talksF ∧ cU H (pU_push m ro ta U) pastI' P' Q' V' := by
  obtain ⟨g0, hd, hx⟩ := of_decide_eq_true h
  obtain ⟨d, rfl, hd9⟩ := p_dig_yes hd
  obtain ⟨pastI', P', Q', V', e1, e2⟩ := c_remember N hE hP hn hU hb
  unfold fX11_hush fX11_hasHouse
  rw [h1, if_neg (nI_nle g0 (by omega)), xs_bd, if_neg (by decide), c_isDigit, xs_bd, hd, if_neg (by decide), hn.1 4 (by omega), if_neg hx, e1, xs_bd, nI_clamp (by omega)]
  exact ⟨_, _, _, _, _, rfl, ⟨cM_up hn.1 4 d, hn.2⟩, e2⟩
theorem c_sit_no (h5 : homeI 5 = nI (H.1 1)) (hE : H.1 1 ≤ 7) (hn : cNow H m ro ta nowI now_rowsF now_talksF) (x y : Int32) (h : pa_sit H ro x y = false) : fX11_sit N homeI nowI now_rowsF pastI pastmP pastmQ pastmV now_talksF dv_refusedF x y = some (0, now_rowsF, pastI, pastmP, pastmQ, pastmV, upd dv_refusedF 3 (dv_refusedF 3 + 1)) := by
  have hb : fX11_sit_b28 N homeI nowI now_talksF (now_rowsF, pastI, pastmP, pastmQ, pastmV, dv_refusedF) = some (0, now_rowsF, pastI, pastmP, pastmQ, pastmV, upd dv_refusedF 3 (dv_refusedF 3 + 1)) := by
    dsimp only [fX11_sit_b28]
    show xq_bd (fX11_refuse N dv_refusedF (nI 3)) _ = _
    rw [c_refuse N (by omega), xs_bd]
    rfl
  have h := of_decide_eq_false h
  unfold fX11_sit
  rw [c_isEar N h5 (by omega), xs_bd]
  cases hx : p_one_of (H.1 1) x with
  | false => rw [if_pos (by rfl), hb]
  | true =>
    rw [if_neg (by decide), c_isDigit, xs_bd]
    cases hd : p_dig y with
    | false => rw [if_pos (by rfl), hb]
    | true =>
      obtain ⟨e, rfl, he⟩ := p_one_yes hx
      rw [nI_clamp (by omega)] at h
      rw [if_neg (by decide), xs_ald (show e < 7 by omega) (by omega), xs_bd, (hn.2.1 e he).1]
      by_cases c : y = nI (ro e)
      · rw [if_pos c, hb]
      · exact absurd ⟨hx, hd, c⟩ h
theorem c_sit_yes (h5 : homeI 5 = nI (H.1 1)) (hE : H.1 1 ≤ 7) (hP : H.1 2 ≤ 6) (hn : cNow H m ro ta nowI now_rowsF now_talksF) (hU : cU H U pastI pastmP pastmQ pastmV) (hb : U.1 ≤ 20) (x y : Int32) (h : pa_sit H ro x y = true) : ∃ r' pastI' P' Q' V', fX11_sit N homeI nowI now_rowsF pastI pastmP pastmQ pastmV now_talksF dv_refusedF x y = some (1, r', pastI', P', Q', V', dv_refusedF) ∧ cNow H m (va_up ro x.toNatClampNeg y.toNatClampNeg) ta nowI r' now_talksF ∧ cU H (pU_push m ro ta U) pastI' P' Q' V' := by
  obtain ⟨hx, hd, hy⟩ := of_decide_eq_true h
  obtain ⟨d, rfl, hd9⟩ := p_dig_yes hd
  obtain ⟨e, rfl, he⟩ := p_one_yes hx
  rw [nI_clamp (by omega)] at hy
  obtain ⟨pastI', P', Q', V', e1, e2⟩ := c_remember N hE hP hn hU hb
  unfold fX11_sit
  rw [c_isEar N h5 (by omega), xs_bd, hx, if_neg (by decide), c_isDigit, xs_bd, hd, if_neg (by decide), xs_ald (show e < 7 by omega) (by omega), xs_bd, (hn.2.1 e he).1, if_neg hy, e1, xs_bd]
  dsimp only
  rw [xs_ast (show e < 7 by omega) (by omega), xs_bd, nI_clamp (by omega), nI_clamp (by omega)]
  refine ⟨_, _, _, _, _, rfl, ⟨hn.1, fun q hq => ?_, hn.2.2⟩, e2⟩
  by_cases c : q = e
  · subst c; rw [pk_us, va_up_self]; exact ⟨rfl, hd9⟩
  · rw [pk_un c, va_up_ne _ _ c]; exact hn.2.1 q hq
theorem c_please_no (h6 : homeI 6 = nI (H.1 2)) (hP : H.1 2 ≤ 6) (hn : cNow H m ro ta nowI now_rowsF now_talksF) (x y : Int32) (h : pa_please H ta x y = false) : fX11_please N homeI nowI now_talksF pastI pastmP pastmQ pastmV now_rowsF dv_refusedF x y = some (0, now_talksF, pastI, pastmP, pastmQ, pastmV, upd dv_refusedF 3 (dv_refusedF 3 + 1)) := by
  have hb : fX11_please_b28 N homeI nowI now_rowsF (now_talksF, pastI, pastmP, pastmQ, pastmV, dv_refusedF) = some (0, now_talksF, pastI, pastmP, pastmQ, pastmV, upd dv_refusedF 3 (dv_refusedF 3 + 1)) := by
    dsimp only [fX11_please_b28]
    show xq_bd (fX11_refuse N dv_refusedF (nI 3)) _ = _
    rw [c_refuse N (by omega), xs_bd]
    rfl
  have h := of_decide_eq_false h
  unfold fX11_please
  rw [c_isPlace N h6 (by omega), xs_bd]
  cases hx : p_one_of (H.1 2) x with
  | false => rw [if_pos (by rfl), hb]
  | true =>
    rw [if_neg (by decide), c_isDigit, xs_bd]
    cases hd : p_dig y with
    | false => rw [if_pos (by rfl), hb]
    | true =>
      obtain ⟨e, rfl, he⟩ := p_one_yes hx
      rw [nI_clamp (by omega)] at h
      rw [if_neg (by decide), xs_ald (show e < 6 by omega) (by omega), xs_bd, (hn.2.2 e he).1]
      by_cases c : y = nI (ta e)
      · rw [if_pos c, hb]
      · exact absurd ⟨hx, hd, c⟩ h
theorem c_please_yes (h6 : homeI 6 = nI (H.1 2)) (hE : H.1 1 ≤ 7) (hP : H.1 2 ≤ 6) (hn : cNow H m ro ta nowI now_rowsF now_talksF) (hU : cU H U pastI pastmP pastmQ pastmV) (hb : U.1 ≤ 20) (x y : Int32) (h : pa_please H ta x y = true) : ∃ t' pastI' P' Q' V', fX11_please N homeI nowI now_talksF pastI pastmP pastmQ pastmV now_rowsF dv_refusedF x y = some (1, t', pastI', P', Q', V', dv_refusedF) ∧ cNow H m ro (va_up ta x.toNatClampNeg y.toNatClampNeg) nowI now_rowsF t' ∧ cU H (pU_push m ro ta U) pastI' P' Q' V' := by
  obtain ⟨hx, hd, hy⟩ := of_decide_eq_true h
  obtain ⟨d, rfl, hd9⟩ := p_dig_yes hd
  obtain ⟨e, rfl, he⟩ := p_one_yes hx
  rw [nI_clamp (by omega)] at hy
  obtain ⟨pastI', P', Q', V', e1, e2⟩ := c_remember N hE hP hn hU hb
  unfold fX11_please
  rw [c_isPlace N h6 (by omega), xs_bd, hx, if_neg (by decide), c_isDigit, xs_bd, hd, if_neg (by decide), xs_ald (show e < 6 by omega) (by omega), xs_bd, (hn.2.2 e he).1, if_neg hy, e1, xs_bd]
  dsimp only
  rw [xs_ast (show e < 6 by omega) (by omega), xs_bd, nI_clamp (by omega), nI_clamp (by omega)]
  refine ⟨_, _, _, _, _, rfl, ⟨hn.1, hn.2.1, fun q hq => ?_⟩, e2⟩
  by_cases c : q = e
  · subst c; rw [pk_us, va_up_self]; exact ⟨rfl, hd9⟩
  · rw [pk_un c, va_up_ne _ _ c]; exact hn.2.2 q hq
theorem c_undo_no (hU : cU H U pastI pastmP pastmQ pastmV) (h0 : U.1 = 0) : fX11_undo N pastI pastmP pastmQ pastmV nowI now_rowsF now_talksF dv_refusedF = some (0, pastI, nowI, now_rowsF, now_talksF, upd dv_refusedF 4 (dv_refusedF 4 + 1)) := by
  obtain ⟨nw, h1, h2, h3, h4⟩ := hU
  unfold fX11_undo
  rw [h3, h0, if_pos (show nI 0 = (0 : Int32) from rfl)]
  show xq_bd (fX11_refuse N dv_refusedF (nI 4)) _ = _
  rw [c_refuse N (by omega), xs_bd]
  rfl
theorem c_undo_yes (hE : H.1 1 ≤ 7) (hP : H.1 2 ≤ 6) (hU : cU H U pastI pastmP pastmQ pastmV) (hb : U.1 ≤ 20) (h0 : 0 < U.1) : ∃ pastI' w r t, fX11_undo N pastI pastmP pastmQ pastmV nowI now_rowsF now_talksF dv_refusedF = some (1, pastI', w, r, t, dv_refusedF) ∧ cU H (pU_pop U) pastI' pastmP pastmQ pastmV ∧ cNow H (U.2.1 0) (U.2.2.1 0) (U.2.2.2 0) w r t := by
  obtain ⟨pastI', w, r, t, e1, e2, e3⟩ := c_bring N hE hP (nowI := nowI) (rowsF := now_rowsF) (talksF := now_talksF) hU hb h0
  obtain ⟨nw, h1, h2, h3, h4⟩ := hU
  unfold fX11_undo
  rw [h3, if_neg (nI_ne0 h0 (by omega)), e1, xs_bd]
  exact ⟨_, _, _, _, rfl, e2, e3⟩
end CA
section MA
variable (N : Nat) (hN : 5000 ≤ N) {H : PH} {m ro ta : Nat → Nat} {U : PU} {KR : Nat → Nat → Nat} {mmI mm_refusedF : Nat → Int32} {X Y : Nat → Nat → Int32} {b : Nat}
theorem m_hush_no (hfl : mFl mmI (H.1 0)) (hL : mLay H 0 m ro ta (min 40 (m 5)) X) (x : Int32) (h : pa_hush H m x = false) : fX12_hush N mmI (X 4) (X 0) (X 1) (X 2) (X 3) (X 5) (X 6) (X 7) (X 8) mm_refusedF x = some (0, mmI, X 4, X 0, X 1, X 2, X 3, X 5, X 6, X 7, X 8, upd mm_refusedF 3 (mm_refusedF 3 + 1)) := by
  have hb : fX12_hush_b27 N (mmI, X 4, X 0, X 1, X 2, X 3, X 5, X 6, X 7, X 8, mm_refusedF) = some (0, mmI, X 4, X 0, X 1, X 2, X 3, X 5, X 6, X 7, X 8, upd mm_refusedF 3 (mm_refusedF 3 + 1)) := by
    dsimp only [fX12_hush_b27]
    show xq_bd (fX12_refuses N mm_refusedF (nI 3)) _ = _
    rw [m_refuses N (by omega), xs_bd]
    rfl
  have h := of_decide_eq_false h
  unfold fX12_hush
  rw [hfl]
  by_cases g0 : 0 < H.1 0
  · rw [if_pos g0, if_neg (by decide), m_is9, xs_bd]
    cases hd : p_dig x with
    | false => rw [if_pos (by rfl), hb]
    | true =>
      rw [if_neg (by decide)]
      show xq_bd (xq_ald 22 (X 4) (nI 0)) _ = _
      rw [xs_ald (by omega) (by omega), xs_bd, hL.2.2.2.2.1]
      by_cases c : nI (m 4) = x
      · rw [if_pos c, hb]
      · exact absurd ⟨g0, hd, fun z => c z.symm⟩ h
  · rw [if_neg g0, if_pos (by rfl), hb]
theorem m_hush_yes (hN : 5000 ≤ N) (hE : H.1 1 ≤ 7) (hP : H.1 2 ≤ 6) (hfl : mFl mmI (H.1 0)) (hL : mLay H 0 m ro ta (min 40 (m 5)) X) (hK : mKp 0 (m 5) KR X) (hU : mU H U KR mmI X) (hb : U.1 ≤ 20) (x : Int32) (h : pa_hush H m x = true) : ∃ mmI' X', fX12_hush N mmI (X 4) (X 0) (X 1) (X 2) (X 3) (X 5) (X 6) (X 7) (X 8) mm_refusedF x = some (1, mmI', X' 4, X' 0, X' 1, X' 2, X' 3, X' 5, X' 6, X' 7, X' 8, mm_refusedF) ∧ (∀ i, i ≠ 54 → i ≠ 55 → mmI' i = mmI i) ∧ mLay H 0 (va_up m 4 x.toNatClampNeg) ro ta (min 40 (m 5)) X' ∧ mKp 0 (m 5) KR X' ∧ mU H (pU_push m ro ta U) KR mmI' X' := by
  obtain ⟨g0, hd, hx⟩ := of_decide_eq_true h
  obtain ⟨d, rfl, hd9⟩ := p_dig_yes hd
  obtain ⟨mmI', X1, e1, e2, e3, e4, e5⟩ := m_keeps N hN hE hP hL hK hU hb
  unfold fX12_hush
  rw [hfl, if_pos g0, if_neg (by decide), m_is9, xs_bd, hd, if_neg (by decide)]
  show ∃ mmI' X', xq_bd (xq_ald 22 (X 4) (nI 0)) _ = _ ∧ _
  rw [xs_ald (by omega) (by omega), xs_bd, hL.2.2.2.2.1, if_neg (fun z => hx z.symm), e1, xs_bd]
  dsimp only
  show ∃ mmI' X', xq_bd (xq_ast 22 (X1 4) (nI 0) (nI d)) _ = _ ∧ _
  rw [xs_ast (by omega) (by omega), xs_bd, nI_clamp (by omega)]
  have ho : mOth 0 X1 (m9 (X1 0) (X1 1) (X1 2) (X1 3) (upd (X1 4) 0 (nI d)) (X1 5) (X1 6) (X1 7) (X1 8)) := by
    refine ⟨fun j u hj hu => ?_, fun _ _ => rfl, fun _ _ => rfl, fun _ _ => rfl⟩
    have : j = 0 ∨ j = 1 ∨ j = 2 ∨ j = 3 ∨ j = 4 ∨ j = 6 := by omega
    rcases this with rfl | rfl | rfl | rfl | rfl | rfl
    · rfl
    · rfl
    · rfl
    · rfl
    · exact pk_un hu
    · rfl
  refine ⟨mmI', m9 (X1 0) (X1 1) (X1 2) (X1 3) (upd (X1 4) 0 (nI d)) (X1 5) (X1 6) (X1 7) (X1 8), rfl, e2, ⟨e3.1, e3.2.1, e3.2.2.1, e3.2.2.2.1, pk_us, e3.2.2.2.2.2⟩, e4, ?_⟩
  obtain ⟨uf, u1, u2, u3, u4⟩ := e5
  exact ⟨uf, u1, u2, u3, fun k hk => ⟨(u4 k hk).1.oth ho (by omega) hE hP, (u4 k hk).2.oth ho (by omega)⟩⟩
theorem m_sit_no (hY : mHY H b mmI Y) (hE : H.1 1 ≤ 7) (hL : mLay H 0 m ro ta (min 40 (m 5)) X) (x y : Int32) (h : pa_sit H ro x y = false) : fX12_sit N mmI (Y 5) (X 5) (X 0) (X 1) (X 2) (X 3) (X 4) (X 6) (X 7) (X 8) mm_refusedF x y = some (0, mmI, X 5, X 0, X 1, X 2, X 3, X 4, X 6, X 7, X 8, upd mm_refusedF 3 (mm_refusedF 3 + 1)) := by
  have hb : fX12_sit_b28 N (Y 5) (mmI, X 5, X 0, X 1, X 2, X 3, X 4, X 6, X 7, X 8, mm_refusedF) = some (0, mmI, X 5, X 0, X 1, X 2, X 3, X 4, X 6, X 7, X 8, upd mm_refusedF 3 (mm_refusedF 3 + 1)) := by
    dsimp only [fX12_sit_b28]
    show xq_bd (fX12_refuses N mm_refusedF (nI 3)) _ = _
    rw [m_refuses N (by omega), xs_bd]
    rfl
  have h := of_decide_eq_false h
  unfold fX12_sit
  rw [m_isEar N hY.1 hY.2.1 hY.2.2.2.1 (by omega), xs_bd]
  cases hx : p_one_of (H.1 1) x with
  | false => rw [if_pos (by rfl), hb]
  | true =>
    rw [if_neg (by decide), m_is9, xs_bd]
    cases hd : p_dig y with
    | false => rw [if_pos (by rfl), hb]
    | true =>
      obtain ⟨e, rfl, he⟩ := p_one_yes hx
      rw [nI_clamp (by omega)] at h
      have hr := (hL.2.2.2.2.2.1 e he).1
      rw [Nat.mul_zero, Nat.zero_add] at hr
      rw [if_neg (by decide), xs_ald (show e < 154 by omega) (by omega), xs_bd, hr]
      by_cases c : nI (ro e) = y
      · rw [if_pos c, hb]
      · exact absurd ⟨hx, hd, fun z => c z.symm⟩ h
theorem m_sit_yes (hN : 5000 ≤ N) (hY : mHY H b mmI Y) (hE : H.1 1 ≤ 7) (hP : H.1 2 ≤ 6) (hL : mLay H 0 m ro ta (min 40 (m 5)) X) (hK : mKp 0 (m 5) KR X) (hU : mU H U KR mmI X) (hb : U.1 ≤ 20) (x y : Int32) (h : pa_sit H ro x y = true) : ∃ mmI' X', fX12_sit N mmI (Y 5) (X 5) (X 0) (X 1) (X 2) (X 3) (X 4) (X 6) (X 7) (X 8) mm_refusedF x y = some (1, mmI', X' 5, X' 0, X' 1, X' 2, X' 3, X' 4, X' 6, X' 7, X' 8, mm_refusedF) ∧ (∀ i, i ≠ 54 → i ≠ 55 → mmI' i = mmI i) ∧ mLay H 0 m (va_up ro x.toNatClampNeg y.toNatClampNeg) ta (min 40 (m 5)) X' ∧ mKp 0 (m 5) KR X' ∧ mU H (pU_push m ro ta U) KR mmI' X' := by
  obtain ⟨hx, hd, hy⟩ := of_decide_eq_true h
  obtain ⟨d, rfl, hd9⟩ := p_dig_yes hd
  obtain ⟨e, rfl, he⟩ := p_one_yes hx
  rw [nI_clamp (by omega)] at hy
  obtain ⟨mmI', X1, e1, e2, e3, e4, e5⟩ := m_keeps N hN hE hP hL hK hU hb
  have hr := (hL.2.2.2.2.2.1 e he).1
  rw [Nat.mul_zero, Nat.zero_add] at hr
  unfold fX12_sit
  rw [m_isEar N hY.1 hY.2.1 hY.2.2.2.1 (by omega), xs_bd, hx, if_neg (by decide), m_is9, xs_bd, hd, if_neg (by decide), xs_ald (show e < 154 by omega) (by omega), xs_bd, hr, if_neg (fun z => hy z.symm), e1, xs_bd]
  dsimp only
  rw [xs_ast (show e < 154 by omega) (by omega), xs_bd, nI_clamp (by omega), nI_clamp (by omega)]
  have ho : mOth 0 X1 (m9 (X1 0) (X1 1) (X1 2) (X1 3) (X1 4) (upd (X1 5) e (nI d)) (X1 6) (X1 7) (X1 8)) := by
    refine ⟨fun j u hj hu => ?_, fun w hw => ?_, fun _ _ => rfl, fun _ _ => rfl⟩
    · have : j = 0 ∨ j = 1 ∨ j = 2 ∨ j = 3 ∨ j = 4 ∨ j = 6 := by omega
      rcases this with rfl | rfl | rfl | rfl | rfl | rfl <;> rfl
    · show upd (X1 5) e (nI d) w = X1 5 w
      exact pk_un (by omega)
  refine ⟨mmI', m9 (X1 0) (X1 1) (X1 2) (X1 3) (X1 4) (upd (X1 5) e (nI d)) (X1 6) (X1 7) (X1 8), rfl, e2, ⟨e3.1, e3.2.1, e3.2.2.1, e3.2.2.2.1, e3.2.2.2.2.1, fun q hq => ?_, e3.2.2.2.2.2.2⟩, e4, ?_⟩
  · have hq2 := e3.2.2.2.2.2.1 q hq
    rw [Nat.mul_zero, Nat.zero_add] at hq2 ⊢
    show upd (X1 5) e (nI d) q = _ ∧ _
    by_cases c : q = e
    · subst c; rw [pk_us, va_up_self]; exact ⟨rfl, hd9⟩
    · rw [pk_un c, va_up_ne _ _ c]; exact hq2
  · obtain ⟨uf, u1, u2, u3, u4⟩ := e5
    exact ⟨uf, u1, u2, u3, fun k hk => ⟨(u4 k hk).1.oth ho (by omega) hE hP, (u4 k hk).2.oth ho (by omega)⟩⟩
theorem m_please_no (hY : mHY H b mmI Y) (hP : H.1 2 ≤ 6) (hL : mLay H 0 m ro ta (min 40 (m 5)) X) (x y : Int32) (h : pa_please H ta x y = false) : fX12_please N mmI (Y 6) (X 7) (X 0) (X 1) (X 2) (X 3) (X 4) (X 5) (X 6) (X 8) mm_refusedF x y = some (0, mmI, X 7, X 0, X 1, X 2, X 3, X 4, X 5, X 6, X 8, upd mm_refusedF 3 (mm_refusedF 3 + 1)) := by
  have hb : fX12_please_b28 N (Y 6) (mmI, X 7, X 0, X 1, X 2, X 3, X 4, X 5, X 6, X 8, mm_refusedF) = some (0, mmI, X 7, X 0, X 1, X 2, X 3, X 4, X 5, X 6, X 8, upd mm_refusedF 3 (mm_refusedF 3 + 1)) := by
    dsimp only [fX12_please_b28]
    show xq_bd (fX12_refuses N mm_refusedF (nI 3)) _ = _
    rw [m_refuses N (by omega), xs_bd]
    rfl
  have h := of_decide_eq_false h
  unfold fX12_please
  rw [m_isPlace N hY.1 hY.2.1 hY.2.2.2.2.1 (by omega), xs_bd]
  cases hx : p_one_of (H.1 2) x with
  | false => rw [if_pos (by rfl), hb]
  | true =>
    rw [if_neg (by decide), m_is9, xs_bd]
    cases hd : p_dig y with
    | false => rw [if_pos (by rfl), hb]
    | true =>
      obtain ⟨e, rfl, he⟩ := p_one_yes hx
      rw [nI_clamp (by omega)] at h
      have hr := (hL.2.2.2.2.2.2.2.2 e he).1
      rw [Nat.mul_zero, Nat.zero_add] at hr
      rw [if_neg (by decide), xs_ald (show e < 132 by omega) (by omega), xs_bd, hr]
      by_cases c : nI (ta e) = y
      · rw [if_pos c, hb]
      · exact absurd ⟨hx, hd, fun z => c z.symm⟩ h
theorem m_please_yes (hN : 5000 ≤ N) (hY : mHY H b mmI Y) (hE : H.1 1 ≤ 7) (hP : H.1 2 ≤ 6) (hL : mLay H 0 m ro ta (min 40 (m 5)) X) (hK : mKp 0 (m 5) KR X) (hU : mU H U KR mmI X) (hb : U.1 ≤ 20) (x y : Int32) (h : pa_please H ta x y = true) : ∃ mmI' X', fX12_please N mmI (Y 6) (X 7) (X 0) (X 1) (X 2) (X 3) (X 4) (X 5) (X 6) (X 8) mm_refusedF x y = some (1, mmI', X' 7, X' 0, X' 1, X' 2, X' 3, X' 4, X' 5, X' 6, X' 8, mm_refusedF) ∧ (∀ i, i ≠ 54 → i ≠ 55 → mmI' i = mmI i) ∧ mLay H 0 m ro (va_up ta x.toNatClampNeg y.toNatClampNeg) (min 40 (m 5)) X' ∧ mKp 0 (m 5) KR X' ∧ mU H (pU_push m ro ta U) KR mmI' X' := by
  obtain ⟨hx, hd, hy⟩ := of_decide_eq_true h
  obtain ⟨d, rfl, hd9⟩ := p_dig_yes hd
  obtain ⟨e, rfl, he⟩ := p_one_yes hx
  rw [nI_clamp (by omega)] at hy
  obtain ⟨mmI', X1, e1, e2, e3, e4, e5⟩ := m_keeps N hN hE hP hL hK hU hb
  have hr := (hL.2.2.2.2.2.2.2.2 e he).1
  rw [Nat.mul_zero, Nat.zero_add] at hr
  unfold fX12_please
  rw [m_isPlace N hY.1 hY.2.1 hY.2.2.2.2.1 (by omega), xs_bd, hx, if_neg (by decide), m_is9, xs_bd, hd, if_neg (by decide), xs_ald (show e < 132 by omega) (by omega), xs_bd, hr, if_neg (fun z => hy z.symm), e1, xs_bd]
  dsimp only
  rw [xs_ast (show e < 132 by omega) (by omega), xs_bd, nI_clamp (by omega), nI_clamp (by omega)]
  have ho : mOth 0 X1 (m9 (X1 0) (X1 1) (X1 2) (X1 3) (X1 4) (X1 5) (X1 6) (upd (X1 7) e (nI d)) (X1 8)) := by
    refine ⟨fun j u hj hu => ?_, fun _ _ => rfl, fun w hw => ?_, fun _ _ => rfl⟩
    · have : j = 0 ∨ j = 1 ∨ j = 2 ∨ j = 3 ∨ j = 4 ∨ j = 6 := by omega
      rcases this with rfl | rfl | rfl | rfl | rfl | rfl <;> rfl
    · show upd (X1 7) e (nI d) w = X1 7 w
      exact pk_un (by omega)
  refine ⟨mmI', m9 (X1 0) (X1 1) (X1 2) (X1 3) (X1 4) (X1 5) (X1 6) (upd (X1 7) e (nI d)) (X1 8), rfl, e2, ⟨e3.1, e3.2.1, e3.2.2.1, e3.2.2.2.1, e3.2.2.2.2.1, e3.2.2.2.2.2.1, e3.2.2.2.2.2.2.1, e3.2.2.2.2.2.2.2.1, fun q hq => ?_⟩, e4, ?_⟩
  · have hq2 := e3.2.2.2.2.2.2.2.2 q hq
    rw [Nat.mul_zero, Nat.zero_add] at hq2 ⊢
    show upd (X1 7) e (nI d) q = _ ∧ _
    by_cases c : q = e
    · subst c; rw [pk_us, va_up_self]; exact ⟨rfl, hd9⟩
    · rw [pk_un c, va_up_ne _ _ c]; exact hq2
  · obtain ⟨uf, u1, u2, u3, u4⟩ := e5
    exact ⟨uf, u1, u2, u3, fun k hk => ⟨(u4 k hk).1.oth ho (by omega) hE hP, (u4 k hk).2.oth ho (by omega)⟩⟩
theorem m_undo_no (hU : mU H U KR mmI X) (h0 : U.1 = 0) : fX12_undo N mmI (X 0) (X 1) (X 2) (X 3) (X 4) (X 5) (X 6) (X 7) (X 8) mm_refusedF = some (0, mmI, X 0, X 1, X 2, X 3, X 4, X 5, X 6, X 7, X 8, upd mm_refusedF 4 (mm_refusedF 4 + 1)) := by
  obtain ⟨uf, h1, h2, h3, h4⟩ := hU
  unfold fX12_undo
  rw [h3, h0, if_pos (show nI 0 = (0 : Int32) from rfl)]
  show xq_bd (fX12_refuses N mm_refusedF (nI 4)) _ = _
  rw [m_refuses N (by omega), xs_bd]
  rfl
theorem m_undo_yes (hN : 5000 ≤ N) (hE : H.1 1 ≤ 7) (hP : H.1 2 ≤ 6) (hU : mU H U KR mmI X) (hb : U.1 ≤ 20) (h0 : 0 < U.1) : ∃ mmI' X', fX12_undo N mmI (X 0) (X 1) (X 2) (X 3) (X 4) (X 5) (X 6) (X 7) (X 8) mm_refusedF = some (1, mmI', X' 0, X' 1, X' 2, X' 3, X' 4, X' 5, X' 6, X' 7, X' 8, mm_refusedF) ∧ (∀ i, i ≠ 55 → mmI' i = mmI i) ∧ mLay H 0 (U.2.1 0) (U.2.2.1 0) (U.2.2.2 0) (min 40 (U.2.1 0 5)) X' ∧ mKp 0 (U.2.1 0 5) KR X' ∧ mU H (pU_pop U) KR mmI' X' := by
  obtain ⟨uf, h1, h2, h3, h4⟩ := hU
  have e1 : nI U.1 - 1 = nI (U.1 - 1) := by show nI U.1 - nI 1 = _; rw [pk_sub (by omega)]
  unfold fX12_undo
  rw [h3, if_neg (nI_ne0 h0 (by omega)), e1]
  have es : fX12_slot N (va_up mmI 55 (nI (U.1 - 1))) (nI (U.1 - 1)) = some (nI (2 + (uf + (U.1 - 1)) % 20)) := by
    unfold fX12_slot
    rw [va_up_ne _ _ (by decide)]
    have r20 : xq_rm (mmI 54 + nI (U.1 - 1)) 20 = some (nI ((uf + (U.1 - 1)) % 20)) := by
      rw [h2, nI_add]
      exact xs_rm (b := 20) (by omega) (by omega) (by omega)
    rw [r20, xs_bd]
    show some (nI 2 + nI _) = _
    rw [nI_add]
  rw [es, xs_bd]
  obtain ⟨a, b⟩ := h4 0 h0
  rw [Nat.sub_zero] at a b
  obtain ⟨X', f1, f2, f3, f4⟩ := m_copyL N hN hE hP (show 0 < 22 by omega) (show 2 + (uf + (U.1 - 1)) % 20 < 22 by omega) (by omega) a
  show ∃ mmI' X', xq_bd (fX12_copies N (X 0) (X 1) (X 2) (X 3) (X 4) (X 5) (X 6) (X 7) (X 8) (nI 0) (nI (2 + (uf + (U.1 - 1)) % 20))) _ = _ ∧ _
  rw [f1, xs_bd]
  refine ⟨_, X', rfl, fun i hi => va_up_ne _ _ hi, f3, fun j f hj hf => ?_, uf, h1, by show mmI 54 = _; exact h2, rfl, fun k hk => ?_⟩
  · rw [f4 _ (by omega)]; exact b j f hj hf
  · have hk : k < U.1 - 1 := hk
    obtain ⟨a2, b2⟩ := h4 (k + 1) (by omega)
    have ei : (pU_pop U).1 - 1 - k = U.1 - 1 - (k + 1) := by show U.1 - 1 - 1 - k = _; omega
    rw [ei]
    exact ⟨a2.oth f2 (by omega) hE hP, b2.oth f2 (by omega)⟩
end MA
