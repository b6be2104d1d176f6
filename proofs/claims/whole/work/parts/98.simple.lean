/-! plain questions: end, has, ear, place, stride, seed, status, kept -/
theorem hS.mi {H : PH} {m : Nat → Nat} (h : hS H m) : m 1 ≤ H.1 0 := by
  rcases h with h | h
  · exact Nat.le_of_lt h.2.2.1
  · rw [h.2.2.2 1 (by omega)]; omega
def qa_has (H : PH) (m : Nat → Nat) (K U sd : Nat) (x : Int32) : Int32 := if x = 0 then nI (H.1 0) else if x = 1 then nI (H.1 1) else if x = 2 then nI (H.1 2) else if x = 3 then nI (m 0) else if x = 4 then nI (m 1) else if x = 5 then nI (m 2) else if x = 6 then nI (m 3) else if x = 7 then nI (m 4) else if x = 8 then nI (p_far H (m 1)) else if x = 9 then nI (min 40 (m 5)) else if x = 10 then nI K else if x = 11 then nI U else if x = 12 then nI sd else -1
theorem c_has (N : Nat) {H : PH} {m ro ta : Nat → Nat} (hs : hS H m) (h5 : m 5 ≤ 999) {homeI home_sharpsF home_placeMilesF home_goesF home_hearsF home_talkForF : Nat → Int32} {home_goesN home_hearsN home_talkForN : Nat} (hc : cH H homeI home_sharpsF home_placeMilesF home_goesF home_hearsF home_talkForF home_goesN home_hearsN home_talkForN) {nowI now_rowsF now_talksF : Nat → Int32} (hn : cNow H m ro ta nowI now_rowsF now_talksF) {dvI marksI pastI : Nat → Int32} {K U sd : Nat} (hk : marksI 0 = nI K) (hu : pastI 2 = nI U) (h12 : dvI 12 = nI sd) (x : Int32) : fX11_has N dvI homeI nowI marksI pastI x = some (qa_has H m K U sd x) := by
  obtain ⟨b0, b1, b2, b3⟩ := hs.b
  have hmi := hs.mi
  unfold fX11_has qa_has
  by_cases c0 : x = 0
  · rw [if_pos c0, if_pos c0]
    rw [hc.1]
  rw [if_neg c0, if_neg c0]
  by_cases c1 : x = 1
  · rw [if_pos c1, if_pos c1]
    rw [hc.2.1]
  rw [if_neg c1, if_neg c1]
  by_cases c2 : x = 2
  · rw [if_pos c2, if_pos c2]
    rw [hc.2.2.1]
  rw [if_neg c2, if_neg c2]
  by_cases c3 : x = 3
  · rw [if_pos c3, if_pos c3]
    rw [hn.1 0 (by omega)]
  rw [if_neg c3, if_neg c3]
  by_cases c4 : x = 4
  · rw [if_pos c4, if_pos c4]
    rw [hn.1 1 (by omega)]
  rw [if_neg c4, if_neg c4]
  by_cases c5 : x = 5
  · rw [if_pos c5, if_pos c5]
    rw [hn.1 2 (by omega)]
  rw [if_neg c5, if_neg c5]
  by_cases c6 : x = 6
  · rw [if_pos c6, if_pos c6]
    rw [hn.1 3 (by omega)]
  rw [if_neg c6, if_neg c6]
  by_cases c7 : x = 7
  · rw [if_pos c7, if_pos c7]
    rw [hn.1 4 (by omega)]
  rw [if_neg c7, if_neg c7]
  by_cases c8 : x = 8
  · rw [if_pos c8, if_pos c8]
    unfold fX2_farOf
    rw [xs_bd, hn.1 1 (by omega), hc.1, pk_sub hmi, xs_min (by omega) (by omega)]; rfl
  rw [if_neg c8, if_neg c8]
  by_cases c9 : x = 9
  · rw [if_pos c9, if_pos c9]
    show some (xq_min (nI 40) (nowI 5)) = _
    rw [hn.1 5 (by omega), xs_min (by omega) (by omega)]
  rw [if_neg c9, if_neg c9]
  by_cases c10 : x = 10
  · rw [if_pos c10, if_pos c10]
    rw [hk]
  rw [if_neg c10, if_neg c10]
  by_cases c11 : x = 11
  · rw [if_pos c11, if_pos c11]
    rw [hu]
  rw [if_neg c11, if_neg c11]
  by_cases c12 : x = 12
  · rw [if_pos c12, if_pos c12]
    rw [h12]
  rw [if_neg c12, if_neg c12]
theorem m_has (N : Nat) {H : PH} {m ro ta : Nat → Nat} (hs : hS H m) {b k : Nat} {mmI hf ask : Nat → Int32} {stk : Nat → Int64} {X Y : Nat → Nat → Int32} (hY : mHY H b mmI Y) (hfl : mFl mmI (H.1 0)) (hL : mLay H 0 m ro ta k X) (hk40 : k = min 40 (m 5)) {mmJ : Nat → Int64} {K U sd : Nat} (hk : mmI 62 = nI K) (hu : mmI 55 = nI U) (h56 : mmJ 56 = lN sd) (x : Int32) : fX12_has N mmI mmJ (Y 4) (Y 5) (Y 6) (X 0) (X 1) (X 2) (X 3) (X 4) (X 6) x = some (qa_has H m K U sd x) := by
  obtain ⟨b0, b1, b2, b3⟩ := hs.b
  have hmi := hs.mi
  have hb := hY.1
  unfold fX12_has qa_has
  by_cases c0 : x = 0
  · rw [if_pos c0, if_pos c0]
    rw [hY.2.1, xs_ald hb (by omega), xs_bd, hY.2.2.1]
  rw [if_neg c0, if_neg c0]
  by_cases c1 : x = 1
  · rw [if_pos c1, if_pos c1]
    rw [hY.2.1, xs_ald hb (by omega), xs_bd, hY.2.2.2.1]
  rw [if_neg c1, if_neg c1]
  by_cases c2 : x = 2
  · rw [if_pos c2, if_pos c2]
    rw [hY.2.1, xs_ald hb (by omega), xs_bd, hY.2.2.2.2.1]
  rw [if_neg c2, if_neg c2]
  by_cases c3 : x = 3
  · rw [if_pos c3, if_pos c3]
    show xq_bd (xq_ald 22 (X 0) (nI 0)) _ = _
    rw [xs_ald (by omega) (by omega), xs_bd, hL.1]
  rw [if_neg c3, if_neg c3]
  by_cases c4 : x = 4
  · rw [if_pos c4, if_pos c4]
    show xq_bd (xq_ald 22 (X 1) (nI 0)) _ = _
    rw [xs_ald (by omega) (by omega), xs_bd, hL.2.1]
  rw [if_neg c4, if_neg c4]
  by_cases c5 : x = 5
  · rw [if_pos c5, if_pos c5]
    show xq_bd (xq_ald 22 (X 2) (nI 0)) _ = _
    rw [xs_ald (by omega) (by omega), xs_bd, hL.2.2.1]
  rw [if_neg c5, if_neg c5]
  by_cases c6 : x = 6
  · rw [if_pos c6, if_pos c6]
    show xq_bd (xq_ald 22 (X 3) (nI 0)) _ = _
    rw [xs_ald (by omega) (by omega), xs_bd, hL.2.2.2.1]
  rw [if_neg c6, if_neg c6]
  by_cases c7 : x = 7
  · rw [if_pos c7, if_pos c7]
    show xq_bd (xq_ald 22 (X 4) (nI 0)) _ = _
    rw [xs_ald (by omega) (by omega), xs_bd, hL.2.2.2.2.1]
  rw [if_neg c7, if_neg c7]
  by_cases c8 : x = 8
  · rw [if_pos c8, if_pos c8]
    show xq_bd (fX12_farOf N mmI (X 1) (Y 4) (nI 0)) _ = _
    rw [m_far N b0 hb hY.2.1 hY.2.2.1 (by omega) hL.2.1 hmi, xs_bd]
  rw [if_neg c8, if_neg c8]
  by_cases c9 : x = 9
  · rw [if_pos c9, if_pos c9]
    show xq_bd (xq_ald 22 (X 6) (nI 0)) _ = _
    rw [xs_ald (by omega) (by omega), xs_bd, hL.2.2.2.2.2.2.1, hk40]
  rw [if_neg c9, if_neg c9]
  by_cases c10 : x = 10
  · rw [if_pos c10, if_pos c10]
    rw [hk]
  rw [if_neg c10, if_neg c10]
  by_cases c11 : x = 11
  · rw [if_pos c11, if_pos c11]
    rw [hu]
  rw [if_neg c11, if_neg c11]
  by_cases c12 : x = 12
  · rw [if_pos c12, if_pos c12]
    rw [h56, lN_i]
  rw [if_neg c12, if_neg c12]
def qa_ear (H : PH) (m ro : Nat → Nat) (x y : Int32) : Int32 := if p_one_of (H.1 1) x = false then -1 else if y = 0 then nI (ro x.toNatClampNeg) else if y = 1 then nI (H.2.1 1 x.toNatClampNeg) else if y = 2 then p_b (p_hear H (m 0) (m 4) (H.2.1 1 x.toNatClampNeg) (ro x.toNatClampNeg) (p_far H (m 1))) else -1
theorem hS.ho {H : PH} {m : Nat → Nat} (h : hS H m) {e : Nat} (he : e < H.1 1 ∨ e < H.1 2) : 0 < H.1 0 := by
  rcases h with h | h
  · have := h.1.1; omega
  · have := h.2.1; have := h.2.2.1; omega
theorem p_b_if {α : Type} (b : Bool) (s : α) : (if p_b b = 0 then some ((0 : Int32), s) else some (1, s)) = some (p_b b, s) := by cases b <;> rfl
theorem c_ear (N : Nat) (hN : 5000 ≤ N) {H : PH} {m ro ta : Nat → Nat} (hs : hS H m) {homeI home_sharpsF home_placeMilesF home_goesF home_hearsF home_talkForF : Nat → Int32} {home_goesN home_hearsN home_talkForN : Nat} (hc : cH H homeI home_sharpsF home_placeMilesF home_goesF home_hearsF home_talkForF home_goesN home_hearsN home_talkForN) {nowI now_rowsF now_talksF : Nat → Int32} (hn : cNow H m ro ta nowI now_rowsF now_talksF) {course_valuesF course_stackF : Nat → Int32} (x y : Int32) : ∃ v s, fX11_ear N homeI nowI now_rowsF home_sharpsF course_valuesF home_hearsF course_stackF home_hearsN x y = some (qa_ear H m ro x y, v, s) := by
  obtain ⟨b0, b1, b2, b3⟩ := hs.b
  unfold fX11_ear qa_ear
  rw [c_isEar N hc.2.1 (by omega), xs_bd]
  cases hx : p_one_of (H.1 1) x with
  | false => rw [if_pos (by rfl), if_pos rfl]; exact ⟨_, _, rfl⟩
  | true =>
    obtain ⟨e, rfl, he⟩ := p_one_yes hx
    obtain ⟨hH, hm⟩ := hs.y (hs.ho (Or.inl he))
    have hro := hn.2.1 e he
    have hm4 := hm.2.2.2.2
    rw [if_neg (show ¬ p_b true = 0 by decide), if_neg (show ¬ true = false by decide), nI_clamp (by omega)]
    by_cases c0 : y = 0
    · rw [if_pos c0, if_pos c0, xs_ald (by omega) (by omega), xs_bd, hro.1]; exact ⟨_, _, rfl⟩
    rw [if_neg c0, if_neg c0]
    by_cases c1 : y = 1
    · rw [if_pos c1, if_pos c1, xs_ald (by omega) (by omega), xs_bd, hc.2.2.2.2.1 e he]; exact ⟨_, _, rfl⟩
    rw [if_neg c1, if_neg c1]
    by_cases c2 : y = 2
    · obtain ⟨v', s', e1⟩ := c_hears N hN hH (vals := course_valuesF) (stk := course_stackF) (homeI := homeI) (sharpsF := home_sharpsF) (moI := nowI) (ng := m 0) (mi := m 1) (row := ro e) (hu := m 4) hc.2.2.2.2.2.2.1 hc.1 (hc.2.2.2.2.1 e he) he (hn.1 0 (by omega)) (hn.1 1 (by omega)) (by omega) hs.mi (by omega) (by omega)
      rw [if_pos c2, if_pos c2, xs_ald (by omega) (by omega), xs_bd, hro.1, hn.1 4 (by omega), e1, xs_bd]
      exact ⟨_, _, p_b_if _ _⟩
    rw [if_neg c2, if_neg c2]; exact ⟨_, _, rfl⟩
theorem m_ear (N : Nat) (hN : 5000 ≤ N) {H : PH} {m ro ta : Nat → Nat} (hs : hS H m) {b k : Nat} {mmI hf ask : Nat → Int32} {stk : Nat → Int64} {X Y : Nat → Nat → Int32} (hY : mHY H b mmI Y) (hfl : mFl mmI (H.1 0)) (hL : mLay H 0 m ro ta k X) (x y : Int32) : ∃ a s, fX12_ear N mmI (Y 5) (X 5) (X 4) (Y 0) (X 0) ask (Y 8) (X 1) (Y 4) (Y 1) stk (Y 2) (Y 3) x y = some (qa_ear H m ro x y, a, s) := by
  obtain ⟨b0, b1, b2, b3⟩ := hs.b
  have hb := hY.1
  unfold fX12_ear qa_ear
  rw [m_isEar N hb hY.2.1 hY.2.2.2.1 (by omega), xs_bd]
  cases hx : p_one_of (H.1 1) x with
  | false => rw [if_pos (by rfl), if_pos rfl]; exact ⟨_, _, rfl⟩
  | true =>
    obtain ⟨e, rfl, he⟩ := p_one_yes hx
    obtain ⟨hH, hm⟩ := hs.y (hs.ho (Or.inl he))
    have hro := hL.2.2.2.2.2.1 e he
    have hro0 : X 5 e = nI (ro e) := by have := hro.1; rwa [Nat.mul_zero, Nat.zero_add] at this
    have hm4 := hm.2.2.2.2
    have e7 : (7 : Int32) * nI b + nI e = nI (7 * b + e) := by show nI 7 * nI b + nI e = _; rw [pk_mul, nI_add]
    rw [if_neg (show ¬ p_b true = 0 by decide), if_neg (show ¬ true = false by decide), nI_clamp (by omega)]
    by_cases c0 : y = 0
    · rw [if_pos c0, if_pos c0, xs_ald (by omega) (by omega), xs_bd, hro0]; exact ⟨_, _, rfl⟩
    rw [if_neg c0, if_neg c0]
    by_cases c1 : y = 1
    · rw [if_pos c1, if_pos c1, hY.2.1, e7, xs_ald (by omega) (by omega), xs_bd, hY.2.2.2.2.2.2.1 e he]; exact ⟨_, _, rfl⟩
    rw [if_neg c1, if_neg c1]
    by_cases c2 : y = 2
    · obtain ⟨a', s', e1⟩ := m_hears N hN hH (ask := ask) (stk := stk) (ngF := X 0) (miF := X 1) (ng := m 0) (mi := m 1) (row := ro e) (hu := m 4) hY (show 0 < 22 by omega) hL.1 hL.2.1 he (by omega) hs.mi (by omega) (by omega)
      rw [if_pos c2, if_pos c2, xs_ald (by omega) (by omega), xs_bd, hro0]
      show ∃ a s, xq_bd (xq_ald 22 (X 4) (nI 0)) _ = _
      rw [xs_ald (by omega) (by omega), xs_bd, hL.2.2.2.2.1]
      show ∃ a s, xq_bd (fX12_isHeardIn N mmI (Y 0) (X 0) ask (Y 8) (X 1) (Y 4) (Y 1) stk (Y 2) (Y 3) (nI 0) (nI e) (nI (ro e)) (nI (m 4))) _ = _
      rw [e1, xs_bd]
      exact ⟨_, _, p_b_if _ _⟩
    rw [if_neg c2, if_neg c2]; exact ⟨_, _, rfl⟩
def qa_place (H : PH) (m ta : Nat → Nat) (x y : Int32) : Int32 := if p_one_of (H.1 2) x = false then -1 else if y = 0 then nI (H.2.1 0 x.toNatClampNeg) else if y = 1 then nI (ta x.toNatClampNeg) else if y = 2 then nI (p_talk H (m 0) (m 4) (ta x.toNatClampNeg)) else -1
theorem c_place (N : Nat) (hN : 5000 ≤ N) {H : PH} {m ro ta : Nat → Nat} (hs : hS H m) {homeI home_sharpsF home_placeMilesF home_goesF home_hearsF home_talkForF : Nat → Int32} {home_goesN home_hearsN home_talkForN : Nat} (hc : cH H homeI home_sharpsF home_placeMilesF home_goesF home_hearsF home_talkForF home_goesN home_hearsN home_talkForN) {nowI now_rowsF now_talksF : Nat → Int32} (hn : cNow H m ro ta nowI now_rowsF now_talksF) {course_valuesF course_stackF : Nat → Int32} (x y : Int32) : ∃ v s, fX11_place N homeI home_placeMilesF nowI now_talksF course_valuesF home_talkForF course_stackF home_talkForN x y = some (qa_place H m ta x y, v, s) := by
  obtain ⟨b0, b1, b2, b3⟩ := hs.b
  unfold fX11_place qa_place
  rw [c_isPlace N hc.2.2.1 (by omega), xs_bd]
  cases hx : p_one_of (H.1 2) x with
  | false => rw [if_pos (by rfl), if_pos rfl]; exact ⟨_, _, rfl⟩
  | true =>
    obtain ⟨e, rfl, he⟩ := p_one_yes hx
    obtain ⟨hH, hm⟩ := hs.y (hs.ho (Or.inr he))
    have hro := hn.2.2 e he
    have hm4 := hm.2.2.2.2
    rw [if_neg (show ¬ p_b true = 0 by decide), if_neg (show ¬ true = false by decide), nI_clamp (by omega)]
    by_cases c0 : y = 0
    · rw [if_pos c0, if_pos c0, xs_ald (by omega) (by omega), xs_bd, hc.2.2.2.1 e he]; exact ⟨_, _, rfl⟩
    rw [if_neg c0, if_neg c0]
    by_cases c1 : y = 1
    · rw [if_pos c1, if_pos c1, xs_ald (by omega) (by omega), xs_bd, hro.1]; exact ⟨_, _, rfl⟩
    rw [if_neg c1, if_neg c1]
    by_cases c2 : y = 2
    · obtain ⟨v', s', e1⟩ := c_talk N hN hH (vals := course_valuesF) (stk := course_stackF) (moI := nowI) (mo_talksF := now_talksF) (pl := e) (ng := m 0) (ta := ta e) (hu := m 4) hc.2.2.2.2.2.2.2 (hn.1 0 (by omega)) hro.1 (by omega) (by omega) (by omega) (by omega)
      rw [if_pos c2, if_pos c2, hn.1 4 (by omega), e1, xs_bd]
      exact ⟨_, _, rfl⟩
    rw [if_neg c2, if_neg c2]; exact ⟨_, _, rfl⟩
theorem m_place (N : Nat) (hN : 5000 ≤ N) {H : PH} {m ro ta : Nat → Nat} (hs : hS H m) {b k : Nat} {mmI hf ask : Nat → Int32} {stk : Nat → Int64} {X Y : Nat → Nat → Int32} (hY : mHY H b mmI Y) (hfl : mFl mmI (H.1 0)) (hL : mLay H 0 m ro ta k X) (x y : Int32) : ∃ a s, fX12_place N mmI (Y 6) (X 4) (X 7) (Y 0) (X 0) ask (Y 1) stk (Y 2) (Y 3) (Y 7) x y = some (qa_place H m ta x y, a, s) := by
  obtain ⟨b0, b1, b2, b3⟩ := hs.b
  have hb := hY.1
  unfold fX12_place qa_place
  rw [m_isPlace N hb hY.2.1 hY.2.2.2.2.1 (by omega), xs_bd]
  cases hx : p_one_of (H.1 2) x with
  | false => rw [if_pos (by rfl), if_pos rfl]; exact ⟨_, _, rfl⟩
  | true =>
    obtain ⟨e, rfl, he⟩ := p_one_yes hx
    obtain ⟨hH, hm⟩ := hs.y (hs.ho (Or.inr he))
    have hro := hL.2.2.2.2.2.2.2.2 e he
    have hro0 : X 7 e = nI (ta e) := by have := hro.1; rwa [Nat.mul_zero, Nat.zero_add] at this
    have hm4 := hm.2.2.2.2
    have e7 : (6 : Int32) * nI b + nI e = nI (6 * b + e) := by show nI 6 * nI b + nI e = _; rw [pk_mul, nI_add]
    rw [if_neg (show ¬ p_b true = 0 by decide), if_neg (show ¬ true = false by decide), nI_clamp (by omega)]
    by_cases c0 : y = 0
    · rw [if_pos c0, if_pos c0, hY.2.1, e7, xs_ald (by omega) (by omega), xs_bd, hY.2.2.2.2.2.1 e he]; exact ⟨_, _, rfl⟩
    rw [if_neg c0, if_neg c0]
    by_cases c1 : y = 1
    · rw [if_pos c1, if_pos c1, xs_ald (by omega) (by omega), xs_bd, hro0]; exact ⟨_, _, rfl⟩
    rw [if_neg c1, if_neg c1]
    by_cases c2 : y = 2
    · obtain ⟨a', s', e1⟩ := m_talk N hN hH (ask := ask) (stk := stk) (ngF := X 0) (taF := X 7) (ng := m 0) (pl := e) (ta := ta e) (hu := m 4) hY (show 0 < 22 by omega) hL.1 (by omega) hro.1 (by omega) hro.2 (by omega)
      rw [if_pos c2, if_pos c2]
      show ∃ a s, xq_bd (xq_ald 22 (X 4) (nI 0)) _ = _
      rw [xs_ald (by omega) (by omega), xs_bd, hL.2.2.2.2.1]
      show ∃ a s, xq_bd (fX12_talkAt N mmI (X 7) (Y 0) (X 0) ask (Y 1) stk (Y 2) (Y 3) (nI 0) (nI e) (nI (m 4))) _ = _
      rw [e1, xs_bd]
      exact ⟨_, _, rfl⟩
    rw [if_neg c2, if_neg c2]; exact ⟨_, _, rfl⟩
def qa_stride (H : PH) (m : Nat → Nat) : Int32 := if 0 < H.1 0 then nI (p_pace H (m 0) (m 4) (m 1) (m 2)) else -1
theorem c_stride (N : Nat) (hN : 5000 ≤ N) {H : PH} {m ro ta : Nat → Nat} (hs : hS H m) {homeI home_sharpsF home_placeMilesF home_goesF home_hearsF home_talkForF : Nat → Int32} {home_goesN home_hearsN home_talkForN : Nat} (hc : cH H homeI home_sharpsF home_placeMilesF home_goesF home_hearsF home_talkForF home_goesN home_hearsN home_talkForN) {nowI now_rowsF now_talksF : Nat → Int32} (hn : cNow H m ro ta nowI now_rowsF now_talksF) {course_valuesF course_stackF : Nat → Int32} : ∃ v s, fX11_stride N homeI nowI course_valuesF home_goesF course_stackF home_goesN = some (qa_stride H m, v, s) := by
  obtain ⟨b0, b1, b2, b3⟩ := hs.b
  unfold fX11_stride qa_stride fX11_hasHouse
  rw [hc.1]
  by_cases g : 0 < H.1 0
  · obtain ⟨hH, hm⟩ := hs.y g
    have hm4 := hm.2.2.2.2
    have hm2 := hm.2.2.1
    have hmi := hs.mi
    obtain ⟨v', s', e1⟩ := c_pace N hN hH (vals := course_valuesF) (stk := course_stackF) (moI := nowI) (ng := m 0) (mi := m 1) (ro := m 2) (hu := m 4) hc.2.2.2.2.2.1 (hn.1 0 (by omega)) (hn.1 1 (by omega)) (hn.1 2 (by omega)) (by omega) (by omega) (by omega) (by omega)
    rw [if_neg (nI_nle g (by omega)), xs_bd, if_neg (by decide), hn.1 4 (by omega), e1, xs_bd, if_pos g]
    exact ⟨_, _, rfl⟩
  · have : H.1 0 = 0 := by omega
    rw [if_neg g, this, if_pos (by decide), xs_bd, if_pos (by rfl)]; exact ⟨_, _, rfl⟩
theorem m_strideQ (N : Nat) (hN : 5000 ≤ N) {H : PH} {m ro ta : Nat → Nat} (hs : hS H m) {b k : Nat} {mmI hf ask : Nat → Int32} {stk : Nat → Int64} {X Y : Nat → Nat → Int32} (hY : mHY H b mmI Y) (hfl : mFl mmI (H.1 0)) (hL : mLay H 0 m ro ta k X) : ∃ a s, fX12_stride N mmI (X 4) (Y 0) (X 0) ask (X 1) (X 2) (Y 1) stk (Y 2) (Y 3) = some (qa_stride H m, a, s) := by
  obtain ⟨b0, b1, b2, b3⟩ := hs.b
  unfold fX12_stride qa_stride
  rw [hfl]
  by_cases g : 0 < H.1 0
  · obtain ⟨hH, hm⟩ := hs.y g
    have hm4 := hm.2.2.2.2
    have hm2 := hm.2.2.1
    have hmi := hs.mi
    obtain ⟨a', s', e1⟩ := m_stride N hN hH (ask := ask) (stk := stk) (ngF := X 0) (miF := X 1) (roF := X 2) (ng := m 0) (mi := m 1) (ro := m 2) (hu := m 4) hY (show 0 < 22 by omega) hL.1 hL.2.1 hL.2.2.1 (by omega) (by omega) (by omega) (by omega)
    rw [if_pos g, if_neg (by decide), if_pos g]
    show ∃ a s, xq_bd (xq_ald 22 (X 4) (nI 0)) _ = _
    rw [xs_ald (by omega) (by omega), xs_bd, hL.2.2.2.2.1]
    show ∃ a s, xq_bd (fX12_strideOf N mmI (Y 0) (X 0) ask (X 1) (X 2) (Y 1) stk (Y 2) (Y 3) (nI 0) (nI (m 4))) _ = _
    rw [e1, xs_bd]
    exact ⟨_, _, rfl⟩
  · rw [if_neg g, if_pos (by rfl), if_neg g]; exact ⟨_, _, rfl⟩
/-- a seed that can be -/
theorem p_nn (x : Int32) : (0 ≤ x) ↔ ∃ n : Nat, n < 2147483648 ∧ x = nI n := by
  have e0 : (0 : Int32).toInt = 0 := rfl
  have hr := fb_rng x
  constructor
  · intro h
    rw [fa_le, e0] at h
    refine ⟨x.toInt.toNat, by omega, ?_⟩
    rw [fa_eq, nI_toInt (by omega)]; omega
  · rintro ⟨n, hn, rfl⟩
    rw [fa_le, e0, nI_toInt (by omega)]; omega
theorem c_seed_no (N : Nat) {dvI dv_refusedF : Nat → Int32} {x : Int32} (h : ¬ 0 ≤ x) : fX11_seed N dvI dv_refusedF x = some (0, dvI, upd dv_refusedF 5 (dv_refusedF 5 + 1)) := by
  unfold fX11_seed
  rw [if_neg h]
  show xq_bd (fX11_refuse N dv_refusedF (nI 5)) _ = _
  rw [c_refuse N (by omega), xs_bd]; rfl
theorem c_seed_yes (N : Nat) {dvI dv_refusedF : Nat → Int32} {x : Int32} (h : 0 ≤ x) : fX11_seed N dvI dv_refusedF x = some (1, va_up dvI 12 x, dv_refusedF) := by
  unfold fX11_seed
  rw [if_pos h]
theorem m_seed_no (N : Nat) {mmJ : Nat → Int64} {mm_refusedF : Nat → Int32} {x : Int32} (h : ¬ 0 ≤ x) : fX12_seed N mmJ mm_refusedF x = some (0, mmJ, upd mm_refusedF 5 (mm_refusedF 5 + 1)) := by
  unfold fX12_seed
  rw [if_neg h]
  show xq_bd (fX12_refuses N mm_refusedF (nI 5)) _ = _
  rw [m_refuses N (by omega), xs_bd]; rfl
theorem m_seed_yes (N : Nat) {mmJ : Nat → Int64} {mm_refusedF : Nat → Int32} {x : Int32} (h : 0 ≤ x) : fX12_seed N mmJ mm_refusedF x = some (1, va_up mmJ 56 x.toInt64, mm_refusedF) := by
  unfold fX12_seed
  rw [if_pos h]
def qa_status (rf : Nat → Int32) (x : Int32) : Int32 := if p_one_of 6 x = false then -1 else rf x.toNatClampNeg
theorem c_status (N : Nat) {rf dv_refusedF : Nat → Int32} (h : pR rf dv_refusedF) (x : Int32) : fX11_status N dv_refusedF x = some (qa_status rf x) := by
  unfold fX11_status qa_status
  have e0 : (0 : Int32).toInt = 0 := rfl
  have e6 : (6 : Int32).toInt = 6 := rfl
  cases hx : p_one_of 6 x with
  | false =>
    have g := of_decide_eq_false hx
    rw [if_pos rfl]
    by_cases c : x < 0
    · rw [if_pos c]
    · rw [if_neg c, if_neg (by rw [fa_lt, e6]; rw [fa_lt, e0] at c; omega)]
  | true =>
    obtain ⟨e, rfl, he⟩ := p_one_yes hx
    rw [if_neg (show ¬ true = false by decide), if_neg (nI_pos (by omega)), if_pos (show nI e < (6 : Int32) from (nI_ltI (b := 6) (by omega) (by omega)).mpr he), xs_ald he (by omega), xs_bd, h e he, nI_clamp (by omega)]
theorem m_status (N : Nat) {rf mm_refusedF : Nat → Int32} (h : pR rf mm_refusedF) (x : Int32) : fX12_status N mm_refusedF x = some (qa_status rf x) := by
  unfold fX12_status qa_status
  show xq_bd (fX12_is N x (nI 0) (nI 5)) _ = _
  rw [m_is N (by omega) (by omega), xs_bd]
  cases hx : p_one_of 6 x with
  | false =>
    have g := of_decide_eq_false hx
    rw [if_pos rfl, decide_eq_false (by omega), if_pos (by rfl)]
  | true =>
    obtain ⟨e, rfl, he⟩ := p_one_yes hx
    rw [if_neg (show ¬ true = false by decide), decide_eq_true (by rw [nI_toInt (by omega)]; omega), if_neg (by decide), xs_ald he (by omega), xs_bd, h e he, nI_clamp (by omega)]
def qa_kept (c : Nat) (KR : Nat → Nat → Nat) (x y : Int32) : Int32 := if p_one_of (min 40 c) x = false then -1 else if y = 0 then nI (KR (c - min 40 c + x.toNatClampNeg) 0) else if y = 1 then nI (KR (c - min 40 c + x.toNatClampNeg) 1) else if y = 2 then nI (KR (c - min 40 c + x.toNatClampNeg) 2) else -1
theorem c_kept (N : Nat) {c : Nat} {KR : Nat → Nat → Nat} {nowI past_keptRowsF : Nat → Int32} (h5 : nowI 5 = nI c) (hc : c ≤ 999) (hK : cKR c KR past_keptRowsF) (hO : pKR_ok c KR) (x y : Int32) : fX11_kept N nowI past_keptRowsF x y = some (qa_kept c KR x y) := by
  unfold fX11_kept qa_kept
  have e0 : (0 : Int32).toInt = 0 := rfl
  have em : xq_min 40 (nowI 5) = nI (min 40 c) := by
    rw [h5]; exact xs_min (a := 40) (by omega) (by omega)
  rw [em]
  cases hx : p_one_of (min 40 c) x with
  | false =>
    have g := of_decide_eq_false hx
    rw [if_pos rfl]
    by_cases d : x < 0
    · rw [if_pos d]
    · rw [if_neg d, if_neg (by rw [fa_lt, nI_toInt (by omega)]; rw [fa_lt, e0] at d; omega)]
  | true =>
    obtain ⟨e, rfl, he⟩ := p_one_yes hx
    have hl : c - min 40 c + e < c := by omega
    obtain ⟨o0, o1, o2⟩ := hO _ hl
    rw [if_neg (show ¬ true = false by decide), if_neg (nI_pos (by omega)), if_pos ((nI_ltI (by omega) (by omega)).mpr he), h5, pk_sub (by omega), nI_add, nI_clamp (by omega)]
    unfold fX7_keptRow
    rw [if_neg (nI_pos (by omega)), if_pos (show nI _ < (999 : Int32) from (nI_ltI (b := 999) (by omega) (by omega)).mpr (by omega)), xs_ald (by omega) (by omega), xs_bd, xs_bd, hK _ hl]
    generalize KR (c - min 40 c + e) 0 = A at o0 ⊢
    generalize KR (c - min 40 c + e) 1 = B at o1 ⊢
    generalize KR (c - min 40 c + e) 2 = C at o2 ⊢
    have s15 : nI (32768 * A + 128 * B + C) >>> ((15 : Int32) &&& 31) = nI A := by
      rw [pk_shrN (by omega) _ 15 (by decide)]; exact nI_c (by omega)
    have s7 : (nI (32768 * A + 128 * B + C) >>> ((7 : Int32) &&& 31)) &&& 255 = nI B := by
      rw [pk_shrN (by omega) _ 7 (by decide), pk_andN (by omega) 8 (by decide)]; exact nI_c (by omega)
    have s0 : nI (32768 * A + 128 * B + C) &&& 127 = nI C := by
      rw [pk_andN (by omega) 7 (by decide)]; exact nI_c (by omega)
    rw [s15, s7, s0]
    by_cases c0 : y = 0
    · rw [if_pos c0, if_pos c0]
    rw [if_neg c0, if_neg c0]
    by_cases c1 : y = 1
    · rw [if_pos c1, if_pos c1]
    rw [if_neg c1, if_neg c1]
    by_cases c2 : y = 2
    · rw [if_pos c2, if_pos c2]
    rw [if_neg c2, if_neg c2]
theorem m_kept (N : Nat) {c : Nat} {KR : Nat → Nat → Nat} {X : Nat → Nat → Int32} (h6 : X 6 0 = nI (min 40 c)) (hK : mKp 0 c KR X) (x y : Int32) : fX12_kept N (X 6) (X 8) x y = some (qa_kept c KR x y) := by
  unfold fX12_kept qa_kept
  have e1 : (nI (min 40 c) - 1).toInt = (min 40 c : Int) - 1 := by
    have := pk_sub_toInt (a := min 40 c) (b := 1) (by omega) (by omega)
    rw [show nI (min 40 c) - 1 = nI (min 40 c) - nI 1 from rfl, this]; omega
  show xq_bd (xq_ald 22 (X 6) (nI 0)) _ = _
  rw [xs_ald (by omega) (by omega), xs_bd, h6]
  have hi : fX12_is N x 0 (nI (min 40 c) - 1) = some (p_b (p_one_of (min 40 c) x)) := by
    unfold fX12_is p_one_of
    have e0 : (0 : Int32).toInt = 0 := rfl
    by_cases d1 : 0 ≤ x.toInt
    · rw [if_neg (by rw [fa_lt, e0]; omega)]
      by_cases d2 : x.toInt < min 40 c
      · rw [if_neg (by rw [fa_lt, e1]; omega), decide_eq_true ⟨d1, by omega⟩]; rfl
      · rw [if_pos (by rw [fa_lt, e1]; omega), decide_eq_false (fun z => d2 (by omega))]; rfl
    · rw [if_pos (by rw [fa_lt, e0]; omega), decide_eq_false (fun z => d1 z.1)]; rfl
  rw [hi, xs_bd]
  cases hx : p_one_of (min 40 c) x with
  | false => rw [if_pos (by rfl), if_pos rfl]
  | true =>
    obtain ⟨e, rfl, he⟩ := p_one_yes hx
    rw [if_neg (show ¬ p_b true = 0 by decide), if_neg (show ¬ true = false by decide), nI_clamp (by omega)]
    have hi2 := m_is N (lo := 0) (hi := 2) (by omega) (by omega) y
    show xq_bd (fX12_is N y (nI 0) (nI 2)) _ = _
    rw [hi2, xs_bd]
    have get : ∀ f, f < 3 → y = nI f → xq_bd (xq_ald 2640 (X 8) ((3 * nI e) + y)) (fun v_6 => some v_6) = some (nI (KR (c - min 40 c + e) f)) := by
      rintro f hf rfl
      have e3 : (3 : Int32) * nI e + nI f = nI (120 * 0 + (3 * e + f)) := by
        show nI 3 * nI e + nI f = _
        rw [pk_mul, nI_add]; exact nI_c (by omega)
      rw [e3, xs_ald (by omega) (by omega), xs_bd, hK e f he hf]
    by_cases c0 : y = 0
    · rw [if_pos c0, decide_eq_true (by rw [c0]; decide), if_neg (by decide)]; exact get 0 (by omega) c0
    rw [if_neg c0]
    by_cases c1 : y = 1
    · rw [if_pos c1, decide_eq_true (by rw [c1]; decide), if_neg (by decide)]; exact get 1 (by omega) c1
    rw [if_neg c1]
    by_cases c2 : y = 2
    · rw [if_pos c2, decide_eq_true (by rw [c2]; decide), if_neg (by decide)]; exact get 2 (by omega) c2
    rw [if_neg c2]
    have z0 : (0 : Int32).toInt = 0 := rfl
    have z1 : (1 : Int32).toInt = 1 := rfl
    have z2 : (2 : Int32).toInt = 2 := rfl
    rw [fa_eq, z0] at c0
    rw [fa_eq, z1] at c1
    rw [fa_eq, z2] at c2
    rw [decide_eq_false (by omega), if_pos (by rfl)]
