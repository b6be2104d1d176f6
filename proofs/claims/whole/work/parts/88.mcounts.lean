/-! seats in the reference: the counts -/
theorem m_counts (N : Nat) (hN : 5000 ≤ N) {H : PH} (hH : ph_ok H) {b v hu : Nat} {mmI hf ask : Nat → Int32} {stk : Nat → Int64} {X Y : Nat → Nat → Int32} {m g : Nat → Nat} (hY : mHY H b mmI Y) (hv : v < 22) (h0 : X 0 v = nI (m 0)) (h1 : X 1 v = nI (m 1)) (b0 : m 0 ≤ 1000) (b1 : m 1 ≤ H.1 0) (hh : hu ≤ 1000) (hg : ∀ i, i < 70 → hf i = nI (g i) ∧ g i ≤ 1000) : ∃ hf' a s, fX12_counts N mmI (Y 5) hf (Y 0) (X 0) ask (Y 8) (X 1) (Y 4) (Y 1) stk (Y 2) (Y 3) (nI v) (nI hu) = some (hf', a, s) ∧ ∀ i, i < 70 → hf' i = nI (g i + p_inc H m hu i) := by
  have g7 := hH.2.2.1
  refine xs_loopI (body := fX12_counts_l2 N mmI (Y 5) (Y 0) (X 0) (Y 8) (X 1) (Y 4) (Y 1) (Y 2) (Y 3)) (fun k st => ∃ a s g1 e, st = (g1, a, s, nI v, nI hu, nI e) ∧ e + k = H.1 1 ∧ ∀ i, i < 70 → g1 i = nI (if i < 10 * e then g i + p_inc H m hu i else g i)) (fun q => ∃ hf' a s, q = some (hf', a, s) ∧ ∀ i, i < 70 → hf' i = nI (g i + p_inc H m hu i)) ?_ N (H.1 1) _ ⟨ask, stk, hf, 0, rfl, by omega, fun i hi => by rw [if_neg (by omega)]; exact (hg i hi).1⟩ (by omega)
  rintro k st kk ⟨a, s, g1, e, rfl, he, h2⟩ hgo
  show ∃ hf' a' s', xq_bd (xq_ald 2 (Y 5) (mmI 13)) (fun v_5 => if v_5 ≤ nI e then _ else _) = _ ∧ _
  rw [hY.2.1, xs_ald hY.1 (by omega), xs_bd, hY.2.2.2.1]
  by_cases c : H.1 1 ≤ e
  · rw [if_pos (nI_le c (by omega))]
    refine ⟨g1, a, s, rfl, fun i hi => ?_⟩
    rw [h2 i hi]
    by_cases d : i < 10 * e
    · rw [if_pos d]
    · rw [if_neg d]
      have : p_inc H m hu i = 0 := by unfold p_inc; rw [if_neg (by omega)]
      rw [this]; rfl
  · rw [if_neg (nI_ge (by omega) (by omega))]
    refine xs_loopI (body := fX12_counts_l18 N mmI (Y 5) (Y 0) (X 0) (Y 8) (X 1) (Y 4) (Y 1) (Y 2) (Y 3) kk) (fun k2 st => ∃ a s g2 r, st = (g2, a, s, nI v, nI hu, nI e, nI r) ∧ r + k2 = 10 ∧ ∀ i, i < 70 → g2 i = nI (if i < 10 * e + r then g i + p_inc H m hu i else g i)) (fun q => ∃ hf' a s, q = some (hf', a, s) ∧ ∀ i, i < 70 → hf' i = nI (g i + p_inc H m hu i)) ?_ N 10 _ ⟨a, s, g1, 0, rfl, by omega, h2⟩ (by omega)
    rintro k2 st kk2 ⟨a2, s2, g2, r, rfl, hr, h3⟩ hgo2
    show ∃ hf' a' s', (if (10 : Int32) ≤ nI r then _ else _) = _ ∧ _
    by_cases d : r < 10
    · have hcur := h3 (10 * e + r) (by omega)
      rw [if_neg (Nat.lt_irrefl _)] at hcur
      rw [if_neg (show ¬ (10 : Int32) ≤ nI r from nI_ge (b := 10) d (by omega)), mx10, xs_ald (show 10 * e + r < 70 by omega) (by omega), xs_bd, hcur]
      obtain ⟨a3, s3, e3⟩ := m_hears N hN hH (ask := a2) (stk := s2) (hu := hu) (row := r) hY hv h0 h1 (show e < H.1 1 by omega) b0 b1 (by omega) hh
      rw [e3, xs_bd]
      dsimp only
      have hi := p_inc_at (H := H) (m := m) (hu := hu) (e := e) (r := r) (by omega) d
      have step : ∀ (g3 : Nat → Int32), g3 (10 * e + r) = nI (g (10 * e + r) + p_inc H m hu (10 * e + r)) → (∀ i, i ≠ 10 * e + r → g3 i = g2 i) → ∀ i, i < 70 → g3 i = nI (if i < 10 * e + (r + 1) then g i + p_inc H m hu i else g i) := by
        intro g3 q1 q2 i hi
        by_cases z : i = 10 * e + r
        · subst z; rw [q1, if_pos (by omega)]
        · rw [q2 i z, h3 i hi]
          by_cases w : i < 10 * e + r
          · rw [if_pos w, if_pos (by omega)]
          · rw [if_neg w, if_neg (by omega)]
      cases hq : p_hear H (m 0) hu (H.2.1 1 e) r (p_far H (m 1)) with
      | false =>
        rw [if_pos (by rfl)]
        dsimp only [fX12_counts_b55]
        show ∃ hf' a' s', xq_bd (xq_ast 70 g2 (nI (10 * e + r)) (nI (g (10 * e + r)) + nI 0)) _ = _ ∧ _
        rw [nI_add, xs_ast (show 10 * e + r < 70 by omega) (by omega), xs_bd, nI_1]
        refine hgo2 _ (k2 - 1) (by omega) ⟨a3, s3, _, r + 1, rfl, by omega, step _ ?_ (fun i hi => pk_un hi)⟩
        rw [pk_us, hi, hq]; rfl
      | true =>
        rw [if_neg (by decide)]
        dsimp only [fX12_counts_b55]
        show ∃ hf' a' s', xq_bd (xq_ast 70 g2 (nI (10 * e + r)) (nI (g (10 * e + r)) + nI 1)) _ = _ ∧ _
        rw [nI_add, xs_ast (show 10 * e + r < 70 by omega) (by omega), xs_bd, nI_1]
        refine hgo2 _ (k2 - 1) (by omega) ⟨a3, s3, _, r + 1, rfl, by omega, step _ ?_ (fun i hi => pk_un hi)⟩
        rw [pk_us, hi, hq]; rfl
    · have : r = 10 := by omega
      subst this
      rw [if_pos (show (10 : Int32) ≤ nI 10 from by decide), nI_1]
      refine hgo _ (k - 1) (by omega) ⟨a2, s2, g2, e + 1, rfl, by omega, fun i hi => ?_⟩
      rw [h3 i hi, show 10 * (e + 1) = 10 * e + 10 by omega]
theorem m_tickC (N : Nat) (hN : 5000 ≤ N) {H : PH} (hH : ph_ok H) {b v k hu : Nat} {mmI hf ask : Nat → Int32} {stk : Nat → Int64} {X Y : Nat → Nat → Int32} {m ro ta g : Nat → Nat} (hY : mHY H b mmI Y) (hv : v < 22) (hL : mLay H v m ro ta k X) (hm : p_mok H m) (hh : hu ≤ 1000) (hg : ∀ i, i < 70 → hf i = nI (g i) ∧ g i ≤ 1000) :
    ∃ a' s' hf' X', fX12_ticks N mmI (X 3) (Y 0) (X 0) ask (X 1) (X 2) (Y 1) stk (Y 2) (Y 3) (Y 4) (Y 6) (Y 7) (X 7) (Y 5) hf (Y 8) (X 5) (X 6) (X 8) (nI v) (nI hu) 1 = some (nI (p_set H (p_move H m ta hu) ro hu), X' 3, X' 0, a', X' 1, X' 2, s', hf', X' 6, X' 8) ∧ X' 4 = X 4 ∧ X' 5 = X 5 ∧ X' 7 = X 7 ∧ mOth v X X' ∧ (m 0 < 999 → ∃ k', mLay H v (p_night H ta hu m) ro ta k' X') ∧ ∀ i, i < 70 → hf' i = nI (g i + p_inc H (p_move H m ta hu) hu i) := by
  obtain ⟨a0, a1, a2, a3, a4, a5, a6, a7, a8⟩ := hL
  obtain ⟨k1, k2, k3, k4⟩ := p_move_ok (ta := ta) (hu := hu) hH hm
  obtain ⟨q1, s1, e1⟩ := m_first N hN hH hY hv (taF := X 7) (rowF := X 5) (hfF := hf) (kmF := X 6) (krF := X 8) (ask := ask) (stk := stk) a0 a1 a2 a3 hm a8 hh 1
  obtain ⟨q2, s2, e2⟩ := m_ears N hN hH hY hv (taF := X 7) (rowF := X 5) (m := p_move H m ta hu) (ro := ro) (hu := hu) (ngF := X 0) (miF := upd (X 1) v (nI (p_move H m ta hu 1))) (roF := upd (X 2) v (nI (p_move H m ta hu 2))) (tkF := upd (X 3) v (nI (p_move H m ta hu 3))) (hfF := hf) (kmF := X 6) (krF := X 8) (ask := q1) (stk := s1) (by rw [k2]; exact a0) pk_us k1 a5 hh 1
  rw [if_neg (by decide)] at e2
  obtain ⟨hf', q3, s3, e3, e4⟩ := m_counts N hN hH (hf := hf) (ask := q2) (stk := s2) (X := m9 (X 0) (upd (X 1) v (nI (p_move H m ta hu 1))) (X 2) (X 3) (X 4) (X 5) (X 6) (X 7) (X 8)) (m := p_move H m ta hu) (hu := hu) hY hv (by show X 0 v = _; rw [k2]; exact a0) pk_us (by have := k1.1; omega) (by have := k1.2.1; omega) hh hg
  obtain ⟨kr', e5, e6⟩ := m_b100 N (v := v) (ng := m 0) (mi := p_move H m ta hu 1) (st := p_set H (p_move H m ta hu) ro hu) (k := k) (mmI := mmI) (sf := Y 0) (sb := Y 1) (cs := Y 2) (cv := Y 3) (mt := Y 4) (mp := Y 6) (pa := Y 7) (taF := X 7) (me := Y 5) (sh := Y 8) (rowF := X 5) (ngF := X 0) (miF := upd (X 1) v (nI (p_move H m ta hu 1))) (roF := upd (X 2) v (nI (p_move H m ta hu 2))) (tkF := upd (X 3) v (nI (p_move H m ta hu 3))) (hfF := hf') (kmF := X 6) (krF := X 8) (ask := q3) (stk := s3) hN hv a0 pk_us a6 a7 (by have := p_set_lt hH.2.2.1 (p_move H m ta hu) ro hu; omega)
  refine ⟨q3, s3, hf', m9 (upd (X 0) v (nI (m 0 + 1))) (upd (X 1) v (nI (p_move H m ta hu 1))) (upd (X 2) v (nI (p_move H m ta hu 2))) (upd (X 3) v (nI (p_move H m ta hu 3))) (X 4) (X 5) (upd (X 6) v (nI (m_many k (p_set H (p_move H m ta hu) ro hu)))) (X 7) kr', ?_, rfl, rfl, rfl, ⟨?_, fun _ _ => rfl, fun _ _ => rfl, ?_⟩, fun h9 => ⟨_, ?_, pk_us, pk_us, pk_us, ?_, a5, pk_us, ?_, a8⟩, e4⟩
  · rw [e1, e2]
    have e3' : fX12_counts N mmI (Y 5) hf (Y 0) (X 0) q2 (Y 8) (upd (X 1) v (nI (p_move H m ta hu 1))) (Y 4) (Y 1) s2 (Y 2) (Y 3) (nI v) (nI hu) = some (hf', q3, s3) := e3
    rw [e3', xs_bd]
    exact e5
  · intro j i hj hi
    have : j = 0 ∨ j = 1 ∨ j = 2 ∨ j = 3 ∨ j = 4 ∨ j = 6 := by omega
    rcases this with rfl | rfl | rfl | rfl | rfl | rfl
    · exact pk_un hi
    · exact pk_un hi
    · exact pk_un hi
    · exact pk_un hi
    · rfl
    · exact pk_un hi
  · intro i hi
    show kr' i = X 8 i
    by_cases c : p_set H (p_move H m ta hu) ro hu = 0
    · rw [e6.1 c]
    · exact (e6.2 (by omega)).1 i hi
  · show upd (X 0) v (nI (m 0 + 1)) v = nI (min 999 (m 0 + 1))
    rw [pk_us]; exact nI_c (by omega)
  · show X 4 v = nI (p_move H m ta hu 4)
    rw [k3]; exact a4
  · unfold m_many; split <;> omega
