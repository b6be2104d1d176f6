/-! a NIGHT in the reference: the EARS, what is KEPT, the whole -/
section MT
variable (N : Nat) (hN : 5000 ≤ N) {H : PH} (hH : ph_ok H) {b v : Nat} {mmI sf sb cs cv mt me mp pa sh taF rowF : Nat → Int32} (hc : mH H b mmI sf sb cs cv mt me mp pa sh) (hv : v < 22)
theorem m_ears (hN : 5000 ≤ N) (hH : ph_ok H) (hc : mH H b mmI sf sb cs cv mt me mp pa sh) (hv : v < 22) {m ro : Nat → Nat} {hu : Nat} {ngF miF roF tkF hfF kmF krF ask : Nat → Int32} {stk : Nat → Int64} (h0 : ngF v = nI (m 0)) (h1 : miF v = nI (m 1)) (hk : p_mok H m) (hr : ∀ e, e < H.1 1 → rowF (7 * v + e) = nI (ro e) ∧ ro e ≤ 9) (hh : hu ≤ 1000) (p3 : Int32) :
    ∃ a' s', xq_loop (fX12_ticks_l34 N mmI sf sb cs cv mt mp pa taF me sh rowF) N (tkF, ngF, ask, miF, roF, stk, hfF, kmF, krF, nI v, nI hu, p3, 0, 0) = (if p3 = 0 then fX12_ticks_b100 N mmI sf sb cs cv mt mp pa taF me sh rowF (tkF, ngF, a', miF, roF, s', hfF, kmF, krF, nI v, nI (p_set H m ro hu)) else (xq_bd (fX12_counts N mmI me hfF sf ngF a' sh miF mt sb s' cs cv (nI v) (nI hu)) fun (r_6_0, r_6_1, r_6_2) => fX12_ticks_b100 N mmI sf sb cs cv mt mp pa taF me sh rowF (tkF, ngF, r_6_1, miF, roF, r_6_2, r_6_0, kmF, krF, nI v, nI (p_set H m ro hu)))) := by
  obtain ⟨hb, h13, hmt, hme, hmp, hpa, hsh, hG, hHr, hT⟩ := hc
  have hc : mH H b mmI sf sb cs cv mt me mp pa sh := ⟨hb, h13, hmt, hme, hmp, hpa, hsh, hG, hHr, hT⟩
  have g7 := hH.2.2.1
  obtain ⟨m0, m1, m2, m3, m4⟩ := hk
  refine xs_loopI (body := fX12_ticks_l34 N mmI sf sb cs cv mt mp pa taF me sh rowF) (fun n st => ∃ a s e, st = (tkF, ngF, a, miF, roF, s, hfF, kmF, krF, nI v, nI hu, p3, nI (p_bits H (m 0) hu (m 1) ro e), nI e) ∧ e + n = H.1 1) (fun r => ∃ a' s', r = (if p3 = 0 then fX12_ticks_b100 N mmI sf sb cs cv mt mp pa taF me sh rowF (tkF, ngF, a', miF, roF, s', hfF, kmF, krF, nI v, nI (p_set H m ro hu)) else (xq_bd (fX12_counts N mmI me hfF sf ngF a' sh miF mt sb s' cs cv (nI v) (nI hu)) fun (r_6_0, r_6_1, r_6_2) => fX12_ticks_b100 N mmI sf sb cs cv mt mp pa taF me sh rowF (tkF, ngF, r_6_1, miF, roF, r_6_2, r_6_0, kmF, krF, nI v, nI (p_set H m ro hu))))) ?_ N (H.1 1) _ ⟨ask, stk, 0, rfl, by omega⟩ (by omega)
  rintro n st kk ⟨a, s, e, rfl, hn⟩ hgo
  show ∃ a' s', xq_bd (xq_ald 2 me (mmI 13)) (fun v_5 => if v_5 ≤ nI e then _ else xq_bd (xq_ald 154 rowF ((7 * nI v) + nI e)) _) = _
  rw [h13, xs_ald hb (by omega), xs_bd, hme]
  by_cases c : H.1 1 ≤ e
  · have : e = H.1 1 := by omega
    subst this
    rw [if_pos (nI_le (Nat.le_refl _) (by omega))]
    exact ⟨a, s, rfl⟩
  · have hlt : e < H.1 1 := by omega
    rw [if_neg (nI_ge hlt (by omega)), mx7, xs_ald (by omega) (by omega), xs_bd, (hr e hlt).1]
    obtain ⟨a2, s2, e2⟩ := m_hears N hN hH (ask := a) (stk := s) (hu := hu) (row := ro e) hc hv h0 h1 hlt (by omega) (by omega) (by have := (hr e hlt).2; omega) hh
    rw [e2, xs_bd]
    have hb2 := p_bits_lt H (m 0) hu (m 1) ro e
    show ∃ a' s', (if p_b (p_hear H (m 0) hu (H.2.1 1 e) (ro e) (p_far H (m 1))) = 0 then kk (tkF, ngF, a2, miF, roF, s2, hfF, kmF, krF, nI v, nI hu, p3, _ ||| 0, nI e + 1) else kk (tkF, ngF, a2, miF, roF, s2, hfF, kmF, krF, nI v, nI hu, p3, _ ||| (1 <<< (nI e &&& 31)), nI e + 1)) = _
    cases hq : p_hear H (m 0) hu (H.2.1 1 e) (ro e) (p_far H (m 1)) with
    | false =>
      rw [if_pos (by rfl)]
      refine hgo _ (n - 1) (by omega) ⟨a2, s2, e + 1, ?_, by omega⟩
      rw [nI_1]
      have e3 : ∀ x : Int32, x ||| 0 = x := fun x => Int32.or_zero
      rw [e3]
      show _ = (tkF, ngF, a2, miF, roF, s2, hfF, kmF, krF, nI v, nI hu, p3, nI (p_bits H (m 0) hu (m 1) ro e + if _ = true then 2 ^ e else 0), nI (e + 1))
      rw [hq, if_neg (by decide)]
      rfl
    | true =>
      rw [if_neg (by decide)]
      refine hgo _ (n - 1) (by omega) ⟨a2, s2, e + 1, ?_, by omega⟩
      rw [nI_1, xs_orbit hb2 (by omega)]
      show _ = (tkF, ngF, a2, miF, roF, s2, hfF, kmF, krF, nI v, nI hu, p3, nI (p_bits H (m 0) hu (m 1) ro e + if _ = true then 2 ^ e else 0), nI (e + 1))
      rw [hq, if_pos rfl]
/-- what a NIGHT writes down -/
def m_wrote (v k ng mi st : Nat) (krF kr' : Nat → Int32) : Prop := (st = 0 → kr' = krF) ∧ (0 < st → (∀ i, i < 120 * v ∨ 120 * v + 120 ≤ i → kr' i = krF i) ∧ (∀ j c, j + 1 < min 40 (k + 1) → c < 3 → kr' (120 * v + (3 * j + c)) = krF (120 * v + (3 * (if k = 40 then j + 1 else j) + c))) ∧ kr' (120 * v + (3 * (min 40 (k + 1) - 1) + 0)) = nI ng ∧ kr' (120 * v + (3 * (min 40 (k + 1) - 1) + 1)) = nI mi ∧ kr' (120 * v + (3 * (min 40 (k + 1) - 1) + 2)) = nI st)
def m_many (k st : Nat) : Nat := if st = 0 then k else min 40 (k + 1)
theorem m_b100 (hN : 5000 ≤ N) (hv : v < 22) {ng mi st k : Nat} {ngF miF roF tkF hfF kmF krF ask : Nat → Int32} {stk : Nat → Int64} (h0 : ngF v = nI ng) (h1 : miF v = nI mi) (hk : kmF v = nI k) (hk4 : k ≤ 40) (hst : st < 1000) :
    ∃ kr', fX12_ticks_b100 N mmI sf sb cs cv mt mp pa taF me sh rowF (tkF, ngF, ask, miF, roF, stk, hfF, kmF, krF, nI v, nI st) = some (nI st, tkF, upd ngF v (nI (ng + 1)), ask, miF, roF, stk, hfF, upd kmF v (nI (m_many k st)), kr') ∧ m_wrote v k ng mi st krF kr' := by
  have hl : ∀ km kr, fX12_ticks_b112 N mmI sf sb cs cv mt mp pa taF me sh rowF (tkF, ngF, ask, miF, roF, stk, hfF, km, kr, nI v, nI st) = some (nI st, tkF, upd ngF v (nI (ng + 1)), ask, miF, roF, stk, hfF, km, kr) := fun km kr => by
    show xq_bd (xq_ald 22 ngF (nI v)) _ = _
    rw [xs_ald hv (by omega), xs_bd, h0, nI_1, xs_ast hv (by omega), xs_bd]
  show ∃ kr', (if nI st = 0 then _ else _) = _ ∧ _
  by_cases c : st = 0
  · subst c
    rw [if_pos (show nI 0 = (0 : Int32) from rfl), hl]
    refine ⟨krF, ?_, fun _ => rfl, fun h => absurd h (Nat.lt_irrefl _)⟩
    show _ = some (_, _, _, _, _, _, _, _, upd kmF v (nI (if 0 = 0 then k else _)), _)
    rw [if_pos rfl, fa_upd_same hk]
  · rw [if_neg (nI_ne0 (by omega) (by omega))]
    obtain ⟨kr', e1, e2⟩ := m_writes N hN (st := st) (krF := krF) hv hk4 hk h0 h1
    rw [e1, xs_bd]
    refine ⟨kr', ?_, fun h => absurd h c, fun _ => e2⟩
    unfold m_many
    rw [if_neg c]
    exact hl _ _
/-- up to the EARS -/
theorem m_first (hN : 5000 ≤ N) (hH : ph_ok H) (hc : mH H b mmI sf sb cs cv mt me mp pa sh) (hv : v < 22) {m ta : Nat → Nat} {hu : Nat} {ngF miF roF tkF hfF kmF krF ask : Nat → Int32} {stk : Nat → Int64} (h0 : ngF v = nI (m 0)) (h1 : miF v = nI (m 1)) (h2 : roF v = nI (m 2)) (h3 : tkF v = nI (m 3)) (hk : p_mok H m) (hta : ∀ k, k < H.1 2 → taF (6 * v + k) = nI (ta k) ∧ ta k ≤ 9) (hh : hu ≤ 1000) (p3 : Int32) :
    ∃ a' s', fX12_ticks N mmI tkF sf ngF ask miF roF sb stk cs cv mt mp pa taF me hfF sh rowF kmF krF (nI v) (nI hu) p3 = xq_loop (fX12_ticks_l34 N mmI sf sb cs cv mt mp pa taF me sh rowF) N (upd tkF v (nI (p_move H m ta hu 3)), ngF, a', upd miF v (nI (p_move H m ta hu 1)), upd roF v (nI (p_move H m ta hu 2)), s', hfF, kmF, krF, nI v, nI hu, p3, 0, 0) := by
  obtain ⟨m0, m1, m2, m3, m4⟩ := hk
  have g200 := hH.2.1
  unfold fX12_ticks
  rw [xs_ald hv (by omega), xs_bd, h3]
  by_cases q : 0 < m 3
  · have e : nI (m 3) - 1 = nI (m 3 - 1) := by show nI (m 3) - nI 1 = _; rw [pk_sub (by omega)]
    have em : p_move H m ta hu = va_up m 3 (m 3 - 1) := by unfold p_move; rw [if_pos q]
    rw [if_neg (nI_nle q (by omega)), xs_bd, e, xs_ast hv (by omega), xs_bd, em]
    refine ⟨ask, stk, ?_⟩
    have k1 : upd miF v (nI (va_up m 3 (m 3 - 1) 1)) = miF := fa_upd_same h1
    have k2 : upd roF v (nI (va_up m 3 (m 3 - 1) 2)) = roF := fa_upd_same h2
    rw [k1, k2, va_up_self]
    rfl
  · have q0 : m 3 = 0 := by omega
    have em : p_move H m ta hu = va_up (va_up (va_up m 1 (p_walk H (p_pace H (m 0) hu (m 1) (m 2)) (m 1) (m 2)).1) 2 (p_walk H (p_pace H (m 0) hu (m 1) (m 2)) (m 1) (m 2)).2.1) 3 (if (p_walk H (p_pace H (m 0) hu (m 1) (m 2)) (m 1) (m 2)).2.2 < H.1 2 then p_talk H (m 0) hu (ta (p_walk H (p_pace H (m 0) hu (m 1) (m 2)) (m 1) (m 2)).2.2) else m 3) := by unfold p_move; rw [if_neg q]
    rw [if_pos (by rw [q0]; exact nI_le (a := 0) (b := 0) (Nat.le_refl _) (by omega)), em]
    unfold fX12_walks
    obtain ⟨a1, s1, e1⟩ := m_stride N hN hH (ask := ask) (stk := stk) (hu := hu) hc hv h0 h1 h2 (by omega) (by omega) (by omega) hh
    rw [e1, xs_bd]
    obtain ⟨a2, s2, e2⟩ := m_walks N hN hH hc hv (taF := taF) h0 hta (show m 0 ≤ 1000 by omega) hh tkF (p_pace H (m 0) hu (m 1) (m 2)) (m 1) (m 2) a1 miF roF s1 m1 m2 (p_cut_le 99 _) h1 h2 N (by have := p_cut_le 99 (p_one (H.2.2 0) (p_envG (m 0) hu (m 1) (m 2))); unfold p_pace; omega)
    show ∃ a' s', xq_bd (xq_loop (fX12_walks_l7 N mmI sf ngF sb cs cv mt mp pa taF) N (a1, miF, roF, s1, tkF, nI v, nI hu, nI (p_pace H (m 0) hu (m 1) (m 2)))) _ = _
    rw [e2, xs_bd]
    generalize p_walk H (p_pace H (m 0) hu (m 1) (m 2)) (m 1) (m 2) = w
    refine ⟨a2, s2, ?_⟩
    have k3 : (if w.2.2 < H.1 2 then upd tkF v (nI (p_talk H (m 0) hu (ta w.2.2))) else tkF) = upd tkF v (nI (if w.2.2 < H.1 2 then p_talk H (m 0) hu (ta w.2.2) else m 3)) := by
      split
      · rfl
      · rw [fa_upd_same h3]
    rw [k3]
    rfl
theorem m_tick (hN : 5000 ≤ N) (hH : ph_ok H) (hc : mH H b mmI sf sb cs cv mt me mp pa sh) (hv : v < 22) {m ro ta : Nat → Nat} {hu k : Nat} {ngF miF roF tkF hfF kmF krF ask : Nat → Int32} {stk : Nat → Int64} (h0 : ngF v = nI (m 0)) (h1 : miF v = nI (m 1)) (h2 : roF v = nI (m 2)) (h3 : tkF v = nI (m 3)) (hk : p_mok H m) (hr : ∀ e, e < H.1 1 → rowF (7 * v + e) = nI (ro e) ∧ ro e ≤ 9) (hta : ∀ k, k < H.1 2 → taF (6 * v + k) = nI (ta k) ∧ ta k ≤ 9) (hh : hu ≤ 1000) (hkm : kmF v = nI k) (hk4 : k ≤ 40) :
    ∃ a' s' kr', fX12_ticks N mmI tkF sf ngF ask miF roF sb stk cs cv mt mp pa taF me hfF sh rowF kmF krF (nI v) (nI hu) 0 = some (nI (p_set H (p_move H m ta hu) ro hu), upd tkF v (nI (p_move H m ta hu 3)), upd ngF v (nI (m 0 + 1)), a', upd miF v (nI (p_move H m ta hu 1)), upd roF v (nI (p_move H m ta hu 2)), s', hfF, upd kmF v (nI (m_many k (p_set H (p_move H m ta hu) ro hu))), kr') ∧ m_wrote v k (m 0) (p_move H m ta hu 1) (p_set H (p_move H m ta hu) ro hu) krF kr' := by
  obtain ⟨a1, s1, e1⟩ := m_first N hN hH hc hv (taF := taF) (rowF := rowF) (hfF := hfF) (kmF := kmF) (krF := krF) (ask := ask) (stk := stk) h0 h1 h2 h3 hk hta hh 0
  obtain ⟨k1, k2, k3, k4⟩ := p_move_ok (ta := ta) (hu := hu) hH hk
  obtain ⟨a2, s2, e2⟩ := m_ears N hN hH hc hv (taF := taF) (rowF := rowF) (m := p_move H m ta hu) (ro := ro) (hu := hu) (ngF := ngF) (miF := upd miF v (nI (p_move H m ta hu 1))) (roF := upd roF v (nI (p_move H m ta hu 2))) (tkF := upd tkF v (nI (p_move H m ta hu 3))) (hfF := hfF) (kmF := kmF) (krF := krF) (ask := a1) (stk := s1) (by rw [k2]; exact h0) pk_us k1 hr hh 0
  rw [if_pos rfl] at e2
  obtain ⟨kr', e3, e4⟩ := m_b100 N (v := v) (ng := m 0) (mi := p_move H m ta hu 1) (st := p_set H (p_move H m ta hu) ro hu) (k := k) (mmI := mmI) (sf := sf) (sb := sb) (cs := cs) (cv := cv) (mt := mt) (mp := mp) (pa := pa) (taF := taF) (me := me) (sh := sh) (rowF := rowF) (ngF := ngF) (miF := upd miF v (nI (p_move H m ta hu 1))) (roF := upd roF v (nI (p_move H m ta hu 2))) (tkF := upd tkF v (nI (p_move H m ta hu 3))) (hfF := hfF) (kmF := kmF) (krF := krF) (ask := a2) (stk := s2) hN hv h0 pk_us hkm hk4 (by have := p_set_lt hH.2.2.1 (p_move H m ta hu) ro hu; omega)
  exact ⟨a2, s2, kr', (e1.trans e2).trans e3, e4⟩
end MT
