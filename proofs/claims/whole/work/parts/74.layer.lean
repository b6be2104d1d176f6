/-! the reference's layers: X 0 nights, 1 miles, 2 rounds, 3 talking, 4 hushes, 5 rows, 6 how many are kept, 7 talks, 8 the kept rows; Y its houses: 0 sumFrom, 1 sumBehind, 2 codeSort, 3 codeValue, 4 miles, 5 ears, 6 places, 7 placeAt, 8 sharps -/
def m9 (a0 a1 a2 a3 a4 a5 a6 a7 a8 : Nat → Int32) : Nat → Nat → Int32
  | 0 => a0
  | 1 => a1
  | 2 => a2
  | 3 => a3
  | 4 => a4
  | 5 => a5
  | 6 => a6
  | 7 => a7
  | _ => a8
def mLay (H : PH) (v : Nat) (m ro ta : Nat → Nat) (k : Nat) (X : Nat → Nat → Int32) : Prop :=
  X 0 v = nI (m 0) ∧ X 1 v = nI (m 1) ∧ X 2 v = nI (m 2) ∧ X 3 v = nI (m 3) ∧ X 4 v = nI (m 4) ∧ (∀ e, e < H.1 1 → X 5 (7 * v + e) = nI (ro e) ∧ ro e ≤ 9) ∧ X 6 v = nI k ∧ k ≤ 40 ∧ (∀ p, p < H.1 2 → X 7 (6 * v + p) = nI (ta p) ∧ ta p ≤ 9)
/-- nothing but the layer v has changed -/
def mOth (v : Nat) (X X' : Nat → Nat → Int32) : Prop := (∀ j i, j ≤ 4 ∨ j = 6 → i ≠ v → X' j i = X j i) ∧ (∀ i, i < 7 * v ∨ 7 * v + 7 ≤ i → X' 5 i = X 5 i) ∧ (∀ i, i < 6 * v ∨ 6 * v + 6 ≤ i → X' 7 i = X 7 i) ∧ (∀ i, i < 120 * v ∨ 120 * v + 120 ≤ i → X' 8 i = X 8 i)
theorem mOth.refl (v : Nat) (X : Nat → Nat → Int32) : mOth v X X := ⟨fun _ _ _ _ => rfl, fun _ _ => rfl, fun _ _ => rfl, fun _ _ => rfl⟩
theorem mOth.trans {v : Nat} {X X1 X2 : Nat → Nat → Int32} (h : mOth v X X1) (g : mOth v X1 X2) : mOth v X X2 := ⟨fun j i hj hi => (g.1 j i hj hi).trans (h.1 j i hj hi), fun i hi => (g.2.1 i hi).trans (h.2.1 i hi), fun i hi => (g.2.2.1 i hi).trans (h.2.2.1 i hi), fun i hi => (g.2.2.2 i hi).trans (h.2.2.2 i hi)⟩
theorem mLay.oth {H : PH} {v u k : Nat} {m ro ta : Nat → Nat} {X X' : Nat → Nat → Int32} (h : mLay H u m ro ta k X) (g : mOth v X X') (hu : u ≠ v) (hE : H.1 1 ≤ 7) (hP : H.1 2 ≤ 6) : mLay H u m ro ta k X' := by
  obtain ⟨a0, a1, a2, a3, a4, a5, a6, a7, a8⟩ := h
  refine ⟨(g.1 0 u (by omega) hu).trans a0, (g.1 1 u (by omega) hu).trans a1, (g.1 2 u (by omega) hu).trans a2, (g.1 3 u (by omega) hu).trans a3, (g.1 4 u (by omega) hu).trans a4, fun e he => ⟨(g.2.1 _ (by omega)).trans (a5 e he).1, (a5 e he).2⟩, (g.1 6 u (by omega) hu).trans a6, a7, fun p hp => ⟨(g.2.2.1 _ (by omega)).trans (a8 p hp).1, (a8 p hp).2⟩⟩
/-- one layer into another -/
theorem m_copies (N : Nat) (hN : 5000 ≤ N) {X : Nat → Nat → Int32} {to fr k : Nat} (h1 : to < 22) (h2 : fr < 22) (hne : to ≠ fr) (hk : X 6 fr = nI k) (hk4 : k ≤ 40) :
    ∃ X', fX12_copies N (X 0) (X 1) (X 2) (X 3) (X 4) (X 5) (X 6) (X 7) (X 8) (nI to) (nI fr) = some (X' 0, X' 1, X' 2, X' 3, X' 4, X' 5, X' 6, X' 7, X' 8) ∧ mOth to X X' ∧ (∀ j, j ≤ 4 ∨ j = 6 → X' j to = X j fr) ∧ (∀ e, e < 7 → X' 5 (7 * to + e) = X 5 (7 * fr + e)) ∧ (∀ p, p < 6 → X' 7 (6 * to + p) = X 7 (6 * fr + p)) ∧ (∀ i, i < 3 * k → X' 8 (120 * to + i) = X 8 (120 * fr + i)) := by
  have l3 : ∀ (a0 a1 a2 a3 a4 a5 a6 a7 : Nat → Int32), a6 fr = nI k → xq_loop (fX12_copies_l146 N) N (a0, a1, a2, a3, a4, a5, a6, a7, X 8, nI to, nI fr, 0) = some (a0, a1, a2, a3, a4, a5, a6, a7, fb_put (X 8) (fun i => X 8 (120 * fr + i)) (120 * to) (3 * k)) := by
    intro a0 a1 a2 a3 a4 a5 a6 a7 e6
    have key := xs_loop (body := fX12_copies_l146 N) (fun i => (a0, a1, a2, a3, a4, a5, a6, a7, fb_put (X 8) (fun i => X 8 (120 * fr + i)) (120 * to) i, nI to, nI fr, nI i)) (3 * k) (some (a0, a1, a2, a3, a4, a5, a6, a7, fb_put (X 8) (fun i => X 8 (120 * fr + i)) (120 * to) (3 * k))) ?_ ?_ N (by omega)
    · rw [fb_put_0] at key; exact key
    · intro i hi kk
      show xq_bd (xq_ald 22 a6 (nI fr)) (fun v_1 => if nI 3 * v_1 ≤ nI i then _ else xq_bd (xq_ald 2640 _ (120 * nI fr + nI i)) _) = _
      rw [xs_ald h2 (by omega), xs_bd, e6, pk_mul, if_neg (nI_ge hi (by omega)), mx120, xs_ald (by omega) (by omega), xs_bd, mx120, xs_ast (by omega) (by omega), xs_bd, nI_1]
      show kk (_, _, _, _, _, _, _, _, upd _ _ _, _, _, _) = kk (_, _, _, _, _, _, _, _, fb_put _ _ _ (i + 1), _, _, _)
      rw [← fb_put_succ, fb_put_out (by omega)]
    · intro kk
      show xq_bd (xq_ald 22 a6 (nI fr)) (fun v_1 => if nI 3 * v_1 ≤ nI (3 * k) then _ else _) = _
      rw [xs_ald h2 (by omega), xs_bd, e6, pk_mul, if_pos (nI_le (Nat.le_refl _) (by omega))]
  have l2 : ∀ (a0 a1 a2 a3 a4 a5 : Nat → Int32), xq_loop (fX12_copies_l98 N) N (a0, a1, a2, a3, a4, a5, X 6, X 7, X 8, nI to, nI fr, 0) = some (a0, a1, a2, a3, a4, a5, upd (X 6) to (X 6 fr), fb_put (X 7) (fun i => X 7 (6 * fr + i)) (6 * to) 6, fb_put (X 8) (fun i => X 8 (120 * fr + i)) (120 * to) (3 * k)) := by
    intro a0 a1 a2 a3 a4 a5
    have key := xs_loop (body := fX12_copies_l98 N) (fun i => (a0, a1, a2, a3, a4, a5, X 6, fb_put (X 7) (fun i => X 7 (6 * fr + i)) (6 * to) i, X 8, nI to, nI fr, nI i)) 6 (some (a0, a1, a2, a3, a4, a5, upd (X 6) to (X 6 fr), fb_put (X 7) (fun i => X 7 (6 * fr + i)) (6 * to) 6, fb_put (X 8) (fun i => X 8 (120 * fr + i)) (120 * to) (3 * k))) ?_ ?_ N (by omega)
    · rw [fb_put_0] at key; exact key
    · intro i hi kk
      show (if nI 6 ≤ nI i then _ else xq_bd (xq_ald 132 _ (6 * nI fr + nI i)) _) = _
      rw [if_neg (nI_ge hi (by omega)), mx6, xs_ald (by omega) (by omega), xs_bd, mx6, xs_ast (by omega) (by omega), xs_bd, nI_1]
      show kk (_, _, _, _, _, _, _, upd _ _ _, _, _, _, _) = kk (_, _, _, _, _, _, _, fb_put _ _ _ (i + 1), _, _, _, _)
      rw [← fb_put_succ, fb_put_out (by omega)]
    · intro kk
      dsimp only [fX12_copies_l98]
      rw [if_pos (show (6 : Int32) ≤ nI 6 from by decide), xs_ald h2 (by omega), xs_bd, xs_ast h1 (by omega), xs_bd]
      exact l3 _ _ _ _ _ _ _ _ (by rw [pk_un (Ne.symm hne)]; exact hk)
  have l1 : ∀ (a0 a1 a2 a3 a4 : Nat → Int32), xq_loop (fX12_copies_l62 N) N (a0, a1, a2, a3, a4, X 5, X 6, X 7, X 8, nI to, nI fr, 0) = some (a0, a1, a2, a3, a4, fb_put (X 5) (fun i => X 5 (7 * fr + i)) (7 * to) 7, upd (X 6) to (X 6 fr), fb_put (X 7) (fun i => X 7 (6 * fr + i)) (6 * to) 6, fb_put (X 8) (fun i => X 8 (120 * fr + i)) (120 * to) (3 * k)) := by
    intro a0 a1 a2 a3 a4
    have key := xs_loop (body := fX12_copies_l62 N) (fun i => (a0, a1, a2, a3, a4, fb_put (X 5) (fun i => X 5 (7 * fr + i)) (7 * to) i, X 6, X 7, X 8, nI to, nI fr, nI i)) 7 (some (a0, a1, a2, a3, a4, fb_put (X 5) (fun i => X 5 (7 * fr + i)) (7 * to) 7, upd (X 6) to (X 6 fr), fb_put (X 7) (fun i => X 7 (6 * fr + i)) (6 * to) 6, fb_put (X 8) (fun i => X 8 (120 * fr + i)) (120 * to) (3 * k))) ?_ ?_ N (by omega)
    · rw [fb_put_0] at key; exact key
    · intro i hi kk
      show (if nI 7 ≤ nI i then _ else xq_bd (xq_ald 154 _ (7 * nI fr + nI i)) _) = _
      rw [if_neg (nI_ge hi (by omega)), mx7, xs_ald (by omega) (by omega), xs_bd, mx7, xs_ast (by omega) (by omega), xs_bd, nI_1]
      show kk (_, _, _, _, _, upd _ _ _, _, _, _, _, _, _) = kk (_, _, _, _, _, fb_put _ _ _ (i + 1), _, _, _, _, _, _)
      rw [← fb_put_succ, fb_put_out (by omega)]
    · intro kk
      dsimp only [fX12_copies_l62]
      rw [if_pos (show (7 : Int32) ≤ nI 7 from by decide)]
      exact l2 _ _ _ _ _ _
  refine ⟨m9 (upd (X 0) to (X 0 fr)) (upd (X 1) to (X 1 fr)) (upd (X 2) to (X 2 fr)) (upd (X 3) to (X 3 fr)) (upd (X 4) to (X 4 fr)) (fb_put (X 5) (fun i => X 5 (7 * fr + i)) (7 * to) 7) (upd (X 6) to (X 6 fr)) (fb_put (X 7) (fun i => X 7 (6 * fr + i)) (6 * to) 6) (fb_put (X 8) (fun i => X 8 (120 * fr + i)) (120 * to) (3 * k)), ?_, ⟨?_, ?_, ?_, ?_⟩, ?_, ?_, ?_, ?_⟩
  · unfold fX12_copies
    rw [xs_ald h2 (by omega), xs_bd, xs_ast h1 (by omega), xs_bd, xs_ald h2 (by omega), xs_bd, xs_ast h1 (by omega), xs_bd, xs_ald h2 (by omega), xs_bd, xs_ast h1 (by omega), xs_bd, xs_ald h2 (by omega), xs_bd, xs_ast h1 (by omega), xs_bd, xs_ald h2 (by omega), xs_bd, xs_ast h1 (by omega), xs_bd]
    exact l1 _ _ _ _ _
  · intro j i hj hi
    have : j = 0 ∨ j = 1 ∨ j = 2 ∨ j = 3 ∨ j = 4 ∨ j = 6 := by omega
    rcases this with rfl | rfl | rfl | rfl | rfl | rfl <;> exact pk_un hi
  · intro i hi
    show fb_put (X 5) (fun i => X 5 (7 * fr + i)) (7 * to) 7 i = X 5 i
    exact fb_put_out (by omega)
  · intro i hi
    show fb_put (X 7) (fun i => X 7 (6 * fr + i)) (6 * to) 6 i = X 7 i
    exact fb_put_out (by omega)
  · intro i hi
    show fb_put (X 8) (fun i => X 8 (120 * fr + i)) (120 * to) (3 * k) i = X 8 i
    exact fb_put_out (by omega)
  · intro j hj
    have : j = 0 ∨ j = 1 ∨ j = 2 ∨ j = 3 ∨ j = 4 ∨ j = 6 := by omega
    rcases this with rfl | rfl | rfl | rfl | rfl | rfl <;> exact pk_us
  · intro e he
    show fb_put (X 5) (fun i => X 5 (7 * fr + i)) (7 * to) 7 (7 * to + e) = X 5 (7 * fr + e)
    rw [fb_put_in (by omega) (by omega)]; show X 5 _ = X 5 _; congr 1; omega
  · intro e he
    show fb_put (X 7) (fun i => X 7 (6 * fr + i)) (6 * to) 6 (6 * to + e) = X 7 (6 * fr + e)
    rw [fb_put_in (by omega) (by omega)]; show X 7 _ = X 7 _; congr 1; omega
  · intro e he
    show fb_put (X 8) (fun i => X 8 (120 * fr + i)) (120 * to) (3 * k) (120 * to + e) = X 8 (120 * fr + e)
    rw [fb_put_in (by omega) (by omega)]; show X 8 _ = X 8 _; congr 1; omega
theorem m_copyL (N : Nat) (hN : 5000 ≤ N) {H : PH} (hE : H.1 1 ≤ 7) (hP : H.1 2 ≤ 6) {X : Nat → Nat → Int32} {to fr k : Nat} {m ro ta : Nat → Nat} (h1 : to < 22) (h2 : fr < 22) (hne : to ≠ fr) (hL : mLay H fr m ro ta k X) :
    ∃ X', fX12_copies N (X 0) (X 1) (X 2) (X 3) (X 4) (X 5) (X 6) (X 7) (X 8) (nI to) (nI fr) = some (X' 0, X' 1, X' 2, X' 3, X' 4, X' 5, X' 6, X' 7, X' 8) ∧ mOth to X X' ∧ mLay H to m ro ta k X' ∧ (∀ i, i < 3 * k → X' 8 (120 * to + i) = X 8 (120 * fr + i)) := by
  obtain ⟨a0, a1, a2, a3, a4, a5, a6, a7, a8⟩ := hL
  obtain ⟨X', e1, e2, e3, e4, e5, e6⟩ := m_copies N hN h1 h2 hne a6 a7
  refine ⟨X', e1, e2, ⟨(e3 0 (by omega)).trans a0, (e3 1 (by omega)).trans a1, (e3 2 (by omega)).trans a2, (e3 3 (by omega)).trans a3, (e3 4 (by omega)).trans a4, fun e he => ⟨(e4 e (by omega)).trans (a5 e he).1, (a5 e he).2⟩, (e3 6 (by omega)).trans a6, a7, fun p hp => ⟨(e5 p (by omega)).trans (a8 p hp).1, (a8 p hp).2⟩⟩, e6⟩
def mHY (H : PH) (b : Nat) (mmI : Nat → Int32) (Y : Nat → Nat → Int32) : Prop := mH H b mmI (Y 0) (Y 1) (Y 2) (Y 3) (Y 4) (Y 5) (Y 6) (Y 7) (Y 8)
/-- a NIGHT of a layer -/
theorem m_tickX (N : Nat) (hN : 5000 ≤ N) {H : PH} (hH : ph_ok H) {b v k hu : Nat} {mmI hf ask : Nat → Int32} {stk : Nat → Int64} {X Y : Nat → Nat → Int32} {m ro ta : Nat → Nat} (hY : mHY H b mmI Y) (hv : v < 22) (hL : mLay H v m ro ta k X) (hm : p_mok H m) (hh : hu ≤ 1000) :
    ∃ a' s' X', fX12_ticks N mmI (X 3) (Y 0) (X 0) ask (X 1) (X 2) (Y 1) stk (Y 2) (Y 3) (Y 4) (Y 6) (Y 7) (X 7) (Y 5) hf (Y 8) (X 5) (X 6) (X 8) (nI v) (nI hu) 0 = some (nI (p_set H (p_move H m ta hu) ro hu), X' 3, X' 0, a', X' 1, X' 2, s', hf, X' 6, X' 8) ∧ X' 4 = X 4 ∧ X' 5 = X 5 ∧ X' 7 = X 7 ∧ mOth v X X' ∧ (m 0 < 999 → mLay H v (p_night H ta hu m) ro ta (m_many k (p_set H (p_move H m ta hu) ro hu)) X') ∧ m_wrote v k (m 0) (p_move H m ta hu 1) (p_set H (p_move H m ta hu) ro hu) (X 8) (X' 8) := by
  obtain ⟨a0, a1, a2, a3, a4, a5, a6, a7, a8⟩ := hL
  obtain ⟨a', s', kr', e1, e2⟩ := m_tick N hN hH hY hv (taF := X 7) (rowF := X 5) (hfF := hf) (krF := X 8) (ask := ask) (stk := stk) a0 a1 a2 a3 hm a5 a8 hh a6 a7
  obtain ⟨k1, k2, k3, k4⟩ := p_move_ok (ta := ta) (hu := hu) hH hm
  refine ⟨a', s', m9 (upd (X 0) v (nI (m 0 + 1))) (upd (X 1) v (nI (p_move H m ta hu 1))) (upd (X 2) v (nI (p_move H m ta hu 2))) (upd (X 3) v (nI (p_move H m ta hu 3))) (X 4) (X 5) (upd (X 6) v (nI (m_many k (p_set H (p_move H m ta hu) ro hu)))) (X 7) kr', e1, rfl, rfl, rfl, ⟨?_, fun _ _ => rfl, fun _ _ => rfl, ?_⟩, fun h9 => ⟨?_, pk_us, pk_us, pk_us, ?_, a5, pk_us, ?_, a8⟩, e2⟩
  · intro j i hj hi
    have : j = 0 ∨ j = 1 ∨ j = 2 ∨ j = 3 ∨ j = 4 ∨ j = 6 := by omega
    rcases this with rfl | rfl | rfl | rfl | rfl | rfl
    · exact pk_un hi
    · exact pk_un hi
    · exact pk_un hi
    · exact pk_un hi
    · rfl
    · exact pk_un hi
  · intro i hi
    show kr' i = X 8 i
    by_cases c : p_set H (p_move H m ta hu) ro hu = 0
    · rw [e2.1 c]
    · exact (e2.2 (by omega)).1 i hi
  · show upd (X 0) v (nI (m 0 + 1)) v = nI (min 999 (m 0 + 1))
    rw [pk_us]; exact nI_c (by omega)
  · show X 4 v = nI (p_move H m ta hu 4)
    rw [k3]; exact a4
  · unfold m_many; split <;> omega
theorem m_passX (N : Nat) (hN : 5000 ≤ N) {H : PH} (hH : ph_ok H) {b v k : Nat} {mmI hf ask : Nat → Int32} {stk : Nat → Int64} {X Y : Nat → Nat → Int32} {m ro ta : Nat → Nat} (hY : mHY H b mmI Y) (hv : v < 22) (hL : mLay H v m ro ta k X) (hm : p_mok H m) :
    ∃ a' s' X', fX12_passes N mmI (X 4) (X 3) (Y 0) (X 0) ask (X 1) (X 2) (Y 1) stk (Y 2) (Y 3) (Y 4) (Y 6) (Y 7) (X 7) (Y 5) hf (Y 8) (X 5) (X 6) (X 8) (nI v) = some (nI (p_set H (p_move H m ta (m 4)) ro (m 4)), X' 3, X' 0, a', X' 1, X' 2, s', hf, X' 6, X' 8) ∧ X' 4 = X 4 ∧ X' 5 = X 5 ∧ X' 7 = X 7 ∧ mOth v X X' ∧ (m 0 < 999 → mLay H v (p_night H ta (m 4) m) ro ta (m_many k (p_set H (p_move H m ta (m 4)) ro (m 4))) X') ∧ m_wrote v k (m 0) (p_move H m ta (m 4) 1) (p_set H (p_move H m ta (m 4)) ro (m 4)) (X 8) (X' 8) := by
  obtain ⟨a', s', X', e1, e2⟩ := m_tickX N hN hH (hf := hf) (ask := ask) (stk := stk) (hu := m 4) hY hv hL hm (by have := hm.2.2.2.2; omega)
  refine ⟨a', s', X', ?_, e2⟩
  unfold fX12_passes
  rw [xs_ald hv (by omega), xs_bd, hL.2.2.2.2.1, e1, xs_bd]
/-- n NIGHTS of the layer that is tried -/
theorem m_runsX (N : Nat) (hN : 5000 ≤ N) {H : PH} (hH : ph_ok H) {b k n : Nat} {mmI hf ask : Nat → Int32} {stk : Nat → Int64} {X Y : Nat → Nat → Int32} {m ro ta : Nat → Nat} (hY : mHY H b mmI Y) (hL : mLay H 1 m ro ta k X) (hm : p_mok H m) (h9 : m 0 + n ≤ 999) :
    ∃ a' s' X' k', fX12_runsOn N mmI (X 4) (X 3) (Y 0) (X 0) ask (X 1) (X 2) (Y 1) stk (Y 2) (Y 3) (Y 4) (Y 6) (Y 7) (X 7) (Y 5) hf (Y 8) (X 5) (X 6) (X 8) (nI n) = some (X' 3, X' 0, a', X' 1, X' 2, s', hf, X' 6, X' 8) ∧ X' 4 = X 4 ∧ X' 5 = X 5 ∧ X' 7 = X 7 ∧ mOth 1 X X' ∧ mLay H 1 (p_nights H ta (m 4) n m) ro ta k' X' := by
  refine xs_loopI (body := fX12_runsOn_l2 N mmI (X 4) (Y 0) (Y 1) (Y 2) (Y 3) (Y 4) (Y 6) (Y 7) (X 7) (Y 5) (Y 8) (X 5)) (fun r st => ∃ i a s k' X1, st = (X1 3, X1 0, a, X1 1, X1 2, s, hf, X1 6, X1 8, nI n, nI i) ∧ i + r = n ∧ X1 4 = X 4 ∧ X1 5 = X 5 ∧ X1 7 = X 7 ∧ mOth 1 X X1 ∧ mLay H 1 (p_nights H ta (m 4) i m) ro ta k' X1) (fun r => ∃ a' s' X' k', r = some (X' 3, X' 0, a', X' 1, X' 2, s', hf, X' 6, X' 8) ∧ X' 4 = X 4 ∧ X' 5 = X 5 ∧ X' 7 = X 7 ∧ mOth 1 X X' ∧ mLay H 1 (p_nights H ta (m 4) n m) ro ta k' X') ?_ N n _ ⟨0, ask, stk, k, X, rfl, by omega, rfl, rfl, rfl, mOth.refl _ _, hL⟩ (by omega)
  rintro r st kk ⟨i, a, s, k', X1, rfl, hi, g4, g5, g7, go, gl⟩ hgo
  show ∃ a' s' X' k', (if nI n ≤ nI i then _ else _) = some _ ∧ _
  by_cases c : n ≤ i
  · have : i = n := by omega
    subst this
    rw [if_pos (nI_le (Nat.le_refl _) (by omega))]
    exact ⟨a, s, X1, k', rfl, g4, g5, g7, go, gl⟩
  · obtain ⟨p1, p2, p3, p4⟩ := p_nights_ok hH (ta := ta) (hu := m 4) hm i
    obtain ⟨a2, s2, X2, e1, e2, e3, e4, e5, e6, e7⟩ := m_passX N hN hH (hf := hf) (ask := a) (stk := s) hY (by omega) gl p1
    have e6 := e6 (by omega)
    rw [p2] at e1 e6
    rw [if_neg (nI_ge (by omega) (by omega)), ← g4, ← g5, ← g7]
    show ∃ a' s' X' k', xq_bd (fX12_passes N mmI (X1 4) (X1 3) (Y 0) (X1 0) a (X1 1) (X1 2) (Y 1) s (Y 2) (Y 3) (Y 4) (Y 6) (Y 7) (X1 7) (Y 5) hf (Y 8) (X1 5) (X1 6) (X1 8) (nI 1)) _ = _ ∧ _
    rw [e1, xs_bd, nI_1]
    obtain ⟨a3, s3, X3, k3, f1, f2, f3, f4, f5, f6⟩ := hgo (X2 3, X2 0, a2, X2 1, X2 2, s2, hf, X2 6, X2 8, nI n, nI (i + 1)) (r - 1) (by omega) ⟨i + 1, a2, s2, _, X2, rfl, by omega, e2.trans g4, e3.trans g5, e4.trans g7, go.trans e5, e6⟩
    exact ⟨a3, s3, X3, k3, f1, f2.trans g4.symm, f3.trans g5.symm, f4.trans g7.symm, f5, f6⟩
