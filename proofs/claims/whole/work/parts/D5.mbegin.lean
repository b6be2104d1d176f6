/-! the reference begins a house; the reference reads the first statement -/
def m_cp (f g : Nat → Int32) (o : Nat) : Nat → Nat → Int32
  | 0 => g
  | k + 1 => upd (m_cp f g o k) k (f (o + k))
theorem m_cp_at (f g : Nat → Int32) (o : Nat) : ∀ k j, j < k → m_cp f g o k j = f (o + j)
  | 0, _, h => absurd h (Nat.not_lt_zero _)
  | k + 1, j, h => by
    by_cases c : j = k
    · subst c; exact pk_us
    · exact (pk_un c).trans (m_cp_at f g o k j (by omega))
theorem m_begin (N : Nat) (hN : 5000 ≤ N) {G : PG} (hg : gok G) {b : Nat} (hb : b < 2) {I ni vo mi rn tk hu hs ro rw_ km ta tl : Nat → Int32} (h13 : I 13 = nI b) (hvo : vo b = nI (G.1 4)) (hhu : hu b = nI (G.1 5)) (hro : ∀ e, e < G.1 1 → ro (7 * b + e) = nI (G.2.1 2 e)) (hta : ∀ p, p < G.1 2 → ta (6 * b + p) = nI (G.2.1 3 p)) (kr : Nat → Int32) :
    ∃ a0 a1 a2 a3 a4 a5 a6 a7, fX12_begin N I ni vo mi rn tk hu hs ro rw_ km ta tl = some (va_up (va_up I 55 0) 62 0, a0, a1, a2, a3, a4, a5, a6, a7) ∧ mLay (gH G) 0 (gM G) (G.2.1 2) (G.2.1 3) 0 (m9 a0 a1 a2 a3 a4 a5 a6 a7 kr) := by
  obtain ⟨g0, g1, g2, g3, g4, g5, g6, g7, g8, -⟩ := hg
  have l2 : ∀ (x1 x2 x3 x4 x5 x6 : Nat → Int32), xq_loop (fX12_begin_l87 N vo hu ro ta) N (I, x1, x2, x3, x4, x5, x6, km, tl, 0) = some (va_up (va_up I 55 0) 62 0, x1, x2, x3, x4, x5, x6, upd km 0 0, m_cp ta tl (6 * b) 6) := by
    intro x1 x2 x3 x4 x5 x6
    refine xs_loop (body := fX12_begin_l87 N vo hu ro ta) (fun k => (I, x1, x2, x3, x4, x5, x6, km, m_cp ta tl (6 * b) k, nI k)) 6 _ ?_ ?_ N (by omega)
    · intro k hk kk
      dsimp only [fX12_begin_l87]
      rw [if_neg (show ¬ (6 : Int32) ≤ nI k from nI_ge (b := 6) (by omega) (by omega)), h13, mx6, xs_ald (by omega) (by decide), xs_bd, xs_ast (by omega) (by decide), xs_bd, nI_1]
      rfl
    · intro kk
      dsimp only [fX12_begin_l87]
      rw [if_pos (show (6 : Int32) ≤ nI 6 by decide), show (0 : Int32) = nI 0 from rfl, xs_ast (by omega) (by decide), xs_bd]
  have l1 : ∀ (x1 x2 x3 x4 x5 : Nat → Int32), xq_loop (fX12_begin_l53 N vo hu ro ta) N (I, x1, x2, x3, x4, x5, rw_, km, tl, 0) = some (va_up (va_up I 55 0) 62 0, x1, x2, x3, x4, x5, m_cp ro rw_ (7 * b) 7, upd km 0 0, m_cp ta tl (6 * b) 6) := by
    intro x1 x2 x3 x4 x5
    refine xs_loop (body := fX12_begin_l53 N vo hu ro ta) (fun k => (I, x1, x2, x3, x4, x5, m_cp ro rw_ (7 * b) k, km, tl, nI k)) 7 _ ?_ ?_ N (by omega)
    · intro k hk kk
      dsimp only [fX12_begin_l53]
      rw [if_neg (show ¬ (7 : Int32) ≤ nI k from nI_ge (b := 7) (by omega) (by omega)), h13, mx7, xs_ald (by omega) (by decide), xs_bd, xs_ast (by omega) (by decide), xs_bd, nI_1]
      rfl
    · intro kk
      dsimp only [fX12_begin_l53]
      rw [if_pos (show (7 : Int32) ≤ nI 7 by decide)]
      exact l2 _ _ _ _ _ _
  have a0 : ∀ (f : Nat → Int32) (x : Int32), xq_ast 22 f 0 x = some (upd f 0 x) := fun f x => xs_ast (k := 0) (by decide) (by decide)
  refine ⟨upd ni 0 0, upd mi 0 (nI (G.1 4)), upd rn 0 0, upd tk 0 0, upd hs 0 (nI (G.1 5)), m_cp ro rw_ (7 * b) 7, upd km 0 0, m_cp ta tl (6 * b) 6, ?_, ?_⟩
  · unfold fX12_begin
    rw [h13, a0, xs_bd, xs_ald hb (by decide), xs_bd, a0, xs_bd, a0, xs_bd, a0, xs_bd, xs_ald hb (by decide), xs_bd, a0, xs_bd, hvo, hhu]
    exact l1 _ _ _ _ _
  · refine ⟨pk_us, pk_us, pk_us, pk_us, pk_us, fun e he => ⟨?_, (g7 e he).1⟩, pk_us, by omega, fun p hp => ⟨?_, (g8 p hp).2.2⟩⟩
    · have he' : e < G.1 1 := he
      show m_cp ro rw_ (7 * b) 7 (7 * 0 + e) = _
      rw [show 7 * 0 + e = e by omega, m_cp_at _ _ _ _ _ (by omega)]
      exact hro e he
    · have hp' : p < G.1 2 := hp
      show m_cp ta tl (6 * b) 6 (6 * 0 + p) = _
      rw [show 6 * 0 + p = p by omega, m_cp_at _ _ _ _ _ (by omega)]
      exact hta p hp
section
variable {K St V E tF : Nat → Int32} {nm : Int32 → Int64 → Prop} {sz : Int32} {n : Nat} (N : Nat)
theorem m_rounding (hA : mAh N tF K St V E nm sz n) (hE : ∀ i, i < n → ¬ K i = -1 → ¬ K i = -2 → i + 1 < n) (hn : 0 < n) {b : Nat} (hb : b < 2) {I mt : Nat → Int32} {J : Nat → Int64} (h31 : I 31 = nI b) (h : mA K St V E nm sz 0 I J) : ∃ I' J' v, fX12_rounding N I J tF mt = some (I', J', upd mt b v) ∧ jm K St V E nm sz (pp_bd (pp_tk K 300 0) (pp_num K V 5 200)) I' J' ∧ iK I J I' J' ∧ ((pp_rnd K V).1 = 0 → v = V 1) := by
  obtain ⟨I1, J1, e1, e2, e3⟩ := m_mustw N hA hE (r := (0, 0, [])) (fun _ => hn) 0 (by decide) (p := 491496238692) rfl (x := 300) rfl (jm_0 h)
  have e2' : jm K St V E nm sz (pp_tk K 300 0) I1 J1 := by rw [pp_bd_pos rfl] at e2; exact e2
  have hr : (pp_tk K 300 0).1 = 0 → (pp_tk K 300 0).2.1 < n := by
    have := hr_tk (r := (0, 0, [])) hE (t := 300) (by decide) (by decide) (fun _ => hn)
    rw [pp_bd_pos rfl] at this; exact this
  obtain ⟨v, I2, J2, f1, f2, f3, f4⟩ := m_number N hA hE hr 5 200 e2'
  refine ⟨I2, J2, v, ?_, f2, iK_t e3 f3, fun z => ?_⟩
  · unfold fX12_rounding
    rw [e1, xs_bd]
    dsimp only
    rw [f1, xs_bd]
    dsimp only
    rw [e3.1 31 (by omega), h31, xs_ast hb (by decide), xs_bd]
  · obtain ⟨a1, -, -, -, a5, a6⟩ := pp_rnd0 z
    rw [a6] at f4
    exact f4 a5 a1
end
