/-! on: the class's call -/
def pO_all (H : PH) (T : PT) : Prop := 0 < H.1 0 ∧ T.1 = 9 + H.1 1 + H.1 2 ∧ pO_ok H T
theorem pO_mok {H : PH} {T : PT} (h : pO_ok H T) : p_mok H (pO_m T) := ⟨h.2.2.2.2.1, h.2.2.2.2.2.1, h.2.2.2.2.2.2.1, h.2.2.2.2.2.2.2, h.2.1⟩
section ON
variable (N : Nat) {H : PH} {T : PT} {homeI tapeI tape_bytesF walkI walk_rowsF walk_talksF nowI now_rowsF now_talksF pastI dv_refusedF : Nat → Int32}
theorem c_on_b29 : fX11_on_b29 N homeI tape_bytesF (tapeI, walkI, walk_rowsF, walk_talksF, nowI, now_rowsF, now_talksF, pastI, dv_refusedF) = some (0, va_up tapeI 1 0, walkI, walk_rowsF, walk_talksF, nowI, now_rowsF, now_talksF, pastI, upd dv_refusedF 5 (dv_refusedF 5 + 1)) := by
  dsimp only [fX11_on_b29, fX11_on_b30]
  rw [if_pos (by rfl)]
  show xq_bd (fX11_refuse N dv_refusedF (nI 5)) _ = _
  rw [c_refuse N (by omega), xs_bd]; rfl
theorem c_on_no (hN : 5000 ≤ N) (h : cT T tapeI tape_bytesF) (hT : T.1 ≤ 1600) (hE : H.1 1 ≤ 7) (hP : H.1 2 ≤ 6) (h200 : H.1 0 ≤ 200) (h1 : homeI 1 = nI (H.1 0)) (h5 : homeI 5 = nI (H.1 1)) (h6 : homeI 6 = nI (H.1 2)) (hx : ¬ pO_all H T) : ∃ w r t, fX11_on N homeI tapeI tape_bytesF walkI walk_rowsF walk_talksF nowI now_rowsF now_talksF pastI dv_refusedF = some (0, va_up tapeI 1 0, w, r, t, nowI, now_rowsF, now_talksF, pastI, upd dv_refusedF 5 (dv_refusedF 5 + 1)) := by
  unfold fX11_on fX11_hasHouse
  rw [h1]
  by_cases g0 : 0 < H.1 0
  · rw [if_neg (nI_nle g0 (by omega)), xs_bd, if_neg (by decide)]
    by_cases g1 : T.1 = 9 + H.1 1 + H.1 2
    · obtain ⟨g, w, r, t, e1, e2, -⟩ := c_isRead N hN h g1 hE hP h200 h1 h5 h6 (moI := walkI) (roF := walk_rowsF) (taF := walk_talksF)
      rw [e1, xs_bd]
      dsimp only
      cases g with
      | false => rw [if_pos (show p_b false = 0 by rfl)]; exact ⟨w, r, t, c_on_b29 N⟩
      | true => exact absurd ⟨g0, g1, e2.mp rfl⟩ hx
    · have en : (8 : Int32) + nI (H.1 1) + nI (H.1 2) = nI (8 + H.1 1 + H.1 2) := by rw [xs_8, nI_add]
      have e1 : fX4_isRead N homeI tapeI tape_bytesF walkI walk_rowsF walk_talksF = some (0, walkI, walk_rowsF, walk_talksF) := by
        unfold fX4_isRead
        rw [h.1, h5, h6, en, nI_1, if_neg (fun z => g1 (by have := (nI_eq (by omega) (by omega)).mp z; omega))]
      rw [e1, xs_bd]
      dsimp only
      rw [if_pos (by rfl)]
      exact ⟨walkI, walk_rowsF, walk_talksF, c_on_b29 N⟩
  · have : H.1 0 = 0 := by omega
    rw [this, if_pos (by decide), xs_bd, if_pos (by rfl)]
    exact ⟨walkI, walk_rowsF, walk_talksF, c_on_b29 N⟩
theorem c_on_yes (hN : 5000 ≤ N) (h : cT T tapeI tape_bytesF) (hE : H.1 1 ≤ 7) (hP : H.1 2 ≤ 6) (h200 : H.1 0 ≤ 200) (h1 : homeI 1 = nI (H.1 0)) (h5 : homeI 5 = nI (H.1 1)) (h6 : homeI 6 = nI (H.1 2)) (hx : pO_all H T) : ∃ w r t n2 r2 t2, fX11_on N homeI tapeI tape_bytesF walkI walk_rowsF walk_talksF nowI now_rowsF now_talksF pastI dv_refusedF = some (1, va_up tapeI 1 0, w, r, t, n2, r2, t2, va_up pastI 2 0, dv_refusedF) ∧ cNow H (pO_m T) (pO_ro T) (pO_ta H T) n2 r2 t2 := by
  obtain ⟨g0, g1, g2⟩ := hx
  obtain ⟨g, w, r, t, e1, e2, e3, e4, e5⟩ := c_isRead N hN h g1 hE hP h200 h1 h5 h6 (moI := walkI) (roF := walk_rowsF) (taF := walk_talksF)
  have hg : g = true := e2.mpr g2
  subst hg
  obtain ⟨n2, r2, t2, c1, c2, c3, c4⟩ := c_copy N (walkI := nowI) (rowsF := r) (wrF := now_rowsF) (talksF := t) (wtF := now_talksF) e3
  refine ⟨w, r, t, n2, r2, t2, ?_, c2, ?_, ?_⟩
  · unfold fX11_on fX11_hasHouse
    rw [h1, if_neg (nI_nle g0 (by omega)), xs_bd, if_neg (by decide), e1, xs_bd]
    dsimp only
    rw [if_neg (show ¬ p_b true = 0 by decide)]
    dsimp only [fX11_on_b30]
    rw [if_neg (by decide), c1, xs_bd]
  · intro e he
    rw [c3 e (by omega), e4 e he]
    exact ⟨rfl, g2.2.2.1 e he⟩
  · intro p hp
    rw [c4 p (by omega), e5 p hp]
    exact ⟨rfl, g2.2.2.2.1 p hp⟩
end ON
