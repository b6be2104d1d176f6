/-! marks -/
abbrev pm_at (E : Nat) (T : PT) (j : Nat) : Prop := T.2 (3 * j) ≤ 30 ∧ T.2 (3 * j + 1) < E ∧ T.2 (3 * j + 2) ≤ 1
def pa_mark (E : Nat) (T : PT) : Bool := decide (T.1 % 3 = 0 ∧ 1 ≤ T.1 / 3 ∧ T.1 / 3 ≤ 16 ∧ ∀ j, j < T.1 / 3 → pm_at E T j)
def pT_K (T : PT) : PK := (T.1 / 3, fun i => T.2 (3 * i), fun i => T.2 (3 * i + 1), fun i => T.2 (3 * i + 2))
theorem pa_mark_ok {H : PH} {T : PT} (h : pa_mark (H.1 1) T = true) : pk_ok H (pT_K T) := by
  have h := of_decide_eq_true h
  exact ⟨h.2.2.1, fun i hi => h.2.2.2 i hi⟩
theorem xs_m3 (j : Nat) : nI j * 3 = nI (3 * j) := by
  show nI j * nI 3 = _
  rw [pk_mul]; exact nI_c (by omega)
theorem xs_3m (j : Nat) : 3 * nI j = nI (3 * j) := by
  show nI 3 * nI j = _
  rw [pk_mul]
theorem xs_p2 (j : Nat) : nI j + 2 = nI (j + 2) := nI_add j 2
theorem xs_p3 (j : Nat) : nI j + 3 = nI (j + 3) := nI_add j 3
theorem c_tellsMarks (N : Nat) (hN : 5000 ≤ N) {T : PT} {E : Nat} {taI bF : Nat → Int32} (h : cT T taI bF) (hT : T.1 ≤ 1600) (hE : E ≤ 7) : fX5_tellsMarks N taI bF (nI E) = some (p_b (pa_mark E T)) := by
  unfold fX5_tellsMarks pa_mark
  show xq_bd (xq_dv (taI 1) (nI 3)) (fun v_1 => xq_bd (xq_rm (taI 1) (nI 3)) _) = _
  rw [h.1, xs_dv (by omega) (by decide) (by decide), xs_bd, xs_rm (by omega) (by decide) (by decide), xs_bd]
  by_cases c0 : T.1 % 3 = 0
  · rw [if_pos (show nI (T.1 % 3) = 0 by rw [c0]; rfl)]
    by_cases c1 : 1 ≤ T.1 / 3
    · rw [if_neg (show ¬ nI (T.1 / 3) < (1 : Int32) from fun z => by have := (nI_ltI (b := 1) (by omega) (by omega)).mp z; omega)]
      by_cases c2 : T.1 / 3 ≤ 16
      · rw [if_pos (show nI (T.1 / 3) ≤ (16 : Int32) from nI_le (b := 16) c2 (by omega))]
        refine xs_loopI (body := fX5_tellsMarks_l32 N taI bF) (fun r st => ∃ j, st = (nI E, nI (T.1 / 3), nI j) ∧ j + r = T.1 / 3 ∧ ∀ i, i < j → pm_at E T i) (fun q => q = some (p_b (decide (T.1 % 3 = 0 ∧ 1 ≤ T.1 / 3 ∧ T.1 / 3 ≤ 16 ∧ ∀ j, j < T.1 / 3 → pm_at E T j)))) ?_ N (T.1 / 3) _ ⟨0, rfl, by omega, fun i hi => absurd hi (Nat.not_lt_zero _)⟩ (by omega)
        rintro r st kk ⟨j, rfl, hj, hall⟩ hgo
        dsimp only [fX5_tellsMarks_l32]
        by_cases c : T.1 / 3 ≤ j
        · have : j = T.1 / 3 := by omega
          rw [if_pos (nI_le c (by omega)), decide_eq_true ⟨c0, c1, c2, fun i hi => hall i (by omega)⟩]; rfl
        · have b0 := (h.2 (3 * j) (by omega)).2
          have b1 := (h.2 (3 * j + 1) (by omega)).2
          have b2 := (h.2 (3 * j + 2) (by omega)).2
          have no : ¬ pm_at E T j → some (0 : Int32) = some (p_b (decide (T.1 % 3 = 0 ∧ 1 ≤ T.1 / 3 ∧ T.1 / 3 ≤ 16 ∧ ∀ j, j < T.1 / 3 → pm_at E T j))) := fun z => by
            rw [decide_eq_false (fun g => z (g.2.2.2 j (by omega)))]; rfl
          rw [if_neg (nI_ge (by omega) (by omega)), xs_m3, c_at N h hT (by omega), xs_bd]
          by_cases d0 : T.2 (3 * j) ≤ 30
          · rw [if_neg (show ¬ (31 : Int32) ≤ nI (T.2 (3 * j)) from nI_ge (b := 31) (by omega) (by omega)), nI_1, c_at N h hT (by omega), xs_bd]
            by_cases d1 : T.2 (3 * j + 1) < E
            · rw [if_neg (nI_ge d1 (by omega)), xs_p2, c_at N h hT (by omega), xs_bd]
              by_cases d2 : T.2 (3 * j + 2) ≤ 1
              · rw [if_pos (show nI (T.2 (3 * j + 2)) ≤ (1 : Int32) from nI_le (b := 1) d2 (by omega)), nI_1]
                exact hgo _ (r - 1) (by omega) ⟨j + 1, rfl, by omega, fun i hi => by
                  by_cases g : i = j
                  · rw [g]; exact ⟨d0, d1, d2⟩
                  · exact hall i (by omega)⟩
              · rw [if_neg (show ¬ nI (T.2 (3 * j + 2)) ≤ (1 : Int32) from nI_ge (a := 1) (by omega) (by omega))]
                exact no (fun z => d2 z.2.2)
            · rw [if_pos (nI_le (by omega) (by omega))]
              exact no (fun z => d1 z.2.1)
          · rw [if_pos (show (31 : Int32) ≤ nI (T.2 (3 * j)) from nI_le (a := 31) (by omega) (by omega))]
            exact no (fun z => d0 z.1)
      · rw [if_neg (show ¬ nI (T.1 / 3) ≤ (16 : Int32) from nI_ge (a := 16) (by omega) (by omega)), decide_eq_false (fun z => c2 z.2.2.1)]; rfl
    · rw [if_pos (show nI (T.1 / 3) < (1 : Int32) from (nI_ltI (b := 1) (by omega) (by omega)).mpr (by omega)), decide_eq_false (fun z => c1 z.2.1)]; rfl
  · rw [if_neg (nI_ne0 (by omega) (by omega)), decide_eq_false (fun z => c0 z.1)]; rfl
theorem c_take (N : Nat) (hN : 5000 ≤ N) {T : PT} {taI bF mkI nF eF hF : Nat → Int32} (h : cT T taI bF) (hT : T.1 ≤ 48) (h0 : T.1 % 3 = 0) : ∃ mkI' nF' eF' hF', fX5_take N taI mkI bF nF eF hF = some (mkI', nF', eF', hF') ∧ cK (pT_K T) mkI' nF' eF' hF' := by
  unfold fX5_take
  show ∃ mkI' nF' eF' hF', xq_bd (xq_dv (taI 1) (nI 3)) _ = _ ∧ _
  rw [h.1, xs_dv (by omega) (by decide) (by decide), xs_bd]
  have em : xq_min 16 (nI (T.1 / 3)) = nI (T.1 / 3) := by
    show xq_min (nI 16) (nI (T.1 / 3)) = _
    rw [xs_min (by omega) (by omega)]; exact nI_c (by omega)
  rw [em]
  refine xs_loopI (body := fX5_take_l17 N taI bF) (fun r st => ∃ n e g j, st = (va_up mkI 0 (nI (T.1 / 3)), n, e, g, nI j) ∧ j + r = T.1 / 3 ∧ ∀ i, i < j → n i = nI (T.2 (3 * i)) ∧ e i = nI (T.2 (3 * i + 1)) ∧ g i = nI (T.2 (3 * i + 2))) (fun q => ∃ mkI' nF' eF' hF', q = some (mkI', nF', eF', hF') ∧ cK (pT_K T) mkI' nF' eF' hF') ?_ N (T.1 / 3) _ ⟨nF, eF, hF, 0, rfl, by omega, fun i hi => absurd hi (Nat.not_lt_zero _)⟩ (by omega)
  rintro r st kk ⟨n, e, g, j, rfl, hj, hall⟩ hgo
  dsimp only [fX5_take_l17]
  show ∃ mkI' nF' eF' hF', (if nI (T.1 / 3) ≤ nI j then _ else _) = _ ∧ _
  by_cases c : T.1 / 3 ≤ j
  · rw [if_pos (nI_le c (by omega))]
    exact ⟨_, n, e, g, rfl, rfl, fun i hi => hall i (Nat.lt_of_lt_of_le hi c)⟩
  · rw [if_neg (nI_ge (by omega) (by omega)), xs_m3, c_at N h (by omega) (by omega), xs_bd, xs_ast (show j < 16 by omega) (by omega), xs_bd, nI_1, c_at N h (by omega) (by omega), xs_bd, xs_ast (show j < 16 by omega) (by omega), xs_bd, xs_p2, c_at N h (by omega) (by omega), xs_bd, xs_ast (show j < 16 by omega) (by omega), xs_bd, nI_1]
    refine hgo _ (r - 1) (by omega) ⟨_, _, _, j + 1, rfl, by omega, fun i hi => ?_⟩
    by_cases d : i = j
    · subst d; rw [pk_us, pk_us, pk_us]; exact ⟨rfl, rfl, rfl⟩
    · rw [pk_un d, pk_un d, pk_un d]; exact hall i (by omega)
theorem c_mark_no (N : Nat) (hN : 5000 ≤ N) {H : PH} {T : PT} {homeI tapeI tape_bytesF marksI marks_nightsAheadF marks_earsF marks_hearingF dv_refusedF : Nat → Int32} (h5 : homeI 5 = nI (H.1 1)) (hE : H.1 1 ≤ 7) (h : cT T tapeI tape_bytesF) (hT : T.1 ≤ 1600) (hx : pa_mark (H.1 1) T = false) : fX11_mark N homeI tapeI tape_bytesF marksI marks_nightsAheadF marks_earsF marks_hearingF dv_refusedF = some (-1, va_up tapeI 1 0, marksI, marks_nightsAheadF, marks_earsF, marks_hearingF, upd dv_refusedF 5 (dv_refusedF 5 + 1)) := by
  unfold fX11_mark
  rw [h5, c_tellsMarks N hN h hT hE, xs_bd, hx, if_pos (by rfl)]
  dsimp only [fX11_mark_b34]
  rw [if_pos (by rfl)]
  show xq_bd (fX11_refuseNumber N dv_refusedF (nI 5)) _ = _
  rw [c_refuseN N (by omega), xs_bd]
theorem c_mark_yes (N : Nat) (hN : 5000 ≤ N) {H : PH} {T : PT} {homeI tapeI tape_bytesF marksI marks_nightsAheadF marks_earsF marks_hearingF dv_refusedF : Nat → Int32} (h5 : homeI 5 = nI (H.1 1)) (hE : H.1 1 ≤ 7) (h : cT T tapeI tape_bytesF) (hT : T.1 ≤ 1600) (hx : pa_mark (H.1 1) T = true) : ∃ mkI' nF' eF' hF', fX11_mark N homeI tapeI tape_bytesF marksI marks_nightsAheadF marks_earsF marks_hearingF dv_refusedF = some (nI (T.1 / 3), va_up tapeI 1 0, mkI', nF', eF', hF', dv_refusedF) ∧ cK (pT_K T) mkI' nF' eF' hF' := by
  have g := of_decide_eq_true hx
  obtain ⟨mkI', nF', eF', hF', e1, e2⟩ := c_take N hN (mkI := marksI) (nF := marks_nightsAheadF) (eF := marks_earsF) (hF := marks_hearingF) h (by omega) g.1
  refine ⟨mkI', nF', eF', hF', ?_, e2⟩
  unfold fX11_mark
  rw [h5, c_tellsMarks N hN h hT hE, xs_bd, hx, if_neg (by decide), e1, xs_bd]
  dsimp only [fX11_mark_b34]
  rw [if_neg (by decide), e2.1]
  rfl
theorem m_mark_tail (N : Nat) (hN : 5000 ≤ N) {T : PT} {mmI tF mm_earsF rf nF eF hF : Nat → Int32} (h : mT T mmI tF) (hT : T.1 ≤ 48) (h0 : T.1 % 3 = 0) : ∃ nF' eF' hF', fX12_mark_b93 N tF mm_earsF (va_up mmI 1 0, rf, nF, eF, hF, nI T.1, nI 1) = some (nI (T.1 / 3), va_up (va_up mmI 1 0) 62 (nI (T.1 / 3)), rf, nF', eF', hF') ∧ mK (pT_K T) (va_up (va_up mmI 1 0) 62 (nI (T.1 / 3))) nF' eF' hF' := by
  dsimp only [fX12_mark_b93]
  rw [if_neg (show ¬ nI 1 = 0 by decide)]
  show ∃ nF' eF' hF', xq_bd (xq_dv (nI T.1) (nI 3)) _ = _ ∧ _
  rw [xs_dv (by omega) (by decide) (by decide), xs_bd]
  refine xs_loopI (body := fX12_mark_l112 N tF mm_earsF) (fun r st => ∃ n e g j, st = (va_up (va_up mmI 1 0) 62 (nI (T.1 / 3)), rf, n, e, g, nI j) ∧ j + r = T.1 / 3 ∧ ∀ i, i < j → n i = nI (T.2 (3 * i)) ∧ e i = nI (T.2 (3 * i + 1)) ∧ g i = nI (T.2 (3 * i + 2))) (fun q => ∃ nF' eF' hF', q = some (nI (T.1 / 3), va_up (va_up mmI 1 0) 62 (nI (T.1 / 3)), rf, nF', eF', hF') ∧ mK (pT_K T) (va_up (va_up mmI 1 0) 62 (nI (T.1 / 3))) nF' eF' hF') ?_ N (T.1 / 3) _ ⟨nF, eF, hF, 0, rfl, by omega, fun i hi => absurd hi (Nat.not_lt_zero _)⟩ (by omega)
  rintro r st kk ⟨n, e, g, j, rfl, hj, hall⟩ hgo
  dsimp only [fX12_mark_l112]
  show ∃ nF' eF' hF', (if nI (T.1 / 3) ≤ nI j then _ else _) = _ ∧ _
  by_cases c : T.1 / 3 ≤ j
  · rw [if_pos (nI_le c (by omega))]
    exact ⟨n, e, g, rfl, rfl, fun i hi => hall i (Nat.lt_of_lt_of_le hi c)⟩
  · rw [if_neg (nI_ge (by omega) (by omega)), xs_3m, xs_ald (show 3 * j < 1800 by omega) (by omega), xs_bd, xs_ast (show j < 16 by omega) (by omega), xs_bd, nI_1, xs_ald (show 3 * j + 1 < 1800 by omega) (by omega), xs_bd, xs_ast (show j < 16 by omega) (by omega), xs_bd, xs_p2, xs_ald (show 3 * j + 2 < 1800 by omega) (by omega), xs_bd, xs_ast (show j < 16 by omega) (by omega), xs_bd, nI_1, h.2 (3 * j) (by omega), h.2 (3 * j + 1) (by omega), h.2 (3 * j + 2) (by omega)]
    refine hgo _ (r - 1) (by omega) ⟨_, _, _, j + 1, rfl, by omega, fun i hi => ?_⟩
    by_cases d : i = j
    · subst d; rw [pk_us, pk_us, pk_us]; exact ⟨rfl, rfl, rfl⟩
    · rw [pk_un d, pk_un d, pk_un d]; exact hall i (by omega)
section MM
variable (N : Nat) {H : PH} {T : PT} {b : Nat} {mmI mm_tapeF mm_earsF mm_refusedF mm_markNightF mm_markEarF mm_markIsF : Nat → Int32}
theorem m_mark_b93n : fX12_mark_b93 N mm_tapeF mm_earsF (va_up mmI 1 0, mm_refusedF, mm_markNightF, mm_markEarF, mm_markIsF, nI T.1, nI 0) = some (-1, va_up mmI 1 0, upd mm_refusedF 5 (mm_refusedF 5 + 1), mm_markNightF, mm_markEarF, mm_markIsF) := by
  dsimp only [fX12_mark_b93]
  rw [if_pos (by rfl)]
  show xq_bd (fX12_refuses N mm_refusedF (nI 5)) _ = _
  rw [m_refuses N (by omega), xs_bd]
/-- the walk over the tape: all rows are so, or one isn't -/
theorem m_mark_go (hN : 5000 ≤ N) (hb : b < 2) (h13 : mmI 13 = nI b) (hme : mm_earsF b = nI (H.1 1)) (hE : H.1 1 ≤ 7) (h : mT T mmI mm_tapeF) (hT : T.1 ≤ 48) (h0 : T.1 % 3 = 0) (hlt : ∀ i, i < T.1 → T.2 i < 256) : fX12_mark_b31 N mm_tapeF mm_earsF (va_up mmI 1 0, mm_refusedF, mm_markNightF, mm_markEarF, mm_markIsF, nI T.1, nI 1) = fX12_mark_b93 N mm_tapeF mm_earsF (va_up mmI 1 0, mm_refusedF, mm_markNightF, mm_markEarF, mm_markIsF, nI T.1, nI (if (∀ j, j < T.1 / 3 → pm_at (H.1 1) T j) then 1 else 0)) := by
  dsimp only [fX12_mark_b31]
  refine xs_loopI (body := fX12_mark_l34 N mm_tapeF mm_earsF) (fun r st => ∃ f j, st = (va_up mmI 1 0, mm_refusedF, mm_markNightF, mm_markEarF, mm_markIsF, nI T.1, nI f, nI (3 * j)) ∧ j + r = T.1 / 3 ∧ ((f = 1 ∧ ∀ i, i < j → pm_at (H.1 1) T i) ∨ (f = 0 ∧ ∃ i, i < T.1 / 3 ∧ ¬ pm_at (H.1 1) T i))) (fun q => q = fX12_mark_b93 N mm_tapeF mm_earsF (va_up mmI 1 0, mm_refusedF, mm_markNightF, mm_markEarF, mm_markIsF, nI T.1, nI (if (∀ j, j < T.1 / 3 → pm_at (H.1 1) T j) then 1 else 0))) ?_ N (T.1 / 3) _ ⟨1, 0, rfl, by omega, Or.inl ⟨rfl, fun i hi => absurd hi (Nat.not_lt_zero _)⟩⟩ (by omega)
  rintro r st kk ⟨f, j, rfl, hj, hf⟩ hgo
  dsimp only [fX12_mark_l34]
  rcases hf with ⟨rfl, hall⟩ | ⟨rfl, i, hi, hni⟩
  · by_cases c : T.1 / 3 ≤ j
    · rw [if_pos (nI_le (by omega) (by omega)), if_pos (fun i hi => hall i (by omega))]
    · have b0 := hlt (3 * j) (by omega)
      have b1 := hlt (3 * j + 1) (by omega)
      have b2 := hlt (3 * j + 2) (by omega)
      rw [if_neg (nI_ge (by omega) (by omega)), if_neg (show ¬ nI 1 = 0 by decide), xs_ald (show 3 * j < 1800 by omega) (by omega), xs_bd, h.2 (3 * j) (by omega)]
      have no : ¬ pm_at (H.1 1) T j → fX12_mark_b85 N mm_tapeF mm_earsF kk (va_up mmI 1 0, mm_refusedF, mm_markNightF, mm_markEarF, mm_markIsF, nI T.1, nI (3 * j)) = fX12_mark_b93 N mm_tapeF mm_earsF (va_up mmI 1 0, mm_refusedF, mm_markNightF, mm_markEarF, mm_markIsF, nI T.1, nI (if (∀ j, j < T.1 / 3 → pm_at (H.1 1) T j) then 1 else 0)) := fun z => by
        dsimp only [fX12_mark_b85, fX12_mark_b86]
        rw [xs_p3]
        exact hgo _ (r - 1) (by omega) ⟨0, j + 1, rfl, by omega, Or.inr ⟨rfl, j, by omega, z⟩⟩
      by_cases d0 : T.2 (3 * j) ≤ 30
      · rw [if_neg (show ¬ (30 : Int32) < nI (T.2 (3 * j)) from fun z => by have := (nI_ltI (a := 30) (by omega) (by omega)).mp z; omega), nI_1, xs_ald (show 3 * j + 1 < 1800 by omega) (by omega), xs_bd, h.2 (3 * j + 1) (by omega), m_isEar N hb (show va_up mmI 1 0 13 = nI b from h13) hme (by omega), xs_bd]
        by_cases d1 : T.2 (3 * j + 1) < H.1 1
        · rw [show p_one_of (H.1 1) (nI (T.2 (3 * j + 1))) = true from decide_eq_true (by rw [nI_toInt (by omega)]; omega), if_neg (by decide), xs_p2, xs_ald (show 3 * j + 2 < 1800 by omega) (by omega), xs_bd, h.2 (3 * j + 2) (by omega)]
          by_cases d2 : T.2 (3 * j + 2) ≤ 1
          · rw [if_neg (show ¬ (1 : Int32) < nI (T.2 (3 * j + 2)) from fun z => by have := (nI_ltI (a := 1) (by omega) (by omega)).mp z; omega)]
            dsimp only [fX12_mark_b86]
            rw [xs_p3]
            exact hgo _ (r - 1) (by omega) ⟨1, j + 1, rfl, by omega, Or.inl ⟨rfl, fun i hi => by
              by_cases g : i = j
              · rw [g]; exact ⟨d0, d1, d2⟩
              · exact hall i (by omega)⟩⟩
          · rw [if_pos (show (1 : Int32) < nI (T.2 (3 * j + 2)) from (nI_ltI (a := 1) (by omega) (by omega)).mpr (by omega))]
            exact no (fun z => d2 z.2.2)
        · rw [show p_one_of (H.1 1) (nI (T.2 (3 * j + 1))) = false from decide_eq_false (by rw [nI_toInt (by omega)]; omega), if_pos (by rfl)]
          exact no (fun z => d1 z.2.1)
      · rw [if_pos (show (30 : Int32) < nI (T.2 (3 * j)) from (nI_ltI (a := 30) (by omega) (by omega)).mpr (by omega))]
        exact no (fun z => d0 z.1)
  · rw [if_neg (show ¬ (∀ j, j < T.1 / 3 → pm_at (H.1 1) T j) from fun g => hni (g i hi))]
    by_cases c : T.1 ≤ 3 * j
    · rw [if_pos (nI_le c (by omega))]
    · rw [if_neg (nI_ge (by omega) (by omega)), if_pos (show nI 0 = (0 : Int32) from rfl)]
theorem m_mark_b30n (hN : 5000 ≤ N) (hT : T.1 ≤ 1600) : fX12_mark_b30 N mm_tapeF mm_earsF (va_up mmI 1 0, mm_refusedF, mm_markNightF, mm_markEarF, mm_markIsF, nI T.1) = some (-1, va_up mmI 1 0, upd mm_refusedF 5 (mm_refusedF 5 + 1), mm_markNightF, mm_markEarF, mm_markIsF) := by
  dsimp only [fX12_mark_b30, fX12_mark_b31]
  obtain ⟨n, rfl⟩ : ∃ n, N = n + 1 := ⟨N - 1, by omega⟩
  show fX12_mark_l34 (n + 1) mm_tapeF mm_earsF _ (va_up mmI 1 0, mm_refusedF, mm_markNightF, mm_markEarF, mm_markIsF, nI T.1, nI 0, nI 0) = _
  dsimp only [fX12_mark_l34]
  by_cases c : T.1 ≤ 0
  · rw [if_pos (nI_le c (by omega))]; exact m_mark_b93n (n + 1)
  · rw [if_neg (nI_ge (by omega) (by omega)), if_pos (show nI 0 = (0 : Int32) from rfl)]; exact m_mark_b93n (n + 1)
theorem m_mark_no (hN : 5000 ≤ N) (hb : b < 2) (h13 : mmI 13 = nI b) (hme : mm_earsF b = nI (H.1 1)) (hE : H.1 1 ≤ 7) (h : mT T mmI mm_tapeF) (hT : T.1 ≤ 1600) (hlt : ∀ i, i < T.1 → T.2 i < 256) (hx : pa_mark (H.1 1) T = false) : fX12_mark N mmI mm_tapeF mm_earsF mm_refusedF mm_markNightF mm_markEarF mm_markIsF = some (-1, va_up mmI 1 0, upd mm_refusedF 5 (mm_refusedF 5 + 1), mm_markNightF, mm_markEarF, mm_markIsF) := by
  have g := of_decide_eq_false hx
  unfold fX12_mark
  rw [h.1]
  by_cases c : T.1 ≤ 0
  · rw [if_pos (show nI T.1 ≤ (0 : Int32) from nI_le (b := 0) c (by omega)), m_mark_b30n N hN hT]
  · rw [if_neg (nI_nle (by omega) (by omega))]
    show xq_bd (xq_rm (nI T.1) (nI 3)) _ = _
    rw [xs_rm (by omega) (by decide) (by decide), xs_bd]
    by_cases c0 : T.1 % 3 = 0
    · rw [if_pos (show nI (T.1 % 3) = 0 by rw [c0]; rfl)]
      by_cases c1 : T.1 ≤ 48
      · rw [if_neg (show ¬ (48 : Int32) < nI T.1 from fun z => by have := (nI_ltI (a := 48) (by omega) (by omega)).mp z; omega)]
        refine (m_mark_go (H := H) N hN hb h13 hme hE h c1 c0 hlt).trans ?_
        rw [if_neg (fun z => g ⟨c0, by omega, by omega, z⟩)]
        exact m_mark_b93n N
      · rw [if_pos (show (48 : Int32) < nI T.1 from (nI_ltI (a := 48) (by omega) (by omega)).mpr (by omega)), m_mark_b30n N hN hT]
    · rw [if_neg (nI_ne0 (by omega) (by omega)), m_mark_b30n N hN hT]
theorem m_mark_yes (hN : 5000 ≤ N) (hb : b < 2) (h13 : mmI 13 = nI b) (hme : mm_earsF b = nI (H.1 1)) (hE : H.1 1 ≤ 7) (h : mT T mmI mm_tapeF) (hlt : ∀ i, i < T.1 → T.2 i < 256) (hx : pa_mark (H.1 1) T = true) : ∃ nF' eF' hF', fX12_mark N mmI mm_tapeF mm_earsF mm_refusedF mm_markNightF mm_markEarF mm_markIsF = some (nI (T.1 / 3), va_up (va_up mmI 1 0) 62 (nI (T.1 / 3)), mm_refusedF, nF', eF', hF') ∧ mK (pT_K T) (va_up (va_up mmI 1 0) 62 (nI (T.1 / 3))) nF' eF' hF' := by
  have g := of_decide_eq_true hx
  obtain ⟨n, e, k, e1, e2⟩ := m_mark_tail N hN (mm_earsF := mm_earsF) (rf := mm_refusedF) (nF := mm_markNightF) (eF := mm_markEarF) (hF := mm_markIsF) h (by omega) g.1
  refine ⟨n, e, k, ?_, e2⟩
  unfold fX12_mark
  rw [h.1, if_neg (nI_nle (by omega) (by omega))]
  show xq_bd (xq_rm (nI T.1) (nI 3)) _ = _
  rw [xs_rm (by omega) (by decide) (by decide), xs_bd, if_pos (show nI (T.1 % 3) = 0 by rw [g.1]; rfl), if_neg (show ¬ (48 : Int32) < nI T.1 from fun z => by have := (nI_ltI (a := 48) (by omega) (by omega)).mp z; omega)]
  refine (m_mark_go (H := H) N hN hb h13 hme hE h (by omega) g.1 hlt).trans ?_
  rw [if_pos g.2.2.2]
  exact e1
end MM
