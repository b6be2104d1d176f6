/-! the reference looks ahead -/
section
variable (N : Nat) {T : PT} {tF : Nat → Int32}
/-- the loop over a word or a number -/
theorem m_run (hN : 5000 ≤ N) (hT : T.1 ≤ 1600) (htF : ∀ i, i < T.1 → tF i = nI (T.2 i) ∧ T.2 i < 256) {a b : Nat} (hab : a < b) (hb : b ≤ T.1) {wd : Bool} (hrun : ∀ j, a ≤ j → j < b → (if wd = true then lxL (T.2 j) else lxD (T.2 j)) = true) (hend : b < T.1 → (if wd = true then lxL (T.2 b) else lxD (T.2 b)) = false) {I : Nat → Int32} {J : Nat → Int64} (h2 : I 2 = nI T.1) (h6 : I 6 = 0) (hJ7 : J 7 = 0) {jo : Prop} [Decidable jo] (h12 : I 12 = if jo then nI a else -1) {most : Nat} (hm : most = if wd = true then 6 else 4) :
    ∃ I' J', xq_loop (fX12_ahead_l204 N tF) N (I, J, nI a, p_b wd, p_b (!wd), nI most, 0) = some (I', J') ∧ I' 5 = nI b ∧ (∀ j, ¬ (j = 5 ∨ j = 6 ∨ j = 12) → I' j = I j) ∧ (∀ j, ¬ j = 7 → J' j = J j) ∧ I' 12 = (if jo then nI a else if most < b - a then nI (a + most) else -1) ∧ (wd = false → b - a ≤ 4 → I' 6 = nI (lx10 T a (b - a))) ∧ (wd = true → b - a ≤ 6 → J' 7 = lN (pw256 (fun i => T.2 (a + i)) (b - a))) := by
  have hm6 : 4 ≤ most ∧ most ≤ 6 := by rw [hm]; split <;> omega
  refine xs_loopI (body := fX12_ahead_l204 N tF) (fun r st => ∃ k I' J', st = (I', J', nI (a + k), p_b wd, p_b (!wd), nI most, nI k) ∧ k + r = b - a ∧ (∀ j, ¬ (j = 5 ∨ j = 6 ∨ j = 12) → I' j = I j) ∧ (∀ j, ¬ j = 7 → J' j = J j) ∧ I' 12 = (if jo then nI a else if most < k then nI (a + most) else -1) ∧ (wd = false → I' 6 = nI (lx10 T a (min k 4))) ∧ (wd = true → J' 7 = lN (pw256 (fun i => T.2 (a + i)) (min k 6)))) (fun q => ∃ I' J', q = some (I', J') ∧ I' 5 = nI b ∧ (∀ j, ¬ (j = 5 ∨ j = 6 ∨ j = 12) → I' j = I j) ∧ (∀ j, ¬ j = 7 → J' j = J j) ∧ I' 12 = (if jo then nI a else if most < b - a then nI (a + most) else -1) ∧ (wd = false → b - a ≤ 4 → I' 6 = nI (lx10 T a (b - a))) ∧ (wd = true → b - a ≤ 6 → J' 7 = lN (pw256 (fun i => T.2 (a + i)) (b - a)))) ?_ N (b - a) _ ⟨0, I, J, rfl, by omega, fun _ _ => rfl, fun _ _ => rfl, by rw [h12, if_neg (show ¬ most < 0 by omega)], fun _ => h6, fun _ => hJ7⟩ (by omega)
  rintro r st kk ⟨k, I', J', rfl, hr, k1, k2, k3, k4, k5⟩ hgo
  have e2 : I' 2 = nI T.1 := (k1 2 (by omega)).trans h2
  dsimp only [fX12_ahead_l204]
  rw [e2]
  have fin : k = b - a → ∃ I9 J9, some (va_up I' 5 (nI (a + k)), J') = some (I9, J9) ∧ I9 5 = nI b ∧ (∀ j, ¬ (j = 5 ∨ j = 6 ∨ j = 12) → I9 j = I j) ∧ (∀ j, ¬ j = 7 → J9 j = J j) ∧ I9 12 = (if jo then nI a else if most < b - a then nI (a + most) else -1) ∧ (wd = false → b - a ≤ 4 → I9 6 = nI (lx10 T a (b - a))) ∧ (wd = true → b - a ≤ 6 → J9 7 = lN (pw256 (fun i => T.2 (a + i)) (b - a))) := by
    intro ek
    refine ⟨_, _, rfl, ?_, fun j hj => ?_, k2, ?_, fun w1 w2 => ?_, fun w1 w2 => ?_⟩
    · show nI (a + k) = nI b
      rw [show a + k = b by omega]
    · rw [va_up_ne _ _ (by omega)]; exact k1 j hj
    · show I' 12 = _
      rw [k3, ek]
    · show I' 6 = _
      rw [k4 w1, show min k 4 = b - a by omega]
    · rw [k5 w1, show min k 6 = b - a by omega]
  by_cases ck : k = b - a
  · by_cases cb : T.1 ≤ a + k
    · rw [if_pos (nI_le cb (by omega))]; exact fin ck
    · have hbk := htF (a + k) (by omega)
      rw [if_neg (nI_ge (by omega) (by omega)), xs_ald (by omega) (by decide), xs_bd, xs_bd, hbk.1, m_isD N _ hbk.2, m_isL N _ hbk.2, xs_bd, xs_bd]
      have he := hend (by omega)
      cases wd with
      | true =>
        rw [if_pos rfl, show b = a + k by omega] at he
        rw [if_neg (show ¬ p_b true = 0 by decide), he, if_pos (show p_b false = 0 from rfl)]; exact fin ck
      | false =>
        rw [if_neg (by decide), show b = a + k by omega] at he
        rw [if_pos (show p_b false = 0 from rfl), he, if_pos (show p_b false = 0 from rfl)]; exact fin ck
  · have hkb : a + k < b := by omega
    have hbk := htF (a + k) (by omega)
    have hru := hrun (a + k) (by omega) hkb
    rw [if_neg (nI_ge (by omega) (by omega)), xs_ald (by omega) (by decide), xs_bd, xs_bd, hbk.1, m_isD N _ hbk.2, m_isL N _ hbk.2, xs_bd, xs_bd]
    -- the step itself
    have step : ∃ I9 J9, fX12_ahead_b243 N tF kk (I', J', nI (a + k), p_b wd, p_b (!wd), nI most, nI k) = kk (I9, J9, nI (a + (k + 1)), p_b wd, p_b (!wd), nI most, nI (k + 1)) ∧ (∀ j, ¬ (j = 5 ∨ j = 6 ∨ j = 12) → I9 j = I j) ∧ (∀ j, ¬ j = 7 → J9 j = J j) ∧ I9 12 = (if jo then nI a else if most < k + 1 then nI (a + most) else -1) ∧ (wd = false → I9 6 = nI (lx10 T a (min (k + 1) 4))) ∧ (wd = true → J9 7 = lN (pw256 (fun i => T.2 (a + i)) (min (k + 1) 6))) := by
      have tail : ∀ I8 : Nat → Int32, (∀ j, ¬ (j = 5 ∨ j = 6 ∨ j = 12) → I8 j = I j) → I8 6 = I' 6 → I8 12 = (if jo then nI a else if most < k + 1 then nI (a + most) else -1) → ∃ I9 J9, fX12_ahead_b263 N tF kk (I8, J', nI (a + k), p_b wd, p_b (!wd), nI most, nI k) = kk (I9, J9, nI (a + (k + 1)), p_b wd, p_b (!wd), nI most, nI (k + 1)) ∧ (∀ j, ¬ (j = 5 ∨ j = 6 ∨ j = 12) → I9 j = I j) ∧ (∀ j, ¬ j = 7 → J9 j = J j) ∧ I9 12 = (if jo then nI a else if most < k + 1 then nI (a + most) else -1) ∧ (wd = false → I9 6 = nI (lx10 T a (min (k + 1) 4))) ∧ (wd = true → J9 7 = lN (pw256 (fun i => T.2 (a + i)) (min (k + 1) 6))) := by
        intro I8 q1 q2 q3
        dsimp only [fX12_ahead_b263]
        by_cases cm : most ≤ k
        · rw [if_pos (nI_le cm (by omega))]
          dsimp only [fX12_ahead_b293]
          rw [if_pos (nI_le cm (by omega))]
          dsimp only [fX12_ahead_b325]
          rw [nI_1, nI_1]
          refine ⟨I8, J', rfl, q1, k2, q3, fun w1 => ?_, fun w1 => ?_⟩
          · rw [q2, k4 w1]
            rw [w1, if_neg (by decide)] at hm
            rw [show min (k + 1) 4 = min k 4 by omega]
          · rw [k5 w1]
            rw [w1, if_pos rfl] at hm
            rw [show min (k + 1) 6 = min k 6 by omega]
        · rw [if_neg (nI_ge (by omega) (by omega))]
          cases wd with
          | true =>
            rw [if_pos rfl] at hm
            rw [if_neg (show ¬ p_b true = 0 by decide), xs_ald (by omega) (by decide), xs_bd, hbk.1]
            dsimp only [fX12_ahead_b293]
            rw [if_neg (nI_ge (by omega) (by omega)), if_pos (show p_b (!true) = 0 from rfl)]
            dsimp only [fX12_ahead_b325]
            rw [nI_1, nI_1]
            refine ⟨I8, _, rfl, q1, fun j hj => (va_up_ne _ _ hj).trans (k2 j hj), q3, fun w1 => (by cases w1), fun _ => ?_⟩
            show (J' 7 <<< ((8 : Int32).toInt64 &&& 63)) ||| (nI (T.2 (a + k))).toInt64 = _
            have hpl : pw256 (fun i => if i < k then T.2 (a + i) else 0) k < 256 ^ k := pw_lt (fun i => by
              by_cases c : i < k
              · rw [if_pos c]; exact (htF (a + i) (by omega)).2
              · rw [if_neg c]; omega) k
            have hpe : pw256 (fun i => if i < k then T.2 (a + i) else 0) k = pw256 (fun i => T.2 (a + i)) k := pw_cg fun i hi => by rw [if_pos hi]
            rw [hpe] at hpl
            have hpow : 256 ^ k ≤ 256 ^ 5 := Nat.pow_le_pow_right (by decide) (by omega)
            have e5 : (256 : Nat) ^ 5 = 1099511627776 := rfl
            rw [k5 rfl, show min k 6 = k by omega, lx_w8 (by omega) hbk.2, show min (k + 1) 6 = k + 1 by omega]
            rfl
          | false =>
            rw [if_neg (by decide)] at hm
            rw [if_pos (show p_b false = 0 from rfl)]
            dsimp only [fX12_ahead_b293]
            rw [if_neg (nI_ge (by omega) (by omega)), if_neg (show ¬ p_b (!false) = 0 by decide), xs_ald (by omega) (by decide), xs_bd, hbk.1]
            dsimp only [fX12_ahead_b325]
            rw [nI_1, nI_1]
            rw [if_neg (by decide)] at hru
            have hd := of_decide_eq_true hru
            refine ⟨_, J', rfl, fun j hj => (va_up_ne _ _ (by omega)).trans (q1 j hj), k2, q3, fun _ => ?_, fun w1 => (by cases w1)⟩
            show 10 * I8 6 + nI (T.2 (a + k)) - 48 = _
            rw [q2, k4 rfl, show min k 4 = k by omega, mx10, show nI (10 * lx10 T a k + T.2 (a + k)) - 48 = nI (10 * lx10 T a k + T.2 (a + k) - 48) from pk_sub (b := 48) (by omega), show min (k + 1) 4 = k + 1 by omega]
            refine nI_c ?_
            show _ = lx10 T a k * 10 + (T.2 (a + k) - 48)
            omega
      dsimp only [fX12_ahead_b243]
      by_cases ckm : k = most
      · rw [if_pos (by rw [ckm])]
        by_cases cj : jo
        · have e12 : I' 12 = nI a := by rw [k3, if_pos cj]
          rw [e12, if_neg (nI_nm1 (by omega))]
          exact tail I' k1 rfl (by rw [e12, if_pos cj])
        · have e12 : I' 12 = -1 := by rw [k3, if_neg cj, if_neg (by omega)]
          rw [e12, if_pos rfl]
          refine tail _ (fun j hj => (va_up_ne _ _ (by omega)).trans (k1 j hj)) rfl ?_
          show nI (a + k) = _
          rw [if_neg cj, if_pos (by omega), ckm]
      · rw [if_neg (fun z => ckm ((nI_eq (by omega) (by omega)).mp z))]
        refine tail I' k1 rfl ?_
        rw [k3]
        by_cases cj : jo
        · rw [if_pos cj, if_pos cj]
        · rw [if_neg cj, if_neg cj]
          by_cases c : most < k
          · rw [if_pos c, if_pos (by omega)]
          · rw [if_neg c, if_neg (by omega)]
    obtain ⟨I9, J9, s1, s2, s3, s4, s5, s6⟩ := step
    have go : ∃ I' J', kk (I9, J9, nI (a + (k + 1)), p_b wd, p_b (!wd), nI most, nI (k + 1)) = some (I', J') ∧ I' 5 = nI b ∧ (∀ j, ¬ (j = 5 ∨ j = 6 ∨ j = 12) → I' j = I j) ∧ (∀ j, ¬ j = 7 → J' j = J j) ∧ I' 12 = (if jo then nI a else if most < b - a then nI (a + most) else -1) ∧ (wd = false → b - a ≤ 4 → I' 6 = nI (lx10 T a (b - a))) ∧ (wd = true → b - a ≤ 6 → J' 7 = lN (pw256 (fun i => T.2 (a + i)) (b - a))) := hgo _ (r - 1) (by omega) ⟨k + 1, I9, J9, rfl, by omega, s2, s3, s4, s5, s6⟩
    cases wd with
    | true =>
      rw [if_pos rfl] at hru
      rw [if_neg (show ¬ p_b true = 0 by decide), hru, if_neg (show ¬ p_b true = 0 by decide), s1]; exact go
    | false =>
      rw [if_neg (by decide)] at hru
      rw [if_pos (show p_b false = 0 from rfl), hru, if_neg (show ¬ p_b true = 0 by decide), s1]; exact go
/-- the blanks -/
theorem m_skip (hN : 5000 ≤ N) (hT : T.1 ≤ 1600) (htF : ∀ i, i < T.1 → tF i = nI (T.2 i) ∧ T.2 i < 256) {e : Nat} (he : e ≤ T.1) {I : Nat → Int32} {J : Nat → Int64} (h2 : I 2 = nI T.1) : xq_loop (fX12_ahead_l5 N tF) N (I, J, nI e) = fX12_ahead_b41 N tF (I, J, nI (lxS T e)) := by
  obtain ⟨s1, s2, s3, s4⟩ := lxS_s T he
  refine xs_loop (body := fX12_ahead_l5 N tF) (fun k => (I, J, nI (e + k))) (lxS T e - e) _ ?_ ?_ N (by omega)
  · intro k hk kk
    have hp := of_decide_eq_true (s3 (e + k) (by omega) (by omega))
    dsimp only [fX12_ahead_l5]
    rw [h2, if_neg (nI_ge (by omega) (by omega)), xs_ald (by omega) (by decide), xs_bd, xs_bd, (htF (e + k) (by omega)).1]
    by_cases c : T.2 (e + k) = 32
    · rw [c, if_pos (show nI 32 = 32 from rfl)]
      dsimp only [fX12_ahead_b35]
      rw [nI_1]; rfl
    · have : T.2 (e + k) = 10 := by omega
      rw [this, if_neg (show ¬ nI 10 = (32 : Int32) by decide), if_pos (show nI 10 = 10 from rfl)]
      dsimp only [fX12_ahead_b35]
      rw [nI_1]; rfl
  · intro kk
    dsimp only [fX12_ahead_l5]
    rw [show e + (lxS T e - e) = lxS T e by omega, h2]
    by_cases c : T.1 ≤ lxS T e
    · rw [if_pos (nI_le c (by omega))]
    · have hp := of_decide_eq_false (s4 (by omega))
      have hb := htF (lxS T e) (by omega)
      rw [if_neg (nI_ge (by omega) (by omega)), xs_ald (by omega) (by decide), xs_bd, xs_bd, hb.1, if_neg (show ¬ nI (T.2 (lxS T e)) = (32 : Int32) from fun z => by have := (nI_eq (b := 32) (by omega) (by omega)).mp z; omega), if_neg (show ¬ nI (T.2 (lxS T e)) = (10 : Int32) from fun z => by have := (nI_eq (b := 10) (by omega) (by omega)).mp z; omega)]
end
