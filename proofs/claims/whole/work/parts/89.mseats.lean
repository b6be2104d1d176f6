/-! seats in the reference -/
def m_ok (G : Nat → Nat → Nat) (E e0 : Nat) (mf : Nat → Int32) : Prop := ∀ e, e0 ≤ e → e ≤ E → ∀ T, T < 1024 → pc T = e → mf (1024 * e + T) = nI (st_V G (E - e) e T)
theorem m_from (N e T : Nat) : fX12_from N (nI e) (nI T) = some (nI (1024 * e + T)) := by
  unfold fX12_from
  show some (nI 1024 * nI e + nI T) = _
  rw [pk_mul, nI_add]
section MS
variable {X2 Y : Nat → Nat → Int32} {mmI a hf : Nat → Int32} {s : Nat → Int64} {G : Nat → Nat → Nat} {E : Nat}
theorem m_l146 (N : Nat) (hN : 5000 ≤ N) (hE : E ≤ 7) (hG : ∀ e r, G e r ≤ 40) (hg : ∀ e r, e < 7 → r < 10 → hf (10 * e + r) = nI (G e r)) (y : Int32) (k125 k132 : _) (mf : Nat → Int32) (e T : Nat) (he : e < E) (hT : T < 1024) (hok : m_ok G E (e + 1) mf) : ∃ x, xq_loop (fX12_seats_l146 N mmI (Y 5) (Y 0) (Y 1) (Y 2) (Y 3) (Y 4) (Y 6) (Y 7) (Y 8) k125 k132) N (X2 0, X2 1, X2 2, X2 3, X2 4, X2 5, X2 6, X2 7, X2 8, hf, a, s, mf, y, nI e, nI T, -1, 0) = k132 (X2 0, X2 1, X2 2, X2 3, X2 4, X2 5, X2 6, X2 7, X2 8, hf, a, s, upd mf (1024 * e + T) x, y, nI e, nI (T + 1)) ∧ (pc T = e → x = nI (st_V G (E - e) e T)) := by
  refine xs_loopI (body := fX12_seats_l146 N mmI (Y 5) (Y 0) (Y 1) (Y 2) (Y 3) (Y 4) (Y 6) (Y 7) (Y 8) k125 k132) (fun k st => ∃ z r, st = (X2 0, X2 1, X2 2, X2 3, X2 4, X2 5, X2 6, X2 7, X2 8, hf, a, s, mf, y, nI e, nI T, z, nI r) ∧ r + k = 10 ∧ (pc T = e → z = if st_rw T (st_val G E e T) r = 1000 then -1 else nI (st_mx T (st_val G E e T) r))) (fun q => ∃ x, q = k132 (X2 0, X2 1, X2 2, X2 3, X2 4, X2 5, X2 6, X2 7, X2 8, hf, a, s, upd mf (1024 * e + T) x, y, nI e, nI (T + 1)) ∧ (pc T = e → x = nI (st_V G (E - e) e T))) ?_ N 10 _ ⟨-1, 0, rfl, by omega, fun _ => rfl⟩ (by omega)
  rintro k st kk ⟨z, r, rfl, hr, hz⟩ hgo
  dsimp only [fX12_seats_l146]
  have hv : ∀ r, st_val G E e T r ≤ 400 := fun r => by
    have := hG e r
    have := st_V_le hG (E - (e + 1)) (e + 1) (T + 2 ^ r)
    unfold st_val; omega
  by_cases c : r < 10
  · rw [if_neg (show ¬ (10 : Int32) ≤ nI r from nI_ge (b := 10) c (by omega)), m_has2 N (by omega) (by omega), xs_bd]
    have hbit : T / 2 ^ r % 2 < 2 := Nat.mod_lt _ (by omega)
    have inv := st_inv T (st_val G E e T) r (by omega)
    by_cases f : T / 2 ^ r % 2 = 0
    · obtain ⟨f1, f2, f3⟩ := st_free T hT r c f
      rw [f, if_pos (show nI 0 = (0 : Int32) from rfl), xs_orrow hT c f, nI_1, m_from, xs_bd, xs_ald (show 1024 * (e + 1) + (T + 2 ^ r) < 8192 by omega) (by omega), xs_bd]
      by_cases cm : mf (1024 * (e + 1) + (T + 2 ^ r)) = -1
      · rw [if_pos cm]
        dsimp only [fX12_seats_b229]
        rw [nI_1]
        refine hgo _ (k - 1) (by omega) ⟨z, r + 1, rfl, by omega, fun hp => ?_⟩
        have := hok (e + 1) (Nat.le_refl _) (by omega) (T + 2 ^ r) f3 (by rw [f2, hp])
        rw [this] at cm
        exact absurd cm (nI_nm1 (by have := st_V_le hG (E - (e + 1)) (e + 1) (T + 2 ^ r); omega))
      · rw [if_neg cm, mx10, xs_ald (show 10 * e + r < 70 by omega) (by omega), xs_bd, hg e r (by omega) c]
        -- what it becomes
        have upd1 : ∀ z', (pc T = e → z' = if st_rw T (st_val G E e T) (r + 1) = 1000 then -1 else nI (st_mx T (st_val G E e T) (r + 1))) → ∃ x, kk (X2 0, X2 1, X2 2, X2 3, X2 4, X2 5, X2 6, X2 7, X2 8, hf, a, s, mf, y, nI e, nI T, z', nI (r + 1)) = k132 (X2 0, X2 1, X2 2, X2 3, X2 4, X2 5, X2 6, X2 7, X2 8, hf, a, s, upd mf (1024 * e + T) x, y, nI e, nI (T + 1)) ∧ (pc T = e → x = nI (st_V G (E - e) e T)) := fun z' hz' => hgo _ (k - 1) (by omega) ⟨z', r + 1, rfl, by omega, hz'⟩
        have hval : pc T = e → mf (1024 * (e + 1) + (T + 2 ^ r)) + nI (G e r) = nI (st_val G E e T r) := fun hp => by
          rw [hok (e + 1) (Nat.le_refl _) (by omega) (T + 2 ^ r) f3 (by rw [f2, hp]), nI_add]
          unfold st_val
          exact nI_c (by omega)
        have hvr := hv r
        by_cases cl : mf (1024 * (e + 1) + (T + 2 ^ r)) + nI (G e r) ≤ z
        · rw [if_pos cl]
          dsimp only [fX12_seats_b229]
          rw [nI_1]
          refine upd1 z (fun hp => ?_)
          rw [hval hp, hz hp] at cl
          rcases inv with ⟨i1, i2, i3⟩ | ⟨i1, i2, i3, i4, i5⟩
          · rw [i1, if_pos rfl] at cl
            exact absurd cl (by rw [fa_le, nI_toInt (by omega)]; show ¬ _ ≤ (-1 : Int); omega)
          · have hm := hv (st_rw T (st_val G E e T) r)
            rw [if_neg (by omega)] at cl
            have cl := (nI_leI (by omega) (by omega)).mp cl
            have er : st_rw T (st_val G E e T) (r + 1) = st_rw T (st_val G E e T) r := by
              rw [st_rw_s, if_neg (fun w => by rcases w.2 with w | w <;> omega)]
            have em : st_mx T (st_val G E e T) (r + 1) = st_mx T (st_val G E e T) r := by
              rw [st_mx_s, if_neg (fun w => by omega)]
            rw [er, em]
            exact hz hp
        · rw [if_neg cl, xs_bd]
          dsimp only [fX12_seats_b229]
          rw [nI_1]
          refine upd1 _ (fun hp => ?_)
          rw [hval hp, hz hp] at cl
          rw [hval hp]
          rcases inv with ⟨i1, i2, i3⟩ | ⟨i1, i2, i3, i4, i5⟩
          · have er : st_rw T (st_val G E e T) (r + 1) = r := by rw [st_rw_s, if_pos ⟨f, Or.inl i1⟩]
            have em : st_mx T (st_val G E e T) (r + 1) = st_val G E e T r := by
              rw [st_mx_s, i2]
              by_cases q : 0 < st_val G E e T r
              · rw [if_pos ⟨f, q⟩]
              · rw [if_neg (fun w => q w.2)]; omega
            rw [er, em, if_neg (by omega)]
          · have hm := hv (st_rw T (st_val G E e T) r)
            rw [if_neg (by omega)] at cl
            have cl : ¬ st_val G E e T r ≤ st_mx T (st_val G E e T) r := fun w => cl ((nI_leI (by omega) (by omega)).mpr w)
            have er : st_rw T (st_val G E e T) (r + 1) = r := by rw [st_rw_s, if_pos ⟨f, Or.inr (by omega)⟩]
            have em : st_mx T (st_val G E e T) (r + 1) = st_val G E e T r := by rw [st_mx_s, if_pos ⟨f, by omega⟩]
            rw [er, em, if_neg (by omega)]
    · have f1 : T / 2 ^ r % 2 = 1 := by omega
      rw [f1, if_neg (show ¬ nI 1 = (0 : Int32) from by decide)]
      dsimp only [fX12_seats_b229]
      rw [nI_1]
      refine hgo _ (k - 1) (by omega) ⟨z, r + 1, rfl, by omega, fun hp => ?_⟩
      have er : st_rw T (st_val G E e T) (r + 1) = st_rw T (st_val G E e T) r := by rw [st_rw_s, if_neg (fun w => by omega)]
      have em : st_mx T (st_val G E e T) (r + 1) = st_mx T (st_val G E e T) r := by rw [st_mx_s, if_neg (fun w => by omega)]
      rw [er, em]
      exact hz hp
  · have : r = 10 := by omega
    subst this
    rw [if_pos (show (10 : Int32) ≤ nI 10 from by decide), m_from, xs_bd, xs_ast (show 1024 * e + T < 8192 by omega) (by omega), xs_bd, nI_1]
    refine ⟨z, rfl, fun hp => ?_⟩
    obtain ⟨g1, g2, g3, -⟩ := st_full hT (by omega) (st_val G E e T)
    rw [hz hp, if_neg (by omega), st_V_e he]
theorem m_l132 (N : Nat) (hN : 5000 ≤ N) (hE : E ≤ 7) (hG : ∀ e r, G e r ≤ 40) (hg : ∀ e r, e < 7 → r < 10 → hf (10 * e + r) = nI (G e r)) (y : Int32) (k125 : _) (mf : Nat → Int32) (e : Nat) (he : e < E) (hok : m_ok G E (e + 1) mf) : ∃ mf', xq_loop (fX12_seats_l132 N mmI (Y 5) (Y 0) (Y 1) (Y 2) (Y 3) (Y 4) (Y 6) (Y 7) (Y 8) k125) N (X2 0, X2 1, X2 2, X2 3, X2 4, X2 5, X2 6, X2 7, X2 8, hf, a, s, mf, y, nI e, 0) = k125 (X2 0, X2 1, X2 2, X2 3, X2 4, X2 5, X2 6, X2 7, X2 8, hf, a, s, mf', y, nI e + (-1)) ∧ m_ok G E e mf' := by
  refine xs_loopI (body := fX12_seats_l132 N mmI (Y 5) (Y 0) (Y 1) (Y 2) (Y 3) (Y 4) (Y 6) (Y 7) (Y 8) k125) (fun k st => ∃ mf' T, st = (X2 0, X2 1, X2 2, X2 3, X2 4, X2 5, X2 6, X2 7, X2 8, hf, a, s, mf', y, nI e, nI T) ∧ T + k = 1024 ∧ m_ok G E (e + 1) mf' ∧ ∀ T', T' < T → pc T' = e → mf' (1024 * e + T') = nI (st_V G (E - e) e T')) (fun q => ∃ mf', q = k125 (X2 0, X2 1, X2 2, X2 3, X2 4, X2 5, X2 6, X2 7, X2 8, hf, a, s, mf', y, nI e + (-1)) ∧ m_ok G E e mf') ?_ N 1024 _ ⟨mf, 0, rfl, by omega, hok, fun T' h => absurd h (Nat.not_lt_zero _)⟩ (by omega)
  rintro k st kk ⟨mf', T, rfl, hT, h1, h2⟩ hgo
  dsimp only [fX12_seats_l132]
  by_cases c : T < 1024
  · rw [if_neg (show ¬ (1024 : Int32) ≤ nI T from nI_ge (b := 1024) c (by omega))]
    obtain ⟨x, e1, e2⟩ := m_l146 N hN hE hG hg (X2 := X2) (Y := Y) (mmI := mmI) (a := a) (s := s) y k125 kk mf' e T he c h1
    rw [e1]
    refine hgo _ (k - 1) (by omega) ⟨_, T + 1, rfl, by omega, fun e' h3 h4 T' h5 h6 => ?_, fun T' h5 h6 => ?_⟩
    · rw [pk_un (by omega)]; exact h1 e' h3 h4 T' h5 h6
    · by_cases g : T' = T
      · subst g; rw [pk_us]; exact e2 h6
      · rw [pk_un (by omega)]; exact h2 T' (by omega) h6
  · have : T = 1024 := by omega
    subst this
    rw [if_pos (show (1024 : Int32) ≤ nI 1024 from by decide)]
    refine ⟨mf', rfl, fun e' h3 h4 T' h5 h6 => ?_⟩
    by_cases g : e' = e
    · subst g; exact h2 T' h5 h6
    · exact h1 e' (by omega) h4 T' h5 h6
/-- the seats, EAR by EAR -/
theorem m_l280 (N : Nat) (hN : 5000 ≤ N) (hE : E ≤ 7) (hG : ∀ e r, G e r ≤ 40) (hg : ∀ e r, e < 7 → r < 10 → hf (10 * e + r) = nI (G e r)) (mf : Nat → Int32) (ear : Nat) (he : ear < E) (hok : m_ok G E 0 mf) : xq_loop (fX12_seats_l280 N mmI (Y 5) (Y 0) (Y 1) (Y 2) (Y 3) (Y 4) (Y 6) (Y 7) (Y 8)) N (X2 0, X2 1, X2 2, X2 3, X2 4, X2 5, X2 6, X2 7, X2 8, hf, a, s, mf, nI ear, 0, -1, 0) = some (nI (st_sr G E ear), X2 0, X2 1, X2 2, X2 3, X2 4, X2 5, X2 6, X2 7, X2 8, hf, a, s, mf) := by
  refine xs_loopI (body := fX12_seats_l280 N mmI (Y 5) (Y 0) (Y 1) (Y 2) (Y 3) (Y 4) (Y 6) (Y 7) (Y 8)) (fun k st => ∃ e, st = (X2 0, X2 1, X2 2, X2 3, X2 4, X2 5, X2 6, X2 7, X2 8, hf, a, s, mf, nI ear, nI (st_tk G E e), (if e = 0 then -1 else nI (st_sr G E (e - 1))), nI e) ∧ e + k = ear + 1) (fun q => q = some (nI (st_sr G E ear), X2 0, X2 1, X2 2, X2 3, X2 4, X2 5, X2 6, X2 7, X2 8, hf, a, s, mf)) ?_ N (ear + 1) _ ⟨0, rfl, by omega⟩ (by omega)
  rintro k st kk ⟨e, rfl, hk⟩ hgo
  dsimp only [fX12_seats_l280]
  by_cases c : e ≤ ear
  · rw [if_neg (nI_nlt c (by omega))]
    obtain ⟨t1, t2⟩ := st_tk_ok G E e (by omega)
    obtain ⟨c3, d3, m3, n3⟩ := st_full t1 (by omega) (st_val G E e (st_tk G E e))
    have hmost : mf (1024 * e + st_tk G E e) = nI (st_mx (st_tk G E e) (st_val G E e (st_tk G E e)) 10) := by
      rw [hok e (Nat.zero_le _) (by omega) _ t1 t2, st_V_e (by omega)]
    have hv : ∀ r, st_val G E e (st_tk G E e) r ≤ 400 := fun r => by
      have := hG e r
      have := st_V_le hG (E - (e + 1)) (e + 1) (st_tk G E e + 2 ^ r)
      unfold st_val; omega
    -- behind the row
    have fin : fX12_seats_b383 N mmI (Y 5) (Y 0) (Y 1) (Y 2) (Y 3) (Y 4) (Y 6) (Y 7) (Y 8) kk (X2 0, X2 1, X2 2, X2 3, X2 4, X2 5, X2 6, X2 7, X2 8, hf, a, s, mf, nI ear, nI (st_tk G E e), nI (st_sr G E e), nI e) = some (nI (st_sr G E ear), X2 0, X2 1, X2 2, X2 3, X2 4, X2 5, X2 6, X2 7, X2 8, hf, a, s, mf) := by
      dsimp only [fX12_seats_b383]
      rw [xs_orrow t1 (show st_sr G E e < 10 from c3) d3, nI_1]
      exact hgo _ (k - 1) (by omega) ⟨e + 1, rfl, by omega⟩
    refine xs_loopI (body := fX12_seats_l292 N mmI (Y 5) (Y 0) (Y 1) (Y 2) (Y 3) (Y 4) (Y 6) (Y 7) (Y 8) kk) (fun k2 st => (∃ r, st = (X2 0, X2 1, X2 2, X2 3, X2 4, X2 5, X2 6, X2 7, X2 8, hf, a, s, mf, nI ear, nI (st_tk G E e), -1, nI e, nI r) ∧ r ≤ st_sr G E e ∧ r + k2 = 11) ∨ (st = (X2 0, X2 1, X2 2, X2 3, X2 4, X2 5, X2 6, X2 7, X2 8, hf, a, s, mf, nI ear, nI (st_tk G E e), nI (st_sr G E e), nI e, nI (st_sr G E e + 1)))) (fun q => q = some (nI (st_sr G E ear), X2 0, X2 1, X2 2, X2 3, X2 4, X2 5, X2 6, X2 7, X2 8, hf, a, s, mf)) ?_ N 11 _ (Or.inl ⟨0, rfl, Nat.zero_le _, by omega⟩) (by omega)
    rintro k2 st kk2 hst hgo2
    rcases hst with ⟨r, rfl, hr, hk2⟩ | rfl
    · have hr10 : r < 10 := Nat.lt_of_le_of_lt hr c3
      dsimp only [fX12_seats_l292]
      rw [if_neg (show ¬ (10 : Int32) ≤ nI r from nI_ge (b := 10) hr10 (by omega)), if_pos (show (-1 : Int32) = -1 from rfl), m_has2 N (by omega) (by omega), xs_bd]
      have hbit : st_tk G E e / 2 ^ r % 2 < 2 := Nat.mod_lt _ (by omega)
      by_cases f : st_tk G E e / 2 ^ r % 2 = 0
      · obtain ⟨f1, f2, f3⟩ := st_free _ t1 r hr10 f
        have hrest := hok (e + 1) (Nat.zero_le _) (by omega) _ f3 (by rw [f2, t2])
        have hV := st_V_le hG (E - (e + 1)) (e + 1) (st_tk G E e + 2 ^ r)
        rw [f, if_pos (show nI 0 = (0 : Int32) from rfl), xs_orrow t1 hr10 f, nI_1, m_from, xs_bd, xs_ald (show 1024 * (e + 1) + (st_tk G E e + 2 ^ r) < 8192 by omega) (by omega), xs_bd, hrest, if_neg (nI_nm1 (by omega)), mx10, xs_ald (show 10 * e + r < 70 by omega) (by omega), xs_bd, hg e r (by omega) hr10, m_from, xs_bd, xs_ald (show 1024 * e + st_tk G E e < 8192 by omega) (by omega), xs_bd, hmost, nI_add]
        have hval : st_V G (E - (e + 1)) (e + 1) (st_tk G E e + 2 ^ r) + G e r = st_val G E e (st_tk G E e) r := by unfold st_val; omega
        rw [hval]
        have h1 := hv r
        have h2 := hv (st_rw (st_tk G E e) (st_val G E e (st_tk G E e)) 10)
        by_cases q : r = st_sr G E e
        · rw [if_pos (by rw [q, m3]; rfl)]
          dsimp only [fX12_seats_b377]
          rw [nI_1, q]
          exact hgo2 _ 0 (by omega) (Or.inr rfl)
        · have := n3 r (Nat.lt_of_le_of_ne hr q) f
          rw [if_neg (fun w => by have := (nI_eq (by omega) (by omega)).mp w; omega)]
          dsimp only [fX12_seats_b377]
          rw [nI_1]
          exact hgo2 _ (k2 - 1) (by omega) (Or.inl ⟨r + 1, rfl, Nat.lt_of_le_of_ne hr q, by omega⟩)
      · have f1 : st_tk G E e / 2 ^ r % 2 = 1 := by omega
        rw [f1, if_neg (show ¬ nI 1 = (0 : Int32) from by decide)]
        dsimp only [fX12_seats_b377]
        rw [nI_1]
        have q : r ≠ st_sr G E e := fun w => f (by rw [w]; exact d3)
        exact hgo2 _ (k2 - 1) (by omega) (Or.inl ⟨r + 1, rfl, Nat.lt_of_le_of_ne hr q, by omega⟩)
    · dsimp only [fX12_seats_l292]
      have c3' : st_sr G E e < 10 := c3
      by_cases g : 10 ≤ st_sr G E e + 1
      · rw [if_pos (show (10 : Int32) ≤ nI (st_sr G E e + 1) from nI_le (a := 10) g (by omega))]
        exact fin
      · rw [if_neg (show ¬ (10 : Int32) ≤ nI (st_sr G E e + 1) from nI_ge (b := 10) (by omega) (by omega)), if_neg (nI_nm1 (by omega))]
        exact fin
  · have : e = ear + 1 := by omega
    subst this
    rw [if_pos (nI_lt (by omega) (by omega)), if_neg (by omega), Nat.add_sub_cancel]
theorem m_l125 (N : Nat) (hN : 5000 ≤ N) (hE : E ≤ 7) (hG : ∀ e r, G e r ≤ 40) (hg : ∀ e r, e < 7 → r < 10 → hf (10 * e + r) = nI (G e r)) (y : Int32) (hy : y = -1 ∨ p_one_of E y = true) (mf : Nat → Int32) (hok : m_ok G E E mf) : ∃ mf', xq_loop (fX12_seats_l125 N mmI (Y 5) (Y 0) (Y 1) (Y 2) (Y 3) (Y 4) (Y 6) (Y 7) (Y 8)) N (X2 0, X2 1, X2 2, X2 3, X2 4, X2 5, X2 6, X2 7, X2 8, hf, a, s, mf, y, nI E - 1) = some ((if y = -1 then nI (st_V G E 0 0) else nI (st_sr G E y.toNatClampNeg)), X2 0, X2 1, X2 2, X2 3, X2 4, X2 5, X2 6, X2 7, X2 8, hf, a, s, mf') := by
  refine xs_loopI (body := fX12_seats_l125 N mmI (Y 5) (Y 0) (Y 1) (Y 2) (Y 3) (Y 4) (Y 6) (Y 7) (Y 8)) (fun k st => ∃ mf', (k = 0 → st = (X2 0, X2 1, X2 2, X2 3, X2 4, X2 5, X2 6, X2 7, X2 8, hf, a, s, mf', y, -1)) ∧ (0 < k → st = (X2 0, X2 1, X2 2, X2 3, X2 4, X2 5, X2 6, X2 7, X2 8, hf, a, s, mf', y, nI (k - 1))) ∧ k ≤ E ∧ m_ok G E k mf') (fun q => ∃ mf', q = some ((if y = -1 then nI (st_V G E 0 0) else nI (st_sr G E y.toNatClampNeg)), X2 0, X2 1, X2 2, X2 3, X2 4, X2 5, X2 6, X2 7, X2 8, hf, a, s, mf')) ?_ N E _ ⟨mf, fun h => by subst h; rfl, fun h => by
    have : nI E - 1 = nI (E - 1) := by show nI E - nI 1 = _; rw [pk_sub (by omega)]
    rw [this], Nat.le_refl _, hok⟩ (by omega)
  rintro k st kk ⟨mf', h0, h1, hk, h2⟩ hgo
  by_cases c : k = 0
  · rw [h0 c]
    subst c
    dsimp only [fX12_seats_l125]
    rw [if_pos (show (-1 : Int32) < 0 from by decide)]
    by_cases cy : y = -1
    · rw [if_pos cy, if_pos cy]
      show ∃ mf2, xq_bd (xq_ald 8192 mf' (nI 0)) _ = _
      have e0 : mf' 0 = nI (st_V G E 0 0) := h2 0 (Nat.le_refl _) (Nat.zero_le _) 0 (by omega) st_0
      rw [xs_ald (by omega) (by omega), xs_bd, e0]
      exact ⟨mf', rfl⟩
    · obtain ⟨e, rfl, he⟩ := p_one_yes (hy.resolve_left cy)
      rw [if_neg cy, if_neg cy, nI_clamp (by omega)]
      exact ⟨mf', m_l280 N hN hE hG hg mf' e he h2⟩
  · obtain ⟨e, rfl⟩ : ∃ e, k = e + 1 := ⟨k - 1, by omega⟩
    rw [h1 (by omega), Nat.add_sub_cancel]
    dsimp only [fX12_seats_l125]
    rw [if_neg (nI_pos (by omega))]
    obtain ⟨mf2, e1, e2⟩ := m_l132 N hN hE hG hg (X2 := X2) (Y := Y) (mmI := mmI) (a := a) (s := s) y kk mf' e (by omega) h2
    rw [e1]
    refine hgo _ e (by omega) ⟨mf2, fun h => ?_, fun h => ?_, by omega, e2⟩
    · subst h; rfl
    · obtain ⟨q, rfl⟩ : ∃ q, e = q + 1 := ⟨e - 1, by omega⟩
      rw [pk_m1, Nat.add_sub_cancel]
end MS
theorem m_seats (N : Nat) (hN : 5000 ≤ N) {H : PH} {m ro ta : Nat → Nat} (hs : hS H m) {b k : Nat} {mmI hf ask : Nat → Int32} {stk : Nat → Int64} {X Y : Nat → Nat → Int32} (hY : mHY H b mmI Y) (hfl : mFl mmI (H.1 0)) (hL : mLay H 0 m ro ta k X) {mm_mostFromF : Nat → Int32} (x y : Int32) : ∃ X' hf' a s mf', fX12_seats N mmI (X 0) (Y 5) (X 1) (X 2) (X 3) (X 4) (X 5) (X 6) (X 7) (X 8) hf (Y 0) ask (Y 1) stk (Y 2) (Y 3) (Y 4) (Y 6) (Y 7) (Y 8) mm_mostFromF x y = some (qa_seats H m ta x y, X' 0, X' 1, X' 2, X' 3, X' 4, X' 5, X' 6, X' 7, X' 8, hf', a, s, mf') ∧ mOth 1 X X' := by
  obtain ⟨b0, b1, b2, b3⟩ := hs.b
  unfold fX12_seats qa_seats
  have e1 := m_ahead N (lo := 1) (hi := 40) (ngF := X 0) hfl hL.1 b3 (by omega) (by omega) x
  show ∃ X' hf' a s mf', xq_bd (fX12_isAhead N mmI (X 0) x (nI 1) (nI 40)) _ = _ ∧ _
  rw [e1, xs_bd]
  cases ha : p_ahead (H.1 0) (m 0) x 1 40 with
  | false =>
    rw [if_pos (by rfl), if_neg (fun z => Bool.false_ne_true z.1)]
    exact ⟨X, hf, ask, stk, _, rfl, mOth.refl _ _⟩
  | true =>
    obtain ⟨g0, n, rfl, -, g1, g2⟩ := p_ahead_yes ha
    obtain ⟨hH, hm⟩ := hs.y g0
    rw [if_neg (by decide), nI_clamp (by omega)]
    have hGle : ∀ e r, p_G H m ta n e r ≤ 40 := fun e r => by have := p_gn_le H m ta (10 * e + r) n; unfold p_G; omega
    have main : (y = -1 ∨ p_one_of (H.1 1) y = true) → ∃ X' hf' a s mf', fX12_seats_b26 N mmI (Y 5) (Y 0) (Y 1) (Y 2) (Y 3) (Y 4) (Y 6) (Y 7) (Y 8) (X 0, X 1, X 2, X 3, X 4, X 5, X 6, X 7, X 8, hf, ask, stk, mm_mostFromF, nI n, y) = some ((if y = -1 then nI (st_V (p_G H m ta n) (H.1 1) 0 0) else nI (st_sr (p_G H m ta n) (H.1 1) y.toNatClampNeg)), X' 0, X' 1, X' 2, X' 3, X' 4, X' 5, X' 6, X' 7, X' 8, hf', a, s, mf') ∧ mOth 1 X X' := by
      intro hy
      dsimp only [fX12_seats_b26]
      -- the counts are 0
      refine xs_loopI (body := fX12_seats_l28 N mmI (Y 5) (Y 0) (Y 1) (Y 2) (Y 3) (Y 4) (Y 6) (Y 7) (Y 8)) (fun k' st => ∃ h1 i, st = (X 0, X 1, X 2, X 3, X 4, X 5, X 6, X 7, X 8, h1, ask, stk, mm_mostFromF, nI n, y, nI i) ∧ i + k' = 70 ∧ ∀ j, j < i → h1 j = nI 0) (fun q => ∃ X' hf' a s mf', q = some ((if y = -1 then nI (st_V (p_G H m ta n) (H.1 1) 0 0) else nI (st_sr (p_G H m ta n) (H.1 1) y.toNatClampNeg)), X' 0, X' 1, X' 2, X' 3, X' 4, X' 5, X' 6, X' 7, X' 8, hf', a, s, mf') ∧ mOth 1 X X') ?_ N 70 _ ⟨hf, 0, rfl, by omega, fun j h => absurd h (Nat.not_lt_zero _)⟩ (by omega)
      rintro k' st kk ⟨h1, i, rfl, hi, h2⟩ hgo
      show ∃ X' hf' a s mf', (if (70 : Int32) ≤ nI i then _ else _) = _ ∧ _
      by_cases c : i < 70
      · rw [if_neg (show ¬ (70 : Int32) ≤ nI i from nI_ge (b := 70) c (by omega)), xs_ast c (by omega), xs_bd, nI_1]
        refine hgo _ (k' - 1) (by omega) ⟨_, i + 1, rfl, by omega, fun j hj => ?_⟩
        by_cases g : j = i
        · subst g; exact pk_us
        · rw [pk_un g]; exact h2 j (by omega)
      · have : i = 70 := by omega
        subst this
        rw [if_pos (show (70 : Int32) ≤ nI 70 from by decide)]
        obtain ⟨X1, e2, e3, e4, -⟩ := m_copyL N hN b1 b2 (show 1 < 22 by omega) (show 0 < 22 by omega) (by omega) hL
        show ∃ X' hf' a s mf', xq_bd (fX12_copies N (X 0) (X 1) (X 2) (X 3) (X 4) (X 5) (X 6) (X 7) (X 8) (nI 1) (nI 0)) _ = _ ∧ _
        rw [e2, xs_bd]
        dsimp only
        -- the NIGHTS
        refine xs_loopI (body := fX12_seats_l55 N mmI (Y 5) (Y 0) (Y 1) (Y 2) (Y 3) (Y 4) (Y 6) (Y 7) (Y 8)) (fun k2 st => ∃ X2 h3 a s i, st = (X2 0, X2 1, X2 2, X2 3, X2 4, X2 5, X2 6, X2 7, X2 8, h3, a, s, mm_mostFromF, nI n, y, nI i) ∧ mOth 1 X X2 ∧ i + k2 = n ∧ (∃ k3, mLay H 1 (p_nights H ta (m 4) i m) ro ta k3 X2) ∧ ∀ j, j < 70 → h3 j = nI (p_gn H m ta i j)) (fun q => ∃ X' hf' a s mf', q = some ((if y = -1 then nI (st_V (p_G H m ta n) (H.1 1) 0 0) else nI (st_sr (p_G H m ta n) (H.1 1) y.toNatClampNeg)), X' 0, X' 1, X' 2, X' 3, X' 4, X' 5, X' 6, X' 7, X' 8, hf', a, s, mf') ∧ mOth 1 X X') ?_ N n _ ⟨X1, h1, ask, stk, 0, rfl, e3, by omega, ⟨_, e4⟩, h2⟩ (by omega)
        rintro k2 st kk2 ⟨X2, h3, a, s, i, rfl, ho, hi2, ⟨k3, hl2⟩, hg⟩ hgo2
        show ∃ X' hf' a' s' mf', (if nI n ≤ nI i then _ else _) = _ ∧ _
        by_cases c2 : n ≤ i
        · have : i = n := by omega
          subst this
          rw [if_pos (nI_le (Nat.le_refl _) (by omega))]
          -- the last row of the table
          refine xs_loopI (body := fX12_seats_l81 N mmI (Y 5) (Y 0) (Y 1) (Y 2) (Y 3) (Y 4) (Y 6) (Y 7) (Y 8)) (fun k4 st => ∃ mf T, st = (X2 0, X2 1, X2 2, X2 3, X2 4, X2 5, X2 6, X2 7, X2 8, h3, a, s, mf, y, nI T) ∧ T + k4 = 1024 ∧ ∀ T', T' < T → mf (1024 * H.1 1 + T') = nI 0) (fun q => ∃ X' hf' a s mf', q = some ((if y = -1 then nI (st_V (p_G H m ta i) (H.1 1) 0 0) else nI (st_sr (p_G H m ta i) (H.1 1) y.toNatClampNeg)), X' 0, X' 1, X' 2, X' 3, X' 4, X' 5, X' 6, X' 7, X' 8, hf', a, s, mf') ∧ mOth 1 X X') ?_ N 1024 _ ⟨mm_mostFromF, 0, rfl, by omega, fun T' h => absurd h (Nat.not_lt_zero _)⟩ (by omega)
          rintro k4 st kk4 ⟨mf, T, rfl, hT, h5⟩ hgo4
          show ∃ X' hf' a' s' mf', (if (1024 : Int32) ≤ nI T then xq_bd (xq_ald 2 (Y 5) (mmI 13)) _ else xq_bd (xq_ald 2 (Y 5) (mmI 13)) _) = _ ∧ _
          rw [hY.2.1, xs_ald hY.1 (by omega), xs_bd, xs_bd, hY.2.2.2.1]
          by_cases c3 : T < 1024
          · rw [if_neg (show ¬ (1024 : Int32) ≤ nI T from nI_ge (b := 1024) c3 (by omega)), m_from, xs_bd, xs_ast (show 1024 * H.1 1 + T < 8192 by omega) (by omega), xs_bd, nI_1]
            refine hgo4 _ (k4 - 1) (by omega) ⟨_, T + 1, rfl, by omega, fun T' h => ?_⟩
            by_cases g : T' = T
            · subst g; exact pk_us
            · rw [pk_un (by omega)]; exact h5 T' (by omega)
          · have : T = 1024 := by omega
            subst this
            rw [if_pos (show (1024 : Int32) ≤ nI 1024 from by decide)]
            obtain ⟨mf', e7⟩ := m_l125 N hN (E := H.1 1) (G := p_G H m ta i) (X2 := X2) (Y := Y) (mmI := mmI) (a := a) (s := s) (hf := h3) b1 hGle (fun e r he hr => hg _ (by omega)) y hy mf (fun e h6 h7 T h8 h9 => by
              have : e = H.1 1 := by omega
              subst this
              rw [h5 T h8, Nat.sub_self]; rfl)
            exact ⟨X2, h3, a, s, mf', e7, ho⟩
        · obtain ⟨p1, p2, p3, p4⟩ := p_nights_ok hH (ta := ta) (hu := m 4) hm i
          rw [if_neg (nI_ge (by omega) (by omega))]
          show ∃ X' hf' a' s' mf', xq_bd (xq_ald 22 (X2 4) (nI 1)) _ = _ ∧ _
          rw [xs_ald (by omega) (by omega), xs_bd, hl2.2.2.2.2.1, p2]
          obtain ⟨a3, s3, h4, X3, f1, f2, f3, f4, f5, f6, f7⟩ := m_tickC N hN hH (hf := h3) (ask := a) (stk := s) (hu := m 4) (g := p_gn H m ta i) hY (show 1 < 22 by omega) hl2 p1 (by have := hm.2.2.2.2; omega) (fun j hj => ⟨hg j hj, by have := p_gn_le H m ta j i; omega⟩)
          show ∃ X' hf' a' s' mf', xq_bd (fX12_ticks N mmI (X2 3) (Y 0) (X2 0) a (X2 1) (X2 2) (Y 1) s (Y 2) (Y 3) (Y 4) (Y 6) (Y 7) (X2 7) (Y 5) h3 (Y 8) (X2 5) (X2 6) (X2 8) (nI 1) (nI (m 4)) 1) _ = _ ∧ _
          rw [f1, xs_bd]
          dsimp only
          rw [← f2, ← f3, ← f4, nI_1]
          obtain ⟨k5, f6⟩ := f6 (by omega)
          exact hgo2 _ (k2 - 1) (by omega) ⟨X3, h4, a3, s3, i + 1, rfl, ho.trans f5, by omega, ⟨k5, f6⟩, f7⟩
    by_cases cy : y = -1
    · rw [if_pos cy, if_pos (show true = true ∧ _ from ⟨rfl, Or.inl cy⟩)]
      exact main (Or.inl cy)
    · rw [if_neg cy, m_isEar N hY.1 hY.2.1 hY.2.2.2.1 (by omega), xs_bd]
      cases hx : p_one_of (H.1 1) y with
      | false =>
        rw [if_pos (by rfl), if_neg (fun z => by rcases z.2 with w | w; exact cy w; exact Bool.false_ne_true w)]
        exact ⟨X, hf, ask, stk, _, rfl, mOth.refl _ _⟩
      | true =>
        rw [if_neg (by decide), if_pos ⟨rfl, Or.inr rfl⟩]
        exact main (Or.inr hx)
