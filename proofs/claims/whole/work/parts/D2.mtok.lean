/-! the reference's piece ahead is the class's -/
section
variable (N : Nat) {T : PT} {tF : Nat → Int32}
theorem m_b98 (hT : T.1 ≤ 1600) (htF : ∀ i, i < T.1 → tF i = nI (T.2 i) ∧ T.2 i < 256) {a : Nat} (ha : a < T.1) {jo : Prop} [Decidable jo] (hjo : jo ↔ 0 < a ∧ lxAl (T.2 (a - 1)) = true) {I : Nat → Int32} {J : Nat → Int64} (x2 x3 : Int32) : fX12_ahead_b98 N tF (I, J, nI a, x2, x3) = fX12_ahead_b135 N tF (if jo then va_up I 12 (nI a) else I, J, nI a, x2, x3) := by
  dsimp only [fX12_ahead_b98]
  by_cases c : a = 0
  · have : ¬ jo := fun z => by have := hjo.mp z; omega
    subst c
    rw [if_pos (show nI 0 ≤ (0 : Int32) by decide), if_neg this]
  · obtain ⟨d, rfl⟩ : ∃ d, a = d + 1 := ⟨a - 1, by omega⟩
    have hb := htF d (by omega)
    rw [show d + 1 - 1 = d by omega] at hjo
    rw [if_neg (nI_nle (by omega) (by omega)), nI_pred, xs_ald (by omega) (by decide), xs_bd, xs_bd, hb.1, m_isL N _ hb.2, m_isD N _ hb.2, xs_bd, xs_bd]
    unfold lxAl at hjo
    cases hL : lxL (T.2 d) with
    | true =>
      rw [if_neg (show ¬ p_b true = 0 by decide), if_pos (hjo.mpr ⟨by omega, by rw [hL]; rfl⟩)]; rfl
    | false =>
      rw [if_pos (show p_b false = 0 from rfl)]
      cases hD : lxD (T.2 d) with
      | true => rw [if_neg (show ¬ p_b true = 0 by decide), if_pos (hjo.mpr ⟨by omega, by rw [hL, hD]; rfl⟩)]; rfl
      | false =>
        rw [if_pos (show p_b false = 0 from rfl), if_neg (fun z => by
          have := (hjo.mp z).2
          rw [hL, hD] at this; cases this)]
theorem lx_LD {c : Nat} (h : lxL c = true) : lxD c = false := by
  have := of_decide_eq_true h
  exact decide_eq_false (by omega)
theorem m_aheadT (hN : 5000 ≤ N) (hT : T.1 ≤ 1600) (htF : ∀ i, i < T.1 → tF i = nI (T.2 i) ∧ T.2 i < 256) {e : Nat} (he : e ≤ T.1) {I : Nat → Int32} {J : Nat → Int64} (h2 : I 2 = nI T.1) (h5 : I 5 = nI e) {K St V E : Nat → Int32} {j : Nat} (hR : lxR T e (K j) (V j)) (hS : St j = nI (lxS T e)) (hEj : E (j + 1) = nI (lxE T e)) :
    ∃ I' J', fX12_ahead N I J tF = some (I', J') ∧ mTok K St V E nmR (nI T.1) j I' J' ∧ (∀ i, ¬ (i = 3 ∨ i = 4 ∨ i = 5 ∨ i = 6 ∨ i = 12) → I' i = I i) ∧ ∀ i, ¬ i = 7 → J' i = J i := by
  obtain ⟨s1, s2, s3, s4⟩ := lxS_s T he
  obtain ⟨x1, x2, x3⟩ := lxE_s T he
  obtain ⟨r1, r2, r3, r4⟩ := hR
  have n1 : (-1 : Int32).toInt < 0 := by decide
  have n2 : (-2 : Int32).toInt < 0 := by decide
  have n3 : (-3 : Int32).toInt < 0 := by decide
  have n4 : (-4 : Int32).toInt < 0 := by decide
  unfold fX12_ahead
  rw [h5, m_skip N hN hT htF he h2]
  dsimp only [fX12_ahead_b41]
  rw [h2]
  by_cases ca : T.1 ≤ lxS T e
  · have eE : lxE T e = lxS T e := by unfold lxE; rw [if_pos ca]
    obtain ⟨k1, k2⟩ := r1 ca
    rw [if_neg (nI_nlt ca (by omega))]
    refine ⟨_, _, rfl, ⟨h2, hS.symm, by rw [hEj, eE]; rfl, fun z => absurd rfl z, fun _ => ⟨fun z => ?_, fun c hc => ⟨fun z => absurd z.1 (by show ¬ (0 : Int32) = 3; decide), fun z => ?_⟩, fun w hw => ⟨fun z => absurd z.1 (by show ¬ (0 : Int32) = 1; decide), fun z => ?_⟩, ⟨fun z => absurd z (by show ¬ (0 : Int32) = 2; decide), fun z => ?_⟩, fun z => ?_, ⟨fun _ => k1, fun _ => rfl⟩, fun z => ?_, fun z => absurd z (by show ¬ (0 : Int32) = 1; decide)⟩⟩, fun i hi => ?_, fun _ _ => rfl⟩
    · rw [k1] at z; exact absurd z (by decide)
    · rw [k1] at z; exact absurd z.symm (nI_ng (by have := mSg_lt hc; omega) n1)
    · rw [k1] at z; exact absurd z.symm (nI_ng (by omega) n1)
    · rw [k1] at z; exact absurd z (by decide)
    · rw [k1] at z; exact absurd z (by decide)
    · rw [k1] at z; exact absurd z (by decide)
    · rw [va_up_ne _ _ (by omega), va_up_ne _ _ (by omega), va_up_ne _ _ (by omega), va_up_ne _ _ (by omega)]
  have ca : lxS T e < T.1 := by omega
  have nE : ¬ T.1 ≤ lxS T e := by omega
  have hb := htF (lxS T e) ca
  have x4 := x3 ca
  rw [if_pos (nI_lt ca (by omega)), xs_ald (by omega) (by decide), xs_bd, hb.1, m_isL N _ hb.2, xs_bd, xs_bd, m_isD N _ hb.2, xs_bd]
  have hJo := lx_join (T := T) he
  have dec : Decidable (lxJ T e) := Classical.propDecidable _
  -- a word or a number
  have wn : ∀ (wd : Bool), (wd = true → lxL (T.2 (lxS T e)) = true) → (wd = false → lxL (T.2 (lxS T e)) = false ∧ lxD (T.2 (lxS T e)) = true) → ∃ I' J', fX12_ahead_b98 N tF (va_up (va_up (va_up (va_up I 4 (nI (lxS T e))) 5 (nI (lxS T e))) 3 0) 12 (-1), J, nI (lxS T e), p_b wd, p_b (!wd)) = some (I', J') ∧ I' 2 = nI T.1 ∧ I' 4 = nI (lxS T e) ∧ I' 5 = nI (lxE T e) ∧ I' 3 = (if wd = true then 1 else 2) ∧ I' 12 = (if lxJ T e then nI (lxS T e) else if (if wd = true then 6 else 4) < lxE T e - lxS T e then nI (lxS T e + (if wd = true then 6 else 4)) else -1) ∧ (wd = false → lxE T e - lxS T e ≤ 4 → I' 6 = nI (lx10 T (lxS T e) (lxE T e - lxS T e))) ∧ (wd = true → lxE T e - lxS T e ≤ 6 → J' 7 = lN (pw256 (fun i => T.2 (lxS T e + i)) (lxE T e - lxS T e))) ∧ (∀ i, ¬ (i = 3 ∨ i = 4 ∨ i = 5 ∨ i = 6 ∨ i = 12) → I' i = I i) ∧ (∀ i, ¬ i = 7 → J' i = J i) ∧ (wd = true → ∀ q, lxS T e ≤ q → q < lxE T e → lxL (T.2 q) = true) := by
    intro wd w1 w2
    have eE : lxE T e = lxG (if wd = true then lxL else lxD) T (lxS T e) := by
      unfold lxE
      rw [if_neg nE]
      cases wd with
      | true => rw [if_pos (w1 rfl), if_pos rfl]
      | false => rw [if_neg (by rw [(w2 rfl).1]; decide), if_pos (w2 rfl).2, if_neg (by decide)]
    obtain ⟨g1, g2, g3, g4⟩ := lxG_s (if wd = true then lxL else lxD) T (lxS T e)
    rw [← eE] at g1 g2 g3 g4
    have app : ∀ q, (if wd = true then lxL (T.2 q) else lxD (T.2 q)) = (if wd = true then lxL else lxD) (T.2 q) := fun q => by cases wd <;> rfl
    rw [m_b98 N hT htF ca (jo := lxJ T e) hJo]
    generalize hI1 : (if lxJ T e then va_up (va_up (va_up (va_up (va_up I 4 (nI (lxS T e))) 5 (nI (lxS T e))) 3 0) 12 (-1)) 12 (nI (lxS T e)) else va_up (va_up (va_up (va_up I 4 (nI (lxS T e))) 5 (nI (lxS T e))) 3 0) 12 (-1)) = I1
    have i12 : I1 12 = if lxJ T e then nI (lxS T e) else -1 := by
      rw [← hI1]
      by_cases c : lxJ T e
      · rw [if_pos c, if_pos c]; rfl
      · rw [if_neg c, if_neg c]; rfl
    have i4 : I1 4 = nI (lxS T e) := by
      rw [← hI1]
      by_cases c : lxJ T e
      · rw [if_pos c]; rfl
      · rw [if_neg c]; rfl
    have ik : ∀ i, ¬ (i = 3 ∨ i = 4 ∨ i = 5 ∨ i = 6 ∨ i = 12) → I1 i = I i := fun i hi => by
      rw [← hI1]
      by_cases c : lxJ T e
      · rw [if_pos c, va_up_ne _ _ (by omega), va_up_ne _ _ (by omega), va_up_ne _ _ (by omega), va_up_ne _ _ (by omega), va_up_ne _ _ (by omega)]
      · rw [if_neg c, va_up_ne _ _ (by omega), va_up_ne _ _ (by omega), va_up_ne _ _ (by omega), va_up_ne _ _ (by omega)]
    have h135 : fX12_ahead_b135 N tF (I1, J, nI (lxS T e), p_b wd, p_b (!wd)) = xq_loop (fX12_ahead_l204 N tF) N (va_up (va_up (va_up (va_up I1 6 0) 3 3) 5 (nI (lxS T e) + 1)) 3 (if wd = true then 1 else 2), va_up J 7 0, nI (lxS T e), p_b wd, p_b (!wd), nI (if wd = true then 6 else 4), 0) := by
      cases wd with
      | true => rfl
      | false => rfl
    obtain ⟨I', J', f1, f2, f3, f4, f5, f6, f7⟩ := m_run N hN hT htF x4 x2 (wd := wd) (fun q q1 q2 => by rw [app]; exact g3 q q1 q2) (fun q1 => by rw [app]; exact g4 q1) (I := va_up (va_up (va_up (va_up I1 6 0) 3 3) 5 (nI (lxS T e) + 1)) 3 (if wd = true then 1 else 2)) (J := va_up J 7 0) ((ik 2 (by omega)).trans h2) rfl rfl (jo := lxJ T e) i12 (most := if wd = true then 6 else 4) rfl
    refine ⟨I', J', h135.trans f1, ?_, ?_, f2, ?_, f5, f6, f7, fun i hi => ?_, fun i hi => (f4 i hi).trans (va_up_ne _ _ hi), fun w3 q q1 q2 => ?_⟩
    · rw [f3 2 (by omega)]; exact (ik 2 (by omega)).trans h2
    · rw [f3 4 (by omega)]; exact i4
    · rw [f3 3 (by omega)]; rfl
    · rw [f3 i (by omega), va_up_ne _ _ (by omega), va_up_ne _ _ (by omega), va_up_ne _ _ (by omega), va_up_ne _ _ (by omega)]; exact ik i hi
    · have := g3 q q1 q2
      rw [w3, if_pos rfl] at this; exact this
  cases hL : lxL (T.2 (lxS T e)) with
  | true =>
    have hD := lx_LD hL
    rw [hD, if_neg (show ¬ p_b true = 0 by decide)]
    obtain ⟨q1, q2, q3⟩ := r2 ca hL
    obtain ⟨I', J', f1, f2, f3, f4, f5, f6, f7, f8, f9, f10, f11⟩ := wn true (fun _ => hL) (fun z => by cases z)
    rw [if_pos rfl] at f5
    rw [if_pos (show true = true from rfl)] at f6
    refine ⟨I', J', f1, ⟨f2, f3.trans hS.symm, f4.trans hEj.symm, fun z => ?_, fun z => ?_⟩, f9, f10⟩
    · by_cases cj : lxJ T e
      · rw [if_pos cj] at f6
        exact ⟨(q1 cj).1, f6.trans (q1 cj).2.symm, by rw [f5]; decide⟩
      · rw [if_neg cj] at f6
        by_cases c6 : 6 < lxE T e - lxS T e
        · rw [if_pos c6] at f6
          exact ⟨(q2 cj c6).1, f6.trans (q2 cj c6).2.symm, by rw [f5]; decide⟩
        · rw [if_neg c6] at f6; exact absurd f6 z
    · have cj : ¬ lxJ T e := fun y => by rw [if_pos y, z] at f6; exact absurd f6.symm (nI_nm1 (by omega))
      have c6 : lxE T e - lxS T e ≤ 6 := by
        by_cases y : lxE T e - lxS T e ≤ 6
        · exact y
        · rw [if_neg cj, if_pos (by omega), z] at f6; exact absurd f6.symm (nI_nm1 (by omega))
      obtain ⟨v1, v2⟩ := q3 cj c6
      have h7 := f8 rfl c6
      have hLs := f11 rfl
      have hwd : ∀ w, w < 24 → (J' 7 = mWd w ↔ lxM T (lxS T e) (lxE T e) w) := fun w hw => by
        rw [h7, lx_t3 w hw, lxM_c hw (by omega) hLs]
        have b1 : pw256 (fun i => T.2 (lxS T e + i)) (lxE T e - lxS T e) < 2 ^ 63 := by
          have hpl : pw256 (fun i => if i < lxE T e - lxS T e then T.2 (lxS T e + i) else 0) (lxE T e - lxS T e) < 256 ^ (lxE T e - lxS T e) := pw_lt (fun i => by
            by_cases c : i < lxE T e - lxS T e
            · rw [if_pos c]; exact (htF (lxS T e + i) (by omega)).2
            · rw [if_neg c]; omega) _
          rw [pw_cg (g := fun i => T.2 (lxS T e + i)) fun i hi => by rw [if_pos hi]] at hpl
          have hpow : 256 ^ (lxE T e - lxS T e) ≤ 256 ^ 6 := Nat.pow_le_pow_right (by decide) c6
          have e7 : (256 : Nat) ^ 6 = 281474976710656 := rfl
          omega
        have b2 : lxC w < 2 ^ 63 := by
          have : ∀ w, w < 24 → lxC w < 2 ^ 63 := by decide +kernel
          exact this w hw
        exact fb_lN_inj b1 b2
      have kneg : ∀ x : Int32, x.toInt < 0 → ¬ x = -4 → ¬ K j = x := fun x hx h4 y => by
        rcases v2 with ⟨w, hw, -, y2⟩ | ⟨y2, -⟩
        · rw [y2] at y; exact nI_ng (by omega) hx y
        · rw [y2] at y; exact h4 y.symm
      refine ⟨fun y => absurd y (kneg _ n2 (by decide)), fun c hc => ⟨fun y => absurd y.1 (by rw [f5]; decide), fun y => ?_⟩, fun w hw => ?_, ⟨fun y => absurd y (by rw [f5]; decide), fun y => absurd y (kneg _ n3 (by decide))⟩, fun y => absurd y (kneg _ n3 (by decide)), ⟨fun y => absurd y (by rw [f5]; decide), fun y => absurd y (kneg _ n1 (by decide))⟩, fun y => ⟨f5, ?_⟩, fun _ => ?_⟩
      · exfalso
        have := mSg_lt hc
        rcases v2 with ⟨w, hw, -, y2⟩ | ⟨y2, -⟩
        · rw [y2] at y
          have := (nI_eq (by omega) (by omega)).mp y
          omega
        · rw [y2] at y; exact nI_ng (by omega) n4 y.symm
      · rw [hwd w hw]
        rcases v2 with ⟨w', hw', hm, y2⟩ | ⟨y2, hno⟩
        · rw [y2]
          constructor
          · intro y; rw [lxM_1 hw' hw hm y.2]
          · intro y
            have := (nI_eq (by omega) (by omega)).mp y
            have : w' = w := by omega
            subst this
            exact ⟨f5, hm⟩
        · rw [y2]
          exact ⟨fun y => absurd y.2 (hno w hw), fun y => absurd y.symm (nI_ng (by omega) n4)⟩
      · refine ⟨lxl T (lxS T e) (lxE T e), lxE T e - lxS T e, by omega, c6, fun i hi => ?_, fun i hi => ?_, v1, ?_⟩
        · unfold lxl
          rw [if_pos (by omega)]
          have := of_decide_eq_true (hLs (lxS T e + i) (by omega) (by omega))
          omega
        · unfold lxl; rw [if_neg (by omega)]
        · rw [h7, pn_256_pw]
          congr 1
          refine pw_cg fun i hi => ?_
          unfold lxl
          rw [if_pos (by omega)]
          have := of_decide_eq_true (hLs (lxS T e + i) (by omega) (by omega))
          omega
      · rcases v2 with ⟨w, hw, -, y2⟩ | ⟨y2, -⟩
        · exact Or.inr ⟨w, hw, y2⟩
        · exact Or.inl y2
  | false =>
    rw [if_pos (show p_b false = 0 from rfl)]
    cases hD : lxD (T.2 (lxS T e)) with
    | true =>
      rw [if_neg (show ¬ p_b true = 0 by decide)]
      obtain ⟨q1, q2, q3⟩ := r3 ca hL hD
      obtain ⟨I', J', f1, f2, f3, f4, f5, f6, f7, f8, f9, f10, f11⟩ := wn false (fun z => by cases z) (fun _ => ⟨hL, hD⟩)
      rw [if_neg (by decide)] at f5
      rw [if_neg (show ¬ false = true by decide)] at f6
      refine ⟨I', J', f1, ⟨f2, f3.trans hS.symm, f4.trans hEj.symm, fun z => ?_, fun z => ?_⟩, f9, f10⟩
      · by_cases cj : lxJ T e
        · rw [if_pos cj] at f6
          exact ⟨(q1 cj).1, f6.trans (q1 cj).2.symm, by rw [f5]; decide⟩
        · rw [if_neg cj] at f6
          by_cases c6 : 4 < lxE T e - lxS T e
          · rw [if_pos c6] at f6
            exact ⟨(q2 cj c6).1, f6.trans (q2 cj c6).2.symm, by rw [f5]; decide⟩
          · rw [if_neg c6] at f6; exact absurd f6 z
      · have cj : ¬ lxJ T e := fun y => by rw [if_pos y, z] at f6; exact absurd f6.symm (nI_nm1 (by omega))
        have c6 : lxE T e - lxS T e ≤ 4 := by
          by_cases y : lxE T e - lxS T e ≤ 4
          · exact y
          · rw [if_neg cj, if_pos (by omega), z] at f6; exact absurd f6.symm (nI_nm1 (by omega))
        obtain ⟨v1, v2⟩ := q3 cj c6
        refine ⟨fun y => ?_, fun c hc => ⟨fun y => absurd y.1 (by rw [f5]; decide), fun y => ?_⟩, fun w hw => ⟨fun y => absurd y.1 (by rw [f5]; decide), fun y => ?_⟩, ⟨fun _ => v1, fun _ => f5⟩, fun _ => (f7 rfl c6).trans v2.symm, ⟨fun y => absurd y (by rw [f5]; decide), fun y => ?_⟩, fun y => ?_, fun y => absurd y (by rw [f5]; decide)⟩
        · rw [v1] at y; exact absurd y (by decide)
        · rw [v1] at y; exact absurd y.symm (nI_ng (by have := mSg_lt hc; omega) n3)
        · rw [v1] at y; exact absurd y.symm (nI_ng (by omega) n3)
        · rw [v1] at y; exact absurd y (by decide)
        · rw [v1] at y; exact absurd y (by decide)
    | false =>
      have eE : lxE T e = lxS T e + 1 := by unfold lxE; rw [if_neg nE, if_neg (by rw [hL]; decide), if_neg (by rw [hD]; decide)]
      obtain ⟨v1, v2, v3⟩ := r4 ca hL hD
      rw [if_pos (show p_b false = 0 from rfl)]
      dsimp only [fX12_ahead_b135]
      rw [if_pos (show p_b false = 0 from rfl), if_pos (show p_b false = 0 from rfl), xs_ald (by omega) (by decide), xs_bd, hb.1]
      have hk : K j = nI (T.2 (lxS T e)) ∧ mSg (T.2 (lxS T e)) ∨ K j = -2 ∧ ¬ mSg (T.2 (lxS T e)) := by
        by_cases c : mSg (T.2 (lxS T e))
        · exact Or.inl ⟨v2 c, c⟩
        · exact Or.inr ⟨v3 c, c⟩
      have kneg : ∀ x : Int32, x.toInt < 0 → ¬ x = -2 → ¬ K j = x := fun x hx h4 y => by
        rcases hk with ⟨y2, -⟩ | ⟨y2, -⟩
        · rw [y2] at y; exact nI_ng (by omega) hx y
        · rw [y2] at y; exact h4 y.symm
      refine ⟨_, _, rfl, ⟨h2, hS.symm, by rw [hEj, eE]; exact nI_1 _, fun z => absurd rfl z, fun _ => ⟨fun _ => v1.trans hS.symm, fun c hc => ?_, fun w hw => ⟨fun z => absurd z.1 (by show ¬ (3 : Int32) = 1; decide), fun y => ?_⟩, ⟨fun z => absurd z (by show ¬ (3 : Int32) = 2; decide), fun y => absurd y (kneg _ n3 (by decide))⟩, fun y => absurd y (kneg _ n3 (by decide)), ⟨fun z => absurd z (by show ¬ (3 : Int32) = 0; decide), fun y => absurd y (kneg _ n1 (by decide))⟩, fun y => absurd y (kneg _ n4 (by decide)), fun z => absurd z (by show ¬ (3 : Int32) = 1; decide)⟩⟩, fun i hi => ?_, fun i hi => va_up_ne _ _ hi⟩
      · have hlt := mSg_lt hc
        show ((3 : Int32) = 3 ∧ nI (T.2 (lxS T e)) = nI c) ↔ K j = nI c
        rw [nI_eq (by omega) (by omega)]
        rcases hk with ⟨y2, y3⟩ | ⟨y2, y3⟩
        · rw [y2, nI_eq (by omega) (by omega)]
          exact ⟨fun z => z.2, fun z => ⟨rfl, z⟩⟩
        · rw [y2]
          exact ⟨fun z => by rw [z.2] at y3; exact absurd hc y3, fun z => absurd z.symm (nI_ng (by omega) n2)⟩
      · exfalso
        rcases hk with ⟨y2, y3⟩ | ⟨y2, y3⟩
        · rw [y2] at y
          have := (nI_eq (by omega) (by omega)).mp y
          omega
        · rw [y2] at y; exact nI_ng (by omega) n2 y.symm
      · rw [va_up_ne _ _ (by omega), va_up_ne _ _ (by omega), va_up_ne _ _ (by omega), va_up_ne _ _ (by omega), va_up_ne _ _ (by omega), va_up_ne _ _ (by omega), va_up_ne _ _ (by omega)]
end
