/-! where the voice can be, in the reference -/
def mK (K : PK) (mmI nF eF hF : Nat → Int32) : Prop := mmI 62 = nI K.1 ∧ ∀ i, i < K.1 → nF i = nI (K.2.1 i) ∧ eF i = nI (K.2.2.1 i) ∧ hF i = nI (K.2.2.2 i)
def p_mt (H : PH) (m ro ta : Nat → Nat) (K : PK) (mile k : Nat) : Nat := fb_ct (fun j => decide (K.2.1 j < k) && p_sat H m ro ta K mile j) K.1
def p_mc (H : PH) (m ro ta : Nat → Nat) (K : PK) (mile k i : Nat) : Nat := fb_ct (fun j => decide (K.2.1 j = k) && p_sat H m ro ta K mile j) i
theorem p_mt_s (H : PH) (m ro ta : Nat → Nat) (K : PK) (mile k : Nat) : p_mt H m ro ta K mile (k + 1) = p_mt H m ro ta K mile k + p_mc H m ro ta K mile k K.1 := by
  unfold p_mt p_mc
  rw [← fb_ct_or (fun j _ z => by
    have h1 := (Bool.and_eq_true _ _).mp z.1
    have h2 := (Bool.and_eq_true _ _).mp z.2
    have := of_decide_eq_true h1.1
    have := of_decide_eq_true h2.1
    omega)]
  refine fb_ct_cong (fun j _ => ?_)
  cases p_sat H m ro ta K mile j with
  | false => simp
  | true =>
    simp only [Bool.and_true]
    by_cases c : K.2.1 j < k
    · rw [decide_eq_true c, decide_eq_true (show K.2.1 j < k + 1 by omega)]; rfl
    · by_cases d : K.2.1 j = k
      · rw [decide_eq_false c, decide_eq_true d, decide_eq_true (show K.2.1 j < k + 1 by omega)]; rfl
      · rw [decide_eq_false c, decide_eq_false d, decide_eq_false (show ¬ K.2.1 j < k + 1 by omega)]; rfl
theorem p_mt_end {H : PH} {m ro ta : Nat → Nat} {K : PK} (hK : pk_ok H K) (mile : Nat) : decide (p_mt H m ro ta K mile (min 31 (999 - m 0)) = K.1) = p_lf H m ro ta K mile := by
  unfold p_mt p_lf p_so
  congr 1
  apply propext
  rw [fb_ct_all]
  constructor
  · intro z i hi
    have h := (Bool.and_eq_true _ _).mp (z i hi)
    have := of_decide_eq_true h.1
    exact ⟨by omega, h.2⟩
  · intro z i hi
    have h1 := z i hi
    have h2 := (hK.2 i hi).1
    show (decide (K.2.1 i < min 31 (999 - m 0)) && p_sat H m ro ta K mile i) = true
    rw [h1.2, decide_eq_true (show K.2.1 i < min 31 (999 - m 0) by omega)]; rfl
section ML
variable {X Y : Nat → Nat → Int32} {mmI a hf hb mm_markNightF mm_markEarF mm_markIsF : Nat → Int32} {s : Nat → Int64} {H : PH} {m ro ta : Nat → Nat} {K : PK}
theorem m_l60 (N : Nat) (hN : 5000 ≤ N) (hE : H.1 1 ≤ 7) (hK : pk_ok H K) (hk : mK K mmI mm_markNightF mm_markEarF mm_markIsF) (k24 : _) (mile met k : Nat) (hk31 : k < 31) (hmet : met < 1000) : xq_loop (fX12_canBeAt_l60 N mmI (Y 0) (Y 1) (Y 2) (Y 3) (Y 4) (Y 6) (Y 7) (Y 5) (Y 8) mm_markNightF mm_markEarF mm_markIsF k24) N (X 0, X 1, X 2, X 3, X 4, X 5, X 6, X 7, X 8, a, s, hf, hb, nI mile, nI met, nI k, nI (p_qh H m ro ta mile k), 0) = k24 (X 0, X 1, X 2, X 3, X 4, X 5, X 6, X 7, X 8, a, s, hf, hb, nI mile, nI (met + p_mc H m ro ta K mile k K.1), nI (k + 1)) := by
  have h16 := hK.1
  refine xs_loop (body := fX12_canBeAt_l60 N mmI (Y 0) (Y 1) (Y 2) (Y 3) (Y 4) (Y 6) (Y 7) (Y 5) (Y 8) mm_markNightF mm_markEarF mm_markIsF k24) (fun i => (X 0, X 1, X 2, X 3, X 4, X 5, X 6, X 7, X 8, a, s, hf, hb, nI mile, nI (met + p_mc H m ro ta K mile k i), nI k, nI (p_qh H m ro ta mile k), nI i)) K.1 _ ?_ ?_ N (by omega)
  · intro i hi kk
    obtain ⟨k1, k2, k3⟩ := hk.2 i hi
    obtain ⟨q1, q2, q3⟩ := hK.2 i hi
    have hs1 : p_mc H m ro ta K mile k (i + 1) = p_mc H m ro ta K mile k i + if (decide (K.2.1 i = k) && p_sat H m ro ta K mile i) = true then 1 else 0 := fb_ct_succ _ i
    have hqh := p_qh_lt hE m ro ta mile k
    dsimp only [fX12_canBeAt_l60]
    rw [hk.1, if_neg (nI_ge hi (by omega)), xs_ald (show i < 16 by omega) (by omega), xs_bd, k1]
    by_cases c : K.2.1 i = k
    · rw [if_pos (by rw [c]), xs_ald (show i < 16 by omega) (by omega), xs_bd, k2, m_has2 N (by omega) (by omega), xs_bd]
      have hbit : p_qh H m ro ta mile k / 2 ^ (K.2.2.1 i) % 2 < 2 := Nat.mod_lt _ (by omega)
      have hsat : p_sat H m ro ta K mile i = decide (p_qh H m ro ta mile k / 2 ^ (K.2.2.1 i) % 2 = K.2.2.2 i) := by unfold p_sat; rw [c]
      have key : ∀ y : Nat, y = p_qh H m ro ta mile k / 2 ^ (K.2.2.1 i) % 2 → fX12_canBeAt_b101 N mmI (Y 0) (Y 1) (Y 2) (Y 3) (Y 4) (Y 6) (Y 7) (Y 5) (Y 8) mm_markNightF mm_markEarF mm_markIsF k24 kk (X 0, X 1, X 2, X 3, X 4, X 5, X 6, X 7, X 8, a, s, hf, hb, nI mile, nI k, nI (p_qh H m ro ta mile k), nI i, nI (met + p_mc H m ro ta K mile k i), nI y) = kk (X 0, X 1, X 2, X 3, X 4, X 5, X 6, X 7, X 8, a, s, hf, hb, nI mile, nI (met + p_mc H m ro ta K mile k (i + 1)), nI k, nI (p_qh H m ro ta mile k), nI (i + 1)) := by
        intro y hy
        dsimp only [fX12_canBeAt_b101]
        rw [xs_ald (show i < 16 by omega) (by omega), xs_bd, k3]
        by_cases d : y = K.2.2.2 i
        · rw [if_pos (by rw [d])]
          dsimp only [fX12_canBeAt_b116]
          have : (decide (K.2.1 i = k) && p_sat H m ro ta K mile i) = true := by rw [hsat, decide_eq_true c, decide_eq_true (hy.symm.trans d)]; rfl
          rw [hs1, if_pos this, nI_1, nI_1, Nat.add_assoc]
        · rw [if_neg (fun z => d ((nI_eq (by omega) (by omega)).mp z))]
          dsimp only [fX12_canBeAt_b115, fX12_canBeAt_b116]
          have : (decide (K.2.1 i = k) && p_sat H m ro ta K mile i) = false := by rw [hsat, decide_eq_false (fun z => d (hy.trans z)), Bool.and_false]
          show kk (_, _, _, _, _, _, _, _, _, _, _, _, _, _, nI (met + p_mc H m ro ta K mile k i) + nI 0, _, _, _) = _
          rw [hs1, this, if_neg Bool.false_ne_true, nI_1, nI_add]
          rfl
      by_cases cz : p_qh H m ro ta mile k / 2 ^ (K.2.2.1 i) % 2 = 0
      · rw [cz, if_pos (by rfl)]
        exact key 0 cz.symm
      · have cz1 : p_qh H m ro ta mile k / 2 ^ (K.2.2.1 i) % 2 = 1 := by omega
        rw [cz1, if_neg (by decide)]
        exact key 1 cz1.symm
    · rw [if_neg (fun z => c ((nI_eq (by omega) (by omega)).mp z))]
      dsimp only [fX12_canBeAt_b115, fX12_canBeAt_b116]
      show kk (_, _, _, _, _, _, _, _, _, _, _, _, _, _, nI (met + p_mc H m ro ta K mile k i) + nI 0, _, _, _) = _
      rw [hs1, decide_eq_false c, Bool.false_and, if_neg Bool.false_ne_true, nI_1, nI_add]
      rfl
  · intro kk
    dsimp only [fX12_canBeAt_l60]
    rw [hk.1, if_pos (nI_le (Nat.le_refl _) (by omega)), nI_1]
end ML
theorem m_canBe (N : Nat) (hN : 5000 ≤ N) {H : PH} {m ro ta : Nat → Nat} (hH : ph_ok H) (hm : p_mok H m) {b k : Nat} {mmI hf ask : Nat → Int32} {stk : Nat → Int64} {X Y : Nat → Nat → Int32} (hY : mHY H b mmI Y) (hfl : mFl mmI (H.1 0)) (hL : mLay H 0 m ro ta k X) {K : PK} (hK : pk_ok H K) {mm_markNightF mm_markEarF mm_markIsF hb : Nat → Int32} (hk : mK K mmI mm_markNightF mm_markEarF mm_markIsF) {mile : Nat} (hmi : mile < H.1 0) : ∃ X' a s hb', fX12_canBeAt N mmI (X 0) (X 1) (X 2) (X 3) (X 4) (X 5) (X 6) (X 7) (X 8) (Y 0) ask (Y 1) stk (Y 2) (Y 3) (Y 4) (Y 6) (Y 7) (Y 5) hf (Y 8) hb mm_markNightF mm_markEarF mm_markIsF (nI mile) = some (p_b (p_lf H m ro ta K mile), X' 0, X' 1, X' 2, X' 3, X' 4, X' 5, X' 6, X' 7, X' 8, a, s, hf, hb') ∧ mOth 1 X X' ∧ (∀ k, k < min 31 (999 - m 0) → hb' (31 * mile + k) = nI (p_qh H m ro ta mile k)) ∧ (∀ i, i < 31 * mile ∨ 31 * mile + 31 ≤ i → hb' i = hb i) := by
  have b0 := hH.2.1
  have b1 := hH.2.2.1
  have b2 := hH.2.2.2.1
  have b3 := hm.1
  have g5 := hH.1
  unfold fX12_canBeAt
  obtain ⟨X1, e2, e3, e4, -⟩ := m_copyL N hN b1 b2 (show 1 < 22 by omega) (show 0 < 22 by omega) (by omega) hL
  show ∃ X' a s hb', xq_bd (fX12_copies N (X 0) (X 1) (X 2) (X 3) (X 4) (X 5) (X 6) (X 7) (X 8) (nI 1) (nI 0)) _ = _ ∧ _
  rw [e2, xs_bd]
  dsimp only
  show ∃ X' a s hb', xq_bd (xq_ast 22 (X1 1) (nI 1) (nI mile)) (fun g_3 => xq_bd (xq_ast 22 (X1 3) (nI 1) (nI 0)) _) = _ ∧ _
  rw [xs_ast (by omega) (by omega), xs_bd, xs_ast (by omega) (by omega), xs_bd]
  have e5 : mLay H 1 (p_atm m mile) ro ta k (m9 (X1 0) (upd (X1 1) 1 (nI mile)) (X1 2) (upd (X1 3) 1 (nI 0)) (X1 4) (X1 5) (X1 6) (X1 7) (X1 8)) := ⟨e4.1, pk_us, e4.2.2.1, pk_us, e4.2.2.2.2⟩
  have e6 : mOth 1 X1 (m9 (X1 0) (upd (X1 1) 1 (nI mile)) (X1 2) (upd (X1 3) 1 (nI 0)) (X1 4) (X1 5) (X1 6) (X1 7) (X1 8)) := by
    refine ⟨fun j u hj hu => ?_, fun _ _ => rfl, fun _ _ => rfl, fun _ _ => rfl⟩
    have : j = 0 ∨ j = 1 ∨ j = 2 ∨ j = 3 ∨ j = 4 ∨ j = 6 := by omega
    rcases this with rfl | rfl | rfl | rfl | rfl | rfl
    · rfl
    · exact pk_un hu
    · rfl
    · exact pk_un hu
    · rfl
    · rfl
  have hma := p_atm_ok hm hmi
  refine xs_loopI (body := fX12_canBeAt_l24 N mmI (Y 0) (Y 1) (Y 2) (Y 3) (Y 4) (Y 6) (Y 7) (Y 5) (Y 8) mm_markNightF mm_markEarF mm_markIsF) (fun r st => ∃ X2 a s hb2 q, st = (X2 0, X2 1, X2 2, X2 3, X2 4, X2 5, X2 6, X2 7, X2 8, a, s, hf, hb2, nI mile, nI (p_mt H m ro ta K mile q), nI q) ∧ mOth 1 X X2 ∧ q + r = min 31 (999 - m 0) ∧ (∃ k2, mLay H 1 (p_nights H ta (m 4) q (p_atm m mile)) ro ta k2 X2) ∧ (∀ k, k < q → hb2 (31 * mile + k) = nI (p_qh H m ro ta mile k)) ∧ (∀ i, i < 31 * mile ∨ 31 * mile + 31 ≤ i → hb2 i = hb i)) (fun z => ∃ X' a s hb', z = some (p_b (p_lf H m ro ta K mile), X' 0, X' 1, X' 2, X' 3, X' 4, X' 5, X' 6, X' 7, X' 8, a, s, hf, hb') ∧ mOth 1 X X' ∧ (∀ k, k < min 31 (999 - m 0) → hb' (31 * mile + k) = nI (p_qh H m ro ta mile k)) ∧ (∀ i, i < 31 * mile ∨ 31 * mile + 31 ≤ i → hb' i = hb i)) ?_ N (min 31 (999 - m 0)) _ ⟨_, ask, stk, hb, 0, ?_, e3.trans e6, by omega, ⟨_, e5⟩, fun k h => absurd h (Nat.not_lt_zero _), fun i _ => rfl⟩ (by omega)
  · rintro r st kk ⟨X2, a, s, hb2, q, rfl, ho, hq, ⟨k2, hl2⟩, h7, h8⟩ hgo
    have hL1 := hL.oth ho (by omega) b1 b2
    have e1 := m_ahead N (lo := 1) (hi := 31) (ngF := X2 0) hfl hL1.1 b3 (by omega) (by omega) (nI (q + 1))
    show ∃ X' a s hb', xq_bd (fX12_isAhead N mmI (X2 0) (nI q + 1) (nI 1) (nI 31)) _ = _ ∧ _
    rw [nI_1, e1, xs_bd]
    unfold p_ahead
    rw [nI_toInt (by omega)]
    have hmt : p_mt H m ro ta K mile q ≤ 16 := Nat.le_trans (fb_ct_le _ _) hK.1
    by_cases c : q < min 31 (999 - m 0)
    · rw [decide_eq_true ⟨by omega, by omega, by omega, by omega⟩, if_neg (by decide)]
      obtain ⟨p1, p2, p3, p4⟩ := p_nights_ok hH (ta := ta) (hu := m 4) hma q
      have p4' : p_nights H ta (m 4) q (p_atm m mile) 0 = min 999 (m 0 + q) := p4
      obtain ⟨a3, s3, X3, h1, h2, h3, h4, h5, h6, -⟩ := m_passX N hN hH (hf := hf) (ask := a) (stk := s) hY (show 1 < 22 by omega) hl2 p1
      have h6 := h6 (by omega)
      have p2' : p_nights H ta (m 4) q (p_atm m mile) 4 = m 4 := p2
      rw [p2'] at h1 h6
      show ∃ X' a' s' hb', xq_bd (fX12_passes N mmI (X2 4) (X2 3) (Y 0) (X2 0) a (X2 1) (X2 2) (Y 1) s (Y 2) (Y 3) (Y 4) (Y 6) (Y 7) (X2 7) (Y 5) hf (Y 8) (X2 5) (X2 6) (X2 8) (nI 1)) _ = _ ∧ _
      rw [h1, xs_bd]
      dsimp only
      have ei : (31 : Int32) * nI mile + nI q = nI (31 * mile + q) := by
        show nI 31 * nI mile + nI q = _
        rw [pk_mul, nI_add]
      rw [ei, xs_ast (show 31 * mile + q < 6200 by omega) (by omega), xs_bd, ← h2, ← h3, ← h4]
      have hl := m_l60 N hN b1 hK hk (X := X3) (Y := Y) (a := a3) (s := s3) (hf := hf) (hb := upd hb2 (31 * mile + q) (nI (p_qh H m ro ta mile q))) (ro := ro) (ta := ta) (m := m) kk mile (p_mt H m ro ta K mile q) q (by omega) (by omega)
      rw [← p_mt_s] at hl
      show ∃ X' a' s' hb', xq_loop (fX12_canBeAt_l60 N mmI (Y 0) (Y 1) (Y 2) (Y 3) (Y 4) (Y 6) (Y 7) (Y 5) (Y 8) mm_markNightF mm_markEarF mm_markIsF kk) N (X3 0, X3 1, X3 2, X3 3, X3 4, X3 5, X3 6, X3 7, X3 8, a3, s3, hf, upd hb2 (31 * mile + q) (nI (p_qh H m ro ta mile q)), nI mile, nI (p_mt H m ro ta K mile q), nI q, nI (p_qh H m ro ta mile q), 0) = _ ∧ _
      rw [hl]
      refine hgo _ (r - 1) (by omega) ⟨X3, a3, s3, _, q + 1, rfl, ho.trans h5, by omega, ⟨_, h6⟩, fun k hk => ?_, fun i hi => ?_⟩
      · by_cases g : k = q
        · subst g; exact pk_us
        · rw [pk_un (by omega)]; exact h7 k (by omega)
      · rw [pk_un (by omega)]; exact h8 i hi
    · have : q = min 31 (999 - m 0) := by omega
      rw [decide_eq_false (fun z => by omega), if_pos (by rfl), hk.1]
      have hend := p_mt_end (m := m) (ro := ro) (ta := ta) hK mile
      rw [this, ← hend]
      have hq := hK.1
      have hmt2 : p_mt H m ro ta K mile (min 31 (999 - m 0)) ≤ 16 := Nat.le_trans (fb_ct_le _ _) hK.1
      by_cases d : p_mt H m ro ta K mile (min 31 (999 - m 0)) = K.1
      · rw [if_pos (by rw [d]), decide_eq_true d]
        exact ⟨X2, a, s, hb2, rfl, ho, fun k hk => h7 k (by omega), h8⟩
      · rw [if_neg (fun z => d ((nI_eq (by omega) (by omega)).mp z)), decide_eq_false d]
        exact ⟨X2, a, s, hb2, rfl, ho, fun k hk => h7 k (by omega), h8⟩
  · have : p_mt H m ro ta K mile 0 = 0 := by
      unfold p_mt
      rw [fb_ct_zero]
      intro j _
      rw [decide_eq_false (Nat.not_lt_zero _), Bool.false_and]
    rw [this]; rfl
/-- which MILES are left -/
theorem m_leaves (N : Nat) (hN : 5000 ≤ N) {H : PH} {m ro ta : Nat → Nat} (hH : ph_ok H) (hm : p_mok H m) {b k : Nat} {mmI hf ask : Nat → Int32} {stk : Nat → Int64} {X Y : Nat → Nat → Int32} (hY : mHY H b mmI Y) (hfl : mFl mmI (H.1 0)) (hL : mLay H 0 m ro ta k X) {K : PK} (hK : pk_ok H K) {mm_markNightF mm_markEarF mm_markIsF hb il : Nat → Int32} (hk : mK K mmI mm_markNightF mm_markEarF mm_markIsF) : ∃ X' a s hb' il', fX12_leaves N mmI (Y 4) (X 0) (X 1) (X 2) (X 3) (X 4) (X 5) (X 6) (X 7) (X 8) (Y 0) ask (Y 1) stk (Y 2) (Y 3) (Y 6) (Y 7) (Y 5) hf (Y 8) hb mm_markNightF mm_markEarF mm_markIsF il = some (nI (fb_ct (p_lf H m ro ta K) (H.1 0)), X' 0, X' 1, X' 2, X' 3, X' 4, X' 5, X' 6, X' 7, X' 8, a, s, hf, hb', il') ∧ mOth 1 X X' ∧ (∀ mile, mile < H.1 0 → il' mile = nI (p_bit (p_lf H m ro ta K mile))) ∧ (∀ mile k, mile < H.1 0 → k < min 31 (999 - m 0) → hb' (31 * mile + k) = nI (p_qh H m ro ta mile k)) := by
  have b0 := hH.2.1
  have b1 := hH.2.2.1
  have b2 := hH.2.2.2.1
  refine xs_loopI (body := fX12_leaves_l4 N mmI (Y 4) (Y 0) (Y 1) (Y 2) (Y 3) (Y 6) (Y 7) (Y 5) (Y 8) mm_markNightF mm_markEarF mm_markIsF) (fun r st => ∃ X2 a s hb2 il2 i, st = (X2 0, X2 1, X2 2, X2 3, X2 4, X2 5, X2 6, X2 7, X2 8, a, s, hf, hb2, il2, nI (fb_ct (p_lf H m ro ta K) i), nI i) ∧ mOth 1 X X2 ∧ i + r = H.1 0 ∧ (∀ mile, mile < i → il2 mile = nI (p_bit (p_lf H m ro ta K mile))) ∧ (∀ mile k, mile < i → k < min 31 (999 - m 0) → hb2 (31 * mile + k) = nI (p_qh H m ro ta mile k))) (fun z => ∃ X' a s hb' il', z = some (nI (fb_ct (p_lf H m ro ta K) (H.1 0)), X' 0, X' 1, X' 2, X' 3, X' 4, X' 5, X' 6, X' 7, X' 8, a, s, hf, hb', il') ∧ mOth 1 X X' ∧ (∀ mile, mile < H.1 0 → il' mile = nI (p_bit (p_lf H m ro ta K mile))) ∧ (∀ mile k, mile < H.1 0 → k < min 31 (999 - m 0) → hb' (31 * mile + k) = nI (p_qh H m ro ta mile k))) ?_ N (H.1 0) _ ⟨X, ask, stk, hb, il, 0, rfl, mOth.refl _ _, by omega, fun mile h => absurd h (Nat.not_lt_zero _), fun mile k h => absurd h (Nat.not_lt_zero _)⟩ (by omega)
  rintro r st kk ⟨X2, a, s, hb2, il2, i, rfl, ho, hi, h1, h2⟩ hgo
  have hL1 := hL.oth ho (by omega) b1 b2
  have hct := fb_ct_le (p_lf H m ro ta K) i
  show ∃ X' a' s' hb' il', xq_bd (xq_ald 2 (Y 4) (mmI 13)) (fun v_3 => if v_3 ≤ nI i then _ else _) = _ ∧ _
  rw [hY.2.1, xs_ald hY.1 (by omega), xs_bd, hY.2.2.1]
  by_cases c : H.1 0 ≤ i
  · have : i = H.1 0 := by omega
    subst this
    rw [if_pos (nI_le (Nat.le_refl _) (by omega))]
    exact ⟨X2, a, s, hb2, il2, rfl, ho, h1, h2⟩
  · rw [if_neg (nI_ge (by omega) (by omega))]
    obtain ⟨X3, a3, s3, hb3, f1, f2, f3, f4⟩ := m_canBe N hN hH hm (hf := hf) (ask := a) (stk := s) hY hfl hL1 hK hk (hb := hb2) (mile := i) (by omega)
    show ∃ X' a' s' hb' il', xq_bd (fX12_canBeAt N mmI (X2 0) (X2 1) (X2 2) (X2 3) (X2 4) (X2 5) (X2 6) (X2 7) (X2 8) (Y 0) a (Y 1) s (Y 2) (Y 3) (Y 4) (Y 6) (Y 7) (Y 5) hf (Y 8) hb2 mm_markNightF mm_markEarF mm_markIsF (nI i)) _ = _ ∧ _
    rw [f1, xs_bd]
    dsimp only
    have hs1 := fb_ct_succ (p_lf H m ro ta K) i
    have key : ∀ y : Nat, y = p_bit (p_lf H m ro ta K i) → ∃ X' a' s' hb' il', fX12_leaves_b35 N mmI (Y 4) (Y 0) (Y 1) (Y 2) (Y 3) (Y 6) (Y 7) (Y 5) (Y 8) mm_markNightF mm_markEarF mm_markIsF kk (X3 0, X3 1, X3 2, X3 3, X3 4, X3 5, X3 6, X3 7, X3 8, a3, s3, hf, hb3, il2, nI (fb_ct (p_lf H m ro ta K) i), nI i, nI i, nI y) = some (nI (fb_ct (p_lf H m ro ta K) (H.1 0)), X' 0, X' 1, X' 2, X' 3, X' 4, X' 5, X' 6, X' 7, X' 8, a', s', hf, hb', il') ∧ mOth 1 X X' ∧ (∀ mile, mile < H.1 0 → il' mile = nI (p_bit (p_lf H m ro ta K mile))) ∧ (∀ mile k, mile < H.1 0 → k < min 31 (999 - m 0) → hb' (31 * mile + k) = nI (p_qh H m ro ta mile k)) := by
      intro y hy
      dsimp only [fX12_leaves_b35]
      rw [xs_ast (show i < 200 by omega) (by omega), xs_bd, xs_ald (show i < 200 by omega) (by omega), xs_bd, pk_us, nI_add, nI_1]
      refine hgo _ (r - 1) (by omega) ⟨X3, a3, s3, hb3, upd il2 i (nI y), i + 1, ?_, ho.trans f2, by omega, fun mile hmi => ?_, fun mile k hmi hk => ?_⟩
      · have : fb_ct (p_lf H m ro ta K) i + y = fb_ct (p_lf H m ro ta K) (i + 1) := by rw [hs1, hy]; rfl
        rw [this]
      · by_cases g : mile = i
        · subst g; rw [pk_us, hy]
        · rw [pk_un g]; exact h1 mile (by omega)
      · by_cases g : mile = i
        · subst g; exact f3 k hk
        · rw [f4 _ (by omega)]; exact h2 mile k (by omega) hk
    cases hq : p_lf H m ro ta K i with
    | false =>
      rw [if_pos (by rfl)]
      exact key 0 (by rw [hq]; rfl)
    | true =>
      rw [if_neg (by decide)]
      exact key 1 (by rw [hq]; rfl)
theorem m_miles (N : Nat) (hN : 5000 ≤ N) {H : PH} {m ro ta : Nat → Nat} (hs : hS H m) {b k : Nat} {mmI hf ask : Nat → Int32} {stk : Nat → Int64} {X Y : Nat → Nat → Int32} (hY : mHY H b mmI Y) (hfl : mFl mmI (H.1 0)) (hL : mLay H 0 m ro ta k X) {K : PK} (hK : pk_ok H K) {mm_markNightF mm_markEarF mm_markIsF hb il : Nat → Int32} (hk : mK K mmI mm_markNightF mm_markEarF mm_markIsF) (x : Int32) : ∃ X' a s hb' il', fX12_miles N mmI (Y 4) (X 0) (X 1) (X 2) (X 3) (X 4) (X 5) (X 6) (X 7) (X 8) (Y 0) ask (Y 1) stk (Y 2) (Y 3) (Y 6) (Y 7) (Y 5) hf (Y 8) hb mm_markNightF mm_markEarF mm_markIsF il x = some (qa_miles H m ro ta K x, X' 0, X' 1, X' 2, X' 3, X' 4, X' 5, X' 6, X' 7, X' 8, a, s, hf, hb', il') ∧ mOth 1 X X' := by
  obtain ⟨b0, b1, b2, b3⟩ := hs.b
  have km : (-1 : Int32).toInt = -1 := rfl
  unfold fX12_miles qa_miles
  rw [hfl]
  by_cases g0 : 0 < H.1 0
  · rw [if_pos g0, if_neg (by decide)]
    by_cases c1 : (-1 : Int32) ≤ x
    · have d1 : (-1 : Int) ≤ x.toInt := by have := (fa_le _ _).mp c1; rw [km] at this; exact this
      obtain ⟨hH, hm⟩ := hs.y g0
      obtain ⟨X1, a, s, hb1, il1, e1, e2, e3, e4⟩ := m_leaves N hN hH hm (hf := hf) (ask := ask) (stk := stk) hY hfl hL hK hk (hb := hb) (il := il)
      rw [if_pos c1, if_pos ⟨g0, d1⟩, e1, xs_bd]
      dsimp only
      by_cases cx : x = -1
      · rw [if_pos cx, if_pos cx]
        exact ⟨X1, a, s, hb1, il1, rfl, e2⟩
      · rw [if_neg cx, if_neg cx]
        refine ⟨X1, a, s, hb1, il1, ?_, e2⟩
        have hle : p_kth (p_lf H m ro ta K) x.toNatClampNeg (H.1 0) ≤ H.1 0 := fa_first_le _ _
        refine xs_loopI (body := fX12_miles_l31 N mmI (Y 4) (Y 0) (Y 1) (Y 2) (Y 3) (Y 6) (Y 7) (Y 5) (Y 8) mm_markNightF mm_markEarF mm_markIsF) (fun r st => ∃ i, st = (X1 0, X1 1, X1 2, X1 3, X1 4, X1 5, X1 6, X1 7, X1 8, a, s, hf, hb1, il1, x, nI (fb_ct (p_lf H m ro ta K) i), nI i) ∧ i + r = H.1 0 ∧ i ≤ p_kth (p_lf H m ro ta K) x.toNatClampNeg (H.1 0)) (fun z => z = some ((if p_kth (p_lf H m ro ta K) x.toNatClampNeg (H.1 0) < H.1 0 then nI (p_kth (p_lf H m ro ta K) x.toNatClampNeg (H.1 0)) else -1), X1 0, X1 1, X1 2, X1 3, X1 4, X1 5, X1 6, X1 7, X1 8, a, s, hf, hb1, il1)) ?_ N (H.1 0) _ ⟨0, rfl, by omega, Nat.zero_le _⟩ (by omega)
        rintro r st kk ⟨i, rfl, hi, hl⟩ hgo
        have hct := fb_ct_le (p_lf H m ro ta K) i
        have hs1 := fb_ct_succ (p_lf H m ro ta K) i
        dsimp only [fX12_miles_l31]
        rw [hY.2.1, xs_ald hY.1 (by omega), xs_bd, hY.2.2.1]
        by_cases c : H.1 0 ≤ i
        · rw [if_pos (nI_le c (by omega)), if_neg (by omega)]
        · rw [if_neg (nI_ge (by omega) (by omega)), xs_ald (show i < 200 by omega) (by omega), xs_bd, e3 i (by omega)]
          have go : fb_ct (p_lf H m ro ta K) i + p_bit (p_lf H m ro ta K i) = fb_ct (p_lf H m ro ta K) (i + 1) := by rw [hs1]; rfl
          have step : i + 1 ≤ p_kth (p_lf H m ro ta K) x.toNatClampNeg (H.1 0) → fX12_miles_b64 N mmI (Y 4) (Y 0) (Y 1) (Y 2) (Y 3) (Y 6) (Y 7) (Y 5) (Y 8) mm_markNightF mm_markEarF mm_markIsF kk (X1 0, X1 1, X1 2, X1 3, X1 4, X1 5, X1 6, X1 7, X1 8, a, s, hf, hb1, il1, x, nI (fb_ct (p_lf H m ro ta K) i), nI i) = some ((if p_kth (p_lf H m ro ta K) x.toNatClampNeg (H.1 0) < H.1 0 then nI (p_kth (p_lf H m ro ta K) x.toNatClampNeg (H.1 0)) else -1), X1 0, X1 1, X1 2, X1 3, X1 4, X1 5, X1 6, X1 7, X1 8, a, s, hf, hb1, il1) := by
            intro hn
            dsimp only [fX12_miles_b64]
            rw [xs_ald (show i < 200 by omega) (by omega), xs_bd, e3 i (by omega), nI_add, go, nI_1]
            exact hgo _ (r - 1) (by omega) ⟨i + 1, rfl, by omega, hn⟩
          cases hq : p_lf H m ro ta K i with
          | false =>
            rw [if_neg (show ¬ nI (p_bit false) = (1 : Int32) from by decide)]
            exact step (p_kth_next hl (by omega) (fun z => by rw [hq] at z; exact Bool.false_ne_true z.1))
          | true =>
            rw [if_pos (show nI (p_bit true) = (1 : Int32) from by decide)]
            by_cases ce : nI (fb_ct (p_lf H m ro ta K) i) = x
            · have ek : x.toNatClampNeg = fb_ct (p_lf H m ro ta K) i := by rw [← ce, nI_clamp (by omega)]
              rw [if_pos ce, p_kth_is hl (by omega) hq ek.symm, if_pos (by omega)]
            · rw [if_neg ce]
              refine step (p_kth_next hl (by omega) (fun z => ce ?_))
              rw [z.2]
              have : ¬ x < 0 := by
                rw [fa_lt]
                show ¬ x.toInt < 0
                intro q
                apply cx
                rw [fa_eq, km]; omega
              obtain ⟨j, hj, rfl⟩ := nI_of this
              rw [nI_clamp hj]
    · rw [if_neg c1, if_neg (fun z => c1 (by rw [fa_le, km]; exact z.2))]
      exact ⟨X, ask, stk, _, _, rfl, mOth.refl _ _⟩
  · rw [if_neg g0, if_pos (by rfl), if_neg (fun z => g0 z.1)]
    exact ⟨X, ask, stk, _, _, rfl, mOth.refl _ _⟩
