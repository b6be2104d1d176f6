/-! tells in the reference -/
def m_bst (b : Nat) : Int32 := if b = 1000 then -1 else nI b
def m_lst (mo : Nat → Nat) (b : Nat) : Int32 := if b = 1000 then 100000000 else nI (mo b)
section MTL
variable {X Y : Nat → Nat → Int32} {mmI a hf hb il mm_markNightF mm_markEarF mm_markIsF : Nat → Int32} {s : Nat → Int64} {H : PH} {m ro ta : Nat → Nat} {K : PK} {b : Nat}
theorem m_l74 (N : Nat) (hN : 5000 ≤ N) (hY : mHY H b mmI Y) (h200 : H.1 0 ≤ 200) (hE : H.1 1 ≤ 7) (hil : ∀ mile, mile < H.1 0 → il mile = nI (p_bit (p_lf H m ro ta K mile))) (hhb : ∀ mile k, mile < H.1 0 → k < p_av m → hb (31 * mile + k) = nI (p_qh H m ro ta mile k)) (k33 k54 : _) (x : Int32) (k e : Nat) (hk : k < p_av m) (he : e < H.1 1) :
    xq_loop (fX12_tells_l74 N mmI (Y 4) (Y 0) (Y 1) (Y 2) (Y 3) (Y 6) (Y 7) (Y 5) (Y 8) mm_markNightF mm_markEarF mm_markIsF k33 k54) N (X 0, X 1, X 2, X 3, X 4, X 5, X 6, X 7, X 8, a, s, hf, hb, il, x, nI (p_L H m ro ta K), m_bst (p_bt (H.1 1) (p_mo H m ro ta K) (7 * k + e)), m_lst (p_mo H m ro ta K) (p_bt (H.1 1) (p_mo H m ro ta K) (7 * k + e)), nI k, nI e, 0, 0) = k54 (X 0, X 1, X 2, X 3, X 4, X 5, X 6, X 7, X 8, a, s, hf, hb, il, x, nI (p_L H m ro ta K), m_bst (p_bt (H.1 1) (p_mo H m ro ta K) (7 * k + (e + 1))), m_lst (p_mo H m ro ta K) (p_bt (H.1 1) (p_mo H m ro ta K) (7 * k + (e + 1))), nI k, nI (e + 1)) := by
  have hav : p_av m ≤ 31 := by unfold p_av; omega
  have hLle : p_L H m ro ta K ≤ 200 := Nat.le_trans (fb_ct_le _ _) h200
  have d1 : (7 * k + e) / 7 = k := by omega
  have d2 : (7 * k + e) % 7 = e := by omega
  have hrg := p_bt_rng (H.1 1) (p_mo H m ro ta K) (7 * k + e)
  have hs2 : ∀ i, p_tl H m ro ta K (7 * k + e) (i + 1) = p_tl H m ro ta K (7 * k + e) i + p_tb H m ro ta K (7 * k + e) i := fun i => fb_sm_succ _ i
  refine xs_loop (body := fX12_tells_l74 N mmI (Y 4) (Y 0) (Y 1) (Y 2) (Y 3) (Y 6) (Y 7) (Y 5) (Y 8) mm_markNightF mm_markEarF mm_markIsF k33 k54) (fun i => (X 0, X 1, X 2, X 3, X 4, X 5, X 6, X 7, X 8, a, s, hf, hb, il, x, nI (p_L H m ro ta K), m_bst (p_bt (H.1 1) (p_mo H m ro ta K) (7 * k + e)), m_lst (p_mo H m ro ta K) (p_bt (H.1 1) (p_mo H m ro ta K) (7 * k + e)), nI k, nI e, nI (p_tl H m ro ta K (7 * k + e) i), nI i)) (H.1 0) _ ?_ ?_ N (by omega)
  · intro i hi kk
    dsimp only [fX12_tells_l74]
    rw [hY.2.1, xs_ald hY.1 (by omega), xs_bd, hY.2.2.1, if_neg (nI_ge hi (by omega)), xs_ald (show i < 200 by omega) (by omega), xs_bd, hil i hi]
    have htb : p_tb H m ro ta K (7 * k + e) i = if p_lf H m ro ta K i = true then p_qh H m ro ta i k / 2 ^ e % 2 else 0 := by unfold p_tb; rw [d1, d2]
    have nought : p_tb H m ro ta K (7 * k + e) i = 0 → fX12_tells_b126 N mmI (Y 4) (Y 0) (Y 1) (Y 2) (Y 3) (Y 6) (Y 7) (Y 5) (Y 8) mm_markNightF mm_markEarF mm_markIsF k33 k54 kk (X 0, X 1, X 2, X 3, X 4, X 5, X 6, X 7, X 8, a, s, hf, hb, il, x, nI (p_L H m ro ta K), m_bst (p_bt (H.1 1) (p_mo H m ro ta K) (7 * k + e)), m_lst (p_mo H m ro ta K) (p_bt (H.1 1) (p_mo H m ro ta K) (7 * k + e)), nI k, nI e, nI i, nI (p_tl H m ro ta K (7 * k + e) i)) = kk (X 0, X 1, X 2, X 3, X 4, X 5, X 6, X 7, X 8, a, s, hf, hb, il, x, nI (p_L H m ro ta K), m_bst (p_bt (H.1 1) (p_mo H m ro ta K) (7 * k + e)), m_lst (p_mo H m ro ta K) (p_bt (H.1 1) (p_mo H m ro ta K) (7 * k + e)), nI k, nI e, nI (p_tl H m ro ta K (7 * k + e) (i + 1)), nI (i + 1)) := by
      intro hz
      dsimp only [fX12_tells_b126, fX12_tells_b127]
      show kk (_, _, _, _, _, _, _, _, _, _, _, _, _, _, _, _, _, _, _, _, nI (p_tl H m ro ta K (7 * k + e) i) + nI 0, _) = _
      rw [nI_add, nI_1, hs2, hz]
    cases hq : p_lf H m ro ta K i with
    | false =>
      rw [if_neg (show ¬ nI (p_bit false) = (1 : Int32) from by decide)]
      exact nought (by rw [htb, hq]; rfl)
    | true =>
      have ei : (31 : Int32) * nI i + nI k = nI (31 * i + k) := by
        show nI 31 * nI i + nI k = _
        rw [pk_mul, nI_add]
      have hqh := p_qh_lt hE m ro ta i k
      rw [if_pos (show nI (p_bit true) = (1 : Int32) from by decide), ei, xs_ald (show 31 * i + k < 6200 by omega) (by omega), xs_bd, hhb i k hi hk, m_has2 N (by omega) (by omega), xs_bd]
      have hbit : p_qh H m ro ta i k / 2 ^ e % 2 < 2 := Nat.mod_lt _ (by omega)
      rw [hq, if_pos rfl] at htb
      by_cases cz : p_qh H m ro ta i k / 2 ^ e % 2 = 0
      · rw [cz, if_pos (by rfl)]
        exact nought (htb.trans cz)
      · have cz1 : p_qh H m ro ta i k / 2 ^ e % 2 = 1 := by omega
        rw [cz1, if_neg (by decide)]
        dsimp only [fX12_tells_b127]
        rw [nI_1, nI_1, hs2, htb, cz1]
  · intro kk
    dsimp only [fX12_tells_l74]
    rw [hY.2.1, xs_ald hY.1 (by omega), xs_bd, hY.2.2.1, if_pos (nI_le (Nat.le_refl _) (by omega))]
    have htl := p_tl_le H m ro ta K (7 * k + e) (H.1 0)
    have hLd : p_L H m ro ta K = fb_ct (p_lf H m ro ta K) (H.1 0) := rfl
    rw [pk_sub (by omega)]
    have hmo : p_mo H m ro ta K (7 * k + e) = max (p_tl H m ro ta K (7 * k + e) (H.1 0)) (p_L H m ro ta K - p_tl H m ro ta K (7 * k + e) (H.1 0)) := rfl
    have hmle := p_mo_le H m ro ta K (7 * k + e)
    have key : ∀ y : Nat, y = p_mo H m ro ta K (7 * k + e) → fX12_tells_b154 N mmI (Y 4) (Y 0) (Y 1) (Y 2) (Y 3) (Y 6) (Y 7) (Y 5) (Y 8) mm_markNightF mm_markEarF mm_markIsF k33 k54 (X 0, X 1, X 2, X 3, X 4, X 5, X 6, X 7, X 8, a, s, hf, hb, il, x, nI (p_L H m ro ta K), m_bst (p_bt (H.1 1) (p_mo H m ro ta K) (7 * k + e)), m_lst (p_mo H m ro ta K) (p_bt (H.1 1) (p_mo H m ro ta K) (7 * k + e)), nI k, nI e, nI y) = k54 (X 0, X 1, X 2, X 3, X 4, X 5, X 6, X 7, X 8, a, s, hf, hb, il, x, nI (p_L H m ro ta K), m_bst (p_bt (H.1 1) (p_mo H m ro ta K) (7 * k + (e + 1))), m_lst (p_mo H m ro ta K) (p_bt (H.1 1) (p_mo H m ro ta K) (7 * k + (e + 1))), nI k, nI (e + 1)) := by
      intro y hy
      dsimp only [fX12_tells_b154]
      have es := p_bt_s (H.1 1) (p_mo H m ro ta K) (7 * k + e)
      have ea : 7 * k + (e + 1) = 7 * k + e + 1 := by omega
      have hml := p_mo_le H m ro ta K (p_bt (H.1 1) (p_mo H m ro ta K) (7 * k + e))
      rw [ea, es]
      by_cases c : p_bt (H.1 1) (p_mo H m ro ta K) (7 * k + e) = 1000 ∨ p_mo H m ro ta K (7 * k + e) < p_mo H m ro ta K (p_bt (H.1 1) (p_mo H m ro ta K) (7 * k + e))
      · rw [if_pos (show (7 * k + e) % 7 < H.1 1 ∧ _ from ⟨by omega, c⟩)]
        have clt : nI y < m_lst (p_mo H m ro ta K) (p_bt (H.1 1) (p_mo H m ro ta K) (7 * k + e)) := by
          unfold m_lst
          by_cases d : p_bt (H.1 1) (p_mo H m ro ta K) (7 * k + e) = 1000
          · rw [if_pos d]
            exact nI_lt (b := 100000000) (by omega) (by omega)
          · rw [if_neg d]
            exact nI_lt (by rcases c with c | c <;> omega) (by omega)
        rw [if_pos clt]
        dsimp only [fX12_tells_b179]
        have e7 : (7 : Int32) * nI k + nI e = nI (7 * k + e) := mx7 k e
        have e8 : m_bst (7 * k + e) = nI (7 * k + e) := by unfold m_bst; rw [if_neg (by omega)]
        have e9 : m_lst (p_mo H m ro ta K) (7 * k + e) = nI y := by unfold m_lst; rw [if_neg (by omega), hy]
        rw [e7, e8, e9, nI_1]
      · rw [if_neg (show ¬ ((7 * k + e) % 7 < H.1 1 ∧ _) from fun z => c z.2)]
        have clt : ¬ nI y < m_lst (p_mo H m ro ta K) (p_bt (H.1 1) (p_mo H m ro ta K) (7 * k + e)) := by
          unfold m_lst
          rw [if_neg (fun z => c (Or.inl z))]
          exact nI_nlt (by omega) (by omega)
        rw [if_neg clt]
        dsimp only [fX12_tells_b179]
        rw [nI_1]
    by_cases c : p_tl H m ro ta K (7 * k + e) (H.1 0) ≤ p_L H m ro ta K - p_tl H m ro ta K (7 * k + e) (H.1 0)
    · rw [if_pos (nI_le c (by omega))]
      exact key _ (by rw [hmo]; omega)
    · rw [if_neg (nI_ge (by omega) (by omega))]
      exact key _ (by rw [hmo]; omega)
end MTL
theorem m_tells (N : Nat) (hN : 5000 ≤ N) {H : PH} {m ro ta : Nat → Nat} (hs : hS H m) {b k : Nat} {mmI hf ask : Nat → Int32} {stk : Nat → Int64} {X Y : Nat → Nat → Int32} (hY : mHY H b mmI Y) (hfl : mFl mmI (H.1 0)) (hL : mLay H 0 m ro ta k X) {K : PK} (hK : pk_ok H K) {mm_markNightF mm_markEarF mm_markIsF hb il : Nat → Int32} (hk : mK K mmI mm_markNightF mm_markEarF mm_markIsF) (x : Int32) : ∃ X' a s hb' il', fX12_tells N mmI (Y 4) (X 0) (X 1) (X 2) (X 3) (X 4) (X 5) (X 6) (X 7) (X 8) (Y 0) ask (Y 1) stk (Y 2) (Y 3) (Y 6) (Y 7) (Y 5) hf (Y 8) hb mm_markNightF mm_markEarF mm_markIsF il x = some (qa_tells H m ro ta K x, X' 0, X' 1, X' 2, X' 3, X' 4, X' 5, X' 6, X' 7, X' 8, a, s, hf, hb', il') ∧ mOth 1 X X' := by
  obtain ⟨b0, b1, b2, b3⟩ := hs.b
  unfold fX12_tells qa_tells
  rw [hfl]
  by_cases g0 : 0 < H.1 0
  · rw [if_pos g0, if_neg (by decide)]
    show ∃ X' a s hb' il', xq_bd (fX12_is N x (nI 0) (nI 2)) _ = _ ∧ _
    rw [m_is N (by omega) (by omega), xs_bd]
    by_cases c : ((0 : Nat) : Int) ≤ x.toInt ∧ x.toInt ≤ ((2 : Nat) : Int)
    · have hx : x = 0 ∨ x = 1 ∨ x = 2 := by
        have k0 : (0 : Int32).toInt = 0 := rfl
        have k1 : (1 : Int32).toInt = 1 := rfl
        have k2 : (2 : Int32).toInt = 2 := rfl
        rw [fa_eq, fa_eq, fa_eq, k0, k1, k2]; omega
      obtain ⟨hH, hm⟩ := hs.y g0
      have hav : p_av m ≤ 31 := by unfold p_av; omega
      have havd : p_av m = min 31 (999 - m 0) := rfl
      rw [decide_eq_true c, if_neg (by decide)]
      obtain ⟨X1, a, s, hb1, il1, e1, e2, e3, e4⟩ := m_leaves N hN hH hm (hf := hf) (ask := ask) (stk := stk) hY hfl hL hK hk (hb := hb) (il := il)
      rw [e1, xs_bd]
      dsimp only
      have hL1 := hL.oth e2 (by omega) b1 b2
      have hLle : p_L H m ro ta K ≤ 200 := Nat.le_trans (fb_ct_le _ _) b0
      refine ⟨X1, a, s, hb1, il1, ?_, e2⟩
      -- the end
      have fin : ∀ k, (k = p_av m ∨ p_L H m ro ta K = 0) → (p_L H m ro ta K = 0 → k = 0) → fX12_tells_b191 N mmI (Y 4) (Y 0) (Y 1) (Y 2) (Y 3) (Y 6) (Y 7) (Y 5) (Y 8) mm_markNightF mm_markEarF mm_markIsF (X1 0, X1 1, X1 2, X1 3, X1 4, X1 5, X1 6, X1 7, X1 8, a, s, hf, hb1, il1, x, m_bst (p_bt (H.1 1) (p_mo H m ro ta K) (7 * k)), m_lst (p_mo H m ro ta K) (p_bt (H.1 1) (p_mo H m ro ta K) (7 * k))) = some ((if 0 < H.1 0 ∧ 0 < H.1 1 ∧ 0 < p_av m ∧ (x = 0 ∨ x = 1 ∨ x = 2) ∧ 0 < p_L H m ro ta K then (if x = 0 then nI (p_B H m ro ta K / 7) else if x = 1 then nI (p_B H m ro ta K % 7) else nI (p_mo H m ro ta K (p_B H m ro ta K))) else -1), X1 0, X1 1, X1 2, X1 3, X1 4, X1 5, X1 6, X1 7, X1 8, a, s, hf, hb1, il1) := by
        intro k hk1 hk2
        dsimp only [fX12_tells_b191]
        by_cases d : 0 < H.1 0 ∧ 0 < H.1 1 ∧ 0 < p_av m ∧ (x = 0 ∨ x = 1 ∨ x = 2) ∧ 0 < p_L H m ro ta K
        · have hkav : k = p_av m := by omega
          subst hkav
          rw [if_pos d]
          have hBne : p_bt (H.1 1) (p_mo H m ro ta K) (7 * p_av m) ≠ 1000 := by
            have := p_bt_pos (E := H.1 1) d.2.1 (p_mo H m ro ta K) (7 * p_av m - 1) (by omega)
            rw [show 7 * p_av m - 1 + 1 = 7 * p_av m by omega] at this
            exact this
          have hBlt : p_bt (H.1 1) (p_mo H m ro ta K) (7 * p_av m) < 7 * p_av m := by
            rcases p_bt_rng (H.1 1) (p_mo H m ro ta K) (7 * p_av m) with q | q
            · exact absurd q hBne
            · exact q
          unfold m_bst m_lst p_B
          rw [if_neg hBne, if_neg hBne, if_neg (nI_nm1 (by omega))]
          rcases hx with rfl | rfl | rfl
          · rw [if_pos (show (0 : Int32) = 0 from rfl), if_pos (show (0 : Int32) = 0 from rfl)]
            have d7 : xq_dv (nI (p_bt (H.1 1) (p_mo H m ro ta K) (7 * p_av m))) 7 = some (nI (p_bt (H.1 1) (p_mo H m ro ta K) (7 * p_av m) / 7)) := xs_dv (b := 7) (by omega) (by omega) (by omega)
            rw [d7, xs_bd]
          · rw [if_neg (show ¬ (1 : Int32) = 0 from by decide), if_pos (show (1 : Int32) = 1 from rfl), if_neg (show ¬ (1 : Int32) = 0 from by decide), if_pos (show (1 : Int32) = 1 from rfl)]
            have r7 : xq_rm (nI (p_bt (H.1 1) (p_mo H m ro ta K) (7 * p_av m))) 7 = some (nI (p_bt (H.1 1) (p_mo H m ro ta K) (7 * p_av m) % 7)) := xs_rm (b := 7) (by omega) (by omega) (by omega)
            rw [r7, xs_bd]
          · rw [if_neg (show ¬ (2 : Int32) = 0 from by decide), if_neg (show ¬ (2 : Int32) = 1 from by decide), if_neg (show ¬ (2 : Int32) = 0 from by decide), if_neg (show ¬ (2 : Int32) = 1 from by decide)]
        · rw [if_neg d]
          have hb0 : p_bt (H.1 1) (p_mo H m ro ta K) (7 * k) = 1000 := by
            by_cases z1 : H.1 1 = 0
            · have gen : ∀ q, p_bt 0 (p_mo H m ro ta K) q = 1000 := by
                intro q
                induction q with
                | zero => rfl
                | succ q ih => rw [p_bt_s, if_neg (fun z => Nat.not_lt_zero _ z.1)]; exact ih
              rw [z1]; exact gen _
            · have : k = 0 := by
                by_cases z2 : p_av m = 0
                · omega
                · exact hk2 (by
                    apply Nat.eq_zero_of_not_pos
                    intro z
                    exact d ⟨g0, by omega, by omega, hx, z⟩)
              subst this; rfl
          rw [hb0]
          unfold m_bst
          rw [if_pos rfl, if_pos rfl]
      refine xs_loopI (body := fX12_tells_l33 N mmI (Y 4) (Y 0) (Y 1) (Y 2) (Y 3) (Y 6) (Y 7) (Y 5) (Y 8) mm_markNightF mm_markEarF mm_markIsF) (fun r st => ∃ k, st = (X1 0, X1 1, X1 2, X1 3, X1 4, X1 5, X1 6, X1 7, X1 8, a, s, hf, hb1, il1, x, nI (p_L H m ro ta K), m_bst (p_bt (H.1 1) (p_mo H m ro ta K) (7 * k)), m_lst (p_mo H m ro ta K) (p_bt (H.1 1) (p_mo H m ro ta K) (7 * k)), nI k) ∧ k + r = p_av m ∧ (p_L H m ro ta K = 0 → k = 0)) (fun z => z = some ((if 0 < H.1 0 ∧ 0 < H.1 1 ∧ 0 < p_av m ∧ (x = 0 ∨ x = 1 ∨ x = 2) ∧ 0 < p_L H m ro ta K then (if x = 0 then nI (p_B H m ro ta K / 7) else if x = 1 then nI (p_B H m ro ta K % 7) else nI (p_mo H m ro ta K (p_B H m ro ta K))) else -1), X1 0, X1 1, X1 2, X1 3, X1 4, X1 5, X1 6, X1 7, X1 8, a, s, hf, hb1, il1)) ?_ N (p_av m) _ ⟨0, rfl, by omega, fun _ => rfl⟩ (by omega)
      rintro r st kk ⟨k, rfl, hkr, hk0⟩ hgo
      have ea := m_ahead N (lo := 1) (hi := 31) (ngF := X1 0) hfl hL1.1 b3 (by omega) (by omega) (nI (k + 1))
      show xq_bd (fX12_isAhead N mmI (X1 0) (nI k + 1) (nI 1) (nI 31)) _ = _
      rw [nI_1, ea, xs_bd]
      unfold p_ahead
      rw [nI_toInt (by omega)]
      by_cases c1 : k < p_av m
      · rw [decide_eq_true ⟨g0, by omega, by omega, by omega⟩, if_neg (by decide)]
        by_cases c2 : p_L H m ro ta K = 0
        · rw [c2, if_pos (show nI 0 ≤ (0 : Int32) from by decide)]
          rw [c2] at fin hgo
          have := fin k (Or.inr rfl) (fun _ => hk0 c2)
          exact this
        · rw [if_neg (nI_nle (by omega) (by omega))]
          refine xs_loopI (body := fX12_tells_l54 N mmI (Y 4) (Y 0) (Y 1) (Y 2) (Y 3) (Y 6) (Y 7) (Y 5) (Y 8) mm_markNightF mm_markEarF mm_markIsF kk) (fun r2 st => ∃ e, st = (X1 0, X1 1, X1 2, X1 3, X1 4, X1 5, X1 6, X1 7, X1 8, a, s, hf, hb1, il1, x, nI (p_L H m ro ta K), m_bst (p_bt (H.1 1) (p_mo H m ro ta K) (7 * k + e)), m_lst (p_mo H m ro ta K) (p_bt (H.1 1) (p_mo H m ro ta K) (7 * k + e)), nI k, nI e) ∧ e + r2 = H.1 1) (fun z => z = some ((if 0 < H.1 0 ∧ 0 < H.1 1 ∧ 0 < p_av m ∧ (x = 0 ∨ x = 1 ∨ x = 2) ∧ 0 < p_L H m ro ta K then (if x = 0 then nI (p_B H m ro ta K / 7) else if x = 1 then nI (p_B H m ro ta K % 7) else nI (p_mo H m ro ta K (p_B H m ro ta K))) else -1), X1 0, X1 1, X1 2, X1 3, X1 4, X1 5, X1 6, X1 7, X1 8, a, s, hf, hb1, il1)) ?_ N (H.1 1) _ ⟨0, rfl, by omega⟩ (by omega)
          rintro r2 st kk2 ⟨e, rfl, he⟩ hgo2
          show xq_bd (xq_ald 2 (Y 5) (mmI 13)) (fun v_8 => if v_8 ≤ nI e then _ else _) = _
          rw [hY.2.1, xs_ald hY.1 (by omega), xs_bd, hY.2.2.2.1]
          by_cases c3 : H.1 1 ≤ e
          · have : e = H.1 1 := by omega
            subst this
            rw [if_pos (nI_le (Nat.le_refl _) (by omega)), nI_1]
            refine hgo _ (r - 1) (by omega) ⟨k + 1, ?_, by omega, fun z => absurd z c2⟩
            have sk := p_bt_skip (H.1 1) (p_mo H m ro ta K) k (7 - H.1 1) (by omega)
            rw [show 7 * k + (H.1 1 + (7 - H.1 1)) = 7 * (k + 1) by omega] at sk
            rw [sk]
          · rw [if_neg (nI_ge (by omega) (by omega))]
            have hl := m_l74 N hN hY b0 b1 (X := X1) (a := a) (s := s) (hf := hf) (hb := hb1) (il := il1) (mm_markNightF := mm_markNightF) (mm_markEarF := mm_markEarF) (mm_markIsF := mm_markIsF) (m := m) (ro := ro) (ta := ta) (K := K) e3 e4 kk kk2 x k e c1 (by omega)
            rw [show xq_loop _ N _ = _ from hl]
            exact hgo2 _ (r2 - 1) (by omega) ⟨e + 1, rfl, by omega⟩
      · rw [decide_eq_false (fun z => by omega), if_pos (by rfl)]
        exact fin k (Or.inl (by omega)) hk0
    · rw [decide_eq_false c, if_pos (by rfl), if_neg (fun z => c (by rcases z.2.2.2.1 with rfl | rfl | rfl <;> exact ⟨by decide, by decide⟩))]
      exact ⟨X, ask, stk, _, _, rfl, mOth.refl _ _⟩
  · rw [if_neg g0, if_pos (by rfl), if_neg (fun z => g0 z.1)]
    exact ⟨X, ask, stk, _, _, rfl, mOth.refl _ _⟩
