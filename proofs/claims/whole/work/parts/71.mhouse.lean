/-! the reference's house, its values -/
def mL (b w : Nat) (sf sb cs cv : Nat → Int32) (D L : List Nat) : Prop := (sf (3 * b + w) = -1 ∧ L = D) ∨ (∃ f e, sf (3 * b + w) = nI f ∧ sb (3 * b + w) = nI e ∧ f + L.length = e ∧ e ≤ 1600 ∧ ∀ j c, L[j]? = some c → ∃ s v, cs (1600 * b + f + j) = nI s ∧ (s = 0 → cv (1600 * b + f + j) = nI v) ∧ pm_rel c s v)
def mH (H : PH) (b : Nat) (mmI sf sb cs cv mt me mp pa sh : Nat → Int32) : Prop := b < 2 ∧ mmI 13 = nI b ∧ mt b = nI (H.1 0) ∧ me b = nI (H.1 1) ∧ mp b = nI (H.1 2) ∧ (∀ k, k < H.1 2 → pa (6 * b + k) = nI (H.2.1 0 k)) ∧ (∀ e, e < H.1 1 → sh (7 * b + e) = nI (H.2.1 1 e)) ∧ mL b 0 sf sb cs cv [1] (H.2.2 0) ∧ mL b 1 sf sb cs cv [10316, 10, 20060] (H.2.2 1) ∧ mL b 2 sf sb cs cv [10309] (H.2.2 2)
theorem mx3 (b w : Nat) : (3 : Int32) * nI b + nI w = nI (3 * b + w) := by
  show nI 3 * nI b + nI w = _
  rw [pk_mul, nI_add]
theorem mx6 (b w : Nat) : (6 : Int32) * nI b + nI w = nI (6 * b + w) := by
  show nI 6 * nI b + nI w = _
  rw [pk_mul, nI_add]
theorem mx7 (b w : Nat) : (7 : Int32) * nI b + nI w = nI (7 * b + w) := by
  show nI 7 * nI b + nI w = _
  rw [pk_mul, nI_add]
theorem mx10 (b w : Nat) : (10 : Int32) * nI b + nI w = nI (10 * b + w) := by
  show nI 10 * nI b + nI w = _
  rw [pk_mul, nI_add]
theorem mx40 (b w : Nat) : (40 : Int32) * nI b + nI w = nI (40 * b + w) := by
  show nI 40 * nI b + nI w = _
  rw [pk_mul, nI_add]
theorem mx120 (b w : Nat) : (120 : Int32) * nI b + nI w = nI (120 * b + w) := by
  show nI 120 * nI b + nI w = _
  rw [pk_mul, nI_add]
theorem mx1600 (b w : Nat) : (1600 : Int32) * nI b + nI w = nI (1600 * b + w) := by
  show nI 1600 * nI b + nI w = _
  rw [pk_mul, nI_add]
theorem mx {k : Int32} {K : Nat} (hK : k = nI K) (b w : Nat) : k * nI b + nI w = nI (K * b + w) := by rw [hK, pk_mul, nI_add]
theorem m_told (N : Nat) {b w : Nat} {mmI sf : Nat → Int32} (hb : b < 2) (hw : w < 3) (h13 : mmI 13 = nI b) : fX12_isTold N mmI sf (nI w) = some (if sf (3 * b + w) = -1 then 0 else 1) := by
  unfold fX12_isTold
  rw [h13, mx3, xs_ald (by omega) (by omega), xs_bd]
  split <;> rfl
theorem nI_nm1 {n : Nat} (h : n < 2 ^ 31) : ¬ nI n = -1 := fun z => by
  have := (fa_eq _ _).mp z
  rw [nI_toInt h] at this
  have e : (-1 : Int32).toInt = -1 := rfl
  omega
theorem m_result (N : Nat) {ok : Nat → Bool} {vals ask mmI sf sb cs cv : Nat → Int32} {stk : Nat → Int64} {b w : Nat} {D L : List Nat} {bo : Bool} (hN : 5000 ≤ N) (hb : b < 2) (hw : w < 3) (h13 : mmI 13 = nI b) (hL : mL b w sf sb cs cv D L) (ht : pe_tc ok L [] = some [bo]) (hv : pe_env ok vals) (hask : ∀ k s, ok (10300 + k) = true → pm_var k s → ask s = vals k) (hto : ¬ sf (3 * b + w) = -1) : ∃ stk', fX12_reckons N mmI sf sb stk cs ask cv (nI w) = some ((p_one L vals).toInt64, stk') ∧ pe_typ [bo] [p_one L vals] := by
  rcases hL with ⟨h1, -⟩ | ⟨f, e, h1, h2, h3, h4, h5⟩
  · exact absurd h1 hto
  · have hb3 : xq_ald 6 sb ((3 * (mmI 13)) + nI w) = some (nI e) := by rw [h13, mx3, xs_ald (by omega) (by omega), h2]
    have he : (1600 * (mmI 13)) + nI e = nI (1600 * b + e) := by rw [h13, mx1600]
    obtain ⟨x, F', e1, e2, e3⟩ := pm_class N (mmI := mmI) (sf := sf) (cs := cs) (ask := ask) (cv := cv) hv hb3 he (by omega) hask L [] [] stk (1600 * b + f) ht trivial trivial h5 (by omega) N (by omega)
    have e4 : p_one L vals = x := by unfold p_one; rw [e1]; rfl
    refine ⟨F', ?_, by rw [e4]; exact e2⟩
    unfold fX12_reckons
    rw [h13, mx3, xs_ald (by omega) (by omega), xs_bd, h1, mx1600, e4]
    exact e3
theorem m_cut (N : Nat) {most : Nat} (hm : most < 2 ^ 31) (x : Int32) : fX12_cut N x.toInt64 (nI most) = some (nI (p_cut most x)) := by
  have e0 : (0 : Int64).toInt = 0 := rfl
  unfold fX12_cut p_cut
  by_cases c1 : x.toInt < 0
  · rw [if_neg (fun z => by rw [lg_cmp_ge, fa_le64, Int32.toInt_toInt64, e0] at z; omega), if_pos c1]; rfl
  · rw [if_pos (by rw [lg_cmp_ge, fa_le64, Int32.toInt_toInt64, e0]; omega), if_neg c1]
    by_cases c2 : (most : Int) < x.toInt
    · rw [if_neg (fun z => by rw [lg_cmp_le, fa_le64, Int32.toInt_toInt64, Int32.toInt_toInt64, nI_toInt hm] at z; omega), if_pos c2]
    · rw [if_pos (by rw [lg_cmp_le, fa_le64, Int32.toInt_toInt64, Int32.toInt_toInt64, nI_toInt hm]; omega), if_neg c2, Int32.toInt32_toInt64]
      congr 1
      rw [fa_eq, nI_toInt (by have := fb_rng x; omega)]
      omega
theorem m_stride (N : Nat) (hN : 5000 ≤ N) {H : PH} (hH : ph_ok H) {b v : Nat} {mmI sf sb cs cv mt me mp pa sh ngF miF roF ask : Nat → Int32} {stk : Nat → Int64} (hc : mH H b mmI sf sb cs cv mt me mp pa sh) (hv : v < 22) {ng mi ro hu : Nat} (h0 : ngF v = nI ng) (h1 : miF v = nI mi) (h2 : roF v = nI ro) (b0 : ng ≤ 1000) (b1 : mi ≤ 1000) (b2 : ro ≤ 1000) (b3 : hu ≤ 1000) : ∃ a' s', fX12_strideOf N mmI sf ngF ask miF roF sb stk cs cv (nI v) (nI hu) = some (nI (p_pace H ng hu mi ro), a', s') := by
  obtain ⟨hb, h13, -, -, -, -, -, hG, -, -⟩ := hc
  obtain ⟨bo, ht⟩ := hH.2.2.2.2.2.2.2.1
  unfold fX12_strideOf
  show ∃ a' s', xq_bd (fX12_isTold N mmI sf (nI 0)) _ = _
  rw [m_told N hb (by omega) h13, xs_bd]
  by_cases c : sf (3 * b + 0) = -1
  · rw [if_pos c, if_pos rfl]
    have hL : H.2.2 0 = [1] := by
      rcases hG with ⟨-, g⟩ | ⟨f, e, g, g2, g3, g4, -⟩
      · exact g
      · exfalso; rw [g] at c; exact nI_nm1 (by omega) c
    refine ⟨ask, stk, ?_⟩
    have : p_pace H ng hu mi ro = 1 := by unfold p_pace; rw [hL]; show p_cut 99 (nI 1) = 1; decide
    rw [this]; rfl
  · rw [if_neg c, if_neg (by decide), xs_ald hv (by omega), xs_bd, h0]
    show ∃ a' s', xq_bd (xq_ast 12 ask (nI 1) (nI ng)) _ = _
    rw [xs_ast (by omega) (by omega), xs_bd]
    show ∃ a' s', xq_bd (xq_ast 12 _ (nI 2) (nI hu)) _ = _
    rw [xs_ast (by omega) (by omega), xs_bd, xs_ald hv (by omega), xs_bd, h1]
    show ∃ a' s', xq_bd (xq_ast 12 _ (nI 3) (nI mi)) _ = _
    rw [xs_ast (by omega) (by omega), xs_bd, xs_ald hv (by omega), xs_bd, h2]
    show ∃ a' s', xq_bd (xq_ast 12 _ (nI 4) (nI ro)) _ = _
    rw [xs_ast (by omega) (by omega), xs_bd]
    have hev : pe_env pe_okG (p_envG ng hu mi ro) := fun c hc => by
      rcases pe_okG_c hc with rfl | rfl | rfl | rfl
      · exact ⟨by omega, by omega, p_rng b0⟩
      · exact ⟨by omega, by omega, p_rng b3⟩
      · exact ⟨by omega, by omega, p_rng b1⟩
      · exact ⟨by omega, by omega, p_rng b2⟩
    obtain ⟨s', e1, -⟩ := m_result N (vals := p_envG ng hu mi ro) (ask := upd (upd (upd (upd ask 1 (nI ng)) 2 (nI hu)) 3 (nI mi)) 4 (nI ro)) (sf := sf) (stk := stk) hN hb (show 0 < 3 by omega) h13 hG ht hev (fun k s hk hs => by
      rcases pe_okG_c hk with q | q | q | q
      · have : k = 13 := by omega
        subst this
        have : s = 1 := by unfold pm_var at hs; omega
        subst this; rfl
      · have : k = 2 := by omega
        subst this
        have : s = 2 := by unfold pm_var at hs; omega
        subst this; rfl
      · have : k = 14 := by omega
        subst this
        have : s = 3 := by unfold pm_var at hs; omega
        subst this; rfl
      · have : k = 15 := by omega
        subst this
        have : s = 4 := by unfold pm_var at hs; omega
        subst this; rfl) c
    show ∃ a' s', xq_bd (fX12_reckons N mmI sf sb stk cs _ cv (nI 0)) _ = _
    rw [e1, xs_bd]
    show ∃ a' s', xq_bd (fX12_cut N _ (nI 99)) _ = _
    rw [m_cut N (by omega), xs_bd]
    exact ⟨_, _, rfl⟩
theorem m_talk (N : Nat) (hN : 5000 ≤ N) {H : PH} (hH : ph_ok H) {b v : Nat} {mmI sf sb cs cv mt me mp pa sh ngF taF ask : Nat → Int32} {stk : Nat → Int64} (hc : mH H b mmI sf sb cs cv mt me mp pa sh) (hv : v < 22) {ng pl ta hu : Nat} (h0 : ngF v = nI ng) (hp : pl < 6) (h1 : taF (6 * v + pl) = nI ta) (b0 : ng ≤ 1000) (b1 : ta ≤ 9) (b3 : hu ≤ 1000) : ∃ a' s', fX12_talkAt N mmI taF sf ngF ask sb stk cs cv (nI v) (nI pl) (nI hu) = some (nI (p_talk H ng hu ta), a', s') := by
  obtain ⟨hb, h13, -, -, -, -, -, -, -, hT⟩ := hc
  obtain ⟨bo, ht⟩ := hH.2.2.2.2.2.2.2.2.2.1
  unfold fX12_talkAt
  rw [mx6, xs_ald (by omega) (by omega), xs_bd, h1]
  show ∃ a' s', xq_bd (fX12_isTold N mmI sf (nI 2)) _ = _
  rw [m_told N hb (by omega) h13, xs_bd]
  by_cases c : sf (3 * b + 2) = -1
  · rw [if_pos c, if_pos rfl]
    have hL : H.2.2 2 = [10309] := by
      rcases hT with ⟨-, g⟩ | ⟨f, e, g, g2, g3, g4, -⟩
      · exact g
      · exfalso; rw [g] at c; exact nI_nm1 (by omega) c
    refine ⟨ask, stk, ?_⟩
    have : p_talk H ng hu ta = ta := by
      unfold p_talk; rw [hL]
      show p_cut 20 (nI ta) = ta
      unfold p_cut
      rw [nI_toInt (by omega), if_neg (by omega), if_neg (by omega)]
      omega
    rw [this]
  · rw [if_neg c, if_neg (by decide), xs_ald hv (by omega), xs_bd, h0]
    show ∃ a' s', xq_bd (xq_ast 12 ask (nI 1) (nI ng)) _ = _
    rw [xs_ast (by omega) (by omega), xs_bd]
    show ∃ a' s', xq_bd (xq_ast 12 _ (nI 2) (nI hu)) _ = _
    rw [xs_ast (by omega) (by omega), xs_bd]
    show ∃ a' s', xq_bd (xq_ast 12 _ (nI 8) (nI ta)) _ = _
    rw [xs_ast (by omega) (by omega), xs_bd]
    have hev : pe_env pe_okT (p_envT ng hu ta) := fun c hc => by
      rcases pe_okT_c hc with rfl | rfl | rfl
      · exact ⟨by omega, by omega, p_rng b0⟩
      · exact ⟨by omega, by omega, p_rng b3⟩
      · exact ⟨by omega, by omega, p_rng (by omega)⟩
    obtain ⟨s', e1, -⟩ := m_result N (vals := p_envT ng hu ta) (ask := upd (upd (upd ask 1 (nI ng)) 2 (nI hu)) 8 (nI ta)) (sf := sf) (stk := stk) hN hb (show 2 < 3 by omega) h13 hT ht hev (fun k s hk hs => by
      rcases pe_okT_c hk with q | q | q
      · have : k = 13 := by omega
        subst this
        have : s = 1 := by unfold pm_var at hs; omega
        subst this; rfl
      · have : k = 2 := by omega
        subst this
        have : s = 2 := by unfold pm_var at hs; omega
        subst this; rfl
      · have : k = 9 := by omega
        subst this
        have : s = 8 := by unfold pm_var at hs; omega
        subst this; rfl) c
    show ∃ a' s', xq_bd (fX12_reckons N mmI sf sb stk cs _ cv (nI 2)) _ = _
    rw [e1, xs_bd]
    show ∃ a' s', xq_bd (fX12_cut N _ (nI 20)) _ = _
    rw [m_cut N (by omega), xs_bd]
    exact ⟨_, _, rfl⟩
theorem m_far (N : Nat) {H : PH} (h200 : H.1 0 ≤ 200) {b v mi : Nat} {mmI mt miF : Nat → Int32} (hb : b < 2) (h13 : mmI 13 = nI b) (hmt : mt b = nI (H.1 0)) (hv : v < 22) (h1 : miF v = nI mi) (hm : mi ≤ H.1 0) : fX12_farOf N mmI miF mt (nI v) = some (nI (p_far H mi)) := by
  unfold fX12_farOf p_far
  rw [h13, xs_ald hv (by omega), xs_ald hb (by omega), xs_bd, xs_bd, xs_bd, xs_bd, xs_bd, h1, hmt]
  show (if nI 2 * nI mi ≤ nI (H.1 0) then _ else _) = _
  rw [pk_mul]
  by_cases c : 2 * mi ≤ H.1 0
  · rw [if_pos (nI_le c (by omega)), Nat.min_eq_left (by omega)]
  · rw [if_neg (nI_ge (by omega) (by omega)), pk_sub hm, Nat.min_eq_right (by omega)]
theorem m_hears (N : Nat) (hN : 5000 ≤ N) {H : PH} (hH : ph_ok H) {b v : Nat} {mmI sf sb cs cv mt me mp pa sh ngF miF ask : Nat → Int32} {stk : Nat → Int64} (hc : mH H b mmI sf sb cs cv mt me mp pa sh) (hv : v < 22) {ng mi ear row hu : Nat} (h0 : ngF v = nI ng) (h1 : miF v = nI mi) (he : ear < H.1 1) (b0 : ng ≤ 1000) (b1 : mi ≤ H.1 0) (b2 : row ≤ 1000) (b3 : hu ≤ 1000) : ∃ a' s', fX12_isHeardIn N mmI sf ngF ask sh miF mt sb stk cs cv (nI v) (nI ear) (nI row) (nI hu) = some (p_b (p_hear H ng hu (H.2.1 1 ear) row (p_far H mi)), a', s') := by
  obtain ⟨hb, h13, hmt, -, -, -, hsh, -, hHr, -⟩ := hc
  obtain ⟨g5, g200, gE, gP, -, -, gs, -, ht, -, -, hl, -, -⟩ := hH
  have bs := gs ear he
  have bf : p_far H mi ≤ 1000 := by unfold p_far; omega
  unfold fX12_isHeardIn
  show ∃ a' s', xq_bd (fX12_isTold N mmI sf (nI 1)) _ = _
  rw [m_told N hb (by omega) h13, xs_bd, m_far N g200 hb h13 hmt hv h1 b1, xs_bd]
  by_cases c : sf (3 * b + 1) = -1
  · rw [if_pos c, if_pos rfl]
    have hL : H.2.2 1 = [10316, 10, 20060] := by
      rcases hHr with ⟨-, g⟩ | ⟨f, e, g, g2, g3, g4, -⟩
      · exact g
      · exfalso; rw [g] at c; exact nI_nm1 (by omega) c
    have hx : p_hear H ng hu (H.2.1 1 ear) row (p_far H mi) = decide (p_far H mi ≤ 9) := by
      unfold p_hear; rw [hL]
      show decide (¬ Int32.ofInt (pe_cl (if (nI 10).toInt ≤ (nI (p_far H mi)).toInt then (0 : Int) else 1)) = 0) = _
      rw [nI_toInt (by omega), nI_toInt (by omega)]
      by_cases q : p_far H mi ≤ 9
      · rw [if_neg (by omega), decide_eq_true q]; rfl
      · rw [if_pos (by omega), decide_eq_false q]; rfl
    rw [hx]
    by_cases q : p_far H mi ≤ 9
    · rw [if_neg (show ¬ (9 : Int32) < _ from nI_nlt (a := 9) q (by omega)), decide_eq_true q]; exact ⟨_, _, rfl⟩
    · rw [if_pos (show (9 : Int32) < _ from nI_lt (a := 9) (by omega) (by omega)), decide_eq_false q]; exact ⟨_, _, rfl⟩
  · rw [if_neg c, if_neg (by decide), xs_ald hv (by omega), xs_bd, h0]
    show ∃ a' s', xq_bd (xq_ast 12 ask (nI 1) (nI ng)) _ = _
    rw [xs_ast (by omega) (by omega), xs_bd]
    show ∃ a' s', xq_bd (xq_ast 12 _ (nI 2) (nI hu)) _ = _
    rw [xs_ast (by omega) (by omega), xs_bd, h13, mx7, xs_ald (by omega) (by omega), xs_bd, hsh ear he]
    show ∃ a' s', xq_bd (xq_ast 12 _ (nI 5) _) _ = _
    rw [xs_ast (by omega) (by omega), xs_bd]
    show ∃ a' s', xq_bd (xq_ast 12 _ (nI 6) _) _ = _
    rw [xs_ast (by omega) (by omega), xs_bd, xs_bd]
    show ∃ a' s', xq_bd (xq_ast 12 _ (nI 7) _) _ = _
    rw [xs_ast (by omega) (by omega), xs_bd]
    have hev : pe_env pe_okH (p_envH ng hu (H.2.1 1 ear) row (p_far H mi)) := fun c hc => by
      rcases pe_okH_c hc with rfl | rfl | rfl | rfl | rfl
      · exact ⟨by omega, by omega, p_rng b0⟩
      · exact ⟨by omega, by omega, p_rng b3⟩
      · exact ⟨by omega, by omega, p_rng (by omega)⟩
      · exact ⟨by omega, by omega, p_rng b2⟩
      · exact ⟨by omega, by omega, p_rng bf⟩
    obtain ⟨s', e1, e2⟩ := m_result N (vals := p_envH ng hu (H.2.1 1 ear) row (p_far H mi)) (ask := upd (upd (upd (upd (upd ask 1 (nI ng)) 2 (nI hu)) 5 (nI (H.2.1 1 ear))) 6 (nI row)) 7 (nI (p_far H mi))) (sf := sf) (stk := stk) hN hb (show 1 < 3 by omega) h13 hHr ht hev (fun k s hk hs => by
      rcases pe_okH_c hk with q | q | q | q | q
      · have : k = 13 := by omega
        subst this
        have : s = 1 := by unfold pm_var at hs; omega
        subst this; rfl
      · have : k = 2 := by omega
        subst this
        have : s = 2 := by unfold pm_var at hs; omega
        subst this; rfl
      · have : k = 6 := by omega
        subst this
        have : s = 5 := by unfold pm_var at hs; omega
        subst this; rfl
      · have : k = 5 := by omega
        subst this
        have : s = 6 := by unfold pm_var at hs; omega
        subst this; rfl
      · have : k = 16 := by omega
        subst this
        have : s = 7 := by unfold pm_var at hs; omega
        subst this; rfl) c
    show ∃ a' s', xq_bd (fX12_reckons N mmI sf sb stk cs _ cv (nI 1)) _ = _
    rw [e1, xs_bd]
    unfold p_hear p_b
    generalize p_one (H.2.2 1) (p_envH ng hu (H.2.1 1 ear) row (p_far H mi)) = x at e2
    rcases e2.1 rfl with rfl | rfl
    · exact ⟨_, _, rfl⟩
    · exact ⟨_, _, rfl⟩
