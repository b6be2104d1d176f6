/-! a NIGHT in the reference -/
theorem xs_step {σ β : Type} (body : (σ → Option β) → σ → Option β) (n : Nat) (z : σ) : xq_loop body (n + 1) z = body (xq_loop body n) z := rfl
theorem m_placeOn (N : Nat) (hN : 5000 ≤ N) {H : PH} (hH : ph_ok H) {b mi : Nat} {mmI mp pa : Nat → Int32} (hb : b < 2) (h13 : mmI 13 = nI b) (hmp : mp b = nI (H.1 2)) (hpa : ∀ k, k < H.1 2 → pa (6 * b + k) = nI (H.2.1 0 k)) (hm : mi ≤ 1000) : fX12_placeOn N mmI mp pa (nI mi) = some (if p_at H mi < H.1 2 then nI (p_at H mi) else -1) := by
  obtain ⟨g5, g200, gE, gP, gpl, -⟩ := hH
  have hle : p_at H mi ≤ H.1 2 := fa_first_le _ _
  refine xs_loop (body := fX12_placeOn_l2 N mmI mp pa) (fun i => (nI mi, nI i)) (p_at H mi) _ ?_ ?_ N (by omega)
  · intro i hi kk
    have hno : ¬ H.2.1 0 i = mi := of_decide_eq_false (fa_first_no (fun k => decide (H.2.1 0 k = mi)) (H.1 2) i hi)
    have hb2 := (gpl i (by omega)).2
    show xq_bd (xq_ald 2 mp (mmI 13)) (fun v_1 => if v_1 ≤ nI i then _ else xq_bd (xq_ald 12 pa ((6 * mmI 13) + nI i)) _) = _
    rw [h13, xs_ald hb (by omega), xs_bd, hmp, if_neg (nI_ge (by omega) (by omega)), mx6, xs_ald (by omega) (by omega), xs_bd, hpa i (by omega), if_neg (fun z => hno ((nI_eq (by omega) (by omega)).mp z)), nI_1]
  · intro kk
    show xq_bd (xq_ald 2 mp (mmI 13)) (fun v_1 => if v_1 ≤ nI (p_at H mi) then _ else xq_bd (xq_ald 12 pa ((6 * mmI 13) + nI (p_at H mi))) _) = _
    rw [h13, xs_ald hb (by omega), xs_bd, hmp]
    by_cases c : p_at H mi < H.1 2
    · rw [if_neg (nI_ge c (by omega)), if_pos c, mx6, xs_ald (by omega) (by omega), xs_bd, hpa _ c, if_pos (by rw [p_at_yes c])]
    · rw [if_pos (nI_le (by omega) (by omega)), if_neg c]
theorem m_walks (N : Nat) (hN : 5000 ≤ N) {H : PH} (hH : ph_ok H) {b v : Nat} {mmI sf sb cs cv mt me mp pa sh ngF taF : Nat → Int32} (hc : mH H b mmI sf sb cs cv mt me mp pa sh) (hv : v < 22) {ng hu : Nat} {ta : Nat → Nat} (h0 : ngF v = nI ng) (hta : ∀ k, k < H.1 2 → taF (6 * v + k) = nI (ta k) ∧ ta k ≤ 9) (b0 : ng ≤ 1000) (b3 : hu ≤ 1000) (tkF : Nat → Int32) :
    ∀ (s m r : Nat) (ask miF roF : Nat → Int32) (stk : Nat → Int64), m < H.1 0 → r ≤ 999 → s ≤ 99 → miF v = nI m → roF v = nI r → ∀ M, s + 1 < M →
    ∃ a' s', xq_loop (fX12_walks_l7 N mmI sf ngF sb cs cv mt mp pa taF) M (ask, miF, roF, stk, tkF, nI v, nI hu, nI s) = some (a', upd miF v (nI (p_walk H s m r).1), upd roF v (nI (p_walk H s m r).2.1), s', if (p_walk H s m r).2.2 < H.1 2 then upd tkF v (nI (p_talk H ng hu (ta (p_walk H s m r).2.2))) else tkF) := by
  obtain ⟨hb, h13, hmt, hme, hmp, hpa, hsh, hG, hHr, hT⟩ := hc
  have hc : mH H b mmI sf sb cs cv mt me mp pa sh := ⟨hb, h13, hmt, hme, hmp, hpa, hsh, hG, hHr, hT⟩
  have g5 := hH.1
  have g200 := hH.2.1
  have gP := hH.2.2.2.1
  intro s
  induction s with
  | zero =>
    intro m r ask miF roF stk hm hr hs h1 h2 M hM
    obtain ⟨M, rfl⟩ : ∃ k, M = k + 1 := ⟨M - 1, by omega⟩
    refine ⟨ask, stk, ?_⟩
    rw [xs_step]
    dsimp only [fX12_walks_l7]
    rw [if_pos (show nI 0 ≤ (0 : Int32) from by decide)]
    show _ = some (ask, upd miF v (nI m), upd roF v (nI r), stk, if H.1 2 < H.1 2 then _ else tkF)
    rw [fa_upd_same h1, fa_upd_same h2, if_neg (Nat.lt_irrefl _)]
  | succ s ih =>
    intro m r ask miF roF stk hm hr hs h1 h2 M hM
    obtain ⟨M, rfl⟩ : ∃ k, M = k + 1 := ⟨M - 1, by omega⟩
    have a3 : (if m + 1 = H.1 0 then 0 else m + 1) < H.1 0 := by split <;> omega
    have b3' : (if m + 1 = H.1 0 then min 999 (r + 1) else r) ≤ 999 := by split <;> omega
    have hpl := m_placeOn N hN hH (mmI := mmI) (mp := mp) (pa := pa) (mi := if m + 1 = H.1 0 then 0 else m + 1) hb h13 hmp hpa (by omega)
    -- behind the step
    have hB : ∀ (mi2 ro2 : Nat → Int32), mi2 v = nI (if m + 1 = H.1 0 then 0 else m + 1) → ro2 v = nI (if m + 1 = H.1 0 then min 999 (r + 1) else r) → (∀ x, upd mi2 v x = upd miF v x) → (∀ x, upd ro2 v x = upd roF v x) → ∃ a' s', fX12_walks_b71 N mmI sf ngF sb cs cv mt mp pa taF (xq_loop (fX12_walks_l7 N mmI sf ngF sb cs cv mt mp pa taF) M) (ask, mi2, ro2, stk, tkF, nI v, nI hu, nI s) = some (a', upd miF v (nI (p_walk H (s + 1) m r).1), upd roF v (nI (p_walk H (s + 1) m r).2.1), s', if (p_walk H (s + 1) m r).2.2 < H.1 2 then upd tkF v (nI (p_talk H ng hu (ta (p_walk H (s + 1) m r).2.2))) else tkF) := by
      intro mi2 ro2 q1 q2 q3 q4
      show ∃ a' s', xq_bd (xq_ald 22 mi2 (nI v)) (fun v_1 => xq_bd (fX12_placeOn N mmI mp pa v_1) _) = _
      rw [xs_ald hv (by omega), xs_bd, q1, hpl, xs_bd]
      have ew : p_walk H (s + 1) m r = if p_at H (if m + 1 = H.1 0 then 0 else m + 1) < H.1 2 then (if m + 1 = H.1 0 then 0 else m + 1, if m + 1 = H.1 0 then min 999 (r + 1) else r, p_at H (if m + 1 = H.1 0 then 0 else m + 1)) else p_walk H s (if m + 1 = H.1 0 then 0 else m + 1) (if m + 1 = H.1 0 then min 999 (r + 1) else r) := rfl
      rw [ew]
      generalize hmi : (if m + 1 = H.1 0 then 0 else m + 1) = m' at q1 a3 ⊢
      generalize hro : (if m + 1 = H.1 0 then min 999 (r + 1) else r) = r' at q2 b3' ⊢
      by_cases c : p_at H m' < H.1 2
      · rw [if_pos c, if_pos c, if_neg (nI_nm1 (by omega))]
        obtain ⟨a2, s2, e2⟩ := m_talk N hN hH (ask := ask) (stk := stk) hc hv h0 (show p_at H m' < 6 by omega) (hta _ c).1 b0 (hta _ c).2 b3
        rw [e2, xs_bd]
        show ∃ a' s', xq_bd (xq_ast 22 tkF (nI v) _) _ = _
        rw [xs_ast hv (by omega), xs_bd]
        obtain ⟨M, rfl⟩ : ∃ k, M = k + 1 := ⟨M - 1, by omega⟩
        refine ⟨a2, s2, ?_⟩
        rw [xs_step]
        dsimp only [fX12_walks_l7]
        rw [if_pos (by decide), if_pos c, ← q3, ← q4, fa_upd_same q1, fa_upd_same q2]
      · rw [if_neg c, if_neg c, if_pos rfl]
        obtain ⟨a2, s2, e2⟩ := ih m' r' ask mi2 ro2 stk a3 b3' (by omega) q1 q2 M (by omega)
        refine ⟨a2, s2, ?_⟩
        rw [e2, q3, q4]
    show ∃ a' s', (if nI (s + 1) ≤ 0 then _ else xq_bd (xq_ald 22 miF (nI v)) _) = _
    rw [if_neg (nI_nle (by omega) (by omega)), xs_ald hv (by omega), xs_bd, h1, nI_1, xs_ast hv (by omega), xs_bd, xs_ald hv (by omega), xs_bd, pk_us, h13, xs_ald hb (by omega), xs_bd, hmt, pk_m1]
    by_cases c : m + 1 = H.1 0
    · rw [if_pos (by rw [c])]
      show ∃ a' s', xq_bd (xq_ast 22 _ (nI v) (nI 0)) _ = _
      rw [xs_ast hv (by omega), xs_bd, xs_ald hv (by omega), xs_bd, h2]
      by_cases c2 : 999 ≤ r
      · rw [if_pos (show (999 : Int32) ≤ nI r from nI_le (a := 999) c2 (by omega))]
        refine hB _ _ ?_ ?_ (fun x => ?_) (fun x => rfl)
        · rw [pk_us, if_pos c]
        · rw [h2, if_pos c]; exact nI_c (by omega)
        · rw [fa_upd_twice, fa_upd_twice]
      · rw [if_neg (show ¬ (999 : Int32) ≤ nI r from nI_ge (b := 999) (by omega) (by omega)), xs_bd, nI_1, xs_ast hv (by omega), xs_bd]
        refine hB _ _ ?_ ?_ (fun x => ?_) (fun x => ?_)
        · rw [pk_us, if_pos c]
        · rw [pk_us, if_pos c]; exact nI_c (by omega)
        · rw [fa_upd_twice, fa_upd_twice]
        · rw [fa_upd_twice]
    · rw [if_neg (fun z => c ((nI_eq (by omega) (by omega)).mp z))]
      refine hB _ _ ?_ ?_ (fun x => ?_) (fun x => rfl)
      · rw [pk_us, if_neg c]
      · rw [h2, if_neg c]
      · rw [fa_upd_twice]
/-- KEPT rows of a layer, one more -/
theorem m_writes (N : Nat) (hN : 5000 ≤ N) {v k ng mi st : Nat} {kmF krF ngF miF : Nat → Int32} (hv : v < 22) (hk : k ≤ 40) (h0 : kmF v = nI k) (h1 : ngF v = nI ng) (h2 : miF v = nI mi) :
    ∃ kr', fX12_writesDown N kmF krF ngF miF (nI v) (nI st) = some (upd kmF v (nI (min 40 (k + 1))), kr') ∧ (∀ i, i < 120 * v ∨ 120 * v + 120 ≤ i → kr' i = krF i) ∧ (∀ j c, j + 1 < min 40 (k + 1) → c < 3 → kr' (120 * v + (3 * j + c)) = krF (120 * v + (3 * (if k = 40 then j + 1 else j) + c))) ∧ kr' (120 * v + (3 * (min 40 (k + 1) - 1) + 0)) = nI ng ∧ kr' (120 * v + (3 * (min 40 (k + 1) - 1) + 1)) = nI mi ∧ kr' (120 * v + (3 * (min 40 (k + 1) - 1) + 2)) = nI st := by
  have hend : ∀ (km kr : Nat → Int32) (q : Nat), q < 40 → km v = nI q → fX12_writesDown_b59 N ngF miF (km, kr, nI v, nI st) = some (upd km v (nI (q + 1)), upd (upd (upd kr (3 * (40 * v + q)) (nI ng)) (3 * (40 * v + q) + 1) (nI mi)) (3 * (40 * v + q) + 2) (nI st)) := fun km kr q hq e => by
    show xq_bd (xq_ald 22 km (nI v)) _ = _
    rw [xs_ald hv (by omega), xs_bd, xs_ald hv (by omega), xs_bd, e, h1, mx40]
    show xq_bd (xq_ast 2640 kr (nI 3 * nI (40 * v + q)) (nI ng)) _ = _
    rw [pk_mul, xs_ast (by omega) (by omega), xs_bd, xs_ald hv (by omega), xs_bd, h2]
    show xq_bd (xq_ast 2640 _ (nI 3 * nI (40 * v + q) + nI 1) _) _ = _
    rw [pk_mul, nI_add, xs_ast (by omega) (by omega), xs_bd]
    show xq_bd (xq_ast 2640 _ (nI 3 * nI (40 * v + q) + nI 2) _) _ = _
    rw [pk_mul, nI_add, xs_ast (by omega) (by omega), xs_bd, xs_bd, nI_1, xs_ast hv (by omega), xs_bd]
  unfold fX12_writesDown
  rw [xs_ald hv (by omega), xs_bd, h0]
  by_cases c : k = 40
  · subst c
    rw [if_pos (show nI 40 = (40 : Int32) from rfl)]
    have e1 : (120 : Int32) * nI v = nI (120 * v) := pk_mul 120 v
    rw [e1]
    have key := xs_loop (body := fX12_writesDown_l16 N ngF miF) (fun i => (kmF, fb_put krF (fun k => krF (120 * v + (k + 3))) (120 * v) i, nI v, nI st, nI (120 * v + i))) 117 (some (upd kmF v (nI (min 40 (40 + 1))), upd (upd (upd (fb_put krF (fun k => krF (120 * v + (k + 3))) (120 * v) 117) (3 * (40 * v + 39)) (nI ng)) (3 * (40 * v + 39) + 1) (nI mi)) (3 * (40 * v + 39) + 2) (nI st))) ?_ ?_ N (by omega)
    · rw [fb_put_0, Nat.add_zero] at key
      refine ⟨_, key, ?_, ?_, ?_, ?_, ?_⟩
      · intro i hi
        rw [pk_un (by omega), pk_un (by omega), pk_un (by omega), fb_put_out (by omega)]
      · intro j c hj hc
        rw [pk_un (by omega), pk_un (by omega), pk_un (by omega), fb_put_in (by omega) (by omega), if_pos rfl]
        congr 1; omega
      · rw [pk_un (by omega), pk_un (by omega), show 120 * v + (3 * (min 40 (40 + 1) - 1) + 0) = 3 * (40 * v + 39) by omega, pk_us]
      · rw [pk_un (by omega), show 120 * v + (3 * (min 40 (40 + 1) - 1) + 1) = 3 * (40 * v + 39) + 1 by omega, pk_us]
      · rw [show 120 * v + (3 * (min 40 (40 + 1) - 1) + 2) = 3 * (40 * v + 39) + 2 by omega, pk_us]
    · intro i hi kk
      show (if (120 * nI v + 120) - 3 ≤ nI (120 * v + i) then _ else xq_bd (xq_ald 2640 _ (nI (120 * v + i) + 3)) _) = _
      have e2 : (120 * nI v + 120) - 3 = nI (120 * v + 117) := by
        show (nI 120 * nI v + nI 120) - nI 3 = _
        rw [pk_mul, nI_add, pk_sub (by omega)]; exact nI_c (by omega)
      have e3 : nI (120 * v + i) + 3 = nI (120 * v + i + 3) := nI_add _ 3
      rw [e2, if_neg (nI_ge (by omega) (by omega)), e3, xs_ald (by omega) (by omega), xs_bd, xs_ast (by omega) (by omega), xs_bd, nI_1]
      show kk (_, upd _ _ _, _, _, _) = kk (_, fb_put krF _ (120 * v) (i + 1), _, _, _)
      rw [← fb_put_succ, fb_put_out (by omega)]
      rfl
    · intro kk
      show (if (120 * nI v + 120) - 3 ≤ nI (120 * v + 117) then _ else _) = _
      have e2 : (120 * nI v + 120) - 3 = nI (120 * v + 117) := by
        show (nI 120 * nI v + nI 120) - nI 3 = _
        rw [pk_mul, nI_add, pk_sub (by omega)]; exact nI_c (by omega)
      have e4 : nI 40 - 1 = nI 39 := by decide
      rw [e2, if_pos (nI_le (Nat.le_refl _) (by omega)), xs_ald hv (by omega), xs_bd, h0, e4, xs_ast hv (by omega), xs_bd, hend _ _ 39 (by omega) pk_us, fa_upd_twice]
      rfl
  · rw [if_neg (show ¬ _ = (40 : Int32) from fun z => c ((nI_eq (b := 40) (by omega) (by omega)).mp z)), hend _ _ k (by omega) h0]
    have e5 : min 40 (k + 1) = k + 1 := by omega
    rw [e5]
    refine ⟨_, rfl, ?_, ?_, ?_, ?_, ?_⟩
    · intro i hi
      rw [pk_un (by omega), pk_un (by omega), pk_un (by omega)]
    · intro j c' hj hc
      rw [pk_un (by omega), pk_un (by omega), pk_un (by omega), if_neg c]
    · rw [pk_un (by omega), pk_un (by omega), show 120 * v + (3 * (k + 1 - 1) + 0) = 3 * (40 * v + k) by omega, pk_us]
    · rw [pk_un (by omega), show 120 * v + (3 * (k + 1 - 1) + 1) = 3 * (40 * v + k) + 1 by omega, pk_us]
    · rw [show 120 * v + (3 * (k + 1 - 1) + 2) = 3 * (40 * v + k) + 2 by omega, pk_us]
