/-! a house and a moment as plain numbers: a house H is (ints, rows, codes): ints 0 MILES, 1 EARS, 2 PLACES, 3 cough; rows 0 MILES of PLACES, 1 sharps; codes 0 goes, 1 hears, 2 talks. A moment is (ints as the class has them, rows, talks) -/
abbrev PH := (Nat → Nat) × (Nat → Nat → Nat) × (Nat → List Nat)
def pe_okG (c : Nat) : Bool := c == 10313 || c == 10302 || c == 10314 || c == 10315
def pe_okH (c : Nat) : Bool := c == 10313 || c == 10302 || c == 10306 || c == 10305 || c == 10316
def pe_okT (c : Nat) : Bool := c == 10313 || c == 10302 || c == 10309
theorem pe_okG_c {c : Nat} (h : pe_okG c = true) : c = 10313 ∨ c = 10302 ∨ c = 10314 ∨ c = 10315 := by
  unfold pe_okG at h; simp only [Bool.or_eq_true, beq_iff_eq] at h; omega
theorem pe_okH_c {c : Nat} (h : pe_okH c = true) : c = 10313 ∨ c = 10302 ∨ c = 10306 ∨ c = 10305 ∨ c = 10316 := by
  unfold pe_okH at h; simp only [Bool.or_eq_true, beq_iff_eq] at h; omega
theorem pe_okT_c {c : Nat} (h : pe_okT c = true) : c = 10313 ∨ c = 10302 ∨ c = 10309 := by
  unfold pe_okT at h; simp only [Bool.or_eq_true, beq_iff_eq] at h; omega
def ph_ok (H : PH) : Prop := 5 ≤ H.1 0 ∧ H.1 0 ≤ 200 ∧ H.1 1 ≤ 7 ∧ H.1 2 ≤ 6 ∧ (∀ k, k < H.1 2 → 1 ≤ H.2.1 0 k ∧ H.2.1 0 k < H.1 0) ∧ (∀ i j, i < H.1 2 → j < H.1 2 → H.2.1 0 i = H.2.1 0 j → i = j) ∧ (∀ e, e < H.1 1 → H.2.1 1 e ≤ 9) ∧ (∃ b, pe_tc pe_okG (H.2.2 0) [] = some [b]) ∧ pe_tc pe_okH (H.2.2 1) [] = some [true] ∧ (∃ b, pe_tc pe_okT (H.2.2 2) [] = some [b]) ∧ (H.2.2 0).length ≤ 1600 ∧ (H.2.2 1).length ≤ 1600 ∧ (H.2.2 2).length ≤ 1600 ∧ H.1 3 ≤ 100
def p_one (L : List Nat) (vals : Nat → Int32) : Int32 := (pe_run vals L []).headD 0
theorem pe_run_cong {ok : Nat → Bool} {va vb : Nat → Int32} (h : ∀ k, ok (10300 + k) = true → va k = vb k) (h10 : ∀ c, ok c = true → 10300 ≤ c) {us : List Bool} : ∀ (L : List Nat) (ts : List Bool) (st : List Int32), pe_tc ok L ts = some us → pe_run va L st = pe_run vb L st
  | [], _, _, _ => rfl
  | c :: L, ts, st, q => by
    have q : (match pe_t1 ok c ts with
      | some us => if us.length ≤ 60 then pe_tc ok L us else none
      | none => none) = some us := q
    cases h1 : pe_t1 ok c ts with
    | none => rw [h1] at q; cases q
    | some vs =>
      rw [h1] at q
      have q : (if vs.length ≤ 60 then pe_tc ok L vs else none) = some us := q
      by_cases hu : vs.length ≤ 60
      · rw [if_pos hu] at q
        have e : pe_ev1 va c st = pe_ev1 vb c st := by
          unfold pe_ev1
          by_cases c1 : c < 20000
          · rw [if_pos c1, if_pos c1]
            unfold pe_val
            by_cases c2 : 10300 ≤ c
            · have hok : ok c = true := by
                rcases pe_t1_cases h1 with g | g | g | g | g | g | g
                · omega
                · exact g.2.2.1
                · omega
                · omega
                · obtain ⟨z, y, t, -, g, -⟩ := g; omega
                · obtain ⟨z, y, t, -, g, -⟩ := g; omega
                · obtain ⟨z, y, t, -, g, -⟩ := g; omega
              rw [if_pos c2, if_pos c2, h (c - 10300) (by rw [Nat.add_sub_cancel' c2]; exact hok)]
            · rw [if_neg c2, if_neg c2]
          · rw [if_neg c1, if_neg c1]
        show pe_run va L (pe_ev1 va c st) = pe_run vb L (pe_ev1 vb c st)
        rw [e]
        exact pe_run_cong h h10 L vs _ q
      · rw [if_neg hu] at q; cases q
/-- cut at 0 and most -/
def p_cut (most : Nat) (x : Int32) : Nat := if x.toInt < 0 then 0 else if (most : Int) < x.toInt then most else x.toInt.toNat
theorem p_cut_le (most : Nat) (x : Int32) : p_cut most x ≤ most := by
  unfold p_cut; split
  · omega
  · split <;> omega
theorem p_cut_c {most : Nat} (hm : most < 2 ^ 31) (x : Int32) : xq_max 0 (xq_min (nI most) x) = nI (p_cut most x) := by
  have e0 : (0 : Int32).toInt = 0 := rfl
  have em := nI_toInt hm
  unfold xq_max xq_min p_cut
  by_cases c1 : x < nI most
  · have d1 := (fa_lt _ _).mp c1
    rw [if_pos c1]
    by_cases c2 : 0 < x
    · have d2 := (fa_lt _ _).mp c2
      rw [if_pos c2, if_neg (by omega), if_neg (by omega), fa_eq, nI_toInt (by omega)]; omega
    · have d2 : ¬ _ := fun z => c2 ((fa_lt _ _).mpr z)
      rw [if_neg c2]
      by_cases c3 : x.toInt < 0
      · rw [if_pos c3]; rfl
      · rw [if_neg c3, if_neg (by omega)]
        have : x.toInt.toNat = 0 := by omega
        rw [this]; rfl
  · have d1 : ¬ _ := fun z => c1 ((fa_lt _ _).mpr z)
    rw [if_neg c1]
    by_cases c2 : 0 < nI most
    · have d2 := (fa_lt _ _).mp c2
      rw [if_pos c2, if_neg (by omega)]
      by_cases c3 : (most : Int) < x.toInt
      · rw [if_pos c3]
      · rw [if_neg c3]; exact nI_c (by omega)
    · have d2 : ¬ _ := fun z => c2 ((fa_lt _ _).mpr z)
      have : most = 0 := by omega
      subst this
      rw [if_neg c2, if_neg (by omega)]
      by_cases c3 : ((0 : Nat) : Int) < x.toInt
      · rw [if_pos c3]; rfl
      · rw [if_neg c3]
        have : x.toInt.toNat = 0 := by omega
        rw [this]; rfl
def p_envG (ng hu mi ro : Nat) (k : Nat) : Int32 := if k = 13 then nI ng else if k = 2 then nI hu else if k = 14 then nI mi else nI ro
def p_envT (ng hu ta : Nat) (k : Nat) : Int32 := if k = 13 then nI ng else if k = 2 then nI hu else nI ta
def p_envH (ng hu sh row far : Nat) (k : Nat) : Int32 := if k = 13 then nI ng else if k = 2 then nI hu else if k = 6 then nI sh else if k = 5 then nI row else nI far
def p_pace (H : PH) (ng hu mi ro : Nat) : Nat := p_cut 99 (p_one (H.2.2 0) (p_envG ng hu mi ro))
def p_talk (H : PH) (ng hu ta : Nat) : Nat := p_cut 20 (p_one (H.2.2 2) (p_envT ng hu ta))
def p_hear (H : PH) (ng hu sh row far : Nat) : Bool := decide (¬ p_one (H.2.2 1) (p_envH ng hu sh row far) = 0)
def p_far (H : PH) (mi : Nat) : Nat := min mi (H.1 0 - mi)
theorem p_rng {n : Nat} (h : n ≤ 1000) : -1000000 ≤ (nI n).toInt ∧ (nI n).toInt ≤ 1000000 := by rw [nI_toInt (by omega)]; omega
/-- a row of codes in an array -/
def cL (F : Nat → Int32) (n : Nat) (L : List Nat) : Prop := n = L.length ∧ ∀ j c, L[j]? = some c → F j = nI c
theorem cL_run {F : Nat → Int32} {n : Nat} {L : List Nat} (h : cL F n L) : ∀ j c, L[j]? = some c → F (0 + j) = nI c := fun j c q => by rw [Nat.zero_add]; exact h.2 j c q
theorem c_result (N : Nat) {ok : Nat → Bool} {vals F stk : Nat → Int32} {n : Nat} {L : List Nat} {bo : Bool} (hN : 5000 ≤ N) (hv : pe_env ok vals) (hL : cL F n L) (hl : L.length ≤ 1600) (ht : pe_tc ok L [] = some [bo]) : ∃ stk', fX0_resultOf N F stk vals n = some (p_one L vals, stk') ∧ pe_typ [bo] [p_one L vals] := by
  obtain ⟨x, F', e1, e2, e3⟩ := pe_class N (cF := F) (n := n) hv (by rw [hL.1]; omega) L [] [] stk 0 ht trivial trivial (cL_run hL) (by rw [hL.1]; omega) N (by omega)
  have e4 : p_one L vals = x := by unfold p_one; rw [e1]; rfl
  refine ⟨F', ?_, by rw [e4]; exact e2⟩
  rw [e4]; exact e3
theorem c_set (N : Nat) {vals : Nat → Int32} {k : Nat} {x : Int32} (hk : k < 24) : fX0_set N vals (nI (300 + k)) x = some (upd vals k x) := by
  unfold fX0_set
  have e : nI (300 + k) - 300 = nI k := by show nI (300 + k) - nI 300 = _; rw [pk_sub (by omega)]; exact nI_c (by omega)
  rw [e, xs_ast hk (by omega), xs_bd]
def cH (H : PH) (homeI home_sharpsF home_placeMilesF home_goesF home_hearsF home_talkForF : Nat → Int32) (home_goesN home_hearsN home_talkForN : Nat) : Prop := homeI 1 = nI (H.1 0) ∧ homeI 5 = nI (H.1 1) ∧ homeI 6 = nI (H.1 2) ∧ (∀ k, k < H.1 2 → home_placeMilesF k = nI (H.2.1 0 k)) ∧ (∀ e, e < H.1 1 → home_sharpsF e = nI (H.2.1 1 e)) ∧ cL home_goesF home_goesN (H.2.2 0) ∧ cL home_hearsF home_hearsN (H.2.2 1) ∧ cL home_talkForF home_talkForN (H.2.2 2)
theorem c_pace (N : Nat) (hN : 5000 ≤ N) {H : PH} (hH : ph_ok H) {moI vals goesF stk : Nat → Int32} {goesN ng hu mi ro : Nat} (hL : cL goesF goesN (H.2.2 0)) (h0 : moI 0 = nI ng) (h1 : moI 1 = nI mi) (h2 : moI 2 = nI ro) (b0 : ng ≤ 1000) (b1 : mi ≤ 1000) (b2 : ro ≤ 1000) (b3 : hu ≤ 1000) : ∃ v' s', fX0_paceOf N moI vals goesF stk goesN (nI hu) = some (nI (p_pace H ng hu mi ro), v', s') := by
  obtain ⟨bo, ht⟩ := hH.2.2.2.2.2.2.2.1
  have e1 := c_set N (vals := vals) (k := 13) (x := nI ng) (by omega)
  have e2 := c_set N (vals := upd vals 13 (nI ng)) (k := 2) (x := nI hu) (by omega)
  have e3 := c_set N (vals := upd (upd vals 13 (nI ng)) 2 (nI hu)) (k := 14) (x := nI mi) (by omega)
  have e4 := c_set N (vals := upd (upd (upd vals 13 (nI ng)) 2 (nI hu)) 14 (nI mi)) (k := 15) (x := nI ro) (by omega)
  generalize hvd : upd (upd (upd (upd vals 13 (nI ng)) 2 (nI hu)) 14 (nI mi)) 15 (nI ro) = vv at e4
  have v13 : vv 13 = nI ng := by rw [← hvd]; rfl
  have v2 : vv 2 = nI hu := by rw [← hvd]; rfl
  have v14 : vv 14 = nI mi := by rw [← hvd]; rfl
  have v15 : vv 15 = nI ro := by rw [← hvd]; rfl
  have hv : pe_env pe_okG vv := fun c hc => by
    rcases pe_okG_c hc with rfl | rfl | rfl | rfl
    · exact ⟨by omega, by omega, by show _ ≤ (vv 13).toInt ∧ _; rw [v13]; exact p_rng b0⟩
    · exact ⟨by omega, by omega, by show _ ≤ (vv 2).toInt ∧ _; rw [v2]; exact p_rng b3⟩
    · exact ⟨by omega, by omega, by show _ ≤ (vv 14).toInt ∧ _; rw [v14]; exact p_rng b1⟩
    · exact ⟨by omega, by omega, by show _ ≤ (vv 15).toInt ∧ _; rw [v15]; exact p_rng b2⟩
  have ec : p_one (H.2.2 0) vv = p_one (H.2.2 0) (p_envG ng hu mi ro) := by
    unfold p_one
    rw [pe_run_cong (ok := pe_okG) (fun k hk => ?_) (fun c hc => (hv c hc).1) (H.2.2 0) [] [] ht]
    rcases pe_okG_c hk with q | q | q | q
    · have : k = 13 := by omega
      subst this; exact v13
    · have : k = 2 := by omega
      subst this; exact v2
    · have : k = 14 := by omega
      subst this; exact v14
    · have : k = 15 := by omega
      subst this; exact v15
  obtain ⟨stk', r1, -⟩ := c_result N (stk := stk) hN hv hL hH.2.2.2.2.2.2.2.2.2.2.1 ht
  refine ⟨vv, stk', ?_⟩
  unfold fX0_paceOf
  rw [h0, h1, h2]
  show xq_bd (fX0_set N vals (nI (300 + 13)) (nI ng)) _ = _
  rw [e1, xs_bd]
  show xq_bd (fX0_set N _ (nI (300 + 2)) (nI hu)) _ = _
  rw [e2, xs_bd]
  show xq_bd (fX0_set N _ (nI (300 + 14)) (nI mi)) _ = _
  rw [e3, xs_bd]
  show xq_bd (fX0_set N _ (nI (300 + 15)) (nI ro)) _ = _
  rw [e4, xs_bd, r1, xs_bd]
  show some (xq_max 0 (xq_min (nI 99) _), _, _) = _
  rw [p_cut_c (by omega), ec]
  rfl
theorem c_talk (N : Nat) (hN : 5000 ≤ N) {H : PH} (hH : ph_ok H) {moI vals talkForF stk mo_talksF : Nat → Int32} {talkForN ng hu pl ta : Nat} (hL : cL talkForF talkForN (H.2.2 2)) (h0 : moI 0 = nI ng) (h1 : mo_talksF pl = nI ta) (hp : pl < 6) (b0 : ng ≤ 1000) (b1 : ta ≤ 1000) (b3 : hu ≤ 1000) : ∃ v' s', fX0_talkingAt N moI vals mo_talksF talkForF stk talkForN (nI pl) (nI hu) = some (nI (p_talk H ng hu ta), v', s') := by
  obtain ⟨bo, ht⟩ := hH.2.2.2.2.2.2.2.2.2.1
  have e1 := c_set N (vals := vals) (k := 13) (x := nI ng) (by omega)
  have e2 := c_set N (vals := upd vals 13 (nI ng)) (k := 2) (x := nI hu) (by omega)
  have e3 := c_set N (vals := upd (upd vals 13 (nI ng)) 2 (nI hu)) (k := 9) (x := nI ta) (by omega)
  generalize hvd : upd (upd (upd vals 13 (nI ng)) 2 (nI hu)) 9 (nI ta) = vv at e3
  have v13 : vv 13 = nI ng := by rw [← hvd]; rfl
  have v2 : vv 2 = nI hu := by rw [← hvd]; rfl
  have v9 : vv 9 = nI ta := by rw [← hvd]; rfl
  have hv : pe_env pe_okT vv := fun c hc => by
    rcases pe_okT_c hc with rfl | rfl | rfl
    · exact ⟨by omega, by omega, by show _ ≤ (vv 13).toInt ∧ _; rw [v13]; exact p_rng b0⟩
    · exact ⟨by omega, by omega, by show _ ≤ (vv 2).toInt ∧ _; rw [v2]; exact p_rng b3⟩
    · exact ⟨by omega, by omega, by show _ ≤ (vv 9).toInt ∧ _; rw [v9]; exact p_rng b1⟩
  have ec : p_one (H.2.2 2) vv = p_one (H.2.2 2) (p_envT ng hu ta) := by
    unfold p_one
    rw [pe_run_cong (ok := pe_okT) (fun k hk => ?_) (fun c hc => (hv c hc).1) (H.2.2 2) [] [] ht]
    rcases pe_okT_c hk with q | q | q
    · have : k = 13 := by omega
      subst this; exact v13
    · have : k = 2 := by omega
      subst this; exact v2
    · have : k = 9 := by omega
      subst this; exact v9
  obtain ⟨stk', r1, -⟩ := c_result N (stk := stk) hN hv hL hH.2.2.2.2.2.2.2.2.2.2.2.2.1 ht
  refine ⟨vv, stk', ?_⟩
  unfold fX0_talkingAt
  rw [h0]
  show xq_bd (fX0_set N vals (nI (300 + 13)) (nI ng)) _ = _
  rw [e1, xs_bd]
  show xq_bd (fX0_set N _ (nI (300 + 2)) (nI hu)) _ = _
  rw [e2, xs_bd, xs_ald hp (by omega), xs_bd, h1]
  show xq_bd (fX0_set N _ (nI (300 + 9)) (nI ta)) _ = _
  rw [e3, xs_bd, r1, xs_bd]
  show some (xq_max 0 (xq_min (nI 20) _), _, _) = _
  rw [p_cut_c (by omega), ec]
  rfl
theorem p_far_c {H : PH} {homeI : Nat → Int32} (N : Nat) {mi : Nat} (h : homeI 1 = nI (H.1 0)) (hm : mi ≤ H.1 0) (hb : H.1 0 ≤ 200) : fX2_farOf N homeI (nI mi) = some (nI (p_far H mi)) := by
  unfold fX2_farOf p_far
  rw [h, pk_sub hm, xs_min (by omega) (by omega)]
/-- 1 or 0 -/
def p_b (b : Bool) : Int32 := if b then 1 else 0
theorem c_hears (N : Nat) (hN : 5000 ≤ N) {H : PH} (hH : ph_ok H) {moI vals homeI sharpsF hearsF stk : Nat → Int32} {hearsN ng hu mi ear row : Nat} (hL : cL hearsF hearsN (H.2.2 1)) (hh : homeI 1 = nI (H.1 0)) (hs : sharpsF ear = nI (H.2.1 1 ear)) (he : ear < H.1 1) (h0 : moI 0 = nI ng) (h1 : moI 1 = nI mi) (b0 : ng ≤ 1000) (b1 : mi ≤ H.1 0) (b2 : row ≤ 1000) (b3 : hu ≤ 1000) : ∃ v' s', fX0_hearsIn N moI vals homeI sharpsF hearsF stk hearsN (nI ear) (nI row) (nI hu) = some (p_b (p_hear H ng hu (H.2.1 1 ear) row (p_far H mi)), v', s') := by
  obtain ⟨g5, g200, gE, gP, -, -, gs, -, ht, -, -, hl, -, -⟩ := hH
  have bs := gs ear he
  have bf : p_far H mi ≤ 1000 := by unfold p_far; omega
  have e1 := c_set N (vals := vals) (k := 13) (x := nI ng) (by omega)
  have e2 := c_set N (vals := upd vals 13 (nI ng)) (k := 2) (x := nI hu) (by omega)
  have e3 := c_set N (vals := upd (upd vals 13 (nI ng)) 2 (nI hu)) (k := 6) (x := nI (H.2.1 1 ear)) (by omega)
  have e4 := c_set N (vals := upd (upd (upd vals 13 (nI ng)) 2 (nI hu)) 6 (nI (H.2.1 1 ear))) (k := 5) (x := nI row) (by omega)
  have e5 := c_set N (vals := upd (upd (upd (upd vals 13 (nI ng)) 2 (nI hu)) 6 (nI (H.2.1 1 ear))) 5 (nI row)) (k := 16) (x := nI (p_far H mi)) (by omega)
  generalize hvd : upd (upd (upd (upd (upd vals 13 (nI ng)) 2 (nI hu)) 6 (nI (H.2.1 1 ear))) 5 (nI row)) 16 (nI (p_far H mi)) = vv at e5
  have v13 : vv 13 = nI ng := by rw [← hvd]; rfl
  have v2 : vv 2 = nI hu := by rw [← hvd]; rfl
  have v6 : vv 6 = nI (H.2.1 1 ear) := by rw [← hvd]; rfl
  have v5 : vv 5 = nI row := by rw [← hvd]; rfl
  have v16 : vv 16 = nI (p_far H mi) := by rw [← hvd]; rfl
  have hv : pe_env pe_okH vv := fun c hc => by
    rcases pe_okH_c hc with rfl | rfl | rfl | rfl | rfl
    · exact ⟨by omega, by omega, by show _ ≤ (vv 13).toInt ∧ _; rw [v13]; exact p_rng b0⟩
    · exact ⟨by omega, by omega, by show _ ≤ (vv 2).toInt ∧ _; rw [v2]; exact p_rng b3⟩
    · exact ⟨by omega, by omega, by show _ ≤ (vv 6).toInt ∧ _; rw [v6]; exact p_rng (by omega)⟩
    · exact ⟨by omega, by omega, by show _ ≤ (vv 5).toInt ∧ _; rw [v5]; exact p_rng b2⟩
    · exact ⟨by omega, by omega, by show _ ≤ (vv 16).toInt ∧ _; rw [v16]; exact p_rng bf⟩
  have ec : p_one (H.2.2 1) vv = p_one (H.2.2 1) (p_envH ng hu (H.2.1 1 ear) row (p_far H mi)) := by
    unfold p_one
    rw [pe_run_cong (ok := pe_okH) (fun k hk => ?_) (fun c hc => (hv c hc).1) (H.2.2 1) [] [] ht]
    rcases pe_okH_c hk with q | q | q | q | q
    · have : k = 13 := by omega
      subst this; exact v13
    · have : k = 2 := by omega
      subst this; exact v2
    · have : k = 6 := by omega
      subst this; exact v6
    · have : k = 5 := by omega
      subst this; exact v5
    · have : k = 16 := by omega
      subst this; exact v16
  obtain ⟨stk', r1, -⟩ := c_result N (stk := stk) hN hv hL hl ht
  refine ⟨vv, stk', ?_⟩
  unfold fX0_hearsIn
  rw [h0, h1]
  show xq_bd (fX0_set N vals (nI (300 + 13)) (nI ng)) _ = _
  rw [e1, xs_bd]
  show xq_bd (fX0_set N _ (nI (300 + 2)) (nI hu)) _ = _
  rw [e2, xs_bd, xs_ald (show ear < 7 by omega) (by omega), xs_bd, hs]
  show xq_bd (fX0_set N _ (nI (300 + 6)) (nI (H.2.1 1 ear))) _ = _
  rw [e3, xs_bd]
  show xq_bd (fX0_set N _ (nI (300 + 5)) (nI row)) _ = _
  rw [e4, xs_bd, p_far_c N hh b1 g200, xs_bd]
  show xq_bd (fX0_set N _ (nI (300 + 16)) (nI (p_far H mi))) _ = _
  rw [e5, xs_bd, r1, xs_bd, ec]
  unfold p_b p_hear
  by_cases c : p_one (H.2.2 1) (p_envH ng hu (H.2.1 1 ear) row (p_far H mi)) = 0
  · show (if p_one (H.2.2 1) (p_envH ng hu (H.2.1 1 ear) row (p_far H mi)) = 0 then _ else _) = _
    rw [if_pos c, decide_eq_false (fun z => z c)]; rfl
  · show (if p_one (H.2.2 1) (p_envH ng hu (H.2.1 1 ear) row (p_far H mi)) = 0 then _ else _) = _
    rw [if_neg c, decide_eq_true c]; rfl
