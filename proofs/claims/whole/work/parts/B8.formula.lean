/-! a whole formula, read by both -/
theorem cl_eq {x : Int32} {k : Nat} (hk : 0 < k) (hk2 : k < 2 ^ 31) : x.toNatClampNeg = k ↔ x = nI k := by
  refine ⟨fun h => ?_, fun h => by rw [h, nI_clamp hk2]⟩
  have h0 : ¬ x < 0 := fun z => by
    have z := (fa_lt _ _).mp z
    have e0 : (0 : Int32).toInt = 0 := rfl
    have h : x.toInt.toNat = k := h
    omega
  obtain ⟨j, hj, rfl⟩ := nI_of h0
  rw [nI_clamp hj] at h; rw [h]
theorem okG_iff (x : Int32) : pe_okG (10000 + x.toNatClampNeg) = decide (x = 313 ∨ x = 302 ∨ x = 314 ∨ x = 315) := by
  have e1 := cl_eq (x := x) (k := 313) (by decide) (by decide)
  have e2 := cl_eq (x := x) (k := 302) (by decide) (by decide)
  have e3 := cl_eq (x := x) (k := 314) (by decide) (by decide)
  have e4 := cl_eq (x := x) (k := 315) (by decide) (by decide)
  by_cases h : x = 313 ∨ x = 302 ∨ x = 314 ∨ x = 315
  · rw [decide_eq_true h]
    rcases h with z | z | z | z <;> (rw [z]; rfl)
  · rw [decide_eq_false h]
    cases hk : pe_okG (10000 + x.toNatClampNeg) with
    | false => rfl
    | true =>
      exfalso
      apply h
      rcases pe_okG_c hk with z | z | z | z
      · exact Or.inl (e1.mp (by omega))
      · exact Or.inr (Or.inl (e2.mp (by omega)))
      · exact Or.inr (Or.inr (Or.inl (e3.mp (by omega))))
      · exact Or.inr (Or.inr (Or.inr (e4.mp (by omega))))
theorem okH_iff (x : Int32) : pe_okH (10000 + x.toNatClampNeg) = decide (x = 313 ∨ x = 302 ∨ x = 306 ∨ x = 305 ∨ x = 316) := by
  have e1 := cl_eq (x := x) (k := 313) (by decide) (by decide)
  have e2 := cl_eq (x := x) (k := 302) (by decide) (by decide)
  have e3 := cl_eq (x := x) (k := 306) (by decide) (by decide)
  have e4 := cl_eq (x := x) (k := 305) (by decide) (by decide)
  have e5 := cl_eq (x := x) (k := 316) (by decide) (by decide)
  by_cases h : x = 313 ∨ x = 302 ∨ x = 306 ∨ x = 305 ∨ x = 316
  · rw [decide_eq_true h]
    rcases h with z | z | z | z | z <;> (rw [z]; rfl)
  · rw [decide_eq_false h]
    cases hk : pe_okH (10000 + x.toNatClampNeg) with
    | false => rfl
    | true =>
      exfalso
      apply h
      rcases pe_okH_c hk with z | z | z | z | z
      · exact Or.inl (e1.mp (by omega))
      · exact Or.inr (Or.inl (e2.mp (by omega)))
      · exact Or.inr (Or.inr (Or.inl (e3.mp (by omega))))
      · exact Or.inr (Or.inr (Or.inr (Or.inl (e4.mp (by omega)))))
      · exact Or.inr (Or.inr (Or.inr (Or.inr (e5.mp (by omega)))))
theorem okT_iff (x : Int32) : pe_okT (10000 + x.toNatClampNeg) = decide (x = 313 ∨ x = 302 ∨ x = 309) := by
  have e1 := cl_eq (x := x) (k := 313) (by decide) (by decide)
  have e2 := cl_eq (x := x) (k := 302) (by decide) (by decide)
  have e3 := cl_eq (x := x) (k := 309) (by decide) (by decide)
  by_cases h : x = 313 ∨ x = 302 ∨ x = 309
  · rw [decide_eq_true h]
    rcases h with z | z | z <;> (rw [z]; rfl)
  · rw [decide_eq_false h]
    cases hk : pe_okT (10000 + x.toNatClampNeg) with
    | false => rfl
    | true =>
      exfalso
      apply h
      rcases pe_okT_c hk with z | z | z
      · exact Or.inl (e1.mp (by omega))
      · exact Or.inr (Or.inl (e2.mp (by omega)))
      · exact Or.inr (Or.inr (e3.mp (by omega)))
/-- which law: 0 goes, 1 hears, 2 talks -/
def pp_okw (w : Nat) : Nat → Bool := if w = 0 then pe_okG else if w = 1 then pe_okH else pe_okT

theorem cf_isvar0 (N : Nat) (a : Nat → Int32) (x : Int32) (h4 : a 4 = 310) : fX1_isVariable N a x = some (p_b (pp_okw 0 (10000 + x.toNatClampNeg))) := by
  show fX1_isVariable N a x = some (p_b (pe_okG (10000 + x.toNatClampNeg)))
  rw [okG_iff]
  unfold fX1_isVariable
  rw [h4]
  by_cases k302 : x = 302
  · rw [if_pos k302, k302]; rfl
  rw [if_neg k302]
  by_cases k303 : x = 303
  · rw [if_pos k303, k303]; rfl
  rw [if_neg k303]
  by_cases k304 : x = 304
  · rw [if_pos k304, k304]; rfl
  rw [if_neg k304]
  by_cases k305 : x = 305
  · rw [if_pos k305, k305]; rfl
  rw [if_neg k305]
  by_cases k306 : x = 306
  · rw [if_pos k306, k306]; rfl
  rw [if_neg k306]
  by_cases k307 : x = 307
  · rw [if_pos k307, k307]; rfl
  rw [if_neg k307]
  by_cases k308 : x = 308
  · rw [if_pos k308, k308]; rfl
  rw [if_neg k308]
  by_cases k309 : x = 309
  · rw [if_pos k309, k309]; rfl
  rw [if_neg k309]
  by_cases k310 : x = 310
  · rw [if_pos k310, k310]; rfl
  rw [if_neg k310]
  by_cases k311 : x = 311
  · rw [if_pos k311, k311]; rfl
  rw [if_neg k311]
  by_cases k312 : x = 312
  · rw [if_pos k312, k312]; rfl
  rw [if_neg k312]
  by_cases k313 : x = 313
  · rw [if_pos k313, k313]; rfl
  rw [if_neg k313]
  by_cases k314 : x = 314
  · rw [if_pos k314, k314]; rfl
  rw [if_neg k314]
  by_cases k315 : x = 315
  · rw [if_pos k315, k315]; rfl
  rw [if_neg k315]
  by_cases k316 : x = 316
  · rw [if_pos k316, k316]; rfl
  rw [if_neg k316]
  rw [decide_eq_false (fun z => by rcases z with z | z | z | z <;> simp_all)]; rfl

theorem cf_isvar1 (N : Nat) (a : Nat → Int32) (x : Int32) (h4 : a 4 = 311) : fX1_isVariable N a x = some (p_b (pp_okw 1 (10000 + x.toNatClampNeg))) := by
  show fX1_isVariable N a x = some (p_b (pe_okH (10000 + x.toNatClampNeg)))
  rw [okH_iff]
  unfold fX1_isVariable
  rw [h4]
  by_cases k302 : x = 302
  · rw [if_pos k302, k302]; rfl
  rw [if_neg k302]
  by_cases k303 : x = 303
  · rw [if_pos k303, k303]; rfl
  rw [if_neg k303]
  by_cases k304 : x = 304
  · rw [if_pos k304, k304]; rfl
  rw [if_neg k304]
  by_cases k305 : x = 305
  · rw [if_pos k305, k305]; rfl
  rw [if_neg k305]
  by_cases k306 : x = 306
  · rw [if_pos k306, k306]; rfl
  rw [if_neg k306]
  by_cases k307 : x = 307
  · rw [if_pos k307, k307]; rfl
  rw [if_neg k307]
  by_cases k308 : x = 308
  · rw [if_pos k308, k308]; rfl
  rw [if_neg k308]
  by_cases k309 : x = 309
  · rw [if_pos k309, k309]; rfl
  rw [if_neg k309]
  by_cases k310 : x = 310
  · rw [if_pos k310, k310]; rfl
  rw [if_neg k310]
  by_cases k311 : x = 311
  · rw [if_pos k311, k311]; rfl
  rw [if_neg k311]
  by_cases k312 : x = 312
  · rw [if_pos k312, k312]; rfl
  rw [if_neg k312]
  by_cases k313 : x = 313
  · rw [if_pos k313, k313]; rfl
  rw [if_neg k313]
  by_cases k314 : x = 314
  · rw [if_pos k314, k314]; rfl
  rw [if_neg k314]
  by_cases k315 : x = 315
  · rw [if_pos k315, k315]; rfl
  rw [if_neg k315]
  by_cases k316 : x = 316
  · rw [if_pos k316, k316]; rfl
  rw [if_neg k316]
  rw [decide_eq_false (fun z => by rcases z with z | z | z | z | z <;> simp_all)]; rfl

theorem cf_isvar2 (N : Nat) (a : Nat → Int32) (x : Int32) (h4 : a 4 = 312) : fX1_isVariable N a x = some (p_b (pp_okw 2 (10000 + x.toNatClampNeg))) := by
  show fX1_isVariable N a x = some (p_b (pe_okT (10000 + x.toNatClampNeg)))
  rw [okT_iff]
  unfold fX1_isVariable
  rw [h4]
  by_cases k302 : x = 302
  · rw [if_pos k302, k302]; rfl
  rw [if_neg k302]
  by_cases k303 : x = 303
  · rw [if_pos k303, k303]; rfl
  rw [if_neg k303]
  by_cases k304 : x = 304
  · rw [if_pos k304, k304]; rfl
  rw [if_neg k304]
  by_cases k305 : x = 305
  · rw [if_pos k305, k305]; rfl
  rw [if_neg k305]
  by_cases k306 : x = 306
  · rw [if_pos k306, k306]; rfl
  rw [if_neg k306]
  by_cases k307 : x = 307
  · rw [if_pos k307, k307]; rfl
  rw [if_neg k307]
  by_cases k308 : x = 308
  · rw [if_pos k308, k308]; rfl
  rw [if_neg k308]
  by_cases k309 : x = 309
  · rw [if_pos k309, k309]; rfl
  rw [if_neg k309]
  by_cases k310 : x = 310
  · rw [if_pos k310, k310]; rfl
  rw [if_neg k310]
  by_cases k311 : x = 311
  · rw [if_pos k311, k311]; rfl
  rw [if_neg k311]
  by_cases k312 : x = 312
  · rw [if_pos k312, k312]; rfl
  rw [if_neg k312]
  by_cases k313 : x = 313
  · rw [if_pos k313, k313]; rfl
  rw [if_neg k313]
  by_cases k314 : x = 314
  · rw [if_pos k314, k314]; rfl
  rw [if_neg k314]
  by_cases k315 : x = 315
  · rw [if_pos k315, k315]; rfl
  rw [if_neg k315]
  by_cases k316 : x = 316
  · rw [if_pos k316, k316]; rfl
  rw [if_neg k316]
  rw [decide_eq_false (fun z => by rcases z with z | z | z <;> simp_all)]; rfl

theorem pp_vsr0 (k : Int32) (hk : ¬ k = -3) : (pp_okw 0 (10000 + k.toNatClampNeg) = true → ∃ s, s ≤ 8 ∧ ¬ s = 0 ∧ pp_vs 0 k = nI s ∧ ∀ v, pm_rel (10000 + k.toNatClampNeg) s v) ∧ (¬ pp_okw 0 (10000 + k.toNatClampNeg) = true → pp_vs 0 k = -1) := by
  show (pe_okG (10000 + k.toNatClampNeg) = true → _) ∧ (¬ pe_okG (10000 + k.toNatClampNeg) = true → _)
  rw [okG_iff]
  refine ⟨fun h => ?_, fun h => ?_⟩
  · rcases of_decide_eq_true h with z | z | z | z
    · exact ⟨1, by decide, by decide, by rw [z]; rfl, fun v => by rw [z]; exact Or.inr (Or.inr (Or.inl ⟨by decide, by decide, by show pm_var 13 1; unfold pm_var; decide⟩))⟩
    · exact ⟨2, by decide, by decide, by rw [z]; rfl, fun v => by rw [z]; exact Or.inr (Or.inr (Or.inl ⟨by decide, by decide, by show pm_var 2 2; unfold pm_var; decide⟩))⟩
    · exact ⟨3, by decide, by decide, by rw [z]; rfl, fun v => by rw [z]; exact Or.inr (Or.inr (Or.inl ⟨by decide, by decide, by show pm_var 14 3; unfold pm_var; decide⟩))⟩
    · exact ⟨4, by decide, by decide, by rw [z]; rfl, fun v => by rw [z]; exact Or.inr (Or.inr (Or.inl ⟨by decide, by decide, by show pm_var 15 4; unfold pm_var; decide⟩))⟩
  · have h : ¬ (k = 313 ∨ k = 302 ∨ k = 314 ∨ k = 315) := fun z => h (decide_eq_true z)
    unfold pp_vs
    rw [if_neg hk]
    rw [if_neg (fun z => h (Or.inl z))]
    rw [if_neg (fun z => h (Or.inr (Or.inl z)))]
    rw [if_neg (fun z => h (Or.inr (Or.inr (Or.inl z))))]
    rw [if_neg (fun z => h (Or.inr (Or.inr (Or.inr (z)))))]
    by_cases k306 : k = 306
    · rw [if_pos k306, if_neg (by decide)]
    rw [if_neg k306]
    by_cases k305 : k = 305
    · rw [if_pos k305, if_neg (by decide)]
    rw [if_neg k305]
    by_cases k316 : k = 316
    · rw [if_pos k316, if_neg (by decide)]
    rw [if_neg k316]
    by_cases k309 : k = 309
    · rw [if_pos k309, if_neg (by decide)]
    rw [if_neg k309]

theorem pp_vsr1 (k : Int32) (hk : ¬ k = -3) : (pp_okw 1 (10000 + k.toNatClampNeg) = true → ∃ s, s ≤ 8 ∧ ¬ s = 0 ∧ pp_vs 1 k = nI s ∧ ∀ v, pm_rel (10000 + k.toNatClampNeg) s v) ∧ (¬ pp_okw 1 (10000 + k.toNatClampNeg) = true → pp_vs 1 k = -1) := by
  show (pe_okH (10000 + k.toNatClampNeg) = true → _) ∧ (¬ pe_okH (10000 + k.toNatClampNeg) = true → _)
  rw [okH_iff]
  refine ⟨fun h => ?_, fun h => ?_⟩
  · rcases of_decide_eq_true h with z | z | z | z | z
    · exact ⟨1, by decide, by decide, by rw [z]; rfl, fun v => by rw [z]; exact Or.inr (Or.inr (Or.inl ⟨by decide, by decide, by show pm_var 13 1; unfold pm_var; decide⟩))⟩
    · exact ⟨2, by decide, by decide, by rw [z]; rfl, fun v => by rw [z]; exact Or.inr (Or.inr (Or.inl ⟨by decide, by decide, by show pm_var 2 2; unfold pm_var; decide⟩))⟩
    · exact ⟨5, by decide, by decide, by rw [z]; rfl, fun v => by rw [z]; exact Or.inr (Or.inr (Or.inl ⟨by decide, by decide, by show pm_var 6 5; unfold pm_var; decide⟩))⟩
    · exact ⟨6, by decide, by decide, by rw [z]; rfl, fun v => by rw [z]; exact Or.inr (Or.inr (Or.inl ⟨by decide, by decide, by show pm_var 5 6; unfold pm_var; decide⟩))⟩
    · exact ⟨7, by decide, by decide, by rw [z]; rfl, fun v => by rw [z]; exact Or.inr (Or.inr (Or.inl ⟨by decide, by decide, by show pm_var 16 7; unfold pm_var; decide⟩))⟩
  · have h : ¬ (k = 313 ∨ k = 302 ∨ k = 306 ∨ k = 305 ∨ k = 316) := fun z => h (decide_eq_true z)
    unfold pp_vs
    rw [if_neg hk]
    rw [if_neg (fun z => h (Or.inl z))]
    rw [if_neg (fun z => h (Or.inr (Or.inl z)))]
    by_cases k314 : k = 314
    · rw [if_pos k314, if_neg (by decide)]
    rw [if_neg k314]
    by_cases k315 : k = 315
    · rw [if_pos k315, if_neg (by decide)]
    rw [if_neg k315]
    rw [if_neg (fun z => h (Or.inr (Or.inr (Or.inl z))))]
    rw [if_neg (fun z => h (Or.inr (Or.inr (Or.inr (Or.inl z)))))]
    rw [if_neg (fun z => h (Or.inr (Or.inr (Or.inr (Or.inr (z))))))]
    by_cases k309 : k = 309
    · rw [if_pos k309, if_neg (by decide)]
    rw [if_neg k309]

theorem pp_vsr2 (k : Int32) (hk : ¬ k = -3) : (pp_okw 2 (10000 + k.toNatClampNeg) = true → ∃ s, s ≤ 8 ∧ ¬ s = 0 ∧ pp_vs 2 k = nI s ∧ ∀ v, pm_rel (10000 + k.toNatClampNeg) s v) ∧ (¬ pp_okw 2 (10000 + k.toNatClampNeg) = true → pp_vs 2 k = -1) := by
  show (pe_okT (10000 + k.toNatClampNeg) = true → _) ∧ (¬ pe_okT (10000 + k.toNatClampNeg) = true → _)
  rw [okT_iff]
  refine ⟨fun h => ?_, fun h => ?_⟩
  · rcases of_decide_eq_true h with z | z | z
    · exact ⟨1, by decide, by decide, by rw [z]; rfl, fun v => by rw [z]; exact Or.inr (Or.inr (Or.inl ⟨by decide, by decide, by show pm_var 13 1; unfold pm_var; decide⟩))⟩
    · exact ⟨2, by decide, by decide, by rw [z]; rfl, fun v => by rw [z]; exact Or.inr (Or.inr (Or.inl ⟨by decide, by decide, by show pm_var 2 2; unfold pm_var; decide⟩))⟩
    · exact ⟨8, by decide, by decide, by rw [z]; rfl, fun v => by rw [z]; exact Or.inr (Or.inr (Or.inl ⟨by decide, by decide, by show pm_var 9 8; unfold pm_var; decide⟩))⟩
  · have h : ¬ (k = 313 ∨ k = 302 ∨ k = 309) := fun z => h (decide_eq_true z)
    unfold pp_vs
    rw [if_neg hk]
    rw [if_neg (fun z => h (Or.inl z))]
    rw [if_neg (fun z => h (Or.inr (Or.inl z)))]
    by_cases k314 : k = 314
    · rw [if_pos k314, if_neg (by decide)]
    rw [if_neg k314]
    by_cases k315 : k = 315
    · rw [if_pos k315, if_neg (by decide)]
    rw [if_neg k315]
    by_cases k306 : k = 306
    · rw [if_pos k306, if_neg (by decide)]
    rw [if_neg k306]
    by_cases k305 : k = 305
    · rw [if_pos k305, if_neg (by decide)]
    rw [if_neg k305]
    by_cases k316 : k = 316
    · rw [if_pos k316, if_neg (by decide)]
    rw [if_neg k316]
    rw [if_neg (fun z => h (Or.inr (Or.inr (z))))]

theorem pp_okw0 (w : Nat) : pp_okw w 10000 = false := by
  unfold pp_okw
  split
  · rfl
  · split <;> rfl
theorem pp_okw_r (w : Nat) (c : Nat) (h : pp_okw w c = true) : 10300 ≤ c ∧ c < 10324 := by
  unfold pp_okw at h
  split at h
  · have := pe_okG_c h; omega
  · split at h
    · have := pe_okH_c h; omega
    · have := pe_okT_c h; omega
/-- the plain parser on a formula of law w -/
def ppF (K V : Nat → Int32) (w i : Nat) : PPR := if w = 1 then (pp_grp K V (pp_okw w) 9).2.1 i else (pp_grp K V (pp_okw w) 9).1 i
def cA (n i : Nat) (b : Nat → Int32) : Prop := b 4 = nI n ∧ b 5 = nI i ∧ b 6 = 0 ∧ i < n ∧ b 7 = -1
def cB (n : Nat) (f p : Int32) (b : Nat → Int32) : Prop := b 4 = nI n ∧ (∃ i, i < n ∧ b 5 = nI i) ∧ b 6 = f ∧ ¬ f = 0 ∧ b 7 = p
def jc (n : Nat) (K St V : Nat → Int32) (r : PPR) (b : Nat → Int32) : Prop := if r.1 = 0 then cA n r.2.1 b else cB n (nI r.1) (pp_pl K St V r.1 r.2.1) b
theorem cB_cD {n cN s : Nat} {f p : Int32} {a b : Nat → Int32} (h : cB n f p b) (h2 : a 2 = 0) (hs : s < n) : cD n cN (a 4) s f p a b := ⟨h.1, h.2.1, h.2.2.1, h.2.2.2.1, h.2.2.2.2, ⟨0, by omega, h2⟩, rfl⟩
theorem cD_cB {n cN s : Nat} {f p sb : Int32} {a b : Nat → Int32} (h : cD n cN sb s f p a b) : cB n f p b := ⟨h.1, h.2.1, h.2.2.1, h.2.2.2.1, h.2.2.2.2.1⟩
theorem cA_cS {n i : Nat} {a b c : Nat → Int32} (h : cA n i b) (h2 : a 2 = 0) (h3 : a 3 = 0) : cS n (a 4) i 0 0 [] a b c := ⟨h.1, h.2.1, h.2.2.1, h.2.2.2.1, h2, by show 0 + 0 ≤ i; omega, fun j x hj => (by cases hj), h3, rfl, h.2.2.2.2⟩
theorem cS_cA {n i o s : Nat} {sb : Int32} {C : List Nat} {a b c : Nat → Int32} (h : cS n sb i o s C a b c) : cA n i b := ⟨h.1, h.2.1, h.2.2.1, h.2.2.2.1, h.2.2.2.2.2.2.2.2.2⟩
theorem cf_copy (N : Nat) {F : Nat → Int32} {cN u : Nat} (hu : u < cN) (hc : cN ≤ 1601) : ∃ F', fJ7_copyOfL N F cN (nI u) = some (u, F') ∧ ∀ j, j < u → F' j = F j := by
  refine ⟨va_cpy F (fun _ => 0) 0 0 u, ?_, fun j hj => ?_⟩
  · unfold fJ7_copyOfL fJ7_copyOf_59c91 xq_cpy
    rw [if_neg (fun z => by have := (nI_eq (by omega) (by omega)).mp z; omega), if_neg (nI_pos (by omega)), nI_clamp (by omega), if_neg (by omega), if_neg (by omega), xs_min (by omega) (by omega), Nat.min_eq_right (by omega), nI_clamp (by omega), if_neg (fun z => by
      rcases z with z | z | z | z | z
      · exact absurd z (by decide)
      · exact absurd z (by decide)
      · exact nI_pos (by omega) z
      · have z : cN < 0 + u := z
        omega
      · have z : u < 0 + u := z
        omega), xs_bd]
    rfl
  · unfold va_cpy
    rw [if_pos (by omega)]
    show F (0 + (j - 0)) = F j
    congr 1
    omega
section
variable {n cN : Nat} {K St V : Nat → Int32} (N : Nat)
theorem cf_formula (hN : 5000 ≤ N) (hx : cX n cN K) (hV : ∀ i, i < n → K i = -3 → ∃ x, x ≤ 9999 ∧ V i = nI x) {w : Nat} (hw : w < 3) {r : PPR} {a b c : Nat → Int32} (h : jc n K St V r b) :
    ∃ a' b' c' n' F', fX1_readFormula N a b K St V c cN cN cN cN (nI (310 + w)) = some (a', b', c', n', F') ∧ jc n K St V (pp_bd r (ppF K V w)) b' ∧ (r.1 = 0 → (ppF K V w r.2.1).1 = 0 → cL F' n' (ppF K V w r.2.1).2.2) := by
  have hn := hx.1; have hc := hx.2.1
  have fin : ∀ (a1 b1 c1 : Nat → Int32) (u : Nat), a1 2 = nI u → u < cN → ∃ n' F', fX1_readFormula_b33 N K St V cN cN cN cN (a1, b1, c1) = some (a1, b1, c1, n', F') ∧ n' = u ∧ ∀ j, j < u → F' j = c1 j := by
    intro a1 b1 c1 u h1 h2
    obtain ⟨F', e1, e2⟩ := cf_copy N (F := c1) h2 hc
    refine ⟨u, F', ?_, rfl, e2⟩
    dsimp only [fX1_readFormula_b33]
    rw [h1, e1, xs_bd]
  have g := cf_grp N (n := n) (cN := cN) (sb := nI (310 + w)) (St := St) hN hx (ok := pp_okw w) hV (fun a x h4 => by
    have : w = 0 ∨ w = 1 ∨ w = 2 := by omega
    rcases this with rfl | rfl | rfl
    · exact cf_isvar0 N a x h4
    · exact cf_isvar1 N a x h4
    · exact cf_isvar2 N a x h4) (pp_okw0 w) 9 0 (by decide) (by decide)
  have key : ∃ G : (Nat → Int32) → (Nat → Int32) → (Nat → Int32) → Option ((Nat → Int32) × (Nat → Int32) × (Nat → Int32)), (∀ s, cG n cN (nI (310 + w)) K St V G (ppF K V w) 0 s 9) ∧ fX1_readFormula N a b K St V c cN cN cN cN (nI (310 + w)) = xq_bd (G (va_up (va_up (va_up a 4 (nI (310 + w))) 2 0) 3 0) b c) (fun (r_1_0, r_1_1, r_1_2) => fX1_readFormula_b33 N K St V cN cN cN cN (r_1_0, r_1_1, r_1_2)) := by
    unfold fX1_readFormula ppF
    by_cases z : w = 1
    · subst z
      exact ⟨_, g.2.1, by rw [if_pos (show nI (310 + 1) = 311 from rfl)]; rfl⟩
    · refine ⟨(fX1_grp N K St V cN cN cN cN 9).1, ?_, by rw [if_neg (show ¬ nI (310 + w) = (311 : Int32) from fun y => z (by have := (nI_eq (b := 311) (by omega) (by omega)).mp y; omega))]; rfl⟩
      have e : (fun i => if w = 1 then (pp_grp K V (pp_okw w) 9).2.1 i else (pp_grp K V (pp_okw w) 9).1 i) = (pp_grp K V (pp_okw w) 9).1 := by
        funext i; rw [if_neg z]
      show ∀ s, cG n cN (nI (310 + w)) K St V _ (fun i => if w = 1 then (pp_grp K V (pp_okw w) 9).2.1 i else (pp_grp K V (pp_okw w) 9).1 i) 0 s 9
      rw [e]; exact g.1
  obtain ⟨G, hG, e0⟩ := key
  rw [e0]
  unfold jc at h
  by_cases h0 : r.1 = 0
  · rw [if_pos h0] at h
    obtain ⟨a1, b1, c1, e1, q⟩ := (hG 0).1 [] r.2.1 (va_up (va_up (va_up a 4 (nI (310 + w))) 2 0) 3 0) b c (by decide) (cA_cS h rfl rfl)
    rw [e1, xs_bd]
    have : pp_bd r (ppF K V w) = ((ppF K V w r.2.1).1, (ppF K V w r.2.1).2.1, r.2.2 ++ (ppF K V w r.2.1).2.2) := pp_bd_pos h0
    rw [this]
    unfold cQ at q
    unfold jc
    by_cases h1 : (ppF K V w r.2.1).1 = 0
    · rw [if_pos h1] at q
      have hlen := q.2.2.2.2.2.1
      have hlt := q.2.2.2.1
      rw [List.nil_append] at q hlen
      obtain ⟨n', F', f1, f2, f3⟩ := fin a1 b1 c1 _ q.2.2.2.2.1 (by omega)
      refine ⟨_, _, _, n', F', f1, ?_, fun _ _ => ⟨f2, fun j x hj => (f3 j (li_len hj)).trans (q.2.2.2.2.2.2.1 j x hj)⟩⟩
      rw [if_pos (show (((ppF K V w r.2.1).1, (ppF K V w r.2.1).2.1, r.2.2 ++ (ppF K V w r.2.1).2.2) : PPR).1 = 0 from h1)]
      exact cS_cA q
    · rw [if_neg h1] at q
      obtain ⟨u, hu1, hu2⟩ := q.2.2.2.2.2.1
      obtain ⟨n', F', f1, f2, f3⟩ := fin a1 b1 c1 u hu2 (by omega)
      refine ⟨_, _, _, n', F', f1, ?_, fun _ z => absurd z h1⟩
      rw [if_neg (show ¬ (((ppF K V w r.2.1).1, (ppF K V w r.2.1).2.1, r.2.2 ++ (ppF K V w r.2.1).2.2) : PPR).1 = 0 from h1)]
      exact cD_cB q
  · rw [if_neg h0] at h
    obtain ⟨j, hj, -⟩ := h.2.1
    obtain ⟨a1, b1, c1, e1, q⟩ := (hG 0).2 _ _ (va_up (va_up (va_up a 4 (nI (310 + w))) 2 0) 3 0) b c (cB_cD (cN := cN) (a := va_up (va_up (va_up a 4 (nI (310 + w))) 2 0) 3 0) h rfl (by omega))
    obtain ⟨u, hu1, hu2⟩ := q.2.2.2.2.2.1
    obtain ⟨n', F', f1, f2, f3⟩ := fin a1 b1 c1 u hu2 (by omega)
    rw [e1, xs_bd]
    refine ⟨_, _, _, n', F', f1, ?_, fun z => absurd z h0⟩
    rw [pp_bd_neg h0]
    unfold jc
    rw [if_neg h0]; exact cD_cB q
end
section
variable {K St V E : Nat → Int32} {nm : Int32 → Int64 → Prop} {sz : Int32} {n b : Nat} {tF : Nat → Int32} (N : Nat)
theorem m_formula (hN : 5000 ≤ N) (hA : mAh N tF K St V E nm sz n) (hE : ∀ i, i < n → ¬ K i = -1 → ¬ K i = -2 → i + 1 < n) (hn : n ≤ 1601) (hV : ∀ i, i < n → K i = -3 → ∃ x, x ≤ 9999 ∧ V i = nI x) {w i : Nat} (hw : w < 3) {C : List Nat} {I : Nat → Int32} {J : Nat → Int64} {fF pF bF aF oF cs cv qF : Nat → Int32} (hT : mTok K St V E nm sz i I J) (h8 : I 8 = 0) (h9 : I 9 = -1) (h30 : I 30 = nI C.length) (h31 : I 31 = nI b) (h32 : I 32 = nI w) (hb : b < 2) (hC : mCd b C cs cv) (hi1 : 1 ≤ i) (hin : i < n) (hCi : C.length ≤ i) :
    ∃ x : RS, fX12_reads N I J fF pF bF aF oF cs cv tF qF (nI (if w = 1 then 1 else 0)) = some x ∧ (if (ppF K V w i).1 = 0 then (mFin K St V E nm sz b I J cs cv (ppF K V w i).2.1 (C ++ (ppF K V w i).2.2) x ∨ (K (ppF K V w i).2.1 = -2 ∧ mDe b I J cs cv 1 (pp_pl K St V 1 (ppF K V w i).2.1) x)) ∧ (ppF K V w i).2.1 < n else mDe b I J cs cv (ppF K V w i).1 (pp_pl K St V (ppF K V w i).1 (ppF K V w i).2.1) x) := by
  have g := m_grp N (b := b) (I0 := I) (J0 := J) (cs0 := cs) (cv0 := cv) hN hA hE hn hV h32 hw (pp_okw0 w) (fun k hk => by
    have : w = 0 ∨ w = 1 ∨ w = 2 := by omega
    rcases this with rfl | rfl | rfl
    · exact pp_vsr0 k hk
    · exact pp_vsr1 k hk
    · exact pp_vsr2 k hk) 9 0 (by decide) (by decide)
  -- the state behind pushes
  have hpush : ∀ kd : Nat, kd < 2 → fX12_reads N I J fF pF bF aF oF cs cv tF qF (nI kd) = mLp N tF N (va_up (va_up (va_up (va_up (va_up I 38 0) 39 0) 41 0) 42 0) 38 1, J, upd fF 0 (nI kd), upd pF 0 0, upd bF 0 1, upd aF 0 0, oF, cs, cv, qF) 1 := by
    intro kd hkd
    have hp : ∀ kd : Nat, fX12_reads_b38 N tF (va_up (va_up (va_up (va_up I 38 0) 39 0) 41 0) 42 0, J, fF, pF, bF, aF, oF, cs, cv, qF, nI kd) = mLp N tF N (va_up (va_up (va_up (va_up (va_up I 38 0) 39 0) 41 0) 42 0) 38 1, J, upd fF 0 (nI kd), upd pF 0 0, upd bF 0 1, upd aF 0 0, oF, cs, cv, qF) 1 := by
      intro kd
      dsimp only [fX12_reads_b38]
      unfold fX12_pushes
      rw [show (va_up (va_up (va_up (va_up I 38 0) 39 0) 41 0) 42 0) 38 = nI 0 from rfl, show (va_up (va_up (va_up (va_up I 38 0) 39 0) 41 0) 42 0) 41 = (0 : Int32) from rfl, xs_ast (by decide) (by decide), xs_bd, xs_ast (by decide) (by decide), xs_bd, show vp_nar .boolean 1 = 1 from by decide +kernel, xs_ast (by decide) (by decide), xs_bd, xs_ast (by decide) (by decide), xs_bd, xs_bd]
      rfl
    unfold fX12_reads
    rw [if_pos (by rw [h8]; decide)]
    have : kd = 0 ∨ kd = 1 := by omega
    rcases this with rfl | rfl
    · rw [if_pos (show nI 0 = 0 from rfl)]; exact hp 0
    · rw [if_neg (show ¬ nI 1 = 0 by decide)]; exact hp 1
  have hst : ∀ kd : Nat, kd < 2 → mR K St V E nm sz n b I J cs cv 0 i ([] ++ [(kd, 0, 1, 0, 0)]) [] C 0 (va_up (va_up (va_up (va_up (va_up I 38 0) 39 0) 41 0) 42 0) 38 1, J, upd fF 0 (nI kd), upd pF 0 0, upd bF 0 1, upd aF 0 0, oF, cs, cv, qF) := by
    intro kd hkd
    refine ⟨hT, ⟨h8, h9, rfl, rfl, rfl, rfl, h30⟩, mFr_set (fr := []) (fF := fF) (pF := pF) (bF := bF) (aF := aF) (qF := qF) (fun j x hj => by cases hj) (fun j hj => absurd hj (Nat.not_lt_zero _)) ⟨rfl, rfl, rfl, rfl, fun z => by have z : kd = 3 ∨ kd = 4 ∨ kd = 6 := z; omega⟩, (show mOps [] oF from fun j c hj => by cases hj), hC, ?_, hi1, hin, hn, by show C.length + 0 ≤ i; omega, rfl, by decide, hb, h31, by decide⟩
    have k0 : mKeep b I J cs cv I J cs cv := ⟨fun _ _ => rfl, fun _ _ => rfl, fun _ _ => ⟨rfl, rfl⟩⟩
    exact mKeep_up (mKeep_up (mKeep_up (mKeep_up (mKeep_up k0 (by unfold mzz; omega)) (by unfold mzz; omega)) (by unfold mzz; omega)) (by unfold mzz; omega)) (by unfold mzz; omega)
  -- behind the formula
  have hend : ∀ (kd : Nat) (X : Nat → PPR), kd < 2 → mO N tF K St V n b I J cs cv (va_up (va_up (va_up (va_up (va_up I 38 0) 39 0) 41 0) 42 0) 38 1, J, upd fF 0 (nI kd), upd pF 0 0, upd bF 0 1, upd aF 0 0, oF, cs, cv, qF) i (X i) (mP K St V E nm sz n b I J cs cv 1 (mEnded K kd 0 0) [] [] C 0 (X i).2.1 (X i).2.2) → ∃ x : RS, fX12_reads N I J fF pF bF aF oF cs cv tF qF (nI kd) = some x ∧ (if (X i).1 = 0 then (mFin K St V E nm sz b I J cs cv (X i).2.1 (C ++ (X i).2.2) x ∨ (K (X i).2.1 = -2 ∧ mDe b I J cs cv 1 (pp_pl K St V 1 (X i).2.1) x)) ∧ (X i).2.1 < n else mDe b I J cs cv (X i).1 (pp_pl K St V (X i).1 (X i).2.1) x) := by
    intro kd X hkd h
    rw [hpush kd hkd]
    unfold mO at h
    by_cases h0 : (X i).1 = 0
    · rw [if_pos h0] at h
      obtain ⟨m, y, e1, e2, e3, R, L0, t', ⟨a1, a2, a3, a4, a5, a6, a7⟩, q2, q3, q4⟩ := h
      obtain ⟨I1, J1, fF1, pF1, bF1, aF1, oF1, cs1, cv1, qF1⟩ := y
      have hjn : (X i).2.1 < n := (mR_get q4).2.2.2.2.2.2.2.1
      by_cases z12 : I1 12 = -1
      · obtain ⟨y2, s1, s2⟩ := s_end N hN q4 z12 (by omega) a2 a6 a7 q3 (Or.inl (by show 0 = _; omega))
        refine ⟨y2, ?_, ?_⟩
        · have := mEnd_tr N e3 s1 (N - (m + 2))
          rw [show N - (m + 2) + (m + 2) = N by omega] at this
          exact this
        · rw [if_pos h0]
          refine ⟨Or.inl ?_, hjn⟩
          rw [← q2, ← List.append_assoc]; exact s2
      · obtain ⟨y2, s1, s2⟩ := s_lexG N q4 z12
        refine ⟨y2, ?_, by rw [if_pos h0]; exact ⟨Or.inr ⟨((mR_get q4).1.2.2.2.1 z12).1, s2⟩, hjn⟩⟩
        have := mEnd_tr N e3 s1 (N - (m + 2))
        rw [show N - (m + 2) + (m + 2) = N by omega] at this
        exact this
    · rw [if_neg h0] at h
      obtain ⟨m, y, e1, e2, e3⟩ := h
      refine ⟨y, ?_, by rw [if_neg h0]; exact e3⟩
      have := e2 (N - m)
      rw [show N - m + m = N by omega] at this
      exact this
  by_cases z : w = 1
  · have e : ppF K V w = (pp_grp K V (pp_okw w) 9).2.1 := by funext j; unfold ppF; rw [if_pos z]
    rw [if_pos z, e]
    refine hend 1 _ (by decide) (mO_mono N (g.2.1 i [] (1, 0, 1, 0, 0) [] C _ (by show 1 < 100; omega) rfl rfl rfl (Or.inl rfl) (by decide) (hst 1 (by decide))) fun y _ _ q => mP_mono q (Nat.le_refl _) fun t' ht => mEnded_test ht)
  · have e : ppF K V w = (pp_grp K V (pp_okw w) 9).1 := by funext j; unfold ppF; rw [if_neg z]
    rw [if_neg z, e]
    refine hend 0 _ (by decide) (mO_mono N (g.1 i [] (0, 0, 1, 0, 0) [] C _ (by show 0 < 100; omega) (by show 0 < 2; omega) (by show 1 ≤ 1; omega) (fun z => by unfold pp_first pp_kt at z; simp at z) (Or.inl rfl) (by decide) (hst 0 (by decide))) fun y _ _ q => mP_mono q (by omega) fun t' ht => mEnded_sum (t := (0, 0, 1, 0, 0)) ht (by show 0 < 2; omega) rfl)
end
