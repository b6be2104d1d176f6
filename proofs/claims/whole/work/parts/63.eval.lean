/-! the value of a SUM or TEST: the class's stack of ints, the reference's stack of longs, one list -/
def pe_cl (z : Int) : Int := if z < -1000000 then -1000000 else if 1000000 < z then 1000000 else z
def pe_div (a b : Int) : Int := if ¬ a.tdiv b * b = a ∧ ¬ (a < 0 ↔ b < 0) then a.tdiv b - 1 else a.tdiv b
def pe_two (w : Nat) (a b : Int) : Int :=
  if w = 37 then (if b = 0 then 0 else a - pe_div a b * b)
  else if w = 42 then a * b
  else if w = 43 then a + b
  else if w = 45 then a - b
  else if w = 47 then (if b = 0 then 0 else pe_div a b)
  else if w = 60 then (if b ≤ a then 0 else 1)
  else if w = 61 then (if a = b then 1 else 0)
  else if w = 62 then (if a ≤ b then 0 else 1)
  else if w = 319 then (if b < a then b else a)
  else if w = 322 then (if b < a then b else a)
  else (if b < a then a else b)
def pe_op (w : Nat) (a b : Int32) : Int32 := Int32.ofInt (pe_cl (pe_two w a.toInt b.toInt))
theorem pe_cl_rng (z : Int) : -1000000 ≤ pe_cl z ∧ pe_cl z ≤ 1000000 := by
  unfold pe_cl; split
  · omega
  · split <;> omega
theorem pe_cl_id {z : Int} (h1 : -1000000 ≤ z) (h2 : z ≤ 1000000) : pe_cl z = z := by
  unfold pe_cl; rw [if_neg (by omega), if_neg (by omega)]
theorem pe_op_int (w : Nat) (a b : Int32) : (pe_op w a b).toInt = pe_cl (pe_two w a.toInt b.toInt) := by
  have := pe_cl_rng (pe_two w a.toInt b.toInt)
  exact fb_ofI (by omega) (by omega)
theorem pe_xor (A B : Int64) : (0 ≤ (A ^^^ B).toInt) ↔ (A.toInt < 0 ↔ B.toInt < 0) := by
  have e : (A ^^^ B).toBitVec.msb = (A.toBitVec.msb ^^ B.toBitVec.msb) := by rw [Int64.toBitVec_xor, BitVec.msb_xor]
  rw [BitVec.msb_eq_toInt, BitVec.msb_eq_toInt, BitVec.msb_eq_toInt] at e
  show (0 ≤ (A ^^^ B).toBitVec.toInt) ↔ (A.toBitVec.toInt < 0 ↔ B.toBitVec.toInt < 0)
  generalize (A ^^^ B).toBitVec.toInt = x at e ⊢
  generalize A.toBitVec.toInt = a at e ⊢
  generalize B.toBitVec.toInt = b at e ⊢
  by_cases h1 : a < 0 <;> by_cases h2 : b < 0 <;> simp [h1, h2] at e ⊢ <;> omega
theorem pe_td {a b : Int} (ha : -1000000 ≤ a ∧ a ≤ 1000000) : (-1000000 ≤ a.tdiv b ∧ a.tdiv b ≤ 1000000) ∧ (-2000000 ≤ a.tdiv b * b ∧ a.tdiv b * b ≤ 2000000) := by
  have h1 := Int.natAbs_tdiv_le_natAbs a b
  have h2 := Int.tmod_add_tdiv_mul a b
  have h3 := Int.natAbs_tmod a b
  have h4 : a.natAbs % b.natAbs ≤ a.natAbs := Nat.mod_le _ _
  generalize a.tdiv b * b = p at h2 ⊢
  generalize a.tdiv b = t at h1 ⊢
  generalize a.tmod b = m at h2 h3
  omega
theorem pe_divL {A B : Int64} (ha : -1000000 ≤ A.toInt ∧ A.toInt ≤ 1000000) : (A / B).toInt = A.toInt.tdiv B.toInt := by
  have := (pe_td (b := B.toInt) ha).1
  rw [Int64.toInt_div, fb_bmodL (by omega) (by omega)]
theorem pe_dmL {A B : Int64} (ha : -1000000 ≤ A.toInt ∧ A.toInt ≤ 1000000) : (A / B * B).toInt = A.toInt.tdiv B.toInt * B.toInt := by
  have := (pe_td (b := B.toInt) ha).2
  rw [fb_mulL (by rw [pe_divL ha]; omega) (by rw [pe_divL ha]; omega), pe_divL ha]
theorem pe_div_rng {a b : Int} (ha : -1000000 ≤ a ∧ a ≤ 1000000) : -1000001 ≤ pe_div a b ∧ pe_div a b ≤ 1000000 := by
  have := (pe_td (b := b) ha).1
  unfold pe_div; split <;> omega
theorem pe_fdiv (N : Nat) {A B : Int64} (ha : -1000000 ≤ A.toInt ∧ A.toInt ≤ 1000000) (hB : ¬ B = 0) : ∃ r, fJ9_floorDiv_f86c9 N A B = some r ∧ r.toInt = pe_div A.toInt B.toInt := by
  have h1 := pe_td (b := B.toInt) ha
  unfold fJ9_floorDiv_f86c9 xq_dvL
  rw [if_neg hB, xs_bd]
  have e1 : (0 ≤ lg_cmp (A ^^^ B) 0) ↔ (A.toInt < 0 ↔ B.toInt < 0) := by
    rw [lg_cmp_ge, fa_le64]; exact pe_xor A B
  have e2 : (lg_cmp (A / B * B) A = 0) ↔ A.toInt.tdiv B.toInt * B.toInt = A.toInt := by
    rw [lg_cmp_eq, fa_eq64, pe_dmL ha]
  unfold pe_div
  by_cases c1 : (A.toInt < 0 ↔ B.toInt < 0)
  · rw [if_pos (e1.mpr c1), if_neg (fun z => z.2 c1)]; exact ⟨_, rfl, pe_divL ha⟩
  · rw [if_neg (fun z => c1 (e1.mp z))]
    by_cases c2 : A.toInt.tdiv B.toInt * B.toInt = A.toInt
    · rw [if_pos (e2.mpr c2), if_neg (fun z => z.1 c2)]; exact ⟨_, rfl, pe_divL ha⟩
    · rw [if_neg (fun z => c2 (e2.mp z)), if_pos ⟨c2, c1⟩]
      refine ⟨_, rfl, ?_⟩
      have h3 := h1.1
      have h4 : (1 : Int64).toInt = 1 := rfl
      rw [fb_subL (by rw [pe_divL ha, h4]; omega) (by rw [pe_divL ha, h4]; omega), pe_divL ha, h4]
theorem pe_fmod (N : Nat) {A B : Int64} (ha : -1000000 ≤ A.toInt ∧ A.toInt ≤ 1000000) (hb : -1000000 ≤ B.toInt ∧ B.toInt ≤ 1000000) (hB : ¬ B = 0) : ∃ r, fJ9_floorMod_f86c9 N A B = some r ∧ r.toInt = A.toInt - pe_div A.toInt B.toInt * B.toInt := by
  have h1 := pe_td (b := B.toInt) ha
  have hm : (A - A / B * B).toInt = A.toInt - A.toInt.tdiv B.toInt * B.toInt := by
    have := h1.2
    rw [fb_subL (by rw [pe_dmL ha]; omega) (by rw [pe_dmL ha]; omega), pe_dmL ha]
  unfold fJ9_floorMod_f86c9 xq_rmL
  rw [if_neg hB, xs_bd]
  have e1 : (0 ≤ lg_cmp (A ^^^ B) 0) ↔ (A.toInt < 0 ↔ B.toInt < 0) := by
    rw [lg_cmp_ge, fa_le64]; exact pe_xor A B
  have e2 : (lg_cmp (A - A / B * B) 0 = 0) ↔ A.toInt.tdiv B.toInt * B.toInt = A.toInt := by
    rw [lg_cmp_eq, fa_eq64, hm]
    show A.toInt - A.toInt.tdiv B.toInt * B.toInt = 0 ↔ _
    omega
  unfold pe_div
  by_cases c1 : (A.toInt < 0 ↔ B.toInt < 0)
  · rw [if_pos (e1.mpr c1), if_neg (fun z => z.2 c1)]; exact ⟨_, rfl, hm⟩
  · rw [if_neg (fun z => c1 (e1.mp z))]
    by_cases c2 : A.toInt.tdiv B.toInt * B.toInt = A.toInt
    · rw [if_pos (e2.mpr c2), if_neg (fun z => z.1 c2)]; exact ⟨_, rfl, hm⟩
    · rw [if_neg (fun z => c2 (e2.mp z)), if_pos ⟨c2, c1⟩]
      refine ⟨_, rfl, ?_⟩
      have h3 := h1.2
      rw [fb_addL (by rw [hm]; omega) (by rw [hm]; omega), hm, Int.sub_mul]
      omega
/-- the words that are operators -/
def pe_isop (w : Nat) : Prop := w = 37 ∨ w = 42 ∨ w = 43 ∨ w = 45 ∨ w = 47 ∨ w = 60 ∨ w = 61 ∨ w = 62 ∨ w = 318 ∨ w = 319 ∨ w = 322 ∨ w = 323
theorem pe_mulr {a b : Int} (ha : -1000000 ≤ a ∧ a ≤ 1000000) (hb : -1000000 ≤ b ∧ b ≤ 1000000) : -1000000000000 ≤ a * b ∧ a * b ≤ 1000000000000 := by
  have h : (a * b).natAbs ≤ 1000000 * 1000000 := by
    rw [Int.natAbs_mul]
    exact Nat.mul_le_mul (by omega) (by omega)
  omega
theorem pe_operate (N : Nat) {w : Nat} (hw : pe_isop w) {A B : Int64} (ha : -1000000 ≤ A.toInt ∧ A.toInt ≤ 1000000) (hb : -1000000 ≤ B.toInt ∧ B.toInt ≤ 1000000) : ∃ r, fX0_operate N (nI w) A B = some r ∧ r.toInt = pe_two w A.toInt B.toInt := by
  have hmul := pe_mulr ha hb
  have z0 : (lg_cmp B 0 = 0) ↔ B = 0 := lg_cmp_eq B 0
  have z1 : (B = 0) ↔ B.toInt = 0 := fa_eq64 B 0
  unfold fX0_operate
  rcases hw with rfl | rfl | rfl | rfl | rfl | rfl | rfl | rfl | rfl | rfl | rfl | rfl
  · rw [if_pos (by decide)]
    by_cases c : B = 0
    · rw [if_pos (z0.mpr c)]
      exact ⟨0, rfl, by unfold pe_two; rw [if_pos rfl, if_pos (z1.mp c)]; rfl⟩
    · rw [if_neg (fun z => c (z0.mp z))]
      obtain ⟨r, h1, h2⟩ := pe_fmod N ha hb c
      rw [h1]
      exact ⟨r, rfl, by unfold pe_two; rw [if_pos rfl, if_neg (fun z => c (z1.mpr z)), h2]⟩
  · rw [if_neg (by decide), if_pos (by decide)]
    exact ⟨_, rfl, by rw [fb_mulL (by omega) (by omega)]; rfl⟩
  · rw [if_neg (by decide), if_neg (by decide), if_pos (by decide)]
    exact ⟨_, rfl, by rw [fb_addL (by omega) (by omega)]; rfl⟩
  · rw [if_neg (by decide), if_neg (by decide), if_neg (by decide), if_pos (by decide)]
    exact ⟨_, rfl, by rw [fb_subL (by omega) (by omega)]; rfl⟩
  · rw [if_neg (by decide), if_neg (by decide), if_neg (by decide), if_neg (by decide), if_pos (by decide)]
    by_cases c : B = 0
    · rw [if_pos (z0.mpr c)]
      exact ⟨0, rfl, by show _ = (if B.toInt = 0 then (0 : Int) else pe_div A.toInt B.toInt); rw [if_pos (z1.mp c)]; rfl⟩
    · rw [if_neg (fun z => c (z0.mp z))]
      obtain ⟨r, h1, h2⟩ := pe_fdiv N (B := B) ha c
      rw [h1]
      exact ⟨r, rfl, by show _ = (if B.toInt = 0 then (0 : Int) else pe_div A.toInt B.toInt); rw [if_neg (fun z => c (z1.mpr z)), h2]⟩
  · rw [if_neg (by decide), if_neg (by decide), if_neg (by decide), if_neg (by decide), if_neg (by decide), if_pos (by decide)]
    show ∃ r : Int64, _ ∧ r.toInt = (if B.toInt ≤ A.toInt then (0 : Int) else 1)
    by_cases c : B ≤ A
    · rw [if_pos ((lg_cmp_ge A B).mpr c), if_pos ((fa_le64 B A).mp c)]; exact ⟨_, rfl, rfl⟩
    · rw [if_neg (fun z => c ((lg_cmp_ge A B).mp z)), if_neg (fun z => c ((fa_le64 B A).mpr z))]; exact ⟨_, rfl, rfl⟩
  · rw [if_neg (by decide), if_neg (by decide), if_neg (by decide), if_neg (by decide), if_neg (by decide), if_neg (by decide), if_pos (by decide)]
    show ∃ r : Int64, _ ∧ r.toInt = (if A.toInt = B.toInt then (1 : Int) else 0)
    by_cases c : A = B
    · rw [if_pos ((lg_cmp_eq A B).mpr c), if_pos ((fa_eq64 A B).mp c)]; exact ⟨_, rfl, rfl⟩
    · rw [if_neg (fun z => c ((lg_cmp_eq A B).mp z)), if_neg (fun z => c ((fa_eq64 A B).mpr z))]; exact ⟨_, rfl, rfl⟩
  · rw [if_neg (by decide), if_neg (by decide), if_neg (by decide), if_neg (by decide), if_neg (by decide), if_neg (by decide), if_neg (by decide), if_pos (by decide)]
    show ∃ r : Int64, _ ∧ r.toInt = (if A.toInt ≤ B.toInt then (0 : Int) else 1)
    by_cases c : A ≤ B
    · rw [if_pos ((lg_cmp_le A B).mpr c), if_pos ((fa_le64 A B).mp c)]; exact ⟨_, rfl, rfl⟩
    · rw [if_neg (fun z => c ((lg_cmp_le A B).mp z)), if_neg (fun z => c ((fa_le64 A B).mpr z))]; exact ⟨_, rfl, rfl⟩
  · rw [if_neg (by decide), if_neg (by decide), if_neg (by decide), if_neg (by decide), if_neg (by decide), if_neg (by decide), if_neg (by decide), if_neg (by decide), if_neg (by decide), if_neg (by decide)]
    show ∃ r : Int64, _ ∧ r.toInt = (if B.toInt < A.toInt then A.toInt else B.toInt)
    refine ⟨_, rfl, ?_⟩
    unfold xq_maxL
    by_cases c : B < A
    · rw [if_pos c, if_pos ((fa_lt64 B A).mp c)]
    · rw [if_neg c, if_neg (fun z => c ((fa_lt64 B A).mpr z))]
  · rw [if_neg (by decide), if_neg (by decide), if_neg (by decide), if_neg (by decide), if_neg (by decide), if_neg (by decide), if_neg (by decide), if_neg (by decide), if_pos (by decide)]
    show ∃ r : Int64, _ ∧ r.toInt = (if B.toInt < A.toInt then B.toInt else A.toInt)
    refine ⟨_, rfl, ?_⟩
    unfold xq_minL
    by_cases c : B < A
    · rw [if_pos c, if_pos ((fa_lt64 B A).mp c)]
    · rw [if_neg c, if_neg (fun z => c ((fa_lt64 B A).mpr z))]
  · rw [if_neg (by decide), if_neg (by decide), if_neg (by decide), if_neg (by decide), if_neg (by decide), if_neg (by decide), if_neg (by decide), if_neg (by decide), if_neg (by decide), if_pos (by decide)]
    show ∃ r : Int64, _ ∧ r.toInt = (if B.toInt < A.toInt then B.toInt else A.toInt)
    refine ⟨_, rfl, ?_⟩
    unfold xq_minL
    by_cases c : B < A
    · rw [if_pos c, if_pos ((fa_lt64 B A).mp c)]
    · rw [if_neg c, if_neg (fun z => c ((fa_lt64 B A).mpr z))]
  · rw [if_neg (by decide), if_neg (by decide), if_neg (by decide), if_neg (by decide), if_neg (by decide), if_neg (by decide), if_neg (by decide), if_neg (by decide), if_neg (by decide), if_neg (by decide)]
    show ∃ r : Int64, _ ∧ r.toInt = (if B.toInt < A.toInt then A.toInt else B.toInt)
    refine ⟨_, rfl, ?_⟩
    unfold xq_maxL
    by_cases c : B < A
    · rw [if_pos c, if_pos ((fa_lt64 B A).mp c)]
    · rw [if_neg c, if_neg (fun z => c ((fa_lt64 B A).mpr z))]
theorem pe_clampL (r : Int64) : (xq_maxL (-1000000) (xq_minL 1000000 r)).toInt = pe_cl r.toInt := by
  have k1 : (1000000 : Int64).toInt = 1000000 := rfl
  have k2 : (-1000000 : Int64).toInt = -1000000 := rfl
  unfold xq_maxL xq_minL pe_cl
  by_cases c1 : r < 1000000
  · rw [if_pos c1]
    have d1 := (fa_lt64 _ _).mp c1
    rw [k1] at d1
    by_cases c2 : r < -1000000
    · have d2 := (fa_lt64 _ _).mp c2
      rw [k2] at d2
      rw [if_pos c2, if_pos d2, k2]
    · have d2 : ¬ _ := fun z => c2 ((fa_lt64 _ _).mpr z)
      rw [k2] at d2
      rw [if_neg c2, if_neg d2, if_neg (by omega)]
  · have d1 : ¬ _ := fun z => c1 ((fa_lt64 _ _).mpr z)
    rw [k1] at d1
    rw [if_neg c1, if_neg (by decide), k1, if_neg (by omega)]
    split <;> omega
theorem pe_clampI (r : Int64) : (xq_maxL (-1000000) (xq_minL 1000000 r)).toInt32.toInt = pe_cl r.toInt := by
  have := pe_cl_rng r.toInt
  rw [Int64.toInt_toInt32, pe_clampL, fb_bmod (by omega) (by omega)]
