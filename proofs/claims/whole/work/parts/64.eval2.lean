/-! the reference's two numbers, as the class's -/
theorem pm_within (N : Nat) (X : Int64) : ∃ r, fX12_within N X = some r ∧ r.toInt = pe_cl X.toInt := by
  have k1 : (1000000 : Int64).toInt = 1000000 := rfl
  have k2 : (-1000000 : Int64).toInt = -1000000 := rfl
  unfold fX12_within pe_cl
  by_cases c1 : X ≤ 1000000
  · have d1 := (fa_le64 _ _).mp c1
    rw [k1] at d1
    rw [if_pos ((lg_cmp_le _ _).mpr c1)]
    by_cases c2 : -1000000 ≤ X
    · have d2 := (fa_le64 _ _).mp c2
      rw [k2] at d2
      rw [if_pos ((lg_cmp_ge _ _).mpr c2), if_neg (by omega), if_neg (by omega)]
      exact ⟨_, rfl, rfl⟩
    · have d2 : ¬ _ := fun z => c2 ((fa_le64 _ _).mpr z)
      rw [k2] at d2
      rw [if_neg (fun z => c2 ((lg_cmp_ge _ _).mp z)), if_pos (by omega)]
      exact ⟨_, rfl, rfl⟩
  · have d1 : ¬ _ := fun z => c1 ((fa_le64 _ _).mpr z)
    rw [k1] at d1
    rw [if_neg (fun z => c1 ((lg_cmp_le _ _).mp z)), if_neg (by omega), if_pos (by omega)]
    exact ⟨_, rfl, rfl⟩
theorem pm_floor (N : Nat) {A B : Int64} (ha : -1000000 ≤ A.toInt ∧ A.toInt ≤ 1000000) (hB : ¬ B = 0) : ∃ r, fX12_floor N A B = some r ∧ r.toInt = pe_div A.toInt B.toInt := by
  have h1 := pe_td (b := B.toInt) ha
  have hm : (A - A / B * B).toInt = A.toInt - A.toInt.tdiv B.toInt * B.toInt := by
    have := h1.2
    rw [fb_subL (by rw [pe_dmL ha]; omega) (by rw [pe_dmL ha]; omega), pe_dmL ha]
  have e2 : (lg_cmp (A - A / B * B) 0 = 0) ↔ A.toInt.tdiv B.toInt * B.toInt = A.toInt := by
    rw [lg_cmp_eq, fa_eq64, hm]
    show A.toInt - A.toInt.tdiv B.toInt * B.toInt = 0 ↔ _
    omega
  have hsub : (A / B - 1).toInt = A.toInt.tdiv B.toInt - 1 := by
    have h3 := h1.1
    have h4 : (1 : Int64).toInt = 1 := rfl
    rw [fb_subL (by rw [pe_divL ha, h4]; omega) (by rw [pe_divL ha, h4]; omega), pe_divL ha, h4]
  have ga : (0 ≤ lg_cmp A 0) ↔ ¬ A.toInt < 0 := by
    rw [lg_cmp_ge, fa_le64]; show (0 : Int) ≤ A.toInt ↔ _; omega
  have gb : (0 ≤ lg_cmp B 0) ↔ ¬ B.toInt < 0 := by
    rw [lg_cmp_ge, fa_le64]; show (0 : Int) ≤ B.toInt ↔ _; omega
  unfold fX12_floor xq_dvL xq_rmL
  rw [if_neg (fun z => hB ((lg_cmp_eq B 0).mp z)), if_neg hB, if_neg hB, xs_bd, xs_bd]
  unfold pe_div
  by_cases c2 : A.toInt.tdiv B.toInt * B.toInt = A.toInt
  · rw [if_pos (e2.mpr c2), if_neg (fun z => z.1 c2)]; exact ⟨_, rfl, pe_divL ha⟩
  · rw [if_neg (fun z => c2 (e2.mp z))]
    by_cases ca : A.toInt < 0
    · rw [if_neg (fun z => (ga.mp z) ca)]
      unfold fX12_floor_b32
      by_cases cb : B.toInt < 0
      · show ∃ r, (if 0 ≤ lg_cmp B 0 then fX12_floor_b43 N (A / B, 1, 0) else fX12_floor_b43 N (A / B, 1, 1)) = some r ∧ _
        rw [if_neg (fun z => (gb.mp z) cb), if_neg (fun z => z.2 ⟨fun _ => cb, fun _ => ca⟩)]
        exact ⟨A / B, rfl, pe_divL ha⟩
      · show ∃ r, (if 0 ≤ lg_cmp B 0 then fX12_floor_b43 N (A / B, 1, 0) else fX12_floor_b43 N (A / B, 1, 1)) = some r ∧ _
        rw [if_pos (gb.mpr cb), if_pos ⟨c2, fun z => cb (z.mp ca)⟩]
        exact ⟨A / B - 1, rfl, hsub⟩
    · rw [if_pos (ga.mpr ca)]
      unfold fX12_floor_b32
      by_cases cb : B.toInt < 0
      · show ∃ r, (if 0 ≤ lg_cmp B 0 then fX12_floor_b43 N (A / B, 0, 0) else fX12_floor_b43 N (A / B, 0, 1)) = some r ∧ _
        rw [if_neg (fun z => (gb.mp z) cb), if_pos ⟨c2, fun z => ca (z.mpr cb)⟩]
        exact ⟨A / B - 1, rfl, hsub⟩
      · show ∃ r, (if 0 ≤ lg_cmp B 0 then fX12_floor_b43 N (A / B, 0, 0) else fX12_floor_b43 N (A / B, 0, 1)) = some r ∧ _
        rw [if_pos (gb.mpr cb), if_neg (fun z => z.2 ⟨fun q => absurd q ca, fun q => absurd q cb⟩)]
        exact ⟨A / B, rfl, pe_divL ha⟩
/-- the class's operator and the reference's -/
def pm_so (w s : Nat) : Prop := (w = 43 ∧ s = 31) ∨ (w = 45 ∧ s = 32) ∨ (w = 42 ∧ s = 33) ∨ (w = 47 ∧ s = 34) ∨ (w = 37 ∧ s = 35) ∨ (w = 322 ∧ s = 36) ∨ (w = 323 ∧ s = 37) ∨ (w = 60 ∧ s = 38) ∨ (w = 62 ∧ s = 39) ∨ (w = 61 ∧ s = 40) ∨ (w = 319 ∧ s = 41) ∨ (w = 318 ∧ s = 42)
theorem pm_so_op {w s : Nat} (h : pm_so w s) : pe_isop w := by
  unfold pm_so at h; unfold pe_isop; omega
theorem pm_so_rng {w s : Nat} (h : pm_so w s) : 31 ≤ s ∧ s ≤ 42 ∧ 37 ≤ w ∧ w ≤ 323 ∧ w ≠ 320 ∧ w ≠ 317 := by
  unfold pm_so at h; omega
theorem pm_two (N : Nat) {w s : Nat} (hw : pm_so w s) {A B : Int64} (ha : -1000000 ≤ A.toInt ∧ A.toInt ≤ 1000000) (hb : -1000000 ≤ B.toInt ∧ B.toInt ≤ 1000000) (hz : w = 318 ∨ w = 319 → (A = 0 ∨ A = 1) ∧ (B = 0 ∨ B = 1)) : ∃ r, fX12_two N (nI s) A B = some r ∧ r.toInt = pe_cl (pe_two w A.toInt B.toInt) := by
  have hmul := pe_mulr ha hb
  have z0 : (lg_cmp B 0 = 0) ↔ B = 0 := lg_cmp_eq B 0
  have z1 : (B = 0) ↔ B.toInt = 0 := fa_eq64 B 0
  unfold fX12_two
  rcases hw with ⟨rfl, rfl⟩ | ⟨rfl, rfl⟩ | ⟨rfl, rfl⟩ | ⟨rfl, rfl⟩ | ⟨rfl, rfl⟩ | ⟨rfl, rfl⟩ | ⟨rfl, rfl⟩ | ⟨rfl, rfl⟩ | ⟨rfl, rfl⟩ | ⟨rfl, rfl⟩ | ⟨rfl, rfl⟩ | ⟨rfl, rfl⟩
  · rw [if_pos (by decide)]
    obtain ⟨r, h1, h2⟩ := pm_within N (A + B)
    rw [h1, xs_bd]
    exact ⟨r, rfl, by rw [h2, fb_addL (by omega) (by omega)]; rfl⟩
  · rw [if_neg (by decide), if_pos (by decide)]
    obtain ⟨r, h1, h2⟩ := pm_within N (A - B)
    rw [h1, xs_bd]
    exact ⟨r, rfl, by rw [h2, fb_subL (by omega) (by omega)]; rfl⟩
  · rw [if_neg (by decide), if_neg (by decide), if_pos (by decide)]
    obtain ⟨r, h1, h2⟩ := pm_within N (A * B)
    rw [h1, xs_bd]
    exact ⟨r, rfl, by rw [h2, fb_mulL (by omega) (by omega)]; rfl⟩
  · rw [if_neg (by decide), if_neg (by decide), if_neg (by decide), if_pos (by decide)]
    by_cases c : B = 0
    · have e0 : fX12_floor N A B = some 0 := by unfold fX12_floor; rw [if_pos (z0.mpr c)]
      obtain ⟨r, h1, h2⟩ := pm_within N 0
      rw [e0, xs_bd, h1, xs_bd]
      exact ⟨r, rfl, by rw [h2]; show _ = pe_cl (if B.toInt = 0 then (0 : Int) else pe_div A.toInt B.toInt); rw [if_pos (z1.mp c)]; rfl⟩
    · obtain ⟨q, h3, h4⟩ := pm_floor N (B := B) ha c
      obtain ⟨r, h1, h2⟩ := pm_within N q
      rw [h3, xs_bd, h1, xs_bd]
      exact ⟨r, rfl, by rw [h2, h4]; show _ = pe_cl (if B.toInt = 0 then (0 : Int) else pe_div A.toInt B.toInt); rw [if_neg (fun z => c (z1.mpr z))]⟩
  · rw [if_neg (by decide), if_neg (by decide), if_neg (by decide), if_neg (by decide), if_pos (by decide)]
    by_cases c : B = 0
    · rw [if_pos (z0.mpr c)]
      exact ⟨0, rfl, by show _ = pe_cl (if B.toInt = 0 then (0 : Int) else _); rw [if_pos (z1.mp c)]; rfl⟩
    · rw [if_neg (fun z => c (z0.mp z))]
      obtain ⟨q, h3, h4⟩ := pm_floor N (B := B) ha c
      have h5 := pe_div_rng (b := B.toInt) ha
      have h6 : -1000002000002 ≤ B.toInt * pe_div A.toInt B.toInt ∧ B.toInt * pe_div A.toInt B.toInt ≤ 1000002000002 := by
        have h : (B.toInt * pe_div A.toInt B.toInt).natAbs ≤ 1000000 * 1000001 := by
          rw [Int.natAbs_mul]
          exact Nat.mul_le_mul (by omega) (by omega)
        omega
      obtain ⟨r, h1, h2⟩ := pm_within N (A - B * q)
      rw [h3, xs_bd, h1, xs_bd]
      refine ⟨r, rfl, ?_⟩
      have h7 : (B * q).toInt = B.toInt * pe_div A.toInt B.toInt := by rw [fb_mulL (by rw [h4]; omega) (by rw [h4]; omega), h4]
      rw [h2, fb_subL (by rw [h7]; omega) (by rw [h7]; omega), h7]
      show _ = pe_cl (if B.toInt = 0 then (0 : Int) else A.toInt - pe_div A.toInt B.toInt * B.toInt)
      rw [if_neg (fun z => c (z1.mpr z)), Int.mul_comm]
  · rw [if_neg (by decide), if_neg (by decide), if_neg (by decide), if_neg (by decide), if_neg (by decide), if_pos (by decide)]
    show ∃ r : Int64, _ ∧ r.toInt = pe_cl (if B.toInt < A.toInt then B.toInt else A.toInt)
    by_cases c : B ≤ A
    · have d := (fa_le64 _ _).mp c
      rw [if_pos ((lg_cmp_ge _ _).mpr c)]
      refine ⟨_, rfl, ?_⟩
      rw [pe_cl_id (by split <;> omega) (by split <;> omega)]
      split <;> omega
    · have d : ¬ _ := fun z => c ((fa_le64 _ _).mpr z)
      rw [if_neg (fun z => c ((lg_cmp_ge _ _).mp z)), if_neg (by omega), pe_cl_id (by omega) (by omega)]
      exact ⟨_, rfl, rfl⟩
  · rw [if_neg (by decide), if_neg (by decide), if_neg (by decide), if_neg (by decide), if_neg (by decide), if_neg (by decide), if_pos (by decide)]
    show ∃ r : Int64, _ ∧ r.toInt = pe_cl (if B.toInt < A.toInt then A.toInt else B.toInt)
    by_cases c : A ≤ B
    · have d := (fa_le64 _ _).mp c
      rw [if_pos ((lg_cmp_le _ _).mpr c), if_neg (by omega), pe_cl_id (by omega) (by omega)]
      exact ⟨_, rfl, rfl⟩
    · have d : ¬ _ := fun z => c ((fa_le64 _ _).mpr z)
      rw [if_neg (fun z => c ((lg_cmp_le _ _).mp z)), if_pos (by omega), pe_cl_id (by omega) (by omega)]
      exact ⟨_, rfl, rfl⟩
  · rw [if_neg (by decide), if_neg (by decide), if_neg (by decide), if_neg (by decide), if_neg (by decide), if_neg (by decide), if_neg (by decide), if_pos (by decide)]
    show ∃ r : Int64, _ ∧ r.toInt = pe_cl (if B.toInt ≤ A.toInt then (0 : Int) else 1)
    by_cases c : B ≤ A
    · rw [if_pos ((lg_cmp_ge A B).mpr c), if_pos ((fa_le64 B A).mp c)]; exact ⟨_, rfl, rfl⟩
    · rw [if_neg (fun z => c ((lg_cmp_ge A B).mp z)), if_neg (fun z => c ((fa_le64 B A).mpr z))]; exact ⟨_, rfl, rfl⟩
  · rw [if_neg (by decide), if_neg (by decide), if_neg (by decide), if_neg (by decide), if_neg (by decide), if_neg (by decide), if_neg (by decide), if_neg (by decide), if_pos (by decide)]
    show ∃ r : Int64, _ ∧ r.toInt = pe_cl (if A.toInt ≤ B.toInt then (0 : Int) else 1)
    by_cases c : A ≤ B
    · rw [if_pos ((lg_cmp_le A B).mpr c), if_pos ((fa_le64 A B).mp c)]; exact ⟨_, rfl, rfl⟩
    · rw [if_neg (fun z => c ((lg_cmp_le A B).mp z)), if_neg (fun z => c ((fa_le64 A B).mpr z))]; exact ⟨_, rfl, rfl⟩
  · rw [if_neg (by decide), if_neg (by decide), if_neg (by decide), if_neg (by decide), if_neg (by decide), if_neg (by decide), if_neg (by decide), if_neg (by decide), if_neg (by decide), if_pos (by decide)]
    show ∃ r : Int64, _ ∧ r.toInt = pe_cl (if A.toInt = B.toInt then (1 : Int) else 0)
    by_cases c : A = B
    · rw [if_pos ((lg_cmp_eq A B).mpr c), if_pos ((fa_eq64 A B).mp c)]; exact ⟨_, rfl, rfl⟩
    · rw [if_neg (fun z => c ((lg_cmp_eq A B).mp z)), if_neg (fun z => c ((fa_eq64 A B).mpr z))]; exact ⟨_, rfl, rfl⟩
  · rw [if_neg (by decide), if_neg (by decide), if_neg (by decide), if_neg (by decide), if_neg (by decide), if_neg (by decide), if_neg (by decide), if_neg (by decide), if_neg (by decide), if_neg (by decide), if_pos (by decide)]
    obtain ⟨qa, qb⟩ := hz (Or.inr rfl)
    rcases qa with rfl | rfl <;> rcases qb with rfl | rfl <;> exact ⟨_, rfl, by decide⟩
  · rw [if_neg (by decide), if_neg (by decide), if_neg (by decide), if_neg (by decide), if_neg (by decide), if_neg (by decide), if_neg (by decide), if_neg (by decide), if_neg (by decide), if_neg (by decide), if_neg (by decide)]
    obtain ⟨qa, qb⟩ := hz (Or.inl rfl)
    rcases qa with rfl | rfl <;> rcases qb with rfl | rfl <;> exact ⟨_, rfl, by decide⟩
