/-! questions: both answer alike, and their states go on holding the one pure state -/
theorem mOth_cg {v : Nat} {X X' Z : Nat → Nat → Int32} (h : mOth v X X') (e : ∀ j, j ≤ 8 → Z j = X' j) : mOth v X Z := by
  obtain ⟨h1, h2, h3, h4⟩ := h
  refine ⟨fun j i hj hi => ?_, fun i hi => ?_, fun i hi => ?_, fun i hi => ?_⟩
  · rw [e j (by omega)]; exact h1 j i hj hi
  · rw [e 5 (by omega)]; exact h2 i hi
  · rw [e 7 (by omega)]; exact h3 i hi
  · rw [e 8 (by omega)]; exact h4 i hi
section
variable (N : Nat) {H : PH} {m ro ta : Nat → Nat} {U : PU} {K : PK} {KR : Nat → Nat → Nat} {W : Nat → Nat → Nat → Nat} {sd : Nat} {T Im : PT} {rf : Nat → Int32} {f p : Int32} {C P Q V : Nat → Nat → Int32} {n : Nat → Nat} {b : Nat} {I : Nat → Int32} {J : Nat → Int64} {A : Nat → Nat → Int32} {B : Nat → Nat → Int64}
theorem e_later (hN : 5000 ≤ N) (hp : PS H m U K KR sd T Im) (hc : RC H m ro ta U K KR W sd T Im rf f p C P Q V n) (hm : RMb b H m ro ta U K KR W sd T Im rf f p I J A B) (p1 p2 : Int32) : ∃ (a : Int32) (c_r1 : Nat → Int32) (c_r2 : Nat → Int32) (c_r3 : Nat → Int32) (c_r4 : Nat → Int32) (c_r5 : Nat → Int32) (c_r6 : Nat → Int32) (m_r1 : Nat → Int32) (m_r2 : Nat → Int32) (m_r3 : Nat → Int32) (m_r4 : Nat → Int32) (m_r5 : Nat → Int32) (m_r6 : Nat → Int32) (m_r7 : Nat → Int32) (m_r8 : Nat → Int32) (m_r9 : Nat → Int32) (m_r10 : Nat → Int32) (m_r11 : Nat → Int64) (m_r12 : Nat → Int32), fX11_later N (C 10) (C 5) (C 22) (C 6) (C 23) (C 7) (C 24) (C 25) (C 20) (C 17) (C 21) (C 19) (C 15) (C 13) (C 18) (n 0) (n 2) (n 1) p1 p2 = some (a, c_r1, c_r2, c_r3, c_r4, c_r5, c_r6) ∧ fX12_later N I (A 45) (A 46) (A 47) (A 48) (A 49) (A 50) (A 52) (A 51) (A 53) (A 24) (A 58) (A 25) (B 57) (A 26) (A 27) (A 14) (A 21) (A 22) (A 18) (A 59) (A 20) p1 p2 = some (a, m_r1, m_r2, m_r3, m_r4, m_r5, m_r6, m_r7, m_r8, m_r9, m_r10, m_r11, m_r12) ∧ RC H m ro ta U K KR W sd T Im rf f p (va_up (va_up (va_up (va_up (va_up (va_up C 22 c_r1) 23 c_r2) 24 c_r3) 25 c_r4) 20 c_r5) 21 c_r6) P Q V n ∧ RMb b H m ro ta U K KR W sd T Im rf f p I J (va_up (va_up (va_up (va_up (va_up (va_up (va_up (va_up (va_up (va_up (va_up (A) 45 m_r1) 46 m_r2) 47 m_r3) 48 m_r4) 49 m_r5) 50 m_r6) 52 m_r7) 51 m_r8) 53 m_r9) 58 m_r10) 59 m_r12) (va_up (B) 57 m_r11) := by
  have hc0 := hc
  have hm0 := hm
  obtain ⟨hs, h5, hUo, hK, hKR, hsd, hT, hTl, hIm⟩ := hp
  obtain ⟨c1, c2, c3, c4, c5, c6, c7, c8, c9, c10, c11, c12, c13⟩ := hc
  obtain ⟨m1, m2, m3, m4, m5, m6, m7, m8, m9_, m10, m11, m12, m13, m14⟩ := hm
  obtain ⟨q_w, q_r, q_t, q_h, q_v, q_s, e1⟩ := c_later (nowI := C 5) (now_rowsF := C 6) (now_talksF := C 7) (homeI := C 10) (home_sharpsF := C 13) (home_placeMilesF := C 15) (home_goesF := C 17) (home_hearsF := C 18) (home_talkForF := C 19) (course_valuesF := C 20) (course_stackF := C 21) (walkI := C 22) (walk_rowsF := C 23) (walk_talksF := C 24) (dv_heardAheadF := C 25) N hN hs c1 c3 p1 p2
  obtain ⟨z_X, z_a, z_s, e2, e3⟩ := m_later (ask := A 58) (stk := B 57) (hf := A 59) N hN hs m1 m2 m3 p1 p2
  refine ⟨_, _, _, _, _, _, _, _, _, _, _, _, _, _, _, _, _, _, _, e1, e2, RC_w hc0 (fun j hj => ?_), RM_w hs hm0 (fun j hj => ?_) (mOth_cg e3 (fun j hj => ?_)) rfl rfl⟩
  · unfold cScr at hj
    rw [va_up_ne _ _ (by omega), va_up_ne _ _ (by omega), va_up_ne _ _ (by omega), va_up_ne _ _ (by omega), va_up_ne _ _ (by omega), va_up_ne _ _ (by omega)]
  · unfold mScr at hj
    rw [va_up_ne _ _ (by omega), va_up_ne _ _ (by omega), va_up_ne _ _ (by omega), va_up_ne _ _ (by omega), va_up_ne _ _ (by omega), va_up_ne _ _ (by omega), va_up_ne _ _ (by omega), va_up_ne _ _ (by omega), va_up_ne _ _ (by omega), va_up_ne _ _ (by omega), va_up_ne _ _ (by omega)]
  · have : j = 0 ∨ j = 1 ∨ j = 2 ∨ j = 3 ∨ j = 4 ∨ j = 5 ∨ j = 6 ∨ j = 7 ∨ j = 8 := by omega
    rcases this with rfl | rfl | rfl | rfl | rfl | rfl | rfl | rfl | rfl <;> rfl
theorem e_round (hN : 5000 ≤ N) (hp : PS H m U K KR sd T Im) (hc : RC H m ro ta U K KR W sd T Im rf f p C P Q V n) (hm : RMb b H m ro ta U K KR W sd T Im rf f p I J A B) (p1 : Int32) : ∃ (a : Int32) (c_r1 : Nat → Int32) (c_r2 : Nat → Int32) (c_r3 : Nat → Int32) (c_r4 : Nat → Int32) (c_r5 : Nat → Int32) (c_r6 : Nat → Int32) (m_r1 : Nat → Int32) (m_r2 : Nat → Int32) (m_r3 : Nat → Int32) (m_r4 : Nat → Int32) (m_r5 : Nat → Int32) (m_r6 : Nat → Int32) (m_r7 : Nat → Int32) (m_r8 : Nat → Int32) (m_r9 : Nat → Int32) (m_r10 : Nat → Int32) (m_r11 : Nat → Int64) (m_r12 : Nat → Int32), fX11_round N (C 10) (C 5) (C 22) (C 6) (C 23) (C 7) (C 24) (C 25) (C 20) (C 17) (C 21) (C 19) (C 15) (C 13) (C 18) (n 0) (n 2) (n 1) p1 = some (a, c_r1, c_r2, c_r3, c_r4, c_r5, c_r6) ∧ fX12_round N I (A 45) (A 46) (A 47) (A 48) (A 49) (A 50) (A 52) (A 51) (A 53) (A 24) (A 58) (A 25) (B 57) (A 26) (A 27) (A 14) (A 21) (A 22) (A 18) (A 59) (A 20) p1 = some (a, m_r1, m_r2, m_r3, m_r4, m_r5, m_r6, m_r7, m_r8, m_r9, m_r10, m_r11, m_r12) ∧ RC H m ro ta U K KR W sd T Im rf f p (va_up (va_up (va_up (va_up (va_up (va_up C 22 c_r1) 23 c_r2) 24 c_r3) 25 c_r4) 20 c_r5) 21 c_r6) P Q V n ∧ RMb b H m ro ta U K KR W sd T Im rf f p I J (va_up (va_up (va_up (va_up (va_up (va_up (va_up (va_up (va_up (va_up (va_up (A) 45 m_r1) 46 m_r2) 47 m_r3) 48 m_r4) 49 m_r5) 50 m_r6) 52 m_r7) 51 m_r8) 53 m_r9) 58 m_r10) 59 m_r12) (va_up (B) 57 m_r11) := by
  have hc0 := hc
  have hm0 := hm
  obtain ⟨hs, h5, hUo, hK, hKR, hsd, hT, hTl, hIm⟩ := hp
  obtain ⟨c1, c2, c3, c4, c5, c6, c7, c8, c9, c10, c11, c12, c13⟩ := hc
  obtain ⟨m1, m2, m3, m4, m5, m6, m7, m8, m9_, m10, m11, m12, m13, m14⟩ := hm
  obtain ⟨q_w, q_r, q_t, q_h, q_v, q_s, e1⟩ := c_round (nowI := C 5) (now_rowsF := C 6) (now_talksF := C 7) (homeI := C 10) (home_sharpsF := C 13) (home_placeMilesF := C 15) (home_goesF := C 17) (home_hearsF := C 18) (home_talkForF := C 19) (course_valuesF := C 20) (course_stackF := C 21) (walkI := C 22) (walk_rowsF := C 23) (walk_talksF := C 24) (dv_heardAheadF := C 25) N hN hs c1 c3 p1
  obtain ⟨z_X, z_a, z_s, e2, e3⟩ := m_round (ask := A 58) (stk := B 57) (hf := A 59) N hN hs m1 m2 m3 p1
  refine ⟨_, _, _, _, _, _, _, _, _, _, _, _, _, _, _, _, _, _, _, e1, e2, RC_w hc0 (fun j hj => ?_), RM_w hs hm0 (fun j hj => ?_) (mOth_cg e3 (fun j hj => ?_)) rfl rfl⟩
  · unfold cScr at hj
    rw [va_up_ne _ _ (by omega), va_up_ne _ _ (by omega), va_up_ne _ _ (by omega), va_up_ne _ _ (by omega), va_up_ne _ _ (by omega), va_up_ne _ _ (by omega)]
  · unfold mScr at hj
    rw [va_up_ne _ _ (by omega), va_up_ne _ _ (by omega), va_up_ne _ _ (by omega), va_up_ne _ _ (by omega), va_up_ne _ _ (by omega), va_up_ne _ _ (by omega), va_up_ne _ _ (by omega), va_up_ne _ _ (by omega), va_up_ne _ _ (by omega), va_up_ne _ _ (by omega), va_up_ne _ _ (by omega)]
  · have : j = 0 ∨ j = 1 ∨ j = 2 ∨ j = 3 ∨ j = 4 ∨ j = 5 ∨ j = 6 ∨ j = 7 ∨ j = 8 := by omega
    rcases this with rfl | rfl | rfl | rfl | rfl | rfl | rfl | rfl | rfl <;> rfl
theorem e_heard (hN : 5000 ≤ N) (hp : PS H m U K KR sd T Im) (hc : RC H m ro ta U K KR W sd T Im rf f p C P Q V n) (hm : RMb b H m ro ta U K KR W sd T Im rf f p I J A B) (p1 : Int32) : ∃ (a : Int32) (c_r1 : Nat → Int32) (c_r2 : Nat → Int32) (c_r3 : Nat → Int32) (c_r4 : Nat → Int32) (c_r5 : Nat → Int32) (c_r6 : Nat → Int32) (m_r1 : Nat → Int32) (m_r2 : Nat → Int32) (m_r3 : Nat → Int32) (m_r4 : Nat → Int32) (m_r5 : Nat → Int32) (m_r6 : Nat → Int32) (m_r7 : Nat → Int32) (m_r8 : Nat → Int32) (m_r9 : Nat → Int32) (m_r10 : Nat → Int32) (m_r11 : Nat → Int64) (m_r12 : Nat → Int32), fX11_heard N (C 10) (C 5) (C 22) (C 6) (C 23) (C 7) (C 24) (C 25) (C 20) (C 17) (C 21) (C 19) (C 15) (C 13) (C 18) (n 0) (n 2) (n 1) p1 = some (a, c_r1, c_r2, c_r3, c_r4, c_r5, c_r6) ∧ fX12_heard N I (A 45) (A 46) (A 47) (A 48) (A 49) (A 50) (A 52) (A 51) (A 53) (A 24) (A 58) (A 25) (B 57) (A 26) (A 27) (A 14) (A 21) (A 22) (A 18) (A 59) (A 20) p1 = some (a, m_r1, m_r2, m_r3, m_r4, m_r5, m_r6, m_r7, m_r8, m_r9, m_r10, m_r11, m_r12) ∧ RC H m ro ta U K KR W sd T Im rf f p (va_up (va_up (va_up (va_up (va_up (va_up C 22 c_r1) 23 c_r2) 24 c_r3) 25 c_r4) 20 c_r5) 21 c_r6) P Q V n ∧ RMb b H m ro ta U K KR W sd T Im rf f p I J (va_up (va_up (va_up (va_up (va_up (va_up (va_up (va_up (va_up (va_up (va_up (A) 45 m_r1) 46 m_r2) 47 m_r3) 48 m_r4) 49 m_r5) 50 m_r6) 52 m_r7) 51 m_r8) 53 m_r9) 58 m_r10) 59 m_r12) (va_up (B) 57 m_r11) := by
  have hc0 := hc
  have hm0 := hm
  obtain ⟨hs, h5, hUo, hK, hKR, hsd, hT, hTl, hIm⟩ := hp
  obtain ⟨c1, c2, c3, c4, c5, c6, c7, c8, c9, c10, c11, c12, c13⟩ := hc
  obtain ⟨m1, m2, m3, m4, m5, m6, m7, m8, m9_, m10, m11, m12, m13, m14⟩ := hm
  obtain ⟨q_w, q_r, q_t, q_h, q_v, q_s, e1⟩ := c_heard (nowI := C 5) (now_rowsF := C 6) (now_talksF := C 7) (homeI := C 10) (home_sharpsF := C 13) (home_placeMilesF := C 15) (home_goesF := C 17) (home_hearsF := C 18) (home_talkForF := C 19) (course_valuesF := C 20) (course_stackF := C 21) (walkI := C 22) (walk_rowsF := C 23) (walk_talksF := C 24) (dv_heardAheadF := C 25) N hN hs c1 c3 p1
  obtain ⟨z_X, z_a, z_s, e2, e3⟩ := m_heard (ask := A 58) (stk := B 57) (hf := A 59) N hN hs m1 m2 m3 p1
  refine ⟨_, _, _, _, _, _, _, _, _, _, _, _, _, _, _, _, _, _, _, e1, e2, RC_w hc0 (fun j hj => ?_), RM_w hs hm0 (fun j hj => ?_) (mOth_cg e3 (fun j hj => ?_)) rfl rfl⟩
  · unfold cScr at hj
    rw [va_up_ne _ _ (by omega), va_up_ne _ _ (by omega), va_up_ne _ _ (by omega), va_up_ne _ _ (by omega), va_up_ne _ _ (by omega), va_up_ne _ _ (by omega)]
  · unfold mScr at hj
    rw [va_up_ne _ _ (by omega), va_up_ne _ _ (by omega), va_up_ne _ _ (by omega), va_up_ne _ _ (by omega), va_up_ne _ _ (by omega), va_up_ne _ _ (by omega), va_up_ne _ _ (by omega), va_up_ne _ _ (by omega), va_up_ne _ _ (by omega), va_up_ne _ _ (by omega), va_up_ne _ _ (by omega)]
  · have : j = 0 ∨ j = 1 ∨ j = 2 ∨ j = 3 ∨ j = 4 ∨ j = 5 ∨ j = 6 ∨ j = 7 ∨ j = 8 := by omega
    rcases this with rfl | rfl | rfl | rfl | rfl | rfl | rfl | rfl | rfl <;> rfl
theorem e_often (hN : 5000 ≤ N) (hp : PS H m U K KR sd T Im) (hc : RC H m ro ta U K KR W sd T Im rf f p C P Q V n) (hm : RMb b H m ro ta U K KR W sd T Im rf f p I J A B) (p1 p2 : Int32) : ∃ (a : Int32) (c_r1 : Nat → Int32) (c_r2 : Nat → Int32) (c_r3 : Nat → Int32) (c_r4 : Nat → Int32) (c_r5 : Nat → Int32) (c_r6 : Nat → Int32) (m_r1 : Nat → Int32) (m_r2 : Nat → Int32) (m_r3 : Nat → Int32) (m_r4 : Nat → Int32) (m_r5 : Nat → Int32) (m_r6 : Nat → Int32) (m_r7 : Nat → Int32) (m_r8 : Nat → Int32) (m_r9 : Nat → Int32) (m_r10 : Nat → Int32) (m_r11 : Nat → Int64) (m_r12 : Nat → Int32), fX11_often N (C 10) (C 5) (C 22) (C 6) (C 23) (C 7) (C 24) (C 25) (C 20) (C 17) (C 21) (C 19) (C 15) (C 13) (C 18) (n 0) (n 2) (n 1) p1 p2 = some (a, c_r1, c_r2, c_r3, c_r4, c_r5, c_r6) ∧ fX12_often N I (A 18) (A 45) (A 46) (A 47) (A 48) (A 49) (A 50) (A 52) (A 51) (A 53) (A 24) (A 58) (A 25) (B 57) (A 26) (A 27) (A 14) (A 21) (A 22) (A 59) (A 20) p1 p2 = some (a, m_r1, m_r2, m_r3, m_r4, m_r5, m_r6, m_r7, m_r8, m_r9, m_r10, m_r11, m_r12) ∧ RC H m ro ta U K KR W sd T Im rf f p (va_up (va_up (va_up (va_up (va_up (va_up C 22 c_r1) 23 c_r2) 24 c_r3) 25 c_r4) 20 c_r5) 21 c_r6) P Q V n ∧ RMb b H m ro ta U K KR W sd T Im rf f p I J (va_up (va_up (va_up (va_up (va_up (va_up (va_up (va_up (va_up (va_up (va_up (A) 45 m_r1) 46 m_r2) 47 m_r3) 48 m_r4) 49 m_r5) 50 m_r6) 52 m_r7) 51 m_r8) 53 m_r9) 58 m_r10) 59 m_r12) (va_up (B) 57 m_r11) := by
  have hc0 := hc
  have hm0 := hm
  obtain ⟨hs, h5, hUo, hK, hKR, hsd, hT, hTl, hIm⟩ := hp
  obtain ⟨c1, c2, c3, c4, c5, c6, c7, c8, c9, c10, c11, c12, c13⟩ := hc
  obtain ⟨m1, m2, m3, m4, m5, m6, m7, m8, m9_, m10, m11, m12, m13, m14⟩ := hm
  obtain ⟨q_w, q_r, q_t, q_h, q_v, q_s, e1⟩ := c_often (nowI := C 5) (now_rowsF := C 6) (now_talksF := C 7) (homeI := C 10) (home_sharpsF := C 13) (home_placeMilesF := C 15) (home_goesF := C 17) (home_hearsF := C 18) (home_talkForF := C 19) (course_valuesF := C 20) (course_stackF := C 21) (walkI := C 22) (walk_rowsF := C 23) (walk_talksF := C 24) (dv_heardAheadF := C 25) N hN hs c1 c3 p1 p2
  obtain ⟨z_X, z_a, z_s, e2, e3⟩ := m_often (ask := A 58) (stk := B 57) (hf := A 59) N hN hs m1 m2 m3 p1 p2
  refine ⟨_, _, _, _, _, _, _, _, _, _, _, _, _, _, _, _, _, _, _, e1, e2, RC_w hc0 (fun j hj => ?_), RM_w hs hm0 (fun j hj => ?_) (mOth_cg e3 (fun j hj => ?_)) rfl rfl⟩
  · unfold cScr at hj
    rw [va_up_ne _ _ (by omega), va_up_ne _ _ (by omega), va_up_ne _ _ (by omega), va_up_ne _ _ (by omega), va_up_ne _ _ (by omega), va_up_ne _ _ (by omega)]
  · unfold mScr at hj
    rw [va_up_ne _ _ (by omega), va_up_ne _ _ (by omega), va_up_ne _ _ (by omega), va_up_ne _ _ (by omega), va_up_ne _ _ (by omega), va_up_ne _ _ (by omega), va_up_ne _ _ (by omega), va_up_ne _ _ (by omega), va_up_ne _ _ (by omega), va_up_ne _ _ (by omega), va_up_ne _ _ (by omega)]
  · have : j = 0 ∨ j = 1 ∨ j = 2 ∨ j = 3 ∨ j = 4 ∨ j = 5 ∨ j = 6 ∨ j = 7 ∨ j = 8 := by omega
    rcases this with rfl | rfl | rfl | rfl | rfl | rfl | rfl | rfl | rfl <;> rfl
theorem e_quiet (hN : 5000 ≤ N) (hp : PS H m U K KR sd T Im) (hc : RC H m ro ta U K KR W sd T Im rf f p C P Q V n) (hm : RMb b H m ro ta U K KR W sd T Im rf f p I J A B) (p1 p2 : Int32) : ∃ (a : Int32) (c_r1 : Nat → Int32) (c_r2 : Nat → Int32) (c_r3 : Nat → Int32) (c_r4 : Nat → Int32) (c_r5 : Nat → Int32) (c_r6 : Nat → Int32) (m_r1 : Nat → Int32) (m_r2 : Nat → Int32) (m_r3 : Nat → Int32) (m_r4 : Nat → Int32) (m_r5 : Nat → Int32) (m_r6 : Nat → Int32) (m_r7 : Nat → Int32) (m_r8 : Nat → Int32) (m_r9 : Nat → Int32) (m_r10 : Nat → Int32) (m_r11 : Nat → Int64) (m_r12 : Nat → Int32), fX11_quiet N (C 10) (C 5) (C 22) (C 6) (C 23) (C 7) (C 24) (C 25) (C 20) (C 17) (C 21) (C 19) (C 15) (C 13) (C 18) (n 0) (n 2) (n 1) p1 p2 = some (a, c_r1, c_r2, c_r3, c_r4, c_r5, c_r6) ∧ fX12_quiet N I (A 18) (A 45) (A 46) (A 47) (A 48) (A 49) (A 50) (A 52) (A 51) (A 53) (A 24) (A 58) (A 25) (B 57) (A 26) (A 27) (A 14) (A 21) (A 22) (A 59) (A 20) p1 p2 = some (a, m_r1, m_r2, m_r3, m_r4, m_r5, m_r6, m_r7, m_r8, m_r9, m_r10, m_r11, m_r12) ∧ RC H m ro ta U K KR W sd T Im rf f p (va_up (va_up (va_up (va_up (va_up (va_up C 22 c_r1) 23 c_r2) 24 c_r3) 25 c_r4) 20 c_r5) 21 c_r6) P Q V n ∧ RMb b H m ro ta U K KR W sd T Im rf f p I J (va_up (va_up (va_up (va_up (va_up (va_up (va_up (va_up (va_up (va_up (va_up (A) 45 m_r1) 46 m_r2) 47 m_r3) 48 m_r4) 49 m_r5) 50 m_r6) 52 m_r7) 51 m_r8) 53 m_r9) 58 m_r10) 59 m_r12) (va_up (B) 57 m_r11) := by
  have hc0 := hc
  have hm0 := hm
  obtain ⟨hs, h5, hUo, hK, hKR, hsd, hT, hTl, hIm⟩ := hp
  obtain ⟨c1, c2, c3, c4, c5, c6, c7, c8, c9, c10, c11, c12, c13⟩ := hc
  obtain ⟨m1, m2, m3, m4, m5, m6, m7, m8, m9_, m10, m11, m12, m13, m14⟩ := hm
  obtain ⟨q_w, q_r, q_t, q_h, q_v, q_s, e1⟩ := c_quiet (nowI := C 5) (now_rowsF := C 6) (now_talksF := C 7) (homeI := C 10) (home_sharpsF := C 13) (home_placeMilesF := C 15) (home_goesF := C 17) (home_hearsF := C 18) (home_talkForF := C 19) (course_valuesF := C 20) (course_stackF := C 21) (walkI := C 22) (walk_rowsF := C 23) (walk_talksF := C 24) (dv_heardAheadF := C 25) N hN hs c1 c3 p1 p2
  obtain ⟨z_X, z_a, z_s, e2, e3⟩ := m_quiet (ask := A 58) (stk := B 57) (hf := A 59) N hN hs m1 m2 m3 p1 p2
  refine ⟨_, _, _, _, _, _, _, _, _, _, _, _, _, _, _, _, _, _, _, e1, e2, RC_w hc0 (fun j hj => ?_), RM_w hs hm0 (fun j hj => ?_) (mOth_cg e3 (fun j hj => ?_)) rfl rfl⟩
  · unfold cScr at hj
    rw [va_up_ne _ _ (by omega), va_up_ne _ _ (by omega), va_up_ne _ _ (by omega), va_up_ne _ _ (by omega), va_up_ne _ _ (by omega), va_up_ne _ _ (by omega)]
  · unfold mScr at hj
    rw [va_up_ne _ _ (by omega), va_up_ne _ _ (by omega), va_up_ne _ _ (by omega), va_up_ne _ _ (by omega), va_up_ne _ _ (by omega), va_up_ne _ _ (by omega), va_up_ne _ _ (by omega), va_up_ne _ _ (by omega), va_up_ne _ _ (by omega), va_up_ne _ _ (by omega), va_up_ne _ _ (by omega)]
  · have : j = 0 ∨ j = 1 ∨ j = 2 ∨ j = 3 ∨ j = 4 ∨ j = 5 ∨ j = 6 ∨ j = 7 ∨ j = 8 := by omega
    rcases this with rfl | rfl | rfl | rfl | rfl | rfl | rfl | rfl | rfl <;> rfl
theorem e_seats (hN : 5000 ≤ N) (hp : PS H m U K KR sd T Im) (hc : RC H m ro ta U K KR W sd T Im rf f p C P Q V n) (hm : RMb b H m ro ta U K KR W sd T Im rf f p I J A B) (p1 p2 : Int32) : ∃ (a : Int32) (c_r1 : Nat → Int32) (c_r2 : Nat → Int32) (c_r3 : Nat → Int32) (c_r4 : Nat → Int32) (c_r5 : Nat → Int32) (c_r6 : Nat → Int32) (c_r7 : Nat → Int32) (c_r8 : Nat → Int32) (m_r1 : Nat → Int32) (m_r2 : Nat → Int32) (m_r3 : Nat → Int32) (m_r4 : Nat → Int32) (m_r5 : Nat → Int32) (m_r6 : Nat → Int32) (m_r7 : Nat → Int32) (m_r8 : Nat → Int32) (m_r9 : Nat → Int32) (m_r10 : Nat → Int32) (m_r11 : Nat → Int32) (m_r12 : Nat → Int64) (m_r13 : Nat → Int32), fX11_seats N (C 10) (C 5) (C 27) (C 22) (C 6) (C 23) (C 7) (C 24) (C 28) (C 29) (C 20) (C 17) (C 21) (C 19) (C 15) (C 13) (C 18) (n 0) (n 2) (n 1) p1 p2 = some (a, c_r1, c_r2, c_r3, c_r4, c_r5, c_r6, c_r7, c_r8) ∧ fX12_seats N I (A 45) (A 18) (A 46) (A 47) (A 48) (A 49) (A 50) (A 52) (A 51) (A 53) (A 59) (A 24) (A 58) (A 25) (B 57) (A 26) (A 27) (A 14) (A 21) (A 22) (A 20) (A 60) p1 p2 = some (a, m_r1, m_r2, m_r3, m_r4, m_r5, m_r6, m_r7, m_r8, m_r9, m_r10, m_r11, m_r12, m_r13) ∧ RC H m ro ta U K KR W sd T Im rf f p (va_up (va_up (va_up (va_up (va_up (va_up (va_up (va_up C 27 c_r1) 22 c_r2) 23 c_r3) 24 c_r4) 28 c_r5) 29 c_r6) 20 c_r7) 21 c_r8) P Q V n ∧ RMb b H m ro ta U K KR W sd T Im rf f p I J (va_up (va_up (va_up (va_up (va_up (va_up (va_up (va_up (va_up (va_up (va_up (va_up (A) 45 m_r1) 46 m_r2) 47 m_r3) 48 m_r4) 49 m_r5) 50 m_r6) 52 m_r7) 51 m_r8) 53 m_r9) 59 m_r10) 58 m_r11) 60 m_r13) (va_up (B) 57 m_r12) := by
  have hc0 := hc
  have hm0 := hm
  obtain ⟨hs, h5, hUo, hK, hKR, hsd, hT, hTl, hIm⟩ := hp
  obtain ⟨c1, c2, c3, c4, c5, c6, c7, c8, c9, c10, c11, c12, c13⟩ := hc
  obtain ⟨m1, m2, m3, m4, m5, m6, m7, m8, m9_, m10, m11, m12, m13, m14⟩ := hm
  obtain ⟨q_g, q_w, q_r, q_t, q_b, q_q, q_v, q_s, e1⟩ := c_seats (nowI := C 5) (now_rowsF := C 6) (now_talksF := C 7) (homeI := C 10) (home_sharpsF := C 13) (home_placeMilesF := C 15) (home_goesF := C 17) (home_hearsF := C 18) (home_talkForF := C 19) (course_valuesF := C 20) (course_stackF := C 21) (walkI := C 22) (walk_rowsF := C 23) (walk_talksF := C 24) (seating_gainsF := C 27) (seating_bestF := C 28) (seating_rowsF := C 29) N hN hs c1 c3 p1 p2
  obtain ⟨z_X, z_hf, z_a, z_s, z_mf, e2, e3⟩ := m_seats (ask := A 58) (stk := B 57) (hf := A 59) (mm_mostFromF := A 60) N hN hs m1 m2 m3 p1 p2
  refine ⟨_, _, _, _, _, _, _, _, _, _, _, _, _, _, _, _, _, _, _, _, _, _, e1, e2, RC_w hc0 (fun j hj => ?_), RM_w hs hm0 (fun j hj => ?_) (mOth_cg e3 (fun j hj => ?_)) rfl rfl⟩
  · unfold cScr at hj
    rw [va_up_ne _ _ (by omega), va_up_ne _ _ (by omega), va_up_ne _ _ (by omega), va_up_ne _ _ (by omega), va_up_ne _ _ (by omega), va_up_ne _ _ (by omega), va_up_ne _ _ (by omega), va_up_ne _ _ (by omega)]
  · unfold mScr at hj
    rw [va_up_ne _ _ (by omega), va_up_ne _ _ (by omega), va_up_ne _ _ (by omega), va_up_ne _ _ (by omega), va_up_ne _ _ (by omega), va_up_ne _ _ (by omega), va_up_ne _ _ (by omega), va_up_ne _ _ (by omega), va_up_ne _ _ (by omega), va_up_ne _ _ (by omega), va_up_ne _ _ (by omega), va_up_ne _ _ (by omega)]
  · have : j = 0 ∨ j = 1 ∨ j = 2 ∨ j = 3 ∨ j = 4 ∨ j = 5 ∨ j = 6 ∨ j = 7 ∨ j = 8 := by omega
    rcases this with rfl | rfl | rfl | rfl | rfl | rfl | rfl | rfl | rfl <;> rfl
theorem e_watch (hN : 5000 ≤ N) (hp : PS H m U K KR sd T Im) (hc : RC H m ro ta U K KR W sd T Im rf f p C P Q V n) (hm : RMb b H m ro ta U K KR W sd T Im rf f p I J A B) (p1 : Int32) : ∃ (a : Int32) (c_r1 : Nat → Int32) (c_r2 : Nat → Int32) (c_r3 : Nat → Int32) (c_r4 : Nat → Int32) (c_r5 : Nat → Int32) (c_r6 : Nat → Int32) (m_r1 : Nat → Int32) (m_r2 : Nat → Int32) (m_r3 : Nat → Int32) (m_r4 : Nat → Int32) (m_r5 : Nat → Int32) (m_r6 : Nat → Int32) (m_r7 : Nat → Int32) (m_r8 : Nat → Int32) (m_r9 : Nat → Int32) (m_r10 : Nat → Int32) (m_r11 : Nat → Int64) (m_r12 : Nat → Int32) (m_r13 : Nat → Int32), fX11_watch N (C 10) (C 5) (C 22) (C 6) (C 23) (C 7) (C 24) (C 25) (C 20) (C 17) (C 21) (C 19) (C 15) (C 13) (C 18) (n 0) (n 2) (n 1) p1 = some (a, c_r1, c_r2, c_r3, c_r4, c_r5, c_r6) ∧ fX12_watch N I (A 45) (A 46) (A 47) (A 48) (A 49) (A 50) (A 52) (A 51) (A 53) (A 24) (A 58) (A 25) (B 57) (A 26) (A 27) (A 14) (A 21) (A 22) (A 18) (A 59) (A 20) (A 61) p1 = some (a, m_r1, m_r2, m_r3, m_r4, m_r5, m_r6, m_r7, m_r8, m_r9, m_r10, m_r11, m_r12, m_r13) ∧ RC H m ro ta U K KR W sd T Im rf f p (va_up (va_up (va_up (va_up (va_up (va_up C 22 c_r1) 23 c_r2) 24 c_r3) 25 c_r4) 20 c_r5) 21 c_r6) P Q V n ∧ RMb b H m ro ta U K KR W sd T Im rf f p I J (va_up (va_up (va_up (va_up (va_up (va_up (va_up (va_up (va_up (va_up (va_up (va_up (A) 45 m_r1) 46 m_r2) 47 m_r3) 48 m_r4) 49 m_r5) 50 m_r6) 52 m_r7) 51 m_r8) 53 m_r9) 58 m_r10) 59 m_r12) 61 m_r13) (va_up (B) 57 m_r11) := by
  have hc0 := hc
  have hm0 := hm
  obtain ⟨hs, h5, hUo, hK, hKR, hsd, hT, hTl, hIm⟩ := hp
  obtain ⟨c1, c2, c3, c4, c5, c6, c7, c8, c9, c10, c11, c12, c13⟩ := hc
  obtain ⟨m1, m2, m3, m4, m5, m6, m7, m8, m9_, m10, m11, m12, m13, m14⟩ := hm
  obtain ⟨q_w, q_r, q_t, q_h, q_v, q_s, e1⟩ := c_watch (nowI := C 5) (now_rowsF := C 6) (now_talksF := C 7) (homeI := C 10) (home_sharpsF := C 13) (home_placeMilesF := C 15) (home_goesF := C 17) (home_hearsF := C 18) (home_talkForF := C 19) (course_valuesF := C 20) (course_stackF := C 21) (walkI := C 22) (walk_rowsF := C 23) (walk_talksF := C 24) (dv_heardAheadF := C 25) N hN hs c1 c3 p1
  obtain ⟨z_X, z_a, z_s, z_hi, e2, e3⟩ := m_watch (ask := A 58) (stk := B 57) (hf := A 59) (mm_heardInF := A 61) N hN hs m1 m2 m3 p1
  refine ⟨_, _, _, _, _, _, _, _, _, _, _, _, _, _, _, _, _, _, _, _, e1, e2, RC_w hc0 (fun j hj => ?_), RM_w hs hm0 (fun j hj => ?_) (mOth_cg e3 (fun j hj => ?_)) rfl rfl⟩
  · unfold cScr at hj
    rw [va_up_ne _ _ (by omega), va_up_ne _ _ (by omega), va_up_ne _ _ (by omega), va_up_ne _ _ (by omega), va_up_ne _ _ (by omega), va_up_ne _ _ (by omega)]
  · unfold mScr at hj
    rw [va_up_ne _ _ (by omega), va_up_ne _ _ (by omega), va_up_ne _ _ (by omega), va_up_ne _ _ (by omega), va_up_ne _ _ (by omega), va_up_ne _ _ (by omega), va_up_ne _ _ (by omega), va_up_ne _ _ (by omega), va_up_ne _ _ (by omega), va_up_ne _ _ (by omega), va_up_ne _ _ (by omega), va_up_ne _ _ (by omega)]
  · have : j = 0 ∨ j = 1 ∨ j = 2 ∨ j = 3 ∨ j = 4 ∨ j = 5 ∨ j = 6 ∨ j = 7 ∨ j = 8 := by omega
    rcases this with rfl | rfl | rfl | rfl | rfl | rfl | rfl | rfl | rfl <;> rfl
theorem e_silence (hN : 5000 ≤ N) (hp : PS H m U K KR sd T Im) (hc : RC H m ro ta U K KR W sd T Im rf f p C P Q V n) (hm : RMb b H m ro ta U K KR W sd T Im rf f p I J A B) (p1 : Int32) : ∃ (a : Int32) (c_r1 : Nat → Int32) (c_r2 : Nat → Int32) (c_r3 : Nat → Int32) (c_r4 : Nat → Int32) (c_r5 : Nat → Int32) (c_r6 : Nat → Int32) (m_r1 : Nat → Int32) (m_r2 : Nat → Int32) (m_r3 : Nat → Int32) (m_r4 : Nat → Int32) (m_r5 : Nat → Int32) (m_r6 : Nat → Int32) (m_r7 : Nat → Int32) (m_r8 : Nat → Int32) (m_r9 : Nat → Int32) (m_r10 : Nat → Int32) (m_r11 : Nat → Int64) (m_r12 : Nat → Int32), fX11_silence N (C 10) (C 5) (C 22) (C 6) (C 23) (C 7) (C 24) (C 25) (C 20) (C 17) (C 21) (C 19) (C 15) (C 13) (C 18) (n 0) (n 2) (n 1) p1 = some (a, c_r1, c_r2, c_r3, c_r4, c_r5, c_r6) ∧ fX12_silence N I (A 45) (A 21) (A 46) (A 47) (A 48) (A 49) (A 50) (A 52) (A 51) (A 53) (A 24) (A 58) (A 25) (B 57) (A 26) (A 27) (A 14) (A 22) (A 18) (A 59) (A 20) p1 = some (a, m_r1, m_r2, m_r3, m_r4, m_r5, m_r6, m_r7, m_r8, m_r9, m_r10, m_r11, m_r12) ∧ RC H m ro ta U K KR W sd T Im rf f p (va_up (va_up (va_up (va_up (va_up (va_up C 22 c_r1) 23 c_r2) 24 c_r3) 25 c_r4) 20 c_r5) 21 c_r6) P Q V n ∧ RMb b H m ro ta U K KR W sd T Im rf f p I J (va_up (va_up (va_up (va_up (va_up (va_up (va_up (va_up (va_up (va_up (va_up (A) 45 m_r1) 46 m_r2) 47 m_r3) 48 m_r4) 49 m_r5) 50 m_r6) 52 m_r7) 51 m_r8) 53 m_r9) 58 m_r10) 59 m_r12) (va_up (B) 57 m_r11) := by
  have hc0 := hc
  have hm0 := hm
  obtain ⟨hs, h5, hUo, hK, hKR, hsd, hT, hTl, hIm⟩ := hp
  obtain ⟨c1, c2, c3, c4, c5, c6, c7, c8, c9, c10, c11, c12, c13⟩ := hc
  obtain ⟨m1, m2, m3, m4, m5, m6, m7, m8, m9_, m10, m11, m12, m13, m14⟩ := hm
  obtain ⟨q_w, q_r, q_t, q_h, q_v, q_s, e1⟩ := c_silence (nowI := C 5) (now_rowsF := C 6) (now_talksF := C 7) (homeI := C 10) (home_sharpsF := C 13) (home_placeMilesF := C 15) (home_goesF := C 17) (home_hearsF := C 18) (home_talkForF := C 19) (course_valuesF := C 20) (course_stackF := C 21) (walkI := C 22) (walk_rowsF := C 23) (walk_talksF := C 24) (dv_heardAheadF := C 25) N hN hs c1 c3 p1
  obtain ⟨z_X, z_a, z_s, e2, e3⟩ := m_silence (ask := A 58) (stk := B 57) (hf := A 59) N hN hs m1 m2 m3 p1
  refine ⟨_, _, _, _, _, _, _, _, _, _, _, _, _, _, _, _, _, _, _, e1, e2, RC_w hc0 (fun j hj => ?_), RM_w hs hm0 (fun j hj => ?_) (mOth_cg e3 (fun j hj => ?_)) rfl rfl⟩
  · unfold cScr at hj
    rw [va_up_ne _ _ (by omega), va_up_ne _ _ (by omega), va_up_ne _ _ (by omega), va_up_ne _ _ (by omega), va_up_ne _ _ (by omega), va_up_ne _ _ (by omega)]
  · unfold mScr at hj
    rw [va_up_ne _ _ (by omega), va_up_ne _ _ (by omega), va_up_ne _ _ (by omega), va_up_ne _ _ (by omega), va_up_ne _ _ (by omega), va_up_ne _ _ (by omega), va_up_ne _ _ (by omega), va_up_ne _ _ (by omega), va_up_ne _ _ (by omega), va_up_ne _ _ (by omega), va_up_ne _ _ (by omega)]
  · have : j = 0 ∨ j = 1 ∨ j = 2 ∨ j = 3 ∨ j = 4 ∨ j = 5 ∨ j = 6 ∨ j = 7 ∨ j = 8 := by omega
    rcases this with rfl | rfl | rfl | rfl | rfl | rfl | rfl | rfl | rfl <;> rfl
theorem e_odds (hN : 5000 ≤ N) (hp : PS H m U K KR sd T Im) (hc : RC H m ro ta U K KR W sd T Im rf f p C P Q V n) (hm : RMb b H m ro ta U K KR W sd T Im rf f p I J A B) (p1 : Int32) : ∃ (a : Int32) (c_r1 : Nat → Int32) (c_r2 : Nat → Int32) (c_r3 : Nat → Int32) (c_r4 : Nat → Int32) (c_r5 : Nat → Int32) (m_r1 : Nat → Int32) (m_r2 : Nat → Int32) (m_r3 : Nat → Int32) (m_r4 : Nat → Int32) (m_r5 : Nat → Int32) (m_r6 : Nat → Int32) (m_r7 : Nat → Int32) (m_r8 : Nat → Int32) (m_r9 : Nat → Int32) (m_r10 : Nat → Int32) (m_r11 : Nat → Int64) (m_r12 : Nat → Int32), fX11_odds N (C 10) (C 5) (C 22) (C 6) (C 23) (C 7) (C 24) (C 20) (C 17) (C 21) (C 19) (C 15) (C 13) (C 18) (n 0) (n 2) (n 1) p1 = some (a, c_r1, c_r2, c_r3, c_r4, c_r5) ∧ fX12_odds N I (A 18) (A 45) (A 46) (A 47) (A 48) (A 49) (A 50) (A 52) (A 51) (A 53) (A 24) (A 58) (A 25) (B 57) (A 26) (A 27) (A 14) (A 21) (A 22) (A 59) (A 20) (A 17) p1 = some (a, m_r1, m_r2, m_r3, m_r4, m_r5, m_r6, m_r7, m_r8, m_r9, m_r10, m_r11, m_r12) ∧ RC H m ro ta U K KR W sd T Im rf f p (va_up (va_up (va_up (va_up (va_up C 22 c_r1) 23 c_r2) 24 c_r3) 20 c_r4) 21 c_r5) P Q V n ∧ RMb b H m ro ta U K KR W sd T Im rf f p I J (va_up (va_up (va_up (va_up (va_up (va_up (va_up (va_up (va_up (va_up (va_up (A) 45 m_r1) 46 m_r2) 47 m_r3) 48 m_r4) 49 m_r5) 50 m_r6) 52 m_r7) 51 m_r8) 53 m_r9) 58 m_r10) 59 m_r12) (va_up (B) 57 m_r11) := by
  have hc0 := hc
  have hm0 := hm
  obtain ⟨hs, h5, hUo, hK, hKR, hsd, hT, hTl, hIm⟩ := hp
  obtain ⟨c1, c2, c3, c4, c5, c6, c7, c8, c9, c10, c11, c12, c13⟩ := hc
  obtain ⟨m1, m2, m3, m4, m5, m6, m7, m8, m9_, m10, m11, m12, m13, m14⟩ := hm
  obtain ⟨q_w, q_r, q_t, q_v, q_s, e1⟩ := c_odds (nowI := C 5) (now_rowsF := C 6) (now_talksF := C 7) (homeI := C 10) (home_sharpsF := C 13) (home_placeMilesF := C 15) (home_goesF := C 17) (home_hearsF := C 18) (home_talkForF := C 19) (course_valuesF := C 20) (course_stackF := C 21) (walkI := C 22) (walk_rowsF := C 23) (walk_talksF := C 24) N hN hs c1 c2 c3 p1
  obtain ⟨z_X, z_a, z_s, e2, e3⟩ := m_odds (ask := A 58) (stk := B 57) (hf := A 59) (mm_coughToldF := A 17) N hN hs m1 m2 m3 m13 p1
  refine ⟨_, _, _, _, _, _, _, _, _, _, _, _, _, _, _, _, _, _, e1, e2, RC_w hc0 (fun j hj => ?_), RM_w hs hm0 (fun j hj => ?_) (mOth_cg e3 (fun j hj => ?_)) rfl rfl⟩
  · unfold cScr at hj
    rw [va_up_ne _ _ (by omega), va_up_ne _ _ (by omega), va_up_ne _ _ (by omega), va_up_ne _ _ (by omega), va_up_ne _ _ (by omega)]
  · unfold mScr at hj
    rw [va_up_ne _ _ (by omega), va_up_ne _ _ (by omega), va_up_ne _ _ (by omega), va_up_ne _ _ (by omega), va_up_ne _ _ (by omega), va_up_ne _ _ (by omega), va_up_ne _ _ (by omega), va_up_ne _ _ (by omega), va_up_ne _ _ (by omega), va_up_ne _ _ (by omega), va_up_ne _ _ (by omega)]
  · have : j = 0 ∨ j = 1 ∨ j = 2 ∨ j = 3 ∨ j = 4 ∨ j = 5 ∨ j = 6 ∨ j = 7 ∨ j = 8 := by omega
    rcases this with rfl | rfl | rfl | rfl | rfl | rfl | rfl | rfl | rfl <;> rfl
theorem e_miles (hN : 5000 ≤ N) (hp : PS H m U K KR sd T Im) (hc : RC H m ro ta U K KR W sd T Im rf f p C P Q V n) (hm : RMb b H m ro ta U K KR W sd T Im rf f p I J A B) (p1 : Int32) : ∃ (a : Int32) (c_r1 : Nat → Int32) (c_r2 : Nat → Int32) (c_r3 : Nat → Int32) (c_r4 : Nat → Int32) (c_r5 : Nat → Int32) (c_r6 : Nat → Int32) (m_r1 : Nat → Int32) (m_r2 : Nat → Int32) (m_r3 : Nat → Int32) (m_r4 : Nat → Int32) (m_r5 : Nat → Int32) (m_r6 : Nat → Int32) (m_r7 : Nat → Int32) (m_r8 : Nat → Int32) (m_r9 : Nat → Int32) (m_r10 : Nat → Int32) (m_r11 : Nat → Int64) (m_r12 : Nat → Int32) (m_r13 : Nat → Int32) (m_r14 : Nat → Int32), fX11_miles N (C 10) (C 9) (C 30) (C 5) (C 22) (C 6) (C 23) (C 7) (C 24) (C 25) (C 20) (C 17) (C 21) (C 19) (C 15) (C 13) (C 18) (C 31) (C 32) (n 0) (n 2) (n 1) p1 = some (a, c_r1, c_r2, c_r3, c_r4, c_r5, c_r6) ∧ fX12_miles N I (A 14) (A 45) (A 46) (A 47) (A 48) (A 49) (A 50) (A 52) (A 51) (A 53) (A 24) (A 58) (A 25) (B 57) (A 26) (A 27) (A 21) (A 22) (A 18) (A 59) (A 20) (A 66) (A 63) (A 64) (A 65) (A 67) p1 = some (a, m_r1, m_r2, m_r3, m_r4, m_r5, m_r6, m_r7, m_r8, m_r9, m_r10, m_r11, m_r12, m_r13, m_r14) ∧ RC H m ro ta U K KR W sd T Im rf f p (va_up (va_up (va_up (va_up (va_up (va_up C 22 c_r1) 23 c_r2) 24 c_r3) 25 c_r4) 20 c_r5) 21 c_r6) P Q V n ∧ RMb b H m ro ta U K KR W sd T Im rf f p I J (va_up (va_up (va_up (va_up (va_up (va_up (va_up (va_up (va_up (va_up (va_up (va_up (va_up (A) 45 m_r1) 46 m_r2) 47 m_r3) 48 m_r4) 49 m_r5) 50 m_r6) 52 m_r7) 51 m_r8) 53 m_r9) 58 m_r10) 59 m_r12) 66 m_r13) 67 m_r14) (va_up (B) 57 m_r11) := by
  have hc0 := hc
  have hm0 := hm
  obtain ⟨hs, h5, hUo, hK, hKR, hsd, hT, hTl, hIm⟩ := hp
  obtain ⟨c1, c2, c3, c4, c5, c6, c7, c8, c9, c10, c11, c12, c13⟩ := hc
  obtain ⟨m1, m2, m3, m4, m5, m6, m7, m8, m9_, m10, m11, m12, m13, m14⟩ := hm
  obtain ⟨q_w, q_r, q_t, q_h, q_v, q_s, e1⟩ := c_miles (nowI := C 5) (now_rowsF := C 6) (now_talksF := C 7) (marksI := C 9) (homeI := C 10) (home_sharpsF := C 13) (home_placeMilesF := C 15) (home_goesF := C 17) (home_hearsF := C 18) (home_talkForF := C 19) (course_valuesF := C 20) (course_stackF := C 21) (walkI := C 22) (walk_rowsF := C 23) (walk_talksF := C 24) (dv_heardAheadF := C 25) (marks_nightsAheadF := C 30) (marks_earsF := C 31) (marks_hearingF := C 32) N hN hs c1 c3 hK c6 p1
  obtain ⟨z_X, z_a, z_s, z_hb, z_il, e2, e3⟩ := m_miles (ask := A 58) (stk := B 57) (hf := A 59) (hb := A 66) (il := A 67) (mm_markNightF := A 63) (mm_markEarF := A 64) (mm_markIsF := A 65) N hN hs m1 m2 m3 hK m6 p1
  refine ⟨_, _, _, _, _, _, _, _, _, _, _, _, _, _, _, _, _, _, _, _, _, e1, e2, RC_w hc0 (fun j hj => ?_), RM_w hs hm0 (fun j hj => ?_) (mOth_cg e3 (fun j hj => ?_)) rfl rfl⟩
  · unfold cScr at hj
    rw [va_up_ne _ _ (by omega), va_up_ne _ _ (by omega), va_up_ne _ _ (by omega), va_up_ne _ _ (by omega), va_up_ne _ _ (by omega), va_up_ne _ _ (by omega)]
  · unfold mScr at hj
    rw [va_up_ne _ _ (by omega), va_up_ne _ _ (by omega), va_up_ne _ _ (by omega), va_up_ne _ _ (by omega), va_up_ne _ _ (by omega), va_up_ne _ _ (by omega), va_up_ne _ _ (by omega), va_up_ne _ _ (by omega), va_up_ne _ _ (by omega), va_up_ne _ _ (by omega), va_up_ne _ _ (by omega), va_up_ne _ _ (by omega), va_up_ne _ _ (by omega)]
  · have : j = 0 ∨ j = 1 ∨ j = 2 ∨ j = 3 ∨ j = 4 ∨ j = 5 ∨ j = 6 ∨ j = 7 ∨ j = 8 := by omega
    rcases this with rfl | rfl | rfl | rfl | rfl | rfl | rfl | rfl | rfl <;> rfl
theorem e_tells (hN : 5000 ≤ N) (hp : PS H m U K KR sd T Im) (hc : RC H m ro ta U K KR W sd T Im rf f p C P Q V n) (hm : RMb b H m ro ta U K KR W sd T Im rf f p I J A B) (p1 : Int32) : ∃ (a : Int32) (c_r1 : Nat → Int32) (c_r2 : Nat → Int32) (c_r3 : Nat → Int32) (c_r4 : Nat → Int32) (c_r5 : Nat → Int32) (c_r6 : Nat → Int32) (c_r7 : Nat → Int32) (m_r1 : Nat → Int32) (m_r2 : Nat → Int32) (m_r3 : Nat → Int32) (m_r4 : Nat → Int32) (m_r5 : Nat → Int32) (m_r6 : Nat → Int32) (m_r7 : Nat → Int32) (m_r8 : Nat → Int32) (m_r9 : Nat → Int32) (m_r10 : Nat → Int32) (m_r11 : Nat → Int64) (m_r12 : Nat → Int32) (m_r13 : Nat → Int32) (m_r14 : Nat → Int32), fX11_tells N (C 5) (C 10) (C 33) (C 22) (C 6) (C 23) (C 7) (C 24) (C 25) (C 20) (C 17) (C 21) (C 19) (C 15) (C 13) (C 18) (C 9) (C 30) (C 31) (C 32) (n 0) (n 2) (n 1) p1 = some (a, c_r1, c_r2, c_r3, c_r4, c_r5, c_r6, c_r7) ∧ fX12_tells N I (A 14) (A 45) (A 46) (A 47) (A 48) (A 49) (A 50) (A 52) (A 51) (A 53) (A 24) (A 58) (A 25) (B 57) (A 26) (A 27) (A 21) (A 22) (A 18) (A 59) (A 20) (A 66) (A 63) (A 64) (A 65) (A 67) p1 = some (a, m_r1, m_r2, m_r3, m_r4, m_r5, m_r6, m_r7, m_r8, m_r9, m_r10, m_r11, m_r12, m_r13, m_r14) ∧ RC H m ro ta U K KR W sd T Im rf f p (va_up (va_up (va_up (va_up (va_up (va_up (va_up C 33 c_r1) 22 c_r2) 23 c_r3) 24 c_r4) 25 c_r5) 20 c_r6) 21 c_r7) P Q V n ∧ RMb b H m ro ta U K KR W sd T Im rf f p I J (va_up (va_up (va_up (va_up (va_up (va_up (va_up (va_up (va_up (va_up (va_up (va_up (va_up (A) 45 m_r1) 46 m_r2) 47 m_r3) 48 m_r4) 49 m_r5) 50 m_r6) 52 m_r7) 51 m_r8) 53 m_r9) 58 m_r10) 59 m_r12) 66 m_r13) 67 m_r14) (va_up (B) 57 m_r11) := by
  have hc0 := hc
  have hm0 := hm
  obtain ⟨hs, h5, hUo, hK, hKR, hsd, hT, hTl, hIm⟩ := hp
  obtain ⟨c1, c2, c3, c4, c5, c6, c7, c8, c9, c10, c11, c12, c13⟩ := hc
  obtain ⟨m1, m2, m3, m4, m5, m6, m7, m8, m9_, m10, m11, m12, m13, m14⟩ := hm
  obtain ⟨q_tt, q_w, q_r, q_t, q_h, q_v, q_s, e1⟩ := c_tells (nowI := C 5) (now_rowsF := C 6) (now_talksF := C 7) (marksI := C 9) (homeI := C 10) (home_sharpsF := C 13) (home_placeMilesF := C 15) (home_goesF := C 17) (home_hearsF := C 18) (home_talkForF := C 19) (course_valuesF := C 20) (course_stackF := C 21) (walkI := C 22) (walk_rowsF := C 23) (walk_talksF := C 24) (dv_heardAheadF := C 25) (marks_nightsAheadF := C 30) (marks_earsF := C 31) (marks_hearingF := C 32) (dv_tallyF := C 33) N hN hs c1 c3 hK c6 p1
  obtain ⟨z_X, z_a, z_s, z_hb, z_il, e2, e3⟩ := m_tells (ask := A 58) (stk := B 57) (hf := A 59) (hb := A 66) (il := A 67) (mm_markNightF := A 63) (mm_markEarF := A 64) (mm_markIsF := A 65) N hN hs m1 m2 m3 hK m6 p1
  refine ⟨_, _, _, _, _, _, _, _, _, _, _, _, _, _, _, _, _, _, _, _, _, _, e1, e2, RC_w hc0 (fun j hj => ?_), RM_w hs hm0 (fun j hj => ?_) (mOth_cg e3 (fun j hj => ?_)) rfl rfl⟩
  · unfold cScr at hj
    rw [va_up_ne _ _ (by omega), va_up_ne _ _ (by omega), va_up_ne _ _ (by omega), va_up_ne _ _ (by omega), va_up_ne _ _ (by omega), va_up_ne _ _ (by omega), va_up_ne _ _ (by omega)]
  · unfold mScr at hj
    rw [va_up_ne _ _ (by omega), va_up_ne _ _ (by omega), va_up_ne _ _ (by omega), va_up_ne _ _ (by omega), va_up_ne _ _ (by omega), va_up_ne _ _ (by omega), va_up_ne _ _ (by omega), va_up_ne _ _ (by omega), va_up_ne _ _ (by omega), va_up_ne _ _ (by omega), va_up_ne _ _ (by omega), va_up_ne _ _ (by omega), va_up_ne _ _ (by omega)]
  · have : j = 0 ∨ j = 1 ∨ j = 2 ∨ j = 3 ∨ j = 4 ∨ j = 5 ∨ j = 6 ∨ j = 7 ∨ j = 8 := by omega
    rcases this with rfl | rfl | rfl | rfl | rfl | rfl | rfl | rfl | rfl <;> rfl
theorem e_ear (hN : 5000 ≤ N) (hp : PS H m U K KR sd T Im) (hc : RC H m ro ta U K KR W sd T Im rf f p C P Q V n) (hm : RMb b H m ro ta U K KR W sd T Im rf f p I J A B) (p1 p2 : Int32) : ∃ (a : Int32) (c_r1 : Nat → Int32) (c_r2 : Nat → Int32) (m_r1 : Nat → Int32) (m_r2 : Nat → Int64), fX11_ear N (C 10) (C 5) (C 6) (C 13) (C 20) (C 18) (C 21) (n 1) p1 p2 = some (a, c_r1, c_r2) ∧ fX12_ear N I (A 18) (A 50) (A 49) (A 24) (A 45) (A 58) (A 20) (A 46) (A 14) (A 25) (B 57) (A 26) (A 27) p1 p2 = some (a, m_r1, m_r2) ∧ RC H m ro ta U K KR W sd T Im rf f p (va_up (va_up C 20 c_r1) 21 c_r2) P Q V n ∧ RMb b H m ro ta U K KR W sd T Im rf f p I J (va_up (A) 58 m_r1) (va_up (B) 57 m_r2) := by
  have hc0 := hc
  have hm0 := hm
  obtain ⟨hs, h5, hUo, hK, hKR, hsd, hT, hTl, hIm⟩ := hp
  obtain ⟨c1, c2, c3, c4, c5, c6, c7, c8, c9, c10, c11, c12, c13⟩ := hc
  obtain ⟨m1, m2, m3, m4, m5, m6, m7, m8, m9_, m10, m11, m12, m13, m14⟩ := hm
  obtain ⟨q_v, q_s, e1⟩ := c_ear (nowI := C 5) (now_rowsF := C 6) (now_talksF := C 7) (homeI := C 10) (home_sharpsF := C 13) (home_placeMilesF := C 15) (home_goesF := C 17) (home_hearsF := C 18) (home_talkForF := C 19) (course_valuesF := C 20) (course_stackF := C 21) N hN hs c1 c3 p1 p2
  obtain ⟨z_a, z_s, e2⟩ := m_ear (ask := A 58) (stk := B 57) (hf := A 59) N hN hs m1 m2 m3 p1 p2
  refine ⟨_, _, _, _, _, e1, e2, RC_w hc0 (fun j hj => ?_), RM_w hs hm0 (fun j hj => ?_) (mOth.refl 1 _) rfl rfl⟩
  · unfold cScr at hj
    rw [va_up_ne _ _ (by omega), va_up_ne _ _ (by omega)]
  · unfold mScr at hj
    rw [va_up_ne _ _ (by omega)]
theorem e_place (hN : 5000 ≤ N) (hp : PS H m U K KR sd T Im) (hc : RC H m ro ta U K KR W sd T Im rf f p C P Q V n) (hm : RMb b H m ro ta U K KR W sd T Im rf f p I J A B) (p1 p2 : Int32) : ∃ (a : Int32) (c_r1 : Nat → Int32) (c_r2 : Nat → Int32) (m_r1 : Nat → Int32) (m_r2 : Nat → Int64), fX11_place N (C 10) (C 15) (C 5) (C 7) (C 20) (C 19) (C 21) (n 2) p1 p2 = some (a, c_r1, c_r2) ∧ fX12_place N I (A 21) (A 49) (A 51) (A 24) (A 45) (A 58) (A 25) (B 57) (A 26) (A 27) (A 22) p1 p2 = some (a, m_r1, m_r2) ∧ RC H m ro ta U K KR W sd T Im rf f p (va_up (va_up C 20 c_r1) 21 c_r2) P Q V n ∧ RMb b H m ro ta U K KR W sd T Im rf f p I J (va_up (A) 58 m_r1) (va_up (B) 57 m_r2) := by
  have hc0 := hc
  have hm0 := hm
  obtain ⟨hs, h5, hUo, hK, hKR, hsd, hT, hTl, hIm⟩ := hp
  obtain ⟨c1, c2, c3, c4, c5, c6, c7, c8, c9, c10, c11, c12, c13⟩ := hc
  obtain ⟨m1, m2, m3, m4, m5, m6, m7, m8, m9_, m10, m11, m12, m13, m14⟩ := hm
  obtain ⟨q_v, q_s, e1⟩ := c_place (nowI := C 5) (now_rowsF := C 6) (now_talksF := C 7) (homeI := C 10) (home_sharpsF := C 13) (home_placeMilesF := C 15) (home_goesF := C 17) (home_hearsF := C 18) (home_talkForF := C 19) (course_valuesF := C 20) (course_stackF := C 21) N hN hs c1 c3 p1 p2
  obtain ⟨z_a, z_s, e2⟩ := m_place (ask := A 58) (stk := B 57) (hf := A 59) N hN hs m1 m2 m3 p1 p2
  refine ⟨_, _, _, _, _, e1, e2, RC_w hc0 (fun j hj => ?_), RM_w hs hm0 (fun j hj => ?_) (mOth.refl 1 _) rfl rfl⟩
  · unfold cScr at hj
    rw [va_up_ne _ _ (by omega), va_up_ne _ _ (by omega)]
  · unfold mScr at hj
    rw [va_up_ne _ _ (by omega)]
theorem e_stride (hN : 5000 ≤ N) (hp : PS H m U K KR sd T Im) (hc : RC H m ro ta U K KR W sd T Im rf f p C P Q V n) (hm : RMb b H m ro ta U K KR W sd T Im rf f p I J A B) : ∃ (a : Int32) (c_r1 : Nat → Int32) (c_r2 : Nat → Int32) (m_r1 : Nat → Int32) (m_r2 : Nat → Int64), fX11_stride N (C 10) (C 5) (C 20) (C 17) (C 21) (n 0) = some (a, c_r1, c_r2) ∧ fX12_stride N I (A 49) (A 24) (A 45) (A 58) (A 46) (A 47) (A 25) (B 57) (A 26) (A 27) = some (a, m_r1, m_r2) ∧ RC H m ro ta U K KR W sd T Im rf f p (va_up (va_up C 20 c_r1) 21 c_r2) P Q V n ∧ RMb b H m ro ta U K KR W sd T Im rf f p I J (va_up (A) 58 m_r1) (va_up (B) 57 m_r2) := by
  have hc0 := hc
  have hm0 := hm
  obtain ⟨hs, h5, hUo, hK, hKR, hsd, hT, hTl, hIm⟩ := hp
  obtain ⟨c1, c2, c3, c4, c5, c6, c7, c8, c9, c10, c11, c12, c13⟩ := hc
  obtain ⟨m1, m2, m3, m4, m5, m6, m7, m8, m9_, m10, m11, m12, m13, m14⟩ := hm
  obtain ⟨q_v, q_s, e1⟩ := c_stride (nowI := C 5) (now_rowsF := C 6) (now_talksF := C 7) (homeI := C 10) (home_sharpsF := C 13) (home_placeMilesF := C 15) (home_goesF := C 17) (home_hearsF := C 18) (home_talkForF := C 19) (course_valuesF := C 20) (course_stackF := C 21) N hN hs c1 c3
  obtain ⟨z_a, z_s, e2⟩ := m_strideQ (ask := A 58) (stk := B 57) (hf := A 59) N hN hs m1 m2 m3
  refine ⟨_, _, _, _, _, e1, e2, RC_w hc0 (fun j hj => ?_), RM_w hs hm0 (fun j hj => ?_) (mOth.refl 1 _) rfl rfl⟩
  · unfold cScr at hj
    rw [va_up_ne _ _ (by omega), va_up_ne _ _ (by omega)]
  · unfold mScr at hj
    rw [va_up_ne _ _ (by omega)]
end
