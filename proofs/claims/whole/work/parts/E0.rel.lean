/-! the two programs' states and the one pure state that both hold
class: C 0 the voice's fields, 1 tape, 2 its bytes, 3 refused, 4 course, 5 now, 6 its rows, 7 its talks, 8 past, 9 marks, 10 home, 11 ear names, 12 rows, 13 sharps, 14 place names, 15 place miles, 16 talks, 17 goes, 18 hears, 19 talks for, 20 values, 21 stack, 22 walk, 23 its rows, 24 its talks, 25 heard ahead, 26 seating, 27 gains, 28 best, 29 seating's rows, 30 31 32 marks' rows, 33 tally, 34 kept rows, 35 picture, 36 its bytes; P Q V the past moments
reference: A k the array of field k (ints), B k (longs) -/
def AX (A : Nat → Nat → Int32) : Nat → Nat → Int32 := m9 (A 45) (A 46) (A 47) (A 48) (A 49) (A 50) (A 52) (A 51) (A 53)
def AY (A : Nat → Nat → Int32) : Nat → Nat → Int32 := m9 (A 24) (A 25) (A 26) (A 27) (A 14) (A 18) (A 21) (A 22) (A 20)
def PS (H : PH) (m : Nat → Nat) (U : PU) (K : PK) (KR : Nat → Nat → Nat) (sd : Nat) (T Im : PT) : Prop := hS H m ∧ m 5 ≤ m 0 ∧ pU_ok H m U ∧ pk_ok H K ∧ pKR_ok (m 5) KR ∧ sd < 2147483648 ∧ T.1 ≤ 1600 ∧ pI_lt T ∧ Im.1 ≤ 22
def RC (H : PH) (m ro ta : Nat → Nat) (U : PU) (K : PK) (KR : Nat → Nat → Nat) (W : Nat → Nat → Nat → Nat) (sd : Nat) (T Im : PT) (rf : Nat → Int32) (f p : Int32) (C P Q V : Nat → Nat → Int32) (n : Nat → Nat) : Prop :=
  cH H (C 10) (C 13) (C 15) (C 17) (C 18) (C 19) (n 0) (n 1) (n 2) ∧ C 10 4 = nI (H.1 3) ∧ cNow H m ro ta (C 5) (C 6) (C 7) ∧ cU H U (C 8) P Q V ∧ cKR (m 5) KR (C 34) ∧ cK K (C 9) (C 30) (C 31) (C 32) ∧ cT T (C 1) (C 2) ∧ mT Im (C 35) (C 36) ∧ C 0 12 = nI sd ∧ C 0 13 = f ∧ C 0 14 = p ∧ pR rf (C 3) ∧ cW H W (C 11) (C 14)
def RMb (b : Nat) (H : PH) (m ro ta : Nat → Nat) (U : PU) (K : PK) (KR : Nat → Nat → Nat) (W : Nat → Nat → Nat → Nat) (sd : Nat) (T Im : PT) (rf : Nat → Int32) (f p : Int32) (I : Nat → Int32) (J : Nat → Int64) (A : Nat → Nat → Int32) (B : Nat → Nat → Int64) : Prop :=
  mHY H b I (AY A) ∧ mFl I (H.1 0) ∧ mLay H 0 m ro ta (min 40 (m 5)) (AX A) ∧ mKp 0 (m 5) KR (AX A) ∧ mU H U KR I (AX A) ∧ mK K I (A 63) (A 64) (A 65) ∧ mT T I (A 0) ∧ mIm Im I (A 68) ∧ J 56 = lN sd ∧ I 10 = f ∧ I 11 = p ∧ pR rf (A 44) ∧ A 17 b = nI (H.1 3) ∧ mW H W b (B 28) (B 29)
/-- class cells that hold nothing between two calls -/
def cScr (j : Nat) : Prop := j = 4 ∨ j = 12 ∨ j = 16 ∨ (20 ≤ j ∧ j ≤ 29) ∨ j = 33
/-- the reference's -/
def mScr (j : Nat) : Prop := (45 ≤ j ∧ j ≤ 53) ∨ (58 ≤ j ∧ j ≤ 61) ∨ j = 66 ∨ j = 67 ∨ (30 ≤ j ∧ j ≤ 42)
section
variable {H : PH} {m ro ta : Nat → Nat} {U : PU} {K : PK} {KR : Nat → Nat → Nat} {W : Nat → Nat → Nat → Nat} {sd : Nat} {T Im : PT} {rf : Nat → Int32} {f p : Int32} {C C' P Q V : Nat → Nat → Int32} {n : Nat → Nat} {b : Nat} {I : Nat → Int32} {J : Nat → Int64} {A A' : Nat → Nat → Int32} {B B' : Nat → Nat → Int64}
theorem RC_w (h : RC H m ro ta U K KR W sd T Im rf f p C P Q V n) (hC : ∀ j, ¬ cScr j → C' j = C j) : RC H m ro ta U K KR W sd T Im rf f p C' P Q V n := by
  unfold RC at h ⊢
  unfold cScr at hC
  rw [hC 10 (by omega), hC 13 (by omega), hC 15 (by omega), hC 17 (by omega), hC 18 (by omega), hC 19 (by omega), hC 5 (by omega), hC 6 (by omega), hC 7 (by omega), hC 8 (by omega), hC 34 (by omega), hC 9 (by omega), hC 30 (by omega), hC 31 (by omega), hC 32 (by omega), hC 1 (by omega), hC 2 (by omega), hC 35 (by omega), hC 36 (by omega), hC 0 (by omega), hC 3 (by omega), hC 11 (by omega), hC 14 (by omega)]
  exact h
theorem mU_oth1 {I : Nat → Int32} {X X' : Nat → Nat → Int32} (h : mU H U KR I X) (g : mOth 1 X X') (hE : H.1 1 ≤ 7) (hP : H.1 2 ≤ 6) : mU H U KR I X' := by
  obtain ⟨uf, u1, u2, u3, u4⟩ := h
  exact ⟨uf, u1, u2, u3, fun k hk => ⟨(u4 k hk).1.oth g (by omega) hE hP, (u4 k hk).2.oth g (by omega)⟩⟩
theorem RM_w (hs : hS H m) (h : RMb b H m ro ta U K KR W sd T Im rf f p I J A B) (hA : ∀ j, ¬ mScr j → A' j = A j) (hO : mOth 1 (AX A) (AX A')) (h28 : B' 28 = B 28) (h29 : B' 29 = B 29) : RMb b H m ro ta U K KR W sd T Im rf f p I J A' B' := by
  obtain ⟨hb0, hE, hP, -⟩ := hs.b
  unfold mScr at hA
  have e : AY A' = AY A := by
    unfold AY
    rw [hA 24 (by omega), hA 25 (by omega), hA 26 (by omega), hA 27 (by omega), hA 14 (by omega), hA 18 (by omega), hA 21 (by omega), hA 22 (by omega), hA 20 (by omega)]
  obtain ⟨a1, a2, a3, a4, a5, a6, a7, a8, a9, a10, a11, a12, a13, a14⟩ := h
  refine ⟨by rw [e]; exact a1, a2, a3.oth hO (by decide) hE hP, a4.oth hO (by decide), mU_oth1 a5 hO hE hP, ?_, ?_, ?_, a9, a10, a11, ?_, ?_, ?_⟩
  · rw [hA 63 (by omega), hA 64 (by omega), hA 65 (by omega)]; exact a6
  · rw [hA 0 (by omega)]; exact a7
  · rw [hA 68 (by omega)]; exact a8
  · rw [hA 44 (by omega)]; exact a12
  · rw [hA 17 (by omega)]; exact a13
  · rw [h28, h29]; exact a14
end
