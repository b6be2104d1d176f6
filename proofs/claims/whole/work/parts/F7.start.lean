/-! a new object of each: both hold the empty state -/
def lw_C0 : Nat → Nat → Int32 := va_up (va_up (va_up (va_up (fun _ _ => 0) 0 (va_up (va_up (fun _ => 0) 12 1) 14 (-1))) 17 (upd (fun _ => 0) 0 1)) 18 (upd (upd (upd (fun _ => 0) 0 10316) 1 10) 2 20060)) 19 (upd (fun _ => 0) 0 10309)
def lw_n0 : Nat → Nat := va_up (va_up (va_up (fun _ => 0) 0 1) 1 3) 2 1
def lw_I0 : Nat → Int32 := va_up (va_up (va_up (va_up (fun _ => 0) 9 (-1)) 11 (-1)) 12 (-1)) 31 1
def lw_J0 : Nat → Int64 := va_up (fun _ => 0) 56 1
def lw_A0 : Nat → Nat → Int32 := va_up (fun _ _ => 0) 24 (upd (upd (upd (upd (upd (upd (fun _ => 0) 0 (-1)) 1 (-1)) 2 (-1)) 3 (-1)) 4 (-1)) 5 (-1))
def lw_H0 : PH := (fun _ => 0, fun _ _ => 0, pDf)
theorem lw_nz {n : Nat} {P : Prop} (h : n < 0) : P := absurd h (Nat.not_lt_zero _)
theorem lw_cL1 {F : Nat → Int32} {a : Nat} (h : F 0 = nI a) : cL F 1 [a] := by
  refine ⟨rfl, fun j c hj => ?_⟩
  match j, hj with
  | 0, hj => cases hj; exact h
  | k + 1, hj => simp at hj
theorem lw_cL3 {F : Nat → Int32} {a b d : Nat} (h0 : F 0 = nI a) (h1 : F 1 = nI b) (h2 : F 2 = nI d) : cL F 3 [a, b, d] := by
  refine ⟨rfl, fun j c hj => ?_⟩
  match j, hj with
  | 0, hj => cases hj; exact h0
  | 1, hj => cases hj; exact h1
  | 2, hj => cases hj; exact h2
  | k + 3, hj => simp at hj
theorem x_start : RR 0 lw_C0 (fun _ _ => 0) (fun _ _ => 0) (fun _ _ => 0) lw_n0 lw_I0 lw_J0 lw_A0 (fun _ _ => 0) := by
  refine ⟨0, lw_H0, fun _ => 0, fun _ => 0, fun _ => 0, (0, fun _ _ => 0, fun _ _ => 0, fun _ _ => 0), (0, fun _ => 0, fun _ => 0, fun _ => 0), fun _ _ => 0, fun _ _ _ => 0, 1, (0, fun _ => 0), (0, fun _ => 0), fun _ => 0, 0, -1, ?_, ?_, ?_, rfl⟩
  · exact ⟨Or.inr ⟨rfl, rfl, rfl, fun _ _ => rfl⟩, Nat.le_refl _, ⟨Nat.zero_le _, fun k hk => lw_nz hk, fun i j _ hj => lw_nz hj⟩, ⟨Nat.zero_le _, fun i hi => lw_nz hi⟩, fun i hi => lw_nz hi, by decide, Nat.zero_le _, fun i hi => lw_nz hi, Nat.zero_le _⟩
  · exact ⟨⟨rfl, rfl, rfl, fun k hk => lw_nz hk, fun k hk => lw_nz hk, lw_cL1 (F := lw_C0 17) (a := 1) rfl, lw_cL3 (F := lw_C0 18) (a := 10316) (b := 10) (d := 20060) rfl rfl rfl, lw_cL1 (F := lw_C0 19) (a := 10309) rfl⟩, rfl, ⟨fun j _ => rfl, fun e he => lw_nz he, fun e he => lw_nz he⟩, ⟨0, by decide, rfl, rfl, fun k hk => lw_nz hk⟩, fun i hi => lw_nz hi, ⟨rfl, fun i hi => lw_nz hi⟩, ⟨rfl, fun i hi => lw_nz hi⟩, ⟨rfl, fun i hi => lw_nz hi⟩, rfl, rfl, rfl, fun i _ => rfl, fun e he => lw_nz he, fun e he => lw_nz he⟩
  · exact ⟨⟨by decide, rfl, rfl, rfl, rfl, fun k hk => lw_nz hk, fun k hk => lw_nz hk, Or.inl ⟨rfl, rfl⟩, Or.inl ⟨rfl, rfl⟩, Or.inl ⟨rfl, rfl⟩⟩, rfl, ⟨rfl, rfl, rfl, rfl, rfl, fun e he => lw_nz he, rfl, Nat.min_le_left _ _, fun e he => lw_nz he⟩, fun j f hj _ => lw_nz (Nat.lt_of_lt_of_le hj (Nat.min_le_right 40 0)), ⟨0, by decide, rfl, rfl, fun k hk => lw_nz hk⟩, ⟨rfl, fun i hi => lw_nz hi⟩, ⟨rfl, fun i hi => lw_nz hi⟩, ⟨rfl, fun i hi => lw_nz hi⟩, rfl, rfl, rfl, fun i _ => rfl, rfl, fun e he => lw_nz he, fun e he => lw_nz he⟩
