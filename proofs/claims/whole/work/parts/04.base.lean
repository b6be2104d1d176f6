/-- the array classes that the worlds know, by their types -/
abbrev xq_tys (cI cB cJ cZ cM : ClassId) : List (ClassId × FieldType) := [(cI, .int), (cB, .byte), (cJ, .long), (cZ, .boolean), (cM, .object RX6)]
/-- a loop with a measure -/
def xq_loop {σ β : Type} (body : (σ → Option β) → σ → Option β) : Nat → σ → Option β
  | 0, _ => none
  | n + 1, z => body (xq_loop body n) z
def xq_min (x y : Int32) : Int32 := if y < x then y else x
def xq_max (x y : Int32) : Int32 := if x < y then y else x
def xq_minL (x y : Int64) : Int64 := if y < x then y else x
def xq_maxL (x y : Int64) : Int64 := if y < x then x else y
/-- System.arraycopy of numbers: the row behind it -/
def xq_cpy (n0 n1 : Nat) (f g : Nat → Int32) (sp dp n : Int32) : Option (Nat → Int32) := if sp < 0 ∨ dp < 0 ∨ n < 0 ∨ n0 < sp.toNatClampNeg + n.toNatClampNeg ∨ n1 < dp.toNatClampNeg + n.toNatClampNeg then none else some (va_cpy f g sp.toNatClampNeg dp.toNatClampNeg n.toNatClampNeg)
theorem xq_cpy_some {n0 n1 : Nat} {f g h : Nat → Int32} {sp dp n : Int32} (e : xq_cpy n0 n1 f g sp dp n = some h) : ¬ sp < 0 ∧ ¬ dp < 0 ∧ ¬ n < 0 ∧ sp.toNatClampNeg + n.toNatClampNeg ≤ n0 ∧ dp.toNatClampNeg + n.toNatClampNeg ≤ n1 ∧ va_cpy f g sp.toNatClampNeg dp.toNatClampNeg n.toNatClampNeg = h := by
  unfold xq_cpy at e
  split at e
  · cases e
  · rename_i q
    refine ⟨fun z => q (Or.inl z), fun z => q (Or.inr (Or.inl z)), fun z => q (Or.inr (Or.inr (Or.inl z))), ?_, ?_, Option.some.inj e⟩
    · exact Nat.not_lt.mp fun z => q (Or.inr (Or.inr (Or.inr (Or.inl z))))
    · exact Nat.not_lt.mp fun z => q (Or.inr (Or.inr (Or.inr (Or.inr z))))
abbrev oX0 (I : Nat → Int32) (R : Nat → Nat) : List Value := [.ref (R 0), .ref (R 1), .ref (R 2)]
abbrev oX1 (I : Nat → Int32) (R : Nat → Nat) : List Value := [.ref (R 0), .ref (R 1), .int (I 2), .int (I 3), .int (I 4)]
abbrev oX2 (I : Nat → Int32) (R : Nat → Nat) : List Value := [.int (I 0), .int (I 1), .int (I 2), .int (I 3), .int (I 4), .int (I 5), .int (I 6), .ref (R 7), .ref (R 8), .ref (R 9), .ref (R 10), .ref (R 11), .ref (R 12), .ref (R 13), .ref (R 14), .ref (R 15), .int (I 16), .int (I 17), .int (I 18)]
abbrev oX3 (I : Nat → Int32) (R : Nat → Nat) : List Value := [.ref (R 0), .ref (R 1), .ref (R 2)]
abbrev oX4 (I : Nat → Int32) (R : Nat → Nat) : List Value := [.ref (R 0), .int (I 1)]
abbrev oX5 (I : Nat → Int32) (R : Nat → Nat) : List Value := [.int (I 0), .ref (R 1), .ref (R 2), .ref (R 3)]
abbrev oX6 (I : Nat → Int32) (R : Nat → Nat) : List Value := [.int (I 0), .int (I 1), .int (I 2), .int (I 3), .int (I 4), .int (I 5), .ref (R 6), .ref (R 7)]
abbrev oX7 (I : Nat → Int32) (R : Nat → Nat) : List Value := [.ref (R 0), .int (I 1), .int (I 2), .ref (R 3)]
abbrev oX8 (I : Nat → Int32) (R : Nat → Nat) : List Value := [.ref (R 0), .ref (R 1), .ref (R 2)]
abbrev oX9 (I : Nat → Int32) (R : Nat → Nat) : List Value := [.ref (R 0), .int (I 1)]
abbrev oX10 (I : Nat → Int32) (R : Nat → Nat) : List Value := [.ref (R 0), .ref (R 1), .ref (R 2), .ref (R 3), .int (I 4), .int (I 5), .int (I 6), .int (I 7)]
abbrev oX11 (I : Nat → Int32) (R : Nat → Nat) : List Value := [.ref (R 0), .ref (R 1), .ref (R 2), .ref (R 3), .ref (R 4), .ref (R 5), .ref (R 6), .ref (R 7), .ref (R 8), .ref (R 9), .ref (R 10), .ref (R 11), .int (I 12), .int (I 13), .int (I 14)]
abbrev oX12 (I : Nat → Int32) (J : Nat → Int64) (R : Nat → Nat) : List Value := [.ref (R 0), .int (I 1), .int (I 2), .int (I 3), .int (I 4), .int (I 5), .int (I 6), .long (J 7), .int (I 8), .int (I 9), .int (I 10), .int (I 11), .int (I 12), .int (I 13), .ref (R 14), .ref (R 15), .ref (R 16), .ref (R 17), .ref (R 18), .ref (R 19), .ref (R 20), .ref (R 21), .ref (R 22), .ref (R 23), .ref (R 24), .ref (R 25), .ref (R 26), .ref (R 27), .ref (R 28), .ref (R 29), .int (I 30), .int (I 31), .int (I 32), .ref (R 33), .ref (R 34), .ref (R 35), .ref (R 36), .ref (R 37), .int (I 38), .int (I 39), .ref (R 40), .int (I 41), .int (I 42), .int (I 43), .ref (R 44), .ref (R 45), .ref (R 46), .ref (R 47), .ref (R 48), .ref (R 49), .ref (R 50), .ref (R 51), .ref (R 52), .ref (R 53), .int (I 54), .int (I 55), .long (J 56), .ref (R 57), .ref (R 58), .ref (R 59), .ref (R 60), .ref (R 61), .int (I 62), .ref (R 63), .ref (R 64), .ref (R 65), .ref (R 66), .ref (R 67), .ref (R 68), .int (I 69)]
