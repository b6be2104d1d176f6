/-! own rows: a method as a function into Option (none: an index outside, a divisor 0, a loop's measure used up), its contract (xq_Ct), and for each instruction that may fail or touches the heap a row that takes the function's own equation along (hf) -/
def xq_bd {α β : Type} (x : Option α) (k : α → Option β) : Option β := match x with
  | some a => k a
  | none => none
theorem xq_bd_some {α β : Type} {x : Option α} {k : α → Option β} {r : β} (h : xq_bd x k = some r) : ∃ a, x = some a ∧ k a = some r := by
  cases x with
  | none => cases h
  | some a => exact ⟨a, rfl, h⟩
def xq_ald (n : Nat) (f : Nat → Int32) (i : Int32) : Option Int32 := if i < 0 ∨ n ≤ i.toNatClampNeg then none else some (f i.toNatClampNeg)
def xq_ast (n : Nat) (f : Nat → Int32) (i x : Int32) : Option (Nat → Int32) := if i < 0 ∨ n ≤ i.toNatClampNeg then none else some (upd f i.toNatClampNeg x)
def xq_aldL (n : Nat) (f : Nat → Int64) (i : Int32) : Option Int64 := if i < 0 ∨ n ≤ i.toNatClampNeg then none else some (f i.toNatClampNeg)
def xq_astL (n : Nat) (f : Nat → Int64) (i : Int32) (x : Int64) : Option (Nat → Int64) := if i < 0 ∨ n ≤ i.toNatClampNeg then none else some (vp_updL f i.toNatClampNeg x)
/-- a boolean: 0 or 1 -/
def xq_zb (x : Int32) : Option Int32 := if x = 0 ∨ x = 1 then some x else none
def xq_dv (x y : Int32) : Option Int32 := if y = 0 then none else some (x / y)
def xq_rm (x y : Int32) : Option Int32 := if y = 0 then none else some (x - x / y * y)
def xq_dvL (x y : Int64) : Option Int64 := if y = 0 then none else some (x / y)
def xq_rmL (x y : Int64) : Option Int64 := if y = 0 then none else some (x - x / y * y)
theorem xq_ald_some {n : Nat} {f : Nat → Int32} {i v : Int32} (h : xq_ald n f i = some v) : vp_in i n ∧ f i.toNatClampNeg = v := by
  unfold xq_ald at h
  split at h
  · cases h
  · rename_i q; exact ⟨q, Option.some.inj h⟩
theorem xq_ast_some {n : Nat} {f g : Nat → Int32} {i x : Int32} (h : xq_ast n f i x = some g) : vp_in i n ∧ upd f i.toNatClampNeg x = g := by
  unfold xq_ast at h
  split at h
  · cases h
  · rename_i q; exact ⟨q, Option.some.inj h⟩
theorem xq_aldL_some {n : Nat} {f : Nat → Int64} {i : Int32} {v : Int64} (h : xq_aldL n f i = some v) : vp_in i n ∧ f i.toNatClampNeg = v := by
  unfold xq_aldL at h
  split at h
  · cases h
  · rename_i q; exact ⟨q, Option.some.inj h⟩
theorem xq_astL_some {n : Nat} {f g : Nat → Int64} {i : Int32} {x : Int64} (h : xq_astL n f i x = some g) : vp_in i n ∧ vp_updL f i.toNatClampNeg x = g := by
  unfold xq_astL at h
  split at h
  · cases h
  · rename_i q; exact ⟨q, Option.some.inj h⟩
theorem xq_zb_some {x v : Int32} (h : xq_zb x = some v) : (x = 0 ∨ x = 1) ∧ x = v := by
  unfold xq_zb at h
  split at h
  · rename_i q; exact ⟨q, Option.some.inj h⟩
  · cases h
theorem xq_zb_n {x v : Int32} (h : xq_zb x = some v) : narrow .boolean (.int v) = .int v ∧ fits .boolean (.int v) = true := by
  obtain ⟨q, rfl⟩ := xq_zb_some h
  rcases q with rfl | rfl <;> exact ⟨by decide +kernel, by decide +kernel⟩
theorem xq_dv_some {x y v : Int32} (h : xq_dv x y = some v) : ¬ y = 0 ∧ x / y = v := by
  unfold xq_dv at h
  split at h
  · cases h
  · rename_i q; exact ⟨q, Option.some.inj h⟩
theorem xq_rm_some {x y v : Int32} (h : xq_rm x y = some v) : ¬ y = 0 ∧ x - x / y * y = v := by
  unfold xq_rm at h
  split at h
  · cases h
  · rename_i q; exact ⟨q, Option.some.inj h⟩
theorem xq_dvL_some {x y v : Int64} (h : xq_dvL x y = some v) : ¬ y = 0 ∧ x / y = v := by
  unfold xq_dvL at h
  split at h
  · cases h
  · rename_i q; exact ⟨q, Option.some.inj h⟩
theorem xq_rmL_some {x y v : Int64} (h : xq_rmL x y = some v) : ¬ y = 0 ∧ x - x / y * y = v := by
  unfold xq_rmL at h
  split at h
  · cases h
  · rename_i q; exact ⟨q, Option.some.inj h⟩
theorem xq_pos {β : Type} {P : Prop} {d : Decidable P} {x y : Option β} {r : β} (h : (if P then x else y) = some r) (c : P) : x = some r := by rw [if_pos c] at h; exact h
theorem xq_neg {β : Type} {P : Prop} {d : Decidable P} {x y : Option β} {r : β} (h : (if P then x else y) = some r) (c : ¬ P) : y = some r := by rw [if_neg c] at h; exact h
/-- a world with some of its cells put anew, by their places -/
def xq_lk : List (Nat × (Nat × va_E)) → Nat → Option (Nat × va_E)
  | [], _ => none
  | x :: l, k => if x.1 = k then some x.2 else xq_lk l k
def xq_bk (mp : List (Nat × (Nat × va_E))) : Nat → va_W → va_W
  | _, [] => []
  | k, q :: ws => ((xq_lk mp k).getD q) :: xq_bk mp (k + 1) ws
theorem xq_bk_get (mp : List (Nat × (Nat × va_E))) : ∀ (ws : va_W) (k i : Nat), (xq_bk mp k ws)[i]? = ws[i]?.map (fun q => (xq_lk mp (k + i)).getD q)
  | [], k, i => by simp [xq_bk]
  | q :: ws, k, i => by
    cases i with
    | zero => simp [xq_bk]
    | succ i =>
      show (xq_bk mp (k + 1) ws)[i]? = (ws[i]?).map _
      rw [xq_bk_get mp ws (k + 1) i]
      have : k + 1 + i = k + (i + 1) := by omega
      rw [this]
theorem xq_lk_mem : ∀ (mp : List (Nat × (Nat × va_E))) (k : Nat) (q : Nat × va_E), xq_lk mp k = some q → ∃ j : Nat, mp[j]? = some (k, q)
  | [], k, q, h => by cases h
  | x :: l, k, q, h => by
    unfold xq_lk at h
    split at h
    · rename_i e
      cases h
      exact ⟨0, by subst e; rfl⟩
    · obtain ⟨j, hj⟩ := xq_lk_mem l k q h
      exact ⟨j + 1, hj⟩
theorem xq_lk_none : ∀ (mp : List (Nat × (Nat × va_E))) (k : Nat), xq_lk mp k = none → ∀ (j : Nat) (q : Nat × va_E), ¬ mp[j]? = some (k, q)
  | [], k, h, j, q => by simp
  | x :: l, k, h, j, q => by
    unfold xq_lk at h
    split at h
    · cases h
    · rename_i e
      cases j with
      | zero => intro z; simp at z; exact e (by rw [z])
      | succ j => exact xq_lk_none l k h j q
theorem xq_back {A0 : Nat → Prop} {D : va_G} {cl : List vw_C} {ws wc w1 : va_W} {H H1 : Heap} (hP : va_P D cl ws H) (hD : va_D A0 ws) (isC : List Nat) (hC : isC.map (fun i => ws[i]?) = wc.map some) (ha : wc.map (fun q => q.1) = w1.map (fun q => q.1))
    (hk : ∀ q : Nat, q < H.size → ¬ va_A wc H.size q → H1[q]? = H[q]?) (hP1 : va_P D cl w1 H1) : va_P D cl (xq_bk (isC.zip w1) 0 ws) H1 ∧ va_D A0 (xq_bk (isC.zip w1) 0 ws) := by
  have hlen : isC.length = wc.length := by simpa using congrArg List.length hC
  have hlen2 : wc.length = w1.length := by simpa using congrArg List.length ha
  have atC : ∀ (j k : Nat), isC[j]? = some k → ∃ q : Nat × va_E, wc[j]? = some q ∧ ws[k]? = some q := by
    intro j k hj
    have h1 : (isC.map (fun i => ws[i]?))[j]? = some (ws[k]?) := by rw [List.getElem?_map, hj]; rfl
    rw [hC, List.getElem?_map] at h1
    cases hw : wc[j]? with
    | none => rw [hw] at h1; cases h1
    | some q => rw [hw] at h1; exact ⟨q, rfl, (Option.some.inj h1).symm⟩
  have sameA : ∀ (j : Nat) (q q1 : Nat × va_E), wc[j]? = some q → w1[j]? = some q1 → q.1 = q1.1 := by
    intro j q q1 h1 h2
    have e1 : (wc.map (fun q => q.1))[j]? = some q.1 := by rw [List.getElem?_map, h1]; rfl
    rw [ha, List.getElem?_map, h2] at e1
    exact (Option.some.inj e1).symm
  have key : ∀ (k : Nat) (q : Nat × va_E), (xq_bk (isC.zip w1) 0 ws)[k]? = some q → (∃ (j : Nat) (q0 : Nat × va_E), wc[j]? = some q0 ∧ ws[k]? = some q0 ∧ w1[j]? = some q ∧ q0.1 = q.1) ∨ (ws[k]? = some q ∧ ∀ j : Nat, ¬ isC[j]? = some k) := by
    intro k q hq
    rw [xq_bk_get, Nat.zero_add] at hq
    cases hl : xq_lk (isC.zip w1) k with
    | some x =>
      obtain ⟨j, hj⟩ := xq_lk_mem _ _ _ hl
      rw [List.getElem?_zip_eq_some] at hj
      obtain ⟨q0, h1, h2⟩ := atC j k hj.1
      rw [hl, h2] at hq
      cases hq
      exact Or.inl ⟨j, q0, h1, h2, hj.2, sameA j q0 _ h1 hj.2⟩
    | none =>
      rw [hl] at hq
      refine Or.inr ⟨by cases hw : ws[k]? with | none => rw [hw] at hq; cases hq | some z => rw [hw] at hq; exact hq, fun j hj => ?_⟩
      have hj1 : j < w1.length := by rw [← hlen2, ← hlen]; exact (List.getElem?_eq_some_iff.mp hj).1
      exact xq_lk_none _ _ hl j w1[j] (List.getElem?_zip_eq_some.mpr ⟨hj, List.getElem?_eq_getElem hj1⟩)
  have adr : ∀ (k : Nat) (q : Nat × va_E), (xq_bk (isC.zip w1) 0 ws)[k]? = some q → ∃ q0, ws[k]? = some q0 ∧ q0.1 = q.1 := by
    intro k q hq
    rcases key k q hq with ⟨j, q0, -, h2, -, h4⟩ | ⟨h1, -⟩
    · exact ⟨q0, h2, h4⟩
    · exact ⟨q, h1, rfl⟩
  refine ⟨fun k q hq => ?_, fun i j x y hi hj hxy => ?_, fun k q hq => ?_⟩
  · rcases key k q hq with ⟨j, q0, -, -, h3, -⟩ | ⟨h1, h2⟩
    · exact hP1 j q h3
    · refine (hP k q h1).kept (hk q.1 (hP k q h1).lt fun hz => ?_)
      rcases hz with ⟨j, ee, hj⟩ | hz
      · have hjl : j < isC.length := by rw [hlen]; exact (List.getElem?_eq_some_iff.mp hj).1
        obtain ⟨q2, g1, g2⟩ := atC j isC[j] (List.getElem?_eq_getElem hjl)
        rw [hj] at g1
        cases g1
        have := hD.1 k isC[j] q (q.1, ee) h1 g2 rfl
        exact h2 j (by rw [this]; exact List.getElem?_eq_getElem hjl)
      · exact absurd (hP k q h1).lt (Nat.not_lt.mpr hz)
  · obtain ⟨x0, h1, h2⟩ := adr i x hi
    obtain ⟨y0, h3, h4⟩ := adr j y hj
    exact hD.1 i j x0 y0 h1 h3 (h2.trans (hxy.trans h4.symm))
  · obtain ⟨q0, h1, h2⟩ := adr k q hq
    rw [← h2]
    exact hD.2 k q0 h1
/-- the links of private members between nest mates, as the Statement has them (they are no words of the tables: they go along with each contract) -/
def xq_nF : List (String × Nat × String × String × String × String) := [("DistantVoice$Text", 28, "DistantVoice$Tape", "length", "I", "DistantVoice"), ("DistantVoice$Marks", 25, "DistantVoice$Tape", "length", "I", "DistantVoice"), ("DistantVoice", 90, "DistantVoice$Tape", "length", "I", "DistantVoice"), ("DistantVoice$Image", 61, "DistantVoice$Tape", "length", "I", "DistantVoice"), ("DistantVoice$Image", 19, "DistantVoice$Moment", "night", "I", "DistantVoice"), ("DistantVoice", 150, "DistantVoice$Moment", "night", "I", "DistantVoice"), ("DistantVoice$Course", 85, "DistantVoice$Moment", "night", "I", "DistantVoice"), ("DistantVoice$Image", 28, "DistantVoice$Moment", "mile", "I", "DistantVoice"), ("DistantVoice$Course", 60, "DistantVoice$Moment", "mile", "I", "DistantVoice"), ("DistantVoice", 153, "DistantVoice$Moment", "mile", "I", "DistantVoice"), ("DistantVoice$Image", 31, "DistantVoice$Moment", "rounds", "I", "DistantVoice"), ("DistantVoice$Course", 77, "DistantVoice$Moment", "rounds", "I", "DistantVoice"), ("DistantVoice", 156, "DistantVoice$Moment", "rounds", "I", "DistantVoice"), ("DistantVoice$Image", 34, "DistantVoice$Moment", "talking", "I", "DistantVoice"), ("DistantVoice$Course", 48, "DistantVoice$Moment", "talking", "I", "DistantVoice"), ("DistantVoice", 159, "DistantVoice$Moment", "talking", "I", "DistantVoice"), ("DistantVoice$Image", 40, "DistantVoice$Moment", "hush", "I", "DistantVoice"), ("DistantVoice", 162, "DistantVoice$Moment", "hush", "I", "DistantVoice"), ("DistantVoice$Image", 72, "DistantVoice$Moment", "keptCount", "I", "DistantVoice"), ("DistantVoice", 168, "DistantVoice$Moment", "keptCount", "I", "DistantVoice"), ("DistantVoice$Image", 43, "DistantVoice$Moment", "rows", "[I", "DistantVoice"), ("DistantVoice$Course", 41, "DistantVoice$Moment", "rows", "[I", "DistantVoice"), ("DistantVoice", 192, "DistantVoice$Moment", "rows", "[I", "DistantVoice"), ("DistantVoice$Image", 46, "DistantVoice$Moment", "talks", "[I", "DistantVoice"), ("DistantVoice$Course", 102, "DistantVoice$Moment", "talks", "[I", "DistantVoice"), ("DistantVoice", 205, "DistantVoice$Moment", "talks", "[I", "DistantVoice"), ("DistantVoice", 132, "DistantVoice$Past", "acts", "I", "DistantVoice"), ("DistantVoice", 135, "DistantVoice$Marks", "count", "I", "DistantVoice"), ("DistantVoice", 235, "DistantVoice$Seating", "gains", "[I", "DistantVoice"), ("DistantVoice", 257, "DistantVoice$Seating", "best", "[I", "DistantVoice"), ("DistantVoice", 260, "DistantVoice$Seating", "rows", "[I", "DistantVoice"), ("DistantVoice", 325, "DistantVoice$Image", "bytes", "[I", "DistantVoice"), ("DistantVoice", 324, "DistantVoice$Image", "length", "I", "DistantVoice"), ("DistantVoice$HouseReader", 45, "DistantVoice$House", "statements", "I", "DistantVoice"), ("DistantVoice", 138, "DistantVoice$House", "statements", "I", "DistantVoice"), ("DistantVoice$HouseReader", 41, "DistantVoice$House", "roundMiles", "I", "DistantVoice"), ("DistantVoice$Course", 74, "DistantVoice$House", "roundMiles", "I", "DistantVoice"), ("DistantVoice", 141, "DistantVoice$House", "roundMiles", "I", "DistantVoice"), ("DistantVoice$Image", 79, "DistantVoice$House", "roundMiles", "I", "DistantVoice"), ("DistantVoice$Moment", 37, "DistantVoice$House", "firstMile", "I", "DistantVoice"), ("DistantVoice$HouseReader", 88, "DistantVoice$House", "firstMile", "I", "DistantVoice"), ("DistantVoice$Moment", 42, "DistantVoice$House", "firstHush", "I", "DistantVoice"), ("DistantVoice$HouseReader", 91, "DistantVoice$House", "firstHush", "I", "DistantVoice"), ("DistantVoice$HouseReader", 94, "DistantVoice$House", "cough", "I", "DistantVoice"), ("DistantVoice", 276, "DistantVoice$House", "cough", "I", "DistantVoice"), ("DistantVoice$Course", 35, "DistantVoice$House", "ears", "I", "DistantVoice"), ("DistantVoice$HouseReader", 97, "DistantVoice$House", "ears", "I", "DistantVoice"), ("DistantVoice$Image", 53, "DistantVoice$House", "ears", "I", "DistantVoice"), ("DistantVoice", 144, "DistantVoice$House", "ears", "I", "DistantVoice"), ("DistantVoice$Course", 54, "DistantVoice$House", "places", "I", "DistantVoice"), ("DistantVoice$HouseReader", 113, "DistantVoice$House", "places", "I", "DistantVoice"), ("DistantVoice$Image", 58, "DistantVoice$House", "places", "I", "DistantVoice"), ("DistantVoice", 147, "DistantVoice$House", "places", "I", "DistantVoice"), ("DistantVoice$HouseReader", 100, "DistantVoice$House", "earNames", "[I", "DistantVoice"), ("DistantVoice", 180, "DistantVoice$House", "earNames", "[I", "DistantVoice"), ("DistantVoice$Moment", 45, "DistantVoice$House", "rows", "[I", "DistantVoice"), ("DistantVoice$HouseReader", 107, "DistantVoice$House", "rows", "[I", "DistantVoice"), ("DistantVoice$HouseReader", 110, "DistantVoice$House", "sharps", "[I", "DistantVoice"), ("DistantVoice", 195, "DistantVoice$House", "sharps", "[I", "DistantVoice"), ("DistantVoice$Course", 108, "DistantVoice$House", "sharps", "[I", "DistantVoice"), ("DistantVoice$HouseReader", 116, "DistantVoice$House", "placeNames", "[I", "DistantVoice"), ("DistantVoice", 189, "DistantVoice$House", "placeNames", "[I", "DistantVoice"), ("DistantVoice$Course", 57, "DistantVoice$House", "placeMiles", "[I", "DistantVoice"), ("DistantVoice$HouseReader", 125, "DistantVoice$House", "placeMiles", "[I", "DistantVoice"), ("DistantVoice", 202, "DistantVoice$House", "placeMiles", "[I", "DistantVoice"), ("DistantVoice$Moment", 52, "DistantVoice$House", "talks", "[I", "DistantVoice"), ("DistantVoice$HouseReader", 128, "DistantVoice$House", "talks", "[I", "DistantVoice"), ("DistantVoice$Course", 92, "DistantVoice$House", "goes", "[I", "DistantVoice"), ("DistantVoice$Course", 115, "DistantVoice$House", "hears", "[I", "DistantVoice"), ("DistantVoice$Course", 105, "DistantVoice$House", "talkFor", "[I", "DistantVoice"), ("DistantVoice", 128, "DistantVoice$Course", "home", "LDistantVoice$House;", "DistantVoice"), ("DistantVoice$FormulaReader", 25, "DistantVoice$Text", "kinds", "[I", "DistantVoice"), ("DistantVoice$HouseReader", 48, "DistantVoice$Text", "fault", "I", "DistantVoice"), ("DistantVoice", 122, "DistantVoice$Text", "fault", "I", "DistantVoice"), ("DistantVoice", 125, "DistantVoice$Text", "faultAt", "I", "DistantVoice")]
def xq_nM : List (String × Nat × MethodName × String) := [("DistantVoice", 9, ⟨"DistantVoice$Tape", "<init>", "()V"⟩, "DistantVoice"), ("DistantVoice", 18, ⟨"DistantVoice$Moment", "<init>", "()V"⟩, "DistantVoice"), ("DistantVoice$Past", 28, ⟨"DistantVoice$Moment", "<init>", "()V"⟩, "DistantVoice"), ("DistantVoice", 35, ⟨"DistantVoice$Marks", "<init>", "()V"⟩, "DistantVoice"), ("DistantVoice", 42, ⟨"DistantVoice$Seating", "<init>", "()V"⟩, "DistantVoice"), ("DistantVoice", 49, ⟨"DistantVoice$Image", "<init>", "()V"⟩, "DistantVoice"), ("DistantVoice", 66, ⟨"DistantVoice$House", "<init>", "()V"⟩, "DistantVoice"), ("DistantVoice$HouseReader", 11, ⟨"DistantVoice$House", "<init>", "()V"⟩, "DistantVoice"), ("DistantVoice$Image", 75, ⟨"DistantVoice", "isDigit", "(I)Z"⟩, "DistantVoice")]
def xq_NN (U : State) : Prop := (∀ t ∈ xq_nF, va_Nw (.fieldLinkNest t.1 t.2.1 t.2.2.1 t.2.2.2.1 t.2.2.2.2.1 t.2.2.2.2.2) U) ∧ ∀ t ∈ xq_nM, va_Nw (.methodLinkNest t.1 t.2.1 t.2.2.1 t.2.2.2) U
theorem xq_NN.warm {s U : State} (hW : s.WarmedH U.vm) (h : xq_NN s) : xq_NN U := ⟨fun t ht => va_Nw.warmF hW (h.1 t ht), fun t ht => va_Nw.warmM hW (h.2 t ht)⟩
theorem xq_NN.same {u U : State} (e : u.vm = U.vm) (h : xq_NN u) : xq_NN U := ⟨fun t ht => va_Nw.same rfl e (h.1 t ht), fun t ht => va_Nw.same rfl e (h.2 t ht)⟩
def xq_t0 : String := ";,()[]+-*/%<>="
def xq_t1 : String := "round voice hush cough ear row sharp place at talk goes hears talks night mile rounds far if or and not all min max "
def xq_len : List Nat := [14, 116]
def xq_byt : List (List Int32) := [[59, 44, 40, 41, 91, 93, 43, 45, 42, 47, 37, 60, 62, 61], [114, 111, 117, 110, 100, 32, 118, 111, 105, 99, 101, 32, 104, 117, 115, 104, 32, 99, 111, 117, 103, 104, 32, 101, 97, 114, 32, 114, 111, 119, 32, 115, 104, 97, 114, 112, 32, 112, 108, 97, 99, 101, 32, 97, 116, 32, 116, 97, 108, 107, 32, 103, 111, 101, 115, 32, 104, 101, 97, 114, 115, 32, 116, 97, 108, 107, 115, 32, 110, 105, 103, 104, 116, 32, 109, 105, 108, 101, 32, 114, 111, 117, 110, 100, 115, 32, 102, 97, 114, 32, 105, 102, 32, 111, 114, 32, 97, 110, 100, 32, 110, 111, 116, 32, 97, 108, 108, 32, 109, 105, 110, 32, 109, 97, 120, 32]]
/-- what goes along with each contract: the nest's links, the array class of the moments, the two String constants and the JDK's two statics, all below z -/
def xq_EV (z : Nat) (ad : Nat → Nat) (U : State) : Prop := xq_NN U ∧ va_AO "DistantVoice$Moment" U ∧ vk_S 2 xq_len xq_byt ad (fun i => ad (i + 2)) (fun q => z ≤ q) U U.heap ∧ vk_R "DistantVoice$Text" 65 xq_t0 (ad 0) U ∧ vk_R "DistantVoice$Text" 90 xq_t1 (ad 1) U ∧ va_Z "java/lang/String" "COMPACT_STRINGS" "Z" (.int 1) (fun q => z ≤ q) U U.heap ∧ va_Zq "jdk/internal/util/Preconditions" "SIOOBE_FORMATTER" "Ljava/util/function/BiFunction;" (fun q => z ≤ q) U U.heap
theorem xq_EV.go {z : Nat} {ad : Nat → Nat} {s U : State} (hW : s.WarmedH U.vm) (hq : ∀ a : Nat, a < s.heap.size → ¬ z ≤ a → U.heap[a]? = s.heap[a]?) (h : xq_EV z ad s) : xq_EV z ad U :=
  ⟨h.1.warm hW, h.2.1.moved hW.alike, (h.2.2.1.moved hW.alike).kept hq, h.2.2.2.1.warm hW, h.2.2.2.2.1.warm hW, (h.2.2.2.2.2.1.moved hW.alike).kept hq, (h.2.2.2.2.2.2.moved hW.alike).kept hq⟩
theorem xq_EV.calling {z : Nat} {ad : Nat → Nat} {U : State} {g : JFrame} {mk : MethodId} {a : Array Value} (h : xq_EV z ad U) : xq_EV z ad (U.calling g mk a) :=
  ⟨h.1.same rfl, va_AO.moved (u := U) (U := U.calling g mk a) (Vm.Alike.refl U.vm) h.2.1, vk_S.moved (u := U) (U := U.calling g mk a) (Vm.Alike.refl U.vm) h.2.2.1, vk_R.same (u := U) (U := U.calling g mk a) rfl h.2.2.2.1, vk_R.same (u := U) (U := U.calling g mk a) rfl h.2.2.2.2.1, va_Z.moved (u := U) (U := U.calling g mk a) (Vm.Alike.refl U.vm) h.2.2.2.2.2.1, va_Zq.moved (u := U) (U := U.calling g mk a) (Vm.Alike.refl U.vm) h.2.2.2.2.2.2⟩
/-- the same, seen from within a method that may change A -/
def xq_Env (z : Nat) (ad : Nat → Nat) (A : Nat → Prop) (s : State) : Prop := xq_EV z ad s ∧ z ≤ s.heap.size ∧ ∀ q, A q → z ≤ q
theorem xq_Env.of {z : Nat} {ad : Nat → Nat} {s : State} {ws : va_W} (h : xq_EV z ad s) (hz : z ≤ s.heap.size) (hD : va_D (fun q => z ≤ q) ws) : xq_Env z ad (va_A ws s.heap.size) s := by
  refine ⟨h, hz, fun q hq => ?_⟩
  rcases hq with ⟨k, e, hk⟩ | hq
  · exact hD.2 k (q, e) hk
  · exact Nat.le_trans hz hq
/-- a contract: from the world wc the method returns rv, its world is w1, at the same addresses; nothing else has moved, nothing is made -/
abbrev xq_W0 (D : va_G) (cl : List vw_C) (tys : List (ClassId × FieldType)) (z : Nat) (ad : Nat → Nat) (ws : va_W) (sz : Nat) : State → Prop := fun U => U.heap.size = sz ∧ va_P D cl ws U.heap ∧ va_K D cl tys U ∧ va_D (fun q => z ≤ q) ws ∧ xq_EV z ad U ∧ z ≤ sz
def xq_Q (D : va_G) (cl : List vw_C) (tys : List (ClassId × FieldType)) (A : Nat → Prop) (w1 : va_W) (rv : Option Value) : Array Value → State → Outcome → State → Prop := fun _ st oc t => (oc = .returned rv ∧ va_P D cl w1 t.heap ∧ va_K D cl tys t ∧ va_D A w1) ∧ va_F A st t
abbrev xq_Ct (l : Launch) (y : MethodName) (wsy : List Cond) (rm : Room) (D : va_G) (cl : List vw_C) (tys : List (ClassId × FieldType)) (z : Nat) (ad : Nat → Nat) (av : List Value) (wc w1 : va_W) (rv : Option Value) : Prop := ∀ sz : Nat, Met l y wsy rm (va_Pc av (xq_W0 D cl tys z ad wc sz)) (xq_Q D cl tys (va_A wc sz) w1 rv) 0 0 (va_A wc sz)
section XG
variable {p : Program} {l : Launch} {e : Env} {R : Room} {s : State} {m : MethodId} {args : Array Value} {below : List Frame} {meth : Method} {c : Code} {H : Heap} {locs : List Loc} {cells slots : Nat} {Q : State → Prop}
variable {cc : ByteArray} {pc : Nat} {ls : Array Slot} {rest : List Value} {D : va_G} {cl : List vw_C} {A : Nat → Prop} {a : Nat} {tys : List (ClassId × FieldType)} {ws : va_W} {H0 : Heap} {β : Type} {r : β} {z : Nat} {ad : Nat → Nat}
theorem xq_iald (hx : p.tables.exec = Jvm.exec) (hb : c.code = cc) (hK : va_K D cl tys s) (hP : va_P D cl ws H) (q0 t0 : Nat) {cA : ClassId} {n : Nat} {f : Nat → Int32} (ha : ws[q0]? = some (a, .inl (cA, n, .inl f))) (ht : tys[t0]? = some (cA, .int)) {i : Int32} {k : Int32 → Option β} (hf : xq_bd (xq_ald n f i) k = some r) (hdg : decode cc pc = .ok (.iaload, 1))
    (kk : ∀ v : Int32, k v = some r → W p l e R s m args below meth c H locs cells slots Q (F0 m (pc + 1) ls (.int v :: rest))) : W p l e R s m args below meth c H locs cells slots Q (F0 m pc ls (.int i :: .ref a :: rest)) := by
  obtain ⟨v, h1, h2⟩ := xq_bd_some hf
  obtain ⟨hin, rfl⟩ := xq_ald_some h1
  exact va_iald hx hb hK hP q0 t0 ha ht hin hdg (kk _ h2)
theorem xq_bald (hx : p.tables.exec = Jvm.exec) (hb : c.code = cc) (hK : va_K D cl tys s) (hP : va_P D cl ws H) (q0 t0 : Nat) {cA : ClassId} {n : Nat} {f : Nat → Int32} (ha : ws[q0]? = some (a, .inl (cA, n, .inl f))) (ht : tys[t0]? = some (cA, .byte)) {i : Int32} {k : Int32 → Option β} (hf : xq_bd (xq_ald n f i) k = some r) (hdg : decode cc pc = .ok (.baload, 1))
    (kk : ∀ v : Int32, k v = some r → W p l e R s m args below meth c H locs cells slots Q (F0 m (pc + 1) ls (.int v :: rest))) : W p l e R s m args below meth c H locs cells slots Q (F0 m pc ls (.int i :: .ref a :: rest)) := by
  obtain ⟨v, h1, h2⟩ := xq_bd_some hf
  obtain ⟨hin, rfl⟩ := xq_ald_some h1
  exact va_bald hx hb hK hP q0 t0 ha ht hin hdg (kk _ h2)
theorem xq_zald (hx : p.tables.exec = Jvm.exec) (hb : c.code = cc) (hK : va_K D cl tys s) (hP : va_P D cl ws H) (q0 t0 : Nat) {cA : ClassId} {n : Nat} {f : Nat → Int32} (ha : ws[q0]? = some (a, .inl (cA, n, .inl f))) (ht : tys[t0]? = some (cA, .boolean)) {i : Int32} {k : Int32 → Option β} (hf : xq_bd (xq_ald n f i) k = some r) (hdg : decode cc pc = .ok (.baload, 1))
    (kk : ∀ v : Int32, k v = some r → W p l e R s m args below meth c H locs cells slots Q (F0 m (pc + 1) ls (.int v :: rest))) : W p l e R s m args below meth c H locs cells slots Q (F0 m pc ls (.int i :: .ref a :: rest)) := by
  obtain ⟨v, h1, h2⟩ := xq_bd_some hf
  obtain ⟨hin, rfl⟩ := xq_ald_some h1
  exact va_zald hx hb hK hP q0 t0 ha ht hin hdg (kk _ h2)
theorem xq_lald (hx : p.tables.exec = Jvm.exec) (hb : c.code = cc) (hK : va_K D cl tys s) (hP : va_P D cl ws H) (q0 t0 : Nat) {cA : ClassId} {n : Nat} {f : Nat → Int64} (ha : ws[q0]? = some (a, .inl (cA, n, .inr (.inl f)))) (ht : tys[t0]? = some (cA, .long)) {i : Int32} {k : Int64 → Option β} (hf : xq_bd (xq_aldL n f i) k = some r) (hdg : decode cc pc = .ok (.laload, 1))
    (kk : ∀ v : Int64, k v = some r → W p l e R s m args below meth c H locs cells slots Q (F0 m (pc + 1) ls (.long v :: rest))) : W p l e R s m args below meth c H locs cells slots Q (F0 m pc ls (.int i :: .ref a :: rest)) := by
  obtain ⟨v, h1, h2⟩ := xq_bd_some hf
  obtain ⟨hin, rfl⟩ := xq_aldL_some h1
  exact va_lald hx hb hK hP q0 t0 ha ht hin hdg (kk _ h2)
theorem xq_iast (hx : p.tables.exec = Jvm.exec) (hb : c.code = cc) (hK : va_K D cl tys s) (hP : va_P D cl ws H) (hD : va_D A ws) (hS : va_S A H0 H locs) (q0 t0 : Nat) {cA : ClassId} {n : Nat} {f : Nat → Int32} (ha : ws[q0]? = some (a, .inl (cA, n, .inl f))) (ht : tys[t0]? = some (cA, .int)) {i x : Int32} {k : (Nat → Int32) → Option β} (hf : xq_bd (xq_ast n f i x) k = some r) (hdg : decode cc pc = .ok (.iastore, 1))
    (kk : ∀ (g : Nat → Int32) (H1 : Heap) (locs1 : List Loc), k g = some r → va_P D cl (ws.set q0 (a, .inl (cA, n, .inl g))) H1 → va_D A (ws.set q0 (a, .inl (cA, n, .inl g))) → va_S A H0 H1 locs1 → W p l e R s m args below meth c H1 locs1 cells slots Q (F0 m (pc + 1) ls rest)) : W p l e R s m args below meth c H locs cells slots Q (F0 m pc ls (.int x :: .int i :: .ref a :: rest)) := by
  obtain ⟨v, h1, h2⟩ := xq_bd_some hf
  obtain ⟨hin, rfl⟩ := xq_ast_some h1
  exact va_iast hx hb hK hP hD hS q0 t0 ha ht hin hdg (fun H1 l1 => kk _ H1 l1 h2)
theorem xq_bast (hx : p.tables.exec = Jvm.exec) (hb : c.code = cc) (hK : va_K D cl tys s) (hP : va_P D cl ws H) (hD : va_D A ws) (hS : va_S A H0 H locs) (q0 t0 : Nat) {cA : ClassId} {n : Nat} {f : Nat → Int32} (ha : ws[q0]? = some (a, .inl (cA, n, .inl f))) (ht : tys[t0]? = some (cA, .byte)) {i x : Int32} {k : (Nat → Int32) → Option β} (hf : xq_bd (xq_ast n f i (vp_nar .byte x)) k = some r) (hdg : decode cc pc = .ok (.bastore, 1))
    (kk : ∀ (g : Nat → Int32) (H1 : Heap) (locs1 : List Loc), k g = some r → va_P D cl (ws.set q0 (a, .inl (cA, n, .inl g))) H1 → va_D A (ws.set q0 (a, .inl (cA, n, .inl g))) → va_S A H0 H1 locs1 → W p l e R s m args below meth c H1 locs1 cells slots Q (F0 m (pc + 1) ls rest)) : W p l e R s m args below meth c H locs cells slots Q (F0 m pc ls (.int x :: .int i :: .ref a :: rest)) := by
  obtain ⟨v, h1, h2⟩ := xq_bd_some hf
  obtain ⟨hin, rfl⟩ := xq_ast_some h1
  exact va_bast hx hb hK hP hD hS q0 t0 ha ht hin hdg (fun H1 l1 => kk _ H1 l1 h2)
theorem xq_zast (hx : p.tables.exec = Jvm.exec) (hb : c.code = cc) (hK : va_K D cl tys s) (hP : va_P D cl ws H) (hD : va_D A ws) (hS : va_S A H0 H locs) (q0 t0 : Nat) {cA : ClassId} {n : Nat} {f : Nat → Int32} (ha : ws[q0]? = some (a, .inl (cA, n, .inl f))) (ht : tys[t0]? = some (cA, .boolean)) {i x : Int32} {k : (Nat → Int32) → Option β} (hf : xq_bd (xq_ast n f i (vp_nar .boolean x)) k = some r) (hdg : decode cc pc = .ok (.bastore, 1))
    (kk : ∀ (g : Nat → Int32) (H1 : Heap) (locs1 : List Loc), k g = some r → va_P D cl (ws.set q0 (a, .inl (cA, n, .inl g))) H1 → va_D A (ws.set q0 (a, .inl (cA, n, .inl g))) → va_S A H0 H1 locs1 → W p l e R s m args below meth c H1 locs1 cells slots Q (F0 m (pc + 1) ls rest)) : W p l e R s m args below meth c H locs cells slots Q (F0 m pc ls (.int x :: .int i :: .ref a :: rest)) := by
  obtain ⟨v, h1, h2⟩ := xq_bd_some hf
  obtain ⟨hin, rfl⟩ := xq_ast_some h1
  exact va_zast hx hb hK hP hD hS q0 t0 ha ht hin hdg (fun H1 l1 => kk _ H1 l1 h2)
theorem xq_last (hx : p.tables.exec = Jvm.exec) (hb : c.code = cc) (hK : va_K D cl tys s) (hP : va_P D cl ws H) (hD : va_D A ws) (hS : va_S A H0 H locs) (q0 t0 : Nat) {cA : ClassId} {n : Nat} {f : Nat → Int64} (ha : ws[q0]? = some (a, .inl (cA, n, .inr (.inl f)))) (ht : tys[t0]? = some (cA, .long)) {i : Int32} {x : Int64} {k : (Nat → Int64) → Option β} (hf : xq_bd (xq_astL n f i x) k = some r) (hdg : decode cc pc = .ok (.lastore, 1))
    (kk : ∀ (g : Nat → Int64) (H1 : Heap) (locs1 : List Loc), k g = some r → va_P D cl (ws.set q0 (a, .inl (cA, n, .inr (.inl g)))) H1 → va_D A (ws.set q0 (a, .inl (cA, n, .inr (.inl g)))) → va_S A H0 H1 locs1 → W p l e R s m args below meth c H1 locs1 cells slots Q (F0 m (pc + 1) ls rest)) : W p l e R s m args below meth c H locs cells slots Q (F0 m pc ls (.long x :: .int i :: .ref a :: rest)) := by
  obtain ⟨v, h1, h2⟩ := xq_bd_some hf
  obtain ⟨hin, rfl⟩ := xq_astL_some h1
  exact va_last hx hb hK hP hD hS q0 t0 ha ht hin hdg (fun H1 l1 => kk _ H1 l1 h2)
theorem xq_idiv (hx : p.tables.exec = Jvm.exec) (hb : c.code = cc) {x y : Int32} {k : Int32 → Option β} (hf : xq_bd (xq_dv x y) k = some r) (hdg : decode cc pc = .ok (.idiv, 1)) (kk : ∀ v : Int32, k v = some r → W p l e R s m args below meth c H locs cells slots Q (F0 m (pc + 1) ls (.int v :: rest))) : W p l e R s m args below meth c H locs cells slots Q (F0 m pc ls (.int y :: .int x :: rest)) := by
  obtain ⟨v, h1, h2⟩ := xq_bd_some hf
  obtain ⟨hn, rfl⟩ := xq_dv_some h1
  exact lv_idiv hx hb hdg hn (kk _ h2)
theorem xq_irem (hx : p.tables.exec = Jvm.exec) (hb : c.code = cc) {x y : Int32} {k : Int32 → Option β} (hf : xq_bd (xq_rm x y) k = some r) (hdg : decode cc pc = .ok (.irem, 1)) (kk : ∀ v : Int32, k v = some r → W p l e R s m args below meth c H locs cells slots Q (F0 m (pc + 1) ls (.int v :: rest))) : W p l e R s m args below meth c H locs cells slots Q (F0 m pc ls (.int y :: .int x :: rest)) := by
  obtain ⟨v, h1, h2⟩ := xq_bd_some hf
  obtain ⟨hn, rfl⟩ := xq_rm_some h1
  exact lv_irem hx hb hdg hn (kk _ h2)
theorem xq_ldiv (hx : p.tables.exec = Jvm.exec) (hb : c.code = cc) {x y : Int64} {k : Int64 → Option β} (hf : xq_bd (xq_dvL x y) k = some r) (hdg : decode cc pc = .ok (.ldiv, 1)) (kk : ∀ v : Int64, k v = some r → W p l e R s m args below meth c H locs cells slots Q (F0 m (pc + 1) ls (.long v :: rest))) : W p l e R s m args below meth c H locs cells slots Q (F0 m pc ls (.long y :: .long x :: rest)) := by
  obtain ⟨v, h1, h2⟩ := xq_bd_some hf
  obtain ⟨hn, rfl⟩ := xq_dvL_some h1
  exact lv_ldiv hx hb hdg hn (kk _ h2)
theorem xq_lrem (hx : p.tables.exec = Jvm.exec) (hb : c.code = cc) {x y : Int64} {k : Int64 → Option β} (hf : xq_bd (xq_rmL x y) k = some r) (hdg : decode cc pc = .ok (.lrem, 1)) (kk : ∀ v : Int64, k v = some r → W p l e R s m args below meth c H locs cells slots Q (F0 m (pc + 1) ls (.long v :: rest))) : W p l e R s m args below meth c H locs cells slots Q (F0 m pc ls (.long y :: .long x :: rest)) := by
  obtain ⟨v, h1, h2⟩ := xq_bd_some hf
  obtain ⟨hn, rfl⟩ := xq_rmL_some h1
  exact lv_lrem hx hb hdg hn (kk _ h2)
/-- behind a call whose contract is xq_Ct -/
theorem xq_go {av : Array Value} {st0 : List Value} {wc w1 : va_W} {rv : Option Value} (hr : va_Run p l e R s m args below meth c H locs cells slots 0 0 (F0 m pc ls st0) rest (xq_Q D cl tys (va_A wc H.size) w1 rv av) (va_A wc H.size)) (hP : va_P D cl ws H) (hD : va_D A ws) (hS : va_S A H0 H locs) (hA : ∀ q, H0.size ≤ q → A q) (isC : List Nat) (hC : isC.map (fun i => ws[i]?) = wc.map some) (ha : wc.map (fun q => q.1) = w1.map (fun q => q.1))
    (kk : ∀ (H1 : Heap) (locs1 : List Loc), va_P D cl (xq_bk (isC.zip w1) 0 ws) H1 → va_D A (xq_bk (isC.zip w1) 0 ws) → va_S A H0 H1 locs1 → W p l e R s m args below meth c H1 locs1 cells slots Q (F0 m (pc + 3) ls (rv.toList ++ rest))) : W p l e R s m args below meth c H locs cells slots Q (F0 m pc ls st0) := by
  intro T hT X
  have hFc := va_free (wc := wc) hD hS hA isC hC
  obtain ⟨v, st₀, t, T', L, h0, X', hL, e1, e2, ⟨⟨hv, hp1, hk1, hd1⟩, hz, hk⟩, st⟩ := hr T hT X
  cases hv
  rw [h0] at hz hk
  rw [← e1] at hp1
  obtain ⟨hP2, hD2⟩ := xq_back hP hD isC hC ha (fun q h1 h2 => by rw [e1]; exact hk q h1 h2) hp1
  obtain ⟨t2, a1, b1⟩ := kk T'.heap (locs ++ L) hP2 hD2
    ⟨Nat.le_trans hS.1 (by rw [e1]; exact hz), fun q h1 h2 => by rw [e1, hk q (Nat.lt_of_lt_of_le h1 hS.1) (fun z => h2 (hFc q z))]; exact hS.2.1 q h1 h2, fun q hq => by
      rcases List.mem_append.mp hq with h | h
      · exact hS.2.2 q h
      · exact hFc _ (hL q h)⟩ T' rfl X'
  exact ⟨t2, st t2 a1, b1⟩
theorem xq_pre {av : List Value} {wc : va_W} (hN : xq_Env z ad A s) (hK : va_K D cl tys s) (hP : va_P D cl ws H) (hD : va_D A ws) (hS : va_S A s.heap H locs) (isC : List Nat) (hn : va_nd isC = true) (hC : isC.map (fun i => ws[i]?) = wc.map some) : FrameBlind (va_Pc av (xq_W0 D cl tys z ad wc H.size)) ∧ ∀ U : State, U.heap = H → s.WarmedH U.vm → va_Pc av (xq_W0 D cl tys z ad wc H.size) av.toArray U := by
  have hPc : va_P D cl wc H := hP.sub isC (by
    have h2 := congrArg (List.filterMap id) hC
    rw [List.filterMap_map, List.filterMap_map] at h2
    rw [show (isC.filterMap fun i => ws[i]?) = List.filterMap (id ∘ fun i => ws[i]?) isC from rfl, h2]
    show List.filterMap some wc = wc
    exact List.filterMap_some)
  have hDc : va_D A wc := hD.sub isC hn hC
  refine ⟨fun a U g mk q => ?_, fun U hU hW => ⟨rfl, by rw [hU], by rw [hU]; exact hPc, va_K.moved hW.alike hK, hDc.weaken (fun _ q _ h => hN.2.2 q.1 h), hN.1.go hW (fun a h1 h2 => by rw [hU]; exact hS.2.1 a h1 (fun h => h2 (hN.2.2 a h))), Nat.le_trans hN.2.1 hS.1⟩⟩
  obtain ⟨q0, q1, qP, qK, qD, qN, qz⟩ := q
  exact ⟨q0, q1, qP, va_K.moved (u := U) (U := U.calling g mk a) (Vm.Alike.refl U.vm) qK, qD, qN.calling, qz⟩
theorem xq_callV {y : MethodName} {bytes : ByteArray} {maxL nL n index : Nat} {ret : Option FieldType} {wsy Ts : List Cond} {rm : Room} {own C : String} {b q0 ci : Nat} {As st0 fs : List Value} {wc w1 : va_W} {rv : Option Value} {q : vw_C} (S : CallFix p m c cc nL s args Ts own) (hM : xq_Ct l y wsy rm D cl tys z ad (.ref b :: As) wc w1 rv) (cw : CallW R s args own C index y bytes maxL ret wsy rm 0 0 n)
    (hN : xq_Env z ad A s) (hK : va_K D cl tys s) (hP : va_P D cl ws H) (hD : va_D A ws) (hS : va_S A s.heap H locs) (hA : ∀ q, s.heap.size ≤ q → A q) (isC : List Nat) (hnd : va_nd isC = true) (hC : isC.map (fun i => ws[i]?) = wc.map some) (ha : wc.map (fun q => q.1) = w1.map (fun q => q.1)) (hq : ws[q0]? = some (b, .inr (ci, fs))) (hc : cl[ci]? = some q) (hcC : q.1 = C)
    (hn : As.length = n) (hsize : ls.size = nL) (hst : st0 = As.reverse ++ .ref b :: rest) (hW : (rest.map fun v => v.category).sum ≤ 8) (hdg : decode cc pc = .ok (.invokevirtual index, 3)) (hf : cells ≤ R.cells ∧ slots ≤ R.slots)
    (kk : ∀ (H1 : Heap) (locs1 : List Loc), va_P D cl (xq_bk (isC.zip w1) 0 ws) H1 → va_D A (xq_bk (isC.zip w1) 0 ws) → va_S A s.heap H1 locs1 → W p l e R s m args below meth c H1 locs1 cells slots Q (F0 m (pc + 3) ls (rv.toList ++ rest))) : W p l e R s m args below meth c H locs cells slots Q (F0 m pc ls st0) := by
  obtain ⟨hbl, hpre⟩ := xq_pre (av := .ref b :: As) hN hK hP hD hS isC hnd hC
  subst hcC
  exact xq_go (va_runV (As := As) (rest := rest) (g := F0 m pc ls st0) S (hM H.size) cw ⟨hbl, va_recv hK hP hc hq, hpre⟩ rfl hn hsize hst (lv_room hW) hdg hf) hP hD hS hA isC hC ha kk
theorem xq_callS {y : MethodName} {bytes : ByteArray} {maxL nL n index : Nat} {ret : Option FieldType} {wsy Ts : List Cond} {rm : Room} {own : String} {As st0 : List Value} {wc w1 : va_W} {rv : Option Value} (S : CallFix p m c cc nL s args Ts own) (hM : xq_Ct l y wsy rm D cl tys z ad As wc w1 rv) (cw : CallB R s args own index y bytes maxL ret wsy rm 0 0 n ∧ (Cond.static y).before args s = true)
    (hN : xq_Env z ad A s) (hK : va_K D cl tys s) (hP : va_P D cl ws H) (hD : va_D A ws) (hS : va_S A s.heap H locs) (hA : ∀ q, s.heap.size ≤ q → A q) (isC : List Nat) (hnd : va_nd isC = true) (hC : isC.map (fun i => ws[i]?) = wc.map some) (ha : wc.map (fun q => q.1) = w1.map (fun q => q.1))
    (hn : As.length = n) (hsize : ls.size = nL) (hst : st0 = As.reverse ++ rest) (hW : (rest.map fun v => v.category).sum ≤ 8) (hdg : decode cc pc = .ok (.invokestatic index, 3)) (hf : cells ≤ R.cells ∧ slots ≤ R.slots)
    (kk : ∀ (H1 : Heap) (locs1 : List Loc), va_P D cl (xq_bk (isC.zip w1) 0 ws) H1 → va_D A (xq_bk (isC.zip w1) 0 ws) → va_S A s.heap H1 locs1 → W p l e R s m args below meth c H1 locs1 cells slots Q (F0 m (pc + 3) ls (rv.toList ++ rest))) : W p l e R s m args below meth c H locs cells slots Q (F0 m pc ls st0) := by
  obtain ⟨hbl, hpre⟩ := xq_pre (av := As) hN hK hP hD hS isC hnd hC
  exact xq_go (va_runS (As := As) (rest := rest) (g := F0 m pc ls st0) S (hM H.size) cw ⟨hbl, hpre⟩ rfl hn hsize hst (lv_room hW) hdg hf) hP hD hS hA isC hC ha kk
theorem xq_ok {w1 : va_W} {rv : Option Value} (hK : va_K D cl tys s) (hP : va_P D cl w1 H) (hD : va_D A w1) (hS : va_S A s.heap H locs) : ∀ t : State, t.heap = H → s.WarmedH t.vm → xq_Q D cl tys A w1 rv args s (.returned rv) t := fun t ht hW => ⟨⟨rfl, by rw [ht]; exact hP, va_K.moved hW.alike hK, hD⟩, hS.F ht⟩
theorem xq_iret {w1 : va_W} {v : Int32} (hx : p.tables.exec = Jvm.exec) (hb : c.code = cc) (hr : meth.sig.returnType = some .int) (hlocks : meth.locks = false) (hK : va_K D cl tys s) (hP : va_P D cl w1 H) (hD : va_D A w1) (hS : va_S A s.heap H locs) (hdg : decode cc pc = .ok (.ireturn, 1)) : W p l e R s m args below meth c H locs cells slots (MQ below (xq_Q D cl tys A w1 (some (.int v))) args s cells slots A) (F0 m pc ls [.int v]) := W.iret hx hb hr (xq_ok hK hP hD hS) hS.2.2 hdg hlocks
theorem xq_zret {w1 : va_W} {v : Int32} {ty : FieldType} (hx : p.tables.exec = Jvm.exec) (hb : c.code = cc) (hr : meth.sig.returnType = some ty) (hn : narrow ty (.int v) = .int v) (hlocks : meth.locks = false) (hK : va_K D cl tys s) (hP : va_P D cl w1 H) (hD : va_D A w1) (hS : va_S A s.heap H locs) (hdg : decode cc pc = .ok (.ireturn, 1)) : W p l e R s m args below meth c H locs cells slots (MQ below (xq_Q D cl tys A w1 (some (.int v))) args s cells slots A) (F0 m pc ls [.int v]) := W.zret hx hb hr hn (xq_ok hK hP hD hS) hS.2.2 hdg hlocks
theorem xq_lret {w1 : va_W} {v : Int64} (hx : p.tables.exec = Jvm.exec) (hb : c.code = cc) (hr : meth.sig.returnType = some .long) (hlocks : meth.locks = false) (hK : va_K D cl tys s) (hP : va_P D cl w1 H) (hD : va_D A w1) (hS : va_S A s.heap H locs) (hdg : decode cc pc = .ok (.lreturn, 1)) : W p l e R s m args below meth c H locs cells slots (MQ below (xq_Q D cl tys A w1 (some (.long v))) args s cells slots A) (F0 m pc ls [.long v]) := W.lret hx hb hr (xq_ok hK hP hD hS) hS.2.2 hdg hlocks
theorem xq_vret {w1 : va_W} (hx : p.tables.exec = Jvm.exec) (hb : c.code = cc) (hr : meth.sig.returnType = none) (hlocks : meth.locks = false) (hK : va_K D cl tys s) (hP : va_P D cl w1 H) (hD : va_D A w1) (hS : va_S A s.heap H locs) (hdg : decode cc pc = .ok (.return_, 1)) : W p l e R s m args below meth c H locs cells slots (MQ below (xq_Q D cl tys A w1 none) args s cells slots A) (F0 m pc ls []) := W.vret hx hb hr (xq_ok hK hP hD hS) hS.2.2 hdg hlocks
end XG
/-- a method's contract out of a walk of its body, also of a class of the JDK (no row for it among the natives) -/
theorem xq_ofW {l : Launch} {y : MethodName} {ws ws' : List Cond} {rm : Room} {Pc : Array Value → State → Prop} {Qc : Array Value → State → Outcome → State → Prop} {mc ms : Nat} {free : Addr → Prop} {cc : ByteArray} {maxL : Nat} {ret : Option FieldType}
    (hy : plainFor y = true) (hw : ws = Cond.code y cc maxL ret :: ws')
    (body : ∀ p e s m args below meth c s₁, BodyLoose p l y (headSpec ws rm) cc maxL ret e s m args below meth c s₁ → c.maxLocals = maxL → Pc args s →
      W p l e (headSpec ws rm).room s m args below meth c s.heap [] 0 0 (MQ below Qc args s mc ms free) (entryFrame m args maxL)) : Met l y ws rm Pc Qc mc ms free := by
  refine MetFree.of_bodySF (code := cc) (maxLocals := maxL) (ret := ret) hy ?_ ?_
  · intro args s m h hn
    obtain ⟨meth, c, h1, h2, h3, h4, h5, h6, -, -⟩ := Cond.code_spec hn (atoms_spec (ws := ws) h _ (by rw [hw]; exact List.mem_cons_self))
    exact ⟨meth, c, h1, h2, h3, h4, h5, h6⟩
  · intro p e s m args below meth c s₁ B hml hP _
    have hh0 : s₁.heap = s.heap := by rw [B.state]; rfl
    obtain ⟨t, a1, o, b1, b2, b3⟩ := body p e s m args below meth c s₁ B hml hP s₁ hh0 (Stand.of_body B)
    exact ⟨t, o, a1, b1, b2, ⟨b3.1, b3.2⟩⟩
