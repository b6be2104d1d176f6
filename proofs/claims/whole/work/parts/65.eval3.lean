/-! the code of a SUM or TEST: what kinds it leaves on the stack (true: 0 or 1), its value -/
def pe_t1 (ok : Nat → Bool) (c : Nat) (ts : List Bool) : Option (List Bool) :=
  if c < 20000 then (if c ≤ 9999 then some (decide (c ≤ 1) :: ts) else if ok c = true then some (false :: ts) else none)
  else if c = 20320 then (match ts with
    | true :: t => some (true :: t)
    | _ => none)
  else if c = 20317 then (match ts with
    | z :: y :: true :: t => some ((z && y) :: t)
    | _ => none)
  else match ts with
    | z :: y :: t =>
      if c = 20318 ∨ c = 20319 then (if (z && y) = true then some (true :: t) else none)
      else if c = 20060 ∨ c = 20061 ∨ c = 20062 then some (true :: t)
      else if c = 20037 ∨ c = 20042 ∨ c = 20043 ∨ c = 20045 ∨ c = 20047 ∨ c = 20322 ∨ c = 20323 then some (false :: t)
      else none
    | _ => none
def pe_tc (ok : Nat → Bool) : List Nat → List Bool → Option (List Bool)
  | [], ts => some ts
  | c :: L, ts => match pe_t1 ok c ts with
    | some us => if us.length ≤ 60 then pe_tc ok L us else none
    | none => none
def pe_val (vals : Nat → Int32) (c : Nat) : Int32 := if 10300 ≤ c then vals (c - 10300) else nI c
def pe_ev1 (vals : Nat → Int32) (c : Nat) (st : List Int32) : List Int32 :=
  if c < 20000 then pe_val vals c :: st
  else if c = 20320 then (match st with
    | x :: t => (1 - x) :: t
    | _ => [])
  else if c = 20317 then (match st with
    | z :: y :: x :: t => (if x = 0 then z else y) :: t
    | _ => [])
  else match st with
    | b :: a :: t => pe_op (c - 20000) a b :: t
    | _ => []
def pe_run (vals : Nat → Int32) : List Nat → List Int32 → List Int32
  | [], st => st
  | c :: L, st => pe_run vals L (pe_ev1 vals c st)
def pe_typ : List Bool → List Int32 → Prop
  | [], [] => True
  | b :: ts, x :: st => (b = true → x = 0 ∨ x = 1) ∧ (-1000000 ≤ x.toInt ∧ x.toInt ≤ 1000000) ∧ pe_typ ts st
  | _, _ => False
def pe_stk (F : Nat → Int32) : List Int32 → Prop
  | [] => True
  | x :: t => F t.length = x ∧ pe_stk F t
def pe_stkL (F : Nat → Int64) : List Int32 → Prop
  | [] => True
  | x :: t => F t.length = x.toInt64 ∧ pe_stkL F t
theorem pe_stk_upd {F : Nat → Int32} {x : Int32} : ∀ {t : List Int32} {k : Nat}, t.length ≤ k → pe_stk F t → pe_stk (upd F k x) t
  | [], _, _, _ => trivial
  | y :: t, k, h, q => by
    have h1 : t.length < k := h
    exact ⟨by rw [pk_un (Nat.ne_of_lt h1)]; exact q.1, pe_stk_upd (Nat.le_of_lt h1) q.2⟩
theorem pe_stkL_upd {F : Nat → Int64} {x : Int64} : ∀ {t : List Int32} {k : Nat}, t.length ≤ k → pe_stkL F t → pe_stkL (vp_updL F k x) t
  | [], _, _, _ => trivial
  | y :: t, k, h, q => by
    have h1 : t.length < k := h
    exact ⟨by rw [pk_uLn (Nat.ne_of_lt h1)]; exact q.1, pe_stkL_upd (Nat.le_of_lt h1) q.2⟩
theorem pe_typ_len : ∀ {ts : List Bool} {st : List Int32}, pe_typ ts st → ts.length = st.length
  | [], [], _ => rfl
  | _ :: _, _ :: _, h => by simp only [List.length_cons]; rw [pe_typ_len h.2.2]
  | [], _ :: _, h => h.elim
  | _ :: _, [], h => h.elim
/-- the kinds of a code that goes on: which it is -/
theorem pe_t1_cases {ok : Nat → Bool} {c : Nat} {ts us : List Bool} (h : pe_t1 ok c ts = some us) :
    (c ≤ 9999 ∧ us = decide (c ≤ 1) :: ts) ∨ (9999 < c ∧ c < 20000 ∧ ok c = true ∧ us = false :: ts) ∨ (c = 20320 ∧ ∃ t, ts = true :: t ∧ us = true :: t) ∨ (c = 20317 ∧ ∃ z y t, ts = z :: y :: true :: t ∧ us = (z && y) :: t) ∨
    (∃ z y t, ts = z :: y :: t ∧ ((c = 20318 ∨ c = 20319) ∧ z = true ∧ y = true ∧ us = true :: t)) ∨
    (∃ z y t, ts = z :: y :: t ∧ (c = 20060 ∨ c = 20061 ∨ c = 20062) ∧ us = true :: t) ∨
    (∃ z y t, ts = z :: y :: t ∧ (c = 20037 ∨ c = 20042 ∨ c = 20043 ∨ c = 20045 ∨ c = 20047 ∨ c = 20322 ∨ c = 20323) ∧ us = false :: t) := by
  unfold pe_t1 at h
  by_cases c1 : c < 20000
  · rw [if_pos c1] at h
    by_cases c2 : c ≤ 9999
    · rw [if_pos c2] at h; exact Or.inl ⟨c2, (Option.some.inj h).symm⟩
    · rw [if_neg c2] at h
      by_cases c3 : ok c = true
      · rw [if_pos c3] at h; exact Or.inr (Or.inl ⟨by omega, c1, c3, (Option.some.inj h).symm⟩)
      · rw [if_neg c3] at h; cases h
  · rw [if_neg c1] at h
    by_cases c2 : c = 20320
    · rw [if_pos c2] at h
      refine Or.inr (Or.inr (Or.inl ⟨c2, ?_⟩))
      match ts, h with
      | true :: t, h => exact ⟨t, rfl, (Option.some.inj h).symm⟩
    · rw [if_neg c2] at h
      by_cases c3 : c = 20317
      · rw [if_pos c3] at h
        refine Or.inr (Or.inr (Or.inr (Or.inl ⟨c3, ?_⟩)))
        match ts, h with
        | z :: y :: true :: t, h => exact ⟨z, y, t, rfl, (Option.some.inj h).symm⟩
      · rw [if_neg c3] at h
        match ts, h with
        | z :: y :: t, h =>
          have h : (if c = 20318 ∨ c = 20319 then (if (z && y) = true then some (true :: t) else none) else if c = 20060 ∨ c = 20061 ∨ c = 20062 then some (true :: t) else if c = 20037 ∨ c = 20042 ∨ c = 20043 ∨ c = 20045 ∨ c = 20047 ∨ c = 20322 ∨ c = 20323 then some (false :: t) else none) = some us := h
          by_cases c4 : c = 20318 ∨ c = 20319
          · rw [if_pos c4] at h
            by_cases c5 : (z && y) = true
            · rw [if_pos c5] at h
              have c6 := (Bool.and_eq_true _ _).mp c5
              exact Or.inr (Or.inr (Or.inr (Or.inr (Or.inl ⟨z, y, t, rfl, c4, c6.1, c6.2, (Option.some.inj h).symm⟩))))
            · rw [if_neg c5] at h; cases h
          · rw [if_neg c4] at h
            by_cases c5 : c = 20060 ∨ c = 20061 ∨ c = 20062
            · rw [if_pos c5] at h
              exact Or.inr (Or.inr (Or.inr (Or.inr (Or.inr (Or.inl ⟨z, y, t, rfl, c5, (Option.some.inj h).symm⟩)))))
            · rw [if_neg c5] at h
              by_cases c6 : c = 20037 ∨ c = 20042 ∨ c = 20043 ∨ c = 20045 ∨ c = 20047 ∨ c = 20322 ∨ c = 20323
              · rw [if_pos c6] at h
                exact Or.inr (Or.inr (Or.inr (Or.inr (Or.inr (Or.inr ⟨z, y, t, rfl, c6, (Option.some.inj h).symm⟩)))))
              · rw [if_neg c6] at h; cases h
theorem pe_typ_two {b1 b2 : Bool} {ts : List Bool} : ∀ {st : List Int32}, pe_typ (b1 :: b2 :: ts) st → ∃ x y t, st = x :: y :: t ∧ (b1 = true → x = 0 ∨ x = 1) ∧ (-1000000 ≤ x.toInt ∧ x.toInt ≤ 1000000) ∧ (b2 = true → y = 0 ∨ y = 1) ∧ (-1000000 ≤ y.toInt ∧ y.toInt ≤ 1000000) ∧ pe_typ ts t
  | x :: y :: t, h => ⟨x, y, t, rfl, h.1, h.2.1, h.2.2.1, h.2.2.2.1, h.2.2.2.2⟩
  | [], h => h.elim
  | [_], h => h.2.2.elim
theorem pe_typ_one {b1 : Bool} {ts : List Bool} : ∀ {st : List Int32}, pe_typ (b1 :: ts) st → ∃ x t, st = x :: t ∧ (b1 = true → x = 0 ∨ x = 1) ∧ (-1000000 ≤ x.toInt ∧ x.toInt ≤ 1000000) ∧ pe_typ ts t
  | x :: t, h => ⟨x, t, rfl, h.1, h.2.1, h.2.2⟩
  | [], h => h.elim
/-- what the words tell is small -/
def pe_env (ok : Nat → Bool) (vals : Nat → Int32) : Prop := ∀ c, ok c = true → 10300 ≤ c ∧ c < 10324 ∧ -1000000 ≤ (vals (c - 10300)).toInt ∧ (vals (c - 10300)).toInt ≤ 1000000
theorem pe_cmp01 (w : Nat) (hw : w = 60 ∨ w = 61 ∨ w = 62) (a b : Int32) : pe_op w a b = 0 ∨ pe_op w a b = 1 := by
  have e : pe_two w a.toInt b.toInt = 0 ∨ pe_two w a.toInt b.toInt = 1 := by
    rcases hw with rfl | rfl | rfl
    · show (if b.toInt ≤ a.toInt then (0 : Int) else 1) = 0 ∨ (if b.toInt ≤ a.toInt then (0 : Int) else 1) = 1
      split
      · exact Or.inl rfl
      · exact Or.inr rfl
    · show (if a.toInt = b.toInt then (1 : Int) else 0) = 0 ∨ (if a.toInt = b.toInt then (1 : Int) else 0) = 1
      split
      · exact Or.inr rfl
      · exact Or.inl rfl
    · show (if a.toInt ≤ b.toInt then (0 : Int) else 1) = 0 ∨ (if a.toInt ≤ b.toInt then (0 : Int) else 1) = 1
      split
      · exact Or.inl rfl
      · exact Or.inr rfl
  unfold pe_op
  rcases e with e | e
  · rw [e]; exact Or.inl rfl
  · rw [e]; exact Or.inr rfl
theorem pe_and01 (w : Nat) (hw : w = 318 ∨ w = 319) {a b : Int32} (ha : a = 0 ∨ a = 1) (hb : b = 0 ∨ b = 1) : pe_op w a b = 0 ∨ pe_op w a b = 1 := by
  rcases hw with rfl | rfl <;> rcases ha with rfl | rfl <;> rcases hb with rfl | rfl <;> decide
theorem pe_op_rng (w : Nat) (a b : Int32) : -1000000 ≤ (pe_op w a b).toInt ∧ (pe_op w a b).toInt ≤ 1000000 := by
  rw [pe_op_int]; exact pe_cl_rng _
theorem pe_nI_rng {c : Nat} (h : c ≤ 9999) : -1000000 ≤ (nI c).toInt ∧ (nI c).toInt ≤ 1000000 := by
  rw [nI_toInt (by omega)]; omega
theorem pe_ev_typ {ok : Nat → Bool} {vals : Nat → Int32} (hv : pe_env ok vals) {c : Nat} {ts us : List Bool} {st : List Int32} (h : pe_t1 ok c ts = some us) (ht : pe_typ ts st) : pe_typ us (pe_ev1 vals c st) := by
  rcases pe_t1_cases h with ⟨c1, rfl⟩ | ⟨c1, c2, c3, rfl⟩ | ⟨rfl, t, rfl, rfl⟩ | ⟨rfl, z, y, t, rfl, rfl⟩ | ⟨z, y, t, rfl, c1, rfl, rfl, rfl⟩ | ⟨z, y, t, rfl, c1, rfl⟩ | ⟨z, y, t, rfl, c1, rfl⟩
  · unfold pe_ev1 pe_val
    rw [if_pos (by omega), if_neg (by omega)]
    refine ⟨fun q => ?_, pe_nI_rng c1, ht⟩
    have q := of_decide_eq_true q
    have : c = 0 ∨ c = 1 := by omega
    rcases this with rfl | rfl
    · exact Or.inl rfl
    · exact Or.inr rfl
  · unfold pe_ev1 pe_val
    have := hv c c3
    rw [if_pos c2, if_pos this.1]
    exact ⟨fun q => (Bool.false_ne_true q).elim, this.2.2, ht⟩
  · obtain ⟨x, t2, rfl, h1, h2, h3⟩ := pe_typ_one ht
    show pe_typ (true :: t) ((1 - x) :: t2)
    rcases h1 rfl with rfl | rfl
    · exact ⟨fun _ => Or.inr rfl, by decide, h3⟩
    · exact ⟨fun _ => Or.inl rfl, by decide, h3⟩
  · obtain ⟨u, v, t2, rfl, h1, h2, h3, h4, h5⟩ := pe_typ_two ht
    obtain ⟨x, t3, rfl, h6, h7, h8⟩ := pe_typ_one h5
    show pe_typ ((z && y) :: t) ((if x = 0 then u else v) :: t3)
    refine ⟨fun q => ?_, ?_, h8⟩
    · have q := (Bool.and_eq_true _ _).mp q
      split
      · exact h1 q.1
      · exact h3 q.2
    · split
      · exact h2
      · exact h4
  · obtain ⟨b, a, t2, rfl, h1, h2, h3, h4, h5⟩ := pe_typ_two ht
    rcases c1 with rfl | rfl
    · exact ⟨fun _ => pe_and01 318 (Or.inl rfl) (h3 rfl) (h1 rfl), pe_op_rng _ _ _, h5⟩
    · exact ⟨fun _ => pe_and01 319 (Or.inr rfl) (h3 rfl) (h1 rfl), pe_op_rng _ _ _, h5⟩
  · obtain ⟨b, a, t2, rfl, h1, h2, h3, h4, h5⟩ := pe_typ_two ht
    rcases c1 with rfl | rfl | rfl
    · exact ⟨fun _ => pe_cmp01 60 (Or.inl rfl) a b, pe_op_rng _ _ _, h5⟩
    · exact ⟨fun _ => pe_cmp01 61 (Or.inr (Or.inl rfl)) a b, pe_op_rng _ _ _, h5⟩
    · exact ⟨fun _ => pe_cmp01 62 (Or.inr (Or.inr rfl)) a b, pe_op_rng _ _ _, h5⟩
  · obtain ⟨b, a, t2, rfl, h1, h2, h3, h4, h5⟩ := pe_typ_two ht
    rcases c1 with rfl | rfl | rfl | rfl | rfl | rfl | rfl <;> exact ⟨fun q => (Bool.false_ne_true q).elim, pe_op_rng _ _ _, h5⟩
theorem xs_m2 (n : Nat) : nI (n + 2) + (-2) = nI n := by
  rw [← nI_add, Int32.add_assoc]
  have : nI 2 + -2 = 0 := by decide
  rw [this, Int32.add_zero]
theorem xs_ge0 {c k : Nat} (h : k ≤ c) (hc : c < 2 ^ 31) : 0 ≤ nI c - nI k := by rw [pk_sub h]; exact nI_pos' (by omega)
theorem pe_valueOf (N : Nat) {ok : Nat → Bool} {vals : Nat → Int32} (hv : pe_env ok vals) {c : Nat} (h : c ≤ 9999 ∨ ok c = true) : fX0_valueOf N vals (nI c) = some (pe_val vals c) := by
  unfold fX0_valueOf pe_val
  rcases h with h | h
  · have e : ((nI c - 10000) - 300).toInt = (c : Int) - 10300 := by
      have e1 : (nI c).toInt = c := nI_toInt (by omega)
      have e2 : (10000 : Int32).toInt = 10000 := rfl
      have e3 : (300 : Int32).toInt = 300 := rfl
      have e4 : (nI c - 10000).toInt = (c : Int) - 10000 := by rw [fb_subI (by omega) (by omega)]; omega
      rw [fb_subI (by omega) (by omega)]; omega
    have e0 : (0 : Int32).toInt = 0 := rfl
    rw [if_pos (by rw [fa_lt, e, e0]; omega), if_neg (by omega)]
  · obtain ⟨h1, h2, -, -⟩ := hv c h
    have e : (nI c - 10000) - 300 = nI (c - 10300) := by
      show (nI c - nI 10000) - nI 300 = _
      rw [pk_sub (by omega), pk_sub (by omega)]
      exact nI_c (by omega)
    rw [e, if_neg (nI_pos (by omega)), if_neg (show ¬ (24 : Int32) ≤ nI (c - 10300) from nI_ge (b := 24) (by omega) (by omega)), xs_ald (by omega) (by omega), xs_bd, if_pos h1]
section EV
variable (N : Nat) {ok : Nat → Bool} {vals : Nat → Int32} {cF : Nat → Int32} {n : Nat}
theorem pe_cstep (hv : pe_env ok vals) {c i : Nat} {ts us : List Bool} {st : List Int32} {F : Nat → Int32} (h : pe_t1 ok c ts = some us) (hu : us.length ≤ 60) (ht : pe_typ ts st) (hF : pe_stk F st) (hc : cF i = nI c) (hi : i < n) (hn : n < 2 ^ 31)
    (kk : ((Nat → Int32) × Int32 × Int32) → Option (Int32 × (Nat → Int32))) : ∃ F', fX0_resultOf_l4 N cF vals n kk (F, nI st.length, nI i) = kk (F', nI (pe_ev1 vals c st).length, nI (i + 1)) ∧ pe_stk F' (pe_ev1 vals c st) := by
  have hlen := pe_typ_len ht
  have hb : ∀ G x2, fX0_resultOf_b200 N cF vals n kk (G, x2, nI i) = kk (G, x2, nI (i + 1)) := fun G x2 => by
    show kk (G, x2, nI i + 1) = _; rw [nI_1]
  have h0 : ∀ X Y : Option (Int32 × (Nat → Int32)), (if nI n ≤ nI i then X else Y) = Y := fun X Y => if_neg (nI_ge hi hn)
  have hl : xq_ald n cF (nI i) = some (nI c) := by rw [xs_ald hi hn, hc]
  show ∃ F', (if nI n ≤ nI i then _ else _) = _ ∧ _
  rw [h0, hl, xs_bd]
  have big : ∀ w : Nat, (nI (20000 + w)) - 20000 = nI w := fun w => by
    show nI (20000 + w) - nI 20000 = _
    rw [pk_sub (by omega)]; exact nI_c (by omega)
  rcases pe_t1_cases h with ⟨c1, rfl⟩ | ⟨c1, c2, c3, rfl⟩ | ⟨rfl, t, rfl, rfl⟩ | ⟨rfl, z, y, t, rfl, rfl⟩ | ⟨z, y, t, rfl, c1, rfl, rfl, rfl⟩ | ⟨z, y, t, rfl, c1, rfl⟩ | ⟨z, y, t, rfl, c1, rfl⟩
  · have hs : st.length < 64 := by rw [List.length_cons] at hu; omega
    rw [if_neg (by show ¬ 0 ≤ nI c - nI 20000; exact fun z => absurd (pk_sneg (a := c) (b := 20000) (by omega) (by omega)) (fun q => (fa_of_lt q).2.1 z)), if_neg (show ¬ (64 : Int32) ≤ nI st.length from nI_ge (b := 64) hs (by omega)), xs_bd, pe_valueOf N hv (Or.inl c1), xs_bd, xs_ast hs (by omega), xs_bd, hb, nI_1]
    have e1 : (pe_ev1 vals c st) = pe_val vals c :: st := by unfold pe_ev1; rw [if_pos (by omega)]
    rw [e1]
    exact ⟨_, rfl, pk_us, pe_stk_upd (Nat.le_refl _) hF⟩
  · have hs : st.length < 64 := by rw [List.length_cons] at hu; omega
    rw [if_neg (by show ¬ 0 ≤ nI c - nI 20000; exact fun z => absurd (pk_sneg (a := c) (b := 20000) (by omega) (by omega)) (fun q => (fa_of_lt q).2.1 z)), if_neg (show ¬ (64 : Int32) ≤ nI st.length from nI_ge (b := 64) hs (by omega)), xs_bd, pe_valueOf N hv (Or.inr c3), xs_bd, xs_ast hs (by omega), xs_bd, hb, nI_1]
    have e1 : (pe_ev1 vals c st) = pe_val vals c :: st := by unfold pe_ev1; rw [if_pos c2]
    rw [e1]
    exact ⟨_, rfl, pk_us, pe_stk_upd (Nat.le_refl _) hF⟩
  · obtain ⟨x, t2, rfl, h1, h2, h3⟩ := pe_typ_one ht
    have hs : t2.length < 62 := by have := pe_typ_len h3; simp only [List.length_cons] at hu; omega
    rw [big 320, if_pos (nI_pos' (by decide))]
    have el : nI (x :: t2).length = nI (t2.length + 1) := rfl
    rw [el]
    dsimp only [fX0_resultOf_b52]
    rw [if_pos (by decide), if_neg (show ¬ nI (t2.length + 1) < (1 : Int32) from nI_nlt (b := 1) (by omega) (by omega)), nI_pred, xs_ald (by omega) (by omega), xs_bd, xs_ast (by omega) (by omega), xs_bd, hb, hF.1]
    exact ⟨_, rfl, pk_us, pe_stk_upd (Nat.le_refl _) hF.2⟩
  · obtain ⟨u, v, t2, rfl, h1, h2, h3, h4, h5⟩ := pe_typ_two ht
    obtain ⟨x, t3, rfl, h6, h7, h8⟩ := pe_typ_one h5
    have hs : t3.length < 62 := by have := pe_typ_len h8; simp only [List.length_cons] at hu; omega
    rw [big 317, if_pos (nI_pos' (by decide))]
    have el : nI (u :: v :: x :: t3).length = nI (t3.length + 1 + 2) := rfl
    rw [el]
    dsimp only [fX0_resultOf_b52, fX0_resultOf_b86]
    rw [if_neg (by decide), if_pos (by decide), if_neg (show ¬ nI (t3.length + 1 + 2) < (3 : Int32) from nI_nlt (b := 3) (by omega) (by omega)), xs_m2, nI_pred, nI_1, xs_ald (by omega) (by omega), xs_bd, xs_ald (by omega) (by omega), xs_ald (by omega) (by omega), xs_bd, xs_bd]
    have q1 : F t3.length = x := hF.2.2.1
    have q2 : F (t3.length + 1) = v := hF.2.1
    have q3 : F (t3.length + 1 + 1) = u := hF.1
    rw [q1, q2, q3]
    show ∃ F', _ ∧ pe_stk F' ((if x = 0 then u else v) :: t3)
    by_cases c : x = 0
    · rw [if_pos c, if_pos c]
      show ∃ F', xq_bd (xq_ast 64 F (nI t3.length) u) _ = _ ∧ _
      rw [xs_ast (by omega) (by omega), xs_bd, hb]
      exact ⟨_, rfl, pk_us, pe_stk_upd (Nat.le_refl _) hF.2.2.2⟩
    · rw [if_neg c, if_neg c]
      show ∃ F', xq_bd (xq_ast 64 F (nI t3.length) v) _ = _ ∧ _
      rw [xs_ast (by omega) (by omega), xs_bd, hb]
      exact ⟨_, rfl, pk_us, pe_stk_upd (Nat.le_refl _) hF.2.2.2⟩
  all_goals
    obtain ⟨b, a, t2, rfl, h1, h2, h3, h4, h5⟩ := pe_typ_two ht
    have hs : t2.length < 62 := by have := pe_typ_len h5; simp only [List.length_cons] at hu; omega
    have hw : ∃ w, c = 20000 + w ∧ pe_isop w ∧ w ≠ 320 ∧ w ≠ 317 := by
      refine ⟨c - 20000, by omega, ?_, by omega, by omega⟩
      unfold pe_isop; omega
    obtain ⟨w, rfl, hop, n1, n2⟩ := hw
    have hwb : 0 < w ∧ w < 400 := by unfold pe_isop at hop; omega
    have e1 : pe_ev1 vals (20000 + w) (b :: a :: t2) = pe_op w a b :: t2 := by
      unfold pe_ev1
      rw [if_neg (by omega), if_neg (by omega), if_neg (by omega)]
      show pe_op (20000 + w - 20000) a b :: t2 = _
      rw [Nat.add_sub_cancel_left]
    rw [e1, big w, if_pos (nI_pos' (by omega))]
    have el : nI (b :: a :: t2).length = nI (t2.length + 1 + 1) := rfl
    rw [el]
    show ∃ F', (if nI w = 320 then _ else (if nI w = 317 then _ else (if nI w ≤ 0 then _ else (if nI (t2.length + 1 + 1) < 2 then _ else _)))) = _ ∧ _
    rw [if_neg (show ¬ _ = (320 : Int32) from fun z => n1 ((nI_eq (b := 320) (by omega) (by omega)).mp z)), if_neg (show ¬ _ = (317 : Int32) from fun z => n2 ((nI_eq (b := 317) (by omega) (by omega)).mp z)), if_neg (nI_nle hwb.1 (by omega)), if_neg (show ¬ _ < (2 : Int32) from nI_nlt (b := 2) (by omega) (by omega)), pk_m1, nI_pred, xs_ald (by omega) (by omega), xs_bd, xs_ald (by omega) (by omega), xs_bd]
    have q1 : F t2.length = a := hF.2.1
    have q2 : F (t2.length + 1) = b := hF.1
    rw [q1, q2]
    obtain ⟨r, k1, k2⟩ := pe_operate N hop (A := a.toInt64) (B := b.toInt64) (by rw [Int32.toInt_toInt64]; exact h4) (by rw [Int32.toInt_toInt64]; exact h2)
    rw [k1, xs_bd, xs_ast (by omega) (by omega), xs_bd, hb]
    refine ⟨_, rfl, ?_, pe_stk_upd (Nat.le_refl _) hF.2.2⟩
    rw [pk_us, fa_eq, pe_clampI, k2, pe_op_int, Int32.toInt_toInt64, Int32.toInt_toInt64]
/-- the class's value of a code -/
theorem pe_class (hv : pe_env ok vals) (hn : n < 2 ^ 31) {bo : Bool} : ∀ (L : List Nat) (ts : List Bool) (st : List Int32) (F : Nat → Int32) (i : Nat), pe_tc ok L ts = some [bo] → pe_typ ts st → pe_stk F st → (∀ j c, L[j]? = some c → cF (i + j) = nI c) → i + L.length = n → ∀ M, L.length < M →
    ∃ x F', pe_run vals L st = [x] ∧ pe_typ [bo] [x] ∧ xq_loop (fX0_resultOf_l4 N cF vals n) M (F, nI st.length, nI i) = some (x, F')
  | [], ts, st, F, i, h, ht, hF, hL, hi, M, hM => by
    have h : some ts = some [bo] := h
    cases h
    obtain ⟨x, t2, rfl, h1, h2, h3⟩ := pe_typ_one ht
    have : t2 = [] := List.eq_nil_of_length_eq_zero (pe_typ_len h3).symm
    subst this
    obtain ⟨m, rfl⟩ : ∃ m, M = m + 1 := ⟨M - 1, by simp only [List.length_nil] at hM; omega⟩
    refine ⟨x, F, rfl, ht, ?_⟩
    have hi : i = n := hi
    subst hi
    show (if nI i ≤ nI i then xq_bd (xq_ald 64 F (nI 0)) _ else _) = _
    rw [if_pos (nI_le (Nat.le_refl _) hn), xs_ald (by omega) (by omega), xs_bd]
    have q : F 0 = x := hF.1
    rw [q]
  | c :: L, ts, st, F, i, h, ht, hF, hL, hi, M, hM => by
    have h : (match pe_t1 ok c ts with
      | some us => if us.length ≤ 60 then pe_tc ok L us else none
      | none => none) = some [bo] := h
    cases h1 : pe_t1 ok c ts with
    | none => rw [h1] at h; cases h
    | some us =>
      rw [h1] at h
      have h : (if us.length ≤ 60 then pe_tc ok L us else none) = some [bo] := h
      by_cases hu : us.length ≤ 60
      · rw [if_pos hu] at h
        obtain ⟨m, rfl⟩ : ∃ m, M = m + 1 := ⟨M - 1, by omega⟩
        rw [List.length_cons] at hi hM
        have hc : cF i = nI c := by have := hL 0 c rfl; rwa [Nat.add_zero] at this
        obtain ⟨F', e1, e2⟩ := pe_cstep N (n := n) hv h1 hu ht hF hc (by omega) hn (xq_loop (fX0_resultOf_l4 N cF vals n) m)
        obtain ⟨x, F2, k1, k2, k3⟩ := pe_class hv hn L us (pe_ev1 vals c st) F' (i + 1) h (pe_ev_typ hv h1 ht) e2 (fun j d hj => by rw [Nat.add_assoc, Nat.add_comm 1 j]; exact hL (j + 1) d hj) (by omega) m (by omega)
        exact ⟨x, F2, k1, k2, e1.trans k3⟩
      · rw [if_neg hu] at h; cases h
end EV
