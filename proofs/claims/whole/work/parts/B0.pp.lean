/-! SUM and TEST as a plain parser over the class's pieces (kinds K, values V); a result is (FAULT or 0, the piece where it stands, the codes) -/
abbrev PPR := Nat × Nat × List Nat
def pp_bd (r : PPR) (k : Nat → PPR) : PPR := if r.1 = 0 then ((k r.2.1).1, (k r.2.1).2.1, r.2.2 ++ (k r.2.1).2.2) else r
def pp_ok (i : Nat) : PPR := (0, i, [])
def pp_tk (K : Nat → Int32) (c : Int32) (i : Nat) : PPR := if K i = c then (0, i + 1, []) else (1, i, [])
def pp_em (c i : Nat) : PPR := (0, i, [c])
def pp_in (d i : Nat) : PPR := if d ≤ 1 then (5, i, []) else (0, i + 1, [])
def pp_kn (K : Nat → Int32) (i : Nat) : Nat := (K i).toNatClampNeg
def pp_two (K : Nat → Int32) (sum : Nat → PPR) (w i : Nat) : PPR := pp_bd (pp_bd (pp_bd (pp_bd (sum i) (pp_tk K 44)) sum) (pp_tk K 41)) (pp_em (20000 + w))
def pp_call (K : Nat → Int32) (sum test : Nat → PPR) (d i : Nat) : PPR :=
  if K (i + 1) = 40 then (if K i = 317 then pp_bd (pp_bd (pp_bd (pp_in d (i + 1)) test) (pp_tk K 44)) (pp_two K sum (pp_kn K i)) else pp_bd (pp_in d (i + 1)) (pp_two K sum (pp_kn K i))) else (1, i + 1, [])
def pp_part (K V : Nat → Int32) (ok : Nat → Bool) (sum test : Nat → PPR) (d i : Nat) : PPR :=
  if K i = -3 then (0, i + 1, [(V i).toNatClampNeg])
  else if K i = 40 then pp_bd (pp_bd (pp_in d i) sum) (pp_tk K 41)
  else if K i = 317 ∨ K i = 322 ∨ K i = 323 then pp_call K sum test d i
  else if ok (10000 + pp_kn K i) = true then (0, i + 1, [10000 + pp_kn K i])
  else (1, i, [])
def pp_rep (K : Nat → Int32) (op : Int32 → Bool) (part : Nat → PPR) : Nat → Nat → PPR
  | 0, i => (0, i, [])
  | n + 1, i => if op (K i) = true then pp_bd (pp_bd (part (i + 1)) (pp_em (20000 + pp_kn K i))) (pp_rep K op part n) else (0, i, [])
def pp_mul (k : Int32) : Bool := decide (k = 42 ∨ k = 47 ∨ k = 37)
def pp_add (k : Int32) : Bool := decide (k = 43 ∨ k = 45)
def pp_and (k : Int32) : Bool := decide (k = 319)
def pp_or (k : Int32) : Bool := decide (k = 318)
def pp_prod (K : Nat → Int32) (part : Nat → PPR) (i : Nat) : PPR := pp_bd (part i) (pp_rep K pp_mul part 1600)
def pp_sum (K : Nat → Int32) (part : Nat → PPR) (i : Nat) : PPR := pp_bd (pp_prod K part i) (pp_rep K pp_add (pp_prod K part) 1600)
def pp_cmp (K : Nat → Int32) (sum : Nat → PPR) (i : Nat) : PPR := if K i = 60 ∨ K i = 62 ∨ K i = 61 then pp_bd (sum (i + 1)) (pp_em (20000 + pp_kn K i)) else (1, i, [])
def pp_fact (K : Nat → Int32) (sum test fact : Nat → PPR) (d i : Nat) : PPR :=
  if K i = 91 then pp_bd (pp_bd (pp_in d i) test) (pp_tk K 93)
  else if K i = 320 then pp_bd (pp_bd (pp_in d i) fact) (pp_em 20320)
  else if K i = 321 then (0, i + 1, [1])
  else pp_bd (sum i) (pp_cmp K sum)
def pp_both (K : Nat → Int32) (fact : Nat → PPR) (i : Nat) : PPR := pp_bd (fact i) (pp_rep K pp_and fact 1600)
def pp_test (K : Nat → Int32) (fact : Nat → PPR) (i : Nat) : PPR := pp_bd (pp_both K fact i) (pp_rep K pp_or (pp_both K fact) 1600)
def pp_grp (K V : Nat → Int32) (ok : Nat → Bool) : Nat → (Nat → PPR) × (Nat → PPR) × (Nat → PPR)
  | 0 => (fun i => (1, i, []), fun i => (1, i, []), fun i => (1, i, []))
  | d + 1 =>
    (pp_sum K (pp_part K V ok (pp_grp K V ok d).1 (pp_grp K V ok d).2.1 d),
     pp_test K (pp_fact K (pp_sum K (pp_part K V ok (pp_grp K V ok d).1 (pp_grp K V ok d).2.1 d)) (pp_grp K V ok d).2.1 (pp_grp K V ok d).2.2 d),
     pp_fact K (pp_sum K (pp_part K V ok (pp_grp K V ok d).1 (pp_grp K V ok d).2.1 d)) (pp_grp K V ok d).2.1 (pp_grp K V ok d).2.2 d)
theorem pp_bd0 {r : PPR} {k : Nat → PPR} (h : (pp_bd r k).1 = 0) : r.1 = 0 ∧ (k r.2.1).1 = 0 ∧ pp_bd r k = (0, (k r.2.1).2.1, r.2.2 ++ (k r.2.1).2.2) := by
  unfold pp_bd at h ⊢
  by_cases c : r.1 = 0
  · rw [if_pos c] at h ⊢
    have h : (k r.2.1).1 = 0 := h
    exact ⟨c, h, by rw [h]⟩
  · rw [if_neg c] at h; exact absurd h c
theorem pp_bd_pos {r : PPR} {k : Nat → PPR} (h : r.1 = 0) : pp_bd r k = ((k r.2.1).1, (k r.2.1).2.1, r.2.2 ++ (k r.2.1).2.2) := if_pos h
theorem pp_bd_neg {r : PPR} {k : Nat → PPR} (h : ¬ r.1 = 0) : pp_bd r k = r := if_neg h
theorem pp_bd_ok (r : PPR) : pp_bd r pp_ok = r := by
  by_cases c : r.1 = 0
  · rw [pp_bd_pos c]
    obtain ⟨f, i, L⟩ := r
    have c : f = 0 := c
    subst c
    show ((0 : Nat), i, L ++ []) = (0, i, L)
    rw [List.append_nil]
  · exact pp_bd_neg c
theorem pp_rep0 (K : Nat → Int32) (op : Int32 → Bool) (part : Nat → PPR) : pp_rep K op part 0 = pp_ok := rfl
/-! what the codes leave on the stack -/
theorem pe_tc_app {ok : Nat → Bool} : ∀ {A B : List Nat} {ts us : List Bool}, pe_tc ok A ts = some us → pe_tc ok (A ++ B) ts = pe_tc ok B us
  | [], B, ts, us, h => by cases h; rfl
  | c :: A, B, ts, us, h => by
    have h : (match pe_t1 ok c ts with
      | some us => if us.length ≤ 60 then pe_tc ok A us else none
      | none => none) = some us := h
    show (match pe_t1 ok c ts with
      | some us => if us.length ≤ 60 then pe_tc ok (A ++ B) us else none
      | none => none) = pe_tc ok B us
    cases e : pe_t1 ok c ts with
    | none => rw [e] at h; cases h
    | some vs =>
      rw [e] at h
      have h : (if vs.length ≤ 60 then pe_tc ok A vs else none) = some us := h
      show (if vs.length ≤ 60 then pe_tc ok (A ++ B) vs else none) = pe_tc ok B us
      by_cases c2 : vs.length ≤ 60
      · rw [if_pos c2] at h ⊢; exact pe_tc_app h
      · rw [if_neg c2] at h; cases h
theorem pe_tc_one {ok : Nat → Bool} {c : Nat} {ts us : List Bool} (h : pe_t1 ok c ts = some us) (hu : us.length ≤ 60) : pe_tc ok [c] ts = some us := by
  show (match pe_t1 ok c ts with
      | some us => if us.length ≤ 60 then pe_tc ok [] us else none
      | none => none) = some us
  rw [h]
  show (if us.length ≤ 60 then some us else none) = some us
  rw [if_pos hu]
def pp_ty (ok : Nat → Bool) (m : Nat) (q : Bool) (r : PPR) : Prop := r.1 = 0 → ∀ ts : List Bool, ts.length + m ≤ 60 → ∃ b : Bool, (q = true → b = true) ∧ pe_tc ok r.2.2 ts = some (b :: ts)
theorem pp_ty_mono {ok : Nat → Bool} {m m' : Nat} {q : Bool} {r : PPR} (h : pp_ty ok m q r) (hm : m ≤ m') : pp_ty ok m' q r := fun h0 ts ht => h h0 ts (by omega)
theorem pp_ty_bd {ok : Nat → Bool} {m : Nat} {q : Bool} {r : PPR} {k : Nat → PPR} (h : pp_ty ok m q r) (hk : (k r.2.1).1 = 0 → ∀ (ts : List Bool) (b : Bool), ts.length + m ≤ 60 → (q = true → b = true) → ∃ b' : Bool, (q = true → b' = true) ∧ pe_tc ok (k r.2.1).2.2 (b :: ts) = some (b' :: ts)) : pp_ty ok m q (pp_bd r k) := by
  intro h0 ts ht
  obtain ⟨h1, h2, h3⟩ := pp_bd0 h0
  obtain ⟨b, e1, e2⟩ := h h1 ts ht
  rw [h3]
  obtain ⟨b', f1, f2⟩ := hk h2 ts b ht e1
  exact ⟨b', f1, (pe_tc_app e2).trans f2⟩
def pp_opT (ok : Nat → Bool) (q : Bool) (c : Nat) : Prop := ∀ (z y : Bool) (ts : List Bool), (q = true → z = true ∧ y = true) → ts.length + 1 ≤ 60 → ∃ b : Bool, (q = true → b = true) ∧ pe_tc ok [c] (z :: y :: ts) = some (b :: ts)
theorem pp_ty_rep {ok : Nat → Bool} {m : Nat} {q : Bool} {K : Nat → Int32} {op : Int32 → Bool} {part : Nat → PPR} (hm : 1 ≤ m) (hp : ∀ i, pp_ty ok m q (part i)) (hop : ∀ i, op (K i) = true → pp_opT ok q (20000 + pp_kn K i)) :
    ∀ (n i : Nat), (pp_rep K op part n i).1 = 0 → ∀ (ts : List Bool) (b : Bool), ts.length + (m + 1) ≤ 60 → (q = true → b = true) → ∃ b' : Bool, (q = true → b' = true) ∧ pe_tc ok (pp_rep K op part n i).2.2 (b :: ts) = some (b' :: ts)
  | 0, i, _, ts, b, _, hb => ⟨b, hb, rfl⟩
  | n + 1, i, h, ts, b, ht, hb => by
    unfold pp_rep at h ⊢
    by_cases c : op (K i) = true
    · rw [if_pos c] at h ⊢
      obtain ⟨h1, h2, h3⟩ := pp_bd0 h
      obtain ⟨g1, g2, g3⟩ := pp_bd0 h1
      obtain ⟨b1, e1, e2⟩ := hp (i + 1) g1 (b :: ts) (by show ts.length + 1 + m ≤ 60; omega)
      obtain ⟨b2, f1, f2⟩ := hop i c b1 b ts (fun z => ⟨e1 z, hb z⟩) (by omega)
      obtain ⟨b3, k1, k2⟩ := pp_ty_rep hm hp hop n _ h2 ts b2 ht f1
      refine ⟨b3, k1, ?_⟩
      rw [h3]
      show pe_tc ok ((pp_bd (part (i + 1)) (pp_em (20000 + pp_kn K i))).2.2 ++ _) (b :: ts) = _
      refine (pe_tc_app (us := b2 :: ts) ?_).trans k2
      rw [g3]
      exact (pe_tc_app e2).trans f2
    · rw [if_neg c]; exact ⟨b, hb, rfl⟩
theorem pp_op2 {ok : Nat → Bool} {c : Nat} (h : c = 20042 ∨ c = 20047 ∨ c = 20037 ∨ c = 20043 ∨ c = 20045 ∨ c = 20322 ∨ c = 20323) : pp_opT ok false c := by
  intro z y ts _ ht
  refine ⟨false, fun z => z, pe_tc_one (us := false :: ts) ?_ (by show ts.length + 1 ≤ 60; omega)⟩
  rcases h with rfl | rfl | rfl | rfl | rfl | rfl | rfl <;> rfl
theorem pp_op3 {ok : Nat → Bool} {c : Nat} (h : c = 20318 ∨ c = 20319) : pp_opT ok true c := by
  intro z y ts hz ht
  obtain ⟨h1, h2⟩ := hz rfl
  subst h1 h2
  refine ⟨true, fun z => z, pe_tc_one (us := true :: ts) ?_ (by show ts.length + 1 ≤ 60; omega)⟩
  rcases h with rfl | rfl <;> rfl
theorem pp_op4 {ok : Nat → Bool} {c : Nat} (h : c = 20060 ∨ c = 20062 ∨ c = 20061) (z y : Bool) (ts : List Bool) (ht : ts.length + 1 ≤ 60) : pe_tc ok [c] (z :: y :: ts) = some (true :: ts) := by
  refine pe_tc_one (us := true :: ts) ?_ (by show ts.length + 1 ≤ 60; omega)
  rcases h with rfl | rfl | rfl <;> rfl
theorem pp_kn_eq {K : Nat → Int32} {i c : Nat} (h : K i = nI c) (hc : c < 2 ^ 31) : pp_kn K i = c := by unfold pp_kn; rw [h, nI_clamp hc]
theorem pp_mul_c {K : Nat → Int32} {i : Nat} (h : pp_mul (K i) = true) : 20000 + pp_kn K i = 20042 ∨ 20000 + pp_kn K i = 20047 ∨ 20000 + pp_kn K i = 20037 := by
  rcases of_decide_eq_true h with e | e | e
  · have := pp_kn_eq (c := 42) e (by decide); omega
  · have := pp_kn_eq (c := 47) e (by decide); omega
  · have := pp_kn_eq (c := 37) e (by decide); omega
theorem pp_add_c {K : Nat → Int32} {i : Nat} (h : pp_add (K i) = true) : 20000 + pp_kn K i = 20043 ∨ 20000 + pp_kn K i = 20045 := by
  rcases of_decide_eq_true h with e | e
  · have := pp_kn_eq (c := 43) e (by decide); omega
  · have := pp_kn_eq (c := 45) e (by decide); omega
theorem pp_and_c {K : Nat → Int32} {i : Nat} (h : pp_and (K i) = true) : 20000 + pp_kn K i = 20319 := by
  have := pp_kn_eq (c := 319) (of_decide_eq_true h) (by decide); omega
theorem pp_or_c {K : Nat → Int32} {i : Nat} (h : pp_or (K i) = true) : 20000 + pp_kn K i = 20318 := by
  have := pp_kn_eq (c := 318) (of_decide_eq_true h) (by decide); omega
theorem pp_in0 {d i : Nat} (h : (pp_in d i).1 = 0) : 2 ≤ d ∧ pp_in d i = (0, i + 1, []) := by
  unfold pp_in at h ⊢
  by_cases c : d ≤ 1
  · rw [if_pos c] at h; cases h
  · rw [if_neg c]; exact ⟨by omega, rfl⟩
theorem pp_tk0 {K : Nat → Int32} {c : Int32} {i : Nat} (h : (pp_tk K c i).1 = 0) : K i = c ∧ pp_tk K c i = (0, i + 1, []) := by
  unfold pp_tk at h ⊢
  by_cases e : K i = c
  · rw [if_pos e]; exact ⟨e, rfl⟩
  · rw [if_neg e] at h; cases h
theorem pp_ty_two {ok : Nat → Bool} {K : Nat → Int32} {sum : Nat → PPR} {m w i : Nat} (hs : ∀ i, pp_ty ok m false (sum i)) (h : (pp_two K sum w i).1 = 0) (ts : List Bool) (ht : ts.length + 1 + m ≤ 60) : ∃ b1 b2 : Bool, pe_tc ok (pp_two K sum w i).2.2 ts = pe_tc ok [20000 + w] (b2 :: b1 :: ts) := by
  unfold pp_two at h ⊢
  obtain ⟨h1, -, h3⟩ := pp_bd0 h
  obtain ⟨g1, g2, g3⟩ := pp_bd0 h1
  obtain ⟨f1, f2, f3⟩ := pp_bd0 g1
  obtain ⟨k1, k2, k3⟩ := pp_bd0 f1
  obtain ⟨-, t1⟩ := pp_tk0 k2
  obtain ⟨-, t2⟩ := pp_tk0 g2
  obtain ⟨b1, -, e1⟩ := hs i k1 ts (by omega)
  obtain ⟨b2, -, e2⟩ := hs _ f2 (b1 :: ts) (by show ts.length + 1 + m ≤ 60; omega)
  refine ⟨b1, b2, ?_⟩
  rw [h3]
  refine pe_tc_app ?_
  rw [g3]
  show pe_tc ok (_ ++ (pp_tk K 41 _).2.2) ts = _
  rw [t2]
  show pe_tc ok (_ ++ []) ts = _
  rw [List.append_nil, f3]
  refine (pe_tc_app (us := b1 :: ts) ?_).trans e2
  rw [k3]
  show pe_tc ok (_ ++ (pp_tk K 44 _).2.2) ts = _
  rw [t1]
  show pe_tc ok (_ ++ []) ts = _
  rw [List.append_nil]; exact e1
theorem pp_ty_part {ok : Nat → Bool} (hok : ∀ c, ok c = true → 10300 ≤ c ∧ c < 10324) {K V : Nat → Int32} (hV : ∀ i, K i = -3 → (V i).toNatClampNeg ≤ 9999) {sum test : Nat → PPR} {d : Nat} (hs : 1 ≤ d → ∀ i, pp_ty ok (5 * d - 2) false (sum i)) (htt : 1 ≤ d → ∀ i, pp_ty ok (5 * d + 1) true (test i)) (i : Nat) : pp_ty ok (5 * d + 1) false (pp_part K V ok sum test d i) := by
  unfold pp_part
  by_cases c1 : K i = -3
  · rw [if_pos c1]
    intro _ ts ht
    have := hV i c1
    refine ⟨decide ((V i).toNatClampNeg ≤ 1), fun z => absurd z (by decide), pe_tc_one ?_ (by show ts.length + 1 ≤ 60; omega)⟩
    unfold pe_t1
    rw [if_pos (by omega), if_pos this]
  rw [if_neg c1]
  by_cases c2 : K i = 40
  · rw [if_pos c2]
    intro h0 ts ht
    obtain ⟨h1, h2, h3⟩ := pp_bd0 h0
    obtain ⟨g1, g2, g3⟩ := pp_bd0 h1
    obtain ⟨hd, gi⟩ := pp_in0 g1
    obtain ⟨-, t1⟩ := pp_tk0 h2
    obtain ⟨b, -, e⟩ := hs (by omega) _ g2 ts (by omega)
    refine ⟨b, fun z => absurd z (by decide), ?_⟩
    rw [h3]
    show pe_tc ok (_ ++ (pp_tk K 41 _).2.2) ts = _
    rw [t1]
    show pe_tc ok (_ ++ []) ts = _
    rw [List.append_nil, g3]
    show pe_tc ok ((pp_in d i).2.2 ++ _) ts = _
    rw [gi] at e ⊢
    exact e
  rw [if_neg c2]
  by_cases c3 : K i = 317 ∨ K i = 322 ∨ K i = 323
  · rw [if_pos c3]
    unfold pp_call
    by_cases c4 : K (i + 1) = 40
    · rw [if_pos c4]
      by_cases c5 : K i = 317
      · rw [if_pos c5]
        intro h0 ts ht
        obtain ⟨h1, h2, h3⟩ := pp_bd0 h0
        obtain ⟨g1, g2, g3⟩ := pp_bd0 h1
        obtain ⟨f1, f2, f3⟩ := pp_bd0 g1
        obtain ⟨hd, gi⟩ := pp_in0 f1
        obtain ⟨-, t1⟩ := pp_tk0 g2
        obtain ⟨b, hb, e⟩ := htt (by omega) _ f2 ts (by omega)
        have hb := hb rfl
        subst hb
        obtain ⟨b1, b2, e2⟩ := pp_ty_two (m := 5 * d - 2) (hs (by omega)) h2 (true :: ts) (by show ts.length + 1 + 1 + (5 * d - 2) ≤ 60; omega)
        refine ⟨b2 && b1, fun z => absurd z (by decide), ?_⟩
        rw [h3]
        refine (pe_tc_app (us := true :: ts) ?_).trans (e2.trans ?_)
        · rw [g3]
          show pe_tc ok (_ ++ (pp_tk K 44 _).2.2) ts = _
          rw [t1]
          show pe_tc ok (_ ++ []) ts = _
          rw [List.append_nil, f3]
          show pe_tc ok ((pp_in d (i + 1)).2.2 ++ _) ts = _
          rw [gi] at e ⊢
          exact e
        · rw [pp_kn_eq (c := 317) c5 (by decide)]
          exact pe_tc_one (us := (b2 && b1) :: ts) rfl (by show ts.length + 1 ≤ 60; omega)
      · rw [if_neg c5]
        intro h0 ts ht
        obtain ⟨h1, h2, h3⟩ := pp_bd0 h0
        obtain ⟨hd, gi⟩ := pp_in0 h1
        obtain ⟨b1, b2, e2⟩ := pp_ty_two (m := 5 * d - 2) (hs (by omega)) h2 ts (by omega)
        have hc : 20000 + pp_kn K i = 20322 ∨ 20000 + pp_kn K i = 20323 := by
          rcases c3 with e | e | e
          · exact absurd e c5
          · have := pp_kn_eq (c := 322) e (by decide); omega
          · have := pp_kn_eq (c := 323) e (by decide); omega
        obtain ⟨b, hb, e3⟩ := pp_op2 (ok := ok) (c := 20000 + pp_kn K i) (by omega) b2 b1 ts (fun z => absurd z (by decide)) (by omega)
        refine ⟨b, hb, ?_⟩
        rw [h3]
        show pe_tc ok ((pp_in d (i + 1)).2.2 ++ _) ts = _
        rw [gi] at e2 ⊢
        exact e2.trans e3
    · rw [if_neg c4]; intro h0; cases h0
  rw [if_neg c3]
  by_cases c6 : ok (10000 + pp_kn K i) = true
  · rw [if_pos c6]
    intro _ ts ht
    have := hok _ c6
    refine ⟨false, fun z => absurd z (by decide), pe_tc_one ?_ (by show ts.length + 1 ≤ 60; omega)⟩
    unfold pe_t1
    rw [if_pos (by omega), if_neg (by omega), if_pos c6]
  · rw [if_neg c6]; intro h0; cases h0
theorem pp_ty_sum {ok : Nat → Bool} {K : Nat → Int32} {part : Nat → PPR} {m : Nat} (hm : 1 ≤ m) (hp : ∀ i, pp_ty ok m false (part i)) (i : Nat) : pp_ty ok (m + 2) false (pp_sum K part i) := by
  have hpr : ∀ i, pp_ty ok (m + 1) false (pp_prod K part i) := fun i => pp_ty_bd (pp_ty_mono (hp i) (by omega)) fun h0 ts b ht hb => pp_ty_rep hm hp (fun j hj => pp_op2 (by have := pp_mul_c hj; omega)) 1600 _ h0 ts b (by omega) hb
  exact pp_ty_bd (pp_ty_mono (hpr i) (by omega)) fun h0 ts b ht hb => pp_ty_rep (m := m + 1) (by omega) hpr (fun j hj => pp_op2 (by have := pp_add_c hj; omega)) 1600 _ h0 ts b (by omega) hb
theorem pp_ty_test {ok : Nat → Bool} {K : Nat → Int32} {fact : Nat → PPR} {m : Nat} (hm : 1 ≤ m) (hp : ∀ i, pp_ty ok m true (fact i)) (i : Nat) : pp_ty ok (m + 2) true (pp_test K fact i) := by
  have hpr : ∀ i, pp_ty ok (m + 1) true (pp_both K fact i) := fun i => pp_ty_bd (pp_ty_mono (hp i) (by omega)) fun h0 ts b ht hb => pp_ty_rep hm hp (fun j hj => pp_op3 (by have := pp_and_c hj; omega)) 1600 _ h0 ts b (by omega) hb
  exact pp_ty_bd (pp_ty_mono (hpr i) (by omega)) fun h0 ts b ht hb => pp_ty_rep (m := m + 1) (by omega) hpr (fun j hj => pp_op3 (by have := pp_or_c hj; omega)) 1600 _ h0 ts b (by omega) hb
theorem pp_ty_fact {ok : Nat → Bool} {K : Nat → Int32} {sum test fact : Nat → PPR} {d : Nat} (hs : ∀ i, pp_ty ok (5 * d + 3) false (sum i)) (htt : 1 ≤ d → ∀ i, pp_ty ok (5 * d + 1) true (test i)) (hf : 1 ≤ d → ∀ i, pp_ty ok (5 * d - 1) true (fact i)) (i : Nat) : pp_ty ok (5 * d + 4) true (pp_fact K sum test fact d i) := by
  unfold pp_fact
  by_cases c1 : K i = 91
  · rw [if_pos c1]
    intro h0 ts ht
    obtain ⟨h1, h2, h3⟩ := pp_bd0 h0
    obtain ⟨g1, g2, g3⟩ := pp_bd0 h1
    obtain ⟨hd, gi⟩ := pp_in0 g1
    obtain ⟨-, t1⟩ := pp_tk0 h2
    obtain ⟨b, hb, e⟩ := htt (by omega) _ g2 ts (by omega)
    refine ⟨b, hb, ?_⟩
    rw [h3]
    show pe_tc ok (_ ++ (pp_tk K 93 _).2.2) ts = _
    rw [t1]
    show pe_tc ok (_ ++ []) ts = _
    rw [List.append_nil, g3]
    show pe_tc ok ((pp_in d i).2.2 ++ _) ts = _
    rw [gi] at e ⊢
    exact e
  rw [if_neg c1]
  by_cases c2 : K i = 320
  · rw [if_pos c2]
    intro h0 ts ht
    obtain ⟨h1, h2, h3⟩ := pp_bd0 h0
    obtain ⟨g1, g2, g3⟩ := pp_bd0 h1
    obtain ⟨hd, gi⟩ := pp_in0 g1
    obtain ⟨b, hb, e⟩ := hf (by omega) _ g2 ts (by omega)
    have hb := hb rfl
    subst hb
    refine ⟨true, fun _ => rfl, ?_⟩
    rw [h3]
    show pe_tc ok (_ ++ [20320]) ts = _
    refine (pe_tc_app (us := true :: ts) ?_).trans (pe_tc_one (us := true :: ts) rfl (by show ts.length + 1 ≤ 60; omega))
    rw [g3]
    show pe_tc ok ((pp_in d i).2.2 ++ _) ts = _
    rw [gi] at e ⊢
    exact e
  rw [if_neg c2]
  by_cases c3 : K i = 321
  · rw [if_pos c3]
    intro _ ts ht
    exact ⟨true, fun _ => rfl, pe_tc_one (us := true :: ts) rfl (by show ts.length + 1 ≤ 60; omega)⟩
  rw [if_neg c3]
  intro h0 ts ht
  obtain ⟨h1, h2, h3⟩ := pp_bd0 h0
  obtain ⟨b, -, e⟩ := hs i h1 ts (by omega)
  refine ⟨true, fun _ => rfl, ?_⟩
  rw [h3]
  refine (pe_tc_app e).trans ?_
  unfold pp_cmp at h2 ⊢
  by_cases c4 : K (sum i).2.1 = 60 ∨ K (sum i).2.1 = 62 ∨ K (sum i).2.1 = 61
  · rw [if_pos c4] at h2 ⊢
    obtain ⟨k1, k2, k3⟩ := pp_bd0 h2
    obtain ⟨b2, -, e2⟩ := hs _ k1 (b :: ts) (by show ts.length + 1 + (5 * d + 3) ≤ 60; omega)
    rw [k3]
    refine (pe_tc_app e2).trans (pp_op4 ?_ _ _ _ (by omega))
    rcases c4 with z | z | z
    · have := pp_kn_eq (c := 60) z (by decide); omega
    · have := pp_kn_eq (c := 62) z (by decide); omega
    · have := pp_kn_eq (c := 61) z (by decide); omega
  · rw [if_neg c4] at h2; cases h2
theorem pp_ty_grp {ok : Nat → Bool} (hok : ∀ c, ok c = true → 10300 ≤ c ∧ c < 10324) {K V : Nat → Int32} (hV : ∀ i, K i = -3 → (V i).toNatClampNeg ≤ 9999) : ∀ d : Nat, 1 ≤ d → (∀ i, pp_ty ok (5 * d - 2) false ((pp_grp K V ok d).1 i)) ∧ (∀ i, pp_ty ok (5 * d + 1) true ((pp_grp K V ok d).2.1 i)) ∧ ∀ i, pp_ty ok (5 * d - 1) true ((pp_grp K V ok d).2.2 i)
  | 0, h => absurd h (by decide)
  | d + 1, _ => by
    have ih := fun h => pp_ty_grp hok hV d h
    have hs := pp_ty_sum (ok := ok) (K := K) (m := 5 * d + 1) (by omega) (fun i => pp_ty_part hok hV (sum := (pp_grp K V ok d).1) (test := (pp_grp K V ok d).2.1) (d := d) (fun h => (ih h).1) (fun h => (ih h).2.1) i)
    have hf := pp_ty_fact (ok := ok) (K := K) (d := d) hs (fun h => (ih h).2.1) (fun h => (ih h).2.2)
    have ht := pp_ty_test (ok := ok) (K := K) (m := 5 * d + 4) (by omega) hf
    exact ⟨fun i => pp_ty_mono (hs i) (by omega), fun i => pp_ty_mono (ht i) (by omega), fun i => pp_ty_mono (hf i) (by omega)⟩
