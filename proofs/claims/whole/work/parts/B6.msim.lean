/-! the reference's formula reader does what the plain parser says -/
section
variable {K St V E : Nat → Int32} {nm : Int32 → Int64 → Prop} {sz : Int32} {n b : Nat} {I0 : Nat → Int32} {J0 : Nat → Int64} {cs0 cv0 tF : Nat → Int32} (N : Nat)
/-- behind a SUM or the like: R is still held back (in the order in which it will be written), its ranks l at least -/
def mP (K St V E : Nat → Int32) (nm : Int32 → Int64 → Prop) (sz : Int32) (n b : Nat) (I0 : Nat → Int32) (J0 : Nat → Int64) (cs0 cv0 : Nat → Int32) (l : Nat) (A : FR → Nat → Prop) (fr : List FR) (P C : List Nat) (o i : Nat) (L : List Nat) (y : RS) : Prop :=
  ∃ R L0 t', A t' i ∧ L0 ++ R = L ∧ (∀ q, q ∈ R → l ≤ pp_rk q) ∧ mR K St V E nm sz n b I0 J0 cs0 cv0 1 i (fr ++ [t']) (P ++ R.reverse) (C ++ L0) (o + pp_ns R) y
theorem mP_mono {l l' : Nat} {A A' : FR → Nat → Prop} {fr : List FR} {P C L : List Nat} {o i : Nat} {y : RS} (h : mP K St V E nm sz n b I0 J0 cs0 cv0 l A fr P C o i L y) (hl : l' ≤ l) (hA : ∀ t, A t i → A' t i) : mP K St V E nm sz n b I0 J0 cs0 cv0 l' A' fr P C o i L y := by
  obtain ⟨R, L0, t', h1, h2, h3, h4⟩ := h
  exact ⟨R, L0, t', hA t' h1, h2, fun q hq => Nat.le_trans hl (h3 q hq), h4⟩
theorem m_tk12 {u i o : Nat} {fr : List FR} {P C : List Nat} {I : Nat → Int32} {J : Nat → Int64} {fF pF bF aF oF cs cv qF : Nat → Int32} (h : mR K St V E nm sz n b I0 J0 cs0 cv0 u i fr P C o (I, J, fF, pF, bF, aF, oF, cs, cv, qF)) (hk : ¬ K i = -2) : I 12 = -1 := by
  by_cases z : I 12 = -1
  · exact z
  · exact absurd ((mR_get h).1.2.2.2.1 z).1 hk
theorem mO_dd {x : RS} {i f j : Nat} {p : RS → Prop} (hf : ¬ f = 0) (hi : i < n) (h : ∃ y, mEnd N tF 2 x y ∧ mDe b I0 J0 cs0 cv0 f (pp_pl K St V f j) y) : mO N tF K St V n b I0 J0 cs0 cv0 x i (f, j, []) p := by
  obtain ⟨y, h1, h2⟩ := h
  exact mO_de N hf h1 (by omega) h2
/-- an operator more behind its right side -/
theorem mP_em {l l' c i o : Nat} {A : FR → Nat → Prop} {fr : List FR} {P C L L2 : List Nat} {y : RS} (hl : l' ≤ l) (hc : l' ≤ pp_rk c) (h : mP K St V E nm sz n b I0 J0 cs0 cv0 l A fr (P ++ [c]) (C ++ L) (o + pp_ns [c]) i L2 y) : mP K St V E nm sz n b I0 J0 cs0 cv0 l' A fr P C o i (L ++ (L2 ++ [c])) y := by
  obtain ⟨R, L0, t', h1, h2, h3, h4⟩ := h
  refine ⟨R ++ [c], L ++ L0, t', h1, ?_, ?_, ?_⟩
  · rw [← h2, List.append_assoc, List.append_assoc]
  · intro q hq
    rcases List.mem_append.mp hq with z | z
    · exact Nat.le_trans hl (h3 q z)
    · have : q = c := by simpa using z
      rw [this]; exact hc
  · have e1 : P ++ (R ++ [c]).reverse = P ++ [c] ++ R.reverse := by rw [List.reverse_append, List.append_assoc]; rfl
    have e2 : C ++ (L ++ L0) = C ++ L ++ L0 := by rw [List.append_assoc]
    have e3 : o + pp_ns (R ++ [c]) = o + pp_ns [c] + pp_ns R := by rw [pp_ns_app]; omega
    rw [e1, e2, e3]; exact h4
theorem m_repA (hN : 5000 ≤ N) (hA : mAh N tF K St V E nm sz n) (hE : ∀ i, i < n → ¬ K i = -1 → ¬ K i = -2 → i + 1 < n) {opf : Int32 → Bool} {part : Nat → PPR} {l l' mm o : Nat} {Z : Nat → Prop} (hll : l ≤ l') (hop : ∀ i, opf (K i) = true → pp_rk (20000 + pp_kn K i) = l ∧ ((K i = 43 ∧ 20000 + pp_kn K i = 20043 ∧ l = 5) ∨ (K i = 45 ∧ 20000 + pp_kn K i = 20045 ∧ l = 5) ∨ (K i = 42 ∧ 20000 + pp_kn K i = 20042 ∧ l = 6) ∨ (K i = 47 ∧ 20000 + pp_kn K i = 20047 ∧ l = 6) ∨ (K i = 37 ∧ 20000 + pp_kn K i = 20037 ∧ l = 6)))
    (hpart : ∀ i fr t P C x, t.1 < 100 → t.2.1 < 2 → t.2.2.1 = 0 → mTop (l + 1) t P → P.length + mm ≤ 65 → mR K St V E nm sz n b I0 J0 cs0 cv0 0 i (fr ++ [t]) P C o x → mO N tF K St V n b I0 J0 cs0 cv0 x i (part i) (mP K St V E nm sz n b I0 J0 cs0 cv0 l' (fun t' i' => t' = t ∧ Z i') fr P C o (part i).2.1 (part i).2.2)) :
    ∀ m i fr t P C L y, n ≤ i + m → t.1 < 100 → t.2.1 < 2 → t.2.2.1 = 0 → mTop l t P → P.length + (mm + 1) ≤ 65 → mP K St V E nm sz n b I0 J0 cs0 cv0 l (fun t' i' => t' = t ∧ Z i') fr P C o i L y →
    mO N tF K St V n b I0 J0 cs0 cv0 y i (pp_rep K opf part m i) (mP K St V E nm sz n b I0 J0 cs0 cv0 l (fun t' i' => t' = t ∧ Z i' ∧ ¬ opf (K i') = true) fr P C o (pp_rep K opf part m i).2.1 (L ++ (pp_rep K opf part m i).2.2)) ∨ ((pp_rep K opf part m i).1 = 0 ∧ (pp_rep K opf part m i).2.1 = i ∧ mP K St V E nm sz n b I0 J0 cs0 cv0 l (fun t' i' => t' = t ∧ Z i' ∧ ¬ opf (K i') = true) fr P C o (pp_rep K opf part m i).2.1 (L ++ (pp_rep K opf part m i).2.2) y) := by
  intro m
  induction m with
  | zero =>
    intro i fr t P C L y hm _ _ _ _ _ h
    obtain ⟨R, L0, t', -, -, -, h4⟩ := h
    have := h4.2.2.2.2.2.2.2.1
    omega
  | succ m ih =>
    intro i fr t P C L y hm ht1 ht2 ht3 htop hP h
    by_cases k : opf (K i) = true
    · refine Or.inl ?_
      obtain ⟨hrk, hk⟩ := hop i k
      obtain ⟨R, L0, t', ⟨rfl, hZ⟩, h2, h3, h4⟩ := h
      obtain ⟨I, J, fF, pF, bF, aF, oF, cs, cv, qF⟩ := y
      have hk2 : ¬ K i = -1 ∧ ¬ K i = -2 := by
        rcases hk with ⟨z, -⟩ | ⟨z, -⟩ | ⟨z, -⟩ | ⟨z, -⟩ | ⟨z, -⟩ <;> (rw [z]; decide)
      have hi := hE i (mR_get h4).2.2.2.2.2.2.2.1 hk2.1 hk2.2
      obtain ⟨y1, s1, s2⟩ := s_arith N hN hA h4 (m_tk12 h4 hk2.2) ht1 ht2 hk h3 htop hi (by omega)
      rw [List.append_assoc, h2] at s2
      have e0 : pp_ns [20000 + pp_kn K i] = 0 := by
        show (if 20000 + pp_kn K i = 20320 then 1 else 0) + 0 = 0
        rw [if_neg (by omega)]
      have q1 := hpart (i + 1) fr t' (P ++ [20000 + pp_kn K i]) (C ++ L) y1 ht1 ht2 ht3 (mTop_snoc (mTop_le htop) (by omega)) (by rw [List.length_append]; show P.length + 1 + mm ≤ 65; omega) s2
      have q2 : mO N tF K St V n b I0 J0 cs0 cv0 y1 (i + 1) (pp_bd (part (i + 1)) (pp_em (20000 + pp_kn K i))) (mP K St V E nm sz n b I0 J0 cs0 cv0 l (fun t'' i' => t'' = t' ∧ Z i') fr P C o (pp_bd (part (i + 1)) (pp_em (20000 + pp_kn K i))).2.1 (L ++ (pp_bd (part (i + 1)) (pp_em (20000 + pp_kn K i))).2.2)) := by
        refine mO_bd N q1 fun y2 h0 hi2 hp => Or.inr ⟨rfl, rfl, ?_⟩
        rw [pp_bd_pos h0]
        exact mP_em hll (by omega) (by rw [e0]; exact hp)
      unfold pp_rep
      rw [if_pos k]
      refine mO_step N s1 (j := i + 1) (by omega) ?_
      refine mO_bd N q2 fun y2 h0 hi2 hp => ?_
      rcases ih _ fr t' P C _ y2 (by omega) ht1 ht2 ht3 htop hP hp with g | ⟨g1, g2, g3⟩
      · refine Or.inl (mO_mono N g fun y3 _ _ g => ?_)
        rw [pp_bd_pos h0, ← List.append_assoc]; exact g
      · refine Or.inr ⟨g1, g2, ?_⟩
        rw [pp_bd_pos h0, ← List.append_assoc]; exact g3
    · refine Or.inr ?_
      unfold pp_rep
      rw [if_neg k]
      refine ⟨rfl, rfl, ?_⟩
      show mP K St V E nm sz n b I0 J0 cs0 cv0 l _ fr P C o i (L ++ []) y
      rw [List.append_nil]
      exact mP_mono h (Nat.le_refl _) fun t' hA => ⟨hA.1, hA.2, k⟩
/-- a test frame behind a FACT -/
def mAL (K : Nat → Int32) (t : FR) (t' : FR) (i : Nat) : Prop := ∃ ph, t' = (t.1, ph, 0, t.2.2.2.1, t.2.2.2.2) ∧ ((ph = 1 ∧ ¬ pp_ar (K i)) ∨ ph = 2)
theorem m_repL (hN : 5000 ≤ N) (hA : mAh N tF K St V E nm sz n) (hE : ∀ i, i < n → ¬ K i = -1 → ¬ K i = -2 → i + 1 < n) {opf : Int32 → Bool} {part : Nat → PPR} {l l' mm o : Nat} {Z : Nat → Prop} (hll : l ≤ l') (hop : ∀ i, opf (K i) = true → pp_rk (20000 + pp_kn K i) = l ∧ ((K i = 319 ∧ 20000 + pp_kn K i = 20319 ∧ l = 2) ∨ (K i = 318 ∧ 20000 + pp_kn K i = 20318 ∧ l = 1)))
    {t : FR} (ht1 : t.1 < 100) (ht2 : t.2.1 = 0) (ht3 : t.2.2.1 = 1) (hkt : pp_kt t.1 = true)
    (hpart : ∀ i fr P C x, mTop (l + 1) t P → P.length + mm ≤ 65 → mR K St V E nm sz n b I0 J0 cs0 cv0 0 i (fr ++ [t]) P C o x → mO N tF K St V n b I0 J0 cs0 cv0 x i (part i) (mP K St V E nm sz n b I0 J0 cs0 cv0 l' (fun t' i' => mAL K t t' i' ∧ Z i') fr P C o (part i).2.1 (part i).2.2)) :
    ∀ m i fr P C L y, n ≤ i + m → mTop l t P → P.length + (mm + 1) ≤ 65 → mP K St V E nm sz n b I0 J0 cs0 cv0 l (fun t' i' => mAL K t t' i' ∧ Z i') fr P C o i L y →
    mO N tF K St V n b I0 J0 cs0 cv0 y i (pp_rep K opf part m i) (mP K St V E nm sz n b I0 J0 cs0 cv0 l (fun t' i' => mAL K t t' i' ∧ Z i' ∧ ¬ opf (K i') = true) fr P C o (pp_rep K opf part m i).2.1 (L ++ (pp_rep K opf part m i).2.2)) ∨ ((pp_rep K opf part m i).1 = 0 ∧ (pp_rep K opf part m i).2.1 = i ∧ mP K St V E nm sz n b I0 J0 cs0 cv0 l (fun t' i' => mAL K t t' i' ∧ Z i' ∧ ¬ opf (K i') = true) fr P C o (pp_rep K opf part m i).2.1 (L ++ (pp_rep K opf part m i).2.2) y) := by
  intro m
  induction m with
  | zero =>
    intro i fr P C L y hm _ _ h
    obtain ⟨R, L0, t', -, -, -, h4⟩ := h
    have := h4.2.2.2.2.2.2.2.1
    omega
  | succ m ih =>
    intro i fr P C L y hm htop hP h
    by_cases k : opf (K i) = true
    · refine Or.inl ?_
      obtain ⟨hrk, hk⟩ := hop i k
      obtain ⟨R, L0, t', ⟨⟨ph, rfl, hph⟩, hZ⟩, h2, h3, h4⟩ := h
      obtain ⟨I, J, fF, pF, bF, aF, oF, cs, cv, qF⟩ := y
      have hk2 : ¬ K i = -1 ∧ ¬ K i = -2 := by
        rcases hk with ⟨z, -⟩ | ⟨z, -⟩ <;> (rw [z]; decide)
      have hi := hE i (mR_get h4).2.2.2.2.2.2.2.1 hk2.1 hk2.2
      obtain ⟨y1, s1, s2⟩ := s_logic N hN hA (t := (t.1, ph, 0, t.2.2.2.1, t.2.2.2.2)) h4 (m_tk12 h4 hk2.2) ht1 (by show ¬ ph = 0; omega) (by show ph ≤ 2; omega) hkt hk h3 htop hi (by omega)
      rw [List.append_assoc, h2] at s2
      have et : ((t.1, 0, 1, t.2.2.2.1, t.2.2.2.2) : FR) = t := by rw [← ht2, ← ht3]
      have s2 : mR K St V E nm sz n b I0 J0 cs0 cv0 0 (i + 1) (fr ++ [t]) (P ++ [20000 + pp_kn K i]) (C ++ L) o y1 := by rw [← et]; exact s2
      have e0 : pp_ns [20000 + pp_kn K i] = 0 := by
        show (if 20000 + pp_kn K i = 20320 then 1 else 0) + 0 = 0
        rw [if_neg (by omega)]
      have q1 := hpart (i + 1) fr (P ++ [20000 + pp_kn K i]) (C ++ L) y1 (mTop_snoc (mTop_le htop) (by omega)) (by rw [List.length_append]; show P.length + 1 + mm ≤ 65; omega) s2
      have q2 : mO N tF K St V n b I0 J0 cs0 cv0 y1 (i + 1) (pp_bd (part (i + 1)) (pp_em (20000 + pp_kn K i))) (mP K St V E nm sz n b I0 J0 cs0 cv0 l (fun t'' i' => mAL K t t'' i' ∧ Z i') fr P C o (pp_bd (part (i + 1)) (pp_em (20000 + pp_kn K i))).2.1 (L ++ (pp_bd (part (i + 1)) (pp_em (20000 + pp_kn K i))).2.2)) := by
        refine mO_bd N q1 fun y2 h0 hi2 hp => Or.inr ⟨rfl, rfl, ?_⟩
        rw [pp_bd_pos h0]
        exact mP_em hll (by omega) (by rw [e0]; exact hp)
      unfold pp_rep
      rw [if_pos k]
      refine mO_step N s1 (j := i + 1) (by omega) ?_
      refine mO_bd N q2 fun y2 h0 hi2 hp => ?_
      rcases ih _ fr P C _ y2 (by omega) htop hP hp with g | ⟨g1, g2, g3⟩
      · refine Or.inl (mO_mono N g fun y3 _ _ g => ?_)
        rw [pp_bd_pos h0, ← List.append_assoc]; exact g
      · refine Or.inr ⟨g1, g2, ?_⟩
        rw [pp_bd_pos h0, ← List.append_assoc]; exact g3
    · refine Or.inr ?_
      unfold pp_rep
      rw [if_neg k]
      refine ⟨rfl, rfl, ?_⟩
      show mP K St V E nm sz n b I0 J0 cs0 cv0 l _ fr P C o i (L ++ []) y
      rw [List.append_nil]
      exact mP_mono h (Nat.le_refl _) fun t' hA => ⟨hA.1, hA.2, k⟩
/-- how a SUM is read in a frame t -/
def mSumN (N : Nat) (tF K St V E : Nat → Int32) (nm : Int32 → Int64 → Prop) (sz : Int32) (n b : Nat) (I0 : Nat → Int32) (J0 : Nat → Int64) (cs0 cv0 : Nat → Int32) (rr l mm o : Nat) (Z : Nat → Prop) (X : Nat → PPR) : Prop := ∀ i fr t P C x, t.1 < 100 → t.2.1 < 2 → t.2.2.1 ≤ 1 → (pp_first t = true → ¬ K i = 320 ∧ ¬ K i = 91 ∧ ¬ K i = 321) → mTop rr t P → P.length + mm ≤ 65 → mR K St V E nm sz n b I0 J0 cs0 cv0 0 i (fr ++ [t]) P C o x → mO N tF K St V n b I0 J0 cs0 cv0 x i (X i) (mP K St V E nm sz n b I0 J0 cs0 cv0 l (fun t' i' => t' = fr_b0 t ∧ Z i') fr P C o (X i).2.1 (X i).2.2)
/-- how a TEST is read in a test frame t that begins -/
def mTestN (N : Nat) (tF K St V E : Nat → Int32) (nm : Int32 → Int64 → Prop) (sz : Int32) (n b : Nat) (I0 : Nat → Int32) (J0 : Nat → Int64) (cs0 cv0 : Nat → Int32) (rr l mm o : Nat) (Z : Nat → Prop) (X : Nat → PPR) : Prop := ∀ i fr t P C x, t.1 < 100 → t.2.1 = 0 → t.2.2.1 = 1 → pp_kt t.1 = true → mTop rr t P → P.length + mm ≤ 65 → mR K St V E nm sz n b I0 J0 cs0 cv0 0 i (fr ++ [t]) P C o x → mO N tF K St V n b I0 J0 cs0 cv0 x i (X i) (mP K St V E nm sz n b I0 J0 cs0 cv0 l (fun t' i' => mAL K t t' i' ∧ Z i') fr P C o (X i).2.1 (X i).2.2)
theorem fr_b0_id {t : FR} (h : t.2.2.1 = 0) : fr_b0 t = t := by unfold fr_b0; rw [← h]
theorem pp_first0 {t : FR} (h : t.2.2.1 = 0) : ¬ pp_first t = true := by
  unfold pp_first; rw [h]; simp
theorem m_prod (hN : 5000 ≤ N) (hA : mAh N tF K St V E nm sz n) (hE : ∀ i, i < n → ¬ K i = -1 → ¬ K i = -2 → i + 1 < n) (hn : n ≤ 1601) {part : Nat → PPR} {mm o : Nat} (hp : mSumN N tF K St V E nm sz n b I0 J0 cs0 cv0 7 7 mm o (fun _ => True) part) : mSumN N tF K St V E nm sz n b I0 J0 cs0 cv0 6 6 (mm + 1) o (fun i => ¬ pp_mul (K i) = true) (pp_prod K part) := by
  intro i fr t P C x ht1 ht2 ht3 hf htop hP h
  unfold pp_prod
  have hi1 : 1 ≤ i := h.2.2.2.2.2.2.1
  refine mO_bd N (hp i fr t P C x ht1 ht2 ht3 hf (mTop_mono htop (by omega)) (by omega) h) fun y h0 hi2 hy => ?_
  have ht : (fr_b0 t).1 < 100 := ht1
  have rep := m_repA N hN hA hE (opf := pp_mul) (part := part) (l := 6) (l' := 7) (mm := mm) (o := o) (Z := fun _ => True) (by omega) (fun j hj => by
      rcases of_decide_eq_true hj with z | z | z
      · have e := pp_kn_eq (c := 42) z (by decide); rw [e]; exact ⟨rfl, Or.inr (Or.inr (Or.inl ⟨z, rfl, rfl⟩))⟩
      · have e := pp_kn_eq (c := 47) z (by decide); rw [e]; exact ⟨rfl, Or.inr (Or.inr (Or.inr (Or.inl ⟨z, rfl, rfl⟩)))⟩
      · have e := pp_kn_eq (c := 37) z (by decide); rw [e]; exact ⟨rfl, Or.inr (Or.inr (Or.inr (Or.inr ⟨z, rfl, rfl⟩)))⟩)
    (fun j fr t P C x a1 a2 a3 a4 a5 a6 => by
      have g := hp j fr t P C x a1 a2 (by omega) (fun z => absurd z (pp_first0 a3)) a4 a5 a6
      rw [fr_b0_id a3] at g; exact g)
    1600 _ fr (fr_b0 t) P C (part i).2.2 y (by omega) ht1 ht2 rfl htop (by omega) (mP_mono hy (by omega) fun _ z => z)
  rcases rep with g | ⟨g1, g2, g3⟩
  · refine Or.inl (mO_mono N g fun y3 _ _ g => ?_)
    rw [pp_bd_pos h0]; exact mP_mono g (Nat.le_refl _) fun _ z => ⟨z.1, z.2.2⟩
  · refine Or.inr ⟨g1, g2, ?_⟩
    rw [pp_bd_pos h0]; exact mP_mono g3 (Nat.le_refl _) fun _ z => ⟨z.1, z.2.2⟩
theorem pp_ar_no {k : Int32} (h1 : ¬ pp_mul k = true) (h2 : ¬ pp_add k = true) : ¬ pp_ar k := by
  intro h
  rcases h with z | z | z | z | z
  · exact h2 (decide_eq_true (Or.inl z))
  · exact h2 (decide_eq_true (Or.inr z))
  · exact h1 (decide_eq_true (Or.inl z))
  · exact h1 (decide_eq_true (Or.inr (Or.inl z)))
  · exact h1 (decide_eq_true (Or.inr (Or.inr z)))
theorem m_sum (hN : 5000 ≤ N) (hA : mAh N tF K St V E nm sz n) (hE : ∀ i, i < n → ¬ K i = -1 → ¬ K i = -2 → i + 1 < n) (hn : n ≤ 1601) {part : Nat → PPR} {mm o : Nat} (hp : mSumN N tF K St V E nm sz n b I0 J0 cs0 cv0 7 7 mm o (fun _ => True) part) : mSumN N tF K St V E nm sz n b I0 J0 cs0 cv0 5 5 (mm + 2) o (fun i => ¬ pp_ar (K i)) (pp_sum K part) := by
  have hpr := m_prod N hN hA hE hn hp
  intro i fr t P C x ht1 ht2 ht3 hf htop hP h
  unfold pp_sum
  have hi1 : 1 ≤ i := h.2.2.2.2.2.2.1
  refine mO_bd N (hpr i fr t P C x ht1 ht2 ht3 hf (mTop_mono htop (by omega)) (by omega) h) fun y h0 hi2 hy => ?_
  have rep := m_repA N hN hA hE (opf := pp_add) (part := pp_prod K part) (l := 5) (l' := 6) (mm := mm + 1) (o := o) (Z := fun i => ¬ pp_mul (K i) = true) (by omega) (fun j hj => by
      rcases of_decide_eq_true hj with z | z
      · have e := pp_kn_eq (c := 43) z (by decide); rw [e]; exact ⟨rfl, Or.inl ⟨z, rfl, rfl⟩⟩
      · have e := pp_kn_eq (c := 45) z (by decide); rw [e]; exact ⟨rfl, Or.inr (Or.inl ⟨z, rfl, rfl⟩)⟩)
    (fun j fr t P C x a1 a2 a3 a4 a5 a6 => by
      have g := hpr j fr t P C x a1 a2 (by omega) (fun z => absurd z (pp_first0 a3)) a4 a5 a6
      rw [fr_b0_id a3] at g; exact g)
    1600 _ fr (fr_b0 t) P C (pp_prod K part i).2.2 y (by omega) ht1 ht2 rfl htop (by omega) (mP_mono hy (by omega) fun _ z => z)
  rcases rep with g | ⟨g1, g2, g3⟩
  · refine Or.inl (mO_mono N g fun y3 _ _ g => ?_)
    rw [pp_bd_pos h0]; exact mP_mono g (Nat.le_refl _) fun _ z => ⟨z.1, pp_ar_no z.2.1 z.2.2⟩
  · refine Or.inr ⟨g1, g2, ?_⟩
    rw [pp_bd_pos h0]; exact mP_mono g3 (Nat.le_refl _) fun _ z => ⟨z.1, pp_ar_no z.2.1 z.2.2⟩
theorem m_test (hN : 5000 ≤ N) (hA : mAh N tF K St V E nm sz n) (hE : ∀ i, i < n → ¬ K i = -1 → ¬ K i = -2 → i + 1 < n) (hn : n ≤ 1601) {fact : Nat → PPR} {mm o : Nat} (hp : mTestN N tF K St V E nm sz n b I0 J0 cs0 cv0 4 3 mm o (fun _ => True) fact) : mTestN N tF K St V E nm sz n b I0 J0 cs0 cv0 1 1 (mm + 2) o (fun i => ¬ K i = 319 ∧ ¬ K i = 318) (pp_test K fact) := by
  have hpr : mTestN N tF K St V E nm sz n b I0 J0 cs0 cv0 2 2 (mm + 1) o (fun i => ¬ pp_and (K i) = true) (pp_both K fact) := by
    intro i fr t P C x ht1 ht2 ht3 hkt htop hP h
    unfold pp_both
    have hi1 : 1 ≤ i := h.2.2.2.2.2.2.1
    refine mO_bd N (hp i fr t P C x ht1 ht2 ht3 hkt (mTop_mono htop (by omega)) (by omega) h) fun y h0 hi2 hy => ?_
    have rep := m_repL N hN hA hE (opf := pp_and) (part := fact) (l := 2) (l' := 3) (mm := mm) (o := o) (Z := fun _ => True) (by omega) (fun j hj => by
        have z := of_decide_eq_true hj
        have e := pp_kn_eq (c := 319) z (by decide); rw [e]; exact ⟨rfl, Or.inl ⟨z, rfl, rfl⟩⟩) ht1 ht2 ht3 hkt
      (fun j fr P C x a4 a5 a6 => hp j fr t P C x ht1 ht2 ht3 hkt (mTop_mono a4 (by omega)) a5 a6)
      1600 _ fr P C (fact i).2.2 y (by omega) htop (by omega) (mP_mono hy (by omega) fun _ z => z)
    rcases rep with g | ⟨g1, g2, g3⟩
    · refine Or.inl (mO_mono N g fun y3 _ _ g => ?_)
      rw [pp_bd_pos h0]; exact mP_mono g (Nat.le_refl _) fun _ z => ⟨z.1, z.2.2⟩
    · refine Or.inr ⟨g1, g2, ?_⟩
      rw [pp_bd_pos h0]; exact mP_mono g3 (Nat.le_refl _) fun _ z => ⟨z.1, z.2.2⟩
  intro i fr t P C x ht1 ht2 ht3 hkt htop hP h
  unfold pp_test
  have hi1 : 1 ≤ i := h.2.2.2.2.2.2.1
  refine mO_bd N (hpr i fr t P C x ht1 ht2 ht3 hkt (mTop_mono htop (by omega)) (by omega) h) fun y h0 hi2 hy => ?_
  have rep := m_repL N hN hA hE (opf := pp_or) (part := pp_both K fact) (l := 1) (l' := 2) (mm := mm + 1) (o := o) (Z := fun i => ¬ pp_and (K i) = true) (by omega) (fun j hj => by
      have z := of_decide_eq_true hj
      have e := pp_kn_eq (c := 318) z (by decide); rw [e]; exact ⟨rfl, Or.inr ⟨z, rfl, rfl⟩⟩) ht1 ht2 ht3 hkt
    (fun j fr P C x a4 a5 a6 => hpr j fr t P C x ht1 ht2 ht3 hkt a4 a5 a6)
    1600 _ fr P C (pp_both K fact i).2.2 y (by omega) htop (by omega) (mP_mono hy (by omega) fun _ z => z)
  have fin : ∀ j, ¬ pp_and (K j) = true → ¬ pp_or (K j) = true → ¬ K j = 319 ∧ ¬ K j = 318 := fun j z1 z2 => ⟨fun z => z1 (decide_eq_true z), fun z => z2 (decide_eq_true z)⟩
  rcases rep with g | ⟨g1, g2, g3⟩
  · refine Or.inl (mO_mono N g fun y3 _ _ g => ?_)
    rw [pp_bd_pos h0]; exact mP_mono g (Nat.le_refl _) fun _ z => ⟨z.1, fin _ z.2.1 z.2.2⟩
  · refine Or.inr ⟨g1, g2, ?_⟩
    rw [pp_bd_pos h0]; exact mP_mono g3 (Nat.le_refl _) fun _ z => ⟨z.1, fin _ z.2.1 z.2.2⟩
end
