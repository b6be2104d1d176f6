/-! the reference's formula reader: its state as lists (frames, held-back operators, codes), its steps -/
def mSg (c : Nat) : Prop := c = 59 ∨ c = 44 ∨ c = 40 ∨ c = 41 ∨ c = 91 ∨ c = 93 ∨ c = 43 ∨ c = 45 ∨ c = 42 ∨ c = 47 ∨ c = 37 ∨ c = 60 ∨ c = 62 ∨ c = 61
def mWd (w : Nat) : Int64 := lN (match w with
  | 0 => 491496238692
  | 1 => 508675318629
  | 2 => 1752527720
  | 3 => 427071727464
  | 4 => 6644082
  | 5 => 7499639
  | 6 => 495672455792
  | 7 => 482854658917
  | 8 => 24948
  | 9 => 1952541803
  | 10 => 1735353715
  | 11 => 448377483891
  | 12 => 499850701683
  | 13 => 474214787188
  | 14 => 1835625573
  | 15 => 125823037105267
  | 16 => 6709618
  | 17 => 26982
  | 18 => 28530
  | 19 => 6385252
  | 20 => 7237492
  | 21 => 6384748
  | 22 => 7170414
  | _ => 7168376)
/-- the piece i, as the reference has it ahead; E: where each piece begins to be looked for; nm: how the two write a NAME -/
def mTok (K St V E : Nat → Int32) (nm : Int32 → Int64 → Prop) (sz : Int32) (i : Nat) (I : Nat → Int32) (J : Nat → Int64) : Prop :=
  I 2 = sz ∧ I 4 = St i ∧ I 5 = E (i + 1) ∧ (¬ I 12 = -1 → K i = -2 ∧ I 12 = V i ∧ ¬ I 3 = 0) ∧ (I 12 = -1 → (K i = -2 → V i = St i) ∧ (∀ c, mSg c → ((I 3 = 3 ∧ I 6 = nI c) ↔ K i = nI c)) ∧ (∀ w, w < 24 → ((I 3 = 1 ∧ J 7 = mWd w) ↔ K i = nI (300 + w))) ∧ (I 3 = 2 ↔ K i = -3) ∧ (K i = -3 → I 6 = V i) ∧ (I 3 = 0 ↔ K i = -1) ∧ (K i = -4 → I 3 = 1 ∧ nm (V i) (J 7)) ∧ (I 3 = 1 → K i = -4 ∨ ∃ w, w < 24 ∧ K i = nI (300 + w)))
def mAh (N : Nat) (tF K St V E : Nat → Int32) (nm : Int32 → Int64 → Prop) (sz : Int32) (n : Nat) : Prop := ∀ i I J, mTok K St V E nm sz i I J → i + 1 < n → ∃ I' J', fX12_ahead N I J tF = some (I', J') ∧ mTok K St V E nm sz (i + 1) I' J' ∧ (∀ j, ¬ (j = 3 ∨ j = 4 ∨ j = 5 ∨ j = 6 ∨ j = 12) → I' j = I j) ∧ ∀ j, ¬ j = 7 → J' j = J j
theorem m_lex0 (N : Nat) {I : Nat → Int32} (h : I 12 = -1) : fX12_lex N I = some I := by unfold fX12_lex; rw [if_pos h]
theorem m_lex1 (N : Nat) {I : Nat → Int32} (h : ¬ I 12 = -1) (h8 : I 8 = 0) : fX12_lex N I = some (va_up (va_up I 8 1) 9 (I 12)) := by
  unfold fX12_lex fX12_blame; rw [if_neg h, h8, if_pos (by decide), xs_bd]
theorem m_blame (N : Nat) {I : Nat → Int32} (h8 : I 8 = 0) (f p : Int32) : fX12_blame N I f p = some (va_up (va_up I 8 f) 9 p) := by
  unfold fX12_blame; rw [h8, if_pos (by decide)]
theorem m_blame1 (N : Nat) {I : Nat → Int32} (h8 : ¬ I 8 ≤ 0) (f p : Int32) : fX12_blame N I f p = some I := by
  unfold fX12_blame; rw [if_neg h8]
section
variable {K St V E : Nat → Int32} {nm : Int32 → Int64 → Prop} {sz : Int32} (N : Nat)
theorem m_sg {i : Nat} {I : Nat → Int32} {J : Nat → Int64} (h : mTok K St V E nm sz i I J) (h12 : I 12 = -1) (c : Nat) (hc : mSg c) : fX12_isSign N I (nI c) = some (p_b (decide (K i = nI c))) := by
  have e := (h.2.2.2.2 h12).2.1 c hc
  unfold fX12_isSign
  by_cases k : K i = nI c
  · obtain ⟨e1, e2⟩ := e.mpr k
    rw [if_pos e1, if_pos e2, decide_eq_true k]; rfl
  · rw [decide_eq_false k]
    by_cases e1 : I 3 = 3
    · rw [if_pos e1, if_neg (fun z => k (e.mp ⟨e1, z⟩))]; rfl
    · rw [if_neg e1]; rfl
theorem m_wd {i : Nat} {I : Nat → Int32} {J : Nat → Int64} (h : mTok K St V E nm sz i I J) (h12 : I 12 = -1) (w : Nat) (hw : w < 24) : fX12_isWord N I J (mWd w) = some (p_b (decide (K i = nI (300 + w)))) := by
  have e := (h.2.2.2.2 h12).2.2.1 w hw
  unfold fX12_isWord
  by_cases k : K i = nI (300 + w)
  · obtain ⟨e1, e2⟩ := e.mpr k
    rw [if_pos e1, if_pos ((lg_cmp_eq _ _).mpr e2), decide_eq_true k]; rfl
  · rw [decide_eq_false k]
    by_cases e1 : I 3 = 1
    · rw [if_pos e1, if_neg (fun z => k (e.mp ⟨e1, (lg_cmp_eq _ _).mp z⟩))]; rfl
    · rw [if_neg e1]; rfl
end
abbrev FR := Nat × Nat × Nat × Nat × Nat
def pp_so (c : Nat) : Nat := if c = 20318 then 42 else if c = 20319 then 41 else if c = 20320 then 43 else if c = 20060 then 38 else if c = 20062 then 39 else if c = 20061 then 40 else if c = 20043 then 31 else if c = 20045 then 32 else if c = 20042 then 33 else if c = 20047 then 34 else if c = 20037 then 35 else if c = 20322 then 36 else if c = 20323 then 37 else 44
def pp_rk (c : Nat) : Nat := if c = 20318 then 1 else if c = 20319 then 2 else if c = 20320 then 3 else if c = 20060 ∨ c = 20061 ∨ c = 20062 then 4 else if c = 20043 ∨ c = 20045 then 5 else 6
def pp_isop (c : Nat) : Prop := c = 20318 ∨ c = 20319 ∨ c = 20320 ∨ c = 20060 ∨ c = 20062 ∨ c = 20061 ∨ c = 20043 ∨ c = 20045 ∨ c = 20042 ∨ c = 20047 ∨ c = 20037
def pp_ns : List Nat → Nat
  | [] => 0
  | c :: L => (if c = 20320 then 1 else 0) + pp_ns L
theorem pp_ns_app : ∀ A B : List Nat, pp_ns (A ++ B) = pp_ns A + pp_ns B
  | [], B => by show pp_ns B = 0 + pp_ns B; omega
  | c :: A, B => by show _ + pp_ns (A ++ B) = (_ + pp_ns A) + pp_ns B; rw [pp_ns_app A B]; omega
theorem pp_ns_rev : ∀ A : List Nat, pp_ns A.reverse = pp_ns A
  | [] => rfl
  | c :: A => by
    rw [List.reverse_cons, pp_ns_app, pp_ns_rev A]
    show pp_ns A + ((if c = 20320 then 1 else 0) + 0) = (if c = 20320 then 1 else 0) + pp_ns A
    omega
theorem pp_rank (N : Nat) {c : Nat} (h : pp_isop c) : fX12_rank N (nI (pp_so c)) = some (nI (pp_rk c)) := by
  rcases h with rfl | rfl | rfl | rfl | rfl | rfl | rfl | rfl | rfl | rfl | rfl <;> (unfold fX12_rank; decide +kernel)
theorem pp_so_43 {c : Nat} (h : pp_isop c) : (nI (pp_so c) = 43) ↔ c = 20320 := by
  rcases h with rfl | rfl | rfl | rfl | rfl | rfl | rfl | rfl | rfl | rfl | rfl <;> decide +kernel
theorem pp_so_rel {c : Nat} (h : pp_isop c ∨ c = 20322 ∨ c = 20323 ∨ c = 20317) : pm_rel c (pp_so c) 0 ∧ ¬ pp_so c = 0 := by
  unfold pm_rel pm_so pp_so
  rcases h with (rfl | rfl | rfl | rfl | rfl | rfl | rfl | rfl | rfl | rfl | rfl) | rfl | rfl | rfl <;> simp
def mFr (fr : List FR) (fF pF bF aF qF : Nat → Int32) : Prop := ∀ j x, fr[j]? = some x → fF j = nI x.1 ∧ pF j = nI x.2.1 ∧ bF j = nI x.2.2.1 ∧ aF j = nI x.2.2.2.1 ∧ (x.1 = 3 ∨ x.1 = 4 ∨ x.1 = 6 → qF j = nI x.2.2.2.2)
def mOps (P : List Nat) (oF : Nat → Int32) : Prop := ∀ j c, P[j]? = some c → oF j = nI (pp_so c) ∧ pp_isop c
def mCd (b : Nat) (C : List Nat) (cs cv : Nat → Int32) : Prop := ∀ j c, C[j]? = some c → ∃ s v, cs (1600 * b + j) = nI s ∧ (s = 0 → cv (1600 * b + j) = nI v) ∧ pm_rel c s v
theorem li_top {α : Type} {L : List α} {x : α} : (L ++ [x])[L.length]? = some x := by rw [List.getElem?_append_right (Nat.le_refl _), Nat.sub_self]; rfl
theorem li_low {α : Type} {L M : List α} {j : Nat} {y : α} (h : L[j]? = some y) : (L ++ M)[j]? = some y := by
  rw [List.getElem?_append_left (List.getElem?_eq_some_iff.mp h).1]; exact h
theorem li_cs {α : Type} {L : List α} {x y : α} {j : Nat} (h : (L ++ [x])[j]? = some y) : (j = L.length ∧ y = x) ∨ (j < L.length ∧ L[j]? = some y) := by
  have hl := (List.getElem?_eq_some_iff.mp h).1
  rw [List.length_append] at hl
  have hl : j < L.length + 1 := hl
  by_cases e : j = L.length
  · subst e; rw [li_top] at h; exact Or.inl ⟨rfl, (Option.some.inj h).symm⟩
  · refine Or.inr ⟨by omega, ?_⟩
    rw [List.getElem?_append_left (by omega)] at h; exact h
theorem li_len {α : Type} {L : List α} {j : Nat} {y : α} (h : L[j]? = some y) : j < L.length := (List.getElem?_eq_some_iff.mp h).1
theorem mFr_low {fr : List FR} {t : FR} {fF pF bF aF qF : Nat → Int32} (h : mFr (fr ++ [t]) fF pF bF aF qF) : mFr fr fF pF bF aF qF := fun j x hj => h j x (li_low hj)
theorem mFr_top {fr : List FR} {t : FR} {fF pF bF aF qF : Nat → Int32} (h : mFr (fr ++ [t]) fF pF bF aF qF) : fF fr.length = nI t.1 ∧ pF fr.length = nI t.2.1 ∧ bF fr.length = nI t.2.2.1 ∧ aF fr.length = nI t.2.2.2.1 ∧ (t.1 = 3 ∨ t.1 = 4 ∨ t.1 = 6 → qF fr.length = nI t.2.2.2.2) := h _ _ li_top
theorem mFr_set {fr : List FR} {t' : FR} {fF pF bF aF qF fF' pF' bF' aF' qF' : Nat → Int32} (h : mFr fr fF pF bF aF qF) (ho : ∀ j, j < fr.length → fF' j = fF j ∧ pF' j = pF j ∧ bF' j = bF j ∧ aF' j = aF j ∧ qF' j = qF j) (ht : fF' fr.length = nI t'.1 ∧ pF' fr.length = nI t'.2.1 ∧ bF' fr.length = nI t'.2.2.1 ∧ aF' fr.length = nI t'.2.2.2.1 ∧ (t'.1 = 3 ∨ t'.1 = 4 ∨ t'.1 = 6 → qF' fr.length = nI t'.2.2.2.2)) : mFr (fr ++ [t']) fF' pF' bF' aF' qF' := by
  intro j x hj
  rcases li_cs hj with ⟨rfl, rfl⟩ | ⟨hl, hj⟩
  · exact ht
  · obtain ⟨a, b, c, d, e⟩ := ho j hl
    obtain ⟨a1, b1, c1, d1, e1⟩ := h j x hj
    exact ⟨a.trans a1, b.trans b1, c.trans c1, d.trans d1, fun z => e.trans (e1 z)⟩
theorem mOps_snoc {P : List Nat} {oF : Nat → Int32} (h : mOps P oF) {c : Nat} (hc : pp_isop c) : mOps (P ++ [c]) (upd oF P.length (nI (pp_so c))) := by
  intro j x hj
  rcases li_cs hj with ⟨rfl, rfl⟩ | ⟨hl, hj⟩
  · exact ⟨if_pos rfl, hc⟩
  · exact ⟨(if_neg (by omega)).trans (h j x hj).1, (h j x hj).2⟩
theorem mCd_snoc {b : Nat} {C : List Nat} {cs cv : Nat → Int32} (h : mCd b C cs cv) {c s : Nat} {p : Int32} (hr : ∃ v, (s = 0 → p = nI v) ∧ pm_rel c s v) : mCd b (C ++ [c]) (upd cs (1600 * b + C.length) (nI s)) (upd cv (1600 * b + C.length) p) := by
  intro j x hj
  rcases li_cs hj with ⟨rfl, rfl⟩ | ⟨hl, hj⟩
  · obtain ⟨v, h1, h2⟩ := hr
    exact ⟨s, v, if_pos rfl, fun z => (if_pos rfl).trans (h1 z), h2⟩
  · obtain ⟨s', v', h1, h2, h3⟩ := h j x hj
    exact ⟨s', v', (if_neg (by omega)).trans h1, fun z => (if_neg (by omega)).trans (h2 z), h3⟩
/-- which ints of the reference its formula reader may change -/
def mzz (j : Nat) : Prop := j = 3 ∨ j = 4 ∨ j = 5 ∨ j = 6 ∨ j = 8 ∨ j = 9 ∨ j = 12 ∨ j = 30 ∨ j = 38 ∨ j = 39 ∨ j = 41 ∨ j = 42
def mKeep (b : Nat) (I0 : Nat → Int32) (J0 : Nat → Int64) (cs0 cv0 : Nat → Int32) (I : Nat → Int32) (J : Nat → Int64) (cs cv : Nat → Int32) : Prop := (∀ j, ¬ mzz j → I j = I0 j) ∧ (∀ j, ¬ j = 7 → J j = J0 j) ∧ ∀ j, (j < 1600 * b ∨ 1600 * b + 1600 ≤ j) → cs j = cs0 j ∧ cv j = cv0 j
abbrev RS := (Nat → Int32) × (Nat → Int64) × (Nat → Int32) × (Nat → Int32) × (Nat → Int32) × (Nat → Int32) × (Nat → Int32) × (Nat → Int32) × (Nat → Int32) × (Nat → Int32)
def mInt (u i nf np nc o : Nat) (I : Nat → Int32) : Prop := I 8 = 0 ∧ I 9 = -1 ∧ I 42 = nI u ∧ I 38 = nI nf ∧ I 39 = nI o ∧ I 41 = nI np ∧ I 30 = nI nc
section
variable {K St V E : Nat → Int32} {nm : Int32 → Int64 → Prop} {sz : Int32} {n b : Nat} {I0 : Nat → Int32} {J0 : Nat → Int64} {cs0 cv0 tF : Nat → Int32} (N : Nat)
/-- the reader's state: u 1 behind an operand, at piece i, frames, held-back operators, codes, how many are open -/
def mR (K St V E : Nat → Int32) (nm : Int32 → Int64 → Prop) (sz : Int32) (n b : Nat) (I0 : Nat → Int32) (J0 : Nat → Int64) (cs0 cv0 : Nat → Int32) (u i : Nat) (fr : List FR) (P C : List Nat) (o : Nat) (x : RS) : Prop :=
  mTok K St V E nm sz i x.1 x.2.1 ∧ mInt u i fr.length P.length C.length o x.1 ∧ mFr fr x.2.2.1 x.2.2.2.1 x.2.2.2.2.1 x.2.2.2.2.2.1 x.2.2.2.2.2.2.2.2.2 ∧ mOps P x.2.2.2.2.2.2.1 ∧ mCd b C x.2.2.2.2.2.2.2.1 x.2.2.2.2.2.2.2.2.1 ∧ mKeep b I0 J0 cs0 cv0 x.1 x.2.1 x.2.2.2.2.2.2.2.1 x.2.2.2.2.2.2.2.2.1 ∧ (1 ≤ i ∧ i < n ∧ n ≤ 1601 ∧ C.length + P.length ≤ i ∧ o + 1 = fr.length + pp_ns P ∧ o ≤ 7 ∧ b < 2 ∧ I0 31 = nI b ∧ P.length ≤ 400)
def mDe (b : Nat) (I0 : Nat → Int32) (J0 : Nat → Int64) (cs0 cv0 : Nat → Int32) (f : Nat) (p : Int32) (x : RS) : Prop := x.1 8 = nI f ∧ x.1 9 = p ∧ mKeep b I0 J0 cs0 cv0 x.1 x.2.1 x.2.2.2.2.2.2.2.1 x.2.2.2.2.2.2.2.2.1
def mLp (N : Nat) (tF : Nat → Int32) (M : Nat) (x : RS) (v : Int32) : Option RS := xq_loop (fX12_reads_l43 N tF) M (x.1, x.2.1, x.2.2.1, x.2.2.2.1, x.2.2.2.2.1, x.2.2.2.2.2.1, x.2.2.2.2.2.2.1, x.2.2.2.2.2.2.2.1, x.2.2.2.2.2.2.2.2.1, x.2.2.2.2.2.2.2.2.2, v)
def mTo (N : Nat) (tF : Nat → Int32) (m : Nat) (x y : RS) : Prop := ∀ M, mLp N tF (M + m) x 1 = mLp N tF M y 1
def mEnd (N : Nat) (tF : Nat → Int32) (m : Nat) (x y : RS) : Prop := ∀ M, mLp N tF (M + m) x 1 = some y
theorem mTo_tr {a c : Nat} {x y z : RS} (h1 : mTo N tF a x y) (h2 : mTo N tF c y z) : mTo N tF (a + c) x z := fun M => by
  rw [show M + (a + c) = (M + c) + a by omega, h1, h2]
theorem mEnd_tr {a c : Nat} {x y z : RS} (h1 : mTo N tF a x y) (h2 : mEnd N tF c y z) : mEnd N tF (a + c) x z := fun M => by
  rw [show M + (a + c) = (M + c) + a by omega, h1, h2]
/-- the result of a piece of reading from state x at piece i -/
def mO (N : Nat) (tF K St V : Nat → Int32) (n b : Nat) (I0 : Nat → Int32) (J0 : Nat → Int64) (cs0 cv0 : Nat → Int32) (x : RS) (i : Nat) (r : PPR) (post : RS → Prop) : Prop :=
  if r.1 = 0 then ∃ m y, m + i ≤ r.2.1 ∧ i < r.2.1 ∧ mTo N tF m x y ∧ post y else ∃ m y, m + i ≤ n + 3 ∧ mEnd N tF m x y ∧ mDe b I0 J0 cs0 cv0 r.1 (pp_pl K St V r.1 r.2.1) y
theorem mO_bd {x : RS} {i : Nat} {r : PPR} {k : Nat → PPR} {p1 p2 : RS → Prop} (h : mO N tF K St V n b I0 J0 cs0 cv0 x i r p1) (hk : ∀ y, r.1 = 0 → i < r.2.1 → p1 y → mO N tF K St V n b I0 J0 cs0 cv0 y r.2.1 (k r.2.1) p2 ∨ ((k r.2.1).1 = 0 ∧ (k r.2.1).2.1 = r.2.1 ∧ p2 y)) : mO N tF K St V n b I0 J0 cs0 cv0 x i (pp_bd r k) p2 := by
  unfold mO at h
  by_cases h0 : r.1 = 0
  · rw [if_pos h0] at h
    obtain ⟨m, y, h1, h2, h3, h4⟩ := h
    rw [pp_bd_pos h0]
    unfold mO
    rcases hk y h0 h2 h4 with h5 | ⟨h5, h6, h7⟩
    · unfold mO at h5
      by_cases h8 : (k r.2.1).1 = 0
      · rw [if_pos h8] at h5
        rw [if_pos (show (((k r.2.1).1, (k r.2.1).2.1, r.2.2 ++ (k r.2.1).2.2) : PPR).1 = 0 from h8)]
        obtain ⟨m2, y2, g1, g2, g3, g4⟩ := h5
        exact ⟨m + m2, y2, by show m + m2 + i ≤ (k r.2.1).2.1; omega, by show i < (k r.2.1).2.1; omega, mTo_tr N h3 g3, g4⟩
      · rw [if_neg h8] at h5
        rw [if_neg (show ¬ (((k r.2.1).1, (k r.2.1).2.1, r.2.2 ++ (k r.2.1).2.2) : PPR).1 = 0 from h8)]
        obtain ⟨m2, y2, g1, g3, g4⟩ := h5
        exact ⟨m + m2, y2, by omega, mEnd_tr N h3 g3, g4⟩
    · rw [if_pos (show (((k r.2.1).1, (k r.2.1).2.1, r.2.2 ++ (k r.2.1).2.2) : PPR).1 = 0 from h5)]
      exact ⟨m, y, by show m + i ≤ (k r.2.1).2.1; omega, by show i < (k r.2.1).2.1; omega, h3, h7⟩
  · rw [if_neg h0] at h
    rw [pp_bd_neg h0]
    unfold mO; rw [if_neg h0]; exact h
theorem mO_step {x y : RS} {i m : Nat} {r : PPR} {p : RS → Prop} (h : mTo N tF m x y) {j : Nat} (hj : m + i ≤ j) (h2 : mO N tF K St V n b I0 J0 cs0 cv0 y j r p) : mO N tF K St V n b I0 J0 cs0 cv0 x i r p := by
  unfold mO at h2 ⊢
  by_cases h0 : r.1 = 0
  · rw [if_pos h0] at h2 ⊢
    obtain ⟨m2, y2, g1, g2, g3, g4⟩ := h2
    exact ⟨m + m2, y2, by omega, by omega, mTo_tr N h g3, g4⟩
  · rw [if_neg h0] at h2 ⊢
    obtain ⟨m2, y2, g1, g3, g4⟩ := h2
    exact ⟨m + m2, y2, by omega, mEnd_tr N h g3, g4⟩
theorem mO_mono {x : RS} {i : Nat} {r : PPR} {p q : RS → Prop} (h : mO N tF K St V n b I0 J0 cs0 cv0 x i r p) (hpq : ∀ y, r.1 = 0 → i < r.2.1 → p y → q y) : mO N tF K St V n b I0 J0 cs0 cv0 x i r q := by
  unfold mO at h ⊢
  by_cases h0 : r.1 = 0
  · rw [if_pos h0] at h ⊢
    obtain ⟨m, y, h1, h2, h3, h4⟩ := h
    exact ⟨m, y, h1, h2, h3, hpq y h0 h2 h4⟩
  · rw [if_neg h0] at h ⊢; exact h
theorem mO_al {x y : RS} {i m j : Nat} {L : List Nat} {p : RS → Prop} (h : mTo N tF m x y) (h1 : m + i ≤ j) (h2 : i < j) (hp : p y) : mO N tF K St V n b I0 J0 cs0 cv0 x i (0, j, L) p := by
  unfold mO; rw [if_pos rfl]; exact ⟨m, y, h1, h2, h, hp⟩
theorem mO_de {x y : RS} {i m f j : Nat} {p : RS → Prop} (hf : ¬ f = 0) (h : mEnd N tF m x y) (h1 : m + i ≤ n + 3) (hp : mDe b I0 J0 cs0 cv0 f (pp_pl K St V f j) y) : mO N tF K St V n b I0 J0 cs0 cv0 x i (f, j, []) p := by
  unfold mO; rw [if_neg (show ¬ ((f, j, ([] : List Nat)) : PPR).1 = 0 from hf)]; exact ⟨m, y, h1, h, hp⟩
theorem mKeep_up {I : Nat → Int32} {J : Nat → Int64} {cs cv : Nat → Int32} (h : mKeep b I0 J0 cs0 cv0 I J cs cv) {k : Nat} {v : Int32} (hk : mzz k) : mKeep b I0 J0 cs0 cv0 (va_up I k v) J cs cv := ⟨fun j hj => (va_up_ne _ _ (fun z => hj (by rw [z]; exact hk))).trans (h.1 j hj), h.2⟩
theorem mKeep_ah {I I' : Nat → Int32} {J J' : Nat → Int64} {cs cv : Nat → Int32} (h : mKeep b I0 J0 cs0 cv0 I J cs cv) (h1 : ∀ j, ¬ (j = 3 ∨ j = 4 ∨ j = 5 ∨ j = 6 ∨ j = 12) → I' j = I j) (h2 : ∀ j, ¬ j = 7 → J' j = J j) : mKeep b I0 J0 cs0 cv0 I' J' cs cv := ⟨fun j hj => (h1 j (fun z => hj (by unfold mzz; omega))).trans (h.1 j hj), fun j hj => (h2 j hj).trans (h.2.1 j hj), h.2.2⟩
theorem mKeep_cd {I : Nat → Int32} {J : Nat → Int64} {cs cv : Nat → Int32} (h : mKeep b I0 J0 cs0 cv0 I J cs cv) {k : Nat} {v w : Int32} (hk : k < 1600) : mKeep b I0 J0 cs0 cv0 I J (upd cs (1600 * b + k) v) (upd cv (1600 * b + k) w) := ⟨h.1, h.2.1, fun j hj => ⟨(if_neg (by omega)).trans (h.2.2 j hj).1, (if_neg (by omega)).trans (h.2.2 j hj).2⟩⟩
theorem m_add {I : Nat → Int32} {cs cv : Nat → Int32} {nc : Nat} (h31 : I 31 = nI b) (h30 : I 30 = nI nc) (hb : b < 2) (hn : nc < 1600) (p1 p2 : Int32) : fX12_add N I cs cv p1 p2 = some (va_up I 30 (nI (nc + 1)), upd cs (1600 * b + nc) p1, upd cv (1600 * b + nc) p2) := by
  unfold fX12_add
  rw [h31, h30, mx1600, xs_ast (by omega) (by omega), xs_bd, xs_ast (by omega) (by omega), xs_bd, nI_1]
/-- what joins leaves: R in the order in which it is written -/
def mTop (r : Nat) (t : FR) (P : List Nat) : Prop := P.length = t.2.2.2.1 ∨ (t.2.2.2.1 < P.length ∧ ∃ q, P[P.length - 1]? = some q ∧ pp_rk q < r)
theorem mTop_mono {r r' : Nat} {t : FR} {P : List Nat} (h : mTop r t P) (hr : r ≤ r') : mTop r' t P := by
  rcases h with h | ⟨h, q, h1, h2⟩
  · exact Or.inl h
  · exact Or.inr ⟨h, q, h1, by omega⟩
theorem mTop_snoc {r c : Nat} {t : FR} {P : List Nat} (h : t.2.2.2.1 ≤ P.length) (hc : pp_rk c < r) : mTop r t (P ++ [c]) := by
  refine Or.inr ⟨by rw [List.length_append]; show _ < P.length + 1; omega, c, ?_, hc⟩
  rw [List.length_append]; show (P ++ [c])[P.length + 1 - 1]? = _; exact li_top
theorem mTop_le {r : Nat} {t : FR} {P : List Nat} (h : mTop r t P) : t.2.2.2.1 ≤ P.length := by
  rcases h with h | ⟨h, -⟩ <;> omega
end
