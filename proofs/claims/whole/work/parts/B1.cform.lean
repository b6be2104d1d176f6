/-! the class's formula reader does what the plain parser says: forward, with or without a FAULT -/
theorem li_snoc {c : Nat → Int32} {L : List Nat} (h : ∀ j y, L[j]? = some y → c j = nI y) (x : Nat) : ∀ j y, (L ++ [x])[j]? = some y → upd c L.length (nI x) j = nI y := by
  intro j y hj
  by_cases e : j = L.length
  · subst e
    rw [List.getElem?_append_right (Nat.le_refl _), Nat.sub_self] at hj
    cases hj
    exact if_pos rfl
  · have hl : j < L.length := by
      have := (List.getElem?_eq_some_iff.mp hj).1
      rw [List.length_append] at this
      have : j < L.length + 1 := this
      omega
    rw [List.getElem?_append_left hl] at hj
    exact (if_neg e).trans (h j y hj)
def cX (n cN : Nat) (K : Nat → Int32) : Prop := n ≤ cN ∧ cN ≤ 1601 ∧ (∀ j, j + 1 < n → ¬ K j = -1 ∧ ¬ K j = -2) ∧ (K (n - 1) = -1 ∨ K (n - 1) = -2)
theorem cX_in {n cN : Nat} {K : Nat → Int32} (hx : cX n cN K) {i : Nat} (hi : i < n) (h1 : ¬ K i = -1) (h2 : ¬ K i = -2) : i + 1 < n := by
  by_cases e : i + 1 < n
  · exact e
  · have : n - 1 = i := by omega
    rcases hx.2.2.2 with z | z
    · rw [this] at z; exact absurd z h1
    · rw [this] at z; exact absurd z h2
def cS (n : Nat) (sb : Int32) (i o s : Nat) (C : List Nat) (a b c : Nat → Int32) : Prop := b 4 = nI n ∧ b 5 = nI i ∧ b 6 = 0 ∧ i < n ∧ a 2 = nI C.length ∧ C.length + s ≤ i ∧ (∀ j x, C[j]? = some x → c j = nI x) ∧ a 3 = nI o ∧ a 4 = sb ∧ b 7 = -1
def cD (n cN : Nat) (sb : Int32) (s : Nat) (f p : Int32) (a b : Nat → Int32) : Prop := b 4 = nI n ∧ (∃ i, i < n ∧ b 5 = nI i) ∧ b 6 = f ∧ ¬ f = 0 ∧ b 7 = p ∧ (∃ u, u + s < n ∧ a 2 = nI u) ∧ a 4 = sb
def pp_pl (K St V : Nat → Int32) (f i : Nat) : Int32 := if f = 1 ∧ K i = -2 then V i else St i
def cQ (n cN : Nat) (sb : Int32) (K St V : Nat → Int32) (o s : Nat) (C : List Nat) (r : PPR) (a b c : Nat → Int32) : Prop := if r.1 = 0 then cS n sb r.2.1 o s (C ++ r.2.2) a b c else cD n cN sb s (nI r.1) (pp_pl K St V r.1 r.2.1) a b
theorem pp_bd_z (i : Nat) (X : Nat → PPR) : pp_bd (0, i, []) X = X i := rfl
theorem pp_as (r : PPR) (k l : Nat → PPR) : pp_bd (pp_bd r k) l = pp_bd r (fun i => pp_bd (k i) l) := by
  by_cases h0 : r.1 = 0
  · rw [pp_bd_pos h0, pp_bd_pos (r := r) h0]
    by_cases h1 : (k r.2.1).1 = 0
    · rw [pp_bd_pos (r := k r.2.1) h1, pp_bd_pos (r := ((k r.2.1).1, (k r.2.1).2.1, r.2.2 ++ (k r.2.1).2.2)) h1]
      show ((l (k r.2.1).2.1).1, (l (k r.2.1).2.1).2.1, (r.2.2 ++ (k r.2.1).2.2) ++ (l (k r.2.1).2.1).2.2) = _
      rw [List.append_assoc]
    · rw [pp_bd_neg (r := k r.2.1) h1, pp_bd_neg (r := ((k r.2.1).1, (k r.2.1).2.1, r.2.2 ++ (k r.2.1).2.2)) h1]
  · rw [pp_bd_neg h0, pp_bd_neg h0, pp_bd_neg h0]
section
variable {n cN : Nat} {sb : Int32} {K St V : Nat → Int32} (N : Nat)
theorem cQ_0 {i o s : Nat} {C : List Nat} {a b c : Nat → Int32} (h : cS n sb i o s C a b c) : cQ n cN sb K St V o s C (0, i, []) a b c := by
  unfold cQ; rw [if_pos rfl]
  show cS n sb i o s (C ++ []) a b c
  rw [List.append_nil]; exact h
theorem cQ_e {i o s x : Nat} {C : List Nat} {a b c : Nat → Int32} (h : cS n sb i o s (C ++ [x]) a b c) : cQ n cN sb K St V o s C (0, i, [x]) a b c := by
  unfold cQ; rw [if_pos rfl]; exact h
theorem cQ_f {f i o s : Nat} {C : List Nat} {a b c : Nat → Int32} (hf : ¬ f = 0) (h : cD n cN sb s (nI f) (pp_pl K St V f i) a b) : cQ n cN sb K St V o s C (f, i, []) a b c := by
  unfold cQ; rw [if_neg (show ¬ ((f, i, ([] : List Nat)) : PPR).1 = 0 from hf)]; exact h
theorem cQ_bd {o s : Nat} {C : List Nat} {r : PPR} {X : Nat → PPR} {a b c : Nat → Int32} (h0 : r.1 = 0) (h : cQ n cN sb K St V o s (C ++ r.2.2) (X r.2.1) a b c) : cQ n cN sb K St V o s C (pp_bd r X) a b c := by
  rw [pp_bd_pos h0]
  unfold cQ at h ⊢
  by_cases e : (X r.2.1).1 = 0
  · rw [if_pos e, List.append_assoc] at h
    rw [if_pos (show (((X r.2.1).1, (X r.2.1).2.1, r.2.2 ++ (X r.2.1).2.2) : PPR).1 = 0 from e)]; exact h
  · rw [if_neg e] at h
    rw [if_neg (show ¬ (((X r.2.1).1, (X r.2.1).2.1, r.2.2 ++ (X r.2.1).2.2) : PPR).1 = 0 from e)]; exact h
theorem cQ_dd {o s o' s' : Nat} {C C' : List Nat} {r : PPR} {X : Nat → PPR} {a b c a' b' c' : Nat → Int32} (h0 : ¬ r.1 = 0) (h : cQ n cN sb K St V o s C r a b c) (hd : ∀ f p, cD n cN sb s f p a b → cD n cN sb s' f p a' b') : cQ n cN sb K St V o' s' C' (pp_bd r X) a' b' c' := by
  rw [pp_bd_neg h0]
  unfold cQ at h ⊢
  rw [if_neg h0] at h ⊢
  exact hd _ _ h
theorem cQ_al {o s : Nat} {C : List Nat} {r : PPR} {a b c : Nat → Int32} (h0 : r.1 = 0) (h : cQ n cN sb K St V o s C r a b c) : cS n sb r.2.1 o s (C ++ r.2.2) a b c := by
  unfold cQ at h; rw [if_pos h0] at h; exact h
theorem cQ_de {o s : Nat} {C : List Nat} {r : PPR} {a b c : Nat → Int32} (h0 : ¬ r.1 = 0) (h : cQ n cN sb K St V o s C r a b c) : cD n cN sb s (nI r.1) (pp_pl K St V r.1 r.2.1) a b := by
  unfold cQ at h; rw [if_neg h0] at h; exact h
theorem cS_mono {i o s s' : Nat} {C : List Nat} {a b c : Nat → Int32} (h : cS n sb i o s C a b c) (hs : s' ≤ s) : cS n sb i o s' C a b c := ⟨h.1, h.2.1, h.2.2.1, h.2.2.2.1, h.2.2.2.2.1, by have := h.2.2.2.2.2.1; omega, h.2.2.2.2.2.2⟩
theorem cD_mono {s s' : Nat} {f p : Int32} {a b : Nat → Int32} (h : cD n cN sb s f p a b) (hs : s' ≤ s) : cD n cN sb s' f p a b := by
  obtain ⟨u, h1, h2⟩ := h.2.2.2.2.2.1
  exact ⟨h.1, h.2.1, h.2.2.1, h.2.2.2.1, h.2.2.2.2.1, ⟨u, by omega, h2⟩, h.2.2.2.2.2.2⟩
theorem cQ_mono {o s s' : Nat} {C : List Nat} {r : PPR} {a b c : Nat → Int32} (h : cQ n cN sb K St V o s C r a b c) (hs : s' ≤ s) : cQ n cN sb K St V o s' C r a b c := by
  unfold cQ at h ⊢
  by_cases e : r.1 = 0
  · rw [if_pos e] at h ⊢; exact cS_mono h hs
  · rw [if_neg e] at h ⊢; exact cD_mono h hs
theorem cQ_lv {o s : Nat} {C : List Nat} {r : PPR} {a b c : Nat → Int32} (h : cQ n cN sb K St V (o + 1) s C r a b c) : cQ n cN sb K St V o s C r (va_up a 3 ((a 3) - 1)) b c := by
  unfold cQ at h ⊢
  by_cases e : r.1 = 0
  · rw [if_pos e] at h ⊢
    exact ⟨h.1, h.2.1, h.2.2.1, h.2.2.2.1, h.2.2.2.2.1, h.2.2.2.2.2.1, h.2.2.2.2.2.2.1, by show a 3 - 1 = nI o; rw [h.2.2.2.2.2.2.2.1, nI_pred], h.2.2.2.2.2.2.2.2⟩
  · rw [if_neg e] at h ⊢; exact h
theorem cf_piece (hx : cX n cN K) {i o s : Nat} {C : List Nat} {a b c : Nat → Int32} (h : cS n sb i o s C a b c) : fX10_piece N b K cN = some (K i) := by
  have h1 := hx.1; have h2 := hx.2.1; have h3 := h.2.2.2.1
  unfold fX10_piece
  rw [if_pos h.2.2.1, h.1, h.2.1, if_pos (nI_lt h3 (by omega)), xs_ald (by omega) (by omega), xs_bd]
theorem cf_pieceD {s : Nat} {f p : Int32} {a b : Nat → Int32} (h : cD n cN sb s f p a b) : fX10_piece N b K cN = some (-2) := by
  unfold fX10_piece
  rw [if_neg (fun z => h.2.2.2.1 (h.2.2.1.symm.trans z))]
theorem cf_value (hx : cX n cN K) {i o s : Nat} {C : List Nat} {a b c : Nat → Int32} (h : cS n sb i o s C a b c) : fX10_value N b V cN = some (V i) := by
  have h1 := hx.1; have h2 := hx.2.1; have h3 := h.2.2.2.1
  unfold fX10_value
  rw [h.1, h.2.1, if_pos (nI_lt h3 (by omega)), xs_ald (by omega) (by omega), xs_bd]
theorem cf_valueD (hx : cX n cN K) {s : Nat} {f p : Int32} {a b : Nat → Int32} (h : cD n cN sb s f p a b) : ∃ v, fX10_value N b V cN = some v := by
  have h1 := hx.1; have h2 := hx.2.1
  obtain ⟨i, hi, e⟩ := h.2.1
  unfold fX10_value
  rw [h.1, e, if_pos (nI_lt hi (by omega)), xs_ald (by omega) (by omega), xs_bd]
  exact ⟨_, rfl⟩
theorem cf_next (hx : cX n cN K) {i o s : Nat} {C : List Nat} {a b c : Nat → Int32} (h : cS n sb i o s C a b c) (hi : i + 1 < n) : ∃ b', fX10_next N b = some b' ∧ cS n sb (i + 1) o (s + 1) C a b' c := by
  have h1 := hx.1; have h2 := hx.2.1
  obtain ⟨k, rfl⟩ : ∃ k, n = k + 1 := ⟨n - 1, by omega⟩
  unfold fX10_next
  rw [h.1, h.2.1, nI_pred, if_neg (nI_ge (by omega) (by omega))]
  refine ⟨_, rfl, h.1, nI_1 i, h.2.2.1, hi, h.2.2.2.2.1, by have := h.2.2.2.2.2.1; omega, h.2.2.2.2.2.2⟩
theorem cf_nextD (hx : cX n cN K) {s : Nat} {f p : Int32} {a b : Nat → Int32} (h : cD n cN sb s f p a b) : ∃ b', fX10_next N b = some b' ∧ cD n cN sb s f p a b' := by
  have h1 := hx.1; have h2 := hx.2.1
  obtain ⟨i, hi, e⟩ := h.2.1
  obtain ⟨k, rfl⟩ : ∃ k, n = k + 1 := ⟨n - 1, by omega⟩
  unfold fX10_next
  rw [h.1, e, nI_pred]
  by_cases c : k ≤ i
  · rw [if_pos (nI_le c (by omega))]; exact ⟨_, rfl, h⟩
  · rw [if_neg (nI_ge (by omega) (by omega))]
    exact ⟨_, rfl, h.1, ⟨i + 1, by omega, nI_1 i⟩, h.2.2⟩
theorem cf_wrong (hx : cX n cN K) {i o s : Nat} {C : List Nat} {a b c : Nat → Int32} (h : cS n sb i o s C a b c) : ∃ b', fX10_wrong N b K St V cN cN cN = some b' ∧ cD n cN sb s (nI 1) (pp_pl K St V 1 i) a b' := by
  have h1 := hx.1; have h2 := hx.2.1; have h3 := h.2.2.2.1; have h4 := h.2.2.2.2.2.1
  have hu : C.length + s < n := by omega
  unfold fX10_wrong pp_pl
  rw [if_pos h.2.2.1, h.1, h.2.1, if_neg (nI_ge h3 (by omega)), xs_ald (by omega) (by omega), xs_bd, xs_ald (by omega) (by omega), xs_ald (by omega) (by omega), xs_bd, xs_bd]
  by_cases e : K i = -2
  · rw [if_pos e, if_pos ⟨rfl, e⟩]
    exact ⟨_, rfl, h.1, ⟨i, h3, h.2.1⟩, rfl, by decide, rfl, ⟨_, hu, h.2.2.2.2.1⟩, h.2.2.2.2.2.2.2.2.1⟩
  · rw [if_neg e, if_neg (fun z => e z.2)]
    exact ⟨_, rfl, h.1, ⟨i, h3, h.2.1⟩, rfl, by decide, rfl, ⟨_, hu, h.2.2.2.2.1⟩, h.2.2.2.2.2.2.2.2.1⟩
theorem cf_wrongD {s : Nat} {f p : Int32} {a b : Nat → Int32} (h : cD n cN sb s f p a b) : fX10_wrong N b K St V cN cN cN = some b := by
  unfold fX10_wrong
  rw [if_neg (fun z => h.2.2.2.1 (h.2.2.1.symm.trans z))]
theorem cf_fail (hx : cX n cN K) {i o s s' f : Nat} (hf : 1 < f) (hf2 : f < 2 ^ 31) {C : List Nat} {a b c : Nat → Int32} (h : cS n sb i o s C a b c) (hu : C.length + s' < n) : ∃ b', fX10_fail N b St cN (nI f) = some b' ∧ cD n cN sb s' (nI f) (pp_pl K St V f i) a b' := by
  have h1 := hx.1; have h2 := hx.2.1; have h3 := h.2.2.2.1; have h4 := h.2.2.2.2.2.1
  unfold fX10_fail pp_pl
  rw [if_pos h.2.2.1, h.1, h.2.1, if_neg (nI_ge h3 (by omega)), xs_ald (by omega) (by omega), xs_bd, if_neg (fun z => by omega)]
  exact ⟨_, rfl, h.1, ⟨i, h3, h.2.1⟩, rfl, nI_ne0 (by omega) hf2, rfl, ⟨_, hu, h.2.2.2.2.1⟩, h.2.2.2.2.2.2.2.2.1⟩
theorem cf_failD {s : Nat} {f p q : Int32} {a b : Nat → Int32} (h : cD n cN sb s f p a b) : fX10_fail N b St cN q = some b := by
  unfold fX10_fail
  rw [if_neg (fun z => h.2.2.2.1 (h.2.2.1.symm.trans z))]
theorem cf_takeD {s : Nat} {f p t : Int32} (ht : ¬ t = -2) {a b : Nat → Int32} (h : cD n cN sb s f p a b) : fX10_take N b K St V cN cN cN t = some b := by
  unfold fX10_take
  rw [cf_pieceD N h, xs_bd, if_neg (fun z => ht z.symm), cf_wrongD N h, xs_bd]
theorem cf_takeQ (hx : cX n cN K) {o s : Nat} {C : List Nat} {r : PPR} {a b c : Nat → Int32} (t : Int32) (ht1 : ¬ t = -1) (ht2 : ¬ t = -2) (h : cQ n cN sb K St V o s C r a b c) : ∃ b', fX10_take N b K St V cN cN cN t = some b' ∧ cQ n cN sb K St V o s C (pp_bd r (pp_tk K t)) a b' c := by
  by_cases h0 : r.1 = 0
  · have h := cQ_al h0 h
    unfold fX10_take
    rw [cf_piece N hx h, xs_bd]
    by_cases e : K r.2.1 = t
    · obtain ⟨b', e1, e2⟩ := cf_next N hx h (cX_in hx h.2.2.2.1 (by rw [e]; exact ht1) (by rw [e]; exact ht2))
      rw [if_pos e, e1, xs_bd]
      refine ⟨_, rfl, cQ_bd h0 ?_⟩
      unfold pp_tk; rw [if_pos e]
      exact cQ_0 (cS_mono e2 (by omega))
    · obtain ⟨b', e1, e2⟩ := cf_wrong N (St := St) (V := V) hx h
      rw [if_neg e, e1, xs_bd]
      refine ⟨_, rfl, cQ_bd h0 ?_⟩
      unfold pp_tk; rw [if_neg e]
      exact cQ_f (by decide) e2
  · exact ⟨b, cf_takeD N ht2 (cQ_de h0 h), cQ_dd h0 h fun _ _ z => z⟩
theorem cf_emit (hx : cX n cN K) {i o s x : Nat} {C : List Nat} {a b c : Nat → Int32} (h : cS n sb i o (s + 1) C a b c) : ∃ a' c', fX1_emit N a c cN (nI x) = some (a', c') ∧ cS n sb i o s (C ++ [x]) a' b c' := by
  have h1 := hx.1; have h2 := hx.2.1; have h3 := h.2.2.2.1; have h4 := h.2.2.2.2.2.1
  unfold fX1_emit
  rw [h.2.2.2.2.1, if_neg (nI_ge (by omega) (by omega)), xs_ast (by omega) (by omega), xs_bd]
  refine ⟨_, _, rfl, h.1, h.2.1, h.2.2.1, h3, ?_, ?_, li_snoc h.2.2.2.2.2.2.1 x, h.2.2.2.2.2.2.2.1, h.2.2.2.2.2.2.2.2⟩
  · show nI C.length + 1 = _
    rw [nI_1, List.length_append]; rfl
  · rw [List.length_append]; show C.length + 1 + s ≤ i; omega
theorem cf_emitD (hx : cX n cN K) {s : Nat} {f p q : Int32} {a b c : Nat → Int32} (h : cD n cN sb (s + 1) f p a b) : ∃ a' c', fX1_emit N a c cN q = some (a', c') ∧ cD n cN sb s f p a' b := by
  have h1 := hx.1; have h2 := hx.2.1
  obtain ⟨u, hu, e⟩ := h.2.2.2.2.2.1
  unfold fX1_emit
  rw [e]
  · rw [if_neg (nI_ge (by omega) (by omega)), xs_ast (by omega) (by omega), xs_bd]
    exact ⟨_, _, rfl, h.1, h.2.1, h.2.2.1, h.2.2.2.1, h.2.2.2.2.1, ⟨u + 1, by omega, nI_1 u⟩, h.2.2.2.2.2.2⟩
theorem cf_emitQ (hx : cX n cN K) {o s x : Nat} {p : Int32} (hp : p = nI x) {C : List Nat} {r : PPR} {a b c : Nat → Int32} (h : cQ n cN sb K St V o (s + 1) C r a b c) : ∃ a' c', fX1_emit N a c cN p = some (a', c') ∧ cQ n cN sb K St V o s C (pp_bd r (pp_em x)) a' b c' := by
  subst hp
  by_cases h0 : r.1 = 0
  · obtain ⟨a', c', e1, e2⟩ := cf_emit N hx (x := x) (cQ_al h0 h)
    exact ⟨a', c', e1, cQ_bd h0 (cQ_e e2)⟩
  · obtain ⟨a', c', e1, e2⟩ := cf_emitD N hx (c := c) (q := nI x) (cQ_de h0 h)
    refine ⟨a', c', e1, ?_⟩
    rw [pp_bd_neg h0]
    unfold cQ
    rw [if_neg h0]
    exact e2
theorem cf_emitn (hx : cX n cN K) {i o s x : Nat} {C : List Nat} {a b c : Nat → Int32} (h : cS n sb i o s C a b c) (hi : i + 1 < n) : ∃ a' c' b', fX1_emit N a c cN (nI x) = some (a', c') ∧ fX10_next N b = some b' ∧ cS n sb (i + 1) o s (C ++ [x]) a' b' c' := by
  have h1 := hx.1; have h2 := hx.2.1; have h3 := h.2.2.2.1; have h4 := h.2.2.2.2.2.1
  obtain ⟨b', e1, e2⟩ := cf_next N hx h hi
  unfold fX1_emit
  rw [h.2.2.2.2.1, if_neg (nI_ge (by omega) (by omega)), xs_ast (by omega) (by omega), xs_bd]
  refine ⟨_, _, b', rfl, e1, e2.1, e2.2.1, e2.2.2.1, hi, ?_, ?_, li_snoc h.2.2.2.2.2.2.1 x, h.2.2.2.2.2.2.2.1, h.2.2.2.2.2.2.2.2.1, e2.2.2.2.2.2.2.2.2.2⟩
  · show nI C.length + 1 = _
    rw [nI_1, List.length_append]; rfl
  · rw [List.length_append]; show C.length + 1 + s ≤ i + 1; omega
theorem cf_enter (hx : cX n cN K) {i o s d : Nat} (hd : o + d = 8) {C : List Nat} {a b c : Nat → Int32} (h : cS n sb i o s C a b c) (hi : i + 1 < n) : ∃ a' b', fX1_enter N a b St cN = some (a', b') ∧ cQ n cN sb K St V (o + 1) (s + 1) C (pp_in d i) a' b' c := by
  unfold fX1_enter pp_in
  rw [h.2.2.2.2.2.2.2.1]
  by_cases e : d ≤ 1
  · obtain ⟨b1, e1, e2⟩ := cf_fail N (St := St) (V := V) hx (s' := s + 1) (f := 5) (by decide) (by decide) h (by have := h.2.2.2.2.2.1; omega)
    obtain ⟨b2, e3, e4⟩ := cf_nextD N hx e2
    rw [if_neg (show ¬ nI o < (7 : Int32) from nI_nlt (b := 7) (by omega) (by omega)), if_pos e, show (5 : Int32) = nI 5 from rfl, e1, xs_bd]
    dsimp only [fX1_enter_b17]
    rw [e3, xs_bd]
    exact ⟨_, _, rfl, cQ_f (by decide) ⟨e4.1, e4.2.1, e4.2.2.1, e4.2.2.2.1, e4.2.2.2.2.1, e4.2.2.2.2.2.1, e4.2.2.2.2.2.2⟩⟩
  · obtain ⟨b1, e1, e2⟩ := cf_next N hx h hi
    rw [if_pos (show nI o < (7 : Int32) from nI_lt (b := 7) (by omega) (by omega)), if_neg e]
    dsimp only [fX1_enter_b17]
    rw [e1, xs_bd]
    refine ⟨_, _, rfl, cQ_0 ⟨e2.1, e2.2.1, e2.2.2.1, e2.2.2.2.1, e2.2.2.2.2.1, e2.2.2.2.2.2.1, e2.2.2.2.2.2.2.1, ?_, e2.2.2.2.2.2.2.2.2⟩⟩
    show a 3 + 1 = _
    rw [h.2.2.2.2.2.2.2.1, nI_1]
def cG (n cN : Nat) (sb : Int32) (K St V : Nat → Int32) (g : (Nat → Int32) → (Nat → Int32) → (Nat → Int32) → Option ((Nat → Int32) × (Nat → Int32) × (Nat → Int32))) (X : Nat → PPR) (o s d : Nat) : Prop := (∀ C i a b c, 2 ≤ d → cS n sb i o s C a b c → ∃ a' b' c', g a b c = some (a', b', c') ∧ cQ n cN sb K St V o s C (X i) a' b' c') ∧ (∀ f p a b c, cD n cN sb s f p a b → ∃ a' b' c', g a b c = some (a', b', c') ∧ cD n cN sb s f p a' b')
theorem cG_mk {g : (Nat → Int32) → (Nat → Int32) → (Nat → Int32) → Option ((Nat → Int32) × (Nat → Int32) × (Nat → Int32))} {X : Nat → PPR} {o s d : Nat} (ha : ∀ C i a b c, 2 ≤ d → cS n sb i o s C a b c → ∃ a' b' c', g a b c = some (a', b', c') ∧ cQ n cN sb K St V o s C (X i) a' b' c')
    (hd : ∀ f p a b c, cD n cN sb s f p a b → ∃ a' b' c', g a b c = some (a', b', c') ∧ cD n cN sb s f p a' b') : cG n cN sb K St V g X o s d := ⟨ha, hd⟩
theorem cG_fw {g : (Nat → Int32) → (Nat → Int32) → (Nat → Int32) → Option ((Nat → Int32) × (Nat → Int32) × (Nat → Int32))} {X : Nat → PPR} {o s d : Nat} (hG : cG n cN sb K St V g X o s d) (C : List Nat) (r : PPR) (a b c : Nat → Int32) (h2 : r.1 = 0 → 2 ≤ d) (h : cQ n cN sb K St V o s C r a b c) : ∃ a' b' c', g a b c = some (a', b', c') ∧ cQ n cN sb K St V o s C (pp_bd r X) a' b' c' := by
  by_cases h0 : r.1 = 0
  · obtain ⟨a', b', c', e1, e2⟩ := hG.1 _ _ a b c (h2 h0) (cQ_al h0 h)
    exact ⟨a', b', c', e1, cQ_bd h0 e2⟩
  · obtain ⟨a', b', c', e1, e2⟩ := hG.2 _ _ a b c (cQ_de h0 h)
    refine ⟨a', b', c', e1, ?_⟩
    rw [pp_bd_neg h0]
    unfold cQ
    rw [if_neg h0]
    exact e2
theorem cG_of {g : (Nat → Int32) → (Nat → Int32) → (Nat → Int32) → Option ((Nat → Int32) × (Nat → Int32) × (Nat → Int32))} {X : Nat → PPR} {o s d : Nat} (hF : ∀ C r a b c, (r.1 = 0 → 2 ≤ d) → cQ n cN sb K St V o s C r a b c → ∃ a' b' c', g a b c = some (a', b', c') ∧ cQ n cN sb K St V o s C (pp_bd r X) a' b' c') (hd : ∀ f p a b c, cD n cN sb s f p a b → ∃ a' b' c', g a b c = some (a', b', c') ∧ cD n cN sb s f p a' b') : cG n cN sb K St V g X o s d :=
  ⟨fun C i a b c h2 h => hF C (0, i, []) a b c (fun _ => h2) (cQ_0 h), hd⟩
theorem cG_dd {g : (Nat → Int32) → (Nat → Int32) → (Nat → Int32) → Option ((Nat → Int32) × (Nat → Int32) × (Nat → Int32))} {X : Nat → PPR} {o s d : Nat} (h : cG n cN sb K St V g X o s d) {f p : Int32} {a b c : Nat → Int32} (hq : cD n cN sb s f p a b) : ∃ a' b' c', g a b c = some (a', b', c') ∧ cD n cN sb s f p a' b' := h.2 f p a b c hq
theorem cf_varD (hv : ∀ (a : Nat → Int32) (x : Int32), a 4 = sb → ∃ v, fX1_isVariable N a x = some v ∧ (x = -2 → v = 0)) {s : Nat} {f p : Int32} {a b c : Nat → Int32} (h : cD n cN sb s f p a b) : fX1_readVariable N a b K St V c cN cN cN cN (-2) = some (a, b, c) := by
  obtain ⟨v, e1, e2⟩ := hv a (-2) h.2.2.2.2.2.2
  unfold fX1_readVariable
  rw [e1, xs_bd, if_pos (e2 rfl), cf_wrongD N h, xs_bd]

theorem cf_two (hx : cX n cN K) {gs gt : (Nat → Int32) → (Nat → Int32) → (Nat → Int32) → Option ((Nat → Int32) × (Nat → Int32) × (Nat → Int32))} {S : Nat → PPR} {o s d w0 : Nat} {p : Int32} (hp : 20000 + p = nI (20000 + w0)) (hs : 1 ≤ d → ∀ s, cG n cN sb K St V gs S (o + 1) s d) (hd1 : 1 ≤ d) {C : List Nat} {r : PPR} {a b c : Nat → Int32} (h2 : r.1 = 0 → 2 ≤ d) (h : cQ n cN sb K St V (o + 1) (s + 1) C r a b c) :
    ∃ a' b' c', fX1_readCall_b51 N K St V cN cN cN cN gs gt (a, b, c, p) = some (a', b', c') ∧ cQ n cN sb K St V o s C (pp_bd r (pp_two K S w0)) a' b' c' := by
  obtain ⟨a1, b1, c1, e1, q1⟩ := cG_fw (hs hd1 (s + 1)) C r a b c h2 h
  obtain ⟨b2, e2, q2⟩ := cf_takeQ N hx 44 (by decide) (by decide) q1
  obtain ⟨a3, b3, c3, e3, q3⟩ := cG_fw (hs hd1 (s + 1)) C _ a1 b2 c1 (fun z => h2 (pp_bd0 (pp_bd0 z).1).1) q2
  obtain ⟨b4, e4, q4⟩ := cf_takeQ N hx 41 (by decide) (by decide) q3
  obtain ⟨a5, c5, e5, q5⟩ := cf_emitQ N hx hp (cQ_lv q4)
  refine ⟨a5, b4, c5, ?_, ?_⟩
  · dsimp only [fX1_readCall_b51]
    rw [e1, xs_bd]
    show xq_bd (fX10_take N b1 K St V cN cN cN 44) _ = _
    rw [e2, xs_bd, e3, xs_bd]
    show xq_bd (fX10_take N b3 K St V cN cN cN 41) _ = _
    rw [e4, xs_bd, e5, xs_bd]
  · have : pp_bd (pp_bd (pp_bd (pp_bd (pp_bd r S) (pp_tk K 44)) S) (pp_tk K 41)) (pp_em (20000 + w0)) = pp_bd r (pp_two K S w0) := by
      unfold pp_two
      rw [pp_as r S (pp_tk K 44), pp_as r (fun i => pp_bd (S i) (pp_tk K 44)) S, pp_as r (fun i => pp_bd (pp_bd (S i) (pp_tk K 44)) S) (pp_tk K 41), pp_as r (fun i => pp_bd (pp_bd (pp_bd (S i) (pp_tk K 44)) S) (pp_tk K 41)) (pp_em (20000 + w0))]
    rw [← this]; exact q5
theorem cf_call (hx : cX n cN K) {gs gt : (Nat → Int32) → (Nat → Int32) → (Nat → Int32) → Option ((Nat → Int32) × (Nat → Int32) × (Nat → Int32))} {S T : Nat → PPR} {o s d : Nat} (hod : o + d = 8) (hd1 : 1 ≤ d) (hs : 1 ≤ d → ∀ s, cG n cN sb K St V gs S (o + 1) s d) (ht : 1 ≤ d → ∀ s, cG n cN sb K St V gt T (o + 1) s d) {C : List Nat} {i : Nat} {a b c : Nat → Int32} (hk : K i = 317 ∨ K i = 322 ∨ K i = 323) (h : cS n sb i o s C a b c) :
    ∃ a' b' c', fX1_readCall N K St V cN cN cN cN gs gt a b c (K i) = some (a', b', c') ∧ cQ n cN sb K St V o s C (pp_call K S T d i) a' b' c' := by
  have hni : i + 1 < n := cX_in hx h.2.2.2.1 (by rcases hk with z | z | z <;> (rw [z]; decide)) (by rcases hk with z | z | z <;> (rw [z]; decide))
  have hkn : 20000 + K i = nI (20000 + pp_kn K i) := by rcases hk with z | z | z <;> (unfold pp_kn; rw [z]; rfl)
  obtain ⟨b1, e1, q1⟩ := cf_next N hx h hni
  unfold fX1_readCall pp_call
  rw [e1, xs_bd, cf_piece N hx q1, xs_bd]
  by_cases k1 : K (i + 1) = 40
  · rw [if_pos k1, if_pos k1]
    obtain ⟨a2, b2, e2, q2⟩ := cf_enter N (St := St) (V := V) hx hod q1 (cX_in hx q1.2.2.2.1 (by rw [k1]; decide) (by rw [k1]; decide))
    have q2 := cQ_mono q2 (show s + 1 ≤ s + 1 + 1 by omega)
    have hin : (pp_in d (i + 1)).1 = 0 → 2 ≤ d := fun z => (pp_in0 z).1
    rw [e2, xs_bd]
    by_cases k2 : K i = 317
    · obtain ⟨a3, b3, c3, e3, q3⟩ := cG_fw (ht hd1 (s + 1)) C _ a2 b2 c hin q2
      obtain ⟨b4, e4, q4⟩ := cf_takeQ N hx 44 (by decide) (by decide) q3
      obtain ⟨a5, b5, c5, e5, q5⟩ := cf_two N hx (gt := gt) hkn hs hd1 (fun z => hin (pp_bd0 (pp_bd0 z).1).1) q4
      refine ⟨a5, b5, c5, ?_, ?_⟩
      · dsimp only
        rw [if_pos k2, e3, xs_bd]
        dsimp only
        rw [e4, xs_bd]; exact e5
      · rw [if_pos k2]; exact q5
    · obtain ⟨a5, b5, c5, e5, q5⟩ := cf_two N hx (gt := gt) hkn hs hd1 hin q2
      refine ⟨a5, b5, c5, ?_, ?_⟩
      · dsimp only
        rw [if_neg k2]; exact e5
      · rw [if_neg k2]; exact q5
  · obtain ⟨b2, e2, q2⟩ := cf_wrong N (St := St) (V := V) hx q1
    rw [if_neg k1, if_neg k1, e2, xs_bd]
    exact ⟨_, _, _, rfl, cQ_f (by decide) (cD_mono q2 (by omega))⟩
theorem cf_part (hx : cX n cN K) {ok : Nat → Bool} (hV : ∀ i, i < n → K i = -3 → ∃ x, x ≤ 9999 ∧ V i = nI x) (hv : ∀ (a : Nat → Int32) (x : Int32), a 4 = sb → fX1_isVariable N a x = some (p_b (ok (10000 + x.toNatClampNeg)))) (hok0 : ok 10000 = false) {gs gt : (Nat → Int32) → (Nat → Int32) → (Nat → Int32) → Option ((Nat → Int32) × (Nat → Int32) × (Nat → Int32))} {S T : Nat → PPR} {o d : Nat} (hod : o + d = 8) (hs : 1 ≤ d → ∀ s, cG n cN sb K St V gs S (o + 1) s d) (ht : 1 ≤ d → ∀ s, cG n cN sb K St V gt T (o + 1) s d) (s : Nat) :
    cG n cN sb K St V (fX1_readPart N K St V cN cN cN cN (fX1_readCall N K St V cN cN cN cN gs gt) gs) (pp_part K V ok S T d) o s (d + 1) := by
  refine cG_mk ?_ ?_
  · intro C i a b c h2 h
    have hd1 : 1 ≤ d := by omega
    unfold fX1_readPart pp_part
    rw [cf_piece N hx h, xs_bd]
    by_cases k1 : K i = -3
    · obtain ⟨x, hx9, hxv⟩ := hV i h.2.2.2.1 k1
      obtain ⟨a1, c1, b1, e1, e2, q⟩ := cf_emitn N hx (x := x) h (cX_in hx h.2.2.2.1 (by rw [k1]; decide) (by rw [k1]; decide))
      rw [if_pos k1, if_pos k1, cf_value N (V := V) hx h, xs_bd, hxv, e1, xs_bd]
      dsimp only
      rw [e2, xs_bd, nI_clamp (by omega)]
      exact ⟨_, _, _, rfl, cQ_e q⟩
    rw [if_neg k1, if_neg k1]
    by_cases k2 : K i = 40
    · obtain ⟨a2, b2, e2, q2⟩ := cf_enter N (St := St) (V := V) hx hod h (cX_in hx h.2.2.2.1 (by rw [k2]; decide) (by rw [k2]; decide))
      obtain ⟨a3, b3, c3, e3, q3⟩ := cG_fw (hs hd1 s) C _ a2 b2 c (fun z => (pp_in0 z).1) (cQ_mono q2 (by omega))
      obtain ⟨b4, e4, q4⟩ := cf_takeQ N hx 41 (by decide) (by decide) q3
      refine ⟨va_up a3 3 ((a3 3) - 1), b4, c3, ?_, ?_⟩
      · rw [if_pos k2, e2, xs_bd]
        dsimp only
        rw [e3, xs_bd]
        dsimp only
        rw [e4, xs_bd]
      · rw [if_pos k2]; exact cQ_lv q4
    rw [if_neg k2, if_neg k2]
    by_cases k3 : K i = 317 ∨ K i = 322 ∨ K i = 323
    · obtain ⟨a2, b2, c2, e2, q2⟩ := cf_call N hx (T := T) hod hd1 hs ht k3 h
      refine ⟨a2, b2, c2, ?_, ?_⟩
      · rw [e2]
        rcases k3 with z | z | z
        · rw [if_pos z]; rfl
        · rw [if_neg (by rw [z]; decide), if_pos z]; rfl
        · rw [if_neg (by rw [z]; decide), if_neg (by rw [z]; decide), if_pos z]; rfl
      · rw [if_pos k3]; exact q2
    rw [if_neg k3, if_neg (fun z => k3 (Or.inl z)), if_neg (fun z => k3 (Or.inr (Or.inl z))), if_neg (fun z => k3 (Or.inr (Or.inr z)))]
    unfold fX1_readVariable
    rw [hv a (K i) h.2.2.2.2.2.2.2.2.1, xs_bd]
    show ∃ a' b' c', xq_bd (if p_b (ok (10000 + pp_kn K i)) = 0 then _ else _) _ = _ ∧ _
    by_cases k4 : ok (10000 + pp_kn K i) = true
    · have hpos : ¬ (K i).toNatClampNeg = 0 := fun z => by
        unfold pp_kn at k4; rw [z] at k4; rw [hok0] at k4; cases k4
      have hki : K i = nI (pp_kn K i) := by
        have h0 : ¬ K i < 0 := fun z => hpos (by
          have := (fa_lt _ _).mp z
          show (K i).toInt.toNat = 0
          have e0 : (0 : Int32).toInt = 0 := rfl
          omega)
        obtain ⟨j, hj, e⟩ := nI_of h0
        unfold pp_kn; rw [e, nI_clamp hj]
      have hm : ¬ K i = -1 ∧ ¬ K i = -2 := ⟨fun z => hpos (by rw [z]; rfl), fun z => hpos (by rw [z]; rfl)⟩
      obtain ⟨a1, c1, b1, e1, e2, q⟩ := cf_emitn N hx (x := 10000 + pp_kn K i) h (cX_in hx h.2.2.2.1 hm.1 hm.2)
      have e3 : (10000 : Int32) + K i = nI (10000 + pp_kn K i) := by
        rw [hki]; show nI 10000 + nI (pp_kn K i) = nI (10000 + pp_kn K i); rw [nI_add]
      rw [k4, if_neg (show ¬ p_b true = 0 by decide), if_pos rfl, e3, e1, xs_bd]
      dsimp only
      rw [e2, xs_bd, xs_bd]
      exact ⟨_, _, _, rfl, cQ_e q⟩
    · obtain ⟨b2, e2, q2⟩ := cf_wrong N (St := St) (V := V) hx h
      have k5 : ok (10000 + pp_kn K i) = false := by simpa using k4
      rw [if_neg k4, if_pos (show p_b (ok (10000 + pp_kn K i)) = 0 by rw [k5]; rfl), e2, xs_bd, xs_bd]
      exact ⟨_, _, _, rfl, cQ_f (by decide) q2⟩
  · intro f p a b c h
    unfold fX1_readPart
    rw [cf_pieceD N h, xs_bd, if_neg (by decide), if_neg (by decide), if_neg (by decide), if_neg (by decide), if_neg (by decide), cf_varD N (fun a x hax => ⟨_, hv a x hax, fun z => by
      rw [z]
      show p_b (ok 10000) = 0
      rw [hok0]; rfl⟩) h, xs_bd]
    exact ⟨_, _, _, rfl, h⟩

theorem cf_rep_readProduct (hx : cX n cN K) {g : (Nat → Int32) → (Nat → Int32) → (Nat → Int32) → Option ((Nat → Int32) × (Nat → Int32) × (Nat → Int32))} {X : Nat → PPR} {o d : Nat} (hg : ∀ s, cG n cN sb K St V g X o s d) (s : Nat) :
    ∀ (m M : Nat), m ≤ 1600 → m < M → ∀ (C : List Nat) (r : PPR) (a b c : Nat → Int32), (r.1 = 0 → 2 ≤ d) → cQ n cN sb K St V o s C r a b c → ∃ a' b' c', xq_loop (fX1_readProduct_l14 N K St V cN cN cN cN g) M (a, b, c, (if r.1 = 0 then K r.2.1 else -2), nI (1600 - m)) = some (a', b', c') ∧ cQ n cN sb K St V o s C (pp_bd r (pp_rep K pp_mul X m)) a' b' c'
  | 0, 0, _, hM => absurd hM (by decide)
  | 0, M + 1, _, hM => by
    intro C r a b c h2 h
    refine ⟨a, b, c, ?_, ?_⟩
    · show fX1_readProduct_l14 N K St V cN cN cN cN g _ (a, b, c, _, nI 1600) = _
      dsimp only [fX1_readProduct_l14]
      rw [if_pos (show (1600 : Int32) ≤ nI 1600 from nI_le (a := 1600) (Nat.le_refl _) (by decide))]
    · rw [pp_rep0, pp_bd_ok]; exact h
  | m + 1, 0, _, hM => absurd hM (Nat.not_lt_zero _)
  | m + 1, M + 1, hm, hM => by
    intro C r a b c h2 h
    show ∃ a' b' c', fX1_readProduct_l14 N K St V cN cN cN cN g (xq_loop (fX1_readProduct_l14 N K St V cN cN cN cN g) M) (a, b, c, _, nI (1600 - (m + 1))) = _ ∧ _
    dsimp only [fX1_readProduct_l14]
    rw [if_neg (show ¬ (1600 : Int32) ≤ nI (1600 - (m + 1)) from nI_ge (b := 1600) (by omega) (by decide))]
    by_cases h0 : r.1 = 0
    · have q := cQ_al h0 h
      rw [if_pos h0]
      by_cases k : pp_mul (K r.2.1) = true
      · have kk := of_decide_eq_true k
        have hne : ¬ K r.2.1 = -1 ∧ ¬ K r.2.1 = -2 := by
          refine ⟨fun z => ?_, fun z => ?_⟩ <;> (rw [z] at kk; exact absurd kk (by decide))
        have hkn : 20000 + K r.2.1 = nI (20000 + pp_kn K r.2.1) := by
          unfold pp_kn; rcases kk with z | z | z <;> (rw [z]; rfl)
        obtain ⟨b1, e1, q1⟩ := cf_next N hx q (cX_in hx q.2.2.2.1 hne.1 hne.2)
        obtain ⟨a2, b2, c2, e2, q2⟩ := cG_fw (hg (s + 1)) (C ++ r.2.2) (0, r.2.1 + 1, []) a b1 c (fun _ => h2 h0) (cQ_0 q1)
        obtain ⟨a3, c3, e3, q3⟩ := cf_emitQ N hx hkn q2
        rw [pp_bd_z] at q3
        have hb : fX1_readProduct_b39 N K St V cN cN cN cN g (xq_loop (fX1_readProduct_l14 N K St V cN cN cN cN g) M) (a, b, c, K r.2.1, nI (1600 - (m + 1))) = xq_loop (fX1_readProduct_l14 N K St V cN cN cN cN g) M (a3, b2, c3, (if (pp_bd (X (r.2.1 + 1)) (pp_em (20000 + pp_kn K r.2.1))).1 = 0 then K (pp_bd (X (r.2.1 + 1)) (pp_em (20000 + pp_kn K r.2.1))).2.1 else -2), nI (1600 - m)) := by
          dsimp only [fX1_readProduct_b39]
          rw [e1, xs_bd, e2, xs_bd]
          dsimp only
          rw [e3, xs_bd]
          dsimp only
          have e4 : fX10_piece N b2 K cN = some (if (pp_bd (X (r.2.1 + 1)) (pp_em (20000 + pp_kn K r.2.1))).1 = 0 then K (pp_bd (X (r.2.1 + 1)) (pp_em (20000 + pp_kn K r.2.1))).2.1 else -2) := by
            by_cases z0 : (pp_bd (X (r.2.1 + 1)) (pp_em (20000 + pp_kn K r.2.1))).1 = 0
            · rw [if_pos z0]; exact cf_piece N hx (cQ_al z0 q3)
            · rw [if_neg z0]; exact cf_pieceD N (cQ_de z0 q3)
          rw [e4, xs_bd, nI_1, show 1600 - (m + 1) + 1 = 1600 - m by omega]
        obtain ⟨a4, b4, c4, e5, q5⟩ := cf_rep_readProduct hx hg s m M (by omega) (by omega) (C ++ r.2.2) _ a3 b2 c3 (fun _ => h2 h0) q3
        refine ⟨a4, b4, c4, ?_, cQ_bd h0 ?_⟩
        · rw [← e5, ← hb]
          rcases kk with z | z | z
          · rw [if_pos z]
          · rw [if_neg (show ¬ K r.2.1 = 42 by rw [z]; decide), if_pos z]
          · rw [if_neg (show ¬ K r.2.1 = 42 by rw [z]; decide), if_neg (show ¬ K r.2.1 = 47 by rw [z]; decide), if_pos z]
        · unfold pp_rep; rw [if_pos k]; exact q5
      · refine ⟨a, b, c, ?_, cQ_bd h0 ?_⟩
        · rw [if_neg (fun z => k (decide_eq_true (Or.inl z))), if_neg (fun z => k (decide_eq_true (Or.inr (Or.inl z)))), if_neg (fun z => k (decide_eq_true (Or.inr (Or.inr z))))]
        · unfold pp_rep; rw [if_neg k]; exact cQ_0 q
    · rw [if_neg h0, if_neg (by decide), if_neg (by decide), if_neg (by decide)]
      refine ⟨a, b, c, rfl, ?_⟩
      exact cQ_dd h0 h fun _ _ z => z

theorem cf_rep_readSum (hx : cX n cN K) {g : (Nat → Int32) → (Nat → Int32) → (Nat → Int32) → Option ((Nat → Int32) × (Nat → Int32) × (Nat → Int32))} {X : Nat → PPR} {o d : Nat} (hg : ∀ s, cG n cN sb K St V g X o s d) (s : Nat) :
    ∀ (m M : Nat), m ≤ 1600 → m < M → ∀ (C : List Nat) (r : PPR) (a b c : Nat → Int32), (r.1 = 0 → 2 ≤ d) → cQ n cN sb K St V o s C r a b c → ∃ a' b' c', xq_loop (fX1_readSum_l14 N K St V cN cN cN cN g) M (a, b, c, (if r.1 = 0 then K r.2.1 else -2), nI (1600 - m)) = some (a', b', c') ∧ cQ n cN sb K St V o s C (pp_bd r (pp_rep K pp_add X m)) a' b' c'
  | 0, 0, _, hM => absurd hM (by decide)
  | 0, M + 1, _, hM => by
    intro C r a b c h2 h
    refine ⟨a, b, c, ?_, ?_⟩
    · show fX1_readSum_l14 N K St V cN cN cN cN g _ (a, b, c, _, nI 1600) = _
      dsimp only [fX1_readSum_l14]
      rw [if_pos (show (1600 : Int32) ≤ nI 1600 from nI_le (a := 1600) (Nat.le_refl _) (by decide))]
    · rw [pp_rep0, pp_bd_ok]; exact h
  | m + 1, 0, _, hM => absurd hM (Nat.not_lt_zero _)
  | m + 1, M + 1, hm, hM => by
    intro C r a b c h2 h
    show ∃ a' b' c', fX1_readSum_l14 N K St V cN cN cN cN g (xq_loop (fX1_readSum_l14 N K St V cN cN cN cN g) M) (a, b, c, _, nI (1600 - (m + 1))) = _ ∧ _
    dsimp only [fX1_readSum_l14]
    rw [if_neg (show ¬ (1600 : Int32) ≤ nI (1600 - (m + 1)) from nI_ge (b := 1600) (by omega) (by decide))]
    by_cases h0 : r.1 = 0
    · have q := cQ_al h0 h
      rw [if_pos h0]
      by_cases k : pp_add (K r.2.1) = true
      · have kk := of_decide_eq_true k
        have hne : ¬ K r.2.1 = -1 ∧ ¬ K r.2.1 = -2 := by
          refine ⟨fun z => ?_, fun z => ?_⟩ <;> (rw [z] at kk; exact absurd kk (by decide))
        have hkn : 20000 + K r.2.1 = nI (20000 + pp_kn K r.2.1) := by
          unfold pp_kn; rcases kk with z | z <;> (rw [z]; rfl)
        obtain ⟨b1, e1, q1⟩ := cf_next N hx q (cX_in hx q.2.2.2.1 hne.1 hne.2)
        obtain ⟨a2, b2, c2, e2, q2⟩ := cG_fw (hg (s + 1)) (C ++ r.2.2) (0, r.2.1 + 1, []) a b1 c (fun _ => h2 h0) (cQ_0 q1)
        obtain ⟨a3, c3, e3, q3⟩ := cf_emitQ N hx hkn q2
        rw [pp_bd_z] at q3
        have hb : fX1_readSum_b33 N K St V cN cN cN cN g (xq_loop (fX1_readSum_l14 N K St V cN cN cN cN g) M) (a, b, c, K r.2.1, nI (1600 - (m + 1))) = xq_loop (fX1_readSum_l14 N K St V cN cN cN cN g) M (a3, b2, c3, (if (pp_bd (X (r.2.1 + 1)) (pp_em (20000 + pp_kn K r.2.1))).1 = 0 then K (pp_bd (X (r.2.1 + 1)) (pp_em (20000 + pp_kn K r.2.1))).2.1 else -2), nI (1600 - m)) := by
          dsimp only [fX1_readSum_b33]
          rw [e1, xs_bd, e2, xs_bd]
          dsimp only
          rw [e3, xs_bd]
          dsimp only
          have e4 : fX10_piece N b2 K cN = some (if (pp_bd (X (r.2.1 + 1)) (pp_em (20000 + pp_kn K r.2.1))).1 = 0 then K (pp_bd (X (r.2.1 + 1)) (pp_em (20000 + pp_kn K r.2.1))).2.1 else -2) := by
            by_cases z0 : (pp_bd (X (r.2.1 + 1)) (pp_em (20000 + pp_kn K r.2.1))).1 = 0
            · rw [if_pos z0]; exact cf_piece N hx (cQ_al z0 q3)
            · rw [if_neg z0]; exact cf_pieceD N (cQ_de z0 q3)
          rw [e4, xs_bd, nI_1, show 1600 - (m + 1) + 1 = 1600 - m by omega]
        obtain ⟨a4, b4, c4, e5, q5⟩ := cf_rep_readSum hx hg s m M (by omega) (by omega) (C ++ r.2.2) _ a3 b2 c3 (fun _ => h2 h0) q3
        refine ⟨a4, b4, c4, ?_, cQ_bd h0 ?_⟩
        · rw [← e5, ← hb]
          rcases kk with z | z
          · rw [if_pos z]
          · rw [if_neg (show ¬ K r.2.1 = 43 by rw [z]; decide), if_pos z]
        · unfold pp_rep; rw [if_pos k]; exact q5
      · refine ⟨a, b, c, ?_, cQ_bd h0 ?_⟩
        · rw [if_neg (fun z => k (decide_eq_true (Or.inl z))), if_neg (fun z => k (decide_eq_true (Or.inr z)))]
        · unfold pp_rep; rw [if_neg k]; exact cQ_0 q
    · rw [if_neg h0, if_neg (by decide), if_neg (by decide)]
      refine ⟨a, b, c, rfl, ?_⟩
      exact cQ_dd h0 h fun _ _ z => z

theorem cf_rep_readBoth (hx : cX n cN K) {g : (Nat → Int32) → (Nat → Int32) → (Nat → Int32) → Option ((Nat → Int32) × (Nat → Int32) × (Nat → Int32))} {X : Nat → PPR} {o d : Nat} (hg : ∀ s, cG n cN sb K St V g X o s d) (s : Nat) :
    ∀ (m M : Nat), m ≤ 1600 → m < M → ∀ (C : List Nat) (r : PPR) (a b c : Nat → Int32), (r.1 = 0 → 2 ≤ d) → cQ n cN sb K St V o s C r a b c → ∃ a' b' c', xq_loop (fX1_readBoth_l6 N K St V cN cN cN cN g) M (a, b, c, nI (1600 - m)) = some (a', b', c') ∧ cQ n cN sb K St V o s C (pp_bd r (pp_rep K pp_and X m)) a' b' c'
  | 0, 0, _, hM => absurd hM (by decide)
  | 0, M + 1, _, hM => by
    intro C r a b c h2 h
    refine ⟨a, b, c, ?_, ?_⟩
    · show fX1_readBoth_l6 N K St V cN cN cN cN g _ (a, b, c, nI 1600) = _
      dsimp only [fX1_readBoth_l6]
      rw [if_pos (show (1600 : Int32) ≤ nI 1600 from nI_le (a := 1600) (Nat.le_refl _) (by decide))]
    · rw [pp_rep0, pp_bd_ok]; exact h
  | m + 1, 0, _, hM => absurd hM (Nat.not_lt_zero _)
  | m + 1, M + 1, hm, hM => by
    intro C r a b c h2 h
    show ∃ a' b' c', fX1_readBoth_l6 N K St V cN cN cN cN g (xq_loop (fX1_readBoth_l6 N K St V cN cN cN cN g) M) (a, b, c, nI (1600 - (m + 1))) = _ ∧ _
    dsimp only [fX1_readBoth_l6]
    rw [if_neg (show ¬ (1600 : Int32) ≤ nI (1600 - (m + 1)) from nI_ge (b := 1600) (by omega) (by decide))]
    by_cases h0 : r.1 = 0
    · have q := cQ_al h0 h
      rw [cf_piece N hx q, xs_bd]
      by_cases k : K r.2.1 = 319
      · have hkn : (20319 : Int32) = nI (20000 + pp_kn K r.2.1) := by
          unfold pp_kn; rw [k]; rfl
        obtain ⟨b1, e1, q1⟩ := cf_next N hx q (cX_in hx q.2.2.2.1 (by rw [k]; decide) (by rw [k]; decide))
        obtain ⟨a2, b2, c2, e2, q2⟩ := cG_fw (hg (s + 1)) (C ++ r.2.2) (0, r.2.1 + 1, []) a b1 c (fun _ => h2 h0) (cQ_0 q1)
        obtain ⟨a3, c3, e3, q3⟩ := cf_emitQ N hx hkn q2
        rw [pp_bd_z] at q3
        obtain ⟨a4, b4, c4, e5, q5⟩ := cf_rep_readBoth hx hg s m M (by omega) (by omega) (C ++ r.2.2) _ a3 b2 c3 (fun _ => h2 h0) q3
        refine ⟨a4, b4, c4, ?_, cQ_bd h0 ?_⟩
        · rw [if_pos k, e1, xs_bd, e2, xs_bd]
          dsimp only
          rw [e3, xs_bd]
          dsimp only
          rw [nI_1, show 1600 - (m + 1) + 1 = 1600 - m by omega]; exact e5
        · unfold pp_rep; rw [if_pos (show pp_and (K r.2.1) = true from decide_eq_true k)]; exact q5
      · refine ⟨a, b, c, ?_, cQ_bd h0 ?_⟩
        · rw [if_neg k]
        · unfold pp_rep; rw [if_neg (show ¬ pp_and (K r.2.1) = true from fun z => k (of_decide_eq_true z))]; exact cQ_0 q
    · rw [cf_pieceD N (cQ_de h0 h), xs_bd, if_neg (by decide)]
      exact ⟨a, b, c, rfl, cQ_dd h0 h fun _ _ z => z⟩

theorem cf_rep_readTest (hx : cX n cN K) {g : (Nat → Int32) → (Nat → Int32) → (Nat → Int32) → Option ((Nat → Int32) × (Nat → Int32) × (Nat → Int32))} {X : Nat → PPR} {o d : Nat} (hg : ∀ s, cG n cN sb K St V g X o s d) (s : Nat) :
    ∀ (m M : Nat), m ≤ 1600 → m < M → ∀ (C : List Nat) (r : PPR) (a b c : Nat → Int32), (r.1 = 0 → 2 ≤ d) → cQ n cN sb K St V o s C r a b c → ∃ a' b' c', xq_loop (fX1_readTest_l6 N K St V cN cN cN cN g) M (a, b, c, nI (1600 - m)) = some (a', b', c') ∧ cQ n cN sb K St V o s C (pp_bd r (pp_rep K pp_or X m)) a' b' c'
  | 0, 0, _, hM => absurd hM (by decide)
  | 0, M + 1, _, hM => by
    intro C r a b c h2 h
    refine ⟨a, b, c, ?_, ?_⟩
    · show fX1_readTest_l6 N K St V cN cN cN cN g _ (a, b, c, nI 1600) = _
      dsimp only [fX1_readTest_l6]
      rw [if_pos (show (1600 : Int32) ≤ nI 1600 from nI_le (a := 1600) (Nat.le_refl _) (by decide))]
    · rw [pp_rep0, pp_bd_ok]; exact h
  | m + 1, 0, _, hM => absurd hM (Nat.not_lt_zero _)
  | m + 1, M + 1, hm, hM => by
    intro C r a b c h2 h
    show ∃ a' b' c', fX1_readTest_l6 N K St V cN cN cN cN g (xq_loop (fX1_readTest_l6 N K St V cN cN cN cN g) M) (a, b, c, nI (1600 - (m + 1))) = _ ∧ _
    dsimp only [fX1_readTest_l6]
    rw [if_neg (show ¬ (1600 : Int32) ≤ nI (1600 - (m + 1)) from nI_ge (b := 1600) (by omega) (by decide))]
    by_cases h0 : r.1 = 0
    · have q := cQ_al h0 h
      rw [cf_piece N hx q, xs_bd]
      by_cases k : K r.2.1 = 318
      · have hkn : (20318 : Int32) = nI (20000 + pp_kn K r.2.1) := by
          unfold pp_kn; rw [k]; rfl
        obtain ⟨b1, e1, q1⟩ := cf_next N hx q (cX_in hx q.2.2.2.1 (by rw [k]; decide) (by rw [k]; decide))
        obtain ⟨a2, b2, c2, e2, q2⟩ := cG_fw (hg (s + 1)) (C ++ r.2.2) (0, r.2.1 + 1, []) a b1 c (fun _ => h2 h0) (cQ_0 q1)
        obtain ⟨a3, c3, e3, q3⟩ := cf_emitQ N hx hkn q2
        rw [pp_bd_z] at q3
        obtain ⟨a4, b4, c4, e5, q5⟩ := cf_rep_readTest hx hg s m M (by omega) (by omega) (C ++ r.2.2) _ a3 b2 c3 (fun _ => h2 h0) q3
        refine ⟨a4, b4, c4, ?_, cQ_bd h0 ?_⟩
        · rw [if_pos k, e1, xs_bd, e2, xs_bd]
          dsimp only
          rw [e3, xs_bd]
          dsimp only
          rw [nI_1, show 1600 - (m + 1) + 1 = 1600 - m by omega]; exact e5
        · unfold pp_rep; rw [if_pos (show pp_or (K r.2.1) = true from decide_eq_true k)]; exact q5
      · refine ⟨a, b, c, ?_, cQ_bd h0 ?_⟩
        · rw [if_neg k]
        · unfold pp_rep; rw [if_neg (show ¬ pp_or (K r.2.1) = true from fun z => k (of_decide_eq_true z))]; exact cQ_0 q
    · rw [cf_pieceD N (cQ_de h0 h), xs_bd, if_neg (by decide)]
      exact ⟨a, b, c, rfl, cQ_dd h0 h fun _ _ z => z⟩

theorem cf_repD_readProduct {g : (Nat → Int32) → (Nat → Int32) → (Nat → Int32) → Option ((Nat → Int32) × (Nat → Int32) × (Nat → Int32))} {a b c : Nat → Int32} (M : Nat) (hM : 0 < M) : xq_loop (fX1_readProduct_l14 N K St V cN cN cN cN g) M (a, b, c, -2, 0) = some (a, b, c) := by
  obtain ⟨k, rfl⟩ : ∃ k, M = k + 1 := ⟨M - 1, by omega⟩
  show fX1_readProduct_l14 N K St V cN cN cN cN g _ (a, b, c, -2, 0) = _
  dsimp only [fX1_readProduct_l14]
  rw [if_neg (by decide), if_neg (by decide), if_neg (by decide), if_neg (by decide)]
theorem cf_repD_readSum {g : (Nat → Int32) → (Nat → Int32) → (Nat → Int32) → Option ((Nat → Int32) × (Nat → Int32) × (Nat → Int32))} {a b c : Nat → Int32} (M : Nat) (hM : 0 < M) : xq_loop (fX1_readSum_l14 N K St V cN cN cN cN g) M (a, b, c, -2, 0) = some (a, b, c) := by
  obtain ⟨k, rfl⟩ : ∃ k, M = k + 1 := ⟨M - 1, by omega⟩
  show fX1_readSum_l14 N K St V cN cN cN cN g _ (a, b, c, -2, 0) = _
  dsimp only [fX1_readSum_l14]
  rw [if_neg (by decide), if_neg (by decide), if_neg (by decide)]
theorem cf_repD_readBoth {g : (Nat → Int32) → (Nat → Int32) → (Nat → Int32) → Option ((Nat → Int32) × (Nat → Int32) × (Nat → Int32))} {s : Nat} {f p : Int32} {a b c : Nat → Int32} (h : cD n cN sb s f p a b) (M : Nat) (hM : 0 < M) : xq_loop (fX1_readBoth_l6 N K St V cN cN cN cN g) M (a, b, c, 0) = some (a, b, c) := by
  obtain ⟨k, rfl⟩ : ∃ k, M = k + 1 := ⟨M - 1, by omega⟩
  show fX1_readBoth_l6 N K St V cN cN cN cN g _ (a, b, c, 0) = _
  dsimp only [fX1_readBoth_l6]
  rw [if_neg (by decide), cf_pieceD N h, xs_bd, if_neg (by decide)]
theorem cf_repD_readTest {g : (Nat → Int32) → (Nat → Int32) → (Nat → Int32) → Option ((Nat → Int32) × (Nat → Int32) × (Nat → Int32))} {s : Nat} {f p : Int32} {a b c : Nat → Int32} (h : cD n cN sb s f p a b) (M : Nat) (hM : 0 < M) : xq_loop (fX1_readTest_l6 N K St V cN cN cN cN g) M (a, b, c, 0) = some (a, b, c) := by
  obtain ⟨k, rfl⟩ : ∃ k, M = k + 1 := ⟨M - 1, by omega⟩
  show fX1_readTest_l6 N K St V cN cN cN cN g _ (a, b, c, 0) = _
  dsimp only [fX1_readTest_l6]
  rw [if_neg (by decide), cf_pieceD N h, xs_bd, if_neg (by decide)]
theorem cf_piece2 (hx : cX n cN K) {o s : Nat} {C : List Nat} {r : PPR} {a b c : Nat → Int32} (q : cQ n cN sb K St V o s C r a b c) : fX10_piece N b K cN = some (if r.1 = 0 then K r.2.1 else -2) := by
  by_cases z0 : r.1 = 0
  · rw [if_pos z0]; exact cf_piece N hx (cQ_al z0 q)
  · rw [if_neg z0]; exact cf_pieceD N (cQ_de z0 q)
theorem cf_prod (hN : 5000 ≤ N) (hx : cX n cN K) {g : (Nat → Int32) → (Nat → Int32) → (Nat → Int32) → Option ((Nat → Int32) × (Nat → Int32) × (Nat → Int32))} {X : Nat → PPR} {o d : Nat} (hg : ∀ s, cG n cN sb K St V g X o s d) (s : Nat) : cG n cN sb K St V (fX1_readProduct N K St V cN cN cN cN g) (pp_prod K X) o s d := by
  refine cG_of ?_ (fun f p a b c h => ?_)
  rotate_left
  · obtain ⟨a1, b1, c1, e1, q1⟩ := (hg s).2 f p a b c h
    unfold fX1_readProduct
    rw [e1, xs_bd]
    dsimp only
    rw [cf_pieceD N q1, xs_bd, cf_repD_readProduct N N (by omega)]
    exact ⟨_, _, _, rfl, q1⟩
  intro C r a b c h2 h
  obtain ⟨a1, b1, c1, e1, q1⟩ := cG_fw (hg s) C r a b c h2 h
  obtain ⟨a2, b2, c2, e2, q2⟩ := cf_rep_readProduct N hx hg s 1600 N (Nat.le_refl _) (by omega) C _ a1 b1 c1 (fun z => h2 (pp_bd0 z).1) q1
  refine ⟨a2, b2, c2, ?_, ?_⟩
  · unfold fX1_readProduct
    rw [e1, xs_bd]
    dsimp only
    rw [cf_piece2 N hx q1, xs_bd]; exact e2
  · rw [pp_as] at q2; exact q2
theorem cf_sum (hN : 5000 ≤ N) (hx : cX n cN K) {g : (Nat → Int32) → (Nat → Int32) → (Nat → Int32) → Option ((Nat → Int32) × (Nat → Int32) × (Nat → Int32))} {X : Nat → PPR} {o d : Nat} (hg : ∀ s, cG n cN sb K St V g X o s d) (s : Nat) : cG n cN sb K St V (fX1_readSum N K St V cN cN cN cN (fX1_readProduct N K St V cN cN cN cN g)) (pp_sum K X) o s d := by
  have hp := cf_prod N hN hx hg
  refine cG_of ?_ (fun f p a b c h => ?_)
  rotate_left
  · obtain ⟨a1, b1, c1, e1, q1⟩ := (hp s).2 f p a b c h
    unfold fX1_readSum
    rw [e1, xs_bd]
    dsimp only
    rw [cf_pieceD N q1, xs_bd, cf_repD_readSum N N (by omega)]
    exact ⟨_, _, _, rfl, q1⟩
  intro C r a b c h2 h
  obtain ⟨a1, b1, c1, e1, q1⟩ := cG_fw (hp s) C r a b c h2 h
  obtain ⟨a2, b2, c2, e2, q2⟩ := cf_rep_readSum N hx hp s 1600 N (Nat.le_refl _) (by omega) C _ a1 b1 c1 (fun z => h2 (pp_bd0 z).1) q1
  refine ⟨a2, b2, c2, ?_, ?_⟩
  · unfold fX1_readSum
    rw [e1, xs_bd]
    dsimp only
    rw [cf_piece2 N hx q1, xs_bd]; exact e2
  · rw [pp_as] at q2; exact q2
theorem cf_test (hN : 5000 ≤ N) (hx : cX n cN K) {g : (Nat → Int32) → (Nat → Int32) → (Nat → Int32) → Option ((Nat → Int32) × (Nat → Int32) × (Nat → Int32))} {X : Nat → PPR} {o d : Nat} (hg : ∀ s, cG n cN sb K St V g X o s d) (s : Nat) : cG n cN sb K St V (fX1_readTest N K St V cN cN cN cN (fX1_readBoth N K St V cN cN cN cN g)) (pp_test K X) o s d := by
  have hp : ∀ s, cG n cN sb K St V (fX1_readBoth N K St V cN cN cN cN g) (pp_both K X) o s d := by
    intro s
    refine cG_of ?_ (fun f p a b c h => ?_)
    rotate_left
    · obtain ⟨a1, b1, c1, e1, q1⟩ := (hg s).2 f p a b c h
      unfold fX1_readBoth
      rw [e1, xs_bd]
      dsimp only
      rw [cf_repD_readBoth N q1 N (by omega)]
      exact ⟨_, _, _, rfl, q1⟩
    intro C r a b c h2 h
    obtain ⟨a1, b1, c1, e1, q1⟩ := cG_fw (hg s) C r a b c h2 h
    obtain ⟨a2, b2, c2, e2, q2⟩ := cf_rep_readBoth N hx hg s 1600 N (Nat.le_refl _) (by omega) C _ a1 b1 c1 (fun z => h2 (pp_bd0 z).1) q1
    refine ⟨a2, b2, c2, ?_, ?_⟩
    · unfold fX1_readBoth
      rw [e1, xs_bd]; exact e2
    · rw [pp_as] at q2; exact q2
  refine cG_of ?_ (fun f p a b c h => ?_)
  rotate_left
  · obtain ⟨a1, b1, c1, e1, q1⟩ := (hp s).2 f p a b c h
    unfold fX1_readTest
    rw [e1, xs_bd]
    dsimp only
    rw [cf_repD_readTest N q1 N (by omega)]
    exact ⟨_, _, _, rfl, q1⟩
  intro C r a b c h2 h
  obtain ⟨a1, b1, c1, e1, q1⟩ := cG_fw (hp s) C r a b c h2 h
  obtain ⟨a2, b2, c2, e2, q2⟩ := cf_rep_readTest N hx hp s 1600 N (Nat.le_refl _) (by omega) C _ a1 b1 c1 (fun z => h2 (pp_bd0 z).1) q1
  refine ⟨a2, b2, c2, ?_, ?_⟩
  · unfold fX1_readTest
    rw [e1, xs_bd]; exact e2
  · rw [pp_as] at q2; exact q2
theorem cf_cmp (hx : cX n cN K) {gs : (Nat → Int32) → (Nat → Int32) → (Nat → Int32) → Option ((Nat → Int32) × (Nat → Int32) × (Nat → Int32))} {S : Nat → PPR} {o d : Nat} (hs : ∀ s, cG n cN sb K St V gs S o s d) (s : Nat) : cG n cN sb K St V (fX1_readComparison N K St V cN cN cN cN gs) (pp_cmp K S) o s d := by
  refine cG_mk ?_ ?_
  · intro C i a b c h2 h
    unfold fX1_readComparison pp_cmp
    rw [cf_piece N hx h, xs_bd]
    by_cases k : K i = 60 ∨ K i = 62 ∨ K i = 61
    · have hne : ¬ K i = -1 ∧ ¬ K i = -2 := by
        refine ⟨fun z => ?_, fun z => ?_⟩ <;> (rw [z] at k; exact absurd k (by decide))
      have hkn : 20000 + K i = nI (20000 + pp_kn K i) := by
        unfold pp_kn; rcases k with z | z | z <;> (rw [z]; rfl)
      obtain ⟨b1, e1, q1⟩ := cf_next N hx h (cX_in hx h.2.2.2.1 hne.1 hne.2)
      obtain ⟨a2, b2, c2, e2, q2⟩ := cG_fw (hs (s + 1)) C (0, i + 1, []) a b1 c (fun _ => h2) (cQ_0 q1)
      obtain ⟨a3, c3, e3, q3⟩ := cf_emitQ N hx hkn q2
      have hb : fX1_readComparison_b34 N K St V cN cN cN cN gs (a, b, c, K i) = some (a3, b2, c3) := by
        dsimp only [fX1_readComparison_b34]
        rw [e1, xs_bd, e2, xs_bd]
        dsimp only
        rw [e3, xs_bd]
      refine ⟨a3, b2, c3, ?_, ?_⟩
      · rw [← hb]
        rcases k with z | z | z
        · rw [if_pos z]
        · rw [if_neg (show ¬ K i = 60 by rw [z]; decide), if_pos z]
        · rw [if_neg (show ¬ K i = 60 by rw [z]; decide), if_neg (show ¬ K i = 62 by rw [z]; decide), if_pos z]
      · rw [if_pos k]; exact q3
    · obtain ⟨b2, e2, q2⟩ := cf_wrong N (St := St) (V := V) hx h
      rw [if_neg k, if_neg (fun z => k (Or.inl z)), if_neg (fun z => k (Or.inr (Or.inl z))), if_neg (fun z => k (Or.inr (Or.inr z))), e2, xs_bd]
      exact ⟨_, _, _, rfl, cQ_f (by decide) q2⟩
  · intro f p a b c h
    unfold fX1_readComparison
    rw [cf_pieceD N h, xs_bd, if_neg (by decide), if_neg (by decide), if_neg (by decide), cf_wrongD N h, xs_bd]
    exact ⟨_, _, _, rfl, h⟩
theorem cf_fact (hx : cX n cN K) {gs gt gf : (Nat → Int32) → (Nat → Int32) → (Nat → Int32) → Option ((Nat → Int32) × (Nat → Int32) × (Nat → Int32))} {S T F : Nat → PPR} {o d : Nat} (hod : o + d = 8) (hs : ∀ s, cG n cN sb K St V gs S o s (d + 1)) (ht : 1 ≤ d → ∀ s, cG n cN sb K St V gt T (o + 1) s d) (hf : 1 ≤ d → ∀ s, cG n cN sb K St V gf F (o + 1) s d) (s : Nat) :
    cG n cN sb K St V (fX1_readFact N K St V cN cN cN cN (fX1_readComparison N K St V cN cN cN cN gs) gf gs gt) (pp_fact K S T F d) o s (d + 1) := by
  refine cG_mk ?_ ?_
  · intro C i a b c h2 h
    have hd1 : 1 ≤ d := by omega
    unfold fX1_readFact pp_fact
    rw [cf_piece N hx h, xs_bd]
    by_cases k1 : K i = 91
    · obtain ⟨a2, b2, e2, q2⟩ := cf_enter N (St := St) (V := V) hx hod h (cX_in hx h.2.2.2.1 (by rw [k1]; decide) (by rw [k1]; decide))
      obtain ⟨a3, b3, c3, e3, q3⟩ := cG_fw (ht hd1 s) C _ a2 b2 c (fun z => (pp_in0 z).1) (cQ_mono q2 (by omega))
      obtain ⟨b4, e4, q4⟩ := cf_takeQ N hx 93 (by decide) (by decide) q3
      refine ⟨va_up a3 3 ((a3 3) - 1), b4, c3, ?_, ?_⟩
      · rw [if_pos k1, e2, xs_bd]
        dsimp only
        rw [e3, xs_bd]
        dsimp only
        rw [e4, xs_bd]
      · rw [if_pos k1]; exact cQ_lv q4
    rw [if_neg k1, if_neg k1]
    by_cases k2 : K i = 320
    · obtain ⟨a2, b2, e2, q2⟩ := cf_enter N (St := St) (V := V) hx hod h (cX_in hx h.2.2.2.1 (by rw [k2]; decide) (by rw [k2]; decide))
      obtain ⟨a3, b3, c3, e3, q3⟩ := cG_fw (hf hd1 (s + 1)) C _ a2 b2 c (fun z => (pp_in0 z).1) q2
      obtain ⟨a4, c4, e4, q4⟩ := cf_emitQ N hx (p := 20320) (x := 20320) rfl (cQ_lv q3)
      refine ⟨a4, b3, c4, ?_, ?_⟩
      · rw [if_pos k2, e2, xs_bd]
        dsimp only
        rw [e3, xs_bd]
        dsimp only
        rw [e4, xs_bd]
      · rw [if_pos k2]; exact q4
    rw [if_neg k2, if_neg k2]
    by_cases k3 : K i = 321
    · obtain ⟨b1, e1, q1⟩ := cf_next N hx h (cX_in hx h.2.2.2.1 (by rw [k3]; decide) (by rw [k3]; decide))
      obtain ⟨a2, c2, e2, q2⟩ := cf_emit N hx (x := 1) q1
      refine ⟨a2, b1, c2, ?_, ?_⟩
      · rw [if_pos k3, e1, xs_bd, show (1 : Int32) = nI 1 from rfl, e2, xs_bd]
      · rw [if_pos k3]; exact cQ_e q2
    rw [if_neg k3, if_neg k3]
    obtain ⟨a1, b1, c1, e1, q1⟩ := cG_fw (hs s) C (0, i, []) a b c (fun _ => h2) (cQ_0 h)
    obtain ⟨a2, b2, c2, e2, q2⟩ := cG_fw (cf_cmp N hx hs s) C _ a1 b1 c1 (fun _ => h2) q1
    refine ⟨a2, b2, c2, ?_, q2⟩
    rw [e1, xs_bd]
    dsimp only
    rw [e2, xs_bd]
  · intro f p a b c h
    unfold fX1_readFact
    rw [cf_pieceD N h, xs_bd, if_neg (by decide), if_neg (by decide), if_neg (by decide)]
    obtain ⟨a1, b1, c1, e1, q1⟩ := cG_dd (hs s) (c := c) h
    obtain ⟨a2, b2, c2, e2, q2⟩ := cG_dd (cf_cmp N hx hs s) (c := c1) q1
    rw [e1, xs_bd]
    dsimp only
    rw [e2, xs_bd]
    exact ⟨_, _, _, rfl, q2⟩

theorem cf_grp (hN : 5000 ≤ N) (hx : cX n cN K) {ok : Nat → Bool} (hV : ∀ i, i < n → K i = -3 → ∃ x, x ≤ 9999 ∧ V i = nI x) (hv : ∀ (a : Nat → Int32) (x : Int32), a 4 = sb → fX1_isVariable N a x = some (p_b (ok (10000 + x.toNatClampNeg)))) (hok0 : ok 10000 = false) :
    ∀ (d o : Nat), 1 ≤ d → o + d = 9 → (∀ s, cG n cN sb K St V (fX1_grp N K St V cN cN cN cN d).1 (pp_grp K V ok d).1 o s d) ∧ (∀ s, cG n cN sb K St V (fX1_grp N K St V cN cN cN cN d).2.1 (pp_grp K V ok d).2.1 o s d) ∧ ∀ s, cG n cN sb K St V (fX1_grp N K St V cN cN cN cN d).2.2 (pp_grp K V ok d).2.2 o s d
  | 0, o, h, _ => absurd h (by decide)
  | d + 1, o, _, ho => by
    have ih := fun h => cf_grp hN hx hV hv hok0 d (o + 1) h (by omega)
    have hs := cf_sum N hN hx (cf_part N hx (St := St) hV hv hok0 (S := (pp_grp K V ok d).1) (T := (pp_grp K V ok d).2.1) (d := d) (o := o) (by omega) (fun h => (ih h).1) (fun h => (ih h).2.1))
    have hf := cf_fact N hx (d := d) (o := o) (by omega) hs (fun h => (ih h).2.1) (fun h => (ih h).2.2)
    have ht := cf_test N hN hx hf
    exact ⟨hs, ht, hf⟩
end
