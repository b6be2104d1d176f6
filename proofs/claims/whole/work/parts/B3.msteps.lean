/-! the reference's formula reader, step by step -/
section
variable {K St V E : Nat → Int32} {nm : Int32 → Int64 → Prop} {sz : Int32} {n b : Nat} {I0 : Nat → Int32} {J0 : Nat → Int64} {cs0 cv0 tF : Nat → Int32} (N : Nat)
theorem m_sgF {i : Nat} {I : Nat → Int32} {J : Nat → Int64} (h : mTok K St V E nm sz i I J) (h12 : I 12 = -1) (c : Nat) (hc : mSg c) {x : Int32} (hx : x = nI c) (k : ¬ K i = x) : fX12_isSign N I x = some 0 := by
  subst hx; rw [m_sg N h h12 c hc, decide_eq_false k]; rfl
theorem m_sgT {i : Nat} {I : Nat → Int32} {J : Nat → Int64} (h : mTok K St V E nm sz i I J) (h12 : I 12 = -1) (c : Nat) (hc : mSg c) {x : Int32} (hx : x = nI c) (k : K i = x) : fX12_isSign N I x = some 1 := by
  subst hx; rw [m_sg N h h12 c hc, decide_eq_true k]; rfl
theorem m_wdF {i : Nat} {I : Nat → Int32} {J : Nat → Int64} (h : mTok K St V E nm sz i I J) (h12 : I 12 = -1) (w : Nat) (hw : w < 24) {p : Int64} (hp : p = mWd w) {x : Int32} (hx : x = nI (300 + w)) (k : ¬ K i = x) : fX12_isWord N I J p = some 0 := by
  subst hx; subst hp; rw [m_wd N h h12 w hw, decide_eq_false k]; rfl
theorem m_wdT {i : Nat} {I : Nat → Int32} {J : Nat → Int64} (h : mTok K St V E nm sz i I J) (h12 : I 12 = -1) (w : Nat) (hw : w < 24) {p : Int64} (hp : p = mWd w) {x : Int32} (hx : x = nI (300 + w)) (k : K i = x) : fX12_isWord N I J p = some 1 := by
  subst hx; subst hp; rw [m_wd N h h12 w hw, decide_eq_true k]; rfl
theorem mR_get {u i o : Nat} {fr : List FR} {P C : List Nat} {I : Nat → Int32} {J : Nat → Int64} {fF pF bF aF oF cs cv qF : Nat → Int32} (h : mR K St V E nm sz n b I0 J0 cs0 cv0 u i fr P C o (I, J, fF, pF, bF, aF, oF, cs, cv, qF)) : mTok K St V E nm sz i I J ∧ mInt u i fr.length P.length C.length o I ∧ mFr fr fF pF bF aF qF ∧ mOps P oF ∧ mCd b C cs cv ∧ mKeep b I0 J0 cs0 cv0 I J cs cv ∧ (1 ≤ i ∧ i < n ∧ n ≤ 1601 ∧ C.length + P.length ≤ i ∧ o + 1 = fr.length + pp_ns P ∧ o ≤ 7 ∧ b < 2 ∧ I0 31 = nI b ∧ P.length ≤ 400) := h
theorem m_joinsL {fr : List FR} {t : FR} {P : List Nat} {aF oF : Nat → Int32} {r : Nat} (hr : r < 100) (hfl : fr.length < 20) (ha : aF fr.length = nI t.2.2.2.1) (ht : mTop r t P) (hb : b < 2) :
    ∀ (R C : List Nat) (o : Nat) (I cs cv : Nat → Int32) (M : Nat), R.length < M → I 38 = nI (fr.length + 1) → I 41 = nI (P.length + R.length) → mOps (P ++ R.reverse) oF → mCd b C cs cv → I 30 = nI C.length → I 31 = nI b → I 39 = nI (o + pp_ns R) → (∀ q, q ∈ R → r ≤ pp_rk q) → C.length + R.length ≤ 1600 → P.length + R.length ≤ 400 →
    ∃ I' cs' cv', xq_loop (fX12_joins_l0 N aF oF) M (I, cs, cv, nI r) = some (I', cs', cv') ∧ I' 41 = nI P.length ∧ I' 30 = nI (C.length + R.length) ∧ I' 39 = nI o ∧ (∀ j, ¬ (j = 41 ∨ j = 30 ∨ j = 39) → I' j = I j) ∧ mCd b (C ++ R) cs' cv' ∧ ∀ j, (j < 1600 * b ∨ 1600 * b + 1600 ≤ j) → cs' j = cs j ∧ cv' j = cv j
  | _, _, _, _, _, _, 0, hM => absurd hM (Nat.not_lt_zero _)
  | [], C, o, I, cs, cv, M + 1, _ => by
    intro h38 h41 hO hC h30 h31 h39 _ hc1 hc2
    have h41 : I 41 = nI P.length := h41
    refine ⟨I, cs, cv, ?_, h41, h30, ?_, fun _ _ => rfl, ?_, fun _ _ => ⟨rfl, rfl⟩⟩
    · show fX12_joins_l0 N aF oF _ (I, cs, cv, nI r) = _
      dsimp only [fX12_joins_l0]
      have hc2 : P.length + 0 ≤ 400 := hc2
      rw [h38, nI_pred, xs_ald hfl (by decide), xs_bd, ha, h41]
      rcases ht with ht | ⟨ht, q, h1, h2⟩
      · rw [if_pos (nI_le (by omega) (by omega))]
      · obtain ⟨k, hk⟩ : ∃ k, P.length = k + 1 := ⟨P.length - 1, by omega⟩
        have hO : mOps (P ++ []) oF := hO
        rw [List.append_nil] at hO
        rw [hk] at h1
        obtain ⟨e1, e2⟩ := hO _ _ h1
        rw [hk] at ht hc2
        rw [hk, if_neg (nI_ge ht (by omega)), nI_pred, xs_ald (by omega) (by decide), xs_bd, show oF k = nI (pp_so q) from e1, pp_rank N e2, xs_bd, if_pos (nI_lt h2 (by omega))]
    · have h39 : I 39 = nI (o + 0) := h39
      exact h39
    · rw [List.append_nil]; exact hC
  | c :: R, C, o, I, cs, cv, M + 1, hM => by
    intro h38 h41 hO hC h30 h31 h39 hrk hc1 hc2
    have hM : R.length + 1 < M + 1 := hM
    have hc1 : C.length + (R.length + 1) ≤ 1600 := hc1
    have hc2 : P.length + (R.length + 1) ≤ 400 := hc2
    have h41 : I 41 = nI (P.length + R.length + 1) := h41
    rw [List.reverse_cons, ← List.append_assoc] at hO
    have htop := hO (P ++ R.reverse).length c li_top
    rw [List.length_append, List.length_reverse] at htop
    obtain ⟨e1, e2⟩ := htop
    have hle := mTop_le ht
    have hrc := hrk c (List.mem_cons_self ..)
    have hrc6 : pp_rk c < 100 := by
      unfold pp_rk
      split
      · decide
      · split
        · decide
        · split
          · decide
          · split
            · decide
            · split <;> decide
    obtain ⟨v0, hv1, hv2⟩ : ∃ v, (pp_so c = 0 → (0 : Int32) = nI v) ∧ pm_rel c (pp_so c) v := ⟨0, fun _ => rfl, (pp_so_rel (Or.inl e2)).1⟩
    have key : ∀ I1 : Nat → Int32, I1 38 = nI (fr.length + 1) → I1 41 = nI (P.length + R.length) → I1 30 = nI (C.length + 1) → I1 31 = nI b → I1 39 = nI (o + pp_ns R) → (∀ j, ¬ (j = 41 ∨ j = 30 ∨ j = 39) → I1 j = I j) → ∃ I' cs' cv', xq_loop (fX12_joins_l0 N aF oF) M (I1, upd cs (1600 * b + C.length) (nI (pp_so c)), upd cv (1600 * b + C.length) 0, nI r) = some (I', cs', cv') ∧ I' 41 = nI P.length ∧ I' 30 = nI (C.length + (R.length + 1)) ∧ I' 39 = nI o ∧ (∀ j, ¬ (j = 41 ∨ j = 30 ∨ j = 39) → I' j = I j) ∧ mCd b (C ++ c :: R) cs' cv' ∧ ∀ j, (j < 1600 * b ∨ 1600 * b + 1600 ≤ j) → cs' j = cs j ∧ cv' j = cv j := by
      intro I1 g38 g41 g30 g31 g39 gk
      obtain ⟨I', cs', cv', k1, k2, k3, k4, k5, k6, k7⟩ := m_joinsL hr hfl ha ht hb R (C ++ [c]) o I1 _ _ M (by omega) g38 g41 (fun j x hj => hO j x (li_low hj)) (mCd_snoc hC (c := c) (s := pp_so c) (p := 0) ⟨v0, hv1, hv2⟩) (by rw [g30, List.length_append]; rfl) g31 g39 (fun q hq => hrk q (List.mem_cons_of_mem _ hq)) (by rw [List.length_append]; show C.length + 1 + R.length ≤ 1600; omega) (by omega)
      refine ⟨I', cs', cv', k1, k2, ?_, k4, fun j hj => (k5 j hj).trans (gk j hj), ?_, fun j hj => ⟨(k7 j hj).1.trans (if_neg (by omega)), (k7 j hj).2.trans (if_neg (by omega))⟩⟩
      · rw [k3, List.length_append]; exact nI_c (by show C.length + 1 + R.length = _; omega)
      · rw [List.append_assoc] at k6; exact k6
    show ∃ I' cs' cv', fX12_joins_l0 N aF oF (xq_loop (fX12_joins_l0 N aF oF) M) (I, cs, cv, nI r) = _ ∧ _
    dsimp only [fX12_joins_l0]
    rw [h38, nI_pred, xs_ald hfl (by decide), xs_bd, ha, h41, if_neg (nI_ge (by omega) (by omega)), nI_pred, xs_ald (by omega) (by decide), xs_bd, e1, pp_rank N e2, xs_bd, if_neg (nI_nlt hrc (by omega)), xs_bd]
    rw [m_add N (b := b) (nc := C.length) (show (va_up I 41 (nI (P.length + R.length))) 31 = nI b from h31) (show (va_up I 41 (nI (P.length + R.length))) 30 = nI C.length from h30) hb (by omega), xs_bd]
    dsimp only
    rw [show (va_up (va_up I 41 (nI (P.length + R.length))) 30 (nI (C.length + 1))) 41 = nI (P.length + R.length) from rfl, xs_ald (by omega) (by decide), xs_bd, e1]
    by_cases k : c = 20320
    · rw [if_pos ((pp_so_43 e2).mpr k)]
      refine key _ h38 rfl rfl h31 ?_ (fun j hj => ?_)
      · show I 39 - 1 = _
        rw [h39]
        show nI (o + ((if c = 20320 then 1 else 0) + pp_ns R)) - 1 = _
        rw [if_pos k, show o + (1 + pp_ns R) = (o + pp_ns R) + 1 by omega, nI_pred]
      · rw [va_up_ne _ _ (by omega), va_up_ne _ _ (by omega), va_up_ne _ _ (by omega)]
    · rw [if_neg (fun z => k ((pp_so_43 e2).mp z))]
      refine key _ h38 rfl rfl h31 ?_ (fun j hj => ?_)
      · show I 39 = _
        rw [h39]
        show nI (o + ((if c = 20320 then 1 else 0) + pp_ns R)) = _
        rw [if_neg k]; exact nI_c (by omega)
      · rw [va_up_ne _ _ (by omega), va_up_ne _ _ (by omega)]
theorem mLp_op {I : Nat → Int32} {J : Nat → Int64} {fF pF bF aF oF cs cv qF : Nat → Int32} {I' : Nat → Int32} {J' : Nat → Int64} {fF' pF' bF' aF' oF' cs' cv' qF' : Nat → Int32} {ret : Int32} (h42 : I 42 = 0) (h : fX12_operand N I J fF bF oF tF pF aF cs cv qF = some (ret, I', J', fF', bF', oF', pF', aF', cs', cv', qF')) (hr : ret = 0 ∨ ret = 1) (h8 : I' 8 = 0) : mTo N tF 1 (I, J, fF, pF, bF, aF, oF, cs, cv, qF) (va_up I' 42 ret, J', fF', pF', bF', aF', oF', cs', cv', qF') := by
  intro M
  show fX12_reads_l43 N tF (xq_loop (fX12_reads_l43 N tF) M) (I, J, fF, pF, bF, aF, oF, cs, cv, qF, 1) = _
  dsimp only [fX12_reads_l43]
  rw [if_neg (by decide), if_pos h42, h, xs_bd]
  dsimp only
  unfold xq_zb
  rw [if_pos hr, xs_bd]
  dsimp only [fX12_reads_b70]
  rw [if_neg (by decide), if_pos (show va_up I' 42 ret 8 = 0 from h8)]
  rfl
theorem mLp_opD {I : Nat → Int32} {J : Nat → Int64} {fF pF bF aF oF cs cv qF : Nat → Int32} {I' : Nat → Int32} {J' : Nat → Int64} {fF' pF' bF' aF' oF' cs' cv' qF' : Nat → Int32} {ret : Int32} (h42 : I 42 = 0) (h : fX12_operand N I J fF bF oF tF pF aF cs cv qF = some (ret, I', J', fF', bF', oF', pF', aF', cs', cv', qF')) (hr : ret = 0 ∨ ret = 1) (h8 : ¬ I' 8 = 0) : mEnd N tF 2 (I, J, fF, pF, bF, aF, oF, cs, cv, qF) (va_up I' 42 ret, J', fF', pF', bF', aF', oF', cs', cv', qF') := by
  intro M
  show fX12_reads_l43 N tF (xq_loop (fX12_reads_l43 N tF) (M + 1)) (I, J, fF, pF, bF, aF, oF, cs, cv, qF, 1) = _
  dsimp only [fX12_reads_l43]
  rw [if_neg (by decide), if_pos h42, h, xs_bd]
  dsimp only
  unfold xq_zb
  rw [if_pos hr, xs_bd]
  dsimp only [fX12_reads_b70]
  rw [if_neg (by decide), if_neg (show ¬ va_up I' 42 ret 8 = 0 from h8)]
  dsimp only [fX12_reads_b85, fX12_reads_b86]
  show fX12_reads_l43 N tF (xq_loop (fX12_reads_l43 N tF) M) _ = _
  dsimp only [fX12_reads_l43]
  rw [if_pos rfl]
theorem mLp_go {I : Nat → Int32} {J : Nat → Int64} {fF pF bF aF oF cs cv qF : Nat → Int32} {I' : Nat → Int32} {J' : Nat → Int64} {fF' pF' bF' oF' cs' cv' : Nat → Int32} (h42 : I 42 = nI 1) (h : fX12_goesOn N I J fF pF aF oF cs cv tF bF qF = some (1, I', J', fF', pF', oF', cs', cv', bF')) (h8 : I' 8 = 0) : mTo N tF 1 (I, J, fF, pF, bF, aF, oF, cs, cv, qF) (I', J', fF', pF', bF', aF, oF', cs', cv', qF) := by
  intro M
  show fX12_reads_l43 N tF (xq_loop (fX12_reads_l43 N tF) M) (I, J, fF, pF, bF, aF, oF, cs, cv, qF, 1) = _
  dsimp only [fX12_reads_l43]
  rw [if_neg (by decide), if_neg (by rw [h42]; decide), h, xs_bd]
  dsimp only [fX12_reads_b70]
  rw [if_neg (by decide), if_pos h8]
  rfl
theorem mLp_goD {I : Nat → Int32} {J : Nat → Int64} {fF pF bF aF oF cs cv qF : Nat → Int32} {I' : Nat → Int32} {J' : Nat → Int64} {fF' pF' bF' oF' cs' cv' : Nat → Int32} (h42 : I 42 = nI 1) (h : fX12_goesOn N I J fF pF aF oF cs cv tF bF qF = some (0, I', J', fF', pF', oF', cs', cv', bF')) : mEnd N tF 2 (I, J, fF, pF, bF, aF, oF, cs, cv, qF) (I', J', fF', pF', bF', aF, oF', cs', cv', qF) := by
  intro M
  show fX12_reads_l43 N tF (xq_loop (fX12_reads_l43 N tF) (M + 1)) (I, J, fF, pF, bF, aF, oF, cs, cv, qF, 1) = _
  dsimp only [fX12_reads_l43]
  rw [if_neg (by decide), if_neg (by rw [h42]; decide), h, xs_bd]
  dsimp only [fX12_reads_b70]
  rw [if_pos rfl]
  dsimp only [fX12_reads_b85, fX12_reads_b86]
  show fX12_reads_l43 N tF (xq_loop (fX12_reads_l43 N tF) M) _ = _
  dsimp only [fX12_reads_l43]
  rw [if_pos rfl]
def pp_kt (k : Nat) : Bool := decide (k = 1 ∨ k = 5 ∨ k = 6)
def pp_first (t : FR) : Bool := pp_kt t.1 && decide (t.2.2.1 = 1)
theorem m_kt {k : Nat} (hk : k < 100) : fX12_isTest N (nI k) = some (p_b (pp_kt k)) := by
  unfold fX12_isTest pp_kt
  by_cases c1 : k = 1
  · subst c1; rfl
  rw [if_neg (show ¬ nI k = (1 : Int32) from fun z => c1 ((nI_eq (b := 1) (by omega) (by omega)).mp z))]
  by_cases c2 : k = 5
  · subst c2; rfl
  rw [if_neg (show ¬ nI k = (5 : Int32) from fun z => c2 ((nI_eq (b := 5) (by omega) (by omega)).mp z))]
  by_cases c3 : k = 6
  · subst c3; rfl
  rw [if_neg (show ¬ nI k = (6 : Int32) from fun z => c3 ((nI_eq (b := 6) (by omega) (by omega)).mp z)), decide_eq_false (by omega)]; rfl
theorem m_opH {i o : Nat} {fr : List FR} {t : FR} {P C : List Nat} {I : Nat → Int32} {J : Nat → Int64} {fF pF bF aF oF cs cv qF : Nat → Int32} (h : mR K St V E nm sz n b I0 J0 cs0 cv0 0 i (fr ++ [t]) P C o (I, J, fF, pF, bF, aF, oF, cs, cv, qF)) (h12 : I 12 = -1) (ht : t.1 < 100) (ht2 : t.2.2.1 ≤ 1) : fX12_operand N I J fF bF oF tF pF aF cs cv qF = fX12_operand_b46 N tF (I, J, fF, bF, oF, pF, aF, cs, cv, qF, nI fr.length, p_b (pp_first t)) := by
  obtain ⟨hT, hI, hF, hO, hC, hK, hn⟩ := mR_get h
  obtain ⟨f1, f2, f3, f4, f5⟩ := mFr_top hF
  have hfl : fr.length < 20 := by
    have := hn.2.2.2.2.1
    rw [List.length_append] at this
    have : o + 1 = fr.length + 1 + pp_ns P := this
    omega
  have h38 : I 38 = nI (fr.length + 1) := by have := hI.2.2.2.1; rw [List.length_append] at this; exact this
  unfold fX12_operand
  rw [m_lex0 N h12, xs_bd, if_pos (by rw [hI.1]; decide), h38, nI_pred, xs_ald hfl (by decide), xs_bd, f1, m_kt N ht, xs_bd]
  unfold pp_first
  by_cases c : pp_kt t.1 = true
  · rw [c, if_neg (by decide), xs_ald hfl (by decide), xs_bd, f3]
    by_cases c2 : t.2.2.1 = 1
    · rw [c2, if_neg (by decide)]; rfl
    · have : t.2.2.1 = 0 := by omega
      rw [this, if_pos (show nI 0 = 0 from rfl)]; rfl
  · have c : pp_kt t.1 = false := by simpa using c
    rw [c, if_pos (show p_b false = 0 from rfl)]; rfl
theorem m_opR {i o : Nat} {fr : List FR} {t : FR} {P C : List Nat} {I : Nat → Int32} {J : Nat → Int64} {fF pF bF aF oF cs cv qF : Nat → Int32} (h : mR K St V E nm sz n b I0 J0 cs0 cv0 0 i (fr ++ [t]) P C o (I, J, fF, pF, bF, aF, oF, cs, cv, qF)) (h12 : I 12 = -1) (ht : t.1 < 100) (ht2 : t.2.2.1 ≤ 1) (hno : pp_first t = true → ¬ K i = 320 ∧ ¬ K i = 91 ∧ ¬ K i = 321) : fX12_operand N I J fF bF oF tF pF aF cs cv qF = fX12_operand_b171 N tF (I, J, fF, upd bF fr.length 0, oF, pF, aF, cs, cv, qF) := by
  have hfl : fr.length < 20 := by
    have := h.2.2.2.2.2.2.2.2.2.2.1
    rw [List.length_append] at this
    have h7 := h.2.2.2.2.2.2.2.2.2.2.2.1
    have : o + 1 = fr.length + 1 + pp_ns P := this
    omega
  rw [m_opH N h h12 ht ht2]
  dsimp only [fX12_operand_b46]
  have h110 : ∀ y, (y = p_b (pp_first t)) → fX12_operand_b110 N tF (I, J, fF, bF, oF, pF, aF, cs, cv, qF, nI fr.length, y) = fX12_operand_b171 N tF (I, J, fF, upd bF fr.length 0, oF, pF, aF, cs, cv, qF) := by
    intro y hy
    dsimp only [fX12_operand_b110]
    rw [xs_ast hfl (by decide), xs_bd, show vp_nar .boolean 0 = 0 from by decide +kernel]
    subst hy
    cases hf : pp_first t with
    | false =>
      rw [if_pos (show p_b false = 0 from rfl)]
      dsimp only [fX12_operand_b137]
      rw [if_pos (show p_b false = 0 from rfl)]
    | true =>
      obtain ⟨-, k2, k3⟩ := hno hf
      rw [if_neg (show ¬ p_b true = 0 by decide), m_sgF N (mR_get h).1 h12 91 (by unfold mSg; omega) (x := 91) rfl k2, xs_bd, if_pos rfl]
      dsimp only [fX12_operand_b137]
      rw [if_neg (show ¬ p_b true = 0 by decide), m_wdF N (mR_get h).1 h12 21 (by decide) (p := 6384748) rfl (x := 321) rfl k3, xs_bd, if_pos rfl]
  cases hf : pp_first t with
  | false => rw [if_pos (show p_b false = 0 from rfl)]; exact h110 _ (by rw [hf])
  | true =>
    rw [if_neg (show ¬ p_b true = 0 by decide), m_wdF N (mR_get h).1 h12 20 (by decide) (p := 7237492) rfl (x := 320) rfl (hno hf).1, xs_bd, if_pos rfl]
    exact h110 _ (by rw [hf])

def pp_vq (k : Int32) : Int32 := if k = -3 then 0 else if k = 313 then 1 else if k = 302 then 2 else if k = 314 then 3 else if k = 315 then 4 else if k = 306 then 5 else if k = 305 then 6 else if k = 316 then 7 else if k = 309 then 8 else -1
theorem m_opV {i : Nat} {I : Nat → Int32} {J : Nat → Int64} {fF pF bF aF oF cs cv qF : Nat → Int32} (hT : mTok K St V E nm sz i I J) (h12 : I 12 = -1) (h40 : ¬ K i = 40) (h322 : ¬ K i = 322) (h323 : ¬ K i = 323) (h317 : ¬ K i = 317) : fX12_operand_b171 N tF (I, J, fF, bF, oF, pF, aF, cs, cv, qF) = fX12_operand_b441 N tF (I, J, fF, bF, oF, pF, aF, cs, cv, qF, pp_vq (K i)) := by
  unfold pp_vq
  dsimp only [fX12_operand_b171]
  rw [show (40 : Int32) = nI 40 from rfl, m_sg N hT h12 40 (by unfold mSg; omega), xs_bd, decide_eq_false (show ¬ K i = nI 40 from h40), if_pos (show p_b false = 0 from rfl)]
  rw [show (7170414 : Int64) = mWd 22 from rfl, m_wd N hT h12 22 (by decide), xs_bd, decide_eq_false (show ¬ K i = nI (300 + 22) from h322), if_pos (show p_b false = 0 from rfl)]
  rw [show (7168376 : Int64) = mWd 23 from rfl, m_wd N hT h12 23 (by decide), xs_bd, decide_eq_false (show ¬ K i = nI (300 + 23) from h323), if_pos (show p_b false = 0 from rfl)]
  rw [show (26982 : Int64) = mWd 17 from rfl, m_wd N hT h12 17 (by decide), xs_bd, decide_eq_false (show ¬ K i = nI (300 + 17) from h317), if_pos (show p_b false = 0 from rfl)]
  have h3 := (hT.2.2.2.2 h12).2.2.2.1
  by_cases k3 : K i = -3
  · rw [if_pos (h3.mpr k3), if_pos k3]
  rw [if_neg (fun z => k3 (h3.mp z)), if_neg k3]
  rw [show (474214787188 : Int64) = mWd 13 from rfl, m_wd N hT h12 13 (by decide), xs_bd]
  by_cases k313 : K i = 313
  · rw [decide_eq_true (show K i = nI (300 + 13) from k313), if_neg (show ¬ p_b true = 0 by decide), if_pos k313]
  rw [decide_eq_false (show ¬ K i = nI (300 + 13) from k313), if_pos (show p_b false = 0 from rfl), if_neg k313]
  rw [show (1752527720 : Int64) = mWd 2 from rfl, m_wd N hT h12 2 (by decide), xs_bd]
  by_cases k302 : K i = 302
  · rw [decide_eq_true (show K i = nI (300 + 2) from k302), if_neg (show ¬ p_b true = 0 by decide), if_pos k302]
  rw [decide_eq_false (show ¬ K i = nI (300 + 2) from k302), if_pos (show p_b false = 0 from rfl), if_neg k302]
  rw [show (1835625573 : Int64) = mWd 14 from rfl, m_wd N hT h12 14 (by decide), xs_bd]
  by_cases k314 : K i = 314
  · rw [decide_eq_true (show K i = nI (300 + 14) from k314), if_neg (show ¬ p_b true = 0 by decide), if_pos k314]
  rw [decide_eq_false (show ¬ K i = nI (300 + 14) from k314), if_pos (show p_b false = 0 from rfl), if_neg k314]
  rw [show (125823037105267 : Int64) = mWd 15 from rfl, m_wd N hT h12 15 (by decide), xs_bd]
  by_cases k315 : K i = 315
  · rw [decide_eq_true (show K i = nI (300 + 15) from k315), if_neg (show ¬ p_b true = 0 by decide), if_pos k315]
  rw [decide_eq_false (show ¬ K i = nI (300 + 15) from k315), if_pos (show p_b false = 0 from rfl), if_neg k315]
  rw [show (495672455792 : Int64) = mWd 6 from rfl, m_wd N hT h12 6 (by decide), xs_bd]
  by_cases k306 : K i = 306
  · rw [decide_eq_true (show K i = nI (300 + 6) from k306), if_neg (show ¬ p_b true = 0 by decide), if_pos k306]
  rw [decide_eq_false (show ¬ K i = nI (300 + 6) from k306), if_pos (show p_b false = 0 from rfl), if_neg k306]
  rw [show (7499639 : Int64) = mWd 5 from rfl, m_wd N hT h12 5 (by decide), xs_bd]
  by_cases k305 : K i = 305
  · rw [decide_eq_true (show K i = nI (300 + 5) from k305), if_neg (show ¬ p_b true = 0 by decide), if_pos k305]
  rw [decide_eq_false (show ¬ K i = nI (300 + 5) from k305), if_pos (show p_b false = 0 from rfl), if_neg k305]
  rw [show (6709618 : Int64) = mWd 16 from rfl, m_wd N hT h12 16 (by decide), xs_bd]
  by_cases k316 : K i = 316
  · rw [decide_eq_true (show K i = nI (300 + 16) from k316), if_neg (show ¬ p_b true = 0 by decide), if_pos k316]
  rw [decide_eq_false (show ¬ K i = nI (300 + 16) from k316), if_pos (show p_b false = 0 from rfl), if_neg k316]
  rw [show (1952541803 : Int64) = mWd 9 from rfl, m_wd N hT h12 9 (by decide), xs_bd]
  by_cases k309 : K i = 309
  · rw [decide_eq_true (show K i = nI (300 + 9) from k309), if_neg (show ¬ p_b true = 0 by decide), if_pos k309]
  rw [decide_eq_false (show ¬ K i = nI (300 + 9) from k309), if_pos (show p_b false = 0 from rfl), if_neg k309]

/-- the sort of a number or variable for a law, or -1 -/
def pp_vs (lw : Nat) (k : Int32) : Int32 := if k = -3 then 0 else if k = 313 then 1 else if k = 302 then 2 else if k = 314 then (if lw = 0 then 3 else -1) else if k = 315 then (if lw = 0 then 4 else -1) else if k = 306 then (if lw = 1 then 5 else -1) else if k = 305 then (if lw = 1 then 6 else -1) else if k = 316 then (if lw = 1 then 7 else -1) else if k = 309 then (if lw = 2 then 8 else -1) else -1
theorem m_opL {I : Nat → Int32} {J : Nat → Int64} {fF pF bF aF oF cs cv qF : Nat → Int32} {lw : Nat} (hl : I 32 = nI lw) (hl3 : lw < 3) (k : Int32) : fX12_operand_b441 N tF (I, J, fF, bF, oF, pF, aF, cs, cv, qF, pp_vq k) = fX12_operand_b476 N tF (I, J, fF, bF, oF, pF, aF, cs, cv, qF, pp_vs lw k) := by
  have l0 : (nI lw = 0) ↔ lw = 0 := nI_eq (b := 0) (by omega) (by decide)
  have l1 : (nI lw = 1) ↔ lw = 1 := nI_eq (b := 1) (by omega) (by decide)
  have l2 : (nI lw = 2) ↔ lw = 2 := nI_eq (b := 2) (by omega) (by decide)
  unfold pp_vq pp_vs
  by_cases c : k = -3
  · rw [if_pos c, if_pos c]; rfl
  rw [if_neg c, if_neg c]
  by_cases c1 : k = 313
  · rw [if_pos c1, if_pos c1]; rfl
  rw [if_neg c1, if_neg c1]
  by_cases c2 : k = 302
  · rw [if_pos c2, if_pos c2]; rfl
  rw [if_neg c2, if_neg c2]
  by_cases c3 : k = 314
  · rw [if_pos c3, if_pos c3]
    dsimp only [fX12_operand_b441]
    rw [if_neg (by decide), if_neg (by decide)]
    dsimp only [fX12_operand_b471]
    rw [hl]
    by_cases z : lw = 0
    · rw [if_pos (l0.mpr z), if_pos z]
    · rw [if_neg (fun y => z (l0.mp y)), if_neg z]
  rw [if_neg c3, if_neg c3]
  by_cases c4 : k = 315
  · rw [if_pos c4, if_pos c4]
    dsimp only [fX12_operand_b441]
    rw [if_neg (by decide), if_neg (by decide)]
    dsimp only [fX12_operand_b471]
    rw [hl]
    by_cases z : lw = 0
    · rw [if_pos (l0.mpr z), if_pos z]
    · rw [if_neg (fun y => z (l0.mp y)), if_neg z]
  rw [if_neg c4, if_neg c4]
  by_cases c5 : k = 306
  · rw [if_pos c5, if_pos c5]
    dsimp only [fX12_operand_b441]
    rw [if_neg (by decide), if_pos (by decide), if_neg (by decide)]
    dsimp only [fX12_operand_b471]
    rw [hl]
    by_cases z : lw = 1
    · rw [if_pos (l1.mpr z), if_pos z]
    · rw [if_neg (fun y => z (l1.mp y)), if_neg z]
  rw [if_neg c5, if_neg c5]
  by_cases c6 : k = 305
  · rw [if_pos c6, if_pos c6]
    dsimp only [fX12_operand_b441]
    rw [if_neg (by decide), if_pos (by decide), if_neg (by decide)]
    dsimp only [fX12_operand_b471]
    rw [hl]
    by_cases z : lw = 1
    · rw [if_pos (l1.mpr z), if_pos z]
    · rw [if_neg (fun y => z (l1.mp y)), if_neg z]
  rw [if_neg c6, if_neg c6]
  by_cases c7 : k = 316
  · rw [if_pos c7, if_pos c7]
    dsimp only [fX12_operand_b441]
    rw [if_neg (by decide), if_pos (by decide), if_neg (by decide)]
    dsimp only [fX12_operand_b471]
    rw [hl]
    by_cases z : lw = 1
    · rw [if_pos (l1.mpr z), if_pos z]
    · rw [if_neg (fun y => z (l1.mp y)), if_neg z]
  rw [if_neg c7, if_neg c7]
  by_cases c8 : k = 309
  · rw [if_pos c8, if_pos c8]
    dsimp only [fX12_operand_b441]
    rw [if_neg (by decide), if_pos (by decide), if_pos (by decide)]
    dsimp only [fX12_operand_b471]
    rw [hl]
    by_cases z : lw = 2
    · rw [if_pos (l2.mpr z), if_pos z]
    · rw [if_neg (fun y => z (l2.mp y)), if_neg z]
  rw [if_neg c8, if_neg c8]
  rfl
end
