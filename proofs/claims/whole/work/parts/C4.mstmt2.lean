/-! the reference reads a STATEMENT: formulas, all -/
theorem pp_lt_bd {r : PPR} {X : Nat → PPR} (h : r.1 < 100) (hX : ∀ i, (X i).1 < 100) : (pp_bd r X).1 < 100 := by
  by_cases h0 : r.1 = 0
  · rw [pp_bd_pos h0]; exact hX _
  · rw [pp_bd_neg h0]; exact h
theorem pp_lt_tk (K : Nat → Int32) (c : Int32) (i : Nat) : (pp_tk K c i).1 < 100 := by unfold pp_tk; split <;> simp
theorem pp_lt_in (d i : Nat) : (pp_in d i).1 < 100 := by unfold pp_in; split <;> simp
theorem pp_lt_em (c i : Nat) : (pp_em c i).1 < 100 := by show 0 < 100; decide
theorem pp_lt_rep {K : Nat → Int32} {op : Int32 → Bool} {part : Nat → PPR} (hp : ∀ i, (part i).1 < 100) : ∀ m i, (pp_rep K op part m i).1 < 100
  | 0, i => by show 0 < 100; decide
  | m + 1, i => by
    unfold pp_rep
    split
    · exact pp_lt_bd (pp_lt_bd (hp _) (pp_lt_em _)) (pp_lt_rep hp m)
    · show 0 < 100; decide
theorem pp_lt_two {K : Nat → Int32} {sum : Nat → PPR} (hs : ∀ i, (sum i).1 < 100) (w i : Nat) : (pp_two K sum w i).1 < 100 := pp_lt_bd (pp_lt_bd (pp_lt_bd (pp_lt_bd (hs _) (pp_lt_tk _ _)) hs) (pp_lt_tk _ _)) (pp_lt_em _)
theorem pp_lt_part {K V : Nat → Int32} {ok : Nat → Bool} {sum test : Nat → PPR} {d : Nat} (hs : ∀ i, (sum i).1 < 100) (ht : ∀ i, (test i).1 < 100) (i : Nat) : (pp_part K V ok sum test d i).1 < 100 := by
  unfold pp_part
  split
  · show 0 < 100; decide
  · split
    · exact pp_lt_bd (pp_lt_bd (pp_lt_in _ _) hs) (pp_lt_tk _ _)
    · split
      · unfold pp_call
        split
        · split
          · exact pp_lt_bd (pp_lt_bd (pp_lt_bd (pp_lt_in _ _) ht) (pp_lt_tk _ _)) (pp_lt_two hs _)
          · exact pp_lt_bd (pp_lt_in _ _) (pp_lt_two hs _)
        · show 1 < 100; decide
      · split <;> simp
theorem pp_lt_sum {K : Nat → Int32} {part : Nat → PPR} (hp : ∀ i, (part i).1 < 100) (i : Nat) : (pp_sum K part i).1 < 100 := by
  have h1 : ∀ i, (pp_prod K part i).1 < 100 := fun i => pp_lt_bd (hp i) (pp_lt_rep hp _)
  exact pp_lt_bd (h1 i) (pp_lt_rep h1 _)
theorem pp_lt_test {K : Nat → Int32} {part : Nat → PPR} (hp : ∀ i, (part i).1 < 100) (i : Nat) : (pp_test K part i).1 < 100 := by
  have h1 : ∀ i, (pp_both K part i).1 < 100 := fun i => pp_lt_bd (hp i) (pp_lt_rep hp _)
  exact pp_lt_bd (h1 i) (pp_lt_rep h1 _)
theorem pp_lt_fact {K : Nat → Int32} {sum test fact : Nat → PPR} {d : Nat} (hs : ∀ i, (sum i).1 < 100) (ht : ∀ i, (test i).1 < 100) (hf : ∀ i, (fact i).1 < 100) (i : Nat) : (pp_fact K sum test fact d i).1 < 100 := by
  unfold pp_fact
  split
  · exact pp_lt_bd (pp_lt_bd (pp_lt_in _ _) ht) (pp_lt_tk _ _)
  · split
    · exact pp_lt_bd (pp_lt_bd (pp_lt_in _ _) hf) (pp_lt_em _)
    · split
      · show 0 < 100; decide
      · refine pp_lt_bd (hs _) fun j => ?_
        unfold pp_cmp
        split
        · exact pp_lt_bd (hs _) (pp_lt_em _)
        · show 1 < 100; decide
theorem pp_lt_grp (K V : Nat → Int32) (ok : Nat → Bool) : ∀ d, (∀ i, ((pp_grp K V ok d).1 i).1 < 100) ∧ (∀ i, ((pp_grp K V ok d).2.1 i).1 < 100) ∧ ∀ i, ((pp_grp K V ok d).2.2 i).1 < 100
  | 0 => ⟨fun _ => by show 1 < 100; decide, fun _ => by show 1 < 100; decide, fun _ => by show 1 < 100; decide⟩
  | d + 1 => by
    obtain ⟨h1, h2, h3⟩ := pp_lt_grp K V ok d
    have hs := pp_lt_sum (K := K) (pp_lt_part (K := K) (V := V) (ok := ok) (d := d) h1 h2)
    have hf := pp_lt_fact (K := K) (d := d) hs h2 h3
    exact ⟨hs, pp_lt_test hf, hf⟩
theorem ppF_lt (K V : Nat → Int32) (w i : Nat) : (ppF K V w i).1 < 100 := by
  unfold ppF
  split
  · exact (pp_lt_grp K V (pp_okw w) 9).2.1 i
  · exact (pp_lt_grp K V (pp_okw w) 9).1 i
section
variable {K St V E tF : Nat → Int32} {nm : Int32 → Int64 → Prop} {sz : Int32} {n : Nat} (N : Nat)
theorem m_reading (hN : 5000 ≤ N) (hA : mAh N tF K St V E nm sz n) (hE : ∀ i, i < n → ¬ K i = -1 → ¬ K i = -2 → i + 1 < n) (hn : n ≤ 1601) (hV : ∀ i, i < n → K i = -3 → ∃ x, x ≤ 9999 ∧ V i = nI x) {G : PG} {b : Nat} {Cd : List Nat} {I sf fr ph be ba op cs cv pr sb pl ea pa ta ro sh co hu vo mt : Nat → Int32} {J en pn : Nat → Int64} {i w : Nat} (hw : w < 3) (hi : i + 1 < n) (h : mA K St V E nm sz i I J) (hG : mHs nm G b Cd I sf cs cv sb pl ea en pn mt pa ta ro sh co hu vo) (hCd : Cd.length ≤ i) :
    ∃ I' J' sf' fr' ph' be' ba' op' cs' cv' pr' sb' rq, fX12_reading N I J sf tF fr ph be ba op cs cv pr sb (nI w) = some (I', J', sf', fr', ph', be', ba', op', cs', cv', pr', sb') ∧ jm K St V E nm sz rq I' J' ∧ (rq.1 = 0 → rq.2.1 < n) ∧ (rq = (pp_rul K V G w i).1 ∨ ((pp_rul K V G w i).1.1 = 0 ∧ K (pp_rul K V G w i).1.2.1 = -2 ∧ rq = (1, (pp_rul K V G w i).1.2.1, []))) ∧ ((∀ j, ¬ (mzz j ∨ j = 32) → I' j = I j) ∧ ∀ j, ¬ j = 7 → J' j = J j) ∧ eqO 3 b sf sf' ∧ eqO 1600 b cs cs' ∧ eqO 1600 b cv cv' ∧ eqO 3 b sb sb' ∧ ((pp_rul K V G w i).1.1 = 0 → ¬ K (pp_rul K V G w i).1.2.1 = -2 → mHs nm (pp_rul K V G w i).2 b (Cd ++ (ppF K V w (i + 1)).2.2) I' sf' cs' cv' sb' pl ea en pn mt pa ta ro sh co hu vo ∧ (Cd ++ (ppF K V w (i + 1)).2.2).length ≤ (pp_rul K V G w i).1.2.1) := by
  obtain ⟨c1, c2, c3, c4, c5, c6, c7, c8, c9, c10, c11, c12, c13⟩ := hG
  unfold fX12_reading pp_rul
  rw [c2, mx3, xs_ald (by omega) (by decide), xs_bd]
  rcases c13 w hw with ⟨k1, k2, k3⟩ | ⟨k1, f, k2, k3, k4, k5⟩
  · rw [k2, if_pos rfl, if_neg (by rw [k1]; decide)]
    obtain ⟨I1, J1, e1, e2, e3⟩ := m_counted N hA false hi h
    obtain ⟨hT, h8, h9⟩ := jm_al rfl e2
    have g30 : I1 30 = nI Cd.length := (e3.1 30 (by omega)).trans c3
    have g31 : I1 31 = nI b := (e3.1 31 (by omega)).trans c2
    have hwI : ∀ kd : Nat, kd = (if w = 1 then 1 else 0) → fX12_reading_b58 N tF (va_up I1 32 (nI w), J1, upd sf (3 * b + w) (nI Cd.length), fr, ph, be, ba, op, cs, cv, pr, sb, nI (3 * b + w), nI kd) = xq_bd (fX12_reads N (va_up I1 32 (nI w)) J1 fr ph be ba op cs cv tF pr (nI (if w = 1 then 1 else 0))) (fun x => xq_bd (xq_ast 6 sb (nI (3 * b + w)) (x.1 30)) fun g_3 => some (x.1, x.2.1, upd sf (3 * b + w) (nI Cd.length), x.2.2.1, x.2.2.2.1, x.2.2.2.2.1, x.2.2.2.2.2.1, x.2.2.2.2.2.2.1, x.2.2.2.2.2.2.2.1, x.2.2.2.2.2.2.2.2.1, x.2.2.2.2.2.2.2.2.2, g_3)) := by
      intro kd hk
      rw [hk]; rfl
    have run : fX12_reading_b25 N tF (I, J, sf, fr, ph, be, ba, op, cs, cv, pr, sb, nI w, nI (3 * b + w), 0) = xq_bd (fX12_reads N (va_up I1 32 (nI w)) J1 fr ph be ba op cs cv tF pr (nI (if w = 1 then 1 else 0))) (fun x => xq_bd (xq_ast 6 sb (nI (3 * b + w)) (x.1 30)) fun g_3 => some (x.1, x.2.1, upd sf (3 * b + w) (nI Cd.length), x.2.2.1, x.2.2.2.1, x.2.2.2.2.1, x.2.2.2.2.2.1, x.2.2.2.2.2.2.1, x.2.2.2.2.2.2.2.1, x.2.2.2.2.2.2.2.2.1, x.2.2.2.2.2.2.2.2.2, g_3)) := by
      dsimp only [fX12_reading_b25]
      rw [show (0 : Int32) = p_b false from rfl, e1, xs_bd]
      dsimp only
      rw [if_neg (show ¬ p_b (!false) = p_b false by decide), g30, xs_ast (by omega) (by decide), xs_bd]
      by_cases z : w = 1
      · subst z
        rw [if_pos (show nI 1 = 1 from rfl)]; exact hwI 1 rfl
      · rw [if_neg (show ¬ nI w = (1 : Int32) from fun y => z ((nI_eq (b := 1) (by omega) (by omega)).mp y))]
        exact hwI 0 (by rw [if_neg z])
    obtain ⟨x, m1, m2⟩ := m_formula N (b := b) (C := Cd) (I := va_up I1 32 (nI w)) (J := J1) (fF := fr) (pF := ph) (bF := be) (aF := ba) (oF := op) (cs := cs) (cv := cv) (qF := pr) hN hA hE hn hV hw (i := i + 1) hT h8 h9 g30 g31 rfl c1 c4 (by omega) hi (by omega)
    rw [run, m1, xs_bd, xs_ast (by omega) (by decide), xs_bd]
    have keepI : ∀ {X1 : Nat → Int32} {X2 : Nat → Int64} {X3 X4 : Nat → Int32}, mKeep b (va_up I1 32 (nI w)) J1 cs cv X1 X2 X3 X4 → ((∀ j, ¬ (mzz j ∨ j = 32) → X1 j = I j) ∧ ∀ j, ¬ j = 7 → X2 j = J j) := by
      intro X1 X2 X3 X4 hk
      refine ⟨fun j hj => ?_, fun j hj => (hk.2.1 j hj).trans (e3.2 j hj)⟩
      rw [hk.1 j (fun z => hj (Or.inl z)), va_up_ne _ _ (fun z => hj (Or.inr z))]
      exact e3.1 j (fun z => hj (Or.inl (by unfold mzz; omega)))
    refine ⟨x.1, x.2.1, upd sf (3 * b + w) (nI Cd.length), x.2.2.1, x.2.2.2.1, x.2.2.2.2.1, x.2.2.2.2.2.1, x.2.2.2.2.2.2.1, x.2.2.2.2.2.2.2.1, x.2.2.2.2.2.2.2.2.1, x.2.2.2.2.2.2.2.2.2, upd sb (3 * b + w) (x.1 30), ?_⟩
    by_cases al : (ppF K V w (i + 1)).1 = 0
    · rw [if_pos al] at m2
      obtain ⟨m3, m4⟩ := m2
      rcases m3 with q | ⟨q0, q⟩
      · obtain ⟨q1, q2, q3, q4, q5, q6, q7⟩ := q
        refine ⟨ppF K V w (i + 1), rfl, ?_, fun _ => m4, Or.inl rfl, keepI q6, eqO_u hw, fun j hj => (q6.2.2 j hj).1, fun j hj => (q6.2.2 j hj).2, eqO_u hw, fun _ _ => ⟨⟨c1, ?_, q4, q5, c5, c6, c7, c8, c9, c10, c11, c12, fun w' hw' => ?_⟩, q7⟩⟩
        · unfold jm; rw [if_pos al]; exact ⟨q1, q2, q3⟩
        · rw [q6.1 31 (by unfold mzz; omega)]; exact g31
        · show mRul b w' (if w' = w then true else G.2.2.2.2 w') (if w' = w then (ppF K V w (i + 1)).2.2 else G.2.2.2.1 w') (upd sf (3 * b + w) (nI Cd.length)) (upd sb (3 * b + w) (x.1 30)) _
          by_cases ew : w' = w
          · rw [if_pos ew, if_pos ew, ew]
            refine Or.inr ⟨rfl, Cd.length, if_pos rfl, (if_pos rfl).trans (q4.trans (by rw [List.length_append])), by rw [List.length_append]; omega, fun j c hj => ?_⟩
            rw [List.getElem?_append_right (by omega), show Cd.length + j - Cd.length = j by omega]; exact hj
          · rw [if_neg ew, if_neg ew]
            rcases c13 w' hw' with ⟨l1, l2, l3⟩ | ⟨l1, f', l2, l3, l4, l5⟩
            · exact Or.inl ⟨l1, (if_neg (by omega)).trans l2, l3⟩
            · refine Or.inr ⟨l1, f', (if_neg (by omega)).trans l2, (if_neg (by omega)).trans l3, by rw [List.length_append]; omega, fun j c hj => li_low (l5 j c hj)⟩
      · obtain ⟨q1, q2, q3⟩ := q
        refine ⟨(1, (ppF K V w (i + 1)).2.1, []), rfl, jm_f (by decide) (by decide) q1 q2, (fun z => by cases z), Or.inr ⟨al, q0, rfl⟩, keepI q3, eqO_u hw, fun j hj => (q3.2.2 j hj).1, fun j hj => (q3.2.2 j hj).2, eqO_u hw, fun _ z => absurd q0 z⟩
    · rw [if_neg al] at m2
      obtain ⟨q1, q2, q3⟩ := m2
      have hf100 : (ppF K V w (i + 1)).1 < 100 := by
        by_cases z : (ppF K V w (i + 1)).1 < 100
        · exact z
        · exact absurd (ppF_lt K V w (i + 1)) z
      refine ⟨ppF K V w (i + 1), rfl, ?_, fun z => absurd z al, Or.inl rfl, keepI q3, eqO_u hw, fun j hj => (q3.2.2 j hj).1, fun j hj => (q3.2.2 j hj).2, eqO_u hw, fun z => absurd z al⟩
      unfold jm; rw [if_neg al]; exact ⟨hf100, q1, q2⟩
  · rw [k2, if_neg (nI_nm1 (by omega)), if_pos k1]
    obtain ⟨I1, J1, e1, e2, e3⟩ := m_counted N hA true hi h
    have run : fX12_reading_b25 N tF (I, J, sf, fr, ph, be, ba, op, cs, cv, pr, sb, nI w, nI (3 * b + w), 1) = some (I1, J1, sf, fr, ph, be, ba, op, cs, cv, pr, sb) := by
      dsimp only [fX12_reading_b25]
      rw [show (1 : Int32) = p_b true from rfl, e1, xs_bd]
      dsimp only
      rw [if_pos (show p_b (!true) = 0 from rfl)]
    rw [run]
    exact ⟨_, _, _, _, _, _, _, _, _, _, _, _, (6, i, []), rfl, e2, (fun z => by cases z), Or.inl rfl, iK_z e3, eqO_r _ _ _, eqO_r _ _ _, eqO_r _ _ _, eqO_r _ _ _, fun z => by cases z⟩

/-- what a STATEMENT at piece i does to the reference -/
def mSt (K St V E : Nat → Int32) (nm : Int32 → Int64 → Prop) (sz : Int32) (n : Nat) (b : Nat) (mt : Nat → Int32) (ps : PPR × PG) (x : MT23) (q : Option MT23) : Prop := ∃ y : MT23, q = some y ∧ mX b x y ∧ mKI x y ∧ (∃ rq, jm K St V E nm sz rq y.1 y.2.1 ∧ (rq.1 = 0 → rq.2.1 < n) ∧ (rq = ps.1 ∨ (ps.1.1 = 0 ∧ K ps.1.2.1 = -2 ∧ rq = (1, ps.1.2.1, [])))) ∧ (ps.1.1 = 0 → ¬ K ps.1.2.1 = -2 → ∃ Cd', mHs nm ps.2 b Cd' (y.1) (y.2.2.1) (y.2.2.2.2.2.2.2.2.1) (y.2.2.2.2.2.2.2.2.2.1) (y.2.2.2.2.2.2.2.2.2.2.2.1) (y.2.2.2.2.2.2.2.2.2.2.2.2.1) (y.2.2.2.2.2.2.2.2.2.2.2.2.2.1) (y.2.2.2.2.2.2.2.2.2.2.2.2.2.2.1) (y.2.2.2.2.2.2.2.2.2.2.2.2.2.2.2.1) mt (y.2.2.2.2.2.2.2.2.2.2.2.2.2.2.2.2.1) (y.2.2.2.2.2.2.2.2.2.2.2.2.2.2.2.2.2.1) (y.2.2.2.2.2.2.2.2.2.2.2.2.2.2.2.2.2.2.1) (y.2.2.2.2.2.2.2.2.2.2.2.2.2.2.2.2.2.2.2.1) (y.2.2.2.2.2.2.2.2.2.2.2.2.2.2.2.2.2.2.2.2.1) (y.2.2.2.2.2.2.2.2.2.2.2.2.2.2.2.2.2.2.2.2.2.1) (y.2.2.2.2.2.2.2.2.2.2.2.2.2.2.2.2.2.2.2.2.2.2) ∧ Cd'.length ≤ ps.1.2.1)
theorem m_st301 (hN : 5000 ≤ N) (hA : mAh N tF K St V E nm sz n) (hE : ∀ i, i < n → ¬ K i = -1 → ¬ K i = -2 → i + 1 < n) (hn : n ≤ 1601) (hV : ∀ i, i < n → K i = -3 → ∃ x, x ≤ 9999 ∧ V i = nI x) (hnm : ∀ v x v' x', nm v x → nm v' x' → (v = v' ↔ x = x')) {G : PG} (hg : gok G) {b : Nat} {Cd : List Nat} {I sf fr ph be ba op cs cv pr sb pl ea pa ta ro sh co hu vo mt : Nat → Int32} {J en pn : Nat → Int64} {i : Nat} (hin : i < n) (h : mA K St V E nm sz i I J) (hG : mHs nm G b Cd I sf cs cv sb pl ea en pn mt pa ta ro sh co hu vo) (hCd : Cd.length ≤ i) (h12 : I 12 = -1) (k : K i = 301) : mSt K St V E nm sz n b mt (pst K V G i) (I, J, sf, fr, ph, be, ba, op, cs, cv, pr, sb, pl, ea, en, pn, pa, ta, ro, sh, co, hu, vo) (fX12_statement N I J sf tF fr ph be ba op cs cv pr sb pl ea en pn mt pa ta ro sh co hu vo) := by
  obtain ⟨c1, c2, c3, c4, c5, c6, c7, c8, c9, c10, c11, c12, c13⟩ := hG
  have hG : mHs nm G b Cd I sf cs cv sb pl ea en pn mt pa ta ro sh co hu vo := ⟨c1, c2, c3, c4, c5, c6, c7, c8, c9, c10, c11, c12, c13⟩
  obtain ⟨hT, h8, h9⟩ := h
  have h : mA K St V E nm sz i I J := ⟨hT, h8, h9⟩
  unfold fX12_statement
  rw [m_lex0 N h12, xs_bd, if_pos (by rw [h8]; decide), m_wdT N hT h12 1 (by decide) (p := 508675318629) rfl (x := 301) rfl k, xs_bd, if_neg (by decide)]
  have ep : pst K V G i = (pp_num K V 0 (nI (G.1 0) - 1) (i + 1), pgI G 4 (pvN V (i + 1))) := by
    unfold pst
    rw [if_pos k]
  rw [ep]
  have hi1 := hE i hin (by rw [k]; decide) (by rw [k]; decide)
  obtain ⟨v, I1, J1, f1, f2, f3, f4⟩ := m_telling N hA hE hi1 (nI (G.1 0) - 1) h
  rw [c2, xs_ald c1 (by decide), xs_bd, c5]
  rw [f1, xs_bd]
  dsimp only
  rw [xs_ast c1 (by decide), xs_bd]
  refine ⟨_, rfl, ⟨eqO_r 3 b sf, eqO_r 1600 b cs, eqO_r 1600 b cv, eqO_r 3 b sb, eqO_r 1 b pl, eqO_r 1 b ea, eqO_r 7 b en, eqO_r 6 b pn, eqO_r 6 b pa, eqO_r 6 b ta, eqO_r 7 b ro, eqO_r 7 b sh, eqO_r 1 b co, eqO_r 1 b hu, (eqO_1 : eqO 1 b vo (upd vo b v))⟩, iK_z f3, ⟨_, f2, fun z => ?_, Or.inl rfl⟩, fun z _ => ?_⟩
  · obtain ⟨z1, -, -, z4⟩ := pp_num0 z
    rw [z4]; exact hE (i + 1) hi1 (by rw [z1]; decide) (by rw [z1]; decide)
  · obtain ⟨z1, -, -, z4⟩ := pp_num0 z
    have hv : v = nI (pvN V (i + 1)) := (f4 z1).trans (pvN_eq hV hi1 z1).1
    refine ⟨Cd, ⟨c1, (f3.1 31 (by omega)).trans c2, (f3.1 30 (by omega)).trans c3, c4, c5, (if_pos rfl).trans hv, c7, c8, c9, c10, c11, c12, c13⟩, ?_⟩
    show Cd.length ≤ (pp_num K V 0 (nI (G.1 0) - 1) (i + 1)).2.1
    rw [z4]; show Cd.length ≤ i + 1 + 1; omega
theorem m_st302 (hN : 5000 ≤ N) (hA : mAh N tF K St V E nm sz n) (hE : ∀ i, i < n → ¬ K i = -1 → ¬ K i = -2 → i + 1 < n) (hn : n ≤ 1601) (hV : ∀ i, i < n → K i = -3 → ∃ x, x ≤ 9999 ∧ V i = nI x) (hnm : ∀ v x v' x', nm v x → nm v' x' → (v = v' ↔ x = x')) {G : PG} (hg : gok G) {b : Nat} {Cd : List Nat} {I sf fr ph be ba op cs cv pr sb pl ea pa ta ro sh co hu vo mt : Nat → Int32} {J en pn : Nat → Int64} {i : Nat} (hin : i < n) (h : mA K St V E nm sz i I J) (hG : mHs nm G b Cd I sf cs cv sb pl ea en pn mt pa ta ro sh co hu vo) (hCd : Cd.length ≤ i) (h12 : I 12 = -1) (k : K i = 302) : mSt K St V E nm sz n b mt (pst K V G i) (I, J, sf, fr, ph, be, ba, op, cs, cv, pr, sb, pl, ea, en, pn, pa, ta, ro, sh, co, hu, vo) (fX12_statement N I J sf tF fr ph be ba op cs cv pr sb pl ea en pn mt pa ta ro sh co hu vo) := by
  obtain ⟨c1, c2, c3, c4, c5, c6, c7, c8, c9, c10, c11, c12, c13⟩ := hG
  have hG : mHs nm G b Cd I sf cs cv sb pl ea en pn mt pa ta ro sh co hu vo := ⟨c1, c2, c3, c4, c5, c6, c7, c8, c9, c10, c11, c12, c13⟩
  obtain ⟨hT, h8, h9⟩ := h
  have h : mA K St V E nm sz i I J := ⟨hT, h8, h9⟩
  unfold fX12_statement
  rw [m_lex0 N h12, xs_bd, if_pos (by rw [h8]; decide), m_wdF N hT h12 1 (by decide) (p := 508675318629) rfl (x := 301) rfl (by rw [k]; decide), xs_bd, if_pos rfl, m_wdT N hT h12 2 (by decide) (p := 1752527720) rfl (x := 302) rfl k, xs_bd, if_neg (by decide)]
  have ep : pst K V G i = (pp_num K V 0 9 (i + 1), pgI G 5 (pvN V (i + 1))) := by
    unfold pst
    rw [if_neg (show ¬ K i = 301 by rw [k]; decide), if_pos k]
  rw [ep]
  have hi1 := hE i hin (by rw [k]; decide) (by rw [k]; decide)
  obtain ⟨v, I1, J1, f1, f2, f3, f4⟩ := m_telling N hA hE hi1 9 h
  skip
  rw [f1, xs_bd]
  dsimp only
  rw [c2, xs_ast c1 (by decide), xs_bd]
  refine ⟨_, rfl, ⟨eqO_r 3 b sf, eqO_r 1600 b cs, eqO_r 1600 b cv, eqO_r 3 b sb, eqO_r 1 b pl, eqO_r 1 b ea, eqO_r 7 b en, eqO_r 6 b pn, eqO_r 6 b pa, eqO_r 6 b ta, eqO_r 7 b ro, eqO_r 7 b sh, eqO_r 1 b co, (eqO_1 : eqO 1 b hu (upd hu b v)), eqO_r 1 b vo⟩, iK_z f3, ⟨_, f2, fun z => ?_, Or.inl rfl⟩, fun z _ => ?_⟩
  · obtain ⟨z1, -, -, z4⟩ := pp_num0 z
    rw [z4]; exact hE (i + 1) hi1 (by rw [z1]; decide) (by rw [z1]; decide)
  · obtain ⟨z1, -, -, z4⟩ := pp_num0 z
    have hv : v = nI (pvN V (i + 1)) := (f4 z1).trans (pvN_eq hV hi1 z1).1
    refine ⟨Cd, ⟨c1, (f3.1 31 (by omega)).trans c2, (f3.1 30 (by omega)).trans c3, c4, c5, c6, (if_pos rfl).trans hv, c8, c9, c10, c11, c12, c13⟩, ?_⟩
    show Cd.length ≤ (pp_num K V 0 9 (i + 1)).2.1
    rw [z4]; show Cd.length ≤ i + 1 + 1; omega
theorem m_st303 (hN : 5000 ≤ N) (hA : mAh N tF K St V E nm sz n) (hE : ∀ i, i < n → ¬ K i = -1 → ¬ K i = -2 → i + 1 < n) (hn : n ≤ 1601) (hV : ∀ i, i < n → K i = -3 → ∃ x, x ≤ 9999 ∧ V i = nI x) (hnm : ∀ v x v' x', nm v x → nm v' x' → (v = v' ↔ x = x')) {G : PG} (hg : gok G) {b : Nat} {Cd : List Nat} {I sf fr ph be ba op cs cv pr sb pl ea pa ta ro sh co hu vo mt : Nat → Int32} {J en pn : Nat → Int64} {i : Nat} (hin : i < n) (h : mA K St V E nm sz i I J) (hG : mHs nm G b Cd I sf cs cv sb pl ea en pn mt pa ta ro sh co hu vo) (hCd : Cd.length ≤ i) (h12 : I 12 = -1) (k : K i = 303) : mSt K St V E nm sz n b mt (pst K V G i) (I, J, sf, fr, ph, be, ba, op, cs, cv, pr, sb, pl, ea, en, pn, pa, ta, ro, sh, co, hu, vo) (fX12_statement N I J sf tF fr ph be ba op cs cv pr sb pl ea en pn mt pa ta ro sh co hu vo) := by
  obtain ⟨c1, c2, c3, c4, c5, c6, c7, c8, c9, c10, c11, c12, c13⟩ := hG
  have hG : mHs nm G b Cd I sf cs cv sb pl ea en pn mt pa ta ro sh co hu vo := ⟨c1, c2, c3, c4, c5, c6, c7, c8, c9, c10, c11, c12, c13⟩
  obtain ⟨hT, h8, h9⟩ := h
  have h : mA K St V E nm sz i I J := ⟨hT, h8, h9⟩
  unfold fX12_statement
  rw [m_lex0 N h12, xs_bd, if_pos (by rw [h8]; decide), m_wdF N hT h12 1 (by decide) (p := 508675318629) rfl (x := 301) rfl (by rw [k]; decide), xs_bd, if_pos rfl, m_wdF N hT h12 2 (by decide) (p := 1752527720) rfl (x := 302) rfl (by rw [k]; decide), xs_bd, if_pos rfl, m_wdT N hT h12 3 (by decide) (p := 427071727464) rfl (x := 303) rfl k, xs_bd, if_neg (by decide)]
  have ep : pst K V G i = (pp_num K V 0 100 (i + 1), pgI G 3 (pvN V (i + 1))) := by
    unfold pst
    rw [if_neg (show ¬ K i = 301 by rw [k]; decide), if_neg (show ¬ K i = 302 by rw [k]; decide), if_pos k]
  rw [ep]
  have hi1 := hE i hin (by rw [k]; decide) (by rw [k]; decide)
  obtain ⟨v, I1, J1, f1, f2, f3, f4⟩ := m_telling N hA hE hi1 100 h
  skip
  rw [f1, xs_bd]
  dsimp only
  rw [c2, xs_ast c1 (by decide), xs_bd]
  refine ⟨_, rfl, ⟨eqO_r 3 b sf, eqO_r 1600 b cs, eqO_r 1600 b cv, eqO_r 3 b sb, eqO_r 1 b pl, eqO_r 1 b ea, eqO_r 7 b en, eqO_r 6 b pn, eqO_r 6 b pa, eqO_r 6 b ta, eqO_r 7 b ro, eqO_r 7 b sh, (eqO_1 : eqO 1 b co (upd co b v)), eqO_r 1 b hu, eqO_r 1 b vo⟩, iK_z f3, ⟨_, f2, fun z => ?_, Or.inl rfl⟩, fun z _ => ?_⟩
  · obtain ⟨z1, -, -, z4⟩ := pp_num0 z
    rw [z4]; exact hE (i + 1) hi1 (by rw [z1]; decide) (by rw [z1]; decide)
  · obtain ⟨z1, -, -, z4⟩ := pp_num0 z
    have hv : v = nI (pvN V (i + 1)) := (f4 z1).trans (pvN_eq hV hi1 z1).1
    refine ⟨Cd, ⟨c1, (f3.1 31 (by omega)).trans c2, (f3.1 30 (by omega)).trans c3, c4, c5, c6, c7, (if_pos rfl).trans hv, c9, c10, c11, c12, c13⟩, ?_⟩
    show Cd.length ≤ (pp_num K V 0 100 (i + 1)).2.1
    rw [z4]; show Cd.length ≤ i + 1 + 1; omega
theorem m_st310 (hN : 5000 ≤ N) (hA : mAh N tF K St V E nm sz n) (hE : ∀ i, i < n → ¬ K i = -1 → ¬ K i = -2 → i + 1 < n) (hn : n ≤ 1601) (hV : ∀ i, i < n → K i = -3 → ∃ x, x ≤ 9999 ∧ V i = nI x) (hnm : ∀ v x v' x', nm v x → nm v' x' → (v = v' ↔ x = x')) {G : PG} (hg : gok G) {b : Nat} {Cd : List Nat} {I sf fr ph be ba op cs cv pr sb pl ea pa ta ro sh co hu vo mt : Nat → Int32} {J en pn : Nat → Int64} {i : Nat} (hin : i < n) (h : mA K St V E nm sz i I J) (hG : mHs nm G b Cd I sf cs cv sb pl ea en pn mt pa ta ro sh co hu vo) (hCd : Cd.length ≤ i) (h12 : I 12 = -1) (k : K i = 310) : mSt K St V E nm sz n b mt (pst K V G i) (I, J, sf, fr, ph, be, ba, op, cs, cv, pr, sb, pl, ea, en, pn, pa, ta, ro, sh, co, hu, vo) (fX12_statement N I J sf tF fr ph be ba op cs cv pr sb pl ea en pn mt pa ta ro sh co hu vo) := by
  obtain ⟨c1, c2, c3, c4, c5, c6, c7, c8, c9, c10, c11, c12, c13⟩ := hG
  have hG : mHs nm G b Cd I sf cs cv sb pl ea en pn mt pa ta ro sh co hu vo := ⟨c1, c2, c3, c4, c5, c6, c7, c8, c9, c10, c11, c12, c13⟩
  obtain ⟨hT, h8, h9⟩ := h
  have h : mA K St V E nm sz i I J := ⟨hT, h8, h9⟩
  unfold fX12_statement
  rw [m_lex0 N h12, xs_bd, if_pos (by rw [h8]; decide), m_wdF N hT h12 1 (by decide) (p := 508675318629) rfl (x := 301) rfl (by rw [k]; decide), xs_bd, if_pos rfl, m_wdF N hT h12 2 (by decide) (p := 1752527720) rfl (x := 302) rfl (by rw [k]; decide), xs_bd, if_pos rfl, m_wdF N hT h12 3 (by decide) (p := 427071727464) rfl (x := 303) rfl (by rw [k]; decide), xs_bd, if_pos rfl, m_wdF N hT h12 4 (by decide) (p := 6644082) rfl (x := 304) rfl (by rw [k]; decide), xs_bd, if_pos rfl, m_wdF N hT h12 7 (by decide) (p := 482854658917) rfl (x := 307) rfl (by rw [k]; decide), xs_bd, if_pos rfl, m_wdT N hT h12 10 (by decide) (p := 1735353715) rfl (x := 310) rfl k, xs_bd, if_neg (by decide)]
  have ep : pst K V G i = pp_rul K V G 0 i := by
    unfold pst
    rw [if_neg (show ¬ K i = 301 by rw [k]; decide), if_neg (show ¬ K i = 302 by rw [k]; decide), if_neg (show ¬ K i = 303 by rw [k]; decide), if_neg (show ¬ K i = 304 by rw [k]; decide), if_neg (show ¬ K i = 307 by rw [k]; decide), if_pos k]
  rw [ep]
  have hi1 := hE i hin (by rw [k]; decide) (by rw [k]; decide)
  obtain ⟨I1, J1, sf1, fr1, ph1, be1, ba1, op1, cs1, cv1, pr1, sb1, rq, f1, f2, f3, f4, f5, f6, f7, f8, f9, f10⟩ := m_reading N (fr := fr) (ph := ph) (be := be) (ba := ba) (op := op) (pr := pr) hN hA hE hn hV (w := 0) (by decide) hi1 h hG hCd
  have f1 : fX12_reading N I J sf tF fr ph be ba op cs cv pr sb 0 = some (I1, J1, sf1, fr1, ph1, be1, ba1, op1, cs1, cv1, pr1, sb1) := f1
  rw [f1, xs_bd]
  exact ⟨_, rfl, ⟨f6, f7, f8, f9, eqO_r 1 b pl, eqO_r 1 b ea, eqO_r 7 b en, eqO_r 6 b pn, eqO_r 6 b pa, eqO_r 6 b ta, eqO_r 7 b ro, eqO_r 7 b sh, eqO_r 1 b co, eqO_r 1 b hu, eqO_r 1 b vo⟩, f5, ⟨rq, f2, f3, f4⟩, fun z1 z2 => ⟨_, f10 z1 z2⟩⟩
theorem m_st311 (hN : 5000 ≤ N) (hA : mAh N tF K St V E nm sz n) (hE : ∀ i, i < n → ¬ K i = -1 → ¬ K i = -2 → i + 1 < n) (hn : n ≤ 1601) (hV : ∀ i, i < n → K i = -3 → ∃ x, x ≤ 9999 ∧ V i = nI x) (hnm : ∀ v x v' x', nm v x → nm v' x' → (v = v' ↔ x = x')) {G : PG} (hg : gok G) {b : Nat} {Cd : List Nat} {I sf fr ph be ba op cs cv pr sb pl ea pa ta ro sh co hu vo mt : Nat → Int32} {J en pn : Nat → Int64} {i : Nat} (hin : i < n) (h : mA K St V E nm sz i I J) (hG : mHs nm G b Cd I sf cs cv sb pl ea en pn mt pa ta ro sh co hu vo) (hCd : Cd.length ≤ i) (h12 : I 12 = -1) (k : K i = 311) : mSt K St V E nm sz n b mt (pst K V G i) (I, J, sf, fr, ph, be, ba, op, cs, cv, pr, sb, pl, ea, en, pn, pa, ta, ro, sh, co, hu, vo) (fX12_statement N I J sf tF fr ph be ba op cs cv pr sb pl ea en pn mt pa ta ro sh co hu vo) := by
  obtain ⟨c1, c2, c3, c4, c5, c6, c7, c8, c9, c10, c11, c12, c13⟩ := hG
  have hG : mHs nm G b Cd I sf cs cv sb pl ea en pn mt pa ta ro sh co hu vo := ⟨c1, c2, c3, c4, c5, c6, c7, c8, c9, c10, c11, c12, c13⟩
  obtain ⟨hT, h8, h9⟩ := h
  have h : mA K St V E nm sz i I J := ⟨hT, h8, h9⟩
  unfold fX12_statement
  rw [m_lex0 N h12, xs_bd, if_pos (by rw [h8]; decide), m_wdF N hT h12 1 (by decide) (p := 508675318629) rfl (x := 301) rfl (by rw [k]; decide), xs_bd, if_pos rfl, m_wdF N hT h12 2 (by decide) (p := 1752527720) rfl (x := 302) rfl (by rw [k]; decide), xs_bd, if_pos rfl, m_wdF N hT h12 3 (by decide) (p := 427071727464) rfl (x := 303) rfl (by rw [k]; decide), xs_bd, if_pos rfl, m_wdF N hT h12 4 (by decide) (p := 6644082) rfl (x := 304) rfl (by rw [k]; decide), xs_bd, if_pos rfl, m_wdF N hT h12 7 (by decide) (p := 482854658917) rfl (x := 307) rfl (by rw [k]; decide), xs_bd, if_pos rfl, m_wdF N hT h12 10 (by decide) (p := 1735353715) rfl (x := 310) rfl (by rw [k]; decide), xs_bd, if_pos rfl, m_wdT N hT h12 11 (by decide) (p := 448377483891) rfl (x := 311) rfl k, xs_bd, if_neg (by decide)]
  have ep : pst K V G i = pp_rul K V G 1 i := by
    unfold pst
    rw [if_neg (show ¬ K i = 301 by rw [k]; decide), if_neg (show ¬ K i = 302 by rw [k]; decide), if_neg (show ¬ K i = 303 by rw [k]; decide), if_neg (show ¬ K i = 304 by rw [k]; decide), if_neg (show ¬ K i = 307 by rw [k]; decide), if_neg (show ¬ K i = 310 by rw [k]; decide), if_pos k]
  rw [ep]
  have hi1 := hE i hin (by rw [k]; decide) (by rw [k]; decide)
  obtain ⟨I1, J1, sf1, fr1, ph1, be1, ba1, op1, cs1, cv1, pr1, sb1, rq, f1, f2, f3, f4, f5, f6, f7, f8, f9, f10⟩ := m_reading N (fr := fr) (ph := ph) (be := be) (ba := ba) (op := op) (pr := pr) hN hA hE hn hV (w := 1) (by decide) hi1 h hG hCd
  have f1 : fX12_reading N I J sf tF fr ph be ba op cs cv pr sb 1 = some (I1, J1, sf1, fr1, ph1, be1, ba1, op1, cs1, cv1, pr1, sb1) := f1
  rw [f1, xs_bd]
  exact ⟨_, rfl, ⟨f6, f7, f8, f9, eqO_r 1 b pl, eqO_r 1 b ea, eqO_r 7 b en, eqO_r 6 b pn, eqO_r 6 b pa, eqO_r 6 b ta, eqO_r 7 b ro, eqO_r 7 b sh, eqO_r 1 b co, eqO_r 1 b hu, eqO_r 1 b vo⟩, f5, ⟨rq, f2, f3, f4⟩, fun z1 z2 => ⟨_, f10 z1 z2⟩⟩
theorem m_st312 (hN : 5000 ≤ N) (hA : mAh N tF K St V E nm sz n) (hE : ∀ i, i < n → ¬ K i = -1 → ¬ K i = -2 → i + 1 < n) (hn : n ≤ 1601) (hV : ∀ i, i < n → K i = -3 → ∃ x, x ≤ 9999 ∧ V i = nI x) (hnm : ∀ v x v' x', nm v x → nm v' x' → (v = v' ↔ x = x')) {G : PG} (hg : gok G) {b : Nat} {Cd : List Nat} {I sf fr ph be ba op cs cv pr sb pl ea pa ta ro sh co hu vo mt : Nat → Int32} {J en pn : Nat → Int64} {i : Nat} (hin : i < n) (h : mA K St V E nm sz i I J) (hG : mHs nm G b Cd I sf cs cv sb pl ea en pn mt pa ta ro sh co hu vo) (hCd : Cd.length ≤ i) (h12 : I 12 = -1) (k : K i = 312) : mSt K St V E nm sz n b mt (pst K V G i) (I, J, sf, fr, ph, be, ba, op, cs, cv, pr, sb, pl, ea, en, pn, pa, ta, ro, sh, co, hu, vo) (fX12_statement N I J sf tF fr ph be ba op cs cv pr sb pl ea en pn mt pa ta ro sh co hu vo) := by
  obtain ⟨c1, c2, c3, c4, c5, c6, c7, c8, c9, c10, c11, c12, c13⟩ := hG
  have hG : mHs nm G b Cd I sf cs cv sb pl ea en pn mt pa ta ro sh co hu vo := ⟨c1, c2, c3, c4, c5, c6, c7, c8, c9, c10, c11, c12, c13⟩
  obtain ⟨hT, h8, h9⟩ := h
  have h : mA K St V E nm sz i I J := ⟨hT, h8, h9⟩
  unfold fX12_statement
  rw [m_lex0 N h12, xs_bd, if_pos (by rw [h8]; decide), m_wdF N hT h12 1 (by decide) (p := 508675318629) rfl (x := 301) rfl (by rw [k]; decide), xs_bd, if_pos rfl, m_wdF N hT h12 2 (by decide) (p := 1752527720) rfl (x := 302) rfl (by rw [k]; decide), xs_bd, if_pos rfl, m_wdF N hT h12 3 (by decide) (p := 427071727464) rfl (x := 303) rfl (by rw [k]; decide), xs_bd, if_pos rfl, m_wdF N hT h12 4 (by decide) (p := 6644082) rfl (x := 304) rfl (by rw [k]; decide), xs_bd, if_pos rfl, m_wdF N hT h12 7 (by decide) (p := 482854658917) rfl (x := 307) rfl (by rw [k]; decide), xs_bd, if_pos rfl, m_wdF N hT h12 10 (by decide) (p := 1735353715) rfl (x := 310) rfl (by rw [k]; decide), xs_bd, if_pos rfl, m_wdF N hT h12 11 (by decide) (p := 448377483891) rfl (x := 311) rfl (by rw [k]; decide), xs_bd, if_pos rfl, m_wdT N hT h12 12 (by decide) (p := 499850701683) rfl (x := 312) rfl k, xs_bd, if_neg (by decide)]
  have ep : pst K V G i = pp_rul K V G 2 i := by
    unfold pst
    rw [if_neg (show ¬ K i = 301 by rw [k]; decide), if_neg (show ¬ K i = 302 by rw [k]; decide), if_neg (show ¬ K i = 303 by rw [k]; decide), if_neg (show ¬ K i = 304 by rw [k]; decide), if_neg (show ¬ K i = 307 by rw [k]; decide), if_neg (show ¬ K i = 310 by rw [k]; decide), if_neg (show ¬ K i = 311 by rw [k]; decide), if_pos k]
  rw [ep]
  have hi1 := hE i hin (by rw [k]; decide) (by rw [k]; decide)
  obtain ⟨I1, J1, sf1, fr1, ph1, be1, ba1, op1, cs1, cv1, pr1, sb1, rq, f1, f2, f3, f4, f5, f6, f7, f8, f9, f10⟩ := m_reading N (fr := fr) (ph := ph) (be := be) (ba := ba) (op := op) (pr := pr) hN hA hE hn hV (w := 2) (by decide) hi1 h hG hCd
  have f1 : fX12_reading N I J sf tF fr ph be ba op cs cv pr sb 2 = some (I1, J1, sf1, fr1, ph1, be1, ba1, op1, cs1, cv1, pr1, sb1) := f1
  rw [f1, xs_bd]
  exact ⟨_, rfl, ⟨f6, f7, f8, f9, eqO_r 1 b pl, eqO_r 1 b ea, eqO_r 7 b en, eqO_r 6 b pn, eqO_r 6 b pa, eqO_r 6 b ta, eqO_r 7 b ro, eqO_r 7 b sh, eqO_r 1 b co, eqO_r 1 b hu, eqO_r 1 b vo⟩, f5, ⟨rq, f2, f3, f4⟩, fun z1 z2 => ⟨_, f10 z1 z2⟩⟩
theorem m_st304 (hN : 5000 ≤ N) (hA : mAh N tF K St V E nm sz n) (hE : ∀ i, i < n → ¬ K i = -1 → ¬ K i = -2 → i + 1 < n) (hn : n ≤ 1601) (hV : ∀ i, i < n → K i = -3 → ∃ x, x ≤ 9999 ∧ V i = nI x) (hnm : ∀ v x v' x', nm v x → nm v' x' → (v = v' ↔ x = x')) {G : PG} (hg : gok G) {b : Nat} {Cd : List Nat} {I sf fr ph be ba op cs cv pr sb pl ea pa ta ro sh co hu vo mt : Nat → Int32} {J en pn : Nat → Int64} {i : Nat} (hin : i < n) (h : mA K St V E nm sz i I J) (hG : mHs nm G b Cd I sf cs cv sb pl ea en pn mt pa ta ro sh co hu vo) (hCd : Cd.length ≤ i) (h12 : I 12 = -1) (k : K i = 304) : mSt K St V E nm sz n b mt (pst K V G i) (I, J, sf, fr, ph, be, ba, op, cs, cv, pr, sb, pl, ea, en, pn, pa, ta, ro, sh, co, hu, vo) (fX12_statement N I J sf tF fr ph be ba op cs cv pr sb pl ea en pn mt pa ta ro sh co hu vo) := by
  obtain ⟨c1, c2, c3, c4, c5, c6, c7, c8, c9, c10, c11, c12, c13⟩ := hG
  have hG : mHs nm G b Cd I sf cs cv sb pl ea en pn mt pa ta ro sh co hu vo := ⟨c1, c2, c3, c4, c5, c6, c7, c8, c9, c10, c11, c12, c13⟩
  obtain ⟨hT, h8, h9⟩ := h
  have h : mA K St V E nm sz i I J := ⟨hT, h8, h9⟩
  unfold fX12_statement
  rw [m_lex0 N h12, xs_bd, if_pos (by rw [h8]; decide), m_wdF N hT h12 1 (by decide) (p := 508675318629) rfl (x := 301) rfl (by rw [k]; decide), xs_bd, if_pos rfl, m_wdF N hT h12 2 (by decide) (p := 1752527720) rfl (x := 302) rfl (by rw [k]; decide), xs_bd, if_pos rfl, m_wdF N hT h12 3 (by decide) (p := 427071727464) rfl (x := 303) rfl (by rw [k]; decide), xs_bd, if_pos rfl, m_wdT N hT h12 4 (by decide) (p := 6644082) rfl (x := 304) rfl k, xs_bd, if_neg (by decide)]
  have ep : pst K V G i = (if G.1 1 = 7 then ((6, i, []), G) else (pp_ear K V G (i + 1), pgE G (V (i + 1)) (pvN V (i + 3)) (pvN V (i + 5)))) := by
    unfold pst
    rw [if_neg (show ¬ K i = 301 by rw [k]; decide), if_neg (show ¬ K i = 302 by rw [k]; decide), if_neg (show ¬ K i = 303 by rw [k]; decide), if_pos k]
  rw [ep]
  have hi1 := hE i hin (by rw [k]; decide) (by rw [k]; decide)
  obtain ⟨I1, J1, ea1, en1, ro1, sh1, f1, f2, f3, f4, f5, f6, f7, f8⟩ := m_earing N (fr := fr) (ph := ph) (be := be) (ba := ba) (op := op) (pr := pr) hN hA hE hnm hg hi1 h hG
  rw [f1, xs_bd]
  refine ⟨_, rfl, ⟨eqO_r 3 b sf, eqO_r 1600 b cs, eqO_r 1600 b cv, eqO_r 3 b sb, eqO_r 1 b pl, f4, f5, eqO_r 6 b pn, eqO_r 6 b pa, eqO_r 6 b ta, f6, f7, eqO_r 1 b co, eqO_r 1 b hu, eqO_r 1 b vo⟩, iK_z f3, ⟨_, f2, fun z => ?_, Or.inl ?_⟩, fun z _ => ?_⟩
  · by_cases y : G.1 1 = 7
    · rw [if_pos y] at z; cases z
    · rw [if_neg y] at z ⊢
      obtain ⟨a1, a2, ⟨a3, a4, a5⟩, ⟨a6, a7, a8⟩, a9, d1, d2, d3, d4, d5, d6⟩ := pp_ear0 z
      exact hr_num (V := V) (lo := 0) (hi := 9) hE (hr_tk hE (t := 306) (by decide) (by decide) (hr_num (V := V) (lo := 0) (hi := 9) hE (hr_tk hE (t := 305) (by decide) (by decide) (hr_nam hE (has := fun j => nmG G (V j)) (r := (0, i + 1, [])) (fun _ => hi1))))) z
  · by_cases y : G.1 1 = 7
    · rw [if_pos y, if_pos y]
    · rw [if_neg y, if_neg y]
  · by_cases y : G.1 1 = 7
    · rw [if_pos y] at z; cases z
    · rw [if_neg y] at z ⊢
      have z : (pp_ear K V G (i + 1)).1 = 0 := z
      obtain ⟨a1, a2, ⟨a3, a4, a5⟩, ⟨a6, a7, a8⟩, a9, d1, d2, d3, d4, d5, d6⟩ := pp_ear0 z
      obtain ⟨x1, g1, g2, g3, g4, g5⟩ := f8 y z
      have hlt := hr_num (V := V) (lo := 0) (hi := 9) hE (hr_tk hE (t := 306) (by decide) (by decide) (hr_num (V := V) (lo := 0) (hi := 9) hE (hr_tk hE (t := 305) (by decide) (by decide) (hr_nam hE (has := fun j => nmG G (V j)) (r := (0, i + 1, [])) (fun _ => hi1))))) z
      have hlt : (pp_ear K V G (i + 1)).2.1 < n := hlt
      rw [a9] at hlt
      have v2 := (pvN_eq hV (j := i + 3) (by omega) a3).1
      have v3 := (pvN_eq hV (j := i + 5) (by omega) a6).1
      refine ⟨Cd, ⟨c1, (f3.1 31 (by omega)).trans c2, (f3.1 30 (by omega)).trans c3, c4, c5, c6, c7, c8, by rw [g2]; exact if_pos rfl, c10, fun e he => ?_, fun p hp => ?_, c13⟩, ?_⟩
      · have he : e < G.1 1 + 1 := he
        rw [g3, g4, g5]
        show nm (if 0 = 0 ∧ e = G.1 1 then V (i + 1) else G.2.2.1 0 e) (vp_updL en (7 * b + G.1 1) x1 (7 * b + e)) ∧ upd ro (7 * b + G.1 1) (V (i + 3)) (7 * b + e) = nI (if e = G.1 1 then (if 2 = 2 then pvN V (i + 3) else if 2 = 1 then pvN V (i + 5) else G.2.1 2 e) else G.2.1 2 e) ∧ upd sh (7 * b + G.1 1) (V (i + 5)) (7 * b + e) = nI (if e = G.1 1 then (if 1 = 2 then pvN V (i + 3) else if 1 = 1 then pvN V (i + 5) else G.2.1 1 e) else G.2.1 1 e)
        unfold upd vp_updL
        by_cases ee : e = G.1 1
        · rw [if_pos ⟨rfl, ee⟩, if_pos (show 7 * b + e = 7 * b + G.1 1 by omega), if_pos (show 7 * b + e = 7 * b + G.1 1 by omega), if_pos (show 7 * b + e = 7 * b + G.1 1 by omega), if_pos ee, if_pos ee, if_pos rfl, if_neg (by decide), if_pos rfl]
          exact ⟨g1, v2, v3⟩
        · rw [if_neg (fun z => ee z.2), if_neg (show ¬ 7 * b + e = 7 * b + G.1 1 by omega), if_neg (show ¬ 7 * b + e = 7 * b + G.1 1 by omega), if_neg (show ¬ 7 * b + e = 7 * b + G.1 1 by omega), if_neg ee, if_neg ee]
          exact c11 e (by omega)
      · have hp : p < G.1 2 := hp
        show nm (if 1 = 0 ∧ p = G.1 1 then V (i + 1) else G.2.2.1 1 p) (pn (6 * b + p)) ∧ pa (6 * b + p) = nI (if p = G.1 1 then (if 0 = 2 then pvN V (i + 3) else if 0 = 1 then pvN V (i + 5) else G.2.1 0 p) else G.2.1 0 p) ∧ ta (6 * b + p) = nI (if p = G.1 1 then (if 3 = 2 then pvN V (i + 3) else if 3 = 1 then pvN V (i + 5) else G.2.1 3 p) else G.2.1 3 p)
        rw [if_neg (fun z => absurd z.1 (by decide)), if_neg (show ¬ (0 : Nat) = 2 by decide), if_neg (show ¬ (0 : Nat) = 1 by decide), if_neg (show ¬ (3 : Nat) = 2 by decide), if_neg (show ¬ (3 : Nat) = 1 by decide), ite_self, ite_self]
        exact c12 p hp
      · show Cd.length ≤ (pp_ear K V G (i + 1)).2.1
        rw [a9]; omega
theorem m_st307 (hN : 5000 ≤ N) (hA : mAh N tF K St V E nm sz n) (hE : ∀ i, i < n → ¬ K i = -1 → ¬ K i = -2 → i + 1 < n) (hn : n ≤ 1601) (hV : ∀ i, i < n → K i = -3 → ∃ x, x ≤ 9999 ∧ V i = nI x) (hnm : ∀ v x v' x', nm v x → nm v' x' → (v = v' ↔ x = x')) {G : PG} (hg : gok G) {b : Nat} {Cd : List Nat} {I sf fr ph be ba op cs cv pr sb pl ea pa ta ro sh co hu vo mt : Nat → Int32} {J en pn : Nat → Int64} {i : Nat} (hin : i < n) (h : mA K St V E nm sz i I J) (hG : mHs nm G b Cd I sf cs cv sb pl ea en pn mt pa ta ro sh co hu vo) (hCd : Cd.length ≤ i) (h12 : I 12 = -1) (k : K i = 307) : mSt K St V E nm sz n b mt (pst K V G i) (I, J, sf, fr, ph, be, ba, op, cs, cv, pr, sb, pl, ea, en, pn, pa, ta, ro, sh, co, hu, vo) (fX12_statement N I J sf tF fr ph be ba op cs cv pr sb pl ea en pn mt pa ta ro sh co hu vo) := by
  obtain ⟨c1, c2, c3, c4, c5, c6, c7, c8, c9, c10, c11, c12, c13⟩ := hG
  have hG : mHs nm G b Cd I sf cs cv sb pl ea en pn mt pa ta ro sh co hu vo := ⟨c1, c2, c3, c4, c5, c6, c7, c8, c9, c10, c11, c12, c13⟩
  obtain ⟨hT, h8, h9⟩ := h
  have h : mA K St V E nm sz i I J := ⟨hT, h8, h9⟩
  unfold fX12_statement
  rw [m_lex0 N h12, xs_bd, if_pos (by rw [h8]; decide), m_wdF N hT h12 1 (by decide) (p := 508675318629) rfl (x := 301) rfl (by rw [k]; decide), xs_bd, if_pos rfl, m_wdF N hT h12 2 (by decide) (p := 1752527720) rfl (x := 302) rfl (by rw [k]; decide), xs_bd, if_pos rfl, m_wdF N hT h12 3 (by decide) (p := 427071727464) rfl (x := 303) rfl (by rw [k]; decide), xs_bd, if_pos rfl, m_wdF N hT h12 4 (by decide) (p := 6644082) rfl (x := 304) rfl (by rw [k]; decide), xs_bd, if_pos rfl, m_wdT N hT h12 7 (by decide) (p := 482854658917) rfl (x := 307) rfl k, xs_bd, if_neg (by decide)]
  have ep : pst K V G i = (if G.1 2 = 6 then ((6, i, []), G) else (pp_plc K V G (i + 1), pgP G (V (i + 1)) (pvN V (i + 3)) (pvN V (i + 5)))) := by
    unfold pst
    rw [if_neg (show ¬ K i = 301 by rw [k]; decide), if_neg (show ¬ K i = 302 by rw [k]; decide), if_neg (show ¬ K i = 303 by rw [k]; decide), if_neg (show ¬ K i = 304 by rw [k]; decide), if_pos k]
  rw [ep]
  have hi1 := hE i hin (by rw [k]; decide) (by rw [k]; decide)
  obtain ⟨I1, J1, pl1, pn1, pa1, ta1, f1, f2, f3, f4, f5, f6, f7, f8⟩ := m_placing N (fr := fr) (ph := ph) (be := be) (ba := ba) (op := op) (pr := pr) hN hA hE hnm hg hi1 h hG
  have hlt0 : (pp_plc K V G (i + 1)).1 = 0 → (pp_plc K V G (i + 1)).2.1 < n := hr_num (V := V) (lo := 0) (hi := 9) hE (hr_tk hE (t := 309) (by decide) (by decide) (hr_pnm (V := V) (has := plG G) (lo := 1) (hi := nI (G.1 0) - 1) hE (hr_tk hE (t := 308) (by decide) (by decide) (hr_nam hE (has := fun j => nmG G (V j)) (r := (0, i + 1, [])) (fun _ => hi1)))))
  rw [f1, xs_bd]
  refine ⟨_, rfl, ⟨eqO_r 3 b sf, eqO_r 1600 b cs, eqO_r 1600 b cv, eqO_r 3 b sb, f4, eqO_r 1 b ea, eqO_r 7 b en, f5, f6, f7, eqO_r 7 b ro, eqO_r 7 b sh, eqO_r 1 b co, eqO_r 1 b hu, eqO_r 1 b vo⟩, iK_z f3, ⟨_, f2, fun z => ?_, Or.inl ?_⟩, fun z _ => ?_⟩
  · by_cases y : G.1 2 = 6
    · rw [if_pos y] at z; cases z
    · rw [if_neg y] at z ⊢
      exact hlt0 z
  · by_cases y : G.1 2 = 6
    · rw [if_pos y, if_pos y]
    · rw [if_neg y, if_neg y]
  · by_cases y : G.1 2 = 6
    · rw [if_pos y] at z; cases z
    · rw [if_neg y] at z ⊢
      have z : (pp_plc K V G (i + 1)).1 = 0 := z
      obtain ⟨a1, a2, ⟨a3, a30, a4, a5⟩, ⟨a6, a7, a8⟩, a9, d1, d2, d3, d4, d5, d6⟩ := pp_plc0 z
      obtain ⟨x1, g1, g2, g3, g4, g5⟩ := f8 y z
      have hlt := hlt0 z
      rw [a9] at hlt
      have v2 := (pvN_eq hV (j := i + 3) (by omega) a3).1
      have v3 := (pvN_eq hV (j := i + 5) (by omega) a6).1
      refine ⟨Cd, ⟨c1, (f3.1 31 (by omega)).trans c2, (f3.1 30 (by omega)).trans c3, c4, c5, c6, c7, c8, c9, by rw [g2]; exact if_pos rfl, fun e he => ?_, fun p hp => ?_, c13⟩, ?_⟩
      · have he : e < G.1 1 := he
        show nm (if 0 = 1 ∧ e = G.1 2 then V (i + 1) else G.2.2.1 0 e) (en (7 * b + e)) ∧ ro (7 * b + e) = nI (if e = G.1 2 then (if 2 = 0 then pvN V (i + 3) else if 2 = 3 then pvN V (i + 5) else G.2.1 2 e) else G.2.1 2 e) ∧ sh (7 * b + e) = nI (if e = G.1 2 then (if 1 = 0 then pvN V (i + 3) else if 1 = 3 then pvN V (i + 5) else G.2.1 1 e) else G.2.1 1 e)
        rw [if_neg (fun z => absurd z.1 (by decide)), if_neg (show ¬ (2 : Nat) = 0 by decide), if_neg (show ¬ (2 : Nat) = 3 by decide), if_neg (show ¬ (1 : Nat) = 0 by decide), if_neg (show ¬ (1 : Nat) = 3 by decide), ite_self, ite_self]
        exact c11 e he
      · have hp : p < G.1 2 + 1 := hp
        rw [g3, g4, g5]
        show nm (if 1 = 1 ∧ p = G.1 2 then V (i + 1) else G.2.2.1 1 p) (vp_updL pn (6 * b + G.1 2) x1 (6 * b + p)) ∧ upd pa (6 * b + G.1 2) (V (i + 3)) (6 * b + p) = nI (if p = G.1 2 then (if 0 = 0 then pvN V (i + 3) else if 0 = 3 then pvN V (i + 5) else G.2.1 0 p) else G.2.1 0 p) ∧ upd ta (6 * b + G.1 2) (V (i + 5)) (6 * b + p) = nI (if p = G.1 2 then (if 3 = 0 then pvN V (i + 3) else if 3 = 3 then pvN V (i + 5) else G.2.1 3 p) else G.2.1 3 p)
        unfold upd vp_updL
        by_cases ee : p = G.1 2
        · rw [if_pos ⟨rfl, ee⟩, if_pos (show 6 * b + p = 6 * b + G.1 2 by omega), if_pos (show 6 * b + p = 6 * b + G.1 2 by omega), if_pos (show 6 * b + p = 6 * b + G.1 2 by omega), if_pos ee, if_pos ee, if_pos rfl, if_neg (by decide), if_pos rfl]
          exact ⟨g1, v2, v3⟩
        · rw [if_neg (fun z => ee z.2), if_neg (show ¬ 6 * b + p = 6 * b + G.1 2 by omega), if_neg (show ¬ 6 * b + p = 6 * b + G.1 2 by omega), if_neg (show ¬ 6 * b + p = 6 * b + G.1 2 by omega), if_neg ee, if_neg ee]
          exact c12 p (by omega)
      · show Cd.length ≤ (pp_plc K V G (i + 1)).2.1
        rw [a9]; omega
theorem m_stmt (hN : 5000 ≤ N) (hA : mAh N tF K St V E nm sz n) (hE : ∀ i, i < n → ¬ K i = -1 → ¬ K i = -2 → i + 1 < n) (hn : n ≤ 1601) (hV : ∀ i, i < n → K i = -3 → ∃ x, x ≤ 9999 ∧ V i = nI x) (hnm : ∀ v x v' x', nm v x → nm v' x' → (v = v' ↔ x = x')) {G : PG} (hg : gok G) {b : Nat} {Cd : List Nat} {I sf fr ph be ba op cs cv pr sb pl ea pa ta ro sh co hu vo mt : Nat → Int32} {J en pn : Nat → Int64} {i : Nat} (hin : i < n) (h : mA K St V E nm sz i I J) (hG : mHs nm G b Cd I sf cs cv sb pl ea en pn mt pa ta ro sh co hu vo) (hCd : Cd.length ≤ i) : mSt K St V E nm sz n b mt (pst K V G i) (I, J, sf, fr, ph, be, ba, op, cs, cv, pr, sb, pl, ea, en, pn, pa, ta, ro, sh, co, hu, vo) (fX12_statement N I J sf tF fr ph be ba op cs cv pr sb pl ea en pn mt pa ta ro sh co hu vo) := by
  by_cases h12 : I 12 = -1
  · by_cases k301 : K i = 301
    · exact m_st301 N hN hA hE hn hV hnm hg hin h hG hCd h12 k301
    by_cases k302 : K i = 302
    · exact m_st302 N hN hA hE hn hV hnm hg hin h hG hCd h12 k302
    by_cases k303 : K i = 303
    · exact m_st303 N hN hA hE hn hV hnm hg hin h hG hCd h12 k303
    by_cases k304 : K i = 304
    · exact m_st304 N hN hA hE hn hV hnm hg hin h hG hCd h12 k304
    by_cases k307 : K i = 307
    · exact m_st307 N hN hA hE hn hV hnm hg hin h hG hCd h12 k307
    by_cases k310 : K i = 310
    · exact m_st310 N hN hA hE hn hV hnm hg hin h hG hCd h12 k310
    by_cases k311 : K i = 311
    · exact m_st311 N hN hA hE hn hV hnm hg hin h hG hCd h12 k311
    by_cases k312 : K i = 312
    · exact m_st312 N hN hA hE hn hV hnm hg hin h hG hCd h12 k312
    obtain ⟨hT, h8, h9⟩ := h
    have ep : pst K V G i = ((1, i, []), G) := by
      unfold pst
      rw [if_neg k301, if_neg k302, if_neg k303, if_neg k304, if_neg k307, if_neg k310, if_neg k311, if_neg k312]
    rw [ep]
    unfold fX12_statement
    rw [m_lex0 N h12, xs_bd, if_pos (by rw [h8]; decide), m_wdF N hT h12 1 (by decide) (p := 508675318629) rfl (x := 301) rfl k301, xs_bd, if_pos rfl, m_wdF N hT h12 2 (by decide) (p := 1752527720) rfl (x := 302) rfl k302, xs_bd, if_pos rfl, m_wdF N hT h12 3 (by decide) (p := 427071727464) rfl (x := 303) rfl k303, xs_bd, if_pos rfl, m_wdF N hT h12 4 (by decide) (p := 6644082) rfl (x := 304) rfl k304, xs_bd, if_pos rfl, m_wdF N hT h12 7 (by decide) (p := 482854658917) rfl (x := 307) rfl k307, xs_bd, if_pos rfl, m_wdF N hT h12 10 (by decide) (p := 1735353715) rfl (x := 310) rfl k310, xs_bd, if_pos rfl, m_wdF N hT h12 11 (by decide) (p := 448377483891) rfl (x := 311) rfl k311, xs_bd, if_pos rfl, m_wdF N hT h12 12 (by decide) (p := 499850701683) rfl (x := 312) rfl k312, xs_bd, if_pos rfl, m_blame N h8, xs_bd]
    exact ⟨_, rfl, ⟨eqO_r 3 b sf, eqO_r 1600 b cs, eqO_r 1600 b cv, eqO_r 3 b sb, eqO_r 1 b pl, eqO_r 1 b ea, eqO_r 7 b en, eqO_r 6 b pn, eqO_r 6 b pa, eqO_r 6 b ta, eqO_r 7 b ro, eqO_r 7 b sh, eqO_r 1 b co, eqO_r 1 b hu, eqO_r 1 b vo⟩, iK_z (iK_b (iK_r I J) _ _), ⟨(1, i, []), jm_f (by decide) (by decide) rfl (pp_pl_st hT h12).symm, (fun z => by cases z), Or.inl rfl⟩, fun z => by cases z⟩
  · obtain ⟨hT, h8, h9⟩ := h
    obtain ⟨k1, k2, -⟩ := hT.2.2.2.1 h12
    have ep : pst K V G i = ((1, i, []), G) := by
      unfold pst
      rw [if_neg (show ¬ K i = 301 by rw [k1]; decide), if_neg (show ¬ K i = 302 by rw [k1]; decide), if_neg (show ¬ K i = 303 by rw [k1]; decide), if_neg (show ¬ K i = 304 by rw [k1]; decide), if_neg (show ¬ K i = 307 by rw [k1]; decide), if_neg (show ¬ K i = 310 by rw [k1]; decide), if_neg (show ¬ K i = 311 by rw [k1]; decide), if_neg (show ¬ K i = 312 by rw [k1]; decide)]
    rw [ep]
    unfold fX12_statement
    rw [m_lex1 N h12 h8, xs_bd, if_neg (m_8n _ _ (by decide))]
    refine ⟨_, rfl, ⟨eqO_r 3 b sf, eqO_r 1600 b cs, eqO_r 1600 b cv, eqO_r 3 b sb, eqO_r 1 b pl, eqO_r 1 b ea, eqO_r 7 b en, eqO_r 6 b pn, eqO_r 6 b pa, eqO_r 6 b ta, eqO_r 7 b ro, eqO_r 7 b sh, eqO_r 1 b co, eqO_r 1 b hu, eqO_r 1 b vo⟩, iK_z (iK_b (iK_r I J) _ _), ⟨(1, i, []), jm_f (by decide) (by decide) rfl ?_, (fun z => by cases z), Or.inl rfl⟩, fun z => by cases z⟩
    show I 12 = _
    unfold pp_pl; rw [if_pos ⟨rfl, k1⟩, k2]
end
