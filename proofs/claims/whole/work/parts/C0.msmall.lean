/-! small steps of reading a house: the reference -/
def mA (K St V E : Nat → Int32) (nm : Int32 → Int64 → Prop) (sz : Int32) (i : Nat) (I : Nat → Int32) (J : Nat → Int64) : Prop := mTok K St V E nm sz i I J ∧ I 8 = 0 ∧ I 9 = -1
def jm (K St V E : Nat → Int32) (nm : Int32 → Int64 → Prop) (sz : Int32) (r : PPR) (I : Nat → Int32) (J : Nat → Int64) : Prop := if r.1 = 0 then mA K St V E nm sz r.2.1 I J else (r.1 < 100 ∧ I 8 = nI r.1 ∧ I 9 = pp_pl K St V r.1 r.2.1)
/-- nothing else of the reference has changed -/
def iK (I : Nat → Int32) (J : Nat → Int64) (I' : Nat → Int32) (J' : Nat → Int64) : Prop := (∀ j, ¬ (j = 3 ∨ j = 4 ∨ j = 5 ∨ j = 6 ∨ j = 8 ∨ j = 9 ∨ j = 12) → I' j = I j) ∧ ∀ j, ¬ j = 7 → J' j = J j
theorem iK_r (I : Nat → Int32) (J : Nat → Int64) : iK I J I J := ⟨fun _ _ => rfl, fun _ _ => rfl⟩
theorem iK_t {I I1 I2 : Nat → Int32} {J J1 J2 : Nat → Int64} (h1 : iK I J I1 J1) (h2 : iK I1 J1 I2 J2) : iK I J I2 J2 := ⟨fun j hj => (h2.1 j hj).trans (h1.1 j hj), fun j hj => (h2.2 j hj).trans (h1.2 j hj)⟩
theorem iK_a {I I1 : Nat → Int32} {J J1 : Nat → Int64} (h1 : ∀ j, ¬ (j = 3 ∨ j = 4 ∨ j = 5 ∨ j = 6 ∨ j = 12) → I1 j = I j) (h2 : ∀ j, ¬ j = 7 → J1 j = J j) : iK I J I1 J1 := ⟨fun j hj => h1 j (fun z => hj (by omega)), h2⟩
theorem iK_b {I I' : Nat → Int32} {J J' : Nat → Int64} (h : iK I J I' J') (f p : Int32) : iK I J (va_up (va_up I' 8 f) 9 p) J' := ⟨fun j hj => by rw [va_up_ne _ _ (by omega), va_up_ne _ _ (by omega)]; exact h.1 j hj, h.2⟩
section
variable {K St V E tF : Nat → Int32} {nm : Int32 → Int64 → Prop} {sz : Int32} {n : Nat} (N : Nat)
theorem jm_al {r : PPR} {I : Nat → Int32} {J : Nat → Int64} (h0 : r.1 = 0) (h : jm K St V E nm sz r I J) : mA K St V E nm sz r.2.1 I J := by unfold jm at h; rw [if_pos h0] at h; exact h
theorem jm_de {r : PPR} {I : Nat → Int32} {J : Nat → Int64} (h0 : ¬ r.1 = 0) (h : jm K St V E nm sz r I J) : r.1 < 100 ∧ I 8 = nI r.1 ∧ I 9 = pp_pl K St V r.1 r.2.1 := by unfold jm at h; rw [if_neg h0] at h; exact h
theorem jm_0 {i : Nat} {L : List Nat} {I : Nat → Int32} {J : Nat → Int64} (h : mA K St V E nm sz i I J) : jm K St V E nm sz (0, i, L) I J := by unfold jm; rw [if_pos rfl]; exact h
theorem jm_f {f i : Nat} {L : List Nat} {I : Nat → Int32} {J : Nat → Int64} (hf : ¬ f = 0) (hf2 : f < 100) (h1 : I 8 = nI f) (h2 : I 9 = pp_pl K St V f i) : jm K St V E nm sz (f, i, L) I J := by unfold jm; rw [if_neg (show ¬ ((f, i, L) : PPR).1 = 0 from hf)]; exact ⟨hf2, h1, h2⟩
theorem jm_bd {r : PPR} {X : Nat → PPR} {I : Nat → Int32} {J : Nat → Int64} (h0 : r.1 = 0) (h : jm K St V E nm sz (X r.2.1) I J) : jm K St V E nm sz (pp_bd r X) I J := by rw [pp_bd_pos h0]; exact h
theorem jm_dd {r : PPR} {X : Nat → PPR} {I I' : Nat → Int32} {J J' : Nat → Int64} (h0 : ¬ r.1 = 0) (h : jm K St V E nm sz r I J) (h8 : I' 8 = I 8) (h9 : I' 9 = I 9) : jm K St V E nm sz (pp_bd r X) I' J' := by
  rw [pp_bd_neg h0]; unfold jm at h ⊢; rw [if_neg h0] at h ⊢; exact ⟨h.1, h8.trans h.2.1, h9.trans h.2.2⟩
theorem jm_8 {r : PPR} {I : Nat → Int32} {J : Nat → Int64} (h : jm K St V E nm sz r I J) : (I 8 = 0 ↔ r.1 = 0) ∧ (I 8 ≤ 0 ↔ r.1 = 0) := by
  by_cases h0 : r.1 = 0
  · have := (jm_al h0 h).2.1
    rw [this]; exact ⟨⟨fun _ => h0, fun _ => rfl⟩, ⟨fun _ => h0, fun _ => by decide⟩⟩
  · obtain ⟨h1, h2, -⟩ := jm_de h0 h
    rw [h2]
    exact ⟨⟨fun z => absurd z (nI_ne0 (by omega) (by omega)), fun z => absurd z h0⟩, ⟨fun z => absurd z (nI_nle (by omega) (by omega)), fun z => absurd z h0⟩⟩
/-- lex: with a FAULT nothing; without, the piece is good in itself or the FAULT is told -/
theorem jm_lex {r : PPR} {I : Nat → Int32} {J : Nat → Int64} (h : jm K St V E nm sz r I J) : (r.1 = 0 ∧ I 12 = -1 ∧ fX12_lex N I = some I) ∨ ∃ I', fX12_lex N I = some I' ∧ ¬ I' 8 = 0 ∧ ¬ I' 8 ≤ 0 ∧ iK I J I' J ∧ (r.1 = 0 → K r.2.1 = -2 ∧ I' 8 = nI 1 ∧ I' 9 = pp_pl K St V 1 r.2.1) ∧ (¬ r.1 = 0 → I' = I) := by
  by_cases h0 : r.1 = 0
  · obtain ⟨hT, h8, h9⟩ := jm_al h0 h
    by_cases z : I 12 = -1
    · exact Or.inl ⟨h0, z, m_lex0 N z⟩
    · obtain ⟨k1, k2, -⟩ := hT.2.2.2.1 z
      refine Or.inr ⟨_, m_lex1 N z h8, (by decide : ¬ (1 : Int32) = 0), (by decide : ¬ (1 : Int32) ≤ 0), iK_b (iK_r I J) _ _, fun _ => ⟨k1, rfl, ?_⟩, fun y => absurd h0 y⟩
      show I 12 = _
      unfold pp_pl; rw [if_pos ⟨rfl, k1⟩, k2]
  · have h8 := jm_8 h
    have n8 : ¬ I 8 ≤ 0 := fun z => h0 (h8.2.mp z)
    refine Or.inr ⟨I, ?_, fun z => h0 (h8.1.mp z), n8, iK_r I J, fun z => absurd z h0, fun _ => rfl⟩
    unfold fX12_lex
    by_cases z : I 12 = -1
    · rw [if_pos z]
    · rw [if_neg z, m_blame1 N n8, xs_bd]
/-- a step that fails at what is bad in itself -/
theorem jm_bad {r : PPR} {X : Nat → PPR} {I I' : Nat → Int32} {J J' : Nat → Int64} (h : jm K St V E nm sz r I J) (h1 : r.1 = 0 → K r.2.1 = -2 ∧ I' 8 = nI 1 ∧ I' 9 = pp_pl K St V 1 r.2.1) (h2 : ¬ r.1 = 0 → I' = I) (hX : ∀ i, K i = -2 → X i = (1, i, [])) : jm K St V E nm sz (pp_bd r X) I' J' := by
  by_cases h0 : r.1 = 0
  · obtain ⟨k1, k2, k3⟩ := h1 h0
    refine jm_bd h0 ?_
    rw [hX _ k1]
    exact jm_f (by decide) (by decide) k2 k3
  · rw [h2 h0]; exact jm_dd h0 h rfl rfl
theorem m_ahd (hA : mAh N tF K St V E nm sz n) {i : Nat} {I : Nat → Int32} {J : Nat → Int64} (h : mA K St V E nm sz i I J) (hi : i + 1 < n) : ∃ I' J', fX12_ahead N I J tF = some (I', J') ∧ mA K St V E nm sz (i + 1) I' J' ∧ iK I J I' J' := by
  obtain ⟨I', J', e1, e2, e3, e4⟩ := hA i I J h.1 hi
  exact ⟨I', J', e1, ⟨e2, (e3 8 (by omega)).trans h.2.1, (e3 9 (by omega)).trans h.2.2⟩, iK_a e3 e4⟩
theorem m_must (hA : mAh N tF K St V E nm sz n) (hE : ∀ i, i < n → ¬ K i = -1 → ¬ K i = -2 → i + 1 < n) {r : PPR} (hrn : r.1 = 0 → r.2.1 < n) {I : Nat → Int32} {J : Nat → Int64} (c : Nat) (hc : mSg c) (hc2 : ¬ nI c = -1 ∧ ¬ nI c = -2) (h : jm K St V E nm sz r I J) : ∃ I' J', fX12_must N I J tF (nI c) = some (I', J') ∧ jm K St V E nm sz (pp_bd r (pp_tk K (nI c))) I' J' ∧ iK I J I' J' := by
  unfold fX12_must
  rcases jm_lex N h with ⟨h0, h12, e1⟩ | ⟨I1, e1, n8, n8', k, d1, d2⟩
  · obtain ⟨hT, h8, h9⟩ := jm_al h0 h
    rw [e1, xs_bd]
    by_cases e : K r.2.1 = nI c
    · obtain ⟨I', J', f1, f2, f3⟩ := m_ahd N hA ⟨hT, h8, h9⟩ (hE _ (hrn h0) (by rw [e]; exact hc2.1) (by rw [e]; exact hc2.2))
      rw [m_sgT N hT h12 c hc rfl e, xs_bd, if_neg (by decide)]
      dsimp only [fX12_must_b21]
      rw [if_pos h8, f1, xs_bd]
      refine ⟨_, _, rfl, jm_bd h0 ?_, f3⟩
      unfold pp_tk; rw [if_pos e]; exact jm_0 f2
    · rw [m_sgF N hT h12 c hc rfl e, xs_bd, if_pos rfl, m_blame N h8, xs_bd]
      dsimp only [fX12_must_b21]
      rw [if_neg (show ¬ (va_up (va_up I 8 1) 9 (I 4)) 8 = 0 from (by decide : ¬ (1 : Int32) = 0))]
      refine ⟨_, _, rfl, jm_bd h0 ?_, iK_b (iK_r I J) _ _⟩
      unfold pp_tk; rw [if_neg e]; exact jm_f (by decide) (by decide) rfl (pp_pl_st hT h12).symm
  · obtain ⟨rr, e2⟩ := m_sgE N I1 (nI c)
    rw [e1, xs_bd, e2, xs_bd]
    have fin : fX12_must_b21 N tF (I1, J) = some (I1, J) := by
      dsimp only [fX12_must_b21]
      rw [if_neg n8]
    refine ⟨I1, J, ?_, jm_bad h d1 d2 (fun i hi => by unfold pp_tk; rw [if_neg (by rw [hi]; exact fun z => hc2.2 z.symm)]), k⟩
    by_cases z : rr = 0
    · rw [if_pos z, m_blame1 N n8', xs_bd]; exact fin
    · rw [if_neg z]; exact fin
theorem m_mustw (hA : mAh N tF K St V E nm sz n) (hE : ∀ i, i < n → ¬ K i = -1 → ¬ K i = -2 → i + 1 < n) {r : PPR} (hrn : r.1 = 0 → r.2.1 < n) {I : Nat → Int32} {J : Nat → Int64} (w0 : Nat) (hw : w0 < 24) {p : Int64} (hp : p = mWd w0) {x : Int32} (hx : x = nI (300 + w0)) (h : jm K St V E nm sz r I J) : ∃ I' J', fX12_must_ N I J tF p = some (I', J') ∧ jm K St V E nm sz (pp_bd r (pp_tk K x)) I' J' ∧ iK I J I' J' := by
  have hx1 : ¬ x = -1 ∧ ¬ x = -2 := by
    rw [hx]
    refine ⟨nI_nm1 (by omega), fun z => ?_⟩
    have := (fa_eq _ _).mp z
    rw [nI_toInt (by omega)] at this
    have e : (-2 : Int32).toInt = -2 := rfl
    omega
  unfold fX12_must_
  rcases jm_lex N h with ⟨h0, h12, e1⟩ | ⟨I1, e1, n8, n8', k, d1, d2⟩
  · obtain ⟨hT, h8, h9⟩ := jm_al h0 h
    rw [e1, xs_bd, if_pos (by rw [h8]; decide)]
    by_cases e : K r.2.1 = x
    · obtain ⟨I', J', f1, f2, f3⟩ := m_ahd N hA ⟨hT, h8, h9⟩ (hE _ (hrn h0) (by rw [e]; exact hx1.1) (by rw [e]; exact hx1.2))
      rw [m_wdT N hT h12 w0 hw hp hx e, xs_bd, if_neg (by decide)]
      dsimp only [fX12_must__b29]
      rw [if_pos h8, f1, xs_bd]
      refine ⟨_, _, rfl, jm_bd h0 ?_, f3⟩
      unfold pp_tk; rw [if_pos e]; exact jm_0 f2
    · rw [m_wdF N hT h12 w0 hw hp hx e, xs_bd, if_pos rfl, m_blame N h8, xs_bd]
      dsimp only [fX12_must__b29]
      rw [if_neg (show ¬ (va_up (va_up I 8 1) 9 (I 4)) 8 = 0 from (by decide : ¬ (1 : Int32) = 0))]
      refine ⟨_, _, rfl, jm_bd h0 ?_, iK_b (iK_r I J) _ _⟩
      unfold pp_tk; rw [if_neg e]; exact jm_f (by decide) (by decide) rfl (pp_pl_st hT h12).symm
  · rw [e1, xs_bd, if_neg n8']
    exact ⟨I1, J, rfl, jm_bad h d1 d2 (fun i hi => by unfold pp_tk; rw [if_neg (by rw [hi]; exact fun z => hx1.2 z.symm)]), k⟩
theorem m_number (hA : mAh N tF K St V E nm sz n) (hE : ∀ i, i < n → ¬ K i = -1 → ¬ K i = -2 → i + 1 < n) {r : PPR} (hrn : r.1 = 0 → r.2.1 < n) {I : Nat → Int32} {J : Nat → Int64} (lo hi : Int32) (h : jm K St V E nm sz r I J) : ∃ v I' J', fX12_number N I J tF lo hi = some (v, I', J') ∧ jm K St V E nm sz (pp_bd r (pp_num K V lo hi)) I' J' ∧ iK I J I' J' ∧ (r.1 = 0 → K r.2.1 = -3 → v = V r.2.1) := by
  unfold fX12_number
  rcases jm_lex N h with ⟨h0, h12, e1⟩ | ⟨I1, e1, n8, n8', k, d1, d2⟩
  · obtain ⟨hT, h8, h9⟩ := jm_al h0 h
    have h3 := (hT.2.2.2.2 h12).2.2.2.1
    have h6 := (hT.2.2.2.2 h12).2.2.2.2.1
    rw [e1, xs_bd, if_pos (by rw [h8]; decide)]
    by_cases e : K r.2.1 = -3
    · rw [if_pos (h3.mpr e)]
      dsimp only [fX12_number_b30]
      rw [if_pos h8, h6 e]
      unfold fX12_is
      have bad : (V r.2.1 < lo ∨ hi < V r.2.1) → ∃ v I' J', xq_bd (fX12_blame N I 4 (I 4)) (fun r_5 => fX12_number_b58 N tF (r_5, J)) = some (v, I', J') ∧ jm K St V E nm sz (pp_bd r (pp_num K V lo hi)) I' J' ∧ iK I J I' J' ∧ (r.1 = 0 → K r.2.1 = -3 → v = V r.2.1) := by
        intro hb
        rw [m_blame N h8, xs_bd]
        dsimp only [fX12_number_b58]
        rw [if_neg (show ¬ (va_up (va_up I 8 4) 9 (I 4)) 8 = 0 from (by decide : ¬ (4 : Int32) = 0))]
        refine ⟨_, _, _, rfl, jm_bd h0 ?_, iK_b (iK_r I J) _ _, fun _ _ => h6 e⟩
        unfold pp_num; rw [if_pos e, if_pos hb]; exact jm_f (by decide) (by decide) rfl (by rw [pp_pl_ne (by decide)]; exact hT.2.1)
      by_cases l1 : V r.2.1 < lo
      · rw [if_pos l1, xs_bd, if_pos rfl]; exact bad (Or.inl l1)
      · by_cases l2 : hi < V r.2.1
        · rw [if_neg l1, if_pos l2, xs_bd, if_pos rfl]; exact bad (Or.inr l2)
        · obtain ⟨I', J', f1, f2, f3⟩ := m_ahd N hA ⟨hT, h8, h9⟩ (hE _ (hrn h0) (by rw [e]; decide) (by rw [e]; decide))
          rw [if_neg l1, if_neg l2, xs_bd, if_neg (by decide)]
          dsimp only [fX12_number_b58]
          rw [if_pos h8, f1, xs_bd]
          refine ⟨_, _, _, rfl, jm_bd h0 ?_, f3, fun _ _ => h6 e⟩
          unfold pp_num
          rw [if_pos e, if_neg (fun z => by
            rcases z with z | z
            · exact l1 z
            · exact l2 z)]
          exact jm_0 f2
    · rw [if_neg (fun z => e (h3.mp z)), m_blame N h8, xs_bd]
      dsimp only [fX12_number_b30]
      rw [if_neg (show ¬ (va_up (va_up I 8 1) 9 (I 4)) 8 = 0 from (by decide : ¬ (1 : Int32) = 0))]
      dsimp only [fX12_number_b58]
      rw [if_neg (show ¬ (va_up (va_up I 8 1) 9 (I 4)) 8 = 0 from (by decide : ¬ (1 : Int32) = 0))]
      refine ⟨_, _, _, rfl, jm_bd h0 ?_, iK_b (iK_r I J) _ _, fun _ z => absurd z e⟩
      unfold pp_num; rw [if_neg e]; exact jm_f (by decide) (by decide) rfl (pp_pl_st hT h12).symm
  · rw [e1, xs_bd, if_neg n8']
    refine ⟨_, I1, J, rfl, jm_bad h d1 d2 (fun i hi => by unfold pp_num; rw [if_neg (by rw [hi]; decide)]), k, fun z1 z2 => ?_⟩
    rw [(d1 z1).1] at z2; exact absurd z2 (by decide)
/-- isCounted at the word of a STATEMENT -/
def pp_cnt (full : Bool) (i : Nat) : PPR := if full = true then (6, i, []) else (0, i + 1, [])
theorem m_counted (hA : mAh N tF K St V E nm sz n) {i : Nat} {I : Nat → Int32} {J : Nat → Int64} (full : Bool) (hi : i + 1 < n) (h : mA K St V E nm sz i I J) : ∃ I' J', fX12_isCounted N I J tF (p_b full) = some (p_b (!full), I', J') ∧ jm K St V E nm sz (pp_cnt full i) I' J' ∧ iK I J I' J' := by
  obtain ⟨hT, h8, h9⟩ := h
  unfold fX12_isCounted pp_cnt
  rw [if_pos h8]
  cases full with
  | true =>
    rw [if_neg (show ¬ p_b true = 0 by decide), m_blame N h8, xs_bd]
    dsimp only [fX12_isCounted_b21]
    rw [if_neg (show ¬ (va_up (va_up I 8 6) 9 (I 4)) 8 = 0 from (by decide : ¬ (6 : Int32) = 0))]
    dsimp only [fX12_isCounted_b32]
    rw [if_neg (show ¬ (va_up (va_up I 8 6) 9 (I 4)) 8 = 0 from (by decide : ¬ (6 : Int32) = 0)), if_pos rfl]
    exact ⟨_, _, rfl, jm_f (by decide) (by decide) rfl (by rw [pp_pl_ne (by decide)]; exact hT.2.1), iK_b (iK_r I J) _ _⟩
  | false =>
    obtain ⟨I', J', f1, f2, f3⟩ := m_ahd N hA ⟨hT, h8, h9⟩ hi
    rw [if_pos (show p_b false = 0 from rfl)]
    dsimp only [fX12_isCounted_b21]
    rw [if_pos h8, f1, xs_bd]
    dsimp only [fX12_isCounted_b32]
    rw [if_pos f2.2.1, if_neg (by decide)]
    exact ⟨_, _, rfl, jm_0 f2, f3⟩
theorem m_isOwn {i : Nat} {I : Nat → Int32} {J : Nat → Int64} (hT : mTok K St V E nm sz i I J) (h12 : I 12 = -1) (h3 : I 3 = 1) : ∃ rr, fX12_isOwn N (J 7) = some rr ∧ (rr = 0 ↔ K i = -4) := by
  have hw := (hT.2.2.2.2 h12).2.2.1
  have h4 := (hT.2.2.2.2 h12).2.2.2.2.2.2.2 h3
  have key : ∀ w0, w0 < 24 → (lg_cmp (J 7) (mWd w0) = 0 ↔ K i = nI (300 + w0)) := fun w0 hw0 => by
    rw [lg_cmp_eq, ← hw w0 hw0]
    exact ⟨fun z => ⟨h3, z⟩, fun z => z.2⟩
  by_cases k : K i = -4
  · have no : ∀ w0, w0 < 24 → ¬ lg_cmp (J 7) (mWd w0) = 0 := fun w0 hw0 z => by
      have := (key w0 hw0).mp z
      rw [k] at this
      have := (fa_eq _ _).mp this
      rw [nI_toInt (by omega)] at this
      have e : (-4 : Int32).toInt = -4 := rfl
      omega
    refine ⟨0, ?_, ⟨fun _ => k, fun _ => rfl⟩⟩
    unfold fX12_isOwn
    rw [if_neg (show ¬ lg_cmp (J 7) 491496238692 = 0 from no 0 (by decide)), if_neg (show ¬ lg_cmp (J 7) 508675318629 = 0 from no 1 (by decide)), if_neg (show ¬ lg_cmp (J 7) 1752527720 = 0 from no 2 (by decide)), if_neg (show ¬ lg_cmp (J 7) 427071727464 = 0 from no 3 (by decide)), if_neg (show ¬ lg_cmp (J 7) 6644082 = 0 from no 4 (by decide)), if_neg (show ¬ lg_cmp (J 7) 7499639 = 0 from no 5 (by decide)), if_neg (show ¬ lg_cmp (J 7) 495672455792 = 0 from no 6 (by decide)), if_neg (show ¬ lg_cmp (J 7) 482854658917 = 0 from no 7 (by decide)), if_neg (show ¬ lg_cmp (J 7) 24948 = 0 from no 8 (by decide)), if_neg (show ¬ lg_cmp (J 7) 1952541803 = 0 from no 9 (by decide)), if_neg (show ¬ lg_cmp (J 7) 1735353715 = 0 from no 10 (by decide)), if_neg (show ¬ lg_cmp (J 7) 448377483891 = 0 from no 11 (by decide)), if_neg (show ¬ lg_cmp (J 7) 499850701683 = 0 from no 12 (by decide)), if_neg (show ¬ lg_cmp (J 7) 474214787188 = 0 from no 13 (by decide)), if_neg (show ¬ lg_cmp (J 7) 1835625573 = 0 from no 14 (by decide)), if_neg (show ¬ lg_cmp (J 7) 125823037105267 = 0 from no 15 (by decide)), if_neg (show ¬ lg_cmp (J 7) 6709618 = 0 from no 16 (by decide)), if_neg (show ¬ lg_cmp (J 7) 26982 = 0 from no 17 (by decide)), if_neg (show ¬ lg_cmp (J 7) 28530 = 0 from no 18 (by decide)), if_neg (show ¬ lg_cmp (J 7) 6385252 = 0 from no 19 (by decide)), if_neg (show ¬ lg_cmp (J 7) 7237492 = 0 from no 20 (by decide)), if_neg (show ¬ lg_cmp (J 7) 6384748 = 0 from no 21 (by decide)), if_neg (show ¬ lg_cmp (J 7) 7170414 = 0 from no 22 (by decide)), if_neg (show ¬ lg_cmp (J 7) 7168376 = 0 from no 23 (by decide))]
  · have : ∃ w0, w0 < 24 ∧ lg_cmp (J 7) (mWd w0) = 0 := by
      rcases h4 with z | ⟨w0, hw0, z⟩
      · exact absurd z k
      · exact ⟨w0, hw0, (key w0 hw0).mpr z⟩
    refine ⟨1, ?_, ⟨fun z => absurd z (by decide), fun z => absurd z k⟩⟩
    obtain ⟨w0, hw0, z⟩ := this
    unfold fX12_isOwn
    by_cases y0 : lg_cmp (J 7) 491496238692 = 0
    · rw [if_pos y0]
    rw [if_neg y0]
    by_cases y1 : lg_cmp (J 7) 508675318629 = 0
    · rw [if_pos y1]
    rw [if_neg y1]
    by_cases y2 : lg_cmp (J 7) 1752527720 = 0
    · rw [if_pos y2]
    rw [if_neg y2]
    by_cases y3 : lg_cmp (J 7) 427071727464 = 0
    · rw [if_pos y3]
    rw [if_neg y3]
    by_cases y4 : lg_cmp (J 7) 6644082 = 0
    · rw [if_pos y4]
    rw [if_neg y4]
    by_cases y5 : lg_cmp (J 7) 7499639 = 0
    · rw [if_pos y5]
    rw [if_neg y5]
    by_cases y6 : lg_cmp (J 7) 495672455792 = 0
    · rw [if_pos y6]
    rw [if_neg y6]
    by_cases y7 : lg_cmp (J 7) 482854658917 = 0
    · rw [if_pos y7]
    rw [if_neg y7]
    by_cases y8 : lg_cmp (J 7) 24948 = 0
    · rw [if_pos y8]
    rw [if_neg y8]
    by_cases y9 : lg_cmp (J 7) 1952541803 = 0
    · rw [if_pos y9]
    rw [if_neg y9]
    by_cases y10 : lg_cmp (J 7) 1735353715 = 0
    · rw [if_pos y10]
    rw [if_neg y10]
    by_cases y11 : lg_cmp (J 7) 448377483891 = 0
    · rw [if_pos y11]
    rw [if_neg y11]
    by_cases y12 : lg_cmp (J 7) 499850701683 = 0
    · rw [if_pos y12]
    rw [if_neg y12]
    by_cases y13 : lg_cmp (J 7) 474214787188 = 0
    · rw [if_pos y13]
    rw [if_neg y13]
    by_cases y14 : lg_cmp (J 7) 1835625573 = 0
    · rw [if_pos y14]
    rw [if_neg y14]
    by_cases y15 : lg_cmp (J 7) 125823037105267 = 0
    · rw [if_pos y15]
    rw [if_neg y15]
    by_cases y16 : lg_cmp (J 7) 6709618 = 0
    · rw [if_pos y16]
    rw [if_neg y16]
    by_cases y17 : lg_cmp (J 7) 26982 = 0
    · rw [if_pos y17]
    rw [if_neg y17]
    by_cases y18 : lg_cmp (J 7) 28530 = 0
    · rw [if_pos y18]
    rw [if_neg y18]
    by_cases y19 : lg_cmp (J 7) 6385252 = 0
    · rw [if_pos y19]
    rw [if_neg y19]
    by_cases y20 : lg_cmp (J 7) 7237492 = 0
    · rw [if_pos y20]
    rw [if_neg y20]
    by_cases y21 : lg_cmp (J 7) 6384748 = 0
    · rw [if_pos y21]
    rw [if_neg y21]
    by_cases y22 : lg_cmp (J 7) 7170414 = 0
    · rw [if_pos y22]
    rw [if_neg y22]
    by_cases y23 : lg_cmp (J 7) 7168376 = 0
    · rw [if_pos y23]
    rw [if_neg y23]
    exfalso
    have : w0 = 0 ∨ w0 = 1 ∨ w0 = 2 ∨ w0 = 3 ∨ w0 = 4 ∨ w0 = 5 ∨ w0 = 6 ∨ w0 = 7 ∨ w0 = 8 ∨ w0 = 9 ∨ w0 = 10 ∨ w0 = 11 ∨ w0 = 12 ∨ w0 = 13 ∨ w0 = 14 ∨ w0 = 15 ∨ w0 = 16 ∨ w0 = 17 ∨ w0 = 18 ∨ w0 = 19 ∨ w0 = 20 ∨ w0 = 21 ∨ w0 = 22 ∨ w0 = 23 := by omega
    rcases this with rfl | rfl | rfl | rfl | rfl | rfl | rfl | rfl | rfl | rfl | rfl | rfl | rfl | rfl | rfl | rfl | rfl | rfl | rfl | rfl | rfl | rfl | rfl | rfl
    · exact y0 z
    · exact y1 z
    · exact y2 z
    · exact y3 z
    · exact y4 z
    · exact y5 z
    · exact y6 z
    · exact y7 z
    · exact y8 z
    · exact y9 z
    · exact y10 z
    · exact y11 z
    · exact y12 z
    · exact y13 z
    · exact y14 z
    · exact y15 z
    · exact y16 z
    · exact y17 z
    · exact y18 z
    · exact y19 z
    · exact y20 z
    · exact y21 z
    · exact y22 z
    · exact y23 z

def nmHasM (b E Pn : Nat) (en pn : Nat → Int64) (v : Int64) : Bool := decide ((∃ e, e < E ∧ en (7 * b + e) = v) ∨ ∃ p, p < Pn ∧ pn (6 * b + p) = v)
theorem m_isNamed (hN : 5000 ≤ N) {b E Pn : Nat} (hb : b < 2) (hE : E ≤ 7) (hP : Pn ≤ 6) {I ea pl : Nat → Int32} {en pn : Nat → Int64} (h31 : I 31 = nI b) (h5 : ea b = nI E) (h6 : pl b = nI Pn) (v : Int64) : fX12_isNamed N I ea en pl pn v = some (p_b (nmHasM b E Pn en pn v)) := by
  unfold fX12_isNamed
  refine xs_loopI (body := fX12_isNamed_l2 N I ea en pl pn) (fun r st => ∃ j, st = (v, nI j) ∧ j + r = E ∧ ∀ e, e < j → ¬ en (7 * b + e) = v) (fun q => q = some (p_b (nmHasM b E Pn en pn v))) ?_ N E _ ⟨0, rfl, by omega, fun e he => absurd he (Nat.not_lt_zero _)⟩ (by omega)
  rintro r st kk ⟨j, rfl, hj, hall⟩ hgo
  dsimp only [fX12_isNamed_l2]
  rw [h31, xs_ald hb (by decide), xs_bd, h5]
  by_cases c : E ≤ j
  · rw [if_pos (nI_le c (by omega))]
    refine xs_loopI (body := fX12_isNamed_l44 N I ea en pl pn) (fun r st => ∃ j, st = (v, nI j) ∧ j + r = Pn ∧ ∀ e, e < j → ¬ pn (6 * b + e) = v) (fun q => q = some (p_b (nmHasM b E Pn en pn v))) ?_ N Pn _ ⟨0, rfl, by omega, fun e he => absurd he (Nat.not_lt_zero _)⟩ (by omega)
    rintro r2 st2 kk2 ⟨j2, rfl, hj2, hall2⟩ hgo2
    dsimp only [fX12_isNamed_l44]
    rw [h31, xs_ald hb (by decide), xs_bd, h6]
    by_cases c2 : Pn ≤ j2
    · rw [if_pos (nI_le c2 (by omega))]
      unfold nmHasM
      rw [decide_eq_false (fun z => by
        rcases z with ⟨e, he, z⟩ | ⟨p, hp, z⟩
        · exact hall e (by omega) z
        · exact hall2 p (by omega) z)]; rfl
    · rw [if_neg (nI_ge (by omega) (by omega)), mx6, xs_aldL (by omega) (by decide), xs_bd]
      by_cases d : pn (6 * b + j2) = v
      · rw [if_pos ((lg_cmp_eq _ _).mpr d)]
        unfold nmHasM
        rw [decide_eq_true (Or.inr ⟨j2, by omega, d⟩)]; rfl
      · rw [if_neg (fun z => d ((lg_cmp_eq _ _).mp z)), nI_1]
        exact hgo2 _ (r2 - 1) (by omega) ⟨j2 + 1, rfl, by omega, fun e he => by
          by_cases g : e = j2
          · rw [g]; exact d
          · exact hall2 e (by omega)⟩
  · rw [if_neg (nI_ge (by omega) (by omega)), mx7, xs_aldL (by omega) (by decide), xs_bd]
    by_cases d : en (7 * b + j) = v
    · rw [if_pos ((lg_cmp_eq _ _).mpr d)]
      unfold nmHasM
      rw [decide_eq_true (Or.inl ⟨j, by omega, d⟩)]; rfl
    · rw [if_neg (fun z => d ((lg_cmp_eq _ _).mp z)), nI_1]
      exact hgo _ (r - 1) (by omega) ⟨j + 1, rfl, by omega, fun e he => by
        by_cases g : e = j
        · rw [g]; exact d
        · exact hall e (by omega)⟩
theorem m_fresh (hN : 5000 ≤ N) (hA : mAh N tF K St V E nm sz n) (hE : ∀ i, i < n → ¬ K i = -1 → ¬ K i = -2 → i + 1 < n) {b Ea Pn : Nat} (hb : b < 2) (hEa : Ea ≤ 7) (hP : Pn ≤ 6) {ea pl : Nat → Int32} {en pn : Nat → Int64} (h5 : ea b = nI Ea) (h6 : pl b = nI Pn) {has : Nat → Bool} (hhas : ∀ i J7, K i = -4 → nm (V i) J7 → has i = nmHasM b Ea Pn en pn J7) {r : PPR} (hrn : r.1 = 0 → r.2.1 < n) {I : Nat → Int32} {J : Nat → Int64} (h31 : I 31 = nI b) (h : jm K St V E nm sz r I J) : ∃ v I' J', fX12_fresh N I J ea en pl pn tF = some (v, I', J') ∧ jm K St V E nm sz (pp_bd r (pp_nam K has)) I' J' ∧ iK I J I' J' ∧ (r.1 = 0 → K r.2.1 = -4 → nm (V r.2.1) v) := by
  unfold fX12_fresh
  rcases jm_lex N h with ⟨h0, h12, e1⟩ | ⟨I1, e1, n8, n8', k, d1, d2⟩
  · obtain ⟨hT, h8, h9⟩ := jm_al h0 h
    have h4 := (hT.2.2.2.2 h12).2.2.2.2.2.2.1
    rw [e1, xs_bd, if_pos (by rw [h8]; decide)]
    have bad : ¬ K r.2.1 = -4 → ∃ v I' J', fX12_fresh_b32 N ea en pl pn tF (I, J) = some (v, I', J') ∧ jm K St V E nm sz (pp_bd r (pp_nam K has)) I' J' ∧ iK I J I' J' ∧ (r.1 = 0 → K r.2.1 = -4 → nm (V r.2.1) v) := by
      intro e
      dsimp only [fX12_fresh_b32]
      rw [m_blame N h8, xs_bd]
      dsimp only [fX12_fresh_b41]
      rw [if_neg (show ¬ (va_up (va_up I 8 1) 9 (I 4)) 8 = 0 from (by decide : ¬ (1 : Int32) = 0))]
      dsimp only [fX12_fresh_b68]
      rw [if_neg (show ¬ (va_up (va_up I 8 1) 9 (I 4)) 8 = 0 from (by decide : ¬ (1 : Int32) = 0))]
      refine ⟨_, _, _, rfl, jm_bd h0 ?_, iK_b (iK_r I J) _ _, fun _ z => absurd z e⟩
      unfold pp_nam; rw [if_neg e]; exact jm_f (by decide) (by decide) rfl (pp_pl_st hT h12).symm
    by_cases h3 : I 3 = 1
    · obtain ⟨rr, e2, e3⟩ := m_isOwn N hT h12 h3
      rw [if_pos h3, e2, xs_bd]
      by_cases e : K r.2.1 = -4
      · have hnm := (h4 e).2
        rw [if_pos (e3.mpr e)]
        dsimp only [fX12_fresh_b41]
        rw [if_pos h8, m_isNamed N hN hb hEa hP h31 h5 h6, xs_bd, ← hhas _ _ e hnm]
        cases hh : has r.2.1 with
        | true =>
          rw [if_neg (show ¬ p_b true = 0 by decide), m_blame N h8, xs_bd]
          dsimp only [fX12_fresh_b68]
          rw [if_neg (show ¬ (va_up (va_up I 8 2) 9 (I 4)) 8 = 0 from (by decide : ¬ (2 : Int32) = 0))]
          refine ⟨_, _, _, rfl, jm_bd h0 ?_, iK_b (iK_r I J) _ _, fun _ _ => hnm⟩
          unfold pp_nam; rw [if_pos e, if_pos hh]; exact jm_f (by decide) (by decide) rfl (by rw [pp_pl_ne (by decide)]; exact hT.2.1)
        | false =>
          obtain ⟨I', J', f1, f2, f3⟩ := m_ahd N hA ⟨hT, h8, h9⟩ (hE _ (hrn h0) (by rw [e]; decide) (by rw [e]; decide))
          rw [if_pos (show p_b false = 0 from rfl)]
          dsimp only [fX12_fresh_b68]
          rw [if_pos h8, f1, xs_bd]
          refine ⟨_, _, _, rfl, jm_bd h0 ?_, f3, fun _ _ => hnm⟩
          unfold pp_nam; rw [if_pos e, if_neg (by rw [hh]; decide)]; exact jm_0 f2
      · rw [if_neg (fun z => e (e3.mp z))]; exact bad e
    · rw [if_neg h3]; exact bad (fun z => h3 (h4 z).1)
  · rw [e1, xs_bd, if_neg n8']
    refine ⟨_, I1, J, rfl, jm_bad h d1 d2 (fun i hi => by unfold pp_nam; rw [if_neg (by rw [hi]; decide)]), k, fun z1 z2 => ?_⟩
    rw [(d1 z1).1] at z2; exact absurd z2 (by decide)
def plHasM (b Pn : Nat) (pa : Nat → Int32) (v : Int32) : Bool := decide (∃ p, p < Pn ∧ pa (6 * b + p) = v)
theorem m_isPlaceAt (hN : 5000 ≤ N) {b Pn : Nat} (hb : b < 2) (hP : Pn ≤ 6) {I pl pa : Nat → Int32} (h31 : I 31 = nI b) (h6 : pl b = nI Pn) (v : Int32) : fX12_isPlaceAt N I pl pa v = some (p_b (plHasM b Pn pa v)) := by
  unfold fX12_isPlaceAt
  refine xs_loopI (body := fX12_isPlaceAt_l2 N I pl pa) (fun r st => ∃ j, st = (v, nI j) ∧ j + r = Pn ∧ ∀ e, e < j → ¬ pa (6 * b + e) = v) (fun q => q = some (p_b (plHasM b Pn pa v))) ?_ N Pn _ ⟨0, rfl, by omega, fun e he => absurd he (Nat.not_lt_zero _)⟩ (by omega)
  rintro r st kk ⟨j, rfl, hj, hall⟩ hgo
  dsimp only [fX12_isPlaceAt_l2]
  rw [h31, xs_ald hb (by decide), xs_bd, h6]
  by_cases c : Pn ≤ j
  · rw [if_pos (nI_le c (by omega))]
    unfold plHasM
    rw [decide_eq_false (fun z => by obtain ⟨p, hp, z⟩ := z; exact hall p (by omega) z)]; rfl
  · rw [if_neg (nI_ge (by omega) (by omega)), mx6, xs_ald (by omega) (by decide), xs_bd]
    by_cases d : pa (6 * b + j) = v
    · rw [if_pos d]
      unfold plHasM
      rw [decide_eq_true ⟨j, by omega, d⟩]; rfl
    · rw [if_neg d, nI_1]
      exact hgo _ (r - 1) (by omega) ⟨j + 1, rfl, by omega, fun e he => by
        by_cases g : e = j
        · rw [g]; exact d
        · exact hall e (by omega)⟩
/-- how the reference looks for what comes behind a STATEMENT -/
def mSk (N : Nat) (tF K St E : Nat → Int32) (sz : Int32) (n : Nat) : Prop := ∀ i I J x1, i < n → I 5 = E (i + 1) → I 2 = sz → ∃ x2, xq_loop (fX12_finishes_l17 N tF) N (I, J, x1, I 5) = fX12_finishes_b53 N tF (I, J, x1, x2) ∧ (i + 1 < n → x2 = St (i + 1) ∧ (sz ≤ St (i + 1) ↔ K (i + 1) = -1))
/-- the end of the STATEMENT of number c -/
def pp_fin (K : Nat → Int32) (c i : Nat) : PPR := if c = 60 ∧ K i = 59 ∧ ¬ K (i + 1) = -1 then (6, i + 1, []) else pp_tk K 59 i
theorem m_finishes (hA : mAh N tF K St V E nm sz n) (hE : ∀ i, i < n → ¬ K i = -1 → ¬ K i = -2 → i + 1 < n) (hS : mSk N tF K St E sz n) {c : Nat} (hc : c < 100) {r : PPR} (hrn : r.1 = 0 → r.2.1 < n) {I : Nat → Int32} {J : Nat → Int64} (h : jm K St V E nm sz r I J) : ∃ I' J', fX12_finishes N I J tF (nI c) = some (I', J') ∧ jm K St V E nm sz (pp_bd r (pp_fin K c)) I' J' ∧ iK I J I' J' := by
  unfold fX12_finishes
  rcases jm_lex N h with ⟨h0, h12, e1⟩ | ⟨I1, e1, n8, n8', k, d1, d2⟩
  · have hm := jm_al h0 h
    obtain ⟨hT, h8, h9⟩ := hm
    obtain ⟨x2, s1, s2⟩ := hS r.2.1 I J (nI c) (hrn h0) hT.2.2.1 hT.1
    rw [e1, xs_bd, if_pos (by rw [h8]; decide), s1]
    dsimp only [fX12_finishes_b53]
    have tail : ∃ I' J', fX12_finishes_b83 N tF (I, J) = some (I', J') ∧ jm K St V E nm sz (pp_bd r (pp_tk K 59)) I' J' ∧ iK I J I' J' := by
      obtain ⟨I', J', f1, f2, f3⟩ := m_must N hA hE hrn 59 (by unfold mSg; omega) (by decide) h
      refine ⟨I', J', ?_, f2, f3⟩
      dsimp only [fX12_finishes_b83]
      rw [show (59 : Int32) = nI 59 from rfl, f1, xs_bd]
    have same : ¬ (c = 60 ∧ K r.2.1 = 59 ∧ ¬ K (r.2.1 + 1) = -1) → pp_bd r (pp_fin K c) = pp_bd r (pp_tk K 59) := by
      intro z
      have e : pp_fin K c r.2.1 = pp_tk K 59 r.2.1 := by unfold pp_fin; rw [if_neg z]
      rw [pp_bd_pos h0, pp_bd_pos h0, e]
    by_cases e : K r.2.1 = 59
    · rw [m_sgT N hT h12 59 (by unfold mSg; omega) (x := 59) rfl e, xs_bd, if_neg (by decide)]
      obtain ⟨q1, q2⟩ := s2 (hE _ (hrn h0) (by rw [e]; decide) (by rw [e]; decide))
      by_cases z : c = 60
      · rw [z, if_pos (show nI 60 = 60 from rfl), hT.1, q1]
        by_cases z2 : K (r.2.1 + 1) = -1
        · rw [if_pos (q2.mpr z2)]
          obtain ⟨I', J', f1, f2, f3⟩ := tail
          rw [← z, same (fun y => y.2.2 z2)]
          exact ⟨I', J', f1, f2, f3⟩
        · rw [if_neg (fun y => z2 (q2.mp y)), m_blame N h8, xs_bd]
          have hd : jm K St V E nm sz (pp_bd r (pp_fin K 60)) (va_up (va_up I 8 6) 9 (St (r.2.1 + 1))) J := by
            refine jm_bd h0 ?_
            unfold pp_fin; rw [if_pos ⟨rfl, e, z2⟩]
            exact jm_f (by decide) (by decide) rfl (by rw [pp_pl_ne (by decide)]; rfl)
          obtain ⟨I', J', f1, f2, f3⟩ := m_must N (n := n) hA hE (r := pp_bd r (pp_fin K 60)) (fun y => by
            exfalso
            have : (pp_bd r (pp_fin K 60)).1 = 6 := by rw [pp_bd_pos h0]; unfold pp_fin; rw [if_pos ⟨rfl, e, z2⟩]
            omega) 59 (by unfold mSg; omega) (by decide) hd
          refine ⟨I', J', ?_, ?_, iK_t (iK_b (iK_r I J) _ _) f3⟩
          · dsimp only [fX12_finishes_b83]
            rw [show (59 : Int32) = nI 59 from rfl, f1, xs_bd]
          · have n0 : ¬ (pp_bd r (pp_fin K 60)).1 = 0 := by
              rw [pp_bd_pos h0]; unfold pp_fin; rw [if_pos ⟨rfl, e, z2⟩]; exact (by decide : ¬ (6 : Nat) = 0)
            rw [pp_bd_neg n0] at f2; exact f2
      · rw [if_neg (show ¬ nI c = (60 : Int32) from fun y => z ((nI_eq (b := 60) (by omega) (by omega)).mp y)), same (fun y => z y.1)]
        exact tail
    · rw [m_sgF N hT h12 59 (by unfold mSg; omega) (x := 59) rfl e, xs_bd, if_pos rfl, same (fun y => e y.2.1)]
      exact tail
  · rw [e1, xs_bd, if_neg n8']
    exact ⟨I1, J, rfl, jm_bad h d1 d2 (fun i hi => by unfold pp_fin pp_tk; rw [if_neg (fun y => by rw [hi] at y; exact absurd y.2.1 (by decide)), if_neg (by rw [hi]; decide)]), k⟩
end
