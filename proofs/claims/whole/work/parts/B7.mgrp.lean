/-! the reference's formula reader does what the plain parser says: PART, FACT, the whole -/
section
variable {K St V E : Nat → Int32} {nm : Int32 → Int64 → Prop} {sz : Int32} {n b : Nat} {I0 : Nat → Int32} {J0 : Nat → Int64} {cs0 cv0 tF : Nat → Int32} (N : Nat)
theorem mO_bq {x : RS} {i : Nat} {r : PPR} {k : Nat → PPR} {p1 : RS → Prop} {p2 : Nat → List Nat → RS → Prop} (h : mO N tF K St V n b I0 J0 cs0 cv0 x i r p1) (hk : ∀ y, r.1 = 0 → i < r.2.1 → p1 y → mO N tF K St V n b I0 J0 cs0 cv0 y r.2.1 (k r.2.1) (p2 (k r.2.1).2.1 (r.2.2 ++ (k r.2.1).2.2)) ∨ ((k r.2.1).1 = 0 ∧ (k r.2.1).2.1 = r.2.1 ∧ p2 (k r.2.1).2.1 (r.2.2 ++ (k r.2.1).2.2) y)) : mO N tF K St V n b I0 J0 cs0 cv0 x i (pp_bd r k) (p2 (pp_bd r k).2.1 (pp_bd r k).2.2) := by
  refine mO_bd N (p2 := p2 (pp_bd r k).2.1 (pp_bd r k).2.2) h fun y h0 hi hp => ?_
  rw [pp_bd_pos h0]; exact hk y h0 hi hp
theorem mP_nil {l i o : Nat} {A : FR → Nat → Prop} {t : FR} {fr : List FR} {P C L : List Nat} {y : RS} (hA : A t i) (h : mR K St V E nm sz n b I0 J0 cs0 cv0 1 i (fr ++ [t]) P (C ++ L) o y) : mP K St V E nm sz n b I0 J0 cs0 cv0 l A fr P C o i L y := by
  refine ⟨[], L, t, hA, List.append_nil _, fun q hq => absurd hq (List.not_mem_nil), ?_⟩
  show mR K St V E nm sz n b I0 J0 cs0 cv0 1 i (fr ++ [t]) (P ++ []) (C ++ L) o y
  rw [List.append_nil]; exact h
/-- what closes a frame sees of it -/
def mEnded (K : Nat → Int32) (k0 ba pr : Nat) (t' : FR) (i : Nat) : Prop := t'.1 = k0 ∧ t'.2.1 ≤ 2 ∧ t'.2.2.1 = 0 ∧ t'.2.2.2.1 = ba ∧ t'.2.2.2.2 = pr ∧ (t'.2.1 = 2 ∨ ¬ pp_ar (K i)) ∧ (pp_kt t'.1 = true → ¬ t'.2.1 = 0 ∧ ¬ K i = 319 ∧ ¬ K i = 318)
theorem mEnded_sum {t t' : FR} {i : Nat} (h : t' = fr_b0 t ∧ ¬ pp_ar (K i)) (ht : t.2.1 < 2) (hk : pp_kt t.1 = false) : mEnded K t.1 t.2.2.2.1 t.2.2.2.2 t' i := by
  obtain ⟨rfl, h2⟩ := h
  exact ⟨rfl, by show t.2.1 ≤ 2; omega, rfl, rfl, rfl, Or.inr h2, fun z => by rw [show pp_kt (fr_b0 t).1 = pp_kt t.1 from rfl, hk] at z; cases z⟩
theorem mEnded_test {t t' : FR} {i : Nat} (h : mAL K t t' i ∧ ¬ K i = 319 ∧ ¬ K i = 318) : mEnded K t.1 t.2.2.2.1 t.2.2.2.2 t' i := by
  obtain ⟨⟨ph, rfl, h2⟩, h3⟩ := h
  refine ⟨rfl, by show ph ≤ 2; omega, rfl, rfl, rfl, ?_, fun _ => ⟨by show ¬ ph = 0; omega, h3⟩⟩
  rcases h2 with ⟨-, z⟩ | z
  · exact Or.inr z
  · exact Or.inl z
theorem m_comma (hN : 5000 ≤ N) (hA : mAh N tF K St V E nm sz n) (hE : ∀ i, i < n → ¬ K i = -1 → ¬ K i = -2 → i + 1 < n) {l i o kd k0 pr : Nat} {fr : List FR} {P C L : List Nat} {y : RS} (hl : 1 ≤ l) (hk : (k0 = 3 ∧ kd = 4) ∨ (k0 = 6 ∧ kd = 3)) (h : mP K St V E nm sz n b I0 J0 cs0 cv0 l (mEnded K k0 P.length pr) fr P C o i L y) : mO N tF K St V n b I0 J0 cs0 cv0 y i (pp_tk K 44 i) (mR K St V E nm sz n b I0 J0 cs0 cv0 0 (pp_tk K 44 i).2.1 (fr ++ [(kd, 0, 0, P.length, pr)]) P (C ++ (L ++ (pp_tk K 44 i).2.2)) o) := by
  obtain ⟨R, L0, t', ⟨a1, a2, a3, a4, a5, a6, a7⟩, h2, h3, h4⟩ := h
  obtain ⟨I, J, fF, pF, bF, aF, oF, cs, cv, qF⟩ := y
  have hin : i < n := (mR_get h4).2.2.2.2.2.2.2.1
  unfold pp_tk
  by_cases z12 : I 12 = -1
  · obtain ⟨s1, s2⟩ := s_comma N hN hA h4 z12 (kd := kd) (by omega) a2 a6 a7 (fun q hq => Nat.le_trans hl (h3 q hq)) (Or.inl a4.symm) (fun z => hE i hin (by rw [z]; decide) (by rw [z]; decide))
    by_cases k : K i = 44
    · rw [if_pos k]
      obtain ⟨y1, g1, g2⟩ := s2 k
      refine mO_al N g1 (by omega) (by omega) ?_
      show mR K St V E nm sz n b I0 J0 cs0 cv0 0 (i + 1) _ P (C ++ (L ++ [])) o y1
      rw [List.append_nil, ← h2, ← List.append_assoc]
      rw [a3, a4, a5] at g2; exact g2
    · rw [if_neg k]
      exact mO_dd N (by decide) hin (s1 k)
  · have k := ((mR_get h4).1.2.2.2.1 z12).1
    rw [if_neg (by rw [k]; decide)]
    exact mO_dd N (by decide) hin (s_lexG N h4 z12)
theorem m_close (hN : 5000 ≤ N) (hA : mAh N tF K St V E nm sz n) (hE : ∀ i, i < n → ¬ K i = -1 → ¬ K i = -2 → i + 1 < n) {l i o k0 ba pr pc : Nat} {x : Int32} {fr : List FR} {t0 : FR} {P C L : List Nat} {y : RS} (hl : 1 ≤ l) (hk : k0 = 2 ∨ k0 = 4 ∨ k0 = 5) (hx : x = if k0 = 5 then 93 else 41) (hpc : k0 = 4 → pr = pp_so pc ∧ (pc = 20322 ∨ pc = 20323 ∨ pc = 20317)) (hba : ba = P.length) (h : mP K St V E nm sz n b I0 J0 cs0 cv0 l (mEnded K k0 ba pr) (fr ++ [t0]) P C (o + 1) i L y) : mO N tF K St V n b I0 J0 cs0 cv0 y i (pp_tk K x i) (mR K St V E nm sz n b I0 J0 cs0 cv0 1 (pp_tk K x i).2.1 (fr ++ [if k0 = 5 then (t0.1, 2, t0.2.2.1, t0.2.2.2.1, t0.2.2.2.2) else t0]) P (C ++ (L ++ (pp_tk K x i).2.2) ++ (if k0 = 4 then [pc] else [])) o) := by
  obtain ⟨R, L0, t', ⟨rfl, a2, a3, a4, a5, a6, a7⟩, h2, h3, h4⟩ := h
  obtain ⟨I, J, fF, pF, bF, aF, oF, cs, cv, qF⟩ := y
  have hin : i < n := (mR_get h4).2.2.2.2.2.2.2.1
  have hx1 : ¬ x = -1 ∧ ¬ x = -2 := by
    rw [hx]
    split <;> decide
  unfold pp_tk
  by_cases z12 : I 12 = -1
  · obtain ⟨s1, s2⟩ := s_close N hN hA h4 z12 (pc := pc) hk hx a2 a6 a7 (fun q hq => Nat.le_trans hl (h3 q hq)) (Or.inl (by omega)) (fun z => hE i hin (by rw [z]; exact hx1.1) (by rw [z]; exact hx1.2)) (fun z => by rw [a5]; exact hpc z)
    by_cases k : K i = x
    · rw [if_pos k]
      obtain ⟨y1, g1, o', go, g2⟩ := s2 k
      have : o' = o := by omega
      subst this
      refine mO_al N g1 (by omega) (by omega) ?_
      show mR K St V E nm sz n b I0 J0 cs0 cv0 1 (i + 1) _ P (C ++ (L ++ []) ++ _) o' y1
      rw [List.append_nil, ← h2, ← List.append_assoc]
      exact g2
    · rw [if_neg k]
      exact mO_dd N (by decide) hin (s1 k)
  · have k := ((mR_get h4).1.2.2.2.1 z12).1
    rw [if_neg (by rw [k]; exact fun z => hx1.2 z.symm)]
    exact mO_dd N (by decide) hin (s_lexG N h4 z12)
theorem m_two (hN : 5000 ≤ N) (hA : mAh N tF K St V E nm sz n) (hE : ∀ i, i < n → ¬ K i = -1 → ¬ K i = -2 → i + 1 < n) {S : Nat → PPR} {mm o j c : Nat} (hS : mSumN N tF K St V E nm sz n b I0 J0 cs0 cv0 5 5 mm (o + 1) (fun i => ¬ pp_ar (K i)) S) {w0 : Nat} (hc : c = pp_so (20000 + w0)) (hw : 20000 + w0 = 20322 ∨ 20000 + w0 = 20323 ∨ 20000 + w0 = 20317) {bg : Nat} (hbg : bg ≤ 1) {fr : List FR} {t0 : FR} {P C : List Nat} {y : RS} (hP : P.length + mm ≤ 65) (h : mR K St V E nm sz n b I0 J0 cs0 cv0 0 j (fr ++ [t0] ++ [(3, 0, bg, P.length, c)]) P C (o + 1) y) :
    mO N tF K St V n b I0 J0 cs0 cv0 y j (pp_two K S w0 j) (mR K St V E nm sz n b I0 J0 cs0 cv0 1 (pp_two K S w0 j).2.1 (fr ++ [t0]) P (C ++ (pp_two K S w0 j).2.2) o) := by
  unfold pp_two
  have kf : ∀ (k bg ba c : Nat) (j : Nat), k = 3 ∨ k = 4 → (pp_first (k, 0, bg, ba, c) = true → ¬ K j = 320 ∧ ¬ K j = 91 ∧ ¬ K j = 321) := by
    intro k bg ba c j hk z
    unfold pp_first pp_kt at z
    rcases hk with rfl | rfl <;> simp at z
  -- the first SUM
  have a1 := hS j (fr ++ [t0]) (3, 0, bg, P.length, c) P C y (by show 3 < 100; omega) (by show 0 < 2; omega) hbg (kf 3 bg _ c j (Or.inl rfl)) (Or.inl rfl) hP h
  have a2 := mO_bq N (k := pp_tk K 44) (p2 := fun i L z => mR K St V E nm sz n b I0 J0 cs0 cv0 0 i (fr ++ [t0] ++ [(4, 0, 0, P.length, c)]) P (C ++ L) (o + 1) z) a1 fun z h0 hi hz => Or.inl (m_comma N hN hA hE (k0 := 3) (kd := 4) (pr := c) (by omega) (Or.inl ⟨rfl, rfl⟩) (mP_mono hz (Nat.le_refl _) fun t' ht => mEnded_sum ht (by show 0 < 2; omega) rfl))
  have a3 := mO_bq N (k := S) (p2 := fun i L z => mP K St V E nm sz n b I0 J0 cs0 cv0 5 (mEnded K 4 P.length c) (fr ++ [t0]) P C (o + 1) i L z) a2 fun z h0 hi hz => Or.inl (mO_mono N (hS _ (fr ++ [t0]) (4, 0, 0, P.length, c) P _ z (by show 4 < 100; omega) (by show 0 < 2; omega) (by show 0 ≤ 1; omega) (kf 4 0 _ c _ (Or.inr rfl)) (Or.inl rfl) hP hz) fun z2 _ _ g => by
      obtain ⟨R, L0, t', g1, g2, g3, g4⟩ := g
      refine ⟨R, (pp_bd (S j) (pp_tk K 44)).2.2 ++ L0, t', mEnded_sum (t := (4, 0, 0, P.length, c)) g1 (by show 0 < 2; omega) rfl, by rw [List.append_assoc, g2], g3, ?_⟩
      rw [← List.append_assoc]; exact g4)
  have a4 := mO_bq N (k := pp_tk K 41) (p2 := fun i L z => mR K St V E nm sz n b I0 J0 cs0 cv0 1 i (fr ++ [t0]) P (C ++ L ++ [20000 + w0]) o z) a3 fun z h0 hi hz => Or.inl (m_close N hN hA hE (k0 := 4) (pr := c) (pc := 20000 + w0) (x := 41) (by omega) (Or.inr (Or.inl rfl)) rfl (fun _ => ⟨hc, hw⟩) rfl hz)
  exact mO_bq N (k := pp_em (20000 + w0)) (p2 := fun i L z => mR K St V E nm sz n b I0 J0 cs0 cv0 1 i (fr ++ [t0]) P (C ++ L) o z) a4 fun z h0 hi hz => Or.inr ⟨rfl, rfl, by
    show mR K St V E nm sz n b I0 J0 cs0 cv0 1 _ (fr ++ [t0]) P (C ++ (_ ++ [20000 + w0])) o z
    rw [← List.append_assoc]; exact hz⟩
theorem m_part (hN : 5000 ≤ N) (hA : mAh N tF K St V E nm sz n) (hE : ∀ i, i < n → ¬ K i = -1 → ¬ K i = -2 → i + 1 < n) (hV : ∀ i, i < n → K i = -3 → ∃ x, x ≤ 9999 ∧ V i = nI x) {lw : Nat} (hlw : I0 32 = nI lw) (hl3 : lw < 3) {ok : Nat → Bool} (hok0 : ok 10000 = false) (hvs : ∀ k : Int32, ¬ k = -3 → (ok (10000 + k.toNatClampNeg) = true → ∃ s, s ≤ 8 ∧ ¬ s = 0 ∧ pp_vs lw k = nI s ∧ ∀ v, pm_rel (10000 + k.toNatClampNeg) s v) ∧ (¬ ok (10000 + k.toNatClampNeg) = true → pp_vs lw k = -1)) {S T : Nat → PPR} {o d : Nat} (hod : o + d = 8) (hS : 2 ≤ d → mSumN N tF K St V E nm sz n b I0 J0 cs0 cv0 5 5 (6 * d + 1) (o + 1) (fun i => ¬ pp_ar (K i)) S) (hT : 2 ≤ d → mTestN N tF K St V E nm sz n b I0 J0 cs0 cv0 1 1 (6 * d + 5) (o + 1) (fun i => ¬ K i = 319 ∧ ¬ K i = 318) T) : mSumN N tF K St V E nm sz n b I0 J0 cs0 cv0 7 7 (6 * d + 5) o (fun _ => True) (pp_part K V ok S T d) := by
  intro i fr t P C x ht1 ht2 ht3 hf htop hP h
  obtain ⟨I, J, fF, pF, bF, aF, oF, cs, cv, qF⟩ := x
  have hin : i < n := (mR_get h).2.2.2.2.2.2.2.1
  have ho7 : o ≤ 7 := (mR_get h).2.2.2.2.2.2.2.2.2.2.2.1
  have nxt : ∀ c : Int32, ¬ c = -1 → ¬ c = -2 → K i = c → i + 1 < n := fun c c1 c2 z => hE i hin (by rw [z]; exact c1) (by rw [z]; exact c2)
  unfold pp_part
  by_cases k1 : K i = -3
  · rw [if_pos k1]
    obtain ⟨x9, hx9, hxv⟩ := hV i hin k1
    have z12 := m_tk12 h (by rw [k1]; decide)
    obtain ⟨y1, g1, g2⟩ := s_var N hA hlw hl3 (c := x9) (s := 0) h z12 ht1 ht3 (fun _ => by rw [k1]; decide) (by rw [k1]; decide) (by rw [k1]; decide) (by rw [k1]; decide) (by rw [k1]; decide) (by rw [k1]; unfold pp_vs; rw [if_pos rfl]; rfl) (by decide) ⟨x9, fun _ => ((((mR_get h).1.2.2.2.2 z12).2.2.2.2.1) k1).trans hxv, Or.inl ⟨hx9, rfl, rfl⟩⟩ (nxt _ (by decide) (by decide) k1)
    refine mO_al N g1 (by omega) (by omega) (mP_nil ⟨rfl, trivial⟩ ?_)
    rw [hxv, nI_clamp (by omega)]; exact g2
  rw [if_neg k1]
  by_cases k2 : K i = 40
  · rw [if_pos k2]
    have z12 := m_tk12 h (by rw [k2]; decide)
    obtain ⟨s1, s2⟩ := s_par N hA h z12 ht1 ht3 k2 (nxt _ (by decide) (by decide) k2)
    unfold pp_in
    by_cases hd : d ≤ 1
    · rw [if_pos hd]
      exact mO_dd N (by decide) hin (s1 (by omega))
    · rw [if_neg hd]
      obtain ⟨y1, g1, g2⟩ := s2 (by omega)
      refine mO_step N g1 (j := i + 1) (by omega) ?_
      have a1 := hS (by omega) (i + 1) (fr ++ [fr_b0 t]) (2, 0, 1, P.length, 0) P C y1 (by show 2 < 100; omega) (by show 0 < 2; omega) (by show 1 ≤ 1; omega) (fun z => by unfold pp_first pp_kt at z; simp at z) (Or.inl rfl) (by omega) g2
      have a2 := mO_bq N (k := pp_tk K 41) (p2 := fun i L z => mR K St V E nm sz n b I0 J0 cs0 cv0 1 i (fr ++ [fr_b0 t]) P (C ++ L) o z) a1 fun z h0 hi hz => Or.inl (mO_mono N (m_close N hN hA hE (k0 := 2) (ba := P.length) (pr := 0) (pc := 0) (x := 41) (by omega) (Or.inl rfl) rfl (fun z => absurd z (by decide)) rfl (mP_mono hz (Nat.le_refl _) fun t' ht => mEnded_sum ht (by show 0 < 2; omega) rfl)) fun z2 _ _ g => by
          have g : mR K St V E nm sz n b I0 J0 cs0 cv0 1 _ (fr ++ [fr_b0 t]) P (C ++ (_ ++ _) ++ []) o z2 := g
          rw [List.append_nil] at g; exact g)
      exact mO_mono N a2 fun z _ _ g => mP_nil ⟨rfl, trivial⟩ g
  rw [if_neg k2]
  by_cases k3 : K i = 317 ∨ K i = 322 ∨ K i = 323
  · rw [if_pos k3]
    have hne : ¬ K i = -1 ∧ ¬ K i = -2 := by rcases k3 with z | z | z <;> (rw [z]; decide)
    have z12 := m_tk12 h hne.2
    have hi1 := hE i hin hne.1 hne.2
    have hw : (20000 + pp_kn K i = 20322 ∨ 20000 + pp_kn K i = 20323 ∨ 20000 + pp_kn K i = 20317) := by
      rcases k3 with z | z | z
      · have := pp_kn_eq (c := 317) z (by decide); omega
      · have := pp_kn_eq (c := 322) z (by decide); omega
      · have := pp_kn_eq (c := 323) z (by decide); omega
    have hkk : ∃ c kd, c = pp_so (20000 + pp_kn K i) ∧ ((K i = 317 ∧ c = 44 ∧ kd = 6) ∨ (K i = 322 ∧ c = 36 ∧ kd = 3) ∨ (K i = 323 ∧ c = 37 ∧ kd = 3)) := by
      rcases k3 with z | z | z
      · exact ⟨44, 6, by rw [pp_kn_eq (c := 317) z (by decide)]; rfl, Or.inl ⟨z, rfl, rfl⟩⟩
      · exact ⟨36, 3, by rw [pp_kn_eq (c := 322) z (by decide)]; rfl, Or.inr (Or.inl ⟨z, rfl, rfl⟩)⟩
      · exact ⟨37, 3, by rw [pp_kn_eq (c := 323) z (by decide)]; rfl, Or.inr (Or.inr ⟨z, rfl, rfl⟩)⟩
    obtain ⟨c, kd, hc, hk⟩ := hkk
    obtain ⟨s1, s2⟩ := s_fun N hA h z12 ht1 ht3 hk hi1 hE
    unfold pp_call
    by_cases k4 : K (i + 1) = 40
    · rw [if_pos k4]
      obtain ⟨s3, s4⟩ := s2 k4
      by_cases hd : d ≤ 1
      · have e : pp_in d (i + 1) = (5, i + 1, []) := by unfold pp_in; rw [if_pos hd]
        have e2 : ∀ k : Nat → PPR, pp_bd (5, i + 1, []) k = (5, i + 1, []) := fun k => pp_bd_neg (by show ¬ (5 : Nat) = 0; decide)
        rw [e, e2, e2, e2, ite_self]
        exact mO_dd N (by decide) hin (s3 (by omega))
      · have e : pp_in d (i + 1) = (0, i + 1 + 1, []) := by unfold pp_in; rw [if_neg hd]
        obtain ⟨y1, g1, g2⟩ := s4 (by omega)
        rw [e]
        refine mO_step N g1 (j := i + 1 + 1) (by omega) ?_
        by_cases k5 : K i = 317
        · rw [if_pos k5]
          have hkd : kd = 6 := by
            rcases hk with ⟨-, -, z⟩ | ⟨z, -, -⟩ | ⟨z, -, -⟩
            · exact z
            · rw [k5] at z; exact absurd z (by decide)
            · rw [k5] at z; exact absurd z (by decide)
          subst hkd
          have a1 := hT (by omega) (i + 2) (fr ++ [fr_b0 t]) (6, 0, 1, P.length, c) P C y1 (by show 6 < 100; omega) rfl rfl rfl (Or.inl rfl) (by omega) g2
          have a2 := mO_bq N (k := pp_tk K 44) (p2 := fun i L z => mR K St V E nm sz n b I0 J0 cs0 cv0 0 i (fr ++ [fr_b0 t] ++ [(3, 0, 0, P.length, c)]) P (C ++ L) (o + 1) z) a1 fun z h0 hi hz => Or.inl (m_comma N hN hA hE (k0 := 6) (kd := 3) (pr := c) (by omega) (Or.inr ⟨rfl, rfl⟩) (mP_mono hz (Nat.le_refl _) fun t' ht => mEnded_test ht))
          have a3 := mO_bq N (k := pp_two K S (pp_kn K i)) (p2 := fun i L z => mR K St V E nm sz n b I0 J0 cs0 cv0 1 i (fr ++ [fr_b0 t]) P (C ++ L) o z) a2 fun z h0 hi hz => Or.inl (mO_mono N (m_two N hN hA hE (hS (by omega)) hc hw (bg := 0) (by omega) (by omega) hz) fun z2 _ _ g => by rw [List.append_assoc] at g; exact g)
          exact mO_mono N a3 fun z _ _ g => mP_nil ⟨rfl, trivial⟩ g
        · rw [if_neg k5]
          have hkd : kd = 3 := by
            rcases hk with ⟨z, -, -⟩ | ⟨-, -, z⟩ | ⟨-, -, z⟩
            · exact absurd z k5
            · exact z
            · exact z
          subst hkd
          have a3 := m_two N hN hA hE (hS (by omega)) hc hw (bg := 1) (by omega) (by omega) g2
          exact mO_mono N a3 fun z _ _ g => mP_nil ⟨rfl, trivial⟩ g
    · rw [if_neg k4]
      exact mO_dd N (by decide) hin (s1 k4)
  rw [if_neg k3]
  have h322 : ¬ K i = 322 := fun z => k3 (Or.inr (Or.inl z))
  have h323 : ¬ K i = 323 := fun z => k3 (Or.inr (Or.inr z))
  have h317 : ¬ K i = 317 := fun z => k3 (Or.inl z)
  obtain ⟨v1, v2⟩ := hvs (K i) k1
  by_cases k6 : ok (10000 + pp_kn K i) = true
  · rw [if_pos k6]
    obtain ⟨s, hs8, hs0, hsv, hsr⟩ := v1 k6
    have hne : ¬ K i = -1 ∧ ¬ K i = -2 := by
      refine ⟨fun z => ?_, fun z => ?_⟩ <;> (unfold pp_kn at k6; rw [z] at k6; have k6 : ok 10000 = true := k6; rw [hok0] at k6; cases k6)
    obtain ⟨y1, g1, g2⟩ := s_var N hA hlw hl3 (c := 10000 + pp_kn K i) (s := s) h (m_tk12 h hne.2) ht1 ht3 hf k2 h322 h323 h317 hsv hs8 ⟨0, fun z => absurd z hs0, hsr 0⟩ (hE i hin hne.1 hne.2)
    exact mO_al N g1 (by omega) (by omega) (mP_nil ⟨rfl, trivial⟩ g2)
  · rw [if_neg k6]
    by_cases z12 : I 12 = -1
    · exact mO_dd N (by decide) hin (s_bad N hlw hl3 h z12 ht1 ht3 hf k2 h322 h323 h317 (v2 k6))
    · exact mO_dd N (by decide) hin (s_lexO N h z12)
theorem m_fact (hN : 5000 ≤ N) (hA : mAh N tF K St V E nm sz n) (hE : ∀ i, i < n → ¬ K i = -1 → ¬ K i = -2 → i + 1 < n) {S T F : Nat → PPR} {o d : Nat} (hod : o + d = 8) (hS : mSumN N tF K St V E nm sz n b I0 J0 cs0 cv0 5 5 (6 * d + 7) o (fun i => ¬ pp_ar (K i)) S) (hT : 2 ≤ d → mTestN N tF K St V E nm sz n b I0 J0 cs0 cv0 1 1 (6 * d + 5) (o + 1) (fun i => ¬ K i = 319 ∧ ¬ K i = 318) T) (hF : 2 ≤ d → mTestN N tF K St V E nm sz n b I0 J0 cs0 cv0 4 3 (6 * d + 2) (o + 1) (fun _ => True) F) : mTestN N tF K St V E nm sz n b I0 J0 cs0 cv0 4 3 (6 * d + 8) o (fun _ => True) (pp_fact K S T F d) := by
  intro i fr t P C x ht1 ht2 ht3 hkt htop hP h
  obtain ⟨I, J, fF, pF, bF, aF, oF, cs, cv, qF⟩ := x
  have hin : i < n := (mR_get h).2.2.2.2.2.2.2.1
  have ho7 : o ≤ 7 := (mR_get h).2.2.2.2.2.2.2.2.2.2.2.1
  have hfi : pp_first t = true := by unfold pp_first; rw [hkt, ht3]; rfl
  have nxt : ∀ c : Int32, ¬ c = -1 → ¬ c = -2 → K i = c → i + 1 < n := fun c c1 c2 z => hE i hin (by rw [z]; exact c1) (by rw [z]; exact c2)
  unfold pp_fact
  by_cases k1 : K i = 91
  · rw [if_pos k1]
    have z12 := m_tk12 h (by rw [k1]; decide)
    obtain ⟨s1, s2⟩ := s_sq N hA h z12 ht1 (by omega) hfi k1 (nxt _ (by decide) (by decide) k1)
    unfold pp_in
    by_cases hd : d ≤ 1
    · rw [if_pos hd]
      exact mO_dd N (by decide) hin (s1 (by omega))
    · rw [if_neg hd]
      obtain ⟨y1, g1, g2⟩ := s2 (by omega)
      refine mO_step N g1 (j := i + 1) (by omega) ?_
      have a1 := hT (by omega) (i + 1) (fr ++ [fr_b0 t]) (5, 0, 1, P.length, 0) P C y1 (by show 5 < 100; omega) rfl rfl rfl (Or.inl rfl) (by omega) g2
      have a2 := mO_bq N (k := pp_tk K 93) (p2 := fun i L z => mR K St V E nm sz n b I0 J0 cs0 cv0 1 i (fr ++ [(t.1, 2, 0, t.2.2.2.1, t.2.2.2.2)]) P (C ++ L) o z) a1 fun z h0 hi hz => Or.inl (mO_mono N (m_close N hN hA hE (k0 := 5) (ba := P.length) (pr := 0) (pc := 0) (x := 93) (by omega) (Or.inr (Or.inr rfl)) rfl (fun z => absurd z (by decide)) rfl (mP_mono hz (Nat.le_refl _) fun t' ht => mEnded_test ht)) fun z2 _ _ g => by
          have g : mR K St V E nm sz n b I0 J0 cs0 cv0 1 _ (fr ++ [(t.1, 2, 0, t.2.2.2.1, t.2.2.2.2)]) P (C ++ (_ ++ _) ++ []) o z2 := g
          rw [List.append_nil] at g; exact g)
      exact mO_mono N a2 fun z _ _ g => mP_nil ⟨⟨2, rfl, Or.inr rfl⟩, trivial⟩ g
  rw [if_neg k1]
  by_cases k2 : K i = 320
  · rw [if_pos k2]
    have z12 := m_tk12 h (by rw [k2]; decide)
    obtain ⟨s1, s2⟩ := s_not N hA h z12 ht1 (by omega) hfi k2 (nxt _ (by decide) (by decide) k2) (by omega)
    unfold pp_in
    by_cases hd : d ≤ 1
    · rw [if_pos hd]
      exact mO_dd N (by decide) hin (s1 (by omega))
    · rw [if_neg hd]
      obtain ⟨y1, g1, g2⟩ := s2 (by omega)
      refine mO_step N g1 (j := i + 1) (by omega) ?_
      have a1 := hF (by omega) (i + 1) fr t (P ++ [20320]) C y1 ht1 ht2 ht3 hkt (mTop_snoc (mTop_le htop) (by decide)) (by rw [List.length_append]; show P.length + 1 + (6 * d + 2) ≤ 65; omega) g2
      have a2 := mO_bq N (k := pp_em 20320) (p2 := fun i L z => mP K St V E nm sz n b I0 J0 cs0 cv0 3 (fun t' i' => mAL K t t' i' ∧ True) fr P C o i L z) a1 fun z h0 hi hz => Or.inr ⟨rfl, rfl, by
        have g := mP_em (L := []) (l' := 3) (c := 20320) (P := P) (C := C) (o := o) (Nat.le_refl _) (by decide) (by rw [List.append_nil]; exact hz)
        exact g⟩
      exact a2
  rw [if_neg k2]
  by_cases k3 : K i = 321
  · rw [if_pos k3]
    have z12 := m_tk12 h (by rw [k3]; decide)
    obtain ⟨y1, g1, g2⟩ := s_all N hA h z12 ht1 (by omega) hfi k3 (nxt _ (by decide) (by decide) k3)
    exact mO_al N g1 (by omega) (by omega) (mP_nil ⟨⟨2, rfl, Or.inr rfl⟩, trivial⟩ g2)
  rw [if_neg k3]
  have a1 := hS i fr t P C _ ht1 (by omega) (by omega) (fun _ => ⟨k2, k1, k3⟩) (mTop_mono htop (by omega)) (by omega) h
  refine mO_bq N (k := pp_cmp K S) (p2 := fun i L z => mP K St V E nm sz n b I0 J0 cs0 cv0 3 (fun t' i' => mAL K t t' i' ∧ True) fr P C o i L z) a1 fun y h0 hi hy => Or.inl ?_
  obtain ⟨R, L0, t', ⟨rfl, hna⟩, h2, h3, h4⟩ := hy
  obtain ⟨I, J, fF, pF, bF, aF, oF, cs, cv, qF⟩ := y
  have hin2 : (S i).2.1 < n := (mR_get h4).2.2.2.2.2.2.2.1
  generalize hj : (S i).2.1 = j at *
  unfold pp_cmp
  by_cases kc : K j = 60 ∨ K j = 62 ∨ K j = 61
  · rw [if_pos kc]
    have hne : ¬ K j = -1 ∧ ¬ K j = -2 := by rcases kc with z | z | z <;> (rw [z]; decide)
    have hcc : (K j = 60 ∧ 20000 + pp_kn K j = 20060) ∨ (K j = 62 ∧ 20000 + pp_kn K j = 20062) ∨ (K j = 61 ∧ 20000 + pp_kn K j = 20061) := by
      rcases kc with z | z | z
      · exact Or.inl ⟨z, by rw [pp_kn_eq (c := 60) z (by decide)]⟩
      · exact Or.inr (Or.inl ⟨z, by rw [pp_kn_eq (c := 62) z (by decide)]⟩)
      · exact Or.inr (Or.inr ⟨z, by rw [pp_kn_eq (c := 61) z (by decide)]⟩)
    have hrk : pp_rk (20000 + pp_kn K j) = 4 ∧ pp_ns [20000 + pp_kn K j] = 0 := by
      rcases hcc with ⟨-, z⟩ | ⟨-, z⟩ | ⟨-, z⟩ <;> (rw [z]; exact ⟨rfl, rfl⟩)
    obtain ⟨y1, g1, g2⟩ := s_cmp N hN hA (t := fr_b0 t) h4 (m_tk12 h4 hne.2) ht1 ht2 hkt hcc h3 (mTop_mono htop (by omega)) (hE j hin2 hne.1 hne.2) (by omega)
    rw [List.append_assoc, h2] at g2
    refine mO_step N g1 (j := j + 1) (by omega) ?_
    have b1 := hS (j + 1) fr (t.1, 1, 0, t.2.2.2.1, t.2.2.2.2) (P ++ [20000 + pp_kn K j]) (C ++ (S i).2.2) y1 ht1 (by show 1 < 2; omega) (by show 0 ≤ 1; omega) (fun z => absurd z (pp_first0 rfl)) (mTop_snoc (mTop_le htop) (by omega)) (by rw [List.length_append]; show P.length + 1 + (6 * d + 7) ≤ 65; omega) g2
    refine mO_bq N (k := pp_em (20000 + pp_kn K j)) (p2 := fun i' L z => mP K St V E nm sz n b I0 J0 cs0 cv0 3 (fun t' i' => mAL K t t' i' ∧ True) fr P C o i' ((S i).2.2 ++ L) z) b1 fun z _ _ hz => Or.inr ⟨rfl, rfl, ?_⟩
    refine mP_em (l := 5) (by omega) (by omega) ?_
    rw [hrk.2]
    exact mP_mono hz (Nat.le_refl _) fun t' ht => ⟨⟨1, ht.1, Or.inl ⟨rfl, ht.2⟩⟩, trivial⟩
  · rw [if_neg kc]
    by_cases z12 : I 12 = -1
    · exact mO_dd N (by decide) hin2 (s_noTest N (t := fr_b0 t) h4 z12 ht1 ht2 hkt hna kc)
    · exact mO_dd N (by decide) hin2 (s_lexG N h4 z12)
theorem mTestN_mono {rr l mm mm' o : Nat} {Z : Nat → Prop} {X : Nat → PPR} (h : mTestN N tF K St V E nm sz n b I0 J0 cs0 cv0 rr l mm o Z X) (hm : mm ≤ mm') : mTestN N tF K St V E nm sz n b I0 J0 cs0 cv0 rr l mm' o Z X := fun i fr t P C x a1 a2 a3 a4 a5 a6 a7 => h i fr t P C x a1 a2 a3 a4 a5 (by omega) a7
theorem m_grp (hN : 5000 ≤ N) (hA : mAh N tF K St V E nm sz n) (hE : ∀ i, i < n → ¬ K i = -1 → ¬ K i = -2 → i + 1 < n) (hn : n ≤ 1601) (hV : ∀ i, i < n → K i = -3 → ∃ x, x ≤ 9999 ∧ V i = nI x) {lw : Nat} (hlw : I0 32 = nI lw) (hl3 : lw < 3) {ok : Nat → Bool} (hok0 : ok 10000 = false) (hvs : ∀ k : Int32, ¬ k = -3 → (ok (10000 + k.toNatClampNeg) = true → ∃ s, s ≤ 8 ∧ ¬ s = 0 ∧ pp_vs lw k = nI s ∧ ∀ v, pm_rel (10000 + k.toNatClampNeg) s v) ∧ (¬ ok (10000 + k.toNatClampNeg) = true → pp_vs lw k = -1)) :
    ∀ (d o : Nat), 1 ≤ d → o + d = 9 → mSumN N tF K St V E nm sz n b I0 J0 cs0 cv0 5 5 (6 * d + 1) o (fun i => ¬ pp_ar (K i)) (pp_grp K V ok d).1 ∧ mTestN N tF K St V E nm sz n b I0 J0 cs0 cv0 1 1 (6 * d + 5) o (fun i => ¬ K i = 319 ∧ ¬ K i = 318) (pp_grp K V ok d).2.1 ∧ mTestN N tF K St V E nm sz n b I0 J0 cs0 cv0 4 3 (6 * d + 2) o (fun _ => True) (pp_grp K V ok d).2.2
  | 0, _, h, _ => absurd h (by decide)
  | d + 1, o, _, ho => by
    have ih := fun (h : 2 ≤ d) => m_grp hN hA hE hn hV hlw hl3 hok0 hvs d (o + 1) (by omega) (by omega)
    have hp := m_part N hN hA hE hV hlw hl3 hok0 hvs (S := (pp_grp K V ok d).1) (T := (pp_grp K V ok d).2.1) (o := o) (d := d) (by omega) (fun h => (ih h).1) (fun h => (ih h).2.1)
    have hs := m_sum N hN hA hE hn hp
    have hf := m_fact N hN hA hE (o := o) (d := d) (by omega) hs (fun h => (ih h).2.1) (fun h => (ih h).2.2)
    have ht := m_test N hN hA hE hn hf
    exact ⟨hs, mTestN_mono N ht (by omega), hf⟩
end
