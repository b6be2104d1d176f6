/-! the reference reads a house -/
theorem xq_ls {σ β : Type} {body : (σ → Option β) → σ → Option β} {M : Nat} {s : σ} : xq_loop body (M + 1) s = body (xq_loop body M) s := rfl
section
variable (N : Nat) {tF : Nat → Int32}
theorem m_h95 {I vo hu co ea pl mt sf fr ph be ba op cs cv pr sb pa ta ro sh ni mi rn tk hs rw_ km tl rf : Nat → Int32} {J : Nat → Int64} {en pn : Nat → Int64} {b i : Nat} (hb : b < 2) (hi : i < 3) (h31 : I 31 = nI b) (kk) : fX12_house_l95 N tF kk (I, J, vo, hu, co, ea, pl, mt, sf, fr, ph, be, ba, op, cs, cv, pr, sb, en, pn, pa, ta, ro, sh, ni, mi, rn, tk, hs, rw_, km, tl, rf, nI (3 * b + i)) = kk (I, J, vo, hu, co, ea, pl, mt, upd sf (3 * b + i) (-1), fr, ph, be, ba, op, cs, cv, pr, sb, en, pn, pa, ta, ro, sh, ni, mi, rn, tk, hs, rw_, km, tl, rf, nI (3 * b + i + 1)) := by
  dsimp only [fX12_house_l95]
  have e3 : (3 : Int32) * nI b + 3 = nI (3 * b + 3) := by
    have : b = 0 ∨ b = 1 := by omega
    rcases this with rfl | rfl <;> rfl
  rw [h31, e3, if_neg (nI_ge (by omega) (by omega)), xs_ast (by omega) (by decide), xs_bd, nI_1]
theorem m_house (hN : 5000 ≤ N) {T : PT} (hT : T.1 ≤ 1600) {K St V : Nat → Int32} {n : Nat} {I vo hu co ea pl mt sf fr ph be ba op cs cv pr sb pa ta ro sh ni mi rn tk hs rw_ km tl rf : Nat → Int32} {J : Nat → Int64} {en pn : Nat → Int64} (hM : mT T I tF) (hB : ∀ i, i < T.1 → T.2 i < 256) {b0 b : Nat} (hb0 : b0 < 2) (h13 : I 13 = nI b0) (hb : b = 1 - b0) (hx : cX n (T.1 + 1) K) (hall : lxAll T K St V n) (hn : 0 < n) (hgok : (phs K V 60 (pp_rnd K V, pg1 V, 1)).1.1 = 0 → gok (phs K V 60 (pp_rnd K V, pg1 V, 1)).2.1) (kr : Nat → Int32) :
    ∃ (I' : Nat → Int32) (J' : Nat → Int64) (sf' : Nat → Int32) (fr' : Nat → Int32) (ph' : Nat → Int32) (be' : Nat → Int32) (ba' : Nat → Int32) (op' : Nat → Int32) (cs' : Nat → Int32) (cv' : Nat → Int32) (pr' : Nat → Int32) (sb' : Nat → Int32) (pl' : Nat → Int32) (ea' : Nat → Int32) (en' : Nat → Int64) (pn' : Nat → Int64) (pa' : Nat → Int32) (ta' : Nat → Int32) (ro' : Nat → Int32) (sh' : Nat → Int32) (co' : Nat → Int32) (hu' : Nat → Int32) (vo' : Nat → Int32) (v : Int32), eqO 3 b sf sf' ∧ eqO 1600 b cs cs' ∧ eqO 1600 b cv cv' ∧ eqO 3 b sb sb' ∧ eqO 1 b pl pl' ∧ eqO 1 b ea ea' ∧ eqO 7 b en en' ∧ eqO 6 b pn pn' ∧ eqO 6 b pa pa' ∧ eqO 6 b ta ta' ∧ eqO 7 b ro ro' ∧ eqO 7 b sh sh' ∧ eqO 1 b co co' ∧ eqO 1 b hu hu' ∧ eqO 1 b vo vo' ∧ (∀ j, ¬ (mzz j ∨ j = 32 ∨ j = 1 ∨ j = 2 ∨ j = 30 ∨ j = 31) → I' j = I j) ∧ (∀ j, ¬ j = 7 → J' j = J j) ∧ I' 1 = 0 ∧ (¬ (phs K V 60 (pp_rnd K V, pg1 V, 1)).1.1 = 0 → fX12_house N I J vo hu co ea pl tF mt sf fr ph be ba op cs cv pr sb en pn pa ta ro sh ni mi rn tk hs rw_ km tl rf = some (-1, va_up (va_up I' 10 (nI (phs K V 60 (pp_rnd K V, pg1 V, 1)).1.1)) 11 (pp_pl K St V (phs K V 60 (pp_rnd K V, pg1 V, 1)).1.1 (phs K V 60 (pp_rnd K V, pg1 V, 1)).1.2.1), J', vo', hu', co', ea', pl', upd mt b v, sf', fr', ph', be', ba', op', cs', cv', pr', sb', en', pn', pa', ta', ro', sh', ni, mi, rn, tk, hs, rw_, km, tl, upd rf 1 (rf 1 + 1))) ∧ ((phs K V 60 (pp_rnd K V, pg1 V, 1)).1.1 = 0 → ∃ a0 a1 a2 a3 a4 a5 a6 a7, fX12_house N I J vo hu co ea pl tF mt sf fr ph be ba op cs cv pr sb en pn pa ta ro sh ni mi rn tk hs rw_ km tl rf = some (nI (phs K V 60 (pp_rnd K V, pg1 V, 1)).2.2, va_up (va_up (va_up (va_up (va_up (va_up I' 10 0) 11 (-1)) 13 (nI b)) 43 1) 55 0) 62 0, J', vo', hu', co', ea', pl', upd mt b v, sf', fr', ph', be', ba', op', cs', cv', pr', sb', en', pn', pa', ta', ro', sh', a0, a1, a2, a3, a4, a5, a6, a7, rf) ∧ mLay (gH (phs K V 60 (pp_rnd K V, pg1 V, 1)).2.1) 0 (gM (phs K V 60 (pp_rnd K V, pg1 V, 1)).2.1) ((phs K V 60 (pp_rnd K V, pg1 V, 1)).2.1.2.1 2) ((phs K V 60 (pp_rnd K V, pg1 V, 1)).2.1.2.1 3) 0 (m9 a0 a1 a2 a3 a4 a5 a6 a7 kr) ∧ ∃ Cd, mHs nmR (phs K V 60 (pp_rnd K V, pg1 V, 1)).2.1 b Cd I' sf' cs' cv' sb' pl' ea' en' pn' (upd mt b v) pa' ta' ro' sh' co' hu' vo' ∧ Cd.length ≤ 1600) := by
  have hb2 : b < 2 := by omega
  have htF : ∀ i, i < T.1 → tF i = nI (T.2 i) ∧ T.2 i < 256 := fun i hi => ⟨hM.2 i hi, hB i hi⟩
  have hA := lx_mAh N hN hT htF hall
  have hS := lx_mSk N hN hT htF hall
  have hE : ∀ i, i < n → ¬ K i = -1 → ¬ K i = -2 → i + 1 < n := fun i hi h1 h2 => cX_in hx hi h1 h2
  have hn1 : n ≤ 1601 := by have := hx.1; omega
  have hV := lx_hV hT hB hall
  have hV2 := lx_hV2 hT hB hall
  have h1b : 1 - I 13 = nI b := by
    rw [h13, hb]
    have : b0 = 0 ∨ b0 = 1 := by omega
    rcases this with rfl | rfl <;> rfl
  have h3b : (3 : Int32) * nI b = nI (3 * b + 0) := by
    have : b = 0 ∨ b = 1 := by omega
    rcases this with rfl | rfl <;> rfl
  have h3c : (3 : Int32) * nI b + 3 = nI (3 * b + 2 + 1) := by
    have : b = 0 ∨ b = 1 := by omega
    rcases this with rfl | rfl <;> rfl
  obtain ⟨I0, hI0⟩ : ∃ I0, I0 = va_up (va_up (va_up (va_up (va_up (va_up I 2 (I 1)) 1 0) 5 0) 8 0) 9 (-1)) 31 (nI b) := ⟨_, rfl⟩
  have i31 : I0 31 = nI b := by rw [hI0]; rfl
  have i2 : I0 2 = nI T.1 := by rw [hI0]; exact hM.1
  have i1 : I0 1 = 0 := by rw [hI0]; rfl
  have i5 : I0 5 = 0 := by rw [hI0]; rfl
  have i8 : I0 8 = 0 := by rw [hI0]; rfl
  have i9 : I0 9 = -1 := by rw [hI0]; rfl
  have iz : ∀ j, ¬ (mzz j ∨ j = 32 ∨ j = 1 ∨ j = 2 ∨ j = 30 ∨ j = 31) → I0 j = I j := fun j hj => by
    unfold mzz at hj
    rw [hI0, va_up_ne _ _ (by omega), va_up_ne _ _ (by omega), va_up_ne _ _ (by omega), va_up_ne _ _ (by omega), va_up_ne _ _ (by omega), va_up_ne _ _ (by omega)]
  obtain ⟨I1, J1, p1, p2, p3, p4⟩ := lx_first N hN hT htF hall hn (I := va_up I0 30 0) (J := J) i2 i5
  have hmA : mA K St V (fun i => nI (lxe T i)) nmR (nI T.1) 0 I1 J1 := ⟨p2, (p3 8 (by omega)).trans i8, (p3 9 (by omega)).trans i9⟩
  obtain ⟨I2, J2, v, q1, q2, q3, q4⟩ := m_rounding N hA hE hn hb2 (mt := mt) ((p3 31 (by omega)).trans i31) hmA
  have hr2 : (pp_bd (pp_tk K 300 0) (pp_num K V 5 200)).1 = 0 → (pp_bd (pp_tk K 300 0) (pp_num K V 5 200)).2.1 < n := by
    have := hr_tk (r := (0, 0, [])) hE (t := 300) (by decide) (by decide) (fun _ => hn)
    rw [pp_bd_pos rfl] at this
    exact hr_num hE this
  obtain ⟨I3, J3, s1, s2, s3⟩ := m_finishes N hA hE hS (c := 1) (by decide) hr2 q2
  have s2' : jm K St V (fun i => nI (lxe T i)) nmR (nI T.1) (pp_rnd K V) I3 J3 := by
    have e : pp_fin K 1 = pp_tk K 59 := funext fun i => by unfold pp_fin; rw [if_neg (fun z => absurd z.1 (by decide))]
    rw [e] at s2; exact s2
  have k13 := iK_t q3 s3
  have j31 : I3 31 = nI b := (k13.1 31 (by omega)).trans ((p3 31 (by omega)).trans i31)
  have j30 : I3 30 = 0 := (k13.1 30 (by omega)).trans (p3 30 (by omega))
  have hrn : (pp_rnd K V).1 = 0 → (pp_rnd K V).2.1 < n := hr_tk hE (by decide) (by decide) hr2
  have hphF : phF K (pp_rnd K V) 1 = pp_rnd K V := by unfold phF; rw [if_neg (fun z => absurd z.2.1 (by decide))]
  have hZ : mZ K St V (fun i => nI (lxe T i)) nmR (nI T.1) n b (upd mt b v) (pp_rnd K V) (pg1 V) 1 (I3, J3, upd (upd (upd sf (3 * b + 0) (-1)) (3 * b + 1) (-1)) (3 * b + 2) (-1), fr, ph, be, ba, op, cs, cv, pr, sb, upd pl b 0, upd ea b 0, en, pn, pa, ta, ro, sh, upd co b 0, upd hu b 0, upd vo b 0) := by
    refine ⟨by rw [hphF]; exact s2', fun z => ?_⟩
    rw [hphF] at z
    have h3n := hrn z
    obtain ⟨a1, -, -, a4, -, -⟩ := pp_rnd0 z
    rw [a4] at h3n
    refine ⟨hrn z, g_one hV z h3n, [], ⟨hb2, j31, j30, fun j c hj => (by cases hj), ?_, pk_us, pk_us, pk_us, pk_us, pk_us, fun e he => absurd he (Nat.not_lt_zero _), fun p hp => absurd hp (Nat.not_lt_zero _), fun w hw => Or.inl ⟨rfl, ?_, rfl⟩⟩, Nat.zero_le _⟩
    · show upd mt b v b = nI (pvN V 1)
      rw [pk_us, q4 z]
      exact (pvN_eq hV (by omega) a1).1
    · show (upd (upd (upd sf (3 * b + 0) (-1)) (3 * b + 1) (-1)) (3 * b + 2) (-1)) (3 * b + w) = -1
      have : w = 0 ∨ w = 1 ∨ w = 2 := by omega
      rcases this with rfl | rfl | rfl
      · exact (pk_un (by omega)).trans ((pk_un (by omega)).trans pk_us)
      · exact (pk_un (by omega)).trans pk_us
      · exact pk_us
  obtain ⟨⟨I', J', sf', fr', ph', be', ba', op', cs', cv', pr', sb', pl', ea', en', pn', pa', ta', ro', sh', co', hu', vo'⟩, c, l1, l2, l3, l4, l5⟩ := m_loop N (u1 := ni) (u2 := mi) (u3 := rn) (u4 := tk) (u5 := hs) (u6 := rw_) (u7 := km) (u8 := tl) (u9 := rf) hN hA hS hE hn1 hV hV2 nmR_inj 59 N (by omega) (pp_rnd K V) (pg1 V) 1 (I3, J3, upd (upd (upd sf (3 * b + 0) (-1)) (3 * b + 1) (-1)) (3 * b + 2) (-1), fr, ph, be, ba, op, cs, cv, pr, sb, upd pl b 0, upd ea b 0, en, pn, pa, ta, ro, sh, upd co b 0, upd hu b 0, upd vo b 0) (by decide) hZ
  dsimp only at l1 l4 l5
  have hh : fX12_house N I J vo hu co ea pl tF mt sf fr ph be ba op cs cv pr sb en pn pa ta ro sh ni mi rn tk hs rw_ km tl rf = fX12_house_b169 N tF (I', J', vo', hu', co', ea', pl', upd mt b v, sf', fr', ph', be', ba', op', cs', cv', pr', sb', en', pn', pa', ta', ro', sh', ni, mi, rn, tk, hs, rw_, km, tl, rf, nI c) := by
    obtain ⟨M, rfl⟩ : ∃ M, N = M + 4 := ⟨N - 4, by omega⟩
    unfold fX12_house
    rw [h1b, xs_ast hb2 (by decide), xs_bd, xs_ast hb2 (by decide), xs_bd, xs_ast hb2 (by decide), xs_bd, xs_ast hb2 (by decide), xs_bd, xs_ast hb2 (by decide), xs_bd, ← hI0, h3b]
    rw [xq_ls, m_h95 (M + 4) hb2 (by decide) i31, xq_ls, m_h95 (M + 4) hb2 (i := 1) (by decide) i31, xq_ls, m_h95 (M + 4) hb2 (i := 2) (by decide) i31, xq_ls]
    dsimp only [fX12_house_l95]
    rw [i31, h3c, if_pos (Int32.le_refl _), p1, xs_bd]
    dsimp only
    rw [q1, xs_bd]
    dsimp only
    have s1' : fX12_finishes (M + 4) I2 J2 tF 1 = some (I3, J3) := s1
    rw [s1', xs_bd]
    exact l1
  obtain ⟨m1, m2, m3, m4, m5, m6, m7, m8, m9, m10, m11, m12, m13, m14, m15⟩ := l2
  dsimp only at m1 m2 m3 m4 m5 m6 m7 m8 m9 m10 m11 m12 m13 m14 m15
  obtain ⟨n1, n2⟩ := l3
  dsimp only at n1 n2
  have z1 : ∀ j, ¬ (mzz j ∨ j = 32) → I' j = I1 j := fun j hj => (n1 j hj).trans ((iK_z k13).1 j hj)
  generalize (phs K V 60 (pp_rnd K V, pg1 V, 1)) = X at l4 l5 hgok ⊢
  refine ⟨I', J', sf', fr', ph', be', ba', op', cs', cv', pr', sb', pl', ea', en', pn', pa', ta', ro', sh', co', hu', vo', v, eqO_t (eqO_t (eqO_t (eqO_u (k := 3) (b := b) (i := 0) (f := sf) (v := -1) (by decide)) (eqO_u (k := 3) (b := b) (i := 1) (f := upd sf (3 * b + 0) (-1)) (v := -1) (by decide))) (eqO_u (k := 3) (b := b) (i := 2) (f := upd (upd sf (3 * b + 0) (-1)) (3 * b + 1) (-1)) (v := -1) (by decide))) m1, m2, m3, m4, eqO_t (eqO_1 (b := b) (f := pl) (v := 0)) m5, eqO_t (eqO_1 (b := b) (f := ea) (v := 0)) m6, m7, m8, m9, m10, m11, m12, eqO_t (eqO_1 (b := b) (f := co) (v := 0)) m13, eqO_t (eqO_1 (b := b) (f := hu) (v := 0)) m14, eqO_t (eqO_1 (b := b) (f := vo) (v := 0)) m15, fun j hj => ?_, fun j hj => ?_, ?_, fun z => ?_, fun z => ?_⟩
  · have hz : ¬ (mzz j ∨ j = 32) := fun y => hj (by rcases y with y | y; exact Or.inl y; exact Or.inr (Or.inl y))
    have hz1 : ¬ mzz j := fun y => hz (Or.inl y)
    rw [z1 j hz, p3 j (by unfold mzz at hz1; omega), va_up_ne _ _ (by omega)]
    exact iz j hj
  · rw [n2 j hj, k13.2 j hj, p4 j hj]
  · rw [z1 1 (by unfold mzz; omega), p3 1 (by omega)]; exact i1
  · have d := jm_de z l4
    have h8 := (jm_8 l4).2
    have hrf : fX12_refuses N rf 1 = some (-1, upd rf 1 (rf 1 + 1)) := m_refuses N (rF := rf) (k := 1) (by decide)
    rw [hh]
    dsimp only [fX12_house_b169]
    rw [if_neg (fun y => z (h8.mp y)), hrf, xs_bd, d.2.1, d.2.2]
  · have d := jm_al z l4
    have h8 := (jm_8 l4).2
    obtain ⟨hc, Cd, r1, r2⟩ := l5 z
    have rr := r1
    obtain ⟨-, t31, -, -, -, tv, th, -, -, -, te, tp, -⟩ := rr
    obtain ⟨a0, a1, a2, a3, a4, a5, a6, a7, w1, w2⟩ := m_begin N hN (hgok z) hb2 (I := va_up (va_up (va_up (va_up I' 10 0) 11 (-1)) 13 (nI b)) 43 1) (ni := ni) (vo := vo') (mi := mi) (rn := rn) (tk := tk) (hu := hu') (hs := hs) (ro := ro') (rw_ := rw_) (km := km) (ta := ta') (tl := tl) rfl tv th (fun e he => (te e he).2.1) (fun p hp => (tp p hp).2.2) kr
    refine ⟨a0, a1, a2, a3, a4, a5, a6, a7, ?_, w2, Cd, r1, r2⟩
    rw [hh]
    dsimp only [fX12_house_b169]
    rw [if_pos (h8.mpr z), d.2.1, d.2.2, t31, w1, xs_bd, hc]
end
