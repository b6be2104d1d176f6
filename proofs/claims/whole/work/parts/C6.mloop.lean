/-! all STATEMENTS: the reference -/
def phF (K : Nat → Int32) (r : PPR) (s : Nat) : PPR := if r.1 = 0 ∧ s = 60 ∧ ¬ K r.2.1 = -1 then (6, r.2.1, []) else r
section
variable {K St V E tF : Nat → Int32} {nm : Int32 → Int64 → Prop} {sz : Int32} {n : Nat} (N : Nat)
theorem jm_cg {r r' : PPR} {I : Nat → Int32} {J : Nat → Int64} (h : jm K St V E nm sz r I J) (h1 : r'.1 = r.1) (h2 : r'.2.1 = r.2.1) : jm K St V E nm sz r' I J := by
  unfold jm at h ⊢
  rw [h1, h2]; exact h
theorem m_tok3 {i : Nat} {I : Nat → Int32} {J : Nat → Int64} (hT : mTok K St V E nm sz i I J) : I 3 = 0 ↔ K i = -1 := by
  by_cases z : I 12 = -1
  · exact (hT.2.2.2.2 z).2.2.2.2.2.1
  · obtain ⟨k1, -, k3⟩ := hT.2.2.2.1 z
    exact ⟨fun y => absurd y k3, fun y => by rw [k1] at y; exact absurd y (by decide)⟩
theorem ph_fin {c : Nat} {rp rq : PPR} (h : rq = rp ∨ (rp.1 = 0 ∧ K rp.2.1 = -2 ∧ rq = (1, rp.2.1, []))) : (phF K (pp_bd rp (pp_tk K 59)) c).1 = (pp_bd rq (pp_fin K c)).1 ∧ (phF K (pp_bd rp (pp_tk K 59)) c).2.1 = (pp_bd rq (pp_fin K c)).2.1 := by
  rcases h with rfl | ⟨h0, hk, rfl⟩
  · by_cases h0 : rq.1 = 0
    · rw [pp_bd_pos h0, pp_bd_pos h0]
      unfold phF pp_fin
      by_cases k : K rq.2.1 = 59
      · have et : pp_tk K 59 rq.2.1 = (0, rq.2.1 + 1, []) := by unfold pp_tk; rw [if_pos k]
        rw [et]
        by_cases z : c = 60 ∧ ¬ K (rq.2.1 + 1) = -1
        · rw [if_pos ⟨rfl, z.1, z.2⟩, if_pos ⟨z.1, k, z.2⟩]; exact ⟨rfl, rfl⟩
        · rw [if_neg (fun y => z ⟨y.2.1, y.2.2⟩), if_neg (fun y => z ⟨y.1, y.2.2⟩)]; exact ⟨rfl, rfl⟩
      · have et : pp_tk K 59 rq.2.1 = (1, rq.2.1, []) := by unfold pp_tk; rw [if_neg k]
        rw [et, if_neg (fun y => absurd y.1 (show ¬ (1 : Nat) = 0 by decide)), if_neg (fun y => k y.2.1)]; exact ⟨rfl, rfl⟩
    · rw [pp_bd_neg h0, pp_bd_neg h0]
      unfold phF
      rw [if_neg (fun y => h0 y.1)]; exact ⟨rfl, rfl⟩
  · have et : pp_tk K 59 rp.2.1 = (1, rp.2.1, []) := by unfold pp_tk; rw [if_neg (by rw [hk]; decide)]
    rw [pp_bd_pos h0, et, pp_bd_neg (show ¬ ((1, rp.2.1, []) : PPR).1 = 0 from (by decide : ¬ (1 : Nat) = 0))]
    unfold phF
    rw [if_neg (fun y => absurd y.1 (show ¬ (1 : Nat) = 0 by decide))]; exact ⟨rfl, rfl⟩
theorem mX_t {b : Nat} {x y z : MT23} (h1 : mX b x y) (h2 : mX b y z) : mX b x z := by
  obtain ⟨a0, a1, a2, a3, a4, a5, a6, a7, a8, a9, a10, a11, a12, a13, a14⟩ := h1
  obtain ⟨c0, c1, c2, c3, c4, c5, c6, c7, c8, c9, c10, c11, c12, c13, c14⟩ := h2
  exact ⟨eqO_t a0 c0, eqO_t a1 c1, eqO_t a2 c2, eqO_t a3 c3, eqO_t a4 c4, eqO_t a5 c5, eqO_t a6 c6, eqO_t a7 c7, eqO_t a8 c8, eqO_t a9 c9, eqO_t a10 c10, eqO_t a11 c11, eqO_t a12 c12, eqO_t a13 c13, eqO_t a14 c14⟩
theorem mKI_t {x y z : MT23} (h1 : mKI x y) (h2 : mKI y z) : mKI x z := ⟨fun j hj => (h2.1 j hj).trans (h1.1 j hj), fun j hj => (h2.2 j hj).trans (h1.2 j hj)⟩
/-- the reference at the head of its loop -/
def mZ (K St V E : Nat → Int32) (nm : Int32 → Int64 → Prop) (sz : Int32) (n b : Nat) (mt : Nat → Int32) (r : PPR) (G : PG) (s : Nat) (y : MT23) : Prop := jm K St V E nm sz (phF K r s) y.1 y.2.1 ∧ ((phF K r s).1 = 0 → r.2.1 < n ∧ gok G ∧ ∃ Cd, mHs nm G b Cd (y.1) (y.2.2.1) (y.2.2.2.2.2.2.2.2.1) (y.2.2.2.2.2.2.2.2.2.1) (y.2.2.2.2.2.2.2.2.2.2.2.1) (y.2.2.2.2.2.2.2.2.2.2.2.2.1) (y.2.2.2.2.2.2.2.2.2.2.2.2.2.1) (y.2.2.2.2.2.2.2.2.2.2.2.2.2.2.1) (y.2.2.2.2.2.2.2.2.2.2.2.2.2.2.2.1) mt (y.2.2.2.2.2.2.2.2.2.2.2.2.2.2.2.2.1) (y.2.2.2.2.2.2.2.2.2.2.2.2.2.2.2.2.2.1) (y.2.2.2.2.2.2.2.2.2.2.2.2.2.2.2.2.2.2.1) (y.2.2.2.2.2.2.2.2.2.2.2.2.2.2.2.2.2.2.2.1) (y.2.2.2.2.2.2.2.2.2.2.2.2.2.2.2.2.2.2.2.2.1) (y.2.2.2.2.2.2.2.2.2.2.2.2.2.2.2.2.2.2.2.2.2.1) (y.2.2.2.2.2.2.2.2.2.2.2.2.2.2.2.2.2.2.2.2.2.2) ∧ Cd.length ≤ r.2.1)
theorem m_loop (hN : 5000 ≤ N) (hA : mAh N tF K St V E nm sz n) (hS : mSk N tF K St E sz n) (hE : ∀ i, i < n → ¬ K i = -1 → ¬ K i = -2 → i + 1 < n) (hn : n ≤ 1601) (hV : ∀ i, i < n → K i = -3 → ∃ x, x ≤ 9999 ∧ V i = nI x) (hV2 : ∀ i, K i = -3 → (V i).toNatClampNeg ≤ 9999) (hnm : ∀ v x v' x', nm v x → nm v' x' → (v = v' ↔ x = x')) {b : Nat} {mt u1 u2 u3 u4 u5 u6 u7 u8 u9 : Nat → Int32} :
    ∀ (m M : Nat), m < M → ∀ (r : PPR) (G : PG) (s : Nat) (x : MT23), s + m = 60 → mZ K St V E nm sz n b mt r G s x → ∃ (y : MT23) (c : Nat), xq_loop (fX12_house_l140 N tF) M (x.1, x.2.1, x.2.2.2.2.2.2.2.2.2.2.2.2.2.2.2.2.2.2.2.2.2.2, x.2.2.2.2.2.2.2.2.2.2.2.2.2.2.2.2.2.2.2.2.2.1, x.2.2.2.2.2.2.2.2.2.2.2.2.2.2.2.2.2.2.2.2.1, x.2.2.2.2.2.2.2.2.2.2.2.2.2.1, x.2.2.2.2.2.2.2.2.2.2.2.2.1, mt, x.2.2.1, x.2.2.2.1, x.2.2.2.2.1, x.2.2.2.2.2.1, x.2.2.2.2.2.2.1, x.2.2.2.2.2.2.2.1, x.2.2.2.2.2.2.2.2.1, x.2.2.2.2.2.2.2.2.2.1, x.2.2.2.2.2.2.2.2.2.2.1, x.2.2.2.2.2.2.2.2.2.2.2.1, x.2.2.2.2.2.2.2.2.2.2.2.2.2.2.1, x.2.2.2.2.2.2.2.2.2.2.2.2.2.2.2.1, x.2.2.2.2.2.2.2.2.2.2.2.2.2.2.2.2.1, x.2.2.2.2.2.2.2.2.2.2.2.2.2.2.2.2.2.1, x.2.2.2.2.2.2.2.2.2.2.2.2.2.2.2.2.2.2.1, x.2.2.2.2.2.2.2.2.2.2.2.2.2.2.2.2.2.2.2.1, u1, u2, u3, u4, u5, u6, u7, u8, u9, nI s) = fX12_house_b169 N tF (y.1, y.2.1, y.2.2.2.2.2.2.2.2.2.2.2.2.2.2.2.2.2.2.2.2.2.2, y.2.2.2.2.2.2.2.2.2.2.2.2.2.2.2.2.2.2.2.2.2.1, y.2.2.2.2.2.2.2.2.2.2.2.2.2.2.2.2.2.2.2.2.1, y.2.2.2.2.2.2.2.2.2.2.2.2.2.1, y.2.2.2.2.2.2.2.2.2.2.2.2.1, mt, y.2.2.1, y.2.2.2.1, y.2.2.2.2.1, y.2.2.2.2.2.1, y.2.2.2.2.2.2.1, y.2.2.2.2.2.2.2.1, y.2.2.2.2.2.2.2.2.1, y.2.2.2.2.2.2.2.2.2.1, y.2.2.2.2.2.2.2.2.2.2.1, y.2.2.2.2.2.2.2.2.2.2.2.1, y.2.2.2.2.2.2.2.2.2.2.2.2.2.2.1, y.2.2.2.2.2.2.2.2.2.2.2.2.2.2.2.1, y.2.2.2.2.2.2.2.2.2.2.2.2.2.2.2.2.1, y.2.2.2.2.2.2.2.2.2.2.2.2.2.2.2.2.2.1, y.2.2.2.2.2.2.2.2.2.2.2.2.2.2.2.2.2.2.1, y.2.2.2.2.2.2.2.2.2.2.2.2.2.2.2.2.2.2.2.1, u1, u2, u3, u4, u5, u6, u7, u8, u9, nI c) ∧ mX b x y ∧ mKI x y ∧ jm K St V E nm sz (phs K V (m + 1) (r, G, s)).1 y.1 y.2.1 ∧ ((phs K V (m + 1) (r, G, s)).1.1 = 0 → c = (phs K V (m + 1) (r, G, s)).2.2 ∧ ∃ Cd, mHs nm (phs K V (m + 1) (r, G, s)).2.1 b Cd (y.1) (y.2.2.1) (y.2.2.2.2.2.2.2.2.1) (y.2.2.2.2.2.2.2.2.2.1) (y.2.2.2.2.2.2.2.2.2.2.2.1) (y.2.2.2.2.2.2.2.2.2.2.2.2.1) (y.2.2.2.2.2.2.2.2.2.2.2.2.2.1) (y.2.2.2.2.2.2.2.2.2.2.2.2.2.2.1) (y.2.2.2.2.2.2.2.2.2.2.2.2.2.2.2.1) mt (y.2.2.2.2.2.2.2.2.2.2.2.2.2.2.2.2.1) (y.2.2.2.2.2.2.2.2.2.2.2.2.2.2.2.2.2.1) (y.2.2.2.2.2.2.2.2.2.2.2.2.2.2.2.2.2.2.1) (y.2.2.2.2.2.2.2.2.2.2.2.2.2.2.2.2.2.2.2.1) (y.2.2.2.2.2.2.2.2.2.2.2.2.2.2.2.2.2.2.2.2.1) (y.2.2.2.2.2.2.2.2.2.2.2.2.2.2.2.2.2.2.2.2.2.1) (y.2.2.2.2.2.2.2.2.2.2.2.2.2.2.2.2.2.2.2.2.2.2) ∧ Cd.length ≤ 1600)
  | _, 0, hM => absurd hM (Nat.not_lt_zero _)
  | m, M + 1, hM => by
    intro r G s x hs h
    obtain ⟨I, J, sf, fr, ph, be, ba, op, cs, cv, pr, sb, pl, ea, en, pn, pa, ta, ro, sh, co, hu, vo⟩ := x
    obtain ⟨h1, h2⟩ := h
    have h1 : jm K St V E nm sz (phF K r s) I J := h1
    have h88 := jm_8 h1
    show ∃ (y : MT23) (c : Nat), fX12_house_l140 N tF (xq_loop (fX12_house_l140 N tF) M) (I, J, vo, hu, co, ea, pl, mt, sf, fr, ph, be, ba, op, cs, cv, pr, sb, en, pn, pa, ta, ro, sh, u1, u2, u3, u4, u5, u6, u7, u8, u9, nI s) = _ ∧ _
    dsimp only [fX12_house_l140]
    have refl1 : mX b (I, J, sf, fr, ph, be, ba, op, cs, cv, pr, sb, pl, ea, en, pn, pa, ta, ro, sh, co, hu, vo) (I, J, sf, fr, ph, be, ba, op, cs, cv, pr, sb, pl, ea, en, pn, pa, ta, ro, sh, co, hu, vo) := ⟨eqO_r 3 b sf, eqO_r 1600 b cs, eqO_r 1600 b cv, eqO_r 3 b sb, eqO_r 1 b pl, eqO_r 1 b ea, eqO_r 7 b en, eqO_r 6 b pn, eqO_r 6 b pa, eqO_r 6 b ta, eqO_r 7 b ro, eqO_r 7 b sh, eqO_r 1 b co, eqO_r 1 b hu, eqO_r 1 b vo⟩
    have refl2 : mKI (I, J, sf, fr, ph, be, ba, op, cs, cv, pr, sb, pl, ea, en, pn, pa, ta, ro, sh, co, hu, vo) (I, J, sf, fr, ph, be, ba, op, cs, cv, pr, sb, pl, ea, en, pn, pa, ta, ro, sh, co, hu, vo) := ⟨fun _ _ => rfl, fun _ _ => rfl⟩
    by_cases h0 : (phF K r s).1 = 0
    · have hno : ¬ (r.1 = 0 ∧ s = 60 ∧ ¬ K r.2.1 = -1) := fun z => by
        have e : phF K r s = (6, r.2.1, []) := by unfold phF; rw [if_pos z]
        rw [e] at h0; cases h0
      have er : phF K r s = r := by unfold phF; rw [if_neg hno]
      rw [er] at h0 h1
      obtain ⟨hlt, hg, Cd, hG, hCd⟩ := h2 (by rw [er]; exact h0)
      have hm := jm_al h0 h1
      rw [if_pos hm.2.1]
      by_cases k : K r.2.1 = -1
      · have e : phs K V (m + 1) (r, G, s) = (r, G, s) := by unfold phs; rw [if_neg (fun z => z.2 k)]
        rw [if_pos ((m_tok3 hm.1).mpr k), e]
        exact ⟨(I, J, sf, fr, ph, be, ba, op, cs, cv, pr, sb, pl, ea, en, pn, pa, ta, ro, sh, co, hu, vo), s, rfl, refl1, refl2, h1, fun _ => ⟨rfl, Cd, hG, by omega⟩⟩
      · have s60 : ¬ s = 60 := fun z => hno ⟨h0, z, k⟩
        rw [if_neg (fun z => k ((m_tok3 hm.1).mp z))]
        obtain ⟨y, e1, e2, e3, ⟨rq, e4, e5, e6⟩, e7⟩ := m_stmt N hN hA hE hn hV hnm hg (i := r.2.1) hlt hm hG hCd (fr := fr) (ph := ph) (be := be) (ba := ba) (op := op) (pr := pr)
        obtain ⟨I2, J2, sf2, fr2, ph2, be2, ba2, op2, cs2, cv2, pr2, sb2, pl2, ea2, en2, pn2, pa2, ta2, ro2, sh2, co2, hu2, vo2⟩ := y
        obtain ⟨I3, J3, f1, f2, f3⟩ := m_finishes N hA hE hS (c := s + 1) (by omega) e5 e4
        have e : phs K V (m + 1) (r, G, s) = phs K V m (pp_bd (pst K V G r.2.1).1 (pp_tk K 59), (pst K V G r.2.1).2, s + 1) := by
          show (if r.1 = 0 ∧ ¬ K r.2.1 = -1 then (if s = 60 then ((6, r.2.1, []), G, s) else phs K V m (pp_bd (pst K V G r.2.1).1 (pp_tk K 59), (pst K V G r.2.1).2, s + 1)) else (r, G, s)) = _
          rw [if_pos ⟨h0, k⟩, if_neg s60]
        obtain ⟨m', rfl⟩ : ∃ m', m = m' + 1 := ⟨m - 1, by omega⟩
        rw [e1, xs_bd]
        dsimp only
        have f1 : fX12_finishes N I2 J2 tF (nI (s + 1)) = some (I3, J3) := f1
        rw [nI_1, f1, xs_bd]
        dsimp only
        have hph := ph_fin (K := K) (c := s + 1) e6
        have hz : mZ K St V E nm sz n b mt (pp_bd (pst K V G r.2.1).1 (pp_tk K 59)) (pst K V G r.2.1).2 (s + 1) (I3, J3, sf2, fr2, ph2, be2, ba2, op2, cs2, cv2, pr2, sb2, pl2, ea2, en2, pn2, pa2, ta2, ro2, sh2, co2, hu2, vo2) := by
          refine ⟨jm_cg f2 hph.1 hph.2, fun z => ?_⟩
          have z1 : (pp_bd (pst K V G r.2.1).1 (pp_tk K 59)).1 = 0 := by
            unfold phF at z
            split at z
            · cases z
            · exact z
          obtain ⟨z2, z3, z4⟩ := pp_bd0 z1
          obtain ⟨t1, t2⟩ := pp_tk0 z3
          have hne : ¬ K (pst K V G r.2.1).1.2.1 = -2 := by rw [t1]; decide
          have hrq : rq = (pst K V G r.2.1).1 := by
            rcases e6 with y | ⟨-, y, -⟩
            · exact y
            · exact absurd y hne
          have hlt2 : (pst K V G r.2.1).1.2.1 < n := by rw [← hrq]; exact e5 (by rw [hrq]; exact z2)
          obtain ⟨Cd', k1, k2⟩ := e7 z2 hne
          have ei : (pp_bd (pst K V G r.2.1).1 (pp_tk K 59)).2.1 = (pst K V G r.2.1).1.2.1 + 1 := by rw [z4]; show (pp_tk K 59 (pst K V G r.2.1).1.2.1).2.1 = _; rw [t2]
          rw [ei]
          exact ⟨hE _ hlt2 (by rw [t1]; decide) hne, g_stmt hV hV2 hg z2 hlt2, Cd', mHs_i k1 (f3.1 31 (by omega)) (f3.1 30 (by omega)), by omega⟩
        obtain ⟨y', c', g1, g2, g3, g4, g5⟩ := m_loop hN hA hS hE hn hV hV2 hnm m' M (by omega) _ _ (s + 1) (I3, J3, sf2, fr2, ph2, be2, ba2, op2, cs2, cv2, pr2, sb2, pl2, ea2, en2, pn2, pa2, ta2, ro2, sh2, co2, hu2, vo2) (by omega) hz
        refine ⟨y', c', g1, mX_t e2 ?_, mKI_t e3 (mKI_t (iK_z f3 : mKI (I2, J2, sf2, fr2, ph2, be2, ba2, op2, cs2, cv2, pr2, sb2, pl2, ea2, en2, pn2, pa2, ta2, ro2, sh2, co2, hu2, vo2) (I3, J3, sf2, fr2, ph2, be2, ba2, op2, cs2, cv2, pr2, sb2, pl2, ea2, en2, pn2, pa2, ta2, ro2, sh2, co2, hu2, vo2)) g3), by rw [e]; exact g4, by rw [e]; exact g5⟩
        exact g2
    · rw [if_neg (fun z => h0 (h88.1.mp z))]
      have e : (phs K V (m + 1) (r, G, s)).1 = phF K r s := by
        show (if r.1 = 0 ∧ ¬ K r.2.1 = -1 then (if s = 60 then ((6, r.2.1, []), G, s) else phs K V m (pp_bd (pst K V G r.2.1).1 (pp_tk K 59), (pst K V G r.2.1).2, s + 1)) else (r, G, s)).1 = _
        unfold phF at h0 ⊢
        by_cases z : r.1 = 0 ∧ s = 60 ∧ ¬ K r.2.1 = -1
        · rw [if_pos z, if_pos ⟨z.1, z.2.2⟩, if_pos z.2.1]
        · rw [if_neg z] at h0 ⊢
          rw [if_neg (fun y => h0 y.1)]
      rw [e]
      exact ⟨(I, J, sf, fr, ph, be, ba, op, cs, cv, pr, sb, pl, ea, en, pn, pa, ta, ro, sh, co, hu, vo), s, rfl, refl1, refl2, h1, fun z => absurd z h0⟩
end
