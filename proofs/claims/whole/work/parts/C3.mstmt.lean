/-! the reference reads a STATEMENT -/
def eqO {α : Type} (k b : Nat) (f g : Nat → α) : Prop := ∀ j, (j < k * b ∨ k * b + k ≤ j) → g j = f j
theorem eqO_r {α : Type} (k b : Nat) (f : Nat → α) : eqO k b f f := fun _ _ => rfl
theorem eqO_t {α : Type} {k b : Nat} {f g h : Nat → α} (h1 : eqO k b f g) (h2 : eqO k b g h) : eqO k b f h := fun j hj => (h2 j hj).trans (h1 j hj)
theorem eqO_u {k b i : Nat} {f : Nat → Int32} {v : Int32} (hi : i < k) : eqO k b f (upd f (k * b + i) v) := fun j hj => if_neg (by omega)
theorem eqO_1 {b : Nat} {f : Nat → Int32} {v : Int32} : eqO 1 b f (upd f b v) := fun j hj => if_neg (by omega)
theorem eqO_L {k b i : Nat} {f : Nat → Int64} {v : Int64} (hi : i < k) : eqO k b f (vp_updL f (k * b + i) v) := fun j hj => if_neg (by omega)
def pDf (w : Nat) : List Nat := if w = 0 then [1] else if w = 1 then [10316, 10, 20060] else [10309]
def mRul (b w : Nat) (told : Bool) (L : List Nat) (sf sb : Nat → Int32) (Cd : List Nat) : Prop := (told = false ∧ sf (3 * b + w) = -1 ∧ L = pDf w) ∨ (told = true ∧ ∃ f, sf (3 * b + w) = nI f ∧ sb (3 * b + w) = nI (f + L.length) ∧ f + L.length ≤ Cd.length ∧ ∀ j c, L[j]? = some c → Cd[f + j]? = some c)
def mHs (nm : Int32 → Int64 → Prop) (G : PG) (b : Nat) (Cd : List Nat) (I sf cs cv sb pl ea : Nat → Int32) (en pn : Nat → Int64) (mt pa ta ro sh co hu vo : Nat → Int32) : Prop :=
  b < 2 ∧ I 31 = nI b ∧ I 30 = nI Cd.length ∧ mCd b Cd cs cv ∧ mt b = nI (G.1 0) ∧ vo b = nI (G.1 4) ∧ hu b = nI (G.1 5) ∧ co b = nI (G.1 3) ∧ ea b = nI (G.1 1) ∧ pl b = nI (G.1 2) ∧ (∀ e, e < G.1 1 → nm (G.2.2.1 0 e) (en (7 * b + e)) ∧ ro (7 * b + e) = nI (G.2.1 2 e) ∧ sh (7 * b + e) = nI (G.2.1 1 e)) ∧ (∀ p, p < G.1 2 → nm (G.2.2.1 1 p) (pn (6 * b + p)) ∧ pa (6 * b + p) = nI (G.2.1 0 p) ∧ ta (6 * b + p) = nI (G.2.1 3 p)) ∧ ∀ w, w < 3 → mRul b w (G.2.2.2.2 w) (G.2.2.2.1 w) sf sb Cd
theorem mHs_i {nm : Int32 → Int64 → Prop} {G : PG} {b : Nat} {Cd : List Nat} {I I' sf cs cv sb pl ea : Nat → Int32} {en pn : Nat → Int64} {mt pa ta ro sh co hu vo : Nat → Int32} (h : mHs nm G b Cd I sf cs cv sb pl ea en pn mt pa ta ro sh co hu vo) (h31 : I' 31 = I 31) (h30 : I' 30 = I 30) : mHs nm G b Cd I' sf cs cv sb pl ea en pn mt pa ta ro sh co hu vo := ⟨h.1, h31.trans h.2.1, h30.trans h.2.2.1, h.2.2.2⟩
theorem nmG_m {nm : Int32 → Int64 → Prop} (hnm : ∀ v x v' x', nm v x → nm v' x' → (v = v' ↔ x = x')) {G : PG} {b : Nat} {Cd : List Nat} {I sf cs cv sb pl ea : Nat → Int32} {en pn : Nat → Int64} {mt pa ta ro sh co hu vo : Nat → Int32} (h : mHs nm G b Cd I sf cs cv sb pl ea en pn mt pa ta ro sh co hu vo) {v : Int32} {x : Int64} (hx : nm v x) : nmG G v = nmHasM b (G.1 1) (G.1 2) en pn x := by
  obtain ⟨-, -, -, -, -, -, -, -, -, -, h1, h2, -⟩ := h
  unfold nmG nmHasM
  congr 1
  apply propext
  constructor
  · rintro (⟨e, he, z⟩ | ⟨p, hp, z⟩)
    · exact Or.inl ⟨e, he, (hnm _ _ _ _ (h1 e he).1 hx).mp z⟩
    · exact Or.inr ⟨p, hp, (hnm _ _ _ _ (h2 p hp).1 hx).mp z⟩
  · rintro (⟨e, he, z⟩ | ⟨p, hp, z⟩)
    · exact Or.inl ⟨e, he, (hnm _ _ _ _ (h1 e he).1 hx).mpr z⟩
    · exact Or.inr ⟨p, hp, (hnm _ _ _ _ (h2 p hp).1 hx).mpr z⟩
theorem plG_m {nm : Int32 → Int64 → Prop} {G : PG} {b : Nat} {Cd : List Nat} {I sf cs cv sb pl ea : Nat → Int32} {en pn : Nat → Int64} {mt pa ta ro sh co hu vo : Nat → Int32} (h : mHs nm G b Cd I sf cs cv sb pl ea en pn mt pa ta ro sh co hu vo) (v : Int32) : plHasM b (G.1 2) pa v = plG G v := by
  obtain ⟨-, -, -, -, -, -, -, -, -, -, h1, h2, -⟩ := h
  unfold plG plHasM
  congr 1
  apply propext
  constructor
  · rintro ⟨p, hp, z⟩
    exact ⟨p, hp, (h2 p hp).2.1.symm.trans z⟩
  · rintro ⟨p, hp, z⟩
    exact ⟨p, hp, (h2 p hp).2.1.trans z⟩
abbrev MT23 := (Nat → Int32) × (Nat → Int64) × (Nat → Int32) × (Nat → Int32) × (Nat → Int32) × (Nat → Int32) × (Nat → Int32) × (Nat → Int32) × (Nat → Int32) × (Nat → Int32) × (Nat → Int32) × (Nat → Int32) × (Nat → Int32) × (Nat → Int32) × (Nat → Int64) × (Nat → Int64) × (Nat → Int32) × (Nat → Int32) × (Nat → Int32) × (Nat → Int32) × (Nat → Int32) × (Nat → Int32) × (Nat → Int32)
def mX (b : Nat) (x y : MT23) : Prop := eqO 3 b (x.2.2.1) (y.2.2.1) ∧ eqO 1600 b (x.2.2.2.2.2.2.2.2.1) (y.2.2.2.2.2.2.2.2.1) ∧ eqO 1600 b (x.2.2.2.2.2.2.2.2.2.1) (y.2.2.2.2.2.2.2.2.2.1) ∧ eqO 3 b (x.2.2.2.2.2.2.2.2.2.2.2.1) (y.2.2.2.2.2.2.2.2.2.2.2.1) ∧ eqO 1 b (x.2.2.2.2.2.2.2.2.2.2.2.2.1) (y.2.2.2.2.2.2.2.2.2.2.2.2.1) ∧ eqO 1 b (x.2.2.2.2.2.2.2.2.2.2.2.2.2.1) (y.2.2.2.2.2.2.2.2.2.2.2.2.2.1) ∧ eqO 7 b (x.2.2.2.2.2.2.2.2.2.2.2.2.2.2.1) (y.2.2.2.2.2.2.2.2.2.2.2.2.2.2.1) ∧ eqO 6 b (x.2.2.2.2.2.2.2.2.2.2.2.2.2.2.2.1) (y.2.2.2.2.2.2.2.2.2.2.2.2.2.2.2.1) ∧ eqO 6 b (x.2.2.2.2.2.2.2.2.2.2.2.2.2.2.2.2.1) (y.2.2.2.2.2.2.2.2.2.2.2.2.2.2.2.2.1) ∧ eqO 6 b (x.2.2.2.2.2.2.2.2.2.2.2.2.2.2.2.2.2.1) (y.2.2.2.2.2.2.2.2.2.2.2.2.2.2.2.2.2.1) ∧ eqO 7 b (x.2.2.2.2.2.2.2.2.2.2.2.2.2.2.2.2.2.2.1) (y.2.2.2.2.2.2.2.2.2.2.2.2.2.2.2.2.2.2.1) ∧ eqO 7 b (x.2.2.2.2.2.2.2.2.2.2.2.2.2.2.2.2.2.2.2.1) (y.2.2.2.2.2.2.2.2.2.2.2.2.2.2.2.2.2.2.2.1) ∧ eqO 1 b (x.2.2.2.2.2.2.2.2.2.2.2.2.2.2.2.2.2.2.2.2.1) (y.2.2.2.2.2.2.2.2.2.2.2.2.2.2.2.2.2.2.2.2.1) ∧ eqO 1 b (x.2.2.2.2.2.2.2.2.2.2.2.2.2.2.2.2.2.2.2.2.2.1) (y.2.2.2.2.2.2.2.2.2.2.2.2.2.2.2.2.2.2.2.2.2.1) ∧ eqO 1 b (x.2.2.2.2.2.2.2.2.2.2.2.2.2.2.2.2.2.2.2.2.2.2) (y.2.2.2.2.2.2.2.2.2.2.2.2.2.2.2.2.2.2.2.2.2.2)
def mKI (x y : MT23) : Prop := (∀ j, ¬ (mzz j ∨ j = 32) → y.1 j = x.1 j) ∧ ∀ j, ¬ j = 7 → y.2.1 j = x.2.1 j
theorem iK_z {I I' : Nat → Int32} {J J' : Nat → Int64} (h : iK I J I' J') : (∀ j, ¬ (mzz j ∨ j = 32) → I' j = I j) ∧ ∀ j, ¬ j = 7 → J' j = J j := ⟨fun j hj => h.1 j (fun z => hj (Or.inl (by unfold mzz; omega))), h.2⟩
section
variable {K St V E tF : Nat → Int32} {nm : Int32 → Int64 → Prop} {sz : Int32} {n : Nat} (N : Nat)
theorem hr_tk (hE : ∀ i, i < n → ¬ K i = -1 → ¬ K i = -2 → i + 1 < n) {r : PPR} {t : Int32} (h1 : ¬ t = -1) (h2 : ¬ t = -2) (h : r.1 = 0 → r.2.1 < n) : (pp_bd r (pp_tk K t)).1 = 0 → (pp_bd r (pp_tk K t)).2.1 < n := by
  intro z
  obtain ⟨z1, z2, z3⟩ := pp_bd0 z
  obtain ⟨k1, k2⟩ := pp_tk0 z2
  rw [z3]; show (pp_tk K t r.2.1).2.1 < n
  rw [k2]; exact hE _ (h z1) (by rw [k1]; exact h1) (by rw [k1]; exact h2)
theorem hr_num (hE : ∀ i, i < n → ¬ K i = -1 → ¬ K i = -2 → i + 1 < n) {r : PPR} {lo hi : Int32} (h : r.1 = 0 → r.2.1 < n) : (pp_bd r (pp_num K V lo hi)).1 = 0 → (pp_bd r (pp_num K V lo hi)).2.1 < n := by
  intro z
  obtain ⟨z1, z2, z3⟩ := pp_bd0 z
  obtain ⟨k1, -, -, k2⟩ := pp_num0 z2
  rw [z3]; show (pp_num K V lo hi r.2.1).2.1 < n
  rw [k2]; exact hE _ (h z1) (by rw [k1]; decide) (by rw [k1]; decide)
theorem hr_pnm (hE : ∀ i, i < n → ¬ K i = -1 → ¬ K i = -2 → i + 1 < n) {r : PPR} {has : Int32 → Bool} {lo hi : Int32} (h : r.1 = 0 → r.2.1 < n) : (pp_bd r (pp_pnm K V has lo hi)).1 = 0 → (pp_bd r (pp_pnm K V has lo hi)).2.1 < n := by
  intro z
  obtain ⟨z1, z2, z3⟩ := pp_bd0 z
  obtain ⟨k1, -, -, -, k2⟩ := pp_pnm0 z2
  rw [z3]; show (pp_pnm K V has lo hi r.2.1).2.1 < n
  rw [k2]; exact hE _ (h z1) (by rw [k1]; decide) (by rw [k1]; decide)
theorem hr_nam (hE : ∀ i, i < n → ¬ K i = -1 → ¬ K i = -2 → i + 1 < n) {r : PPR} {has : Nat → Bool} (h : r.1 = 0 → r.2.1 < n) : (pp_bd r (pp_nam K has)).1 = 0 → (pp_bd r (pp_nam K has)).2.1 < n := by
  intro z
  obtain ⟨z1, z2, z3⟩ := pp_bd0 z
  obtain ⟨k1, -, k2⟩ := pp_nam0 z2
  rw [z3]; show (pp_nam K has r.2.1).2.1 < n
  rw [k2]; exact hE _ (h z1) (by rw [k1]; decide) (by rw [k1]; decide)
/-- number and isPlaceAt behind it -/
theorem m_pnm (hN : 5000 ≤ N) (hA : mAh N tF K St V E nm sz n) (hE : ∀ i, i < n → ¬ K i = -1 → ¬ K i = -2 → i + 1 < n) {b Pn : Nat} (hb : b < 2) (hP : Pn ≤ 6) {pl pa : Nat → Int32} (h6 : pl b = nI Pn) {has : Int32 → Bool} (hh : ∀ v, plHasM b Pn pa v = has v) {r : PPR} (hrn : r.1 = 0 → r.2.1 < n) {I : Nat → Int32} {J : Nat → Int64} (h31 : I 31 = nI b) (lo hi : Int32) (h : jm K St V E nm sz r I J) {β : Type} (k : Int32 → (Nat → Int32) → (Nat → Int64) → Option β) (Q : Option β → Prop) (hk : ∀ v I' J', jm K St V E nm sz (pp_bd r (pp_pnm K V has lo hi)) I' J' → iK I J I' J' → (r.1 = 0 → K r.2.1 = -3 → v = V r.2.1) → Q (k v I' J')) :
    Q (xq_bd (fX12_lex N I) fun r_17 => xq_bd (fX12_number N r_17 J tF lo hi) fun (r_20_0, r_20_1, r_20_2) => if (r_20_1 8) = 0 then xq_bd (fX12_isPlaceAt N r_20_1 pl pa r_20_0) fun r_22 => if r_22 = 0 then k r_20_0 r_20_1 r_20_2 else xq_bd (fX12_blame N r_20_1 4 (r_17 4)) fun r_24 => k r_20_0 r_24 r_20_2 else k r_20_0 r_20_1 r_20_2) := by
  have run : ∀ (r' : PPR) (I1 : Nat → Int32), jm K St V E nm sz r' I1 J → (r'.1 = 0 → r'.2.1 < n) → iK I J I1 J → (r'.1 = 0 → r' = r ∧ I1 = I) → (¬ r'.1 = 0 → jm K St V E nm sz (pp_bd r (pp_pnm K V has lo hi)) I1 J ∧ (r.1 = 0 → ¬ K r.2.1 = -3)) → Q (xq_bd (fX12_number N I1 J tF lo hi) fun (r_20_0, r_20_1, r_20_2) => if (r_20_1 8) = 0 then xq_bd (fX12_isPlaceAt N r_20_1 pl pa r_20_0) fun r_22 => if r_22 = 0 then k r_20_0 r_20_1 r_20_2 else xq_bd (fX12_blame N r_20_1 4 (I1 4)) fun r_24 => k r_20_0 r_24 r_20_2 else k r_20_0 r_20_1 r_20_2) := by
    intro r' I1 h1 hrn1 k1 same dead
    obtain ⟨v, I2, J2, e1, e2, e3, e4⟩ := m_number N hA hE hrn1 lo hi h1
    rw [e1, xs_bd]
    dsimp only
    by_cases h0 : r'.1 = 0
    · obtain ⟨rfl, rfl⟩ := same h0
      obtain ⟨hT, h8, h9⟩ := jm_al h0 h
      by_cases z : (pp_num K V lo hi r'.2.1).1 = 0
      · obtain ⟨z1, z2, z3, z4⟩ := pp_num0 z
        have ea : (pp_bd r' (pp_num K V lo hi)).1 = 0 := by rw [pp_bd_pos h0]; exact z
        have hal := jm_al ea e2
        have hv : v = V r'.2.1 := e4 h0 z1
        rw [if_pos hal.2.1, m_isPlaceAt N hN hb hP ((e3.1 31 (by omega)).trans h31) h6, xs_bd, hh]
        cases hb2 : has v with
        | true =>
          rw [if_neg (show ¬ p_b true = 0 by decide), m_blame N hal.2.1, xs_bd]
          refine hk _ _ _ (jm_bd h0 ?_) (iK_b e3 _ _) e4
          unfold pp_pnm
          rw [if_pos z1, if_pos (Or.inl (by rw [← hv]; exact hb2))]
          exact jm_f (by decide) (by decide) rfl (by rw [pp_pl_ne (by decide)]; exact hT.2.1)
        | false =>
          rw [if_pos (show p_b false = 0 from rfl)]
          refine hk _ _ _ ?_ e3 e4
          have e5 : pp_num K V lo hi r'.2.1 = pp_pnm K V has lo hi r'.2.1 := by
            unfold pp_num pp_pnm
            rw [if_pos z1, if_pos z1, ← hv, hb2]
            congr 1
            simp
          rw [pp_bd_pos h0] at e2 ⊢
          rw [← e5]; exact e2
      · have en : ¬ (pp_bd r' (pp_num K V lo hi)).1 = 0 := by rw [pp_bd_pos h0]; exact z
        have h88 := jm_8 e2
        rw [if_neg (fun y => en (h88.1.mp y))]
        refine hk _ _ _ ?_ e3 e4
        have e5 : pp_num K V lo hi r'.2.1 = pp_pnm K V has lo hi r'.2.1 := by
          unfold pp_num at z ⊢
          unfold pp_pnm
          by_cases y : K r'.2.1 = -3
          · rw [if_pos y] at z ⊢
            by_cases y2 : V r'.2.1 < lo ∨ hi < V r'.2.1
            · rw [if_pos y2, if_pos y, if_pos (Or.inr y2)]
            · rw [if_neg y2] at z; exact absurd rfl z
          · rw [if_neg y, if_neg y]
        rw [pp_bd_pos h0] at e2 ⊢
        rw [← e5]; exact e2
    · obtain ⟨d1, d2⟩ := dead h0
      rw [pp_bd_neg h0] at e2
      have h88 := jm_8 e2
      rw [if_neg (fun y => h0 (h88.1.mp y))]
      have q1 := jm_8 h1
      have same8 : I2 8 = I1 8 ∧ I2 9 = I1 9 := by
        have a := jm_de h0 h1
        have c := jm_de h0 e2
        exact ⟨c.2.1.trans a.2.1.symm, c.2.2.trans a.2.2.symm⟩
      refine hk _ _ _ ?_ (iK_t k1 e3) (fun z1 z2 => absurd z2 (d2 z1))
      have dn : ¬ (pp_bd r (pp_pnm K V has lo hi)).1 = 0 := fun y => by
        have := (jm_8 d1).1.mpr y
        exact h0 (q1.1.mp this)
      have dd := jm_de dn d1
      unfold jm
      rw [if_neg dn]
      exact ⟨dd.1, same8.1.trans dd.2.1, same8.2.trans dd.2.2⟩
  rcases jm_lex N h with ⟨h0, h12, e1⟩ | ⟨I1, e1, n8, n8', kk, d1, d2⟩
  · rw [e1, xs_bd]
    exact run r I h hrn (iK_r I J) (fun _ => ⟨rfl, rfl⟩) (fun z => absurd h0 z)
  · rw [e1, xs_bd]
    have hbad : jm K St V E nm sz (pp_bd r (pp_pnm K V has lo hi)) I1 J := jm_bad h d1 d2 (fun i hi => by unfold pp_pnm; rw [if_neg (by rw [hi]; decide)])
    have hn : ¬ (pp_bd r (pp_pnm K V has lo hi)).1 = 0 := fun y => n8 ((jm_8 hbad).1.mpr y)
    exact run _ I1 hbad (fun y => absurd y hn) kk (fun y => absurd y hn) (fun _ => ⟨hbad, fun y => by rw [(d1 y).1]; decide⟩)
theorem m_telling (hA : mAh N tF K St V E nm sz n) (hE : ∀ i, i < n → ¬ K i = -1 → ¬ K i = -2 → i + 1 < n) {i : Nat} (hi : i + 1 < n) {I : Nat → Int32} {J : Nat → Int64} (hi9 : Int32) (h : mA K St V E nm sz i I J) : ∃ v I' J', fX12_telling N I J tF hi9 = some (v, I', J') ∧ jm K St V E nm sz (pp_num K V 0 hi9 (i + 1)) I' J' ∧ iK I J I' J' ∧ (K (i + 1) = -3 → v = V (i + 1)) := by
  obtain ⟨I1, J1, e1, e2, e3⟩ := m_counted N hA false hi h
  obtain ⟨v, I2, J2, f1, f2, f3, f4⟩ := m_number N hA hE (r := (0, i + 1, [])) (fun _ => hi) 0 hi9 e2
  refine ⟨v, I2, J2, ?_, f2, iK_t e3 f3, f4 rfl⟩
  unfold fX12_telling
  rw [show (0 : Int32) = p_b false from rfl, e1, xs_bd]
  dsimp only
  rw [if_neg (show ¬ p_b (!false) = p_b false by decide), show p_b false = (0 : Int32) from rfl, f1, xs_bd]
theorem m_earing (hN : 5000 ≤ N) (hA : mAh N tF K St V E nm sz n) (hE : ∀ i, i < n → ¬ K i = -1 → ¬ K i = -2 → i + 1 < n) (hnm : ∀ v x v' x', nm v x → nm v' x' → (v = v' ↔ x = x')) {G : PG} (hg : gok G) {b : Nat} {Cd : List Nat} {I sf fr ph be ba op cs cv pr sb pl ea pa ta ro sh co hu vo mt : Nat → Int32} {J en pn : Nat → Int64} {i : Nat} (hi : i + 1 < n) (h : mA K St V E nm sz i I J) (hG : mHs nm G b Cd I sf cs cv sb pl ea en pn mt pa ta ro sh co hu vo) :
    ∃ I' J' ea' en' ro' sh', fX12_earing N I J ea tF en pl pn ro sh = some (I', J', ea', en', ro', sh') ∧ jm K St V E nm sz (if G.1 1 = 7 then (6, i, []) else pp_ear K V G (i + 1)) I' J' ∧ iK I J I' J' ∧ eqO 1 b ea ea' ∧ eqO 7 b en en' ∧ eqO 7 b ro ro' ∧ eqO 7 b sh sh' ∧ (¬ G.1 1 = 7 → (pp_ear K V G (i + 1)).1 = 0 → ∃ x1, nm (V (i + 1)) x1 ∧ ea' = upd ea b (nI (G.1 1 + 1)) ∧ en' = vp_updL en (7 * b + G.1 1) x1 ∧ ro' = upd ro (7 * b + G.1 1) (V (i + 3)) ∧ sh' = upd sh (7 * b + G.1 1) (V (i + 5))) := by
  obtain ⟨c1, c2, c3, c4, c5, c6, c7, c8, c9, c10, c11, c12, c13⟩ := hG
  have hG : mHs nm G b Cd I sf cs cv sb pl ea en pn mt pa ta ro sh co hu vo := ⟨c1, c2, c3, c4, c5, c6, c7, c8, c9, c10, c11, c12, c13⟩
  have h5 := hg.2.2.1
  unfold fX12_earing
  rw [c2, xs_ald c1 (by decide), xs_bd, c9]
  by_cases h7 : G.1 1 = 7
  · obtain ⟨I1, J1, e1, e2, e3⟩ := m_counted N hA true hi h
    rw [h7, if_pos (show nI 7 = 7 from rfl), if_pos rfl]
    dsimp only [fX12_earing_b20]
    rw [show (1 : Int32) = p_b true from rfl, e1, xs_bd]
    dsimp only
    rw [if_pos (show p_b (!true) = 0 from rfl)]
    exact ⟨_, _, _, _, _, _, rfl, e2, e3, eqO_r _ _ _, eqO_r _ _ _, eqO_r _ _ _, eqO_r _ _ _, fun z => absurd rfl z⟩
  · have hlt : G.1 1 < 7 := by omega
    obtain ⟨I1, J1, e1, e2, e3⟩ := m_counted N hA false hi h
    have k31 : ∀ {I2 : Nat → Int32} {J2 : Nat → Int64}, iK I1 J1 I2 J2 → I2 31 = nI b := fun hk => (hk.1 31 (by omega)).trans ((e3.1 31 (by omega)).trans c2)
    rw [if_neg (show ¬ nI (G.1 1) = (7 : Int32) from fun z => h7 ((nI_eq (b := 7) (by omega) (by omega)).mp z)), if_neg h7]
    dsimp only [fX12_earing_b20]
    rw [show (0 : Int32) = p_b false from rfl, e1, xs_bd]
    dsimp only
    rw [if_neg (show ¬ p_b (!false) = p_b false by decide), show p_b false = (0 : Int32) from rfl]
    have r0 : ((0, i + 1, []) : PPR).1 = 0 → ((0, i + 1, []) : PPR).2.1 < n := fun _ => hi
    obtain ⟨v1, I2, J2, f1, f2, f3, f4⟩ := m_fresh N hN hA hE c1 h5 hg.2.2.2.1 (en := en) (pn := pn) c9 c10 (has := fun j => nmG G (V j)) (fun j x hj hx => nmG_m hnm hG hx) (r := (0, i + 1, [])) r0 (k31 (iK_r I1 J1)) e2
    rw [pp_bd_z] at f2
    have r1 : (pp_nam K (fun j => nmG G (V j)) (i + 1)).1 = 0 → (pp_nam K (fun j => nmG G (V j)) (i + 1)).2.1 < n := hr_nam hE (r := (0, i + 1, [])) r0
    obtain ⟨I3, J3, g1, g2, g3⟩ := m_mustw N hA hE r1 5 (by decide) (p := 7499639) rfl (x := 305) rfl f2
    have r2 := hr_tk hE (t := 305) (by decide) (by decide) r1
    obtain ⟨v2, I4, J4, p1, p2, p3, p4⟩ := m_number N hA hE r2 0 9 g2
    have r3 := hr_num (V := V) (lo := 0) (hi := 9) hE r2
    obtain ⟨I5, J5, q1, q2, q3⟩ := m_mustw N hA hE r3 6 (by decide) (p := 495672455792) rfl (x := 306) rfl p2
    have r4 := hr_tk hE (t := 306) (by decide) (by decide) r3
    obtain ⟨v3, I6, J6, t1, t2, t3, t4⟩ := m_number N hA hE r4 0 9 q2
    have kk : iK I1 J1 I6 J6 := iK_t (iK_t (iK_t (iK_t f3 g3) p3) q3) t3
    rw [k31 (iK_r I1 J1), xs_ald c1 (by decide), xs_bd, c9, f1, xs_bd]
    dsimp only
    rw [mx7, xs_astL (by omega) (by decide), xs_bd, g1, xs_bd]
    dsimp only
    rw [p1, xs_bd]
    dsimp only
    rw [xs_ast (by omega) (by decide), xs_bd, q1, xs_bd]
    dsimp only
    rw [t1, xs_bd]
    dsimp only
    rw [xs_ast (by omega) (by decide), xs_bd, k31 kk]
    have h88 := jm_8 t2
    by_cases al : (pp_ear K V G (i + 1)).1 = 0
    · obtain ⟨a1, a2, ⟨a3, a4, a5⟩, ⟨a6, a7, a8⟩, a9, d1, d2, d3, d4, d5, d6⟩ := pp_ear0 al
      rw [if_pos (h88.1.mpr al), xs_ald c1 (by decide), xs_bd, c9, xs_ast c1 (by decide), xs_bd, nI_1]
      refine ⟨_, _, _, _, _, _, rfl, t2, iK_t e3 kk, eqO_1, eqO_L hlt, eqO_u hlt, eqO_u hlt, fun _ _ => ⟨v1, f4 rfl a1, rfl, rfl, ?_, ?_⟩⟩
      · have := p4 d3
        rw [d4] at this
        rw [this a3]
      · have := t4 d5
        rw [d6] at this
        rw [this a6]
    · rw [if_neg (fun z => al (h88.1.mp z))]
      exact ⟨_, _, _, _, _, _, rfl, t2, iK_t e3 kk, eqO_r _ _ _, eqO_L hlt, eqO_u hlt, eqO_u hlt, fun _ z => absurd z al⟩
theorem m_placing (hN : 5000 ≤ N) (hA : mAh N tF K St V E nm sz n) (hE : ∀ i, i < n → ¬ K i = -1 → ¬ K i = -2 → i + 1 < n) (hnm : ∀ v x v' x', nm v x → nm v' x' → (v = v' ↔ x = x')) {G : PG} (hg : gok G) {b : Nat} {Cd : List Nat} {I sf fr ph be ba op cs cv pr sb pl ea pa ta ro sh co hu vo mt : Nat → Int32} {J en pn : Nat → Int64} {i : Nat} (hi : i + 1 < n) (h : mA K St V E nm sz i I J) (hG : mHs nm G b Cd I sf cs cv sb pl ea en pn mt pa ta ro sh co hu vo) :
    ∃ I' J' pl' pn' pa' ta', fX12_placing N I J pl tF ea en pn mt pa ta = some (I', J', pl', pn', pa', ta') ∧ jm K St V E nm sz (if G.1 2 = 6 then (6, i, []) else pp_plc K V G (i + 1)) I' J' ∧ iK I J I' J' ∧ eqO 1 b pl pl' ∧ eqO 6 b pn pn' ∧ eqO 6 b pa pa' ∧ eqO 6 b ta ta' ∧ (¬ G.1 2 = 6 → (pp_plc K V G (i + 1)).1 = 0 → ∃ x1, nm (V (i + 1)) x1 ∧ pl' = upd pl b (nI (G.1 2 + 1)) ∧ pn' = vp_updL pn (6 * b + G.1 2) x1 ∧ pa' = upd pa (6 * b + G.1 2) (V (i + 3)) ∧ ta' = upd ta (6 * b + G.1 2) (V (i + 5))) := by
  obtain ⟨c1, c2, c3, c4, c5, c6, c7, c8, c9, c10, c11, c12, c13⟩ := hG
  have hG : mHs nm G b Cd I sf cs cv sb pl ea en pn mt pa ta ro sh co hu vo := ⟨c1, c2, c3, c4, c5, c6, c7, c8, c9, c10, c11, c12, c13⟩
  have h6 := hg.2.2.2.1
  unfold fX12_placing
  rw [c2, xs_ald c1 (by decide), xs_bd, c10]
  by_cases h7 : G.1 2 = 6
  · obtain ⟨I1, J1, e1, e2, e3⟩ := m_counted N hA true hi h
    rw [h7, if_pos (show nI 6 = 6 from rfl), if_pos rfl]
    dsimp only [fX12_placing_b20]
    rw [show (1 : Int32) = p_b true from rfl, e1, xs_bd]
    dsimp only
    rw [if_pos (show p_b (!true) = 0 from rfl)]
    exact ⟨_, _, _, _, _, _, rfl, e2, e3, eqO_r _ _ _, eqO_r _ _ _, eqO_r _ _ _, eqO_r _ _ _, fun z => absurd rfl z⟩
  · have hlt : G.1 2 < 6 := by omega
    obtain ⟨I1, J1, e1, e2, e3⟩ := m_counted N hA false hi h
    have k31 : ∀ {I2 : Nat → Int32} {J2 : Nat → Int64}, iK I1 J1 I2 J2 → I2 31 = nI b := fun hk => (hk.1 31 (by omega)).trans ((e3.1 31 (by omega)).trans c2)
    rw [if_neg (show ¬ nI (G.1 2) = (6 : Int32) from fun z => h7 ((nI_eq (b := 6) (by omega) (by omega)).mp z)), if_neg h7]
    dsimp only [fX12_placing_b20]
    rw [show (0 : Int32) = p_b false from rfl, e1, xs_bd]
    dsimp only
    rw [if_neg (show ¬ p_b (!false) = p_b false by decide), show p_b false = (0 : Int32) from rfl]
    have r0 : ((0, i + 1, []) : PPR).1 = 0 → ((0, i + 1, []) : PPR).2.1 < n := fun _ => hi
    obtain ⟨v1, I2, J2, f1, f2, f3, f4⟩ := m_fresh N hN hA hE c1 hg.2.2.1 h6 (en := en) (pn := pn) c9 c10 (has := fun j => nmG G (V j)) (fun j x hj hx => nmG_m hnm hG hx) (r := (0, i + 1, [])) r0 (k31 (iK_r I1 J1)) e2
    rw [pp_bd_z] at f2
    have r1 : (pp_nam K (fun j => nmG G (V j)) (i + 1)).1 = 0 → (pp_nam K (fun j => nmG G (V j)) (i + 1)).2.1 < n := hr_nam hE (r := (0, i + 1, [])) r0
    obtain ⟨I3, J3, g1, g2, g3⟩ := m_mustw N hA hE r1 8 (by decide) (p := 24948) rfl (x := 308) rfl f2
    have r2 := hr_tk hE (t := 308) (by decide) (by decide) r1
    rw [k31 (iK_r I1 J1), xs_ald c1 (by decide), xs_bd, c10, f1, xs_bd]
    dsimp only
    rw [mx6, xs_astL (by omega) (by decide), xs_bd, g1, xs_bd]
    dsimp only
    -- lex reads no more than the FAULT
    have key := m_pnm N hN hA hE c1 h6 (pl := pl) (pa := pa) c10 (plG_m hG) r2 (k31 (iK_t f3 g3)) 1 (nI (G.1 0) - 1) g2 (fun v I4 J4 => fX12_placing_b109 N tF ea en mt (I4, J4, pl, vp_updL pn (6 * b + G.1 2) v1, pa, ta, nI (6 * b + G.1 2), v)) (fun q => ∃ I' J' pl' pa' ta', q = some (I', J', pl', vp_updL pn (6 * b + G.1 2) v1, pa', ta') ∧ jm K St V E nm sz (pp_plc K V G (i + 1)) I' J' ∧ iK I1 J1 I' J' ∧ eqO 1 b pl pl' ∧ eqO 6 b pa pa' ∧ eqO 6 b ta ta' ∧ ((pp_plc K V G (i + 1)).1 = 0 → pl' = upd pl b (nI (G.1 2 + 1)) ∧ pa' = upd pa (6 * b + G.1 2) (V (i + 3)) ∧ ta' = upd ta (6 * b + G.1 2) (V (i + 5)))) (fun v I4 J4 p2 p3 p4 => by
      have r3 := hr_pnm (V := V) (has := plG G) (lo := 1) (hi := nI (G.1 0) - 1) hE r2
      obtain ⟨I5, J5, q1, q2, q3⟩ := m_mustw N hA hE r3 9 (by decide) (p := 1952541803) rfl (x := 309) rfl p2
      have r4 := hr_tk hE (t := 309) (by decide) (by decide) r3
      obtain ⟨v3, I6, J6, t1, t2, t3, t4⟩ := m_number N hA hE r4 0 9 q2
      have kk : iK I1 J1 I6 J6 := iK_t (iK_t (iK_t (iK_t f3 g3) p3) q3) t3
      dsimp only [fX12_placing_b109]
      rw [xs_ast (by omega) (by decide), xs_bd, q1, xs_bd]
      dsimp only
      rw [t1, xs_bd]
      dsimp only
      rw [xs_ast (by omega) (by decide), xs_bd, k31 kk]
      have h88 := jm_8 t2
      by_cases al : (pp_plc K V G (i + 1)).1 = 0
      · obtain ⟨a1, a2, ⟨a3, a30, a4, a5⟩, ⟨a6, a7, a8⟩, a9, d1, d2, d3, d4, d5, d6⟩ := pp_plc0 al
        rw [if_pos (h88.1.mpr al), xs_ald c1 (by decide), xs_bd, c10, xs_ast c1 (by decide), xs_bd, nI_1]
        refine ⟨_, _, _, _, _, rfl, t2, kk, eqO_1, eqO_u hlt, eqO_u hlt, fun _ => ⟨rfl, ?_, ?_⟩⟩
        · have := p4 d3
          rw [d4] at this
          rw [this a3]
        · have := t4 d5
          rw [d6] at this
          rw [this a6]
      · rw [if_neg (fun z => al (h88.1.mp z))]
        exact ⟨_, _, _, _, _, rfl, t2, kk, eqO_r _ _ _, eqO_u hlt, eqO_u hlt, fun z => absurd z al⟩)
    obtain ⟨I', J', pl', pa', ta', k1, k2, k3, k4, k5, k6, k7⟩ := key
    refine ⟨I', J', pl', vp_updL pn (6 * b + G.1 2) v1, pa', ta', ?_, k2, iK_t e3 k3, k4, eqO_L hlt, k5, k6, fun _ z => ?_⟩
    · rw [← k1]
      rcases jm_lex N g2 with ⟨h0, h12, l1⟩ | ⟨I9, l1, n8, n8', l2, l3, l4⟩
      · rw [l1, xs_bd, xs_bd, k31 (iK_t f3 g3), xs_ald c1 (by decide), xs_bd, c5]
      · rw [l1, xs_bd, xs_bd, k31 (iK_t (iK_t f3 g3) l2), xs_ald c1 (by decide), xs_bd, c5]
    · obtain ⟨m1, m2, m3⟩ := k7 z
      exact ⟨v1, f4 rfl (pp_plc0 z).1, m1, rfl, m2, m3⟩
end
