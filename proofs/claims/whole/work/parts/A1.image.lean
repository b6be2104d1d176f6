/-! images -/
def pI_add (T : PT) (g : Nat → Nat) : Nat → PT
  | 0 => T
  | i + 1 => pT1 (pI_add T g i) (g i)
def pI_ck (T : PT) : Nat → Nat
  | 0 => 239
  | i + 1 => (5 * pI_ck T i + T.2 i) % 251
def pI_2 (T : PT) (v : Nat) : PT := pT1 (pT1 T (v / 256)) (v % 256)
def pI_hd (m : Nat → Nat) : PT := pT1 (pT1 (pI_2 (pI_2 (pI_2 (0, fun _ => 0) (m 0)) (m 1)) (m 2)) (m 3)) (m 4)
def pI_bd (H : PH) (m ro ta : Nat → Nat) : PT := pI_add (pI_add (pI_hd m) ro (H.1 1)) ta (H.1 2)
def pI (H : PH) (m ro ta : Nat → Nat) : PT := pT1 (pI_bd H m ro ta) (pI_ck (pI_bd H m ro ta) (pI_bd H m ro ta).1)
def pI_lt (T : PT) : Prop := ∀ i, i < T.1 → T.2 i < 256
theorem pI_lt1 {T : PT} (h : pI_lt T) {b : Nat} (hb : b < 256) : pI_lt (pT1 T b) := by
  intro i hi
  have hi : i < T.1 + 1 := hi
  show (if i = T.1 then b else T.2 i) < 256
  split
  · exact hb
  · exact h i (by omega)
theorem pI_lt2 {T : PT} (h : pI_lt T) {v : Nat} (hv : v < 65536) : pI_lt (pI_2 T v) := pI_lt1 (pI_lt1 h (by omega)) (by omega)
theorem pI_add_n (T : PT) (g : Nat → Nat) : ∀ n, (pI_add T g n).1 = T.1 + n
  | 0 => rfl
  | n + 1 => by
    show (pI_add T g n).1 + 1 = _
    rw [pI_add_n T g n]; omega
theorem pI_add_lt {T : PT} (h : pI_lt T) {g : Nat → Nat} : ∀ n, (∀ i, i < n → g i < 256) → pI_lt (pI_add T g n)
  | 0, _ => h
  | n + 1, hg => pI_lt1 (pI_add_lt h n (fun i hi => hg i (by omega))) (hg n (by omega))
theorem pI_ck_lt (T : PT) : ∀ n, pI_ck T n < 256
  | 0 => by show 239 < 256; omega
  | n + 1 => by show (5 * pI_ck T n + T.2 n) % 251 < 256; omega
theorem hS.ms {H : PH} {m : Nat → Nat} (h : hS H m) : m 0 ≤ 999 ∧ m 1 ≤ 200 ∧ m 2 ≤ 999 ∧ m 3 ≤ 20 ∧ m 4 ≤ 9 := by
  have hb := h.b
  have hmi := h.mi
  rcases h with h | h
  · exact ⟨h.2.1, by omega, h.2.2.2.1, h.2.2.2.2.1, h.2.2.2.2.2⟩
  · have := h.2.2.2
    exact ⟨by rw [this 0 (by omega)]; omega, by omega, by rw [this 2 (by omega)]; omega, by rw [this 3 (by omega)]; omega, by rw [this 4 (by omega)]; omega⟩
theorem pI_hd_lt {m : Nat → Nat} (h0 : m 0 ≤ 999) (h1 : m 1 ≤ 200) (h2 : m 2 ≤ 999) (h3 : m 3 ≤ 20) (h4 : m 4 ≤ 9) : pI_lt (pI_hd m) := pI_lt1 (pI_lt1 (pI_lt2 (pI_lt2 (pI_lt2 (fun i hi => absurd hi (Nat.not_lt_zero _)) (by omega)) (by omega)) (by omega)) (by omega)) (by omega)
theorem pI_hd_n (m : Nat → Nat) : (pI_hd m).1 = 8 := rfl
theorem pI_bd_n (H : PH) (m ro ta : Nat → Nat) : (pI_bd H m ro ta).1 = 8 + H.1 1 + H.1 2 := by
  unfold pI_bd
  rw [pI_add_n, pI_add_n, pI_hd_n]
theorem xs_ck {c b : Nat} (hc : c < 256) (hb : b < 256) : xq_rm ((5 * nI c) + nI b) 251 = some (nI ((5 * c + b) % 251)) := by
  show xq_rm (nI 5 * nI c + nI b) (nI 251) = _
  rw [pk_mul, nI_add, xs_rm (by omega) (by decide) (by decide)]
/- the class -/
theorem c_im1 (N : Nat) {T : PT} {imI bF : Nat → Int32} (h : mT T imI bF) (hn : T.1 < 22) (b : Nat) : ∃ imI' bF', fX4_add N imI bF (nI b) = some (imI', bF') ∧ mT (pT1 T b) imI' bF' := by
  refine ⟨_, _, ?_, mT_1 h (b := b)⟩
  unfold fX4_add
  rw [h.1, if_neg (show ¬ (22 : Int32) ≤ nI T.1 from nI_ge (b := 22) hn (by omega)), xs_ast hn (by omega), xs_bd]
theorem c_im2 (N : Nat) {T : PT} {imI bF : Nat → Int32} (h : mT T imI bF) (hn : T.1 + 1 < 22) {v : Nat} (hv : v < 65536) : ∃ imI' bF', fX4_addTwo N imI bF (nI v) = some (imI', bF') ∧ mT (pI_2 T v) imI' bF' := by
  obtain ⟨i1, b1, e1, h1⟩ := c_im1 N h (by omega) (v / 256)
  obtain ⟨i2, b2, e2, h2⟩ := c_im1 N h1 (show T.1 + 1 < 22 from hn) (v % 256)
  refine ⟨i2, b2, ?_, h2⟩
  have a1 : nI v >>> ((8 : Int32) &&& 31) = nI (v / 256) := by rw [pk_shrN (by omega) _ 8 (by decide)]
  have a2 : nI v &&& 255 = nI (v % 256) := by rw [pk_andN (by omega) 8 (by decide)]
  unfold fX4_addTwo
  rw [a1, a2, e1, xs_bd]
  dsimp only
  rw [e2, xs_bd]
theorem c_im105 (N : Nat) (hN : 5000 ≤ N) {T : PT} {moI moR moT imI bF : Nat → Int32} (h : mT T imI bF) (hl : pI_lt T) (hn : T.1 < 22) : ∃ imI' bF', xq_loop (fX4_write_l105 N moI moR moT) N (imI, bF, 239, 0) = some (imI', bF') ∧ mT (pT1 T (pI_ck T T.1)) imI' bF' := by
  obtain ⟨imI', bF', e1, e2⟩ := c_im1 N h hn (pI_ck T T.1)
  refine ⟨imI', bF', ?_, e2⟩
  refine xs_loop (body := fX4_write_l105 N moI moR moT) (fun j => (imI, bF, nI (pI_ck T j), nI j)) T.1 (some (imI', bF')) ?_ ?_ N (by omega)
  · intro j hj kk
    have hc := pI_ck_lt T j
    have hb := hl j hj
    dsimp only [fX4_write_l105]
    rw [h.1, if_neg (nI_ge hj (by omega)), xs_ald (by omega) (by omega), xs_bd, h.2 j hj]
    unfold fX4_checkOn
    rw [xs_ck hc hb, xs_bd, xs_bd, nI_1]
    rfl
  · intro kk
    dsimp only [fX4_write_l105]
    rw [h.1, if_pos (nI_le (Nat.le_refl _) (by omega)), e1, xs_bd]
theorem c_im74 (N : Nat) (hN : 5000 ≤ N) {T : PT} {P : Nat} {ta : Nat → Nat} {moI moR moT imI bF : Nat → Int32} (h : mT T imI bF) (hl : pI_lt T) (hP : P ≤ 6) (hn : T.1 + P < 22) (ht : ∀ p, p < P → moT p = nI (ta p) ∧ ta p ≤ 9) : ∃ imI' bF', xq_loop (fX4_write_l74 N moI moR moT) N (imI, bF, nI P, 0) = some (imI', bF') ∧ mT (pT1 (pI_add T ta P) (pI_ck (pI_add T ta P) (pI_add T ta P).1)) imI' bF' := by
  refine xs_loopI (body := fX4_write_l74 N moI moR moT) (fun r st => ∃ i' b' j, st = (i', b', nI P, nI j) ∧ j + r = P ∧ mT (pI_add T ta j) i' b') (fun q => ∃ imI' bF', q = some (imI', bF') ∧ mT (pT1 (pI_add T ta P) (pI_ck (pI_add T ta P) (pI_add T ta P).1)) imI' bF') ?_ N P _ ⟨imI, bF, 0, rfl, by omega, h⟩ (by omega)
  rintro r st kk ⟨i', b', j, rfl, hj, hm⟩ hgo
  dsimp only [fX4_write_l74]
  by_cases c : P ≤ j
  · have : j = P := by omega
    subst this
    rw [if_pos (nI_le c (by omega))]
    exact c_im105 N hN hm (pI_add_lt hl j (fun i hi => by have := (ht i hi).2; omega)) (by rw [pI_add_n]; omega)
  · obtain ⟨i2, b2, e2, h2⟩ := c_im1 N hm (by rw [pI_add_n]; omega) (ta j)
    rw [if_neg (nI_ge (by omega) (by omega)), xs_ald (show j < 6 by omega) (by omega), xs_bd, (ht j (by omega)).1, e2, xs_bd]
    dsimp only
    rw [nI_1]
    exact hgo _ (r - 1) (by omega) ⟨i2, b2, j + 1, rfl, by omega, h2⟩
theorem c_im48 (N : Nat) (hN : 5000 ≤ N) {T : PT} {E P : Nat} {ro ta : Nat → Nat} {moI moR moT imI bF : Nat → Int32} (h : mT T imI bF) (hl : pI_lt T) (hE : E ≤ 7) (hP : P ≤ 6) (hn : T.1 + E + P < 22) (hr : ∀ p, p < E → moR p = nI (ro p) ∧ ro p ≤ 9) (ht : ∀ p, p < P → moT p = nI (ta p) ∧ ta p ≤ 9) : ∃ imI' bF', xq_loop (fX4_write_l48 N moI moR moT) N (imI, bF, nI E, nI P, 0) = some (imI', bF') ∧ mT (pT1 (pI_add (pI_add T ro E) ta P) (pI_ck (pI_add (pI_add T ro E) ta P) (pI_add (pI_add T ro E) ta P).1)) imI' bF' := by
  refine xs_loopI (body := fX4_write_l48 N moI moR moT) (fun r st => ∃ i' b' j, st = (i', b', nI E, nI P, nI j) ∧ j + r = E ∧ mT (pI_add T ro j) i' b') (fun q => ∃ imI' bF', q = some (imI', bF') ∧ mT (pT1 (pI_add (pI_add T ro E) ta P) (pI_ck (pI_add (pI_add T ro E) ta P) (pI_add (pI_add T ro E) ta P).1)) imI' bF') ?_ N E _ ⟨imI, bF, 0, rfl, by omega, h⟩ (by omega)
  rintro r st kk ⟨i', b', j, rfl, hj, hm⟩ hgo
  dsimp only [fX4_write_l48]
  by_cases c : E ≤ j
  · have : j = E := by omega
    subst this
    rw [if_pos (nI_le c (by omega))]
    exact c_im74 N hN hm (pI_add_lt hl j (fun i hi => by have := (hr i hi).2; omega)) hP (by rw [pI_add_n]; omega) ht
  · obtain ⟨i2, b2, e2, h2⟩ := c_im1 N hm (by rw [pI_add_n]; omega) (ro j)
    rw [if_neg (nI_ge (by omega) (by omega)), xs_ald (show j < 7 by omega) (by omega), xs_bd, (hr j (by omega)).1, e2, xs_bd]
    dsimp only
    rw [nI_1]
    exact hgo _ (r - 1) (by omega) ⟨i2, b2, j + 1, rfl, by omega, h2⟩
theorem c_image (N : Nat) (hN : 5000 ≤ N) {H : PH} {m ro ta : Nat → Nat} (hs : hS H m) {homeI home_sharpsF home_placeMilesF home_goesF home_hearsF home_talkForF : Nat → Int32} {home_goesN home_hearsN home_talkForN : Nat} (hc : cH H homeI home_sharpsF home_placeMilesF home_goesF home_hearsF home_talkForF home_goesN home_hearsN home_talkForN) {nowI now_rowsF now_talksF : Nat → Int32} (hn : cNow H m ro ta nowI now_rowsF now_talksF) {pictureI picture_bytesF : Nat → Int32} : ∃ pI' bF', fX11_image N homeI pictureI nowI picture_bytesF now_rowsF now_talksF = some (nI (9 + H.1 1 + H.1 2), pI', bF') ∧ mT (pI H m ro ta) pI' bF' := by
  obtain ⟨b0, b1, b2, b3⟩ := hs.b
  obtain ⟨q0, q1, q2, q3, q4⟩ := hs.ms
  obtain ⟨i1, f1, e1, h1⟩ := c_im2 N (T := (0, fun _ => 0)) (imI := va_up pictureI 1 0) (bF := picture_bytesF) (v := m 0) ⟨rfl, fun i hi => absurd hi (Nat.not_lt_zero _)⟩ (show 0 + 1 < 22 by omega) (by omega)
  obtain ⟨i2, f2, e2, h2⟩ := c_im2 N h1 (show 0 + 1 + 1 + 1 < 22 by omega) (v := m 1) (by omega)
  obtain ⟨i3, f3, e3, h3⟩ := c_im2 N h2 (show 0 + 1 + 1 + 1 + 1 + 1 < 22 by omega) (v := m 2) (by omega)
  obtain ⟨i4, f4, e4, h4⟩ := c_im1 N h3 (show 0 + 1 + 1 + 1 + 1 + 1 + 1 < 22 by omega) (m 3)
  obtain ⟨i5, f5, e5, h5⟩ := c_im1 N h4 (show 0 + 1 + 1 + 1 + 1 + 1 + 1 + 1 < 22 by omega) (m 4)
  obtain ⟨i6, f6, e6, h6⟩ := c_im48 N hN (moI := nowI) (ro := ro) (ta := ta) (T := pI_hd m) h5 (pI_hd_lt q0 q1 q2 q3 q4) b1 b2 (by rw [pI_hd_n]; omega) hn.2.1 hn.2.2
  refine ⟨i6, f6, ?_, h6⟩
  unfold fX11_image fX4_write
  rw [hc.2.1, hc.2.2.1, hn.1 0 (by omega), hn.1 1 (by omega), hn.1 2 (by omega), hn.1 3 (by omega), hn.1 4 (by omega), e1, xs_bd]
  dsimp only
  rw [e2, xs_bd]
  dsimp only
  rw [e3, xs_bd]
  dsimp only
  rw [e4, xs_bd]
  dsimp only
  rw [e5, xs_bd]
  dsimp only
  rw [e6, xs_bd]
  dsimp only
  rw [h6.1]
  have en : (pT1 (pI_bd H m ro ta) (pI_ck (pI_bd H m ro ta) (pI_bd H m ro ta).1)).1 = 9 + H.1 1 + H.1 2 := by
    show (pI_bd H m ro ta).1 + 1 = _
    rw [pI_bd_n]; omega
  have en2 : nI (pT1 (pI_bd H m ro ta) (pI_ck (pI_bd H m ro ta) (pI_bd H m ro ta).1)).1 = nI (9 + H.1 1 + H.1 2) := nI_c en
  exact congrArg (fun z => some (z, i6, f6)) en2
/- the reference -/
def mIm (T : PT) (mmI oF : Nat → Int32) : Prop := mmI 69 = nI T.1 ∧ ∀ i, i < T.1 → oF i = nI (T.2 i)
theorem mIm_1 {T : PT} {mmI oF : Nat → Int32} (h : mIm T mmI oF) {b : Nat} : mIm (pT1 T b) (va_up mmI 69 (mmI 69 + 1)) (upd oF T.1 (nI b)) := by
  refine ⟨?_, fun i hi => ?_⟩
  · show mmI 69 + 1 = nI (T.1 + 1)
    rw [h.1, nI_1]
  · have hi : i < T.1 + 1 := hi
    show upd oF T.1 (nI b) i = nI (if i = T.1 then b else T.2 i)
    by_cases c : i = T.1
    · subst c; rw [pk_us, if_pos rfl]
    · rw [pk_un c, if_neg c]; exact h.2 i (by omega)
theorem m_im1 (N : Nat) {T : PT} {mmI oF : Nat → Int32} (h : mIm T mmI oF) (hn : T.1 < 30) {b : Nat} (hb : b < 65536) : ∃ mmI' oF', fX12_writes N mmI oF (nI b) = some (mmI', oF') ∧ mIm (pT1 T (b % 256)) mmI' oF' ∧ ∀ i, i ≠ 69 → mmI' i = mmI i := by
  refine ⟨_, _, ?_, mIm_1 h (b := b % 256), fun i hi => if_neg hi⟩
  have a2 : nI b &&& 255 = nI (b % 256) := by rw [pk_andN (by omega) 8 (by decide)]
  unfold fX12_writes
  rw [h.1, a2, xs_ast hn (by omega), xs_bd]
theorem m_im1' (N : Nat) {T : PT} {mmI oF : Nat → Int32} (h : mIm T mmI oF) (hn : T.1 < 30) {b : Nat} (hb : b < 256) : ∃ mmI' oF', fX12_writes N mmI oF (nI b) = some (mmI', oF') ∧ mIm (pT1 T b) mmI' oF' ∧ ∀ i, i ≠ 69 → mmI' i = mmI i := by
  have := m_im1 N h hn (b := b) (by omega)
  rwa [Nat.mod_eq_of_lt hb] at this
theorem m_im2 (N : Nat) {T : PT} {mmI oF : Nat → Int32} (h : mIm T mmI oF) (hn : T.1 + 1 < 30) {v : Nat} (hv : v < 65536) : ∃ mmI' oF', fX12_writesTwo N mmI oF (nI v) = some (mmI', oF') ∧ mIm (pI_2 T v) mmI' oF' ∧ ∀ i, i ≠ 69 → mmI' i = mmI i := by
  obtain ⟨i1, b1, e1, h1, g1⟩ := m_im1' N h (by omega) (b := v / 256) (by omega)
  obtain ⟨i2, b2, e2, h2, g2⟩ := m_im1 N h1 (show T.1 + 1 < 30 from hn) (b := v) hv
  refine ⟨i2, b2, ?_, h2, fun i hi => (g2 i hi).trans (g1 i hi)⟩
  have a1 : nI v >>> ((8 : Int32) &&& 31) = nI (v / 256) := by rw [pk_shrN (by omega) _ 8 (by decide)]
  unfold fX12_writesTwo
  rw [a1, e1, xs_bd]
  dsimp only
  rw [e2, xs_bd]
theorem m_im123 (N : Nat) (hN : 5000 ≤ N) {T : PT} {F0 F1 F2 F3 F4 F5 F6 F7 F8 mmI oF : Nat → Int32} (h : mIm T mmI oF) (hl : pI_lt T) (hn : T.1 < 30) : ∃ mmI' oF', xq_loop (fX12_image_l123 N F0 F1 F2 F3 F4 F5 F6 F7 F8) N (mmI, oF, 239, 0) = some (nI (T.1 + 1), mmI', oF') ∧ mIm (pT1 T (pI_ck T T.1)) mmI' oF' ∧ ∀ i, i ≠ 69 → mmI' i = mmI i := by
  obtain ⟨mmI', oF', e1, e2, e3⟩ := m_im1' N h hn (b := pI_ck T T.1) (pI_ck_lt _ _)
  refine ⟨mmI', oF', ?_, e2, e3⟩
  refine xs_loop (body := fX12_image_l123 N F0 F1 F2 F3 F4 F5 F6 F7 F8) (fun j => (mmI, oF, nI (pI_ck T j), nI j)) T.1 (some (nI (T.1 + 1), mmI', oF')) ?_ ?_ N (by omega)
  · intro j hj kk
    have hc := pI_ck_lt T j
    have hb := hl j hj
    dsimp only [fX12_image_l123]
    rw [h.1, if_neg (nI_ge hj (by omega)), xs_ald (by omega) (by omega), xs_bd, h.2 j hj, xs_ck hc hb, xs_bd, nI_1]
    rfl
  · intro kk
    dsimp only [fX12_image_l123]
    rw [h.1, if_pos (nI_le (Nat.le_refl _) (by omega)), e1, xs_bd]
    dsimp only
    rw [e2.1]; rfl
theorem m_im88 (N : Nat) (hN : 5000 ≤ N) {T : PT} {P b : Nat} {ta : Nat → Nat} {F0 F1 F2 F3 F4 F5 F6 F7 F8 mmI oF : Nat → Int32} (h : mIm T mmI oF) (hl : pI_lt T) (hb : b < 2) (h13 : mmI 13 = nI b) (h7 : F7 b = nI P) (hP : P ≤ 6) (hn : T.1 + P < 30) (ht : ∀ p, p < P → F8 p = nI (ta p) ∧ ta p ≤ 9) : ∃ mmI' oF', xq_loop (fX12_image_l88 N F0 F1 F2 F3 F4 F5 F6 F7 F8) N (mmI, oF, 0) = some (nI (T.1 + P + 1), mmI', oF') ∧ mIm (pT1 (pI_add T ta P) (pI_ck (pI_add T ta P) (pI_add T ta P).1)) mmI' oF' ∧ ∀ i, i ≠ 69 → mmI' i = mmI i := by
  refine xs_loopI (body := fX12_image_l88 N F0 F1 F2 F3 F4 F5 F6 F7 F8) (fun r st => ∃ i' b' j, st = (i', b', nI j) ∧ j + r = P ∧ mIm (pI_add T ta j) i' b' ∧ ∀ i, i ≠ 69 → i' i = mmI i) (fun q => ∃ mmI' oF', q = some (nI (T.1 + P + 1), mmI', oF') ∧ mIm (pT1 (pI_add T ta P) (pI_ck (pI_add T ta P) (pI_add T ta P).1)) mmI' oF' ∧ ∀ i, i ≠ 69 → mmI' i = mmI i) ?_ N P _ ⟨mmI, oF, 0, rfl, by omega, h, fun _ _ => rfl⟩ (by omega)
  rintro r st kk ⟨i', b', j, rfl, hj, hm, hg⟩ hgo
  dsimp only [fX12_image_l88]
  rw [hg 13 (by decide), h13, xs_ald hb (by omega), xs_bd, h7]
  by_cases c : P ≤ j
  · have : j = P := by omega
    subst this
    rw [if_pos (nI_le c (by omega))]
    obtain ⟨i3, b3, e3, h3, g3⟩ := m_im123 N hN (F0 := F0) (F1 := F1) (F2 := F2) (F3 := F3) (F4 := F4) (F5 := F5) (F6 := F6) (F7 := F7) (F8 := F8) hm (pI_add_lt hl j (fun i hi => by have := (ht i hi).2; omega)) (by rw [pI_add_n]; omega)
    rw [pI_add_n] at e3
    exact ⟨i3, b3, e3, h3, fun i hi => (g3 i hi).trans (hg i hi)⟩
  · obtain ⟨i2, b2, e2, h2, g2⟩ := m_im1' N hm (by rw [pI_add_n]; omega) (b := ta j) (by have := (ht j (by omega)).2; omega)
    rw [if_neg (nI_ge (by omega) (by omega)), xs_ald (show j < 132 by omega) (by omega), xs_bd, (ht j (by omega)).1, e2, xs_bd]
    dsimp only
    rw [nI_1]
    exact hgo _ (r - 1) (by omega) ⟨i2, b2, j + 1, rfl, by omega, h2, fun i hi => (g2 i hi).trans (hg i hi)⟩
theorem m_im57 (N : Nat) (hN : 5000 ≤ N) {T : PT} {E P b : Nat} {ro ta : Nat → Nat} {F0 F1 F2 F3 F4 F5 F6 F7 F8 mmI oF : Nat → Int32} (h : mIm T mmI oF) (hl : pI_lt T) (hb : b < 2) (h13 : mmI 13 = nI b) (h5 : F5 b = nI E) (h7 : F7 b = nI P) (hE : E ≤ 7) (hP : P ≤ 6) (hn : T.1 + E + P < 30) (hr : ∀ p, p < E → F6 p = nI (ro p) ∧ ro p ≤ 9) (ht : ∀ p, p < P → F8 p = nI (ta p) ∧ ta p ≤ 9) : ∃ mmI' oF', xq_loop (fX12_image_l57 N F0 F1 F2 F3 F4 F5 F6 F7 F8) N (mmI, oF, 0) = some (nI (T.1 + E + P + 1), mmI', oF') ∧ mIm (pT1 (pI_add (pI_add T ro E) ta P) (pI_ck (pI_add (pI_add T ro E) ta P) (pI_add (pI_add T ro E) ta P).1)) mmI' oF' ∧ ∀ i, i ≠ 69 → mmI' i = mmI i := by
  refine xs_loopI (body := fX12_image_l57 N F0 F1 F2 F3 F4 F5 F6 F7 F8) (fun r st => ∃ i' b' j, st = (i', b', nI j) ∧ j + r = E ∧ mIm (pI_add T ro j) i' b' ∧ ∀ i, i ≠ 69 → i' i = mmI i) (fun q => ∃ mmI' oF', q = some (nI (T.1 + E + P + 1), mmI', oF') ∧ mIm (pT1 (pI_add (pI_add T ro E) ta P) (pI_ck (pI_add (pI_add T ro E) ta P) (pI_add (pI_add T ro E) ta P).1)) mmI' oF' ∧ ∀ i, i ≠ 69 → mmI' i = mmI i) ?_ N E _ ⟨mmI, oF, 0, rfl, by omega, h, fun _ _ => rfl⟩ (by omega)
  rintro r st kk ⟨i', b', j, rfl, hj, hm, hg⟩ hgo
  dsimp only [fX12_image_l57]
  rw [hg 13 (by decide), h13, xs_ald hb (by omega), xs_bd, h5]
  by_cases c : E ≤ j
  · have : j = E := by omega
    subst this
    rw [if_pos (nI_le c (by omega))]
    obtain ⟨i3, b3, e3, h3, g3⟩ := m_im88 N hN (ta := ta) (F0 := F0) (F1 := F1) (F2 := F2) (F3 := F3) (F4 := F4) (F5 := F5) (F6 := F6) (F7 := F7) (F8 := F8) hm (pI_add_lt hl j (fun i hi => by have := (hr i hi).2; omega)) hb ((hg 13 (by decide)).trans h13) h7 hP (by rw [pI_add_n]; omega) ht
    rw [pI_add_n] at e3
    exact ⟨i3, b3, e3, h3, fun i hi => (g3 i hi).trans (hg i hi)⟩
  · obtain ⟨i2, b2, e2, h2, g2⟩ := m_im1' N hm (by rw [pI_add_n]; omega) (b := ro j) (by have := (hr j (by omega)).2; omega)
    rw [if_neg (nI_ge (by omega) (by omega)), xs_ald (show j < 154 by omega) (by omega), xs_bd, (hr j (by omega)).1, e2, xs_bd]
    dsimp only
    rw [nI_1]
    exact hgo _ (r - 1) (by omega) ⟨i2, b2, j + 1, rfl, by omega, h2, fun i hi => (g2 i hi).trans (hg i hi)⟩
theorem xs_ald0 {n : Nat} {f : Nat → Int32} (h : 0 < n) (hn : n < 2 ^ 31) : xq_ald n f (0 : Int32) = some (f 0) := xs_ald (k := 0) h hn
theorem m_image (N : Nat) (hN : 5000 ≤ N) {H : PH} {m ro ta : Nat → Nat} (hs : hS H m) {b k : Nat} {mmI hf ask : Nat → Int32} {stk : Nat → Int64} {X Y : Nat → Nat → Int32} (hY : mHY H b mmI Y) (hfl : mFl mmI (H.1 0)) (hL : mLay H 0 m ro ta k X) {mm_outF : Nat → Int32} : ∃ mmI' oF', fX12_image N mmI (X 0) mm_outF (X 1) (X 2) (X 3) (X 4) (Y 5) (X 5) (Y 6) (X 7) = some (nI (9 + H.1 1 + H.1 2), mmI', oF') ∧ mIm (pI H m ro ta) mmI' oF' ∧ ∀ i, i ≠ 69 → mmI' i = mmI i := by
  obtain ⟨b0, b1, b2, b3⟩ := hs.b
  obtain ⟨q0, q1, q2, q3, q4⟩ := hs.ms
  obtain ⟨i1, f1, e1, h1, g1⟩ := m_im2 N (T := (0, fun _ => 0)) (mmI := va_up mmI 69 0) (oF := mm_outF) (v := m 0) ⟨rfl, fun i hi => absurd hi (Nat.not_lt_zero _)⟩ (show 0 + 1 < 30 by omega) (by omega)
  obtain ⟨i2, f2, e2, h2, g2⟩ := m_im2 N h1 (show 0 + 1 + 1 + 1 < 30 by omega) (v := m 1) (by omega)
  obtain ⟨i3, f3, e3, h3, g3⟩ := m_im2 N h2 (show 0 + 1 + 1 + 1 + 1 + 1 < 30 by omega) (v := m 2) (by omega)
  obtain ⟨i4, f4, e4, h4, g4⟩ := m_im1' N h3 (show 0 + 1 + 1 + 1 + 1 + 1 + 1 < 30 by omega) (b := m 3) (by omega)
  obtain ⟨i5, f5, e5, h5, g5⟩ := m_im1' N h4 (show 0 + 1 + 1 + 1 + 1 + 1 + 1 + 1 < 30 by omega) (b := m 4) (by omega)
  have g : ∀ i, i ≠ 69 → i5 i = mmI i := fun i hi => (g5 i hi).trans ((g4 i hi).trans ((g3 i hi).trans ((g2 i hi).trans ((g1 i hi).trans (if_neg hi)))))
  obtain ⟨i6, f6, e6, h6, g6⟩ := m_im57 N hN (F0 := X 0) (F1 := X 1) (F2 := X 2) (F3 := X 3) (F4 := X 4) (F5 := Y 5) (F6 := X 5) (F7 := Y 6) (F8 := X 7) (ro := ro) (ta := ta) (T := pI_hd m) h5 (pI_hd_lt q0 q1 q2 q3 q4) hY.1 ((g 13 (by decide)).trans hY.2.1) hY.2.2.2.1 hY.2.2.2.2.1 b1 b2 (by rw [pI_hd_n]; omega) (fun p hp => by have := hL.2.2.2.2.2.1 p hp; rwa [Nat.mul_zero, Nat.zero_add] at this) (fun p hp => by have := hL.2.2.2.2.2.2.2.2 p hp; rwa [Nat.mul_zero, Nat.zero_add] at this)
  refine ⟨i6, f6, ?_, h6, fun i hi => (g6 i hi).trans (g i hi)⟩
  unfold fX12_image
  rw [xs_ald0 (by omega) (by omega), xs_bd, hL.1, e1, xs_bd]
  dsimp only
  rw [xs_ald0 (by omega) (by omega), xs_bd, hL.2.1, e2, xs_bd]
  dsimp only
  rw [xs_ald0 (by omega) (by omega), xs_bd, hL.2.2.1, e3, xs_bd]
  dsimp only
  rw [xs_ald0 (by omega) (by omega), xs_bd, hL.2.2.2.1, e4, xs_bd]
  dsimp only
  rw [xs_ald0 (by omega) (by omega), xs_bd, hL.2.2.2.2.1, e5, xs_bd]
  dsimp only
  rw [e6, pI_hd_n]
  have en2 : nI (8 + H.1 1 + H.1 2 + 1) = nI (9 + H.1 1 + H.1 2) := nI_c (by omega)
  rw [en2]
def qa_octet (T : PT) (x : Int32) : Int32 := if p_one_of T.1 x = false then -1 else nI (T.2 x.toNatClampNeg)
theorem c_octet (N : Nat) {T : PT} {pictureI bF : Nat → Int32} (h : mT T pictureI bF) (hT : T.1 ≤ 22) (x : Int32) : fX11_octet N pictureI bF x = some (qa_octet T x) := by
  unfold fX11_octet qa_octet
  have e0 : (0 : Int32).toInt = 0 := rfl
  rw [h.1]
  cases hx : p_one_of T.1 x with
  | false =>
    have g := of_decide_eq_false hx
    rw [if_pos rfl]
    by_cases d : x < 0
    · rw [if_pos d]
    · rw [if_neg d, if_neg (by rw [fa_lt, nI_toInt (by omega)]; rw [fa_lt, e0] at d; omega)]
  | true =>
    obtain ⟨e, rfl, he⟩ := p_one_yes hx
    rw [if_neg (show ¬ true = false by decide), if_neg (nI_pos (by omega)), if_pos ((nI_ltI (by omega) (by omega)).mpr he), xs_ald (by omega) (by omega), xs_bd, h.2 e he, nI_clamp (by omega)]
theorem m_is_lt (N : Nat) {c : Nat} (hc : c < 1000) (x : Int32) : fX12_is N x 0 (nI c - 1) = some (p_b (p_one_of c x)) := by
  have e1 : (nI c - 1).toInt = (c : Int) - 1 := by
    have := pk_sub_toInt (a := c) (b := 1) (by omega) (by omega)
    rw [show nI c - 1 = nI c - nI 1 from rfl, this]; omega
  unfold fX12_is p_one_of
  have e0 : (0 : Int32).toInt = 0 := rfl
  by_cases d1 : 0 ≤ x.toInt
  · rw [if_neg (by rw [fa_lt, e0]; omega)]
    by_cases d2 : x.toInt < c
    · rw [if_neg (by rw [fa_lt, e1]; omega), decide_eq_true ⟨d1, by omega⟩]; rfl
    · rw [if_pos (by rw [fa_lt, e1]; omega), decide_eq_false (fun z => d2 (by omega))]; rfl
  · rw [if_pos (by rw [fa_lt, e0]; omega), decide_eq_false (fun z => d1 z.1)]; rfl
theorem m_octet (N : Nat) {T : PT} {mmI oF : Nat → Int32} (h : mIm T mmI oF) (hT : T.1 ≤ 22) (x : Int32) : fX12_octet N mmI oF x = some (qa_octet T x) := by
  unfold fX12_octet qa_octet
  rw [h.1, m_is_lt N (by omega), xs_bd]
  cases hx : p_one_of T.1 x with
  | false => rw [if_pos (by rfl), if_pos rfl]
  | true =>
    obtain ⟨e, rfl, he⟩ := p_one_yes hx
    rw [if_neg (show ¬ p_b true = 0 by decide), if_neg (show ¬ true = false by decide), xs_ald (by omega) (by omega), xs_bd, h.2 e he, nI_clamp (by omega)]
