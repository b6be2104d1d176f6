/-! the tape: feed, end -/
theorem by_nat (y : Int32) : y.toInt = (y.toBitVec.toNat : Int) ∧ y.toBitVec.toNat < 2147483648 ∨ y.toInt = (y.toBitVec.toNat : Int) - 4294967296 ∧ 2147483648 ≤ y.toBitVec.toNat ∧ y.toBitVec.toNat < 4294967296 := by
  have h := y.toBitVec.isLt
  have e : y.toInt = _ := BitVec.toInt_eq_toNat_cond y.toBitVec
  generalize y.toBitVec.toNat = n at h e ⊢
  rw [e]
  split
  · left; omega
  · right; omega
theorem by_and (y : Int32) : y &&& 255 = nI (y.toInt % 256).toNat := by
  rw [pk_and y 8 (by decide)]
  apply nI_c
  have := by_nat y
  omega
def p_by (x : Int32) (k : Nat) : Nat := (x.toInt / 2 ^ k % 256).toNat
theorem p_by_lt (x : Int32) (k : Nat) : p_by x k < 256 := by
  unfold p_by
  generalize x.toInt / 2 ^ k = z
  omega
def by_k (k : Nat) : Prop := k = 24 ∨ k = 16 ∨ k = 8 ∨ k = 0
theorem m_byte (x : Int32) {k : Nat} (hk : by_k k) : (x >>> (nI k &&& 31)) &&& 255 = nI (p_by x k) := by
  have hs : ((nI k &&& 31).toBitVec.smod 32).toNat = k := by rcases hk with rfl | rfl | rfl | rfl <;> decide
  rw [by_and, pk_shr _ _ k hs, Int.shiftRight_eq_div_pow]
  rfl
theorem c_byte (x : Int32) {k : Nat} (hk : by_k k) : (vp_nar .byte (((x.toUInt32 >>> ((nI k).toUInt32 &&& Int32.toUInt32 31)).toInt32).toInt8.toInt32)) &&& 255 = nI (p_by x k) := by
  have hs : (((nI k).toUInt32 &&& Int32.toUInt32 31).toBitVec % 32).toNat = k := by rcases hk with rfl | rfl | rfl | rfl <;> decide
  have e := pk_ushr x (nI k) k hs
  rw [pk_vb, by_and, Int8.toInt_toInt32, Int32.toInt_toInt8]
  generalize (x.toUInt32 >>> ((nI k).toUInt32 &&& Int32.toUInt32 31)).toInt32 = u at e ⊢
  have eb : u.toInt.bmod (2 ^ 8) % 256 = u.toInt % 256 := Int.bmod_emod
  rw [eb]
  unfold p_by
  apply nI_c
  have h1 := by_nat x
  have h2 := by_nat u
  rcases hk with rfl | rfl | rfl | rfl <;> omega
def PT : Type := Nat × (Nat → Nat)
def pT1 (T : PT) (b : Nat) : PT := (T.1 + 1, fun i => if i = T.1 then b else T.2 i)
def pT4 (T : PT) (x : Int32) : PT := pT1 (pT1 (pT1 (pT1 T (p_by x 24)) (p_by x 16)) (p_by x 8)) (p_by x 0)
def cT (T : PT) (taI bF : Nat → Int32) : Prop := taI 1 = nI T.1 ∧ ∀ i, i < T.1 → bF i &&& 255 = nI (T.2 i) ∧ T.2 i < 256
def mT (T : PT) (mmI tF : Nat → Int32) : Prop := mmI 1 = nI T.1 ∧ ∀ i, i < T.1 → tF i = nI (T.2 i)
theorem cT_1 {T : PT} {taI bF : Nat → Int32} (h : cT T taI bF) {b : Nat} {v : Int32} (hv : v &&& 255 = nI b) (hb : b < 256) : cT (pT1 T b) (va_up taI 1 (taI 1 + 1)) (upd bF T.1 v) := by
  refine ⟨?_, fun i hi => ?_⟩
  · show taI 1 + 1 = nI (T.1 + 1)
    rw [h.1, nI_1]
  · have hi : i < T.1 + 1 := hi
    show upd bF T.1 v i &&& 255 = nI (if i = T.1 then b else T.2 i) ∧ (if i = T.1 then b else T.2 i) < 256
    by_cases c : i = T.1
    · subst c; rw [pk_us, if_pos rfl]; exact ⟨hv, hb⟩
    · rw [pk_un c, if_neg c]; exact h.2 i (by omega)
theorem mT_1 {T : PT} {mmI tF : Nat → Int32} (h : mT T mmI tF) {b : Nat} : mT (pT1 T b) (va_up mmI 1 (mmI 1 + 1)) (upd tF T.1 (nI b)) := by
  refine ⟨?_, fun i hi => ?_⟩
  · show mmI 1 + 1 = nI (T.1 + 1)
    rw [h.1, nI_1]
  · have hi : i < T.1 + 1 := hi
    show upd tF T.1 (nI b) i = nI (if i = T.1 then b else T.2 i)
    by_cases c : i = T.1
    · subst c; rw [pk_us, if_pos rfl]
    · rw [pk_un c, if_neg c]; exact h.2 i (by omega)
theorem c_add1 (N : Nat) {T : PT} {taI bF : Nat → Int32} (h : cT T taI bF) (hn : T.1 < 1600) (x : Int32) {k : Nat} (hk : by_k k) (kk) : ∃ taI' bF', fX9_add_l3 N kk (taI, bF, x, nI k) = kk (taI', bF', x, nI k + (-8)) ∧ cT (pT1 T (p_by x k)) taI' bF' ∧ ∀ i, i ≠ 1 → taI' i = taI i := by
  have hk' : k ≤ 24 := by rcases hk with rfl | rfl | rfl | rfl <;> omega
  refine ⟨_, _, ?_, cT_1 h (c_byte x hk) (p_by_lt x k), fun i hi => if_neg hi⟩
  dsimp only [fX9_add_l3]
  rw [if_neg (nI_pos (by omega)), h.1, if_neg (show ¬ (1600 : Int32) ≤ nI T.1 from nI_ge (b := 1600) hn (by omega)), xs_ast hn (by omega), xs_bd]
theorem c_add (N : Nat) (hN : 5000 ≤ N) {T : PT} {taI bF : Nat → Int32} (h : cT T taI bF) (hn : T.1 + 4 ≤ 1600) (x : Int32) : ∃ taI' bF', fX9_add N taI bF x = some (taI', bF') ∧ cT (pT4 T x) taI' bF' ∧ ∀ i, i ≠ 1 → taI' i = taI i := by
  obtain ⟨n, rfl⟩ : ∃ n, N = n + 5 := ⟨N - 5, by omega⟩
  unfold fX9_add
  obtain ⟨t1, b1, e1, h1, g1⟩ := c_add1 (n + 5) h (by omega) x (k := 24) (Or.inl rfl) (xq_loop (fX9_add_l3 (n + 5)) (n + 4))
  obtain ⟨t2, b2, e2, h2, g2⟩ := c_add1 (n + 5) h1 (show T.1 + 1 < 1600 by omega) x (k := 16) (Or.inr (Or.inl rfl)) (xq_loop (fX9_add_l3 (n + 5)) (n + 3))
  obtain ⟨t3, b3, e3, h3, g3⟩ := c_add1 (n + 5) h2 (show T.1 + 1 + 1 < 1600 by omega) x (k := 8) (Or.inr (Or.inr (Or.inl rfl))) (xq_loop (fX9_add_l3 (n + 5)) (n + 2))
  obtain ⟨t4, b4, e4, h4, g4⟩ := c_add1 (n + 5) h3 (show T.1 + 1 + 1 + 1 < 1600 by omega) x (k := 0) (Or.inr (Or.inr (Or.inr rfl))) (xq_loop (fX9_add_l3 (n + 5)) (n + 1))
  refine ⟨t4, b4, ?_, h4, fun i hi => (g4 i hi).trans ((g3 i hi).trans ((g2 i hi).trans (g1 i hi)))⟩
  refine e1.trans (e2.trans (e3.trans (e4.trans ?_)))
  show fX9_add_l3 (n + 5) _ (t4, b4, x, nI 0 + (-8)) = _
  dsimp only [fX9_add_l3]
  rw [if_pos (by decide)]
theorem m_put1 (N : Nat) {T : PT} {mmI tF : Nat → Int32} (h : mT T mmI tF) (hn : T.1 < 1800) (x : Int32) {k : Nat} (hk : by_k k) (kk) : ∃ mmI' tF', fX12_put_l3 N kk (mmI, tF, x, nI k) = kk (mmI', tF', x, nI k + (-8)) ∧ mT (pT1 T (p_by x k)) mmI' tF' ∧ ∀ i, i ≠ 1 → mmI' i = mmI i := by
  have hk' : k ≤ 24 := by rcases hk with rfl | rfl | rfl | rfl <;> omega
  refine ⟨_, _, ?_, mT_1 h (b := p_by x k), fun i hi => if_neg hi⟩
  dsimp only [fX12_put_l3]
  rw [if_neg (nI_pos (by omega)), h.1, xs_ast hn (by omega), xs_bd, m_byte x hk]
theorem m_put (N : Nat) (hN : 5000 ≤ N) {T : PT} {mmI tF : Nat → Int32} (h : mT T mmI tF) (hn : T.1 + 4 ≤ 1800) (x : Int32) : ∃ mmI' tF', fX12_put N mmI tF x = some (mmI', tF') ∧ mT (pT4 T x) mmI' tF' ∧ ∀ i, i ≠ 1 → mmI' i = mmI i := by
  obtain ⟨n, rfl⟩ : ∃ n, N = n + 5 := ⟨N - 5, by omega⟩
  unfold fX12_put
  obtain ⟨t1, b1, e1, h1, g1⟩ := m_put1 (n + 5) h (by omega) x (k := 24) (Or.inl rfl) (xq_loop (fX12_put_l3 (n + 5)) (n + 4))
  obtain ⟨t2, b2, e2, h2, g2⟩ := m_put1 (n + 5) h1 (show T.1 + 1 < 1800 by omega) x (k := 16) (Or.inr (Or.inl rfl)) (xq_loop (fX12_put_l3 (n + 5)) (n + 3))
  obtain ⟨t3, b3, e3, h3, g3⟩ := m_put1 (n + 5) h2 (show T.1 + 1 + 1 < 1800 by omega) x (k := 8) (Or.inr (Or.inr (Or.inl rfl))) (xq_loop (fX12_put_l3 (n + 5)) (n + 2))
  obtain ⟨t4, b4, e4, h4, g4⟩ := m_put1 (n + 5) h3 (show T.1 + 1 + 1 + 1 < 1800 by omega) x (k := 0) (Or.inr (Or.inr (Or.inr rfl))) (xq_loop (fX12_put_l3 (n + 5)) (n + 1))
  refine ⟨t4, b4, ?_, h4, fun i hi => (g4 i hi).trans ((g3 i hi).trans ((g2 i hi).trans (g1 i hi)))⟩
  refine e1.trans (e2.trans (e3.trans (e4.trans ?_)))
  show fX12_put_l3 (n + 5) _ (t4, b4, x, nI 0 + (-8)) = _
  dsimp only [fX12_put_l3]
  rw [if_pos (by decide)]
def pT20 (T : PT) (a b c d e : Int32) : PT := pT4 (pT4 (pT4 (pT4 (pT4 T a) b) c) d) e
theorem pT4_n (T : PT) (x : Int32) : (pT4 T x).1 = T.1 + 4 := rfl
theorem pT20_n (T : PT) (a b c d e : Int32) : (pT20 T a b c d e).1 = T.1 + 20 := rfl
theorem c_feed_no (N : Nat) {T : PT} {tapeI tape_bytesF dv_refusedF : Nat → Int32} (h : cT T tapeI tape_bytesF) (hT : T.1 ≤ 1600) (hn : 1580 < T.1) (a b c d e : Int32) : fX11_feed N tapeI tape_bytesF dv_refusedF a b c d e = some (-1, tapeI, tape_bytesF, upd dv_refusedF 0 (dv_refusedF 0 + 1)) := by
  unfold fX11_feed
  rw [h.1, if_neg (show ¬ nI T.1 ≤ (1580 : Int32) from nI_ge (a := 1580) hn (by omega))]
  show xq_bd (fX11_refuseNumber N dv_refusedF (nI 0)) _ = _
  rw [c_refuseN N (by omega), xs_bd]
theorem c_feed_yes (N : Nat) (hN : 5000 ≤ N) {T : PT} {tapeI tape_bytesF dv_refusedF : Nat → Int32} (h : cT T tapeI tape_bytesF) (hn : T.1 ≤ 1580) (a b c d e : Int32) : ∃ tapeI' bF', fX11_feed N tapeI tape_bytesF dv_refusedF a b c d e = some (nI (T.1 + 20), tapeI', bF', dv_refusedF) ∧ cT (pT20 T a b c d e) tapeI' bF' ∧ ∀ i, i ≠ 1 → tapeI' i = tapeI i := by
  obtain ⟨t1, b1, e1, h1, g1⟩ := c_add N hN h (by omega) a
  obtain ⟨t2, b2, e2, h2, g2⟩ := c_add N hN h1 (by rw [pT4_n]; omega) b
  obtain ⟨t3, b3, e3, h3, g3⟩ := c_add N hN h2 (by rw [pT4_n, pT4_n]; omega) c
  obtain ⟨t4, b4, e4, h4, g4⟩ := c_add N hN h3 (by rw [pT4_n, pT4_n, pT4_n]; omega) d
  obtain ⟨t5, b5, e5, h5, g5⟩ := c_add N hN h4 (by rw [pT4_n, pT4_n, pT4_n, pT4_n]; omega) e
  refine ⟨t5, b5, ?_, h5, fun i hi => (g5 i hi).trans ((g4 i hi).trans ((g3 i hi).trans ((g2 i hi).trans (g1 i hi))))⟩
  unfold fX11_feed
  rw [h.1, if_pos (show nI T.1 ≤ (1580 : Int32) from nI_le (b := 1580) hn (by omega)), e1, xs_bd]
  dsimp only
  rw [e2, xs_bd]
  dsimp only
  rw [e3, xs_bd]
  dsimp only
  rw [e4, xs_bd]
  dsimp only
  rw [e5, xs_bd]
  dsimp only
  rw [h5.1]
  rfl
theorem m_feed_no (N : Nat) {T : PT} {mmI mm_tapeF mm_refusedF : Nat → Int32} (h : mT T mmI mm_tapeF) (hT : T.1 ≤ 1600) (hn : 1580 < T.1) (a b c d e : Int32) : fX12_feed N mmI mm_tapeF mm_refusedF a b c d e = some (-1, mmI, mm_tapeF, upd mm_refusedF 0 (mm_refusedF 0 + 1)) := by
  unfold fX12_feed
  have e20 : nI T.1 + 20 = nI (T.1 + 20) := nI_add T.1 20
  rw [h.1, e20, if_neg (show ¬ nI (T.1 + 20) ≤ (1600 : Int32) from nI_ge (a := 1600) (by omega) (by omega))]
  show xq_bd (fX12_refuses N mm_refusedF (nI 0)) _ = _
  rw [m_refuses N (by omega), xs_bd]
theorem m_feed_yes (N : Nat) (hN : 5000 ≤ N) {T : PT} {mmI mm_tapeF mm_refusedF : Nat → Int32} (h : mT T mmI mm_tapeF) (hn : T.1 ≤ 1580) (a b c d e : Int32) : ∃ mmI' tF', fX12_feed N mmI mm_tapeF mm_refusedF a b c d e = some (nI (T.1 + 20), mmI', tF', mm_refusedF) ∧ mT (pT20 T a b c d e) mmI' tF' ∧ ∀ i, i ≠ 1 → mmI' i = mmI i := by
  obtain ⟨t1, b1, e1, h1, g1⟩ := m_put N hN h (by omega) a
  obtain ⟨t2, b2, e2, h2, g2⟩ := m_put N hN h1 (by rw [pT4_n]; omega) b
  obtain ⟨t3, b3, e3, h3, g3⟩ := m_put N hN h2 (by rw [pT4_n, pT4_n]; omega) c
  obtain ⟨t4, b4, e4, h4, g4⟩ := m_put N hN h3 (by rw [pT4_n, pT4_n, pT4_n]; omega) d
  obtain ⟨t5, b5, e5, h5, g5⟩ := m_put N hN h4 (by rw [pT4_n, pT4_n, pT4_n, pT4_n]; omega) e
  refine ⟨t5, b5, ?_, h5, fun i hi => (g5 i hi).trans ((g4 i hi).trans ((g3 i hi).trans ((g2 i hi).trans (g1 i hi))))⟩
  have e20 : nI T.1 + 20 = nI (T.1 + 20) := nI_add T.1 20
  unfold fX12_feed
  rw [h.1, e20, if_pos (show nI (T.1 + 20) ≤ (1600 : Int32) from nI_le (b := 1600) (by omega) (by omega)), e1, xs_bd]
  dsimp only
  rw [e2, xs_bd]
  dsimp only
  rw [e3, xs_bd]
  dsimp only
  rw [e4, xs_bd]
  dsimp only
  rw [e5, xs_bd]
  dsimp only
  rw [h5.1]
  rfl
def pa_end (T : PT) (x : Int32) : Bool := decide (0 ≤ x.toInt ∧ x.toInt ≤ T.1)
def pT_cut (T : PT) (n : Nat) : PT := (n, T.2)
theorem pa_end_yes {T : PT} {x : Int32} (h : pa_end T x = true) : ∃ n : Nat, x = nI n ∧ n ≤ T.1 := by
  have h := of_decide_eq_true h
  refine ⟨x.toInt.toNat, ?_, by omega⟩
  rw [fa_eq, nI_toInt (by have := fb_rng x; omega)]; omega
theorem cT_cut {T : PT} {taI bF : Nat → Int32} (h : cT T taI bF) {n : Nat} (hn : n ≤ T.1) : cT (pT_cut T n) (va_up taI 1 (nI n)) bF := ⟨rfl, fun i hi => h.2 i (Nat.lt_of_lt_of_le hi hn)⟩
theorem mT_cut {T : PT} {mmI tF : Nat → Int32} (h : mT T mmI tF) {n : Nat} (hn : n ≤ T.1) : mT (pT_cut T n) (va_up mmI 1 (nI n)) tF := ⟨rfl, fun i hi => h.2 i (Nat.lt_of_lt_of_le hi hn)⟩
theorem c_end_no (N : Nat) {T : PT} {tapeI bF dv_refusedF : Nat → Int32} (h : cT T tapeI bF) (hT : T.1 ≤ 1600) {x : Int32} (hx : pa_end T x = false) : fX11_end N tapeI dv_refusedF x = some (0, tapeI, upd dv_refusedF 0 (dv_refusedF 0 + 1)) := by
  have hb : fX11_end_b15 N (tapeI, dv_refusedF) = some (0, tapeI, upd dv_refusedF 0 (dv_refusedF 0 + 1)) := by
    dsimp only [fX11_end_b15]
    show xq_bd (fX11_refuse N dv_refusedF (nI 0)) _ = _
    rw [c_refuse N (by omega), xs_bd]; rfl
  have g := of_decide_eq_false hx
  have e0 : (0 : Int32).toInt = 0 := rfl
  unfold fX11_end
  by_cases c : x < 0
  · rw [if_pos c, hb]
  · rw [if_neg c, h.1, if_neg (by rw [fa_le, nI_toInt (by omega)]; rw [fa_lt, e0] at c; omega), hb]
theorem c_end_yes (N : Nat) {T : PT} {tapeI bF dv_refusedF : Nat → Int32} (h : cT T tapeI bF) (hT : T.1 ≤ 1600) {n : Nat} (hn : n ≤ T.1) : fX11_end N tapeI dv_refusedF (nI n) = some (1, va_up tapeI 1 (nI n), dv_refusedF) := by
  unfold fX11_end
  rw [if_neg (nI_pos (by omega)), h.1, if_pos (nI_le hn (by omega))]
theorem m_end_no (N : Nat) {T : PT} {mmI tF mm_refusedF : Nat → Int32} (h : mT T mmI tF) (hT : T.1 ≤ 1600) {x : Int32} (hx : pa_end T x = false) : fX12_end N mmI mm_refusedF x = some (0, mmI, upd mm_refusedF 0 (mm_refusedF 0 + 1)) := by
  have hb : fX12_end_b12 N (mmI, mm_refusedF) = some (0, mmI, upd mm_refusedF 0 (mm_refusedF 0 + 1)) := by
    dsimp only [fX12_end_b12]
    show xq_bd (fX12_refuses N mm_refusedF (nI 0)) _ = _
    rw [m_refuses N (by omega), xs_bd]; rfl
  have g := of_decide_eq_false hx
  have e0 : (0 : Int32).toInt = 0 := rfl
  unfold fX12_end
  by_cases c : x < 0
  · rw [if_pos c, hb]
  · rw [if_neg c, h.1, if_neg (by rw [fa_le, nI_toInt (by omega)]; rw [fa_lt, e0] at c; omega), hb]
theorem m_end_yes (N : Nat) {T : PT} {mmI tF mm_refusedF : Nat → Int32} (h : mT T mmI tF) (hT : T.1 ≤ 1600) {n : Nat} (hn : n ≤ T.1) : fX12_end N mmI mm_refusedF (nI n) = some (1, va_up mmI 1 (nI n), mm_refusedF) := by
  unfold fX12_end
  rw [if_neg (nI_pos (by omega)), h.1, if_pos (nI_le hn (by omega))]
/-- a byte of the tape -/
theorem c_at (N : Nat) {T : PT} {taI bF : Nat → Int32} (h : cT T taI bF) (hT : T.1 ≤ 1600) {i : Nat} (hi : i < T.1) : fX9_at N taI bF (nI i) = some (nI (T.2 i)) := by
  unfold fX9_at
  rw [if_neg (nI_pos (by omega)), h.1, if_pos ((nI_ltI (by omega) (by omega)).mpr hi), xs_ald (by omega) (by omega), xs_bd, (h.2 i hi).1]
theorem c_at_no (N : Nat) {T : PT} {taI bF : Nat → Int32} (h : cT T taI bF) (hT : T.1 ≤ 1600) {i : Nat} (hi : T.1 ≤ i) (h2 : i < 2 ^ 31) : fX9_at N taI bF (nI i) = some (-1) := by
  unfold fX9_at
  rw [if_neg (nI_pos (by omega)), h.1, if_neg (fun z => by have := (nI_ltI (by omega) (by omega)).mp z; omega)]
