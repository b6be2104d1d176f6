/-! seats: sets of rows, the best that is left -/
theorem st_free : ∀ T, T < 1024 → ∀ r, r < 10 → T / 2 ^ r % 2 = 0 → (T ||| 2 ^ r) = T + 2 ^ r ∧ pc (T + 2 ^ r) = pc T + 1 ∧ T + 2 ^ r < 1024 := by decide +kernel
theorem st_some : ∀ T, T < 1024 → pc T < 10 → ∃ r, r < 10 ∧ T / 2 ^ r % 2 = 0 := by decide +kernel
theorem st_0 : pc 0 = 0 := by decide
/-- the best total of the first r rows that are free -/
def st_mx (T : Nat) (val : Nat → Nat) : Nat → Nat
  | 0 => 0
  | r + 1 => if T / 2 ^ r % 2 = 0 ∧ st_mx T val r < val r then val r else st_mx T val r
/-- the first row that has it; 1000 without one -/
def st_rw (T : Nat) (val : Nat → Nat) : Nat → Nat
  | 0 => 1000
  | r + 1 => if T / 2 ^ r % 2 = 0 ∧ (st_rw T val r = 1000 ∨ val (st_rw T val r) < val r) then r else st_rw T val r
theorem st_rw_s (T : Nat) (val : Nat → Nat) (r : Nat) : st_rw T val (r + 1) = if T / 2 ^ r % 2 = 0 ∧ (st_rw T val r = 1000 ∨ val (st_rw T val r) < val r) then r else st_rw T val r := rfl
theorem st_mx_s (T : Nat) (val : Nat → Nat) (r : Nat) : st_mx T val (r + 1) = if T / 2 ^ r % 2 = 0 ∧ st_mx T val r < val r then val r else st_mx T val r := rfl
theorem st_inv (T : Nat) (val : Nat → Nat) : ∀ r, r ≤ 10 → (st_rw T val r = 1000 ∧ st_mx T val r = 0 ∧ ∀ q, q < r → ¬ T / 2 ^ q % 2 = 0) ∨ (st_rw T val r < r ∧ T / 2 ^ (st_rw T val r) % 2 = 0 ∧ st_mx T val r = val (st_rw T val r) ∧ (∀ q, q < r → T / 2 ^ q % 2 = 0 → val q ≤ st_mx T val r) ∧ (∀ q, q < st_rw T val r → T / 2 ^ q % 2 = 0 → val q < st_mx T val r))
  | 0, _ => Or.inl ⟨rfl, rfl, fun q hq => absurd hq (Nat.not_lt_zero _)⟩
  | r + 1, hr => by
    rw [st_rw_s, st_mx_s]
    rcases st_inv T val r (by omega) with ⟨a, b, c⟩ | ⟨a, b, c, d, e⟩
    · by_cases f : T / 2 ^ r % 2 = 0
      · rw [if_pos ⟨f, Or.inl a⟩]
        refine Or.inr ⟨Nat.lt_succ_self r, f, ?_, ?_, ?_⟩
        · by_cases g : st_mx T val r < val r
          · rw [if_pos ⟨f, g⟩]
          · rw [if_neg (fun z => g z.2)]; omega
        · intro q hq hf
          by_cases g : q = r
          · subst g
            by_cases g : st_mx T val q < val q
            · rw [if_pos ⟨f, g⟩]; exact Nat.le_refl _
            · rw [if_neg (fun z => g z.2)]; omega
          · exact absurd hf (c q (by omega))
        · intro q hq hf
          exact absurd hf (c q hq)
      · rw [if_neg (fun z => f z.1), if_neg (fun z => f z.1)]
        refine Or.inl ⟨a, b, fun q hq => ?_⟩
        by_cases g : q = r
        · rw [g]; exact f
        · exact c q (by omega)
    · by_cases f : T / 2 ^ r % 2 = 0 ∧ st_mx T val r < val r
      · rw [if_pos f, if_pos ⟨f.1, Or.inr (by rw [← c]; exact f.2)⟩]
        refine Or.inr ⟨Nat.lt_succ_self r, f.1, rfl, ?_, ?_⟩
        · intro q hq hf
          by_cases g : q = r
          · rw [g]; exact Nat.le_refl _
          · have := d q (by omega) hf; omega
        · intro q hq hf
          have := d q (by omega) hf; omega
      · rw [if_neg f, if_neg (fun z => by
          rcases z.2 with w | w
          · omega
          · exact f ⟨z.1, by rw [c]; exact w⟩)]
        refine Or.inr ⟨by omega, b, c, ?_, e⟩
        intro q hq hf
        by_cases g : q = r
        · subst g
          apply Nat.le_of_not_lt
          intro z; exact f ⟨hf, z⟩
        · exact d q (by omega) hf
theorem st_full {T : Nat} (hT : T < 1024) (hp : pc T < 10) (val : Nat → Nat) : st_rw T val 10 < 10 ∧ T / 2 ^ (st_rw T val 10) % 2 = 0 ∧ st_mx T val 10 = val (st_rw T val 10) ∧ (∀ q, q < st_rw T val 10 → T / 2 ^ q % 2 = 0 → val q < st_mx T val 10) := by
  rcases st_inv T val 10 (Nat.le_refl _) with ⟨a, b, c⟩ | ⟨a, b, c, d, e⟩
  · obtain ⟨r, h1, h2⟩ := st_some T hT hp
    exact absurd h2 (c r h1)
  · exact ⟨a, b, c, e⟩
/-- what d EARS from e on can have, with those rows taken -/
def st_V (G : Nat → Nat → Nat) : Nat → Nat → Nat → Nat
  | 0, _, _ => 0
  | d + 1, e, T => st_mx T (fun r => G e r + st_V G d (e + 1) (T + 2 ^ r)) 10
theorem st_mx_le {T : Nat} {val : Nat → Nat} {B : Nat} (h : ∀ r, val r ≤ B) : ∀ r, st_mx T val r ≤ B
  | 0 => Nat.zero_le _
  | r + 1 => by
    rw [st_mx_s]
    split
    · exact h r
    · exact st_mx_le h r
theorem st_V_le {G : Nat → Nat → Nat} (hG : ∀ e r, G e r ≤ 40) : ∀ d e T, st_V G d e T ≤ 40 * d
  | 0, _, _ => Nat.le_refl _
  | d + 1, e, T => st_mx_le (fun r => by have := hG e r; have := st_V_le hG d (e + 1) (T + 2 ^ r); omega) 10
/-- what a row is worth -/
def st_val (G : Nat → Nat → Nat) (E e T : Nat) (r : Nat) : Nat := G e r + st_V G (E - (e + 1)) (e + 1) (T + 2 ^ r)
theorem st_V_e {G : Nat → Nat → Nat} {E e T : Nat} (h : e < E) : st_V G (E - e) e T = st_mx T (st_val G E e T) 10 := by
  obtain ⟨d, hd⟩ : ∃ d, E - e = d + 1 := ⟨E - e - 1, by omega⟩
  rw [hd]
  have : d = E - (e + 1) := by omega
  rw [this]; rfl
/-- rows taken ahead of EAR e, its own row -/
def st_tk (G : Nat → Nat → Nat) (E : Nat) : Nat → Nat
  | 0 => 0
  | e + 1 => st_tk G E e + 2 ^ (st_rw (st_tk G E e) (st_val G E e (st_tk G E e)) 10)
def st_sr (G : Nat → Nat → Nat) (E e : Nat) : Nat := st_rw (st_tk G E e) (st_val G E e (st_tk G E e)) 10
theorem st_tk_ok (G : Nat → Nat → Nat) (E : Nat) : ∀ e, e ≤ 7 → st_tk G E e < 1024 ∧ pc (st_tk G E e) = e
  | 0, _ => ⟨by show 0 < 1024; omega, st_0⟩
  | e + 1, h => by
    obtain ⟨a, b⟩ := st_tk_ok G E e (by omega)
    obtain ⟨c, d, -, -⟩ := st_full a (by omega) (st_val G E e (st_tk G E e))
    obtain ⟨f1, f2, f3⟩ := st_free _ a _ c d
    exact ⟨f3, by show pc (st_tk G E e + 2 ^ (st_rw (st_tk G E e) (st_val G E e (st_tk G E e)) 10)) = e + 1; rw [f2, b]⟩
theorem xs_orrow {T r : Nat} (hT : T < 1024) (hr : r < 10) (h : T / 2 ^ r % 2 = 0) : nI T ||| ((1 : Int32) <<< (nI r &&& 31)) = nI (T + 2 ^ r) := by
  rw [xs_one r (by omega), fa_or, (st_free T hT r hr h).1]
/-- the class's table and rows -/
def st_best (G : Nat → Nat → Nat) (E T : Nat) : Nat := st_V G (E - pc T) (pc T) T
section SC
variable (N : Nat) {G : Nat → Nat → Nat} {E : Nat} {gF : Nat → Int32}
theorem c_gain (hG : ∀ e r, G e r ≤ 40) (hg : ∀ e r, e < 7 → r < 10 → gF (10 * e + r) = nI (G e r)) {bF : Nat → Int32} {e T r : Nat} (he : e < 7) (hr : r < 10) (hT : T < 1024) (hf : T / 2 ^ r % 2 = 0) (hp : pc T = e) (hb : bF (T + 2 ^ r) = nI (st_best G E (T + 2 ^ r))) : fX8_gainOf N gF bF (nI e) (nI r) (nI T) = some (nI (st_val G E e T r)) := by
  obtain ⟨f1, f2, f3⟩ := st_free T hT r hr hf
  unfold fX8_gainOf
  have e1 : nI e * 10 + nI r = nI (10 * e + r) := by
    show nI e * nI 10 + nI r = _
    rw [pk_mul, nI_add, Nat.mul_comm]
  rw [e1, xs_ald (by omega) (by omega), xs_bd, hg e r he hr, xs_orrow hT hr hf, xs_ald f3 (by omega), xs_bd, hb, nI_add]
  have : st_best G E (T + 2 ^ r) = st_V G (E - (e + 1)) (e + 1) (T + 2 ^ r) := by unfold st_best; rw [f2, hp]
  rw [this]; rfl
theorem c_bestRow (hN : 5000 ≤ N) (hG : ∀ e r, G e r ≤ 40) (hg : ∀ e r, e < 7 → r < 10 → gF (10 * e + r) = nI (G e r)) {bF : Nat → Int32} {e T : Nat} (hE : E ≤ 7) (he : e < 7) (hT : T < 1024) (hp : pc T = e) (hb : ∀ r, r < 10 → T / 2 ^ r % 2 = 0 → bF (T + 2 ^ r) = nI (st_best G E (T + 2 ^ r))) : fX8_bestRow N gF bF (nI e) (nI T) = some (p_st (st_rw T (st_val G E e T) 10)) := by
  have hv : ∀ r, st_val G E e T r ≤ 400 := fun r => by
    have := hG e r
    have := st_V_le hG (E - (e + 1)) (e + 1) (T + 2 ^ r)
    unfold st_val; omega
  refine xs_loop (body := fX8_bestRow_l5 N gF bF) (fun i => (nI e, nI T, p_st (st_rw T (st_val G E e T) i), nI i)) 10 _ ?_ ?_ N (by omega)
  · intro i hi kk
    dsimp only [fX8_bestRow_l5]
    rw [if_neg (show ¬ (10 : Int32) ≤ nI i from nI_ge (b := 10) hi (by omega)), xs_bit (by omega) (by omega), st_rw_s]
    have hbit : T / 2 ^ i % 2 < 2 := Nat.mod_lt _ (by omega)
    have hst : p_st i = nI i := by unfold p_st; rw [if_neg (by omega)]
    by_cases f : T / 2 ^ i % 2 = 0
    · rw [f, if_pos (show nI 0 = (0 : Int32) from rfl)]
      dsimp only [fX8_bestRow_b26]
      rw [if_neg (show ¬ (1 : Int32) = 0 from by decide)]
      rcases st_inv T (st_val G E e T) i (by omega) with ⟨a, b, c⟩ | ⟨a, b, c, d, e'⟩
      · rw [a, if_pos (show p_st 1000 = -1 from rfl), if_pos ⟨rfl, Or.inl rfl⟩, hst]
        dsimp only [fX8_bestRow_b56, fX8_bestRow_b59]
        rw [nI_1]
      · have est : p_st (st_rw T (st_val G E e T) i) = nI (st_rw T (st_val G E e T) i) := by unfold p_st; rw [if_neg (by omega)]
        have h1 := hv i
        have h2 := hv (st_rw T (st_val G E e T) i)
        rw [if_neg (p_st_m1 (by omega)), c_gain N hG hg he hi hT f hp (hb i hi f), xs_bd, est, c_gain N hG hg he (by omega) hT b hp (hb _ (by omega) b), xs_bd]
        by_cases q : st_val G E e T (st_rw T (st_val G E e T) i) < st_val G E e T i
        · rw [if_neg (nI_ge q (by omega)), if_pos ⟨rfl, Or.inr q⟩, hst]
          dsimp only [fX8_bestRow_b56, fX8_bestRow_b59]
          rw [nI_1]
        · rw [if_pos (nI_le (by omega) (by omega)), if_neg (fun z => by
            rcases z.2 with w | w
            · omega
            · exact q w), est]
          dsimp only [fX8_bestRow_b59]
          rw [nI_1]
    · have f1 : T / 2 ^ i % 2 = 1 := by omega
      rw [f1, if_neg (show ¬ nI 1 = (0 : Int32) from by decide), if_neg (fun z => by omega)]
      dsimp only [fX8_bestRow_b26, fX8_bestRow_b59]
      rw [if_pos (show (0 : Int32) = 0 from rfl), nI_1]
  · intro kk
    dsimp only [fX8_bestRow_l5]
    rw [if_pos (show (10 : Int32) ≤ nI 10 from by decide)]
theorem c_settle (hN : 5000 ≤ N) (hG : ∀ e r, G e r ≤ 40) (hg : ∀ e r, e < 7 → r < 10 → gF (10 * e + r) = nI (G e r)) (hE : E ≤ 7) {bF rF : Nat → Int32} : ∃ b' r', fX8_settle N bF gF rF (nI E) = some (b', r') ∧ b' 0 = nI (st_V G E 0 0) ∧ ∀ e, e < E → r' e = nI (st_sr G E e) := by
  have hV : ∀ T, st_best G E T ≤ 400 := fun T => by
    have := st_V_le hG (E - pc T) (pc T) T
    unfold st_best; omega
  refine xs_loopI (body := fX8_settle_l8 N gF) (fun k st => ∃ b1, (k = 0 → st = (b1, rF, nI E, -1)) ∧ (0 < k → st = (b1, rF, nI E, nI (k - 1))) ∧ k ≤ 1024 ∧ ∀ T, k ≤ T → T < 1024 → b1 T = nI (st_best G E T)) (fun q => ∃ b' r', q = some (b', r') ∧ b' 0 = nI (st_V G E 0 0) ∧ ∀ e, e < E → r' e = nI (st_sr G E e)) ?_ N 1024 _ ⟨bF, fun h => absurd h (by omega), fun _ => rfl, Nat.le_refl _, fun T h1 h2 => absurd h1 (by omega)⟩ (by omega)
  rintro k st kk ⟨b1, h0, h1, hk, hT⟩ hgo
  by_cases c : k = 0
  · rw [h0 c]
    subst c
    dsimp only [fX8_settle_l8]
    rw [if_pos (show (-1 : Int32) < 0 from by decide)]
    refine xs_loopI (body := fX8_settle_l68 N gF) (fun k2 st => ∃ r1 e, st = (b1, r1, nI E, nI (st_tk G E e), nI e) ∧ e + k2 = E ∧ ∀ q, q < e → r1 q = nI (st_sr G E q)) (fun q => ∃ b' r', q = some (b', r') ∧ b' 0 = nI (st_V G E 0 0) ∧ ∀ e, e < E → r' e = nI (st_sr G E e)) ?_ N E _ ⟨rF, 0, rfl, by omega, fun q hq => absurd hq (Nat.not_lt_zero _)⟩ (by omega)
    rintro k2 st kk2 ⟨r1, e, rfl, he, hr⟩ hgo2
    show ∃ b' r', (if nI E ≤ nI e then _ else _) = _ ∧ _
    by_cases c2 : E ≤ e
    · have : e = E := by omega
      subst this
      rw [if_pos (nI_le (Nat.le_refl _) (by omega))]
      refine ⟨b1, r1, rfl, ?_, hr⟩
      rw [hT 0 (Nat.le_refl _) (by omega)]
      unfold st_best
      rw [st_0]; rfl
    · obtain ⟨t1, t2⟩ := st_tk_ok G E e (by omega)
      obtain ⟨c3, d3, -, -⟩ := st_full t1 (by omega) (st_val G E e (st_tk G E e))
      have est : p_st (st_rw (st_tk G E e) (st_val G E e (st_tk G E e)) 10) = nI (st_sr G E e) := by unfold p_st; rw [if_neg (by omega)]; rfl
      have emx : xq_max 0 (nI (st_sr G E e)) = nI (st_sr G E e) := by
        show xq_max (nI 0) _ = _
        rw [xs_max (by omega) (by unfold st_sr; omega)]
        exact nI_c (by omega)
      rw [if_neg (nI_ge (by omega) (by omega)), c_bestRow N hN hG hg hE (by omega) t1 t2 (fun r hr hf => hT _ (Nat.zero_le _) (st_free _ t1 r hr hf).2.2), xs_bd, est, emx, xs_ast (show e < 7 by omega) (by omega), xs_bd, xs_ald (show e < 7 by omega) (by omega), xs_bd, pk_us, xs_orrow t1 (show st_sr G E e < 10 from c3) d3, nI_1]
      refine hgo2 _ (k2 - 1) (by omega) ⟨_, e + 1, rfl, by omega, fun q hq => ?_⟩
      by_cases g : q = e
      · subst g; exact pk_us
      · rw [pk_un g]; exact hr q (by omega)
  · obtain ⟨T, rfl⟩ : ∃ T, k = T + 1 := ⟨k - 1, by omega⟩
    rw [h1 (by omega), Nat.add_sub_cancel]
    dsimp only [fX8_settle_l8]
    have hTb : T < 1024 := by omega
    have hp := pcN_le 10 T
    have hpc : pc T ≤ 10 := hp
    rw [if_neg (nI_pos (by omega)), c_bitc N hTb, xs_bd]
    -- one more entry
    have fin : ∀ x : Int32, x = nI (st_best G E T) → ∃ b' r', fX8_settle_b57 N gF kk (b1, rF, nI E, nI T, nI T, x) = some (b', r') ∧ b' 0 = nI (st_V G E 0 0) ∧ ∀ e, e < E → r' e = nI (st_sr G E e) := by
      intro x hx
      dsimp only [fX8_settle_b57]
      rw [xs_ast hTb (by omega), xs_bd]
      refine hgo _ T (by omega) ⟨upd b1 T x, fun h => ?_, fun h => ?_, by omega, fun T' h1 h2 => ?_⟩
      · subst h; rfl
      · obtain ⟨q, rfl⟩ : ∃ q, T = q + 1 := ⟨T - 1, by omega⟩
        rw [pk_m1, Nat.add_sub_cancel]
      · by_cases g : T' = T
        · subst g; rw [pk_us, hx]
        · rw [pk_un g]; exact hT T' (by omega) h2
    by_cases c2 : E ≤ pc T
    · rw [if_pos (nI_le c2 (by omega))]
      dsimp only [fX8_settle_b32]
      rw [if_pos (show (-1 : Int32) = -1 from rfl)]
      refine fin 0 ?_
      unfold st_best
      rw [show E - pc T = 0 by omega]; rfl
    · have hbT : ∀ r, r < 10 → T / 2 ^ r % 2 = 0 → b1 (T + 2 ^ r) = nI (st_best G E (T + 2 ^ r)) := fun r hr hf => hT _ (by have := Nat.two_pow_pos r; omega) (st_free T hTb r hr hf).2.2
      obtain ⟨c3, d3, m3, -⟩ := st_full hTb (by omega) (st_val G E (pc T) T)
      have est : p_st (st_rw T (st_val G E (pc T) T) 10) = nI (st_rw T (st_val G E (pc T) T) 10) := by unfold p_st; rw [if_neg (by omega)]
      rw [if_neg (nI_ge (by omega) (by omega)), c_bestRow N hN hG hg hE (by omega) hTb rfl hbT, xs_bd]
      dsimp only [fX8_settle_b32]
      rw [if_neg (p_st_m1 (by omega)), est, c_gain N hG hg (by omega) c3 hTb d3 rfl (hbT _ c3 d3), xs_bd]
      refine fin _ ?_
      unfold st_best
      rw [st_V_e (by omega), m3]
end SC
