/-! own rows of the pure side: arrays at written places, loops with a measure, small numbers -/
theorem xs_ald {n k : Nat} {f : Nat → Int32} (h : k < n) (hn : n < 2 ^ 31) : xq_ald n f (nI k) = some (f k) := by
  unfold xq_ald
  rw [if_neg (nI_in h hn), nI_clamp (Nat.lt_trans h hn)]
theorem xs_ast {n k : Nat} {f : Nat → Int32} {x : Int32} (h : k < n) (hn : n < 2 ^ 31) : xq_ast n f (nI k) x = some (upd f k x) := by
  unfold xq_ast
  rw [if_neg (nI_in h hn), nI_clamp (Nat.lt_trans h hn)]
theorem xs_aldL {n k : Nat} {f : Nat → Int64} (h : k < n) (hn : n < 2 ^ 31) : xq_aldL n f (nI k) = some (f k) := by
  unfold xq_aldL
  rw [if_neg (nI_in h hn), nI_clamp (Nat.lt_trans h hn)]
theorem xs_astL {n k : Nat} {f : Nat → Int64} {x : Int64} (h : k < n) (hn : n < 2 ^ 31) : xq_astL n f (nI k) x = some (vp_updL f k x) := by
  unfold xq_astL
  rw [if_neg (nI_in h hn), nI_clamp (Nat.lt_trans h hn)]
theorem xs_bd {α β : Type} (a : α) (k : α → Option β) : xq_bd (some a) k = k a := rfl
theorem xs_dv {a b : Nat} (ha : a < 2 ^ 31) (h0 : 0 < b) (hb : b < 2 ^ 31) : xq_dv (nI a) (nI b) = some (nI (a / b)) := by
  unfold xq_dv
  rw [if_neg (nI_ne0 h0 hb), pk_div ha h0 hb]
theorem xs_rm {a b : Nat} (ha : a < 2 ^ 31) (h0 : 0 < b) (hb : b < 2 ^ 31) : xq_rm (nI a) (nI b) = some (nI (a % b)) := by
  unfold xq_rm
  rw [if_neg (nI_ne0 h0 hb), pk_rem ha h0 hb]
theorem xs_min {a b : Nat} (ha : a < 2 ^ 31) (hb : b < 2 ^ 31) : xq_min (nI a) (nI b) = nI (min a b) := by
  unfold xq_min
  by_cases h : b < a
  · rw [if_pos ((nI_ltI hb ha).mpr h), Nat.min_eq_right (Nat.le_of_lt h)]
  · rw [if_neg (fun z => h ((nI_ltI hb ha).mp z)), Nat.min_eq_left (Nat.le_of_not_lt h)]
theorem xs_max {a b : Nat} (ha : a < 2 ^ 31) (hb : b < 2 ^ 31) : xq_max (nI a) (nI b) = nI (max a b) := by
  unfold xq_max
  by_cases h : a < b
  · rw [if_pos ((nI_ltI ha hb).mpr h), Nat.max_eq_right (Nat.le_of_lt h)]
  · rw [if_neg (fun z => h ((nI_ltI ha hb).mp z)), Nat.max_eq_left (Nat.le_of_not_lt h)]
/-- a loop whose states are known ahead -/
theorem xs_loop {σ β : Type} {body : (σ → Option β) → σ → Option β} (st : Nat → σ) (n : Nat) (r : Option β) (hs : ∀ i, i < n → ∀ kk, body kk (st i) = kk (st (i + 1))) (hl : ∀ kk, body kk (st n) = r) : ∀ N, n < N → xq_loop body N (st 0) = r := by
  have key : ∀ M j, j ≤ n → n - j < M → xq_loop body M (st j) = r := by
    intro M
    induction M with
    | zero => intro j _ h; exact absurd h (Nat.not_lt_zero _)
    | succ M ih =>
      intro j hj hM
      show body (xq_loop body M) (st j) = r
      by_cases e : j = n
      · rw [e]; exact hl _
      · rw [hs j (by omega)]; exact ih (j + 1) (by omega) (by omega)
  exact fun N hN => key N 0 (Nat.zero_le _) (by omega)
/-- a loop with an invariant: n turns at most are left -/
theorem xs_loopI {σ β : Type} {body : (σ → Option β) → σ → Option β} (I : Nat → σ → Prop) (Q : Option β → Prop) (hs : ∀ n s kk, I n s → (∀ s' n', n' < n → I n' s' → Q (kk s')) → Q (body kk s)) : ∀ N n s, I n s → n < N → Q (xq_loop body N s) := by
  intro N
  induction N with
  | zero => intro n s _ h; exact absurd h (Nat.not_lt_zero _)
  | succ M ih =>
    intro n s hI hN
    show Q (body (xq_loop body M) s)
    exact hs n s _ hI fun s' n' h1 h2 => ih n' s' h2 (by omega)
theorem nI_c {a b : Nat} (h : a = b) : nI a = nI b := by rw [h]
theorem xs_lit0 : (0 : Int32) = nI 0 := rfl
theorem xs_lit1 : (1 : Int32) = nI 1 := rfl
