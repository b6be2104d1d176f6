/-! THE CLAIM OUT OF ONE WALK OF THE LAW'S BODY. Your part is whole_start (and what it stands on); all else here is the same for every law, but numbers. -/
def R_law : String := "DistantVoiceLaw"
def lw_P (b : Addr) (xs : List Int32) (args : Array Value) (s : State) : Prop := args = #[.ref b] ∧ s.IntsAt b xs ∧ xs.length ≤ 3072 ∧ (Jvm.Cond.and given_1 narrow_1).before args s = true
def lw_Q (_ : Array Value) (s : State) (o : Outcome) (t : State) : Prop := o = .returned (some (.int 1)) ∧ Framed s o t [] 600000 7302250
def lw_Z (below : List Frame) (a : Array Value) (s : State) : State → Prop := fun t => ∃ o, t.status = .running ∧ Ended t below o ∧ lw_Q a s o t
/-- the law's own end, with 1 on the stack, nothing written that was there before, its room as the claim has it -/
theorem lw_ret {p : Program} {l : Launch} {e : Env} {s : State} {m : MethodId} {below : List Frame} {meth : Method} {c : Code} {b : Nat} (hx : p.tables.exec = Jvm.exec) (hb : c.code = code) (hr : meth.sig.returnType = ret) (hlocks : meth.locks = false) {pc : Nat} {H : Heap} {ls : Array Slot} (hdg : decode code pc = .ok (.ireturn, 1)) : W p l e room_1 s m #[Value.ref b] below meth c H [] 600000 7302250 (lw_Z below #[Value.ref b] s) (F0 m pc ls [.int 1]) := by
  intro T hT X
  obtain ⟨fs, hret, hrun, hended, hW, hframe⟩ := X.leave (v := some (.int 1)) (hlocks := hlocks) (fun h => by rw [hr] at h; cases h)
  have hmeth' : T.vm.method? m = some meth := X.method'
  refine ⟨T.setFrames fs, ?_, .returned (some (.int 1)), hrun, hended, rfl, ⟨_, rfl⟩, hW, hframe⟩
  jvm_step X.here [X.here.top, hx, hb, hdg, hmeth', hr, ret, narrow_b1]
  (try refine ⟨rfl, ?_⟩); (try refine ⟨rfl, ?_⟩)
  first | (intro acts; rw [hret _ acts rfl rfl rfl]) | rw [hret _ _ rfl rfl rfl]
  exact Steps.refl _
/-- what holds at the law's entry: the machine, the code, the tables' words (any of lw_tbl by 'hts w (by decide +kernel)'), the script of L ints xs at the cell b, what the Statement gives of the start (any of its parts by flat_of_before) -/
def lw_At (p : Program) (s : State) (m : MethodId) (meth : Method) (c : Code) (b L : Nat) (xs : Nat → Int32) : Prop :=
  p.tables.exec = Jvm.exec ∧ c.code = code ∧ meth.sig.returnType = ret ∧ c.maxLocals = 4 ∧ s.vm.findClass R_law = some m.cls ∧ (∀ w ∈ lw_tbl, w.before #[Value.ref b] s = true) ∧ va_X b L xs s s.heap ∧ b < s.heap.size ∧ meth.locks = false ∧ (Jvm.Cond.and given_1 narrow_1).before #[Value.ref b] s = true
/-! the two objects' cells in one order: the house's, the other ones of the class, its past; the reference's -/
def lw_wc (cI cB : ClassId) (x : Nat) (R : Nat → Nat → Nat) (C : Nat → Nat → Int32) (n : Nat → Nat) : va_W := [(x, .inr (11, oX11 (C 0) (R 0))), ((R 0 0), .inr (9, oX9 (C 1) (R 1))), ((R 1 0), .inl (cB, 1600, .inl (C 2))), ((R 0 11), .inr (0, oX0 (C 4) (va_up (R 10) 0 (R 0 10)))), ((R 0 1), .inr (6, oX6 (C 5) (R 2))), ((R 2 6), .inl (cI, 7, .inl (C 6))), ((R 2 7), .inl (cI, 6, .inl (C 7))), ((R 0 3), .inr (7, oX7 (C 8) (R 4))), ((R 0 4), .inr (5, oX5 (C 9) (R 6))), ((R 0 9), .inl (cI, 6, .inl (C 3))), ((R 0 10), .inr (2, oX2 (C 10) (R 9))), ((R 9 7), .inl (cI, 7, .inl (C 11))), ((R 9 8), .inl (cI, 7, .inl (C 12))), ((R 9 9), .inl (cI, 7, .inl (C 13))), ((R 9 10), .inl (cI, 6, .inl (C 14))), ((R 9 11), .inl (cI, 6, .inl (C 15))), ((R 9 12), .inl (cI, 6, .inl (C 16))), ((R 9 13), .inl (cI, n 0, .inl (C 17))), ((R 9 14), .inl (cI, n 1, .inl (C 18))), ((R 9 15), .inl (cI, n 2, .inl (C 19))), ((R 10 1), .inl (cI, 24, .inl (C 20))), ((R 10 2), .inl (cI, 64, .inl (C 21))), ((R 0 2), .inr (6, oX6 (C 22) (R 3))), ((R 3 6), .inl (cI, 7, .inl (C 23))), ((R 3 7), .inl (cI, 6, .inl (C 24))), ((R 0 7), .inl (cI, 60, .inl (C 25))), ((R 0 5), .inr (8, oX8 (C 26) (R 7))), ((R 7 0), .inl (cI, 70, .inl (C 27))), ((R 7 1), .inl (cI, 1024, .inl (C 28))), ((R 7 2), .inl (cI, 7, .inl (C 29))), ((R 6 1), .inl (cI, 16, .inl (C 30))), ((R 6 2), .inl (cI, 16, .inl (C 31))), ((R 6 3), .inl (cI, 16, .inl (C 32))), ((R 0 8), .inl (cI, 217, .inl (C 33))), ((R 4 3), .inl (cI, 999, .inl (C 34))), ((R 0 6), .inr (4, oX4 (C 35) (R 8))), ((R 8 0), .inl (cI, 22, .inl (C 36)))]
def lw_wh (cI cB : ClassId) (x : Nat) (R : Nat → Nat → Nat) (C : Nat → Nat → Int32) (n : Nat → Nat) : va_W := [(x, .inr (11, oX11 (C 0) (R 0))), ((R 0 0), .inr (9, oX9 (C 1) (R 1))), ((R 1 0), .inl (cB, 1600, .inl (C 2))), ((R 0 11), .inr (0, oX0 (C 4) (va_up (R 10) 0 (R 0 10)))), ((R 0 1), .inr (6, oX6 (C 5) (R 2))), ((R 2 6), .inl (cI, 7, .inl (C 6))), ((R 2 7), .inl (cI, 6, .inl (C 7))), ((R 0 3), .inr (7, oX7 (C 8) (R 4))), ((R 0 4), .inr (5, oX5 (C 9) (R 6))), ((R 0 9), .inl (cI, 6, .inl (C 3))), ((R 0 10), .inr (2, oX2 (C 10) (R 9))), ((R 9 7), .inl (cI, 7, .inl (C 11))), ((R 9 8), .inl (cI, 7, .inl (C 12))), ((R 9 9), .inl (cI, 7, .inl (C 13))), ((R 9 10), .inl (cI, 6, .inl (C 14))), ((R 9 11), .inl (cI, 6, .inl (C 15))), ((R 9 12), .inl (cI, 6, .inl (C 16))), ((R 9 13), .inl (cI, n 0, .inl (C 17))), ((R 9 14), .inl (cI, n 1, .inl (C 18))), ((R 9 15), .inl (cI, n 2, .inl (C 19)))]
def lw_wo (cI : ClassId) (R : Nat → Nat → Nat) (C : Nat → Nat → Int32) : va_W := [((R 10 1), .inl (cI, 24, .inl (C 20))), ((R 10 2), .inl (cI, 64, .inl (C 21))), ((R 0 2), .inr (6, oX6 (C 22) (R 3))), ((R 3 6), .inl (cI, 7, .inl (C 23))), ((R 3 7), .inl (cI, 6, .inl (C 24))), ((R 0 7), .inl (cI, 60, .inl (C 25))), ((R 0 5), .inr (8, oX8 (C 26) (R 7))), ((R 7 0), .inl (cI, 70, .inl (C 27))), ((R 7 1), .inl (cI, 1024, .inl (C 28))), ((R 7 2), .inl (cI, 7, .inl (C 29))), ((R 6 1), .inl (cI, 16, .inl (C 30))), ((R 6 2), .inl (cI, 16, .inl (C 31))), ((R 6 3), .inl (cI, 16, .inl (C 32))), ((R 0 8), .inl (cI, 217, .inl (C 33))), ((R 4 3), .inl (cI, 999, .inl (C 34))), ((R 0 6), .inr (4, oX4 (C 35) (R 8))), ((R 8 0), .inl (cI, 22, .inl (C 36)))]
def lw_wp (cI cM : ClassId) (R S : Nat → Nat → Nat) (P Q V : Nat → Nat → Int32) : va_W := [((R 4 0), .inl (cM, 20, .inr (.inr (.inr (.inr (xq_mrow (R 5))))))), ((R 5 0), .inr (6, oX6 (P 0) (S 0))), ((S 0 6), .inl (cI, 7, .inl (Q 0))), ((S 0 7), .inl (cI, 6, .inl (V 0))), ((R 5 1), .inr (6, oX6 (P 1) (S 1))), ((S 1 6), .inl (cI, 7, .inl (Q 1))), ((S 1 7), .inl (cI, 6, .inl (V 1))), ((R 5 2), .inr (6, oX6 (P 2) (S 2))), ((S 2 6), .inl (cI, 7, .inl (Q 2))), ((S 2 7), .inl (cI, 6, .inl (V 2))), ((R 5 3), .inr (6, oX6 (P 3) (S 3))), ((S 3 6), .inl (cI, 7, .inl (Q 3))), ((S 3 7), .inl (cI, 6, .inl (V 3))), ((R 5 4), .inr (6, oX6 (P 4) (S 4))), ((S 4 6), .inl (cI, 7, .inl (Q 4))), ((S 4 7), .inl (cI, 6, .inl (V 4))), ((R 5 5), .inr (6, oX6 (P 5) (S 5))), ((S 5 6), .inl (cI, 7, .inl (Q 5))), ((S 5 7), .inl (cI, 6, .inl (V 5))), ((R 5 6), .inr (6, oX6 (P 6) (S 6))), ((S 6 6), .inl (cI, 7, .inl (Q 6))), ((S 6 7), .inl (cI, 6, .inl (V 6))), ((R 5 7), .inr (6, oX6 (P 7) (S 7))), ((S 7 6), .inl (cI, 7, .inl (Q 7))), ((S 7 7), .inl (cI, 6, .inl (V 7))), ((R 5 8), .inr (6, oX6 (P 8) (S 8))), ((S 8 6), .inl (cI, 7, .inl (Q 8))), ((S 8 7), .inl (cI, 6, .inl (V 8))), ((R 5 9), .inr (6, oX6 (P 9) (S 9))), ((S 9 6), .inl (cI, 7, .inl (Q 9))), ((S 9 7), .inl (cI, 6, .inl (V 9))), ((R 5 10), .inr (6, oX6 (P 10) (S 10))), ((S 10 6), .inl (cI, 7, .inl (Q 10))), ((S 10 7), .inl (cI, 6, .inl (V 10))), ((R 5 11), .inr (6, oX6 (P 11) (S 11))), ((S 11 6), .inl (cI, 7, .inl (Q 11))), ((S 11 7), .inl (cI, 6, .inl (V 11))), ((R 5 12), .inr (6, oX6 (P 12) (S 12))), ((S 12 6), .inl (cI, 7, .inl (Q 12))), ((S 12 7), .inl (cI, 6, .inl (V 12))), ((R 5 13), .inr (6, oX6 (P 13) (S 13))), ((S 13 6), .inl (cI, 7, .inl (Q 13))), ((S 13 7), .inl (cI, 6, .inl (V 13))), ((R 5 14), .inr (6, oX6 (P 14) (S 14))), ((S 14 6), .inl (cI, 7, .inl (Q 14))), ((S 14 7), .inl (cI, 6, .inl (V 14))), ((R 5 15), .inr (6, oX6 (P 15) (S 15))), ((S 15 6), .inl (cI, 7, .inl (Q 15))), ((S 15 7), .inl (cI, 6, .inl (V 15))), ((R 5 16), .inr (6, oX6 (P 16) (S 16))), ((S 16 6), .inl (cI, 7, .inl (Q 16))), ((S 16 7), .inl (cI, 6, .inl (V 16))), ((R 5 17), .inr (6, oX6 (P 17) (S 17))), ((S 17 6), .inl (cI, 7, .inl (Q 17))), ((S 17 7), .inl (cI, 6, .inl (V 17))), ((R 5 18), .inr (6, oX6 (P 18) (S 18))), ((S 18 6), .inl (cI, 7, .inl (Q 18))), ((S 18 7), .inl (cI, 6, .inl (V 18))), ((R 5 19), .inr (6, oX6 (P 19) (S 19))), ((S 19 6), .inl (cI, 7, .inl (Q 19))), ((S 19 7), .inl (cI, 6, .inl (V 19)))]
def lw_wm (cI cJ cZ : ClassId) (mm : Nat) (Rm : Nat → Nat) (I : Nat → Int32) (J : Nat → Int64) (A : Nat → Nat → Int32) (B : Nat → Nat → Int64) : va_W := [(mm, .inr (12, oX12 I J Rm)), ((Rm 0), .inl (cI, 1800, .inl (A 0))), ((Rm 14), .inl (cI, 2, .inl (A 14))), ((Rm 15), .inl (cI, 2, .inl (A 15))), ((Rm 16), .inl (cI, 2, .inl (A 16))), ((Rm 17), .inl (cI, 2, .inl (A 17))), ((Rm 18), .inl (cI, 2, .inl (A 18))), ((Rm 19), .inl (cI, 14, .inl (A 19))), ((Rm 20), .inl (cI, 14, .inl (A 20))), ((Rm 21), .inl (cI, 2, .inl (A 21))), ((Rm 22), .inl (cI, 12, .inl (A 22))), ((Rm 23), .inl (cI, 12, .inl (A 23))), ((Rm 24), .inl (cI, 6, .inl (A 24))), ((Rm 25), .inl (cI, 6, .inl (A 25))), ((Rm 26), .inl (cI, 3200, .inl (A 26))), ((Rm 27), .inl (cI, 3200, .inl (A 27))), ((Rm 28), .inl (cJ, 14, .inr (.inl (B 28)))), ((Rm 29), .inl (cJ, 12, .inr (.inl (B 29)))), ((Rm 33), .inl (cI, 20, .inl (A 33))), ((Rm 34), .inl (cI, 20, .inl (A 34))), ((Rm 35), .inl (cZ, 20, .inl (A 35))), ((Rm 36), .inl (cI, 20, .inl (A 36))), ((Rm 37), .inl (cI, 20, .inl (A 37))), ((Rm 40), .inl (cI, 500, .inl (A 40))), ((Rm 44), .inl (cI, 6, .inl (A 44))), ((Rm 45), .inl (cI, 22, .inl (A 45))), ((Rm 46), .inl (cI, 22, .inl (A 46))), ((Rm 47), .inl (cI, 22, .inl (A 47))), ((Rm 48), .inl (cI, 22, .inl (A 48))), ((Rm 49), .inl (cI, 22, .inl (A 49))), ((Rm 50), .inl (cI, 154, .inl (A 50))), ((Rm 51), .inl (cI, 132, .inl (A 51))), ((Rm 52), .inl (cI, 22, .inl (A 52))), ((Rm 53), .inl (cI, 2640, .inl (A 53))), ((Rm 57), .inl (cJ, 500, .inr (.inl (B 57)))), ((Rm 58), .inl (cI, 12, .inl (A 58))), ((Rm 59), .inl (cI, 70, .inl (A 59))), ((Rm 60), .inl (cI, 8192, .inl (A 60))), ((Rm 61), .inl (cI, 40, .inl (A 61))), ((Rm 63), .inl (cI, 16, .inl (A 63))), ((Rm 64), .inl (cI, 16, .inl (A 64))), ((Rm 65), .inl (cI, 16, .inl (A 65))), ((Rm 66), .inl (cI, 6200, .inl (A 66))), ((Rm 67), .inl (cI, 200, .inl (A 67))), ((Rm 68), .inl (cI, 30, .inl (A 68)))]
theorem lw_wc_eq (cI cB : ClassId) (x : Nat) (R : Nat → Nat → Nat) (C : Nat → Nat → Int32) (n : Nat → Nat) : lw_wc cI cB x R C n = lw_wh cI cB x R C n ++ lw_wo cI R C := rfl
/-- between two calls: both objects hold one pure state, whose tape has t bytes -/
def lw_St (dC : Nat → ClassId) (dI : Nat → Nat → Nat) (cI cB cJ cZ cM : ClassId) (s : State) (x mm t : Nat) (H : Heap) (locs : List Loc) : Prop := ∃ (R S : Nat → Nat → Nat) (Rm : Nat → Nat) (C P Q V : Nat → Nat → Int32) (n : Nat → Nat) (I : Nat → Int32) (J : Nat → Int64) (A : Nat → Nat → Int32) (B : Nat → Nat → Int64), RR t C P Q V n I J A B ∧ va_P (dC, dI) vwCl ((lw_wc cI cB x R C n ++ lw_wp cI cM R S P Q V) ++ lw_wm cI cJ cZ mm Rm I J A B) H ∧ va_D (fun q : Nat => s.heap.size ≤ q) ((lw_wc cI cB x R C n ++ lw_wp cI cM R S P Q V) ++ lw_wm cI cJ cZ mm Rm I J A B) ∧ va_S (fun q : Nat => s.heap.size ≤ q) s.heap H locs
theorem lw_swi (a b : va_W) (i : Nat) : (b ++ a)[i]? = if i < b.length then (a ++ b)[a.length + i]? else if i - b.length < a.length then (a ++ b)[i - b.length]? else none := by
  split
  · rename_i h
    rw [List.getElem?_append_left h, List.getElem?_append_right (Nat.le_add_right _ _), Nat.add_sub_cancel_left]
  · rename_i h
    rw [List.getElem?_append_right (Nat.not_lt.mp h)]
    split
    · rename_i h2
      rw [List.getElem?_append_left h2]
    · rename_i h2
      exact List.getElem?_eq_none (Nat.not_lt.mp h2)
theorem lw_swP {D : va_G} {cl : List vw_C} {a b : va_W} {H : Heap} (h : va_P D cl (a ++ b) H) : va_P D cl (b ++ a) H := by
  intro k q hq
  rw [lw_swi] at hq
  split at hq
  · exact h _ _ hq
  · split at hq
    · exact h _ _ hq
    · cases hq
theorem lw_swD {A : Nat → Prop} {a b : va_W} (h : va_D A (a ++ b)) : va_D A (b ++ a) := by
  refine ⟨fun i j x y hi hj e => ?_, fun k q hq => ?_⟩
  · rw [lw_swi] at hi hj
    split at hi
    · split at hj
      · have := h.1 _ _ _ _ hi hj e; omega
      · split at hj
        · have := h.1 _ _ _ _ hi hj e; omega
        · cases hj
    · split at hi
      · split at hj
        · have := h.1 _ _ _ _ hi hj e; omega
        · split at hj
          · have := h.1 _ _ _ _ hi hj e; omega
          · cases hj
      · cases hi
  · rw [lw_swi] at hq
    split at hq
    · exact h.2 _ _ hq
    · split at hq
      · exact h.2 _ _ hq
      · cases hq
theorem lw_lk_none : ∀ (mp : List (Nat × (Nat × va_E))) (k : Nat), (∀ x ∈ mp, x.1 ≠ k) → xq_lk mp k = none
  | [], _, _ => rfl
  | x :: l, k, h => by
    unfold xq_lk
    rw [if_neg (h x List.mem_cons_self)]
    exact lw_lk_none l k (fun y hy => h y (List.mem_cons_of_mem _ hy))
theorem lw_bk_ge (mp : List (Nat × (Nat × va_E))) : ∀ (wb : va_W) (k : Nat), (∀ x ∈ mp, x.1 < k) → xq_bk mp k wb = wb
  | [], _, _ => rfl
  | q :: wb, k, h => by
    unfold xq_bk
    rw [lw_lk_none mp k (fun x hx => Nat.ne_of_lt (h x hx)), lw_bk_ge mp wb (k + 1) (fun x hx => Nat.lt_succ_of_lt (h x hx))]
    rfl
theorem lw_bk_app (mp : List (Nat × (Nat × va_E))) : ∀ (wa wb : va_W) (k : Nat), (∀ x ∈ mp, x.1 < k + wa.length) → xq_bk mp k (wa ++ wb) = xq_bk mp k wa ++ wb
  | [], wb, k, h => lw_bk_ge mp wb k h
  | q :: wa, wb, k, h => by
    show (xq_lk mp k).getD q :: xq_bk mp (k + 1) (wa ++ wb) = (xq_lk mp k).getD q :: (xq_bk mp (k + 1) wa ++ wb)
    rw [lw_bk_app mp wa wb (k + 1) (fun x hx => by have := h x hx; rw [List.length_cons] at this; omega)]
theorem lw_isC {wa wc : va_W} {isC : List Nat} (hC : isC.map (fun i => wa[i]?) = wc.map some) : ∀ i ∈ isC, i < wa.length := by
  intro i hi
  have h1 : wa[i]? ∈ isC.map (fun i => wa[i]?) := List.mem_map.mpr ⟨i, hi, rfl⟩
  rw [hC] at h1
  obtain ⟨q, -, hq⟩ := List.mem_map.mp h1
  exact (List.getElem?_eq_some_iff.mp hq.symm).1
theorem lw_hC {wa wb wc : va_W} {isC : List Nat} (hC : isC.map (fun i => wa[i]?) = wc.map some) : isC.map (fun i => (wa ++ wb)[i]?) = wc.map some := by
  rw [← hC]
  exact List.map_congr_left (fun i hi => List.getElem?_append_left (lw_isC hC i hi))
section LW
variable {p : Program} {l : Launch} {e : Env} {R : Room} {s : State} {m : MethodId} {args : Array Value} {below : List Frame} {meth : Method} {c : Code} {H : Heap} {locs : List Loc} {cells slots : Nat} {Q : State → Prop}
variable {cc : ByteArray} {pc : Nat} {ls : Array Slot} {rest : List Value} {D : va_G} {cl : List vw_C} {A : Nat → Prop} {tys : List (ClassId × FieldType)} {wa wb wa' : va_W} {z : Nat} {ad : Nat → Nat} {mc ms : Nat}
/-- a call that touches the first cells alone -/
theorem lw_callV {y : MethodName} {bytes : ByteArray} {maxL nL n index : Nat} {ret : Option FieldType} {wsy Ts : List Cond} {rm : Room} {own C : String} {b q0 ci : Nat} {As st0 fs : List Value} {wc w1 : va_W} {rv : Option Value} {q : vw_C} (S : CallFix p m c cc nL s args Ts own) (hM : xq_Ct l y wsy rm D cl tys z ad (.ref b :: As) wc w1 rv) (cw : CallW R s args own C index y bytes maxL ret wsy rm 0 0 n)
    (hN : xq_Env z ad A s) (hK : va_K D cl tys s) (hP : va_P D cl (wa ++ wb) H) (hD : va_D A (wa ++ wb)) (hS : va_S A s.heap H locs) (hA : ∀ q, s.heap.size ≤ q → A q) (isC : List Nat) (hnd : va_nd isC = true) (hC : isC.map (fun i => wa[i]?) = wc.map some) (ha : wc.map (fun q => q.1) = w1.map (fun q => q.1)) (he : xq_bk (isC.zip w1) 0 wa = wa') (hq : wa[q0]? = some (b, .inr (ci, fs))) (hc : cl[ci]? = some q) (hcC : q.1 = C)
    (hn : As.length = n) (hsize : ls.size = nL) (hst : st0 = As.reverse ++ .ref b :: rest) (hW : (rest.map fun v => v.category).sum ≤ 8) (hdg : decode cc pc = .ok (.invokevirtual index, 3)) (hf : cells ≤ R.cells ∧ slots ≤ R.slots)
    (kk : ∀ (H1 : Heap) (locs1 : List Loc), va_P D cl (wa' ++ wb) H1 → va_D A (wa' ++ wb) → va_S A s.heap H1 locs1 → W p l e R s m args below meth c H1 locs1 cells slots Q (F0 m (pc + 3) ls (rv.toList ++ rest))) : W p l e R s m args below meth c H locs cells slots Q (F0 m pc ls st0) := by
  refine xq_callV (q0 := q0) S hM cw hN hK hP hD hS hA isC hnd (lw_hC hC) ha (by rw [List.getElem?_append_left (List.getElem?_eq_some_iff.mp hq).1]; exact hq) hc hcC hn hsize hst hW hdg hf (fun H1 l1 hP1 hD1 hS1 => ?_)
  rw [lw_bk_app _ _ _ _ (fun x hx => by rw [Nat.zero_add]; exact lw_isC hC x.1 (List.of_mem_zip hx).1), he] at hP1 hD1
  exact kk H1 l1 hP1 hD1 hS1
theorem lw_rgC (wa wb : va_W) : (List.range wa.length).map (fun i => (wa ++ wb)[i]?) = wa.map some := by
  refine List.ext_getElem (by simp) (fun k h1 h2 => ?_)
  have h : k < wa.length := by simpa using h2
  rw [List.getElem_map, List.getElem_range, List.getElem_map, List.getElem?_append_left h, List.getElem?_eq_getElem h]
theorem lw_rgR (wa wb : va_W) : (List.range' wa.length wb.length).map (fun i => (wa ++ wb)[i]?) = wb.map some := by
  refine List.ext_getElem (by simp) (fun k h1 h2 => ?_)
  have h : k < wb.length := by simpa using h2
  rw [List.getElem_map, List.getElem_range', List.getElem_map, Nat.one_mul, List.getElem?_append_right (Nat.le_add_right _ _), Nat.add_sub_cancel_left, List.getElem?_eq_getElem h]
theorem lw_nd : ∀ l : List Nat, l.Nodup → va_nd l = true
  | [], _ => rfl
  | a :: l, h => by
    rw [List.nodup_cons] at h
    simp only [va_nd, Bool.and_eq_true, decide_eq_true_eq]
    exact ⟨h.1, lw_nd l h.2⟩
/-- a call that touches just the first cells, and makes new ones -/
theorem lw_callVA {y : MethodName} {bytes : ByteArray} {maxL nL n index : Nat} {ret : Option FieldType} {wsy Ts : List Cond} {rm : Room} {own C : String} {b q0 ci : Nat} {As st0 fs : List Value} {w1 : (Nat → Nat → Nat) → va_W} {rv : (Nat → Nat → Nat) → Option Value} {q : vw_C} (S : CallFix p m c cc nL s args Ts own) (hM : xq_CtA l y wsy rm D cl tys z ad (.ref b :: As) wa w1 rv mc ms) (cw : CallW R s args own C index y bytes maxL ret wsy rm mc ms n)
    (hN : xq_Env z ad A s) (hK : va_K D cl tys s) (hP : va_P D cl (wa ++ wb) H) (hD : va_D A (wa ++ wb)) (hS : va_S A s.heap H locs) (hA : ∀ q, s.heap.size ≤ q → A q) (hq : wa[q0]? = some (b, .inr (ci, fs))) (hc : cl[ci]? = some q) (hcC : q.1 = C)
    (hnA : As.length = n) (hsize : ls.size = nL) (hst : st0 = As.reverse ++ .ref b :: rest) (hW : (rest.map fun v => v.category).sum ≤ 8) (hdg : decode cc pc = .ok (.invokevirtual index, 3)) (hf : cells + mc ≤ R.cells ∧ slots + ms ≤ R.slots)
    (kk : ∀ (q : Nat → Nat → Nat) (H1 : Heap) (locs1 : List Loc), va_P D cl (w1 q ++ wb) H1 → va_D A (w1 q ++ wb) → va_S A s.heap H1 locs1 → W p l e R s m args below meth c H1 locs1 (cells + mc) (slots + ms) Q (F0 m (pc + 3) ls ((rv q).toList ++ rest))) : W p l e R s m args below meth c H locs cells slots Q (F0 m pc ls st0) := by
  refine xq_callVA (q0 := q0) (wr := wb) S hM cw hN hK hP hD hS hA (List.range wa.length) (List.range' wa.length wb.length) (lw_nd _ List.nodup_range) (lw_rgC wa wb) (lw_rgR wa wb) (lw_nd _ List.nodup_range') (fun i h1 h2 => by rw [List.mem_range'_1] at h1; rw [List.mem_range] at h2; omega) (by rw [List.getElem?_append_left (List.getElem?_eq_some_iff.mp hq).1]; exact hq) hc hcC hnA hsize hst hW hdg hf (fun q H1 l1 hP1 hD1 hS1 => ?_)
  exact kk q H1 l1 (lw_swP hP1) (lw_swD hD1) hS1
/-- a constructor's call on the last cell -/
theorem lw_callIA {y : MethodName} {bytes : ByteArray} {maxL nL n index : Nat} {wsy Ts : List Cond} {rm : Room} {own : String} {b : Nat} {As st0 : List Value} {w1 : (Nat → Nat → Nat) → va_W} {rv : (Nat → Nat → Nat) → Option Value} (S : CallFix p m c cc nL s args Ts own) (hM : xq_CtA l y wsy rm D cl tys z ad (.ref b :: As) wb w1 rv mc ms) (cw : CallB R s args own index y bytes maxL none wsy rm mc ms n ∧ y.name = "<init>" ∧ (Cond.instanceMethod y).before args s = true)
    (hN : xq_Env z ad A s) (hK : va_K D cl tys s) (hP : va_P D cl (wa ++ wb) H) (hD : va_D A (wa ++ wb)) (hS : va_S A s.heap H locs) (hA : ∀ q, s.heap.size ≤ q → A q)
    (hnA : As.length = n) (hsize : ls.size = nL) (hst : st0 = As.reverse ++ .ref b :: rest) (hW : (rest.map fun v => v.category).sum ≤ 8) (hdg : decode cc pc = .ok (.invokespecial index, 3)) (hf : cells + mc ≤ R.cells ∧ slots + ms ≤ R.slots)
    (kk : ∀ (q : Nat → Nat → Nat) (H1 : Heap) (locs1 : List Loc), va_P D cl (wa ++ w1 q) H1 → va_D A (wa ++ w1 q) → va_S A s.heap H1 locs1 → W p l e R s m args below meth c H1 locs1 (cells + mc) (slots + ms) Q (F0 m (pc + 3) ls ((rv q).toList ++ rest))) : W p l e R s m args below meth c H locs cells slots Q (F0 m pc ls st0) :=
  xq_callIA (wr := wa) S hM cw hN hK hP hD hS hA (List.range' wa.length wb.length) (List.range wa.length) (lw_nd _ List.nodup_range') (lw_rgR wa wb) (lw_rgC wa wb) (lw_nd _ List.nodup_range) (fun i h1 h2 => by rw [List.mem_range'_1] at h2; rw [List.mem_range] at h1; omega) hnA hsize hst hW hdg hf kk
end LW
theorem lw_RRt {t : Nat} {C P Q V : Nat → Nat → Int32} {n : Nat → Nat} {I : Nat → Int32} {J : Nat → Int64} {A : Nat → Nat → Int32} {B : Nat → Nat → Int64} (h : RR t C P Q V n I J A B) : (C 1 1 + 1).toNatClampNeg = t + 1 := by
  obtain ⟨b, H, m, ro, ta, U, K, KR, W, sd, T, Im, rf, f, p, ⟨hs, h5, hUo, hK, hKR, hsd, hT, hTl, hIm⟩, ⟨c1, c2, c3, c4, c5, c6, c7, c8, c9, c10, c11, c12, c13⟩, hm, ht⟩ := h
  rw [c7.1, nI_1, nI_clamp (by omega), ht]

