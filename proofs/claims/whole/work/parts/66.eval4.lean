/-! the reference's value of a code -/
def pm_var (k s : Nat) : Prop := (k = 13 ∧ s = 1) ∨ (k = 2 ∧ s = 2) ∨ (k = 14 ∧ s = 3) ∨ (k = 15 ∧ s = 4) ∨ (k = 6 ∧ s = 5) ∨ (k = 5 ∧ s = 6) ∨ (k = 16 ∧ s = 7) ∨ (k = 9 ∧ s = 8)
/-- a code of the class, a sort and a value of the reference that are one -/
def pm_rel (c s v : Nat) : Prop := (c ≤ 9999 ∧ s = 0 ∧ v = c) ∨ (c = 1 ∧ s = 30) ∨ (10300 ≤ c ∧ c < 10324 ∧ pm_var (c - 10300) s) ∨ (20000 ≤ c ∧ pm_so (c - 20000) s) ∨ (c = 20320 ∧ s = 43) ∨ (c = 20317 ∧ s = 44)
section EM
variable (N : Nat) {ok : Nat → Bool} {vals : Nat → Int32} {mmI sf sb cs ask cv : Nat → Int32} {p e : Nat} {v3 : Int32}
theorem pm_step (hv : pe_env ok vals) (hb3 : xq_ald 6 sb ((3 * (mmI 13)) + nI p) = some v3) (he : (1600 * (mmI 13)) + v3 = nI e) (he2 : e ≤ 3200) (hask : ∀ k s, ok (10300 + k) = true → pm_var k s → ask s = vals k) {c s v i : Nat} {ts us : List Bool} {st : List Int32} {F : Nat → Int64} (h : pe_t1 ok c ts = some us) (hu : us.length ≤ 60) (ht : pe_typ ts st) (hF : pe_stkL F st) (hs1 : cs i = nI s) (hs2 : s = 0 → cv i = nI v) (hr : pm_rel c s v) (hi : i < e)
    (kk : ((Nat → Int64) × Int32 × Int32 × Int32) → Option (Int64 × (Nat → Int64))) : ∃ F', fX12_reckons_l25 N mmI sf sb cs ask cv kk (F, nI p, nI st.length, nI i) = kk (F', nI p, nI (pe_ev1 vals c st).length, nI (i + 1)) ∧ pe_stkL F' (pe_ev1 vals c st) := by
  have hlen := pe_typ_len ht
  have hb : ∀ G x2, fX12_reckons_b221 N mmI sf sb cs ask cv kk (G, nI p, x2, nI i) = kk (G, nI p, x2, nI (i + 1)) := fun G x2 => by
    show kk (G, nI p, x2, nI i + 1) = _; rw [nI_1]
  have hp : ∀ (X : Int64) (hl : st.length < 500), fX12_reckons_b105 N mmI sf sb cs ask cv kk (F, nI p, nI st.length, nI i, nI st.length, X) = kk (vp_updL F st.length X, nI p, nI (st.length + 1), nI (i + 1)) := fun X hl => by
    show xq_bd (xq_astL 500 F (nI st.length) X) _ = _
    rw [xs_astL hl (by omega), xs_bd, hb, nI_1]
  have hl : xq_ald 3200 cs (nI i) = some (nI s) := by rw [xs_ald (by omega) (by omega), hs1]
  show ∃ F', xq_bd (xq_ald 6 sb ((3 * (mmI 13)) + nI p)) (fun v_3 => if ((1600 * (mmI 13)) + v_3) ≤ nI i then _ else _) = _ ∧ _
  rw [hb3, xs_bd, he, if_neg (nI_ge hi (by omega)), hl, xs_bd]
  rcases pe_t1_cases h with ⟨c1, rfl⟩ | ⟨c1, c2, c3, rfl⟩ | ⟨rfl, t, rfl, rfl⟩ | ⟨rfl, z, y, t, rfl, rfl⟩ | ⟨z, y, t, rfl, c1, rfl, rfl, rfl⟩ | ⟨z, y, t, rfl, c1, rfl⟩ | ⟨z, y, t, rfl, c1, rfl⟩
  · have hs : st.length < 500 := by rw [List.length_cons] at hu; omega
    have e1 : pe_ev1 vals c st = nI c :: st := by unfold pe_ev1 pe_val; rw [if_pos (by omega), if_neg (by omega)]
    rw [e1]
    have hq : (s = 0 ∧ v = c) ∨ (c = 1 ∧ s = 30) := by unfold pm_rel at hr; omega
    rcases hq with ⟨rfl, rfl⟩ | ⟨rfl, rfl⟩
    · rw [if_neg (by decide), if_pos (by decide), xs_ald (by omega) (by omega), xs_bd, hs2 rfl, hp _ hs]
      exact ⟨_, rfl, pk_uLs, pe_stkL_upd (Nat.le_refl _) hF⟩
    · rw [if_neg (by decide), if_neg (by decide), if_pos (by decide), hp _ hs]
      exact ⟨_, rfl, by rw [pk_uLs]; rfl, pe_stkL_upd (Nat.le_refl _) hF⟩
  · have hs : st.length < 500 := by rw [List.length_cons] at hu; omega
    obtain ⟨g1, g2, -, -⟩ := hv c c3
    have e1 : pe_ev1 vals c st = vals (c - 10300) :: st := by unfold pe_ev1 pe_val; rw [if_pos c2, if_pos g1]
    rw [e1]
    have hq : pm_var (c - 10300) s := by
      unfold pm_rel at hr
      rcases hr with hr | hr | hr | hr | hr | hr
      · omega
      · omega
      · exact hr.2.2
      · omega
      · omega
      · omega
    have hk := hask (c - 10300) s (by rw [Nat.add_sub_cancel' g1]; exact c3) hq
    have hsr : 1 ≤ s ∧ s ≤ 8 := by unfold pm_var at hq; omega
    rw [if_neg (show ¬ (30 : Int32) < nI s from nI_nlt (a := 30) (by omega) (by omega)), if_neg (nI_ne0 (by omega) (by omega)), if_neg (show ¬ _ = (30 : Int32) from fun z => absurd ((nI_eq (b := 30) (by omega) (by omega)).mp z) (by omega)), xs_ald (by omega) (by omega), xs_bd, hk, hp _ hs]
    exact ⟨_, rfl, pk_uLs, pe_stkL_upd (Nat.le_refl _) hF⟩
  · obtain ⟨x, t2, rfl, h1, h2, h3⟩ := pe_typ_one ht
    have hs : t2.length < 62 := by have := pe_typ_len h3; simp only [List.length_cons] at hu; omega
    have hq : s = 43 := by unfold pm_rel pm_so at hr; omega
    subst hq
    rw [if_pos (by decide), if_pos (by decide)]
    have el : nI (x :: t2).length = nI (t2.length + 1) := rfl
    rw [el]
    show ∃ F', xq_bd (xq_aldL 500 F (nI (t2.length + 1) - 1)) _ = _ ∧ _
    rw [nI_pred, xs_aldL (by omega) (by omega), xs_bd, xs_astL (by omega) (by omega), xs_bd, hb, hF.1]
    refine ⟨_, rfl, ?_, pe_stkL_upd (Nat.le_refl _) hF.2⟩
    rw [pk_uLs]
    rcases h1 rfl with rfl | rfl <;> rfl
  · obtain ⟨u, v', t2, rfl, h1, h2, h3, h4, h5⟩ := pe_typ_two ht
    obtain ⟨x, t3, rfl, h6, h7, h8⟩ := pe_typ_one h5
    have hs : t3.length < 62 := by have := pe_typ_len h8; simp only [List.length_cons] at hu; omega
    have hq : s = 44 := by unfold pm_rel pm_so at hr; omega
    subst hq
    rw [if_pos (by decide), if_neg (by decide), if_pos (by decide)]
    have el : nI (u :: v' :: x :: t3).length = nI (t3.length + 1 + 2) := rfl
    rw [el]
    show ∃ F', xq_bd (xq_aldL 500 F ((nI (t3.length + 1 + 2) + (-2)) - 1)) _ = _ ∧ _
    rw [xs_m2, nI_pred, xs_aldL (by omega) (by omega), xs_bd]
    have q1 : F t3.length = x.toInt64 := hF.2.2.1
    have q2 : F (t3.length + 1) = v'.toInt64 := hF.2.1
    have q3 : F (t3.length + 1 + 1) = u.toInt64 := hF.1
    rw [q1, nI_1, xs_aldL (by omega) (by omega), xs_aldL (by omega) (by omega), xs_bd, xs_bd, q2, q3]
    show ∃ F', _ ∧ pe_stkL F' ((if x = 0 then u else v') :: t3)
    rcases h6 rfl with rfl | rfl
    · rw [if_neg (by decide), if_pos rfl]
      show ∃ F', xq_bd (xq_astL 500 F (nI t3.length) u.toInt64) _ = _ ∧ _
      rw [xs_astL (by omega) (by omega), xs_bd, hb]
      exact ⟨_, rfl, pk_uLs, pe_stkL_upd (Nat.le_refl _) hF.2.2.2⟩
    · rw [if_pos (by decide), if_neg (by decide)]
      show ∃ F', xq_bd (xq_astL 500 F (nI t3.length) v'.toInt64) _ = _ ∧ _
      rw [xs_astL (by omega) (by omega), xs_bd, hb]
      exact ⟨_, rfl, pk_uLs, pe_stkL_upd (Nat.le_refl _) hF.2.2.2⟩
  all_goals
    obtain ⟨b, a, t2, rfl, h1, h2, h3, h4, h5⟩ := pe_typ_two ht
    have hs : t2.length < 62 := by have := pe_typ_len h5; simp only [List.length_cons] at hu; omega
    have hw : ∃ w, c = 20000 + w ∧ pm_so w s := by
      refine ⟨c - 20000, by omega, ?_⟩
      unfold pm_rel at hr
      rcases hr with hr | hr | hr | hr | hr | hr
      · omega
      · omega
      · omega
      · exact hr.2
      · omega
      · omega
    obtain ⟨w, rfl, hop⟩ := hw
    have hwb := pm_so_rng hop
    have e1 : pe_ev1 vals (20000 + w) (b :: a :: t2) = pe_op w a b :: t2 := by
      unfold pe_ev1
      rw [if_neg (by omega), if_neg (by omega), if_neg (by omega)]
      show pe_op (20000 + w - 20000) a b :: t2 = _
      rw [Nat.add_sub_cancel_left]
    rw [e1, if_pos (show (30 : Int32) < nI s from nI_lt (a := 30) (by omega) (by omega)), if_neg (show ¬ _ = (43 : Int32) from fun z => absurd ((nI_eq (b := 43) (by omega) (by omega)).mp z) (by omega)), if_neg (show ¬ _ = (44 : Int32) from fun z => absurd ((nI_eq (b := 44) (by omega) (by omega)).mp z) (by omega))]
    have el : nI (b :: a :: t2).length = nI (t2.length + 1 + 1) := rfl
    rw [el]
    show ∃ F', xq_bd (xq_aldL 500 F ((nI (t2.length + 1 + 1) + (-1)) - 1)) _ = _ ∧ _
    rw [pk_m1, nI_pred, xs_aldL (by omega) (by omega), xs_bd, xs_aldL (by omega) (by omega), xs_bd]
    have q1 : F t2.length = a.toInt64 := hF.2.1
    have q2 : F (t2.length + 1) = b.toInt64 := hF.1
    rw [q1, q2]
    obtain ⟨r, k1, k2⟩ := pm_two N hop (A := a.toInt64) (B := b.toInt64) (by rw [Int32.toInt_toInt64]; exact h4) (by rw [Int32.toInt_toInt64]; exact h2) (fun q => by
      first
        | exact absurd q (by omega)
        | exact ⟨(h3 rfl).imp (fun z => by rw [z]; rfl) (fun z => by rw [z]; rfl), (h1 rfl).imp (fun z => by rw [z]; rfl) (fun z => by rw [z]; rfl)⟩)
    rw [k1, xs_bd, xs_astL (by omega) (by omega), xs_bd, hb]
    refine ⟨_, rfl, ?_, pe_stkL_upd (Nat.le_refl _) hF.2.2⟩
    rw [pk_uLs, fa_eq64, k2, Int32.toInt_toInt64, Int32.toInt_toInt64, Int32.toInt_toInt64, pe_op_int]
theorem pm_class (hv : pe_env ok vals) (hb3 : xq_ald 6 sb ((3 * (mmI 13)) + nI p) = some v3) (he : (1600 * (mmI 13)) + v3 = nI e) (he2 : e ≤ 3200) (hask : ∀ k s, ok (10300 + k) = true → pm_var k s → ask s = vals k) {bo : Bool} : ∀ (L : List Nat) (ts : List Bool) (st : List Int32) (F : Nat → Int64) (i : Nat), pe_tc ok L ts = some [bo] → pe_typ ts st → pe_stkL F st → (∀ j c, L[j]? = some c → ∃ s v, cs (i + j) = nI s ∧ (s = 0 → cv (i + j) = nI v) ∧ pm_rel c s v) → i + L.length = e → ∀ M, L.length < M →
    ∃ x F', pe_run vals L st = [x] ∧ pe_typ [bo] [x] ∧ xq_loop (fX12_reckons_l25 N mmI sf sb cs ask cv) M (F, nI p, nI st.length, nI i) = some (x.toInt64, F')
  | [], ts, st, F, i, h, ht, hF, hL, hi, M, hM => by
    have h : some ts = some [bo] := h
    cases h
    obtain ⟨x, t2, rfl, h1, h2, h3⟩ := pe_typ_one ht
    have : t2 = [] := List.eq_nil_of_length_eq_zero (pe_typ_len h3).symm
    subst this
    obtain ⟨m, rfl⟩ : ∃ m, M = m + 1 := ⟨M - 1, by simp only [List.length_nil] at hM; omega⟩
    refine ⟨x, F, rfl, ht, ?_⟩
    have hi : i = e := hi
    subst hi
    show xq_bd (xq_ald 6 sb ((3 * (mmI 13)) + nI p)) (fun v_3 => if ((1600 * (mmI 13)) + v_3) ≤ nI i then xq_bd (xq_aldL 500 F (nI 0)) _ else _) = _
    rw [hb3, xs_bd, he, if_pos (nI_le (Nat.le_refl _) (by omega)), xs_aldL (by omega) (by omega), xs_bd]
    have q : F 0 = x.toInt64 := hF.1
    rw [q]
  | c :: L, ts, st, F, i, h, ht, hF, hL, hi, M, hM => by
    have h : (match pe_t1 ok c ts with
      | some us => if us.length ≤ 60 then pe_tc ok L us else none
      | none => none) = some [bo] := h
    cases h1 : pe_t1 ok c ts with
    | none => rw [h1] at h; cases h
    | some us =>
      rw [h1] at h
      have h : (if us.length ≤ 60 then pe_tc ok L us else none) = some [bo] := h
      by_cases hu : us.length ≤ 60
      · rw [if_pos hu] at h
        obtain ⟨m, rfl⟩ : ∃ m, M = m + 1 := ⟨M - 1, by omega⟩
        rw [List.length_cons] at hi hM
        obtain ⟨s, v, g1, g2, g3⟩ := hL 0 c rfl
        rw [Nat.add_zero] at g1 g2
        obtain ⟨F', e1, e2⟩ := pm_step N hv hb3 he he2 hask h1 hu ht hF g1 g2 g3 (by omega) (xq_loop (fX12_reckons_l25 N mmI sf sb cs ask cv) m)
        obtain ⟨x, F2, k1, k2, k3⟩ := pm_class hv hb3 he he2 hask L us (pe_ev1 vals c st) F' (i + 1) h (pe_ev_typ hv h1 ht) e2 (fun j d hj => by rw [Nat.add_assoc, Nat.add_comm 1 j]; exact hL (j + 1) d hj) (by omega) m (by omega)
        exact ⟨x, F2, k1, k2, e1.trans k3⟩
      · rw [if_neg hu] at h; cases h
end EM
