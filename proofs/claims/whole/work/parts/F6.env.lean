/-! at the law's entry: what goes along with each contract, the classes, the array classes -/
set_option maxRecDepth 100000 in
theorem lw_nF : ∀ w ∈ xq_nF.map (fun t => Cond.fieldLinkNest t.1 t.2.1 t.2.2.1 t.2.2.2.1 t.2.2.2.2.1 t.2.2.2.2.2), w ∈ lw_tbl := lw_memt lw_T0_in _ [(1, 39), (1, 40), (1, 41), (1, 42), (1, 56), (1, 57), (1, 58), (1, 60), (1, 61), (1, 62), (1, 64), (1, 65), (1, 66), (1, 68), (1, 69), (1, 70), (1, 72), (1, 73), (1, 75), (1, 76), (1, 78), (1, 79), (1, 80), (1, 82), (1, 83), (1, 84), (1, 115), (1, 133), (1, 153), (1, 155), (1, 157), (1, 172), (1, 174), (1, 187), (1, 188), (1, 190), (1, 191), (1, 192), (1, 193), (1, 195), (1, 196), (1, 198), (1, 199), (1, 201), (1, 202), (1, 204), (1, 205), (1, 206), (1, 207), (1, 209), (1, 210), (1, 211), (1, 212), (1, 214), (1, 215), (1, 217), (1, 218), (1, 220), (1, 221), (1, 222), (1, 224), (1, 225), (1, 227), (1, 228), (1, 229), (1, 231), (1, 232), (1, 234), (1, 236), (1, 238), (2, 48), (2, 135), (2, 142), (2, 143), (2, 145)] rfl
set_option maxRecDepth 100000 in
theorem lw_nM : ∀ w ∈ xq_nM.map (fun t => Cond.methodLinkNest t.1 t.2.1 t.2.2.1 t.2.2.2), w ∈ lw_tbl := lw_memt lw_T0_in _ [(1, 33), (1, 51), (1, 111), (1, 128), (1, 148), (1, 167), (1, 182), (3, 84), (5, 133)] rfl
def lw_tm (i : Nat) : Term := if i = 0 then .string "DistantVoice$Text" 65 else .string "DistantVoice$Text" 90
def lw_F : List Cond := flatC (Jvm.Cond.and given_1 narrow_1)
theorem lw_ln : ∀ i : Nat, i < 2 → xq_len.getD i 0 < 2 ^ 31 := by decide
theorem lw_ex : ∀ i : Nat, i < 2 → Cond.exactly (lw_tm i) "java/lang/String" ∈ lw_F := by decide +kernel
theorem lw_co : ∀ i : Nat, i < 2 → Cond.eq (.field (lw_tm i) "java/lang/String" "coder" "B") (.int 0) ∈ lw_F := by decide +kernel
theorem lw_ar : ∀ i : Nat, i < 2 → Cond.arrayOf (.field (lw_tm i) "java/lang/String" "value" "[B") .byte ∈ lw_F := by decide +kernel
theorem lw_le : ∀ i : Nat, i < 2 → Cond.eq (.length (.field (lw_tm i) "java/lang/String" "value" "[B")) (.int (Int32.ofNat (xq_len.getD i 0))) ∈ lw_F := by decide +kernel
theorem lw_el : ∀ i : Nat, i < 2 → ∀ j : Nat, j < xq_len.getD i 0 → Cond.eq (.elem (.field (lw_tm i) "java/lang/String" "value" "[B") (.int (Int32.ofNat j))) (.int ((xq_byt.getD i []).getD j 0)) ∈ lw_F := by decide +kernel
theorem lw_ne : Cond.not (Cond.eq (lw_tm 0) (lw_tm 1)) ∈ lw_F := by decide +kernel
theorem lw_cs : Cond.eq (.static "java/lang/String" "COMPACT_STRINGS" "Z") (.int 1) ∈ lw_F := by decide +kernel
theorem lw_sf : Cond.isRef (.static "jdk/internal/util/Preconditions" "SIOOBE_FORMATTER" "Ljava/util/function/BiFunction;") ∈ lw_F := by decide +kernel
def lw_ad (adK adV : Nat → Nat) (i : Nat) : Nat := if i < 2 then adK i else adV (i - 2)
theorem lw_ad_lt {adK adV : Nat → Nat} {i : Nat} (h : i < 2) : lw_ad adK adV i = adK i := if_pos h
theorem lw_ad_ge {adK adV : Nat → Nat} (i : Nat) : lw_ad adK adV (i + 2) = adV i := if_neg (by omega)
theorem lw_EV {s : State} {b : Nat} (hts : ∀ w ∈ lw_tbl, w.before #[Value.ref b] s = true) (hgv : (Jvm.Cond.and given_1 narrow_1).before #[Value.ref b] s = true) : ∃ ad, xq_EV s.heap.size ad s := by
  have hs : ∀ w ∈ lw_F, w.before #[Value.ref b] s = true := flat_of_before _ hgv
  have hA : ∀ a : Nat, a < s.heap.size → ¬ s.heap.size ≤ a := fun a h => Nat.not_le.mpr h
  have hne : ∀ i j : Nat, i < 2 → j < 2 → i ≠ j → (Cond.not (Cond.eq (lw_tm i) (lw_tm j))).before #[Value.ref b] s = true ∨ (Cond.not (Cond.eq (lw_tm j) (lw_tm i))).before #[Value.ref b] s = true := by
    intro i j hi hj hij
    rcases (show (i = 0 ∧ j = 1) ∨ (i = 1 ∧ j = 0) by omega) with ⟨rfl, rfl⟩ | ⟨rfl, rfl⟩
    · exact Or.inl (hs _ lw_ne)
    · exact Or.inr (hs _ lw_ne)
  obtain ⟨adK, adV, hV, hE⟩ := vk_Sof (args := #[Value.ref b]) (s := s) (N := 2) (tm := lw_tm) (len := xq_len) (byt := xq_byt) (A := fun q => s.heap.size ≤ q) lw_ln (fun i hi => hs _ (lw_ex i hi)) (fun i hi => hs _ (lw_co i hi)) (fun i hi => hs _ (lw_ar i hi)) (fun i hi => hs _ (lw_le i hi)) (fun i hi j hj => hs _ (lw_el i hi j hj)) hne hA
  refine ⟨lw_ad adK adV, ⟨fun t ht => va_Nw.of rfl (hts _ (lw_nF _ (List.mem_map.mpr ⟨t, ht, rfl⟩))), fun t ht => va_Nw.of rfl (hts _ (lw_nM _ (List.mem_map.mpr ⟨t, ht, rfl⟩)))⟩, va_AO.of (hts (.arrayOver (.object "DistantVoice$Moment")) (lw_mem1 lw_T0_in 1 110 rfl rfl)), ⟨fun i hi => ?_, fun i j hi hj e => ?_⟩, vk_R.of (hts (.stringRef "DistantVoice$Text" 65 xq_t0) (lw_mem1 lw_T0_in 2 188 rfl rfl)) (hE 0 (by decide)), vk_R.of (hts (.stringRef "DistantVoice$Text" 90 xq_t1) (lw_mem1 lw_T0_in 3 47 rfl rfl)) (hE 1 (by decide)), va_Zof (hts _ (lw_mem1 lw_T0_in 2 202 rfl rfl)) (hts _ (lw_mem1 lw_T0_in 1 12 rfl rfl)) (va_eqi (hs _ lw_cs)) hA, va_Zqof (hts _ (lw_mem1 lw_T0_in 3 5 rfl rfl)) (hts _ (lw_mem1 lw_T0_in 1 16 rfl rfl)) (hs _ lw_sf) hA⟩
  · have h1 := hV.1 i hi
    rw [← lw_ad_lt (adK := adK) (adV := adV) hi, ← lw_ad_ge (adK := adK) (adV := adV) i] at h1
    exact h1
  · rw [lw_ad_lt hi, lw_ad_lt hj] at e
    exact hV.2 i j hi hj e
set_option maxRecDepth 100000 in
theorem lw_K {s : State} {b : Nat} (hts : ∀ w ∈ lw_tbl, w.before #[Value.ref b] s = true) : ∃ (dC : Nat → ClassId) (dI : Nat → Nat → Nat) (cI cB cJ cZ cM : ClassId), va_K (dC, dI) vwCl (xq_tys cI cB cJ cZ cM) s := by
  obtain ⟨c0, i0, h0⟩ := u_known (C := RX0) (T := TX0) (N := 3) (n := 3) hts lw_c9 (hts (.instantiable RX0 3) (lw_mem1 lw_T0_in 2 42 rfl rfl))
  obtain ⟨c1, i1, h1⟩ := u_known (C := RX1) (T := TX1) (N := 5) (n := 5) hts lw_c12 (hts (.instantiable RX1 5) (lw_mem1 lw_T0_in 3 86 rfl rfl))
  obtain ⟨c2, i2, h2⟩ := u_known (C := RX2) (T := TX2) (N := 19) (n := 19) hts lw_c8 (hts (.instantiable RX2 19) (lw_mem1 lw_T0_in 1 181 rfl rfl))
  obtain ⟨c3, i3, h3⟩ := u_known (C := RX3) (T := TX3) (N := 3) (n := 3) hts lw_c11 (hts (.instantiable RX3 3) (lw_mem1 lw_T0_in 3 78 rfl rfl))
  obtain ⟨c4, i4, h4⟩ := u_known (C := RX4) (T := TX4) (N := 2) (n := 2) hts lw_c7 (hts (.instantiable RX4 2) (lw_mem1 lw_T0_in 1 166 rfl rfl))
  obtain ⟨c5, i5, h5⟩ := u_known (C := RX5) (T := TX5) (N := 4) (n := 4) hts lw_c5 (hts (.instantiable RX5 4) (lw_mem1 lw_T0_in 1 127 rfl rfl))
  obtain ⟨c6, i6, h6⟩ := u_known (C := RX6) (T := TX6) (N := 8) (n := 8) hts lw_c3 (hts (.instantiable RX6 8) (lw_mem1 lw_T0_in 1 50 rfl rfl))
  obtain ⟨c7, i7, h7⟩ := u_known (C := RX7) (T := TX7) (N := 4) (n := 4) hts lw_c4 (hts (.instantiable RX7 4) (lw_mem1 lw_T0_in 1 104 rfl rfl))
  obtain ⟨c8, i8, h8⟩ := u_known (C := RX8) (T := TX8) (N := 3) (n := 3) hts lw_c6 (hts (.instantiable RX8 3) (lw_mem1 lw_T0_in 1 147 rfl rfl))
  obtain ⟨c9, i9, h9⟩ := u_known (C := RX9) (T := TX9) (N := 2) (n := 2) hts lw_c2 (hts (.instantiable RX9 2) (lw_mem1 lw_T0_in 1 32 rfl rfl))
  obtain ⟨c10, i10, h10⟩ := u_known (C := RX10) (T := TX10) (N := 8) (n := 8) hts lw_c10 (hts (.instantiable RX10 8) (lw_mem1 lw_T0_in 2 129 rfl rfl))
  obtain ⟨c11, i11, h11⟩ := u_known (C := RX11) (T := TX11) (N := 15) (n := 15) hts lw_c0 (hts (.instantiable RX11 15) (lw_mem1 lw_T0_in 1 24 rfl rfl))
  obtain ⟨c12, i12, h12⟩ := u_known (C := RX12) (T := TX12) (N := 70) (n := 70) hts lw_c1 (hts (.instantiable RX12 70) (lw_mem1 lw_T0_in 5 139 rfl rfl))
  obtain ⟨cI, kI, pI, aI, bI, dI⟩ := Cond.arrayClass_spec (hts (.arrayClass .int) (lw_mem1 lw_T0_in 1 102 rfl rfl))
  obtain ⟨cB, kB, pB, aB, bB, dB⟩ := Cond.arrayClass_spec (hts (.arrayClass .byte) (lw_mem1 lw_T0_in 1 48 rfl rfl))
  obtain ⟨cJ, kJ, pJ, aJ, bJ, dJ⟩ := Cond.arrayClass_spec (hts (.arrayClass .long) (lw_mem1 lw_T0_in 6 115 rfl rfl))
  obtain ⟨cZ, kZ, pZ, aZ, bZ, dZ⟩ := Cond.arrayClass_spec (hts (.arrayClass .boolean) (lw_mem1 lw_T0_in 6 116 rfl rfl))
  obtain ⟨pM, cM, kM, e1, e2, e3, e4, e5⟩ := Cond.arrayOver_spec (hts (.arrayOver (.object RX6)) (lw_mem1 lw_T0_in 1 110 rfl rfl))
  refine ⟨fun k => if k = 0 then c0 else if k = 1 then c1 else if k = 2 then c2 else if k = 3 then c3 else if k = 4 then c4 else if k = 5 then c5 else if k = 6 then c6 else if k = 7 then c7 else if k = 8 then c8 else if k = 9 then c9 else if k = 10 then c10 else if k = 11 then c11 else c12, fun k => if k = 0 then i0 else if k = 1 then i1 else if k = 2 then i2 else if k = 3 then i3 else if k = 4 then i4 else if k = 5 then i5 else if k = 6 then i6 else if k = 7 then i7 else if k = 8 then i8 else if k = 9 then i9 else if k = 10 then i10 else if k = 11 then i11 else i12, cI, cB, cJ, cZ, cM, fun k q hq => ?_, fun k q hq => ?_⟩
  · match k, hq with
    | 0, hq => cases hq; exact h0
    | 1, hq => cases hq; exact h1
    | 2, hq => cases hq; exact h2
    | 3, hq => cases hq; exact h3
    | 4, hq => cases hq; exact h4
    | 5, hq => cases hq; exact h5
    | 6, hq => cases hq; exact h6
    | 7, hq => cases hq; exact h7
    | 8, hq => cases hq; exact h8
    | 9, hq => cases hq; exact h9
    | 10, hq => cases hq; exact h10
    | 11, hq => cases hq; exact h11
    | 12, hq => cases hq; exact h12
    | k + 13, hq => simp [vwCl] at hq
  · match k, hq with
    | 0, hq => cases hq; exact ⟨fun n z => ⟨(fun k h => by cases h), kI, bI, pI, dI⟩, aI⟩
    | 1, hq => cases hq; exact ⟨fun n z => ⟨(fun k h => by cases h), kB, bB, pB, dB⟩, aB⟩
    | 2, hq => cases hq; exact ⟨fun n z => ⟨(fun k h => by cases h), kJ, bJ, pJ, dJ⟩, aJ⟩
    | 3, hq => cases hq; exact ⟨fun n z => ⟨(fun k h => by cases h), kZ, bZ, pZ, dZ⟩, aZ⟩
    | 4, hq => cases hq; exact ⟨fun n z => ⟨(fun k h => by cases h), kM, e3, pM, e4⟩, ⟨kM, pM, e3, e4, e1, e5⟩⟩
    | k + 5, hq => simp [xq_tys] at hq
