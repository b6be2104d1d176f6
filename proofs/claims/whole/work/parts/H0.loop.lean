/-! the law's switch and its loop -/
section
variable {p : Program} {l : Launch} {e : Env} {s : State} {m : MethodId} {below : List Frame} {meth : Method} {c : Code} {b L : Nat} {xs : Nat → Int32} {dC : Nat → ClassId} {dI : Nat → Nat → Nat} {cI cB cJ cZ cM : ClassId} {ad : Nat → Nat} {x mm : Nat} (N : Nat)
set_option maxHeartbeats 4000000 in
set_option maxRecDepth 100000 in
theorem lw_disp {t cells slots : Nat} {H : Heap} {locs : List Loc} {ls : Array Slot} {i : Int32} (h5 : 5000 ≤ N) (C0 : lw_At p s m meth c b L xs) (hN : xq_Env s.heap.size ad (fun q : Nat => s.heap.size ≤ q) s) (hK : va_K (dC, dI) vwCl (xq_tys cI cB cJ cZ cM) s) (hSt : lw_St dC dI cI cB cJ cZ cM s x mm t H locs) (hl : lv_has ls 4 [(3, .int i), (2, .ref mm), (1, .ref x), (0, .ref b)]) (hv1 : vp_in (i + 1) L) (hv2 : vp_in (i + 2) L) (hv3 : vp_in (i + 3) L) (hv4 : vp_in (i + 4) L) (hv5 : vp_in (i + 5) L) (hf : cells + 78 ≤ room_1.cells ∧ slots + (79 + 65 * (t + 1)) ≤ room_1.slots)
    (kk : ∀ (t' : Nat) (H' : Heap) (locs' : List Loc), t' ≤ t + 20 → lw_St dC dI cI cB cJ cZ cM s x mm t' H' locs' → W p l e room_1 s m #[Value.ref b] below meth c H' locs' cells slots (lw_Z below #[Value.ref b] s) (F0 m 1029 ls [])) (kh : ∀ (H' : Heap) (locs' : List Loc), lw_St dC dI cI cB cJ cZ cM s x mm 0 H' locs' → W p l e room_1 s m #[Value.ref b] below meth c H' locs' (cells + 78) (slots + (79 + 65 * (t + 1))) (lw_Z below #[Value.ref b] s) (F0 m 1029 ls [])) (y : Int32) : W p l e room_1 s m #[Value.ref b] below meth c H locs cells slots (lw_Z below #[Value.ref b] s) (F0 m 33 ls [.int y]) := by
  have hx := C0.1
  have hb := C0.2.1
  have hf0 : cells ≤ room_1.cells ∧ slots ≤ room_1.slots := ⟨by omega, by omega⟩
  by_cases ho : y.toInt < 0 ∨ 32 < y.toInt
  · exact lv_tableOut (tgt := 1029) hx hb dL_law_33 ho (by decide) (kk t H locs (Nat.le_add_right _ _) hSt)
  have h1 : ¬ y.toInt < 0 := fun h => ho (Or.inl h)
  have h2 : ¬ 32 < y.toInt := fun h => ho (Or.inr h)
  rcases (show y.toInt = 0 ∨ y.toInt = 1 ∨ y.toInt = 2 ∨ y.toInt = 3 ∨ y.toInt = 4 ∨ y.toInt = 5 ∨ y.toInt = 6 ∨ y.toInt = 7 ∨ y.toInt = 8 ∨ y.toInt = 9 ∨ y.toInt = 10 ∨ y.toInt = 11 ∨ y.toInt = 12 ∨ y.toInt = 13 ∨ y.toInt = 14 ∨ y.toInt = 15 ∨ y.toInt = 16 ∨ y.toInt = 17 ∨ y.toInt = 18 ∨ y.toInt = 19 ∨ y.toInt = 20 ∨ y.toInt = 21 ∨ y.toInt = 22 ∨ y.toInt = 23 ∨ y.toInt = 24 ∨ y.toInt = 25 ∨ y.toInt = 26 ∨ y.toInt = 27 ∨ y.toInt = 28 ∨ y.toInt = 29 ∨ y.toInt = 30 ∨ y.toInt = 31 ∨ y.toInt = 32 by omega) with h | h | h | h | h | h | h | h | h | h | h | h | h | h | h | h | h | h | h | h | h | h | h | h | h | h | h | h | h | h | h | h | h
  · exact lv_tableIn (off := 147) (tgt := 180) hx hb dL_law_33 h1 h2 (by rw [h]; rfl) (by decide) (lwo_feed N h5 C0 hN hK hSt hl hv1 hv2 hv3 hv4 hv5 hf0 kk)
  · exact lv_tableIn (off := 210) (tgt := 243) hx hb dL_law_33 h1 h2 (by rw [h]; rfl) (by decide) (lwo_end N h5 C0 hN hK hSt hl hv1 hf0 kk)
  · exact lv_tableIn (off := 233) (tgt := 266) hx hb dL_law_33 h1 h2 (by rw [h]; rfl) (by decide) (lwo_house N h5 C0 hN hK hSt hl  hf kh)
  · exact lv_tableIn (off := 246) (tgt := 279) hx hb dL_law_33 h1 h2 (by rw [h]; rfl) (by decide) (lwo_fault N h5 C0 hN hK hSt hl hv1 hf0 kk)
  · exact lv_tableIn (off := 269) (tgt := 302) hx hb dL_law_33 h1 h2 (by rw [h]; rfl) (by decide) (lwo_has N h5 C0 hN hK hSt hl hv1 hf0 kk)
  · exact lv_tableIn (off := 292) (tgt := 325) hx hb dL_law_33 h1 h2 (by rw [h]; rfl) (by decide) (lwo_letter N h5 C0 hN hK hSt hl hv1 hv2 hv3 hf0 kk)
  · exact lv_tableIn (off := 335) (tgt := 368) hx hb dL_law_33 h1 h2 (by rw [h]; rfl) (by decide) (lwo_ear N h5 C0 hN hK hSt hl hv1 hv2 hf0 kk)
  · exact lv_tableIn (off := 368) (tgt := 401) hx hb dL_law_33 h1 h2 (by rw [h]; rfl) (by decide) (lwo_place N h5 C0 hN hK hSt hl hv1 hv2 hf0 kk)
  · exact lv_tableIn (off := 401) (tgt := 434) hx hb dL_law_33 h1 h2 (by rw [h]; rfl) (by decide) (lwo_stride N h5 C0 hN hK hSt hl  hf0 kk)
  · exact lv_tableIn (off := 414) (tgt := 447) hx hb dL_law_33 h1 h2 (by rw [h]; rfl) (by decide) (lwo_later N h5 C0 hN hK hSt hl hv1 hv2 hf0 kk)
  · exact lv_tableIn (off := 447) (tgt := 480) hx hb dL_law_33 h1 h2 (by rw [h]; rfl) (by decide) (lwo_round N h5 C0 hN hK hSt hl hv1 hf0 kk)
  · exact lv_tableIn (off := 470) (tgt := 503) hx hb dL_law_33 h1 h2 (by rw [h]; rfl) (by decide) (lwo_heard N h5 C0 hN hK hSt hl hv1 hf0 kk)
  · exact lv_tableIn (off := 493) (tgt := 526) hx hb dL_law_33 h1 h2 (by rw [h]; rfl) (by decide) (lwo_often N h5 C0 hN hK hSt hl hv1 hv2 hf0 kk)
  · exact lv_tableIn (off := 526) (tgt := 559) hx hb dL_law_33 h1 h2 (by rw [h]; rfl) (by decide) (lwo_quiet N h5 C0 hN hK hSt hl hv1 hv2 hf0 kk)
  · exact lv_tableIn (off := 559) (tgt := 592) hx hb dL_law_33 h1 h2 (by rw [h]; rfl) (by decide) (lwo_seats N h5 C0 hN hK hSt hl hv1 hv2 hf0 kk)
  · exact lv_tableIn (off := 592) (tgt := 625) hx hb dL_law_33 h1 h2 (by rw [h]; rfl) (by decide) (lwo_watch N h5 C0 hN hK hSt hl hv1 hf0 kk)
  · exact lv_tableIn (off := 615) (tgt := 648) hx hb dL_law_33 h1 h2 (by rw [h]; rfl) (by decide) (lwo_silence N h5 C0 hN hK hSt hl hv1 hf0 kk)
  · exact lv_tableIn (off := 638) (tgt := 671) hx hb dL_law_33 h1 h2 (by rw [h]; rfl) (by decide) (lwo_odds N h5 C0 hN hK hSt hl hv1 hf0 kk)
  · exact lv_tableIn (off := 661) (tgt := 694) hx hb dL_law_33 h1 h2 (by rw [h]; rfl) (by decide) (lwo_mark N h5 C0 hN hK hSt hl  hf0 kk)
  · exact lv_tableIn (off := 674) (tgt := 707) hx hb dL_law_33 h1 h2 (by rw [h]; rfl) (by decide) (lwo_miles N h5 C0 hN hK hSt hl hv1 hf0 kk)
  · exact lv_tableIn (off := 697) (tgt := 730) hx hb dL_law_33 h1 h2 (by rw [h]; rfl) (by decide) (lwo_tells N h5 C0 hN hK hSt hl hv1 hf0 kk)
  · exact lv_tableIn (off := 720) (tgt := 753) hx hb dL_law_33 h1 h2 (by rw [h]; rfl) (by decide) (lwo_nights N h5 C0 hN hK hSt hl hv1 hf0 kk)
  · exact lv_tableIn (off := 743) (tgt := 776) hx hb dL_law_33 h1 h2 (by rw [h]; rfl) (by decide) (lwo_chance N h5 C0 hN hK hSt hl hv1 hf0 kk)
  · exact lv_tableIn (off := 766) (tgt := 799) hx hb dL_law_33 h1 h2 (by rw [h]; rfl) (by decide) (lwo_hush N h5 C0 hN hK hSt hl hv1 hf0 kk)
  · exact lv_tableIn (off := 789) (tgt := 822) hx hb dL_law_33 h1 h2 (by rw [h]; rfl) (by decide) (lwo_sit N h5 C0 hN hK hSt hl hv1 hv2 hf0 kk)
  · exact lv_tableIn (off := 822) (tgt := 855) hx hb dL_law_33 h1 h2 (by rw [h]; rfl) (by decide) (lwo_please N h5 C0 hN hK hSt hl hv1 hv2 hf0 kk)
  · exact lv_tableIn (off := 855) (tgt := 888) hx hb dL_law_33 h1 h2 (by rw [h]; rfl) (by decide) (lwo_undo N h5 C0 hN hK hSt hl  hf0 kk)
  · exact lv_tableIn (off := 868) (tgt := 901) hx hb dL_law_33 h1 h2 (by rw [h]; rfl) (by decide) (lwo_seed N h5 C0 hN hK hSt hl hv1 hf0 kk)
  · exact lv_tableIn (off := 891) (tgt := 924) hx hb dL_law_33 h1 h2 (by rw [h]; rfl) (by decide) (lwo_kept N h5 C0 hN hK hSt hl hv1 hv2 hf0 kk)
  · exact lv_tableIn (off := 924) (tgt := 957) hx hb dL_law_33 h1 h2 (by rw [h]; rfl) (by decide) (lwo_image N h5 C0 hN hK hSt hl  hf0 kk)
  · exact lv_tableIn (off := 937) (tgt := 970) hx hb dL_law_33 h1 h2 (by rw [h]; rfl) (by decide) (lwo_octet N h5 C0 hN hK hSt hl hv1 hf0 kk)
  · exact lv_tableIn (off := 960) (tgt := 993) hx hb dL_law_33 h1 h2 (by rw [h]; rfl) (by decide) (lwo_on N h5 C0 hN hK hSt hl  hf0 kk)
  · exact lv_tableIn (off := 973) (tgt := 1006) hx hb dL_law_33 h1 h2 (by rw [h]; rfl) (by decide) (lwo_status N h5 C0 hN hK hSt hl hv1 hf0 kk)
theorem lw_stop {L k : Nat} (hL : L ≤ 3072) (hk : 6 * k ≤ L) (h : ¬ Int32.ofNat L - 6 < nI (6 * k)) : 6 * k + 6 ≤ L := by
  rcases Nat.lt_or_ge L (6 * k + 6) with q | q
  · refine absurd ?_ h
    rcases Nat.lt_or_ge L 6 with z | z
    · obtain rfl : k = 0 := by omega
      rcases (show L = 0 ∨ L = 1 ∨ L = 2 ∨ L = 3 ∨ L = 4 ∨ L = 5 by omega) with rfl | rfl | rfl | rfl | rfl | rfl <;> decide
    · have e : Int32.ofNat L = nI (L - 6) + 6 := by
        show nI L = nI (L - 6) + nI 6
        rw [nI_add]
        exact nI_c (by omega)
      rw [e, Int32.add_sub_cancel]
      exact nI_lt (by omega) (by omega)
  · exact q
theorem lw_vin {L k : Nat} (hL : L ≤ 3072) (h6 : 6 * k + 6 ≤ L) (j : Nat) (hj : j < 6) {v : Int32} (hv : v = nI j) : vp_in (nI (6 * k) + v) L := by
  rw [hv, nI_add]
  exact vp_in_nI (by omega) (by omega)
set_option maxHeartbeats 4000000 in
set_option maxRecDepth 100000 in
/-- THE LAW'S LOOP: with k rounds done both hold one pure state; what was made is bounded -/
theorem lw_loop (h5 : 5000 ≤ N) (hL : L ≤ 3072) (C0 : lw_At p s m meth c b L xs) (hN : xq_Env s.heap.size ad (fun q : Nat => s.heap.size ≤ q) s) (hK : va_K (dC, dI) vwCl (xq_tys cI cB cJ cZ cM) s) : ∀ (f k t cells slots : Nat) (i : Int32) (H : Heap) (locs : List Loc) (ls : Array Slot), 6 * k ≤ L → L < 6 * (k + f) → i = nI (6 * k) → cells ≤ 143 + 78 * k → slots + 65 * t ≤ 32047 + 1444 * k → lw_St dC dI cI cB cJ cZ cM s x mm t H locs → lv_has ls 4 [(3, .int i), (2, .ref mm), (1, .ref x), (0, .ref b)] → W p l e room_1 s m #[Value.ref b] below meth c H locs cells slots (lw_Z below #[Value.ref b] s) (F0 m 18 ls []) := by
  have hx := C0.1
  have hb := C0.2.1
  have hr := C0.2.2.1
  have hX := C0.2.2.2.2.2.2.1
  have hbl := C0.2.2.2.2.2.2.2.1
  have hlocks := C0.2.2.2.2.2.2.2.2.1
  have hbA : ¬ (fun q : Nat => s.heap.size ≤ q) b := Nat.not_le.mpr hbl
  have hR1 : room_1.cells = 600000 := rfl
  have hR2 : room_1.slots = 7302250 := rfl
  intro f
  induction f with
  | zero =>
    intro k t cells slots i H locs ls h1 h2
    exact absurd h2 (by omega)
  | succ f ih =>
    intro k t cells slots i H locs ls hk hkf ei hc hs hSt hl
    obtain ⟨R, S, Rm, C, P, Q, V, n, I, J, A, B, hRR, hP, hD, hS⟩ := id hSt
    have hend : ∀ (t' cells' slots' : Nat) (H' : Heap) (locs' : List Loc), 6 * k + 6 ≤ L → cells' ≤ 143 + 78 * (k + 1) → slots' + 65 * t' ≤ 32047 + 1444 * (k + 1) → lw_St dC dI cI cB cJ cZ cM s x mm t' H' locs' → W p l e room_1 s m #[Value.ref b] below meth c H' locs' cells' slots' (lw_Z below #[Value.ref b] s) (F0 m 1029 ls []) := by
      intro t' cells' slots' H' locs' h6 hc' hs' hSt'
      refine lv_iinc (v := nI (6 * (k + 1))) (lv' := [(3, .int (nI (6 * (k + 1)))), (2, .ref mm), (1, .ref x), (0, .ref b)]) hx hb dL_law_1029 hl (k := 0) rfl (by rw [ei, show Int32.ofInt 6 = nI 6 from by decide, nI_add]; exact nI_c (by omega)) (by decide) rfl (fun ls hl => ?_)
      refine lv_goto (tgt := 18) hx hb dL_law_1032 (by decide) ?_
      exact ih (k + 1) t' cells' slots' _ H' locs' ls (by omega) (by omega) rfl hc' hs' hSt' hl
    refine lv_iload_n hx hb dL_law_18 rfl (lv_at hl 0 rfl) ?_
    refine lv_aload_n hx hb dL_law_19 rfl (lv_at hl 3 rfl) ?_
    refine va_slen hx hb hX hbl hbA hS dL_law_20 ?_
    refine lv_bipush (v := 6) hx hb dL_law_21 (by decide) ?_
    refine lv_isub hx hb dL_law_23 ?_
    refine lv_icmp_gt (tgt := 1035) hx hb dL_law_24 (by decide) (fun c_1 => ?_) (fun c_1 => ?_)
    · refine lv_iconst (v := 1) hx hb dL_law_1035 (by decide) ?_
      refine va_forget (fun q hq => hS.2.2 q hq) ?_
      refine W.widen (k := 600000) (n := 7302250) (by omega) (by omega) ?_
      exact lw_ret hx hb hr hlocks dL_law_1036
    · have h6 : 6 * k + 6 ≤ L := lw_stop hL hk (by rw [ei] at c_1; exact c_1)
      have hv0 : vp_in i L := by rw [ei]; exact vp_in_nI (by omega) (by omega)
      have hv : ∀ (j : Nat) (v : Int32), j < 6 → v = nI j → vp_in (i + v) L := fun j v hj hv => by rw [ei]; exact lw_vin hL h6 j hj hv
      refine lv_aload_n hx hb dL_law_27 rfl (lv_at hl 3 rfl) ?_
      refine lv_iload_n hx hb dL_law_28 rfl (lv_at hl 0 rfl) ?_
      refine va_sld hx hb hX hbl hbA hS hv0 dL_law_29 ?_
      refine lv_bipush (v := 63) hx hb dL_law_30 (by decide) ?_
      refine lv_iand hx hb dL_law_32 ?_
      exact lw_disp N h5 C0 hN hK hSt hl (hv 1 1 (by decide) rfl) (hv 2 2 (by decide) rfl) (hv 3 3 (by decide) rfl) (hv 4 4 (by decide) rfl) (hv 5 5 (by decide) rfl) ⟨by omega, by omega⟩ (fun t' H' locs' ht hSt' => hend t' cells slots H' locs' h6 (by omega) (by omega) hSt') (fun H' locs' hSt' => hend 0 (cells + 78) (slots + (79 + 65 * (t + 1))) H' locs' h6 (by omega) (by omega) hSt') _
end
