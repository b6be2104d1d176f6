/-! the law's own words: each callee's words are among the tables' (by places in a table of pieces), and the law's decode rows -/
theorem lw_memt {big : List Cond} {T : List (List Cond)} (hT : ∀ l ∈ T, ∀ w ∈ l, w ∈ big) (ws : List Cond) (ps : List (Nat × Nat)) (hp : ws = ps.filterMap (fun q => (T[q.1]?).bind (fun l => l[q.2]?))) : ∀ w ∈ ws, w ∈ big := by
  intro w hw
  rw [hp] at hw
  obtain ⟨q, -, hq⟩ := List.mem_filterMap.mp hw
  cases h1 : T[q.1]? with
  | none => rw [h1] at hq; cases hq
  | some l =>
    rw [h1] at hq
    exact hT l (List.mem_of_getElem? h1) w (List.mem_of_getElem? hq)
theorem lw_mem1 {big : List Cond} {T : List (List Cond)} (hT : ∀ l ∈ T, ∀ w ∈ l, w ∈ big) {w : Cond} (j i : Nat) {l : List Cond} (h1 : T[j]? = some l) (h2 : l[i]? = some w) : w ∈ big := hT l (List.mem_of_getElem? h1) w (List.mem_of_getElem? h2)
def lw_T0 : List (List Cond) := [k2_sels lw_privs, tables_1_1, tables_1_2, tables_1_3, tables_1_4, tables_1_5, tables_1_6, tables_1_7, tables_1_8]
theorem lw_T0_in : ∀ l ∈ lw_T0, ∀ w ∈ l, w ∈ lw_tbl :=
  List.forall_mem_cons.mpr ⟨fun _ h => List.mem_append_left _ h,
  List.forall_mem_cons.mpr ⟨fun _ h => List.mem_append_right _ (List.mem_append_left _ h),
  List.forall_mem_cons.mpr ⟨fun _ h => List.mem_append_right _ (List.mem_append_right _ (List.mem_append_left _ h)),
  List.forall_mem_cons.mpr ⟨fun _ h => List.mem_append_right _ (List.mem_append_right _ (List.mem_append_right _ (List.mem_append_left _ h))),
  List.forall_mem_cons.mpr ⟨fun _ h => List.mem_append_right _ (List.mem_append_right _ (List.mem_append_right _ (List.mem_append_right _ (List.mem_append_left _ h)))),
  List.forall_mem_cons.mpr ⟨fun _ h => List.mem_append_right _ (List.mem_append_right _ (List.mem_append_right _ (List.mem_append_right _ (List.mem_append_right _ (List.mem_append_left _ h))))),
  List.forall_mem_cons.mpr ⟨fun _ h => List.mem_append_right _ (List.mem_append_right _ (List.mem_append_right _ (List.mem_append_right _ (List.mem_append_right _ (List.mem_append_right _ (List.mem_append_left _ h)))))),
  List.forall_mem_cons.mpr ⟨fun _ h => List.mem_append_right _ (List.mem_append_right _ (List.mem_append_right _ (List.mem_append_right _ (List.mem_append_right _ (List.mem_append_right _ (List.mem_append_right _ (List.mem_append_left _ h))))))),
  List.forall_mem_cons.mpr ⟨fun _ h => List.mem_append_right _ (List.mem_append_right _ (List.mem_append_right _ (List.mem_append_right _ (List.mem_append_right _ (List.mem_append_right _ (List.mem_append_right _ (List.mem_append_right _ h))))))), fun _ h => absurd h List.not_mem_nil⟩⟩⟩⟩⟩⟩⟩⟩⟩
set_option maxRecDepth 100000 in
theorem lw_c0 : ∀ w ∈ wsX110, w ∈ lw_tbl := lw_memt lw_T0_in _ [(2, 73), (2, 75), (2, 77), (2, 79), (2, 81), (2, 83), (2, 85), (2, 87), (2, 89), (2, 91), (2, 93), (2, 95), (2, 97), (2, 99), (2, 101)] rfl
set_option maxRecDepth 100000 in
theorem lw_c1 : ∀ w ∈ wsX120, w ∈ lw_tbl := lw_memt lw_T0_in _ [(5, 214), (5, 216), (5, 218), (5, 220), (5, 222), (5, 224), (5, 226), (5, 228), (5, 230), (5, 232), (5, 234), (5, 236), (5, 238), (6, 0), (6, 2), (6, 4), (6, 6), (6, 8), (6, 10), (6, 12), (6, 14), (6, 16), (6, 18), (6, 20), (6, 22), (6, 24), (6, 26), (6, 28), (6, 30), (6, 32), (6, 34), (6, 36), (6, 38), (6, 40), (6, 42), (6, 44), (6, 46), (6, 48), (6, 50), (6, 52), (6, 54), (6, 56), (6, 58), (6, 60), (6, 62), (6, 64), (6, 66), (6, 68), (6, 70), (6, 72), (6, 74), (6, 76), (6, 78), (6, 80), (6, 82), (6, 84), (6, 86), (6, 88), (6, 90), (6, 92), (6, 94), (6, 96), (6, 98), (6, 100), (6, 102), (6, 104), (6, 106), (6, 108), (6, 110), (6, 112)] rfl
set_option maxRecDepth 100000 in
theorem lw_c2 : ∀ w ∈ wsX90, w ∈ lw_tbl := lw_memt lw_T0_in _ [(1, 43), (1, 45)] rfl
set_option maxRecDepth 100000 in
theorem lw_c3 : ∀ w ∈ wsX60, w ∈ lw_tbl := lw_memt lw_T0_in _ [(1, 85), (1, 87), (1, 89), (1, 91), (1, 93), (1, 95), (1, 97), (1, 99)] rfl
set_option maxRecDepth 100000 in
theorem lw_c4 : ∀ w ∈ wsX70, w ∈ lw_tbl := lw_memt lw_T0_in _ [(1, 117), (1, 119), (1, 121), (1, 123)] rfl
set_option maxRecDepth 100000 in
theorem lw_c5 : ∀ w ∈ wsX50, w ∈ lw_tbl := lw_memt lw_T0_in _ [(1, 137), (1, 139), (1, 141), (1, 143)] rfl
set_option maxRecDepth 100000 in
theorem lw_c6 : ∀ w ∈ wsX80, w ∈ lw_tbl := lw_memt lw_T0_in _ [(1, 158), (1, 160), (1, 162)] rfl
set_option maxRecDepth 100000 in
theorem lw_c7 : ∀ w ∈ wsX40, w ∈ lw_tbl := lw_memt lw_T0_in _ [(1, 175), (1, 177)] rfl
set_option maxRecDepth 100000 in
theorem lw_c8 : ∀ w ∈ wsX20, w ∈ lw_tbl := lw_memt lw_T0_in _ [(2, 2), (2, 4), (2, 6), (2, 8), (2, 10), (2, 12), (2, 14), (2, 16), (2, 18), (2, 20), (2, 22), (2, 24), (2, 26), (2, 28), (2, 30), (2, 32), (2, 34), (2, 36), (2, 38)] rfl
set_option maxRecDepth 100000 in
theorem lw_c9 : ∀ w ∈ wsX00, w ∈ lw_tbl := lw_memt lw_T0_in _ [(2, 51), (2, 53), (2, 55)] rfl
set_option maxRecDepth 100000 in
theorem lw_c10 : ∀ w ∈ wsX100, w ∈ lw_tbl := lw_memt lw_T0_in _ [(2, 146), (2, 148), (2, 150), (2, 152), (2, 154), (2, 156), (2, 158), (2, 160)] rfl
set_option maxRecDepth 100000 in
theorem lw_c11 : ∀ w ∈ wsX30, w ∈ lw_tbl := lw_memt lw_T0_in _ [(3, 110), (3, 112), (3, 114)] rfl
set_option maxRecDepth 100000 in
theorem lw_c12 : ∀ w ∈ wsX10, w ∈ lw_tbl := lw_memt lw_T0_in _ [(3, 96), (3, 98), (3, 100), (3, 102), (3, 104)] rfl
set_option maxRecDepth 100000 in
theorem lw_c13 : ∀ w ∈ wsL_law_r1, w ∈ lw_tbl := lw_memt lw_T0_in _ [(1, 23), (1, 24), (1, 1), (5, 138), (5, 139), (1, 10), (1, 25), (1, 26), (1, 27), (1, 28), (1, 29), (1, 30), (1, 31), (1, 32), (1, 2), (2, 58), (1, 49), (1, 50), (1, 3), (2, 59), (2, 60), (1, 103), (1, 104), (1, 4)] rfl
set_option maxRecDepth 100000 in
theorem lw_c14 : ∀ w ∈ wsL_law_r2, w ∈ lw_tbl := lw_memt lw_T0_in _ [(2, 61), (1, 126), (1, 127), (1, 5), (2, 62), (1, 146), (1, 147), (1, 6), (2, 63), (1, 165), (1, 166), (1, 7), (2, 64), (1, 102), (2, 65), (2, 66), (2, 67), (1, 180), (1, 181), (1, 8), (2, 68), (2, 41), (2, 42), (1, 9)] rfl
set_option maxRecDepth 100000 in
theorem lw_c15 : ∀ w ∈ wsL_law_r3, w ∈ lw_tbl := lw_memt lw_T0_in _ [(2, 69), (2, 70), (2, 71), (2, 72), (1, 34), (1, 35), (1, 36), (1, 48), (1, 37), (1, 38), (1, 52), (1, 53), (1, 54), (1, 55), (1, 59), (1, 63), (1, 67), (1, 71), (1, 74), (1, 77), (1, 81), (1, 105), (1, 106), (1, 107)] rfl
set_option maxRecDepth 100000 in
theorem lw_c16 : ∀ w ∈ wsL_law_r4, w ∈ lw_tbl := lw_memt lw_T0_in _ [(1, 108), (1, 109), (1, 112), (1, 113), (1, 114), (1, 116), (1, 129), (1, 130), (1, 131), (1, 132), (1, 134), (1, 135), (1, 136), (1, 149), (1, 150), (1, 151), (1, 152), (1, 154), (1, 156), (1, 168), (1, 169), (1, 170), (1, 171), (1, 173)] rfl
set_option maxRecDepth 100000 in
theorem lw_c17 : ∀ w ∈ wsL_law_r5, w ∈ lw_tbl := lw_memt lw_T0_in _ [(1, 183), (1, 184), (1, 185), (1, 186), (1, 189), (1, 194), (1, 197), (1, 200), (1, 203), (1, 208), (1, 213), (1, 216), (1, 219), (1, 223), (1, 226), (1, 230), (1, 233), (1, 235), (1, 237), (1, 239), (2, 0), (2, 1), (2, 43), (2, 44)] rfl
set_option maxRecDepth 100000 in
theorem lw_c18 : ∀ w ∈ wsL_law_r6, w ∈ lw_tbl := lw_memt lw_T0_in _ [(2, 45), (2, 46), (2, 49), (2, 50), (2, 47), (5, 140), (5, 141), (5, 142), (5, 143), (5, 144), (5, 145), (5, 146), (5, 147), (5, 148), (5, 149), (5, 150), (5, 151), (5, 152), (5, 153), (5, 154), (5, 155), (5, 156), (5, 157), (5, 158)] rfl
set_option maxRecDepth 100000 in
theorem lw_c19 : ∀ w ∈ wsL_law_r7, w ∈ lw_tbl := lw_memt lw_T0_in _ [(5, 159), (5, 160), (5, 161), (5, 162), (5, 163), (5, 164), (5, 165), (5, 166), (5, 167), (5, 168), (5, 169), (5, 170), (5, 171), (6, 115), (5, 172), (5, 173), (5, 174), (5, 175), (5, 176), (5, 177), (5, 178), (6, 116), (5, 179), (5, 180)] rfl
set_option maxRecDepth 100000 in
theorem lw_c20 : ∀ w ∈ wsL_law_r8, w ∈ lw_tbl := lw_memt lw_T0_in _ [(5, 181), (5, 182), (5, 183), (5, 184), (5, 185), (5, 186), (5, 187), (5, 188), (5, 189), (5, 190), (5, 191), (5, 192), (5, 193), (5, 194), (5, 195), (5, 196), (5, 197), (5, 198), (5, 199), (5, 200), (5, 201), (5, 202), (5, 203), (5, 204)] rfl
set_option maxRecDepth 100000 in
theorem lw_c21 : ∀ w ∈ wsL_law_r9, w ∈ lw_tbl := lw_memt lw_T0_in _ [(5, 205), (5, 206), (5, 207), (5, 208), (5, 209), (5, 210), (5, 211), (5, 212), (5, 213), (2, 104), (2, 105), (2, 106), (2, 107), (2, 108), (2, 110), (0, 0), (2, 111), (2, 112), (2, 113), (2, 114), (2, 115), (6, 117), (6, 118), (6, 119)] rfl
set_option maxRecDepth 100000 in
theorem lw_c22 : ∀ w ∈ wsL_law_r10, w ∈ lw_tbl := lw_memt lw_T0_in _ [(6, 120), (6, 121), (6, 123), (0, 51), (6, 124), (6, 125), (6, 127), (0, 52), (6, 128), (2, 116), (2, 117), (2, 118), (2, 119), (2, 120), (2, 122), (0, 1), (2, 123), (6, 129), (6, 130), (6, 131), (6, 132), (2, 124), (2, 125), (2, 126)] rfl
set_option maxRecDepth 100000 in
theorem lw_c23 : ∀ w ∈ wsL_law_r11, w ∈ lw_tbl := lw_memt lw_T0_in _ [(2, 127), (2, 128), (2, 129), (1, 11), (3, 77), (3, 78), (1, 18), (2, 130), (2, 131), (2, 132), (2, 133), (2, 139), (2, 140), (2, 141), (2, 144), (2, 134), (2, 136), (2, 137), (2, 138), (2, 163), (2, 164), (2, 165), (2, 166), (2, 167)] rfl
set_option maxRecDepth 100000 in
theorem lw_c24 : ∀ w ∈ wsL_law_r12, w ∈ lw_tbl := lw_memt lw_T0_in _ [(2, 168), (2, 169), (2, 170), (2, 171), (2, 172), (2, 173), (2, 174), (2, 176), (0, 2), (2, 177), (2, 178), (2, 180), (0, 3), (2, 181), (2, 182), (2, 183), (2, 184), (2, 185), (2, 186), (2, 187), (2, 189), (2, 190), (2, 191), (1, 12)] rfl
set_option maxRecDepth 100000 in
theorem lw_c25 : ∀ w ∈ wsL_law_r13, w ∈ lw_tbl := lw_memt lw_T0_in _ [(2, 192), (2, 193), (2, 194), (2, 195), (2, 196), (8, 70), (2, 197), (2, 198), (2, 199), (2, 200), (2, 201), (8, 69), (2, 203), (2, 204), (2, 205), (2, 206), (2, 207), (2, 208), (2, 209), (2, 210), (2, 211), (2, 212), (1, 13), (2, 213)] rfl
set_option maxRecDepth 100000 in
theorem lw_c26 : ∀ w ∈ wsL_law_r14, w ∈ lw_tbl := lw_memt lw_T0_in _ [(2, 217), (2, 218), (1, 14), (2, 219), (2, 220), (2, 221), (2, 222), (2, 214), (2, 215), (2, 216), (2, 223), (2, 224), (2, 225), (2, 226), (2, 227), (1, 15), (2, 228), (2, 229), (2, 230), (2, 231), (2, 232), (2, 233), (2, 234), (2, 235)] rfl
set_option maxRecDepth 100000 in
theorem lw_c27 : ∀ w ∈ wsL_law_r15, w ∈ lw_tbl := lw_memt lw_T0_in _ [(2, 236), (2, 237), (2, 238), (2, 239), (3, 0), (3, 1), (3, 2), (3, 3), (3, 4), (3, 6), (3, 7), (1, 16), (3, 8), (3, 9), (3, 10), (3, 11), (3, 12), (3, 13), (3, 14), (3, 15), (3, 17), (3, 19), (3, 21), (3, 22)] rfl
set_option maxRecDepth 100000 in
theorem lw_c28 : ∀ w ∈ wsL_law_r16, w ∈ lw_tbl := lw_memt lw_T0_in _ [(3, 23), (3, 24), (3, 25), (1, 17), (3, 26), (3, 27), (3, 28), (3, 29), (3, 30), (3, 31), (3, 32), (3, 33), (3, 34), (3, 35), (3, 37), (0, 4), (3, 38), (3, 39), (3, 41), (0, 5), (3, 42), (3, 43), (3, 45), (0, 6)] rfl
set_option maxRecDepth 100000 in
theorem lw_c29 : ∀ w ∈ wsL_law_r17, w ∈ lw_tbl := lw_memt lw_T0_in _ [(3, 46), (3, 48), (3, 49), (3, 50), (3, 51), (3, 52), (3, 53), (3, 54), (3, 55), (3, 56), (3, 57), (3, 58), (3, 59), (3, 60), (3, 61), (3, 62), (3, 63), (3, 64), (3, 65), (3, 66), (3, 67), (3, 68), (3, 69), (3, 71)] rfl
set_option maxRecDepth 100000 in
theorem lw_c30 : ∀ w ∈ wsL_law_r18, w ∈ lw_tbl := lw_memt lw_T0_in _ [(0, 7), (3, 72), (3, 73), (3, 75), (0, 8), (3, 76), (3, 79), (3, 80), (3, 81), (3, 82), (3, 83), (3, 109), (3, 107), (3, 85), (3, 86), (1, 19), (3, 108), (3, 87), (3, 88), (3, 89), (3, 90), (3, 93), (3, 94), (3, 95)] rfl
set_option maxRecDepth 100000 in
theorem lw_c31 : ∀ w ∈ wsL_law_r19, w ∈ lw_tbl := lw_memt lw_T0_in _ [(3, 91), (3, 92), (3, 117), (3, 118), (3, 119), (3, 120), (3, 121), (3, 122), (3, 123), (3, 124), (3, 125), (3, 126), (3, 127), (3, 128), (3, 129), (3, 130), (3, 131), (3, 132), (3, 133), (3, 134), (3, 135), (3, 136), (3, 137), (3, 139)] rfl
set_option maxRecDepth 100000 in
theorem lw_c32 : ∀ w ∈ wsL_law_r20, w ∈ lw_tbl := lw_memt lw_T0_in _ [(0, 9), (3, 140), (3, 141), (3, 142), (3, 143), (3, 144), (3, 145), (3, 146), (3, 147), (3, 148), (3, 149), (3, 150), (3, 151), (3, 152), (3, 154), (0, 10), (3, 155), (3, 156), (3, 158), (0, 11), (3, 159), (3, 160), (3, 162), (0, 12)] rfl
set_option maxRecDepth 100000 in
theorem lw_c33 : ∀ w ∈ wsL_law_r21, w ∈ lw_tbl := lw_memt lw_T0_in _ [(3, 163), (3, 164), (3, 166), (0, 13), (3, 167), (3, 168), (3, 169), (3, 170), (3, 171), (3, 172), (3, 174), (0, 14), (3, 175), (3, 176), (3, 177), (3, 178), (3, 179), (3, 180), (3, 181), (3, 182), (3, 183), (3, 184), (3, 185), (3, 186)] rfl
set_option maxRecDepth 100000 in
theorem lw_c34 : ∀ w ∈ wsL_law_r22, w ∈ lw_tbl := lw_memt lw_T0_in _ [(3, 187), (3, 188), (3, 190), (0, 15), (3, 191), (3, 192), (3, 194), (0, 16), (3, 200), (3, 206), (3, 207), (3, 209), (0, 19), (3, 210), (3, 195), (3, 196), (3, 198), (0, 17), (3, 228), (3, 229), (3, 201), (3, 203), (0, 18), (3, 204)] rfl
set_option maxRecDepth 100000 in
theorem lw_c35 : ∀ w ∈ wsL_law_r23, w ∈ lw_tbl := lw_memt lw_T0_in _ [(3, 205), (3, 211), (3, 212), (3, 214), (0, 20), (4, 1), (3, 199), (3, 238), (4, 0), (0, 26), (3, 223), (3, 224), (3, 225), (3, 227), (0, 23), (3, 230), (3, 232), (0, 24), (3, 233), (3, 234), (3, 236), (0, 25), (3, 237), (3, 219)] rfl
set_option maxRecDepth 100000 in
theorem lw_c36 : ∀ w ∈ wsL_law_r24, w ∈ lw_tbl := lw_memt lw_T0_in _ [(3, 220), (3, 222), (0, 22), (3, 215), (3, 216), (3, 218), (0, 21), (4, 2), (4, 3), (1, 20), (4, 4), (4, 5), (4, 6), (4, 7), (4, 8), (4, 9), (4, 11), (4, 12), (4, 13), (4, 15), (4, 14), (1, 21), (4, 16), (4, 17)] rfl
set_option maxRecDepth 100000 in
theorem lw_c37 : ∀ w ∈ wsL_law_r25, w ∈ lw_tbl := lw_memt lw_T0_in _ [(4, 18), (4, 19), (4, 20), (4, 21), (4, 22), (4, 23), (4, 24), (6, 133), (6, 134), (6, 135), (6, 136), (6, 137), (6, 139), (0, 53), (6, 140), (6, 141), (6, 142), (6, 143), (6, 144), (6, 145), (6, 146), (6, 147), (6, 149), (0, 54)] rfl
set_option maxRecDepth 100000 in
theorem lw_c38 : ∀ w ∈ wsL_law_r26, w ∈ lw_tbl := lw_memt lw_T0_in _ [(6, 150), (6, 151), (6, 152), (6, 154), (0, 55), (6, 155), (6, 156), (6, 158), (0, 56), (6, 159), (6, 160), (6, 162), (0, 57), (6, 163), (6, 164), (6, 166), (0, 58), (6, 167), (6, 168), (6, 170), (0, 59), (6, 171), (6, 172), (6, 173)] rfl
set_option maxRecDepth 100000 in
theorem lw_c39 : ∀ w ∈ wsL_law_r27, w ∈ lw_tbl := lw_memt lw_T0_in _ [(6, 174), (6, 175), (6, 177), (0, 60), (6, 178), (6, 179), (6, 181), (0, 61), (6, 182), (6, 183), (6, 185), (0, 62), (6, 186), (6, 187), (6, 189), (0, 63), (6, 190), (6, 191), (6, 200), (6, 201), (6, 202), (6, 217), (6, 220), (6, 221)] rfl
set_option maxRecDepth 100000 in
theorem lw_c40 : ∀ w ∈ wsL_law_r28, w ∈ lw_tbl := lw_memt lw_T0_in _ [(6, 222), (6, 192), (6, 194), (0, 64), (6, 195), (6, 196), (6, 198), (0, 65), (6, 199), (6, 203), (6, 205), (0, 66), (6, 206), (6, 215), (6, 216), (6, 207), (6, 209), (0, 67), (6, 210), (6, 211), (6, 213), (0, 68), (6, 214), (6, 218)] rfl
set_option maxRecDepth 100000 in
theorem lw_c41 : ∀ w ∈ wsL_law_r29, w ∈ lw_tbl := lw_memt lw_T0_in _ [(6, 219), (6, 223), (6, 224), (6, 225), (6, 226), (6, 227), (6, 228), (6, 229), (6, 230), (6, 231), (6, 232), (6, 233), (6, 234), (6, 236), (0, 69), (6, 237), (6, 238), (7, 0), (0, 70), (7, 1), (7, 2), (7, 4), (0, 71), (7, 5)] rfl
set_option maxRecDepth 100000 in
theorem lw_c42 : ∀ w ∈ wsL_law_r30, w ∈ lw_tbl := lw_memt lw_T0_in _ [(7, 6), (7, 8), (0, 72), (7, 9), (7, 10), (7, 12), (0, 73), (7, 13), (7, 14), (7, 16), (0, 74), (7, 17), (7, 18), (7, 20), (0, 75), (7, 21), (7, 22), (7, 23), (7, 24), (7, 25), (7, 27), (0, 76), (7, 28), (7, 29)] rfl
set_option maxRecDepth 100000 in
theorem lw_c43 : ∀ w ∈ wsL_law_r31, w ∈ lw_tbl := lw_memt lw_T0_in _ [(7, 31), (0, 77), (7, 32), (7, 33), (7, 35), (0, 78), (7, 36), (7, 37), (7, 39), (0, 79), (7, 40), (7, 41), (7, 43), (0, 80), (7, 44), (7, 45), (7, 46), (7, 47), (7, 48), (7, 50), (0, 81), (7, 51), (4, 25), (4, 26)] rfl
set_option maxRecDepth 100000 in
theorem lw_c44 : ∀ w ∈ wsL_law_r32, w ∈ lw_tbl := lw_memt lw_T0_in _ [(4, 27), (4, 28), (7, 52), (7, 53), (7, 54), (7, 55), (4, 29), (4, 30), (4, 31), (4, 32), (4, 38), (4, 33), (4, 34), (4, 35), (4, 36), (4, 37), (7, 72), (7, 73), (7, 74), (7, 75), (7, 76), (7, 78), (0, 84), (7, 79)] rfl
set_option maxRecDepth 100000 in
theorem lw_c45 : ∀ w ∈ wsL_law_r33, w ∈ lw_tbl := lw_memt lw_T0_in _ [(4, 39), (4, 40), (4, 41), (4, 42), (4, 43), (4, 45), (0, 27), (4, 46), (4, 47), (4, 48), (4, 49), (4, 50), (4, 52), (0, 28), (4, 53), (7, 80), (7, 81), (7, 82), (7, 83), (7, 92), (7, 84), (7, 86), (0, 85), (7, 87)] rfl
set_option maxRecDepth 100000 in
theorem lw_c46 : ∀ w ∈ wsL_law_r34, w ∈ lw_tbl := lw_memt lw_T0_in _ [(7, 88), (7, 90), (0, 86), (7, 91), (4, 54), (4, 55), (4, 56), (4, 57), (4, 58), (4, 59), (4, 60), (4, 61), (4, 62), (4, 64), (0, 29), (4, 65), (4, 66), (4, 67), (4, 69), (0, 30), (4, 70), (4, 90), (4, 91), (4, 84)] rfl
set_option maxRecDepth 100000 in
theorem lw_c47 : ∀ w ∈ wsL_law_r35, w ∈ lw_tbl := lw_memt lw_T0_in _ [(4, 85), (4, 86), (4, 87), (4, 88), (4, 89), (4, 71), (4, 73), (0, 31), (4, 74), (4, 75), (4, 76), (4, 77), (4, 78), (4, 79), (1, 14), (4, 80), (4, 81), (4, 82), (4, 83), (7, 93), (7, 94), (7, 95), (7, 96), (7, 97)] rfl
set_option maxRecDepth 100000 in
theorem lw_c48 : ∀ w ∈ wsL_law_r36, w ∈ lw_tbl := lw_memt lw_T0_in _ [(7, 99), (0, 87), (7, 100), (7, 101), (7, 103), (0, 88), (7, 104), (7, 105), (7, 107), (0, 89), (7, 108), (7, 109), (7, 110), (7, 111), (7, 112), (7, 113), (7, 114), (7, 115), (7, 116), (7, 117), (7, 118), (7, 119), (4, 92), (4, 93)] rfl
set_option maxRecDepth 100000 in
theorem lw_c49 : ∀ w ∈ wsL_law_r37, w ∈ lw_tbl := lw_memt lw_T0_in _ [(4, 94), (4, 95), (4, 96), (4, 97), (4, 98), (4, 99), (4, 100), (4, 101), (7, 120), (7, 121), (7, 122), (7, 123), (7, 124), (7, 126), (0, 90), (7, 127), (7, 128), (7, 129), (7, 130), (4, 102), (4, 103), (4, 104), (4, 105), (4, 106)] rfl
set_option maxRecDepth 100000 in
theorem lw_c50 : ∀ w ∈ wsL_law_r38, w ∈ lw_tbl := lw_memt lw_T0_in _ [(4, 108), (0, 32), (4, 109), (4, 110), (4, 111), (4, 112), (4, 113), (7, 131), (7, 132), (7, 133), (7, 134), (7, 135), (7, 137), (0, 91), (7, 138), (4, 114), (4, 115), (4, 116), (4, 117), (4, 118), (4, 120), (0, 33), (4, 121), (4, 122)] rfl
set_option maxRecDepth 100000 in
theorem lw_c51 : ∀ w ∈ wsL_law_r39, w ∈ lw_tbl := lw_memt lw_T0_in _ [(4, 123), (4, 124), (4, 125), (4, 126), (4, 127), (4, 128), (4, 129), (4, 130), (4, 131), (4, 132), (4, 133), (4, 134), (4, 135), (4, 137), (0, 34), (4, 138), (4, 139), (4, 141), (0, 35), (4, 142), (4, 143), (4, 144), (4, 146), (0, 36)] rfl
set_option maxRecDepth 100000 in
theorem lw_c52 : ∀ w ∈ wsL_law_r40, w ∈ lw_tbl := lw_memt lw_T0_in _ [(4, 147), (4, 148), (4, 149), (4, 150), (4, 151), (4, 152), (4, 153), (7, 139), (7, 140), (7, 141), (7, 142), (7, 143), (7, 145), (0, 92), (7, 146), (7, 68), (7, 70), (0, 83), (7, 71), (7, 147), (7, 149), (0, 93), (7, 150), (7, 151)] rfl
set_option maxRecDepth 100000 in
theorem lw_c53 : ∀ w ∈ wsL_law_r41, w ∈ lw_tbl := lw_memt lw_T0_in _ [(7, 153), (0, 94), (7, 154), (7, 155), (7, 157), (0, 95), (7, 158), (7, 159), (7, 161), (0, 96), (7, 162), (7, 163), (7, 165), (0, 97), (7, 166), (7, 167), (7, 169), (0, 98), (7, 170), (7, 171), (7, 173), (0, 99), (7, 174), (4, 154)] rfl
set_option maxRecDepth 100000 in
theorem lw_c54 : ∀ w ∈ wsL_law_r42, w ∈ lw_tbl := lw_memt lw_T0_in _ [(4, 155), (4, 156), (4, 157), (7, 175), (7, 176), (7, 177), (7, 178), (4, 158), (4, 159), (4, 160), (4, 161), (7, 179), (7, 180), (7, 181), (7, 182), (4, 162), (4, 163), (4, 164), (4, 165), (4, 166), (4, 168), (0, 37), (4, 169), (7, 183)] rfl
set_option maxRecDepth 100000 in
theorem lw_c55 : ∀ w ∈ wsL_law_r43, w ∈ lw_tbl := lw_memt lw_T0_in _ [(7, 184), (7, 185), (7, 186), (7, 187), (7, 189), (0, 100), (7, 190), (7, 191), (7, 192), (7, 193), (4, 170), (4, 171), (4, 172), (4, 173), (7, 194), (7, 195), (7, 196), (7, 197), (4, 174), (4, 175), (4, 176), (4, 177), (4, 178), (4, 179)] rfl
set_option maxRecDepth 100000 in
theorem lw_c56 : ∀ w ∈ wsL_law_r44, w ∈ lw_tbl := lw_memt lw_T0_in _ [(4, 180), (4, 181), (4, 182), (4, 184), (0, 38), (4, 185), (4, 186), (4, 187), (4, 188), (4, 189), (4, 190), (4, 205), (4, 191), (4, 192), (1, 22), (4, 193), (4, 194), (4, 195), (4, 196), (4, 197), (4, 199), (0, 39), (4, 200), (4, 201)] rfl
set_option maxRecDepth 100000 in
theorem lw_c57 : ∀ w ∈ wsL_law_r45, w ∈ lw_tbl := lw_memt lw_T0_in _ [(4, 203), (0, 40), (4, 204), (7, 198), (7, 199), (7, 200), (7, 201), (7, 202), (7, 203), (7, 204), (4, 206), (4, 207), (4, 208), (4, 209), (4, 210), (4, 211), (4, 213), (0, 41), (4, 214), (7, 205), (7, 206), (7, 207), (7, 208), (7, 209)] rfl
set_option maxRecDepth 100000 in
theorem lw_c58 : ∀ w ∈ wsL_law_r46, w ∈ lw_tbl := lw_memt lw_T0_in _ [(7, 210), (7, 211), (4, 215), (4, 216), (4, 217), (4, 218), (4, 219), (4, 221), (0, 42), (4, 222), (7, 212), (7, 213), (7, 214), (7, 215), (4, 223), (4, 224), (4, 225), (4, 226), (4, 227), (4, 229), (0, 43), (4, 230), (7, 216), (7, 217)] rfl
set_option maxRecDepth 100000 in
theorem lw_c59 : ∀ w ∈ wsL_law_r47, w ∈ lw_tbl := lw_memt lw_T0_in _ [(7, 218), (7, 219), (4, 231), (4, 232), (4, 233), (4, 234), (4, 235), (4, 236), (4, 237), (4, 238), (4, 239), (5, 0), (5, 1), (5, 2), (5, 3), (5, 4), (7, 220), (7, 221), (7, 222), (7, 223), (5, 5), (5, 6), (5, 7), (5, 8)] rfl
set_option maxRecDepth 100000 in
theorem lw_c60 : ∀ w ∈ wsL_law_r48, w ∈ lw_tbl := lw_memt lw_T0_in _ [(5, 9), (5, 10), (5, 11), (5, 12), (5, 13), (5, 14), (5, 16), (0, 44), (5, 17), (5, 18), (5, 19), (5, 20), (5, 21), (7, 224), (7, 225), (7, 226), (7, 227), (7, 228), (7, 230), (0, 101), (7, 231), (7, 232), (7, 234), (0, 102)] rfl
set_option maxRecDepth 100000 in
theorem lw_c61 : ∀ w ∈ wsL_law_r49, w ∈ lw_tbl := lw_memt lw_T0_in _ [(7, 235), (5, 22), (5, 23), (5, 24), (5, 25), (5, 34), (5, 26), (5, 28), (0, 45), (5, 29), (5, 30), (5, 32), (0, 46), (5, 33), (7, 236), (7, 237), (7, 238), (7, 239), (8, 0), (5, 35), (5, 36), (5, 37), (5, 38), (5, 39)] rfl
set_option maxRecDepth 100000 in
theorem lw_c62 : ∀ w ∈ wsL_law_r50, w ∈ lw_tbl := lw_memt lw_T0_in _ [(5, 40), (5, 41), (5, 42), (5, 44), (5, 43), (5, 45), (5, 47), (0, 47), (5, 48), (5, 49), (5, 50), (5, 51), (5, 52), (8, 1), (8, 2), (8, 3), (8, 4), (8, 5), (8, 7), (0, 103), (8, 8), (7, 64), (7, 66), (0, 82)] rfl
set_option maxRecDepth 100000 in
theorem lw_c63 : ∀ w ∈ wsL_law_r51, w ∈ lw_tbl := lw_memt lw_T0_in _ [(7, 67), (5, 53), (5, 54), (5, 55), (5, 56), (5, 57), (5, 59), (0, 48), (5, 60), (5, 61), (5, 62), (5, 63), (8, 9), (8, 10), (8, 11), (8, 12), (8, 13), (8, 15), (0, 104), (8, 16), (8, 17), (8, 18), (8, 19), (8, 20)] rfl
set_option maxRecDepth 100000 in
theorem lw_c64 : ∀ w ∈ wsL_law_r52, w ∈ lw_tbl := lw_memt lw_T0_in _ [(5, 64), (5, 65), (5, 66), (5, 67), (5, 68), (5, 69), (5, 70), (8, 21), (8, 22), (8, 23), (8, 24), (5, 71), (5, 72), (5, 73), (5, 74), (8, 25), (8, 26), (8, 27), (8, 28), (5, 75), (5, 76), (5, 77), (5, 78), (8, 29)] rfl
set_option maxRecDepth 100000 in
theorem lw_c65 : ∀ w ∈ wsL_law_r53, w ∈ lw_tbl := lw_memt lw_T0_in _ [(8, 30), (8, 31), (8, 32), (5, 79), (5, 80), (5, 81), (5, 82), (5, 83), (5, 84), (5, 85), (5, 86), (7, 60), (7, 61), (7, 62), (7, 63), (5, 87), (5, 88), (5, 89), (5, 90), (8, 33), (8, 34), (8, 35), (8, 36), (5, 91)] rfl
set_option maxRecDepth 100000 in
theorem lw_c66 : ∀ w ∈ wsL_law_r54, w ∈ lw_tbl := lw_memt lw_T0_in _ [(5, 92), (5, 93), (5, 94), (5, 95), (5, 96), (5, 97), (5, 98), (8, 37), (8, 38), (8, 39), (8, 40), (5, 99), (5, 100), (5, 101), (5, 102), (5, 103), (5, 104), (5, 105), (5, 106), (5, 107), (5, 109), (0, 49), (5, 110), (5, 111)] rfl
set_option maxRecDepth 100000 in
theorem lw_c67 : ∀ w ∈ wsL_law_r55, w ∈ lw_tbl := lw_memt lw_T0_in _ [(5, 113), (0, 50), (5, 114), (5, 115), (5, 116), (5, 117), (8, 41), (8, 42), (8, 43), (8, 44), (8, 45), (8, 47), (0, 105), (8, 48), (8, 49), (8, 51), (0, 106), (8, 52), (5, 118), (5, 119), (5, 120), (5, 121), (8, 53), (8, 54)] rfl
set_option maxRecDepth 100000 in
theorem lw_c68 : ∀ w ∈ wsL_law_r56, w ∈ lw_tbl := lw_memt lw_T0_in _ [(8, 55), (8, 56), (5, 122), (5, 123), (5, 124), (5, 125), (5, 126), (5, 127), (5, 128), (5, 129), (5, 130), (5, 131), (5, 132), (8, 57), (8, 58), (8, 59), (8, 60), (8, 61), (8, 63), (0, 107), (8, 64), (8, 65), (8, 67), (0, 108)] rfl
set_option maxRecDepth 100000 in
theorem lw_c69 : ∀ w ∈ wsL_law_r57, w ∈ lw_tbl := lw_memt lw_T0_in _ [(8, 68), (5, 134), (5, 135), (5, 136), (5, 137), (7, 56), (7, 57), (7, 58), (7, 59)] rfl
def lw_T1 : List (List Cond) := [wsX110, wsX120, wsX90, wsX60, wsX70, wsX50, wsX80, wsX40, wsX20, wsX00, wsX100, wsX30, wsX10, wsL_law_r1, wsL_law_r2, wsL_law_r3, wsL_law_r4, wsL_law_r5, wsL_law_r6, wsL_law_r7, wsL_law_r8, wsL_law_r9, wsL_law_r10, wsL_law_r11, wsL_law_r12, wsL_law_r13, wsL_law_r14, wsL_law_r15, wsL_law_r16, wsL_law_r17, wsL_law_r18, wsL_law_r19, wsL_law_r20, wsL_law_r21, wsL_law_r22, wsL_law_r23, wsL_law_r24, wsL_law_r25, wsL_law_r26, wsL_law_r27, wsL_law_r28, wsL_law_r29, wsL_law_r30, wsL_law_r31, wsL_law_r32, wsL_law_r33, wsL_law_r34, wsL_law_r35, wsL_law_r36, wsL_law_r37, wsL_law_r38, wsL_law_r39, wsL_law_r40, wsL_law_r41, wsL_law_r42, wsL_law_r43, wsL_law_r44, wsL_law_r45, wsL_law_r46, wsL_law_r47, wsL_law_r48, wsL_law_r49, wsL_law_r50, wsL_law_r51, wsL_law_r52, wsL_law_r53, wsL_law_r54, wsL_law_r55, wsL_law_r56, wsL_law_r57]
set_option maxRecDepth 100000 in
theorem lw_T1_in : ∀ l ∈ lw_T1, ∀ w ∈ l, w ∈ lw_tbl := List.forall_mem_cons.mpr ⟨lw_c0, List.forall_mem_cons.mpr ⟨lw_c1, List.forall_mem_cons.mpr ⟨lw_c2, List.forall_mem_cons.mpr ⟨lw_c3, List.forall_mem_cons.mpr ⟨lw_c4, List.forall_mem_cons.mpr ⟨lw_c5, List.forall_mem_cons.mpr ⟨lw_c6, List.forall_mem_cons.mpr ⟨lw_c7, List.forall_mem_cons.mpr ⟨lw_c8, List.forall_mem_cons.mpr ⟨lw_c9, List.forall_mem_cons.mpr ⟨lw_c10, List.forall_mem_cons.mpr ⟨lw_c11, List.forall_mem_cons.mpr ⟨lw_c12, List.forall_mem_cons.mpr ⟨lw_c13, List.forall_mem_cons.mpr ⟨lw_c14, List.forall_mem_cons.mpr ⟨lw_c15, List.forall_mem_cons.mpr ⟨lw_c16, List.forall_mem_cons.mpr ⟨lw_c17, List.forall_mem_cons.mpr ⟨lw_c18, List.forall_mem_cons.mpr ⟨lw_c19, List.forall_mem_cons.mpr ⟨lw_c20, List.forall_mem_cons.mpr ⟨lw_c21, List.forall_mem_cons.mpr ⟨lw_c22, List.forall_mem_cons.mpr ⟨lw_c23, List.forall_mem_cons.mpr ⟨lw_c24, List.forall_mem_cons.mpr ⟨lw_c25, List.forall_mem_cons.mpr ⟨lw_c26, List.forall_mem_cons.mpr ⟨lw_c27, List.forall_mem_cons.mpr ⟨lw_c28, List.forall_mem_cons.mpr ⟨lw_c29, List.forall_mem_cons.mpr ⟨lw_c30, List.forall_mem_cons.mpr ⟨lw_c31, List.forall_mem_cons.mpr ⟨lw_c32, List.forall_mem_cons.mpr ⟨lw_c33, List.forall_mem_cons.mpr ⟨lw_c34, List.forall_mem_cons.mpr ⟨lw_c35, List.forall_mem_cons.mpr ⟨lw_c36, List.forall_mem_cons.mpr ⟨lw_c37, List.forall_mem_cons.mpr ⟨lw_c38, List.forall_mem_cons.mpr ⟨lw_c39, List.forall_mem_cons.mpr ⟨lw_c40, List.forall_mem_cons.mpr ⟨lw_c41, List.forall_mem_cons.mpr ⟨lw_c42, List.forall_mem_cons.mpr ⟨lw_c43, List.forall_mem_cons.mpr ⟨lw_c44, List.forall_mem_cons.mpr ⟨lw_c45, List.forall_mem_cons.mpr ⟨lw_c46, List.forall_mem_cons.mpr ⟨lw_c47, List.forall_mem_cons.mpr ⟨lw_c48, List.forall_mem_cons.mpr ⟨lw_c49, List.forall_mem_cons.mpr ⟨lw_c50, List.forall_mem_cons.mpr ⟨lw_c51, List.forall_mem_cons.mpr ⟨lw_c52, List.forall_mem_cons.mpr ⟨lw_c53, List.forall_mem_cons.mpr ⟨lw_c54, List.forall_mem_cons.mpr ⟨lw_c55, List.forall_mem_cons.mpr ⟨lw_c56, List.forall_mem_cons.mpr ⟨lw_c57, List.forall_mem_cons.mpr ⟨lw_c58, List.forall_mem_cons.mpr ⟨lw_c59, List.forall_mem_cons.mpr ⟨lw_c60, List.forall_mem_cons.mpr ⟨lw_c61, List.forall_mem_cons.mpr ⟨lw_c62, List.forall_mem_cons.mpr ⟨lw_c63, List.forall_mem_cons.mpr ⟨lw_c64, List.forall_mem_cons.mpr ⟨lw_c65, List.forall_mem_cons.mpr ⟨lw_c66, List.forall_mem_cons.mpr ⟨lw_c67, List.forall_mem_cons.mpr ⟨lw_c68, List.forall_mem_cons.mpr ⟨lw_c69, fun _ h => absurd h List.not_mem_nil⟩⟩⟩⟩⟩⟩⟩⟩⟩⟩⟩⟩⟩⟩⟩⟩⟩⟩⟩⟩⟩⟩⟩⟩⟩⟩⟩⟩⟩⟩⟩⟩⟩⟩⟩⟩⟩⟩⟩⟩⟩⟩⟩⟩⟩⟩⟩⟩⟩⟩⟩⟩⟩⟩⟩⟩⟩⟩⟩⟩⟩⟩⟩⟩⟩⟩⟩⟩⟩⟩
theorem lw_good (ws : List Cond) (ps : List (Nat × Nat)) (hp : ws = ps.filterMap (fun q => (lw_T1[q.1]?).bind (fun l => l[q.2]?))) (h : ws.all goodWord = true) : GoodIn lw_tbl ws := goodIn_sub (lw_memt lw_T1_in ws ps hp) h
