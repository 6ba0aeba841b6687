def ckget (cks : List (List Cond)) (q : Nat × Nat) : Option Cond := match cks[q.1]? with | some c => c[q.2]? | none => none
theorem ckget_mem {cks : List (List Cond)} {q : Nat × Nat} {w : Cond} (h : ckget cks q = some w) : ∃ c ∈ cks, w ∈ c := by
  unfold ckget at h
  cases e : cks[q.1]? with
  | none => rw [e] at h; cases h
  | some c => rw [e] at h; exact ⟨c, List.mem_of_getElem? e, List.mem_of_getElem? h⟩
theorem memck {big : List Cond} {cks : List (List Cond)} (hb : ∀ c ∈ cks, ∀ w ∈ c, w ∈ big) (ws : List Cond) (ps : List (Nat × Nat)) (hp : ws = ps.filterMap (ckget cks)) : ∀ w ∈ ws, w ∈ big := by
  intro w hw
  rw [hp] at hw
  obtain ⟨i, -, hi⟩ := List.mem_filterMap.mp hw
  obtain ⟨c, hc, hw⟩ := ckget_mem hi
  exact hb c hc w hw
theorem goodIn_ck {big : List Cond} {cks : List (List Cond)} (hb : ∀ c ∈ cks, ∀ w ∈ c, w ∈ big) (ws : List Cond) (ps : List (Nat × Nat)) (hp : ws = ps.filterMap (ckget cks)) (h : ws.all goodWord = true) : GoodIn big ws := fun w hw => ⟨memck hb ws ps hp w hw, good_of_word (List.all_eq_true.mp h w hw)⟩
def ckT : List (List Cond) := [k2_sels lw_privs, tables_1_1, tables_1_2, tables_1_3, tables_1_4, tables_1_5]
theorem ckT_in : ∀ c ∈ ckT, ∀ w ∈ c, w ∈ lw_tbl := by
  unfold ckT lw_tbl tables_1
  exact List.forall_mem_cons.mpr ⟨fun w h => List.mem_append_left _ h, List.forall_mem_cons.mpr ⟨fun w h => List.mem_append_right _ (List.mem_append_left _ h), List.forall_mem_cons.mpr ⟨fun w h => List.mem_append_right _ (List.mem_append_right _ (List.mem_append_left _ h)), List.forall_mem_cons.mpr ⟨fun w h => List.mem_append_right _ (List.mem_append_right _ (List.mem_append_right _ (List.mem_append_left _ h))), List.forall_mem_cons.mpr ⟨fun w h => List.mem_append_right _ (List.mem_append_right _ (List.mem_append_right _ (List.mem_append_right _ (List.mem_append_left _ h)))), List.forall_mem_cons.mpr ⟨fun w h => List.mem_append_right _ (List.mem_append_right _ (List.mem_append_right _ (List.mem_append_right _ (List.mem_append_right _ (h))))), fun _ h => absurd h List.not_mem_nil⟩⟩⟩⟩⟩⟩
set_option maxRecDepth 20000 in
theorem in_wsL_law_r1 : ∀ w ∈ wsL_law_r1, w ∈ lw_tbl := memck ckT_in _ [(1, 16), (1, 17), (1, 1), (3, 148), (3, 149), (1, 7), (5, 23), (1, 18), (1, 19), (1, 20), (1, 21), (1, 22), (1, 23), (1, 24), (1, 25), (1, 2), (1, 141), (1, 65), (1, 66), (1, 3), (1, 142), (1, 143), (1, 144), (1, 145)] (by decide +kernel)
set_option maxRecDepth 20000 in
theorem in_wsL_law_r2 : ∀ w ∈ wsL_law_r2, w ∈ lw_tbl := memck ckT_in _ [(1, 146), (1, 85), (1, 86), (1, 4), (1, 147), (1, 102), (1, 103), (1, 5), (1, 148), (1, 120), (1, 149), (1, 122), (1, 6), (1, 27), (1, 28), (1, 29), (1, 30), (1, 64), (1, 34), (1, 36), (1, 38), (1, 42), (1, 45), (1, 47)] (by decide +kernel)
set_option maxRecDepth 20000 in
theorem in_wsL_law_r3 : ∀ w ∈ wsL_law_r3, w ∈ lw_tbl := memck ckT_in _ [(1, 68), (1, 69), (1, 70), (1, 74), (1, 76), (1, 71), (1, 77), (1, 88), (1, 89), (1, 90), (1, 91), (1, 92), (1, 93), (1, 105), (1, 106), (1, 107), (1, 108), (1, 110), (1, 112), (1, 124), (1, 125), (1, 126), (1, 127), (1, 129)] (by decide +kernel)
set_option maxRecDepth 20000 in
theorem in_wsL_law_r4 : ∀ w ∈ wsL_law_r4, w ∈ lw_tbl := memck ckT_in _ [(1, 140), (1, 131), (3, 150), (3, 151), (3, 152), (3, 153), (3, 154), (3, 155), (3, 156), (3, 160), (3, 161), (3, 163), (3, 164), (3, 165), (3, 166), (3, 169), (3, 170), (3, 171), (3, 172), (1, 169), (1, 170), (1, 171), (1, 172), (1, 175)] (by decide +kernel)
set_option maxRecDepth 20000 in
theorem in_wsL_law_r5 : ∀ w ∈ wsL_law_r5, w ∈ lw_tbl := memck ckT_in _ [(0, 0), (1, 176), (1, 179), (0, 1), (1, 180), (3, 212), (3, 213), (3, 214), (3, 215), (3, 216), (3, 220), (3, 217), (3, 218), (3, 219), (3, 221), (3, 223), (0, 53), (3, 224), (3, 162), (3, 225), (3, 227), (0, 54), (3, 228), (1, 181)] (by decide +kernel)
set_option maxRecDepth 20000 in
theorem in_wsL_law_r6 : ∀ w ∈ wsL_law_r6, w ∈ lw_tbl := memck ckT_in _ [(1, 182), (1, 183), (1, 184), (1, 187), (0, 2), (1, 188), (1, 191), (0, 3), (1, 192), (1, 193), (1, 195), (0, 4), (1, 196), (1, 199), (0, 5), (1, 200), (1, 201), (1, 203), (0, 6), (1, 204), (1, 205), (1, 207), (0, 7), (1, 208)] (by decide +kernel)
set_option maxRecDepth 20000 in
theorem in_wsL_law_r7 : ∀ w ∈ wsL_law_r7, w ∈ lw_tbl := memck ckT_in _ [(1, 209), (1, 211), (0, 8), (1, 212), (1, 213), (1, 215), (0, 9), (1, 216), (3, 229), (3, 230), (3, 231), (3, 232), (3, 237), (3, 233), (3, 235), (0, 55), (3, 236), (3, 238), (4, 0), (0, 56), (4, 1), (4, 2), (4, 4), (0, 57)] (by decide +kernel)
set_option maxRecDepth 20000 in
theorem in_wsL_law_r8 : ∀ w ∈ wsL_law_r8, w ∈ lw_tbl := memck ckT_in _ [(4, 5), (4, 6), (4, 8), (0, 58), (4, 9), (4, 10), (4, 12), (0, 59), (4, 13), (4, 14), (4, 16), (0, 60), (4, 17), (4, 18), (4, 20), (0, 61), (4, 21), (1, 218), (1, 219), (1, 220), (1, 221), (1, 224), (0, 10), (1, 225)] (by decide +kernel)
set_option maxRecDepth 20000 in
theorem in_wsL_law_r9 : ∀ w ∈ wsL_law_r9, w ∈ lw_tbl := memck ckT_in _ [(1, 228), (0, 11), (1, 229), (4, 50), (4, 51), (4, 52), (4, 53), (4, 54), (4, 55), (3, 157), (1, 230), (1, 231), (1, 232), (1, 233), (1, 236), (0, 12), (1, 237), (2, 0), (0, 13), (2, 1), (2, 2), (2, 4), (0, 14), (2, 5)] (by decide +kernel)
set_option maxRecDepth 20000 in
theorem in_wsL_law_r10 : ∀ w ∈ wsL_law_r10, w ∈ lw_tbl := memck ckT_in _ [(2, 6), (2, 8), (0, 15), (2, 9), (2, 10), (2, 12), (0, 16), (2, 13), (2, 14), (2, 15), (2, 16), (2, 18), (2, 19), (2, 20), (1, 8), (2, 21), (5, 24), (2, 22), (2, 23), (2, 24), (2, 25), (2, 26), (5, 25), (2, 28)] (by decide +kernel)
set_option maxRecDepth 20000 in
theorem in_wsL_law_r11 : ∀ w ∈ wsL_law_r11, w ∈ lw_tbl := memck ckT_in _ [(2, 29), (2, 30), (2, 31), (2, 32), (2, 33), (2, 34), (2, 35), (2, 36), (2, 37), (1, 9), (2, 38), (2, 39), (2, 40), (2, 41), (2, 42), (2, 44), (2, 45), (1, 10), (2, 46), (2, 47), (2, 48), (1, 11), (2, 49), (2, 50)] (by decide +kernel)
set_option maxRecDepth 20000 in
theorem in_wsL_law_r12 : ∀ w ∈ wsL_law_r12, w ∈ lw_tbl := memck ckT_in _ [(2, 51), (2, 52), (2, 53), (2, 54), (2, 55), (2, 56), (2, 57), (2, 58), (2, 59), (2, 60), (2, 62), (2, 64), (2, 66), (2, 68), (0, 17), (2, 69), (2, 70), (2, 72), (0, 18), (2, 73), (2, 75), (2, 77), (0, 19), (2, 78)] (by decide +kernel)
set_option maxRecDepth 20000 in
theorem in_wsL_law_r13 : ∀ w ∈ wsL_law_r13, w ∈ lw_tbl := memck ckT_in _ [(2, 79), (2, 80), (2, 81), (2, 85), (0, 20), (2, 86), (2, 89), (0, 21), (2, 90), (4, 56), (4, 57), (4, 58), (4, 59), (3, 158), (3, 159), (4, 60), (4, 62), (0, 68), (4, 63), (4, 64), (4, 66), (0, 69), (4, 67), (4, 68)] (by decide +kernel)
set_option maxRecDepth 20000 in
theorem in_wsL_law_r14 : ∀ w ∈ wsL_law_r14, w ∈ lw_tbl := memck ckT_in _ [(4, 70), (0, 70), (4, 71), (4, 72), (4, 74), (0, 71), (4, 75), (4, 76), (4, 77), (4, 78), (4, 80), (0, 72), (4, 81), (2, 92), (2, 93), (2, 94), (2, 95), (2, 98), (0, 22), (2, 99), (2, 102), (0, 23), (2, 103), (2, 104)] (by decide +kernel)
set_option maxRecDepth 20000 in
theorem in_wsL_law_r15 : ∀ w ∈ wsL_law_r15, w ∈ lw_tbl := memck ckT_in _ [(2, 106), (0, 24), (2, 107), (2, 108), (2, 111), (0, 25), (2, 112), (2, 115), (0, 26), (2, 116), (4, 22), (4, 23), (4, 24), (4, 25), (4, 26), (4, 28), (0, 62), (4, 29), (4, 30), (4, 32), (0, 63), (4, 33), (4, 34), (4, 36)] (by decide +kernel)
set_option maxRecDepth 20000 in
theorem in_wsL_law_r16 : ∀ w ∈ wsL_law_r16, w ∈ lw_tbl := memck ckT_in _ [(0, 64), (4, 37), (4, 38), (4, 40), (0, 65), (4, 41), (4, 42), (4, 44), (0, 66), (4, 45), (4, 46), (4, 48), (0, 67), (4, 49), (2, 117), (2, 118), (2, 119), (2, 120), (2, 121), (2, 123), (0, 27), (2, 124), (2, 127), (0, 28)] (by decide +kernel)
set_option maxRecDepth 20000 in
theorem in_wsL_law_r17 : ∀ w ∈ wsL_law_r17, w ∈ lw_tbl := memck ckT_in _ [(2, 128), (2, 130), (2, 131), (1, 12), (2, 132), (2, 135), (0, 29), (2, 136), (2, 137), (2, 138), (2, 139), (2, 140), (2, 142), (0, 30), (2, 143), (2, 144), (2, 147), (0, 31), (2, 148), (2, 149), (2, 150), (2, 152), (0, 32), (2, 153)] (by decide +kernel)
set_option maxRecDepth 20000 in
theorem in_wsL_law_r18 : ∀ w ∈ wsL_law_r18, w ∈ lw_tbl := memck ckT_in _ [(2, 154), (2, 156), (0, 33), (2, 157), (2, 158), (2, 160), (0, 34), (2, 161), (2, 164), (2, 165), (2, 166), (2, 162), (2, 163), (4, 82), (4, 83), (4, 84), (4, 85), (4, 86), (4, 88), (0, 73), (4, 89), (4, 90), (4, 92), (0, 74)] (by decide +kernel)
set_option maxRecDepth 20000 in
theorem in_wsL_law_r19 : ∀ w ∈ wsL_law_r19, w ∈ lw_tbl := memck ckT_in _ [(4, 93), (4, 94), (4, 96), (0, 75), (4, 97), (2, 167), (2, 168), (2, 169), (2, 170), (4, 98), (4, 99), (4, 100), (4, 101), (4, 102), (4, 104), (0, 76), (4, 105), (2, 172), (2, 173), (2, 174), (2, 175), (4, 106), (4, 107), (4, 108)] (by decide +kernel)
set_option maxRecDepth 20000 in
theorem in_wsL_law_r20 : ∀ w ∈ wsL_law_r20, w ∈ lw_tbl := memck ckT_in _ [(4, 109), (2, 176), (2, 177), (2, 178), (2, 179), (4, 110), (4, 111), (4, 112), (4, 113), (4, 114), (2, 180), (2, 181), (2, 182), (2, 183), (4, 115), (4, 116), (4, 117), (4, 118), (4, 119), (4, 120), (4, 121), (4, 122), (2, 184), (2, 185)] (by decide +kernel)
set_option maxRecDepth 20000 in
theorem in_wsL_law_r21 : ∀ w ∈ wsL_law_r21, w ∈ lw_tbl := memck ckT_in _ [(2, 186), (2, 187), (2, 190), (0, 35), (2, 191), (2, 192), (4, 123), (4, 124), (4, 125), (4, 126), (2, 193), (2, 194), (2, 195), (2, 196), (4, 127), (4, 128), (4, 129), (4, 130), (2, 197), (2, 198), (2, 199), (2, 200), (2, 203), (0, 36)] (by decide +kernel)
set_option maxRecDepth 20000 in
theorem in_wsL_law_r22 : ∀ w ∈ wsL_law_r22, w ∈ lw_tbl := memck ckT_in _ [(2, 204), (2, 205), (4, 131), (4, 132), (4, 133), (4, 134), (4, 135), (4, 136), (4, 138), (0, 77), (4, 139), (4, 140), (4, 142), (0, 78), (4, 143), (4, 144), (4, 146), (0, 79), (4, 147), (2, 206), (2, 207), (2, 208), (2, 209), (4, 148)] (by decide +kernel)
set_option maxRecDepth 20000 in
theorem in_wsL_law_r23 : ∀ w ∈ wsL_law_r23, w ∈ lw_tbl := memck ckT_in _ [(4, 149), (4, 150), (4, 151), (4, 152), (4, 154), (0, 80), (4, 155), (2, 210), (2, 211), (2, 212), (2, 213), (2, 216), (0, 37), (2, 217), (4, 156), (4, 157), (4, 158), (4, 159), (4, 160), (4, 162), (0, 81), (4, 163), (2, 218), (2, 219)] (by decide +kernel)
set_option maxRecDepth 20000 in
theorem in_wsL_law_r24 : ∀ w ∈ wsL_law_r24, w ∈ lw_tbl := memck ckT_in _ [(2, 220), (2, 221), (2, 224), (0, 38), (2, 225), (4, 164), (4, 165), (4, 166), (4, 167), (2, 226), (2, 227), (2, 228), (2, 229), (4, 168), (4, 169), (4, 170), (4, 171), (2, 230), (2, 231), (2, 232), (2, 233), (2, 237), (0, 39), (2, 238)] (by decide +kernel)
set_option maxRecDepth 20000 in
theorem in_wsL_law_r25 : ∀ w ∈ wsL_law_r25, w ∈ lw_tbl := memck ckT_in _ [(4, 172), (4, 173), (4, 174), (4, 175), (2, 239), (3, 0), (3, 1), (3, 2), (3, 3), (3, 4), (3, 5), (3, 6), (3, 7), (1, 13), (3, 8), (3, 9), (3, 10), (3, 11), (4, 176), (4, 177), (4, 178), (4, 179), (4, 180), (4, 181)] (by decide +kernel)
set_option maxRecDepth 20000 in
theorem in_wsL_law_r26 : ∀ w ∈ wsL_law_r26, w ∈ lw_tbl := memck ckT_in _ [(4, 182), (4, 183), (3, 12), (3, 13), (3, 14), (3, 15), (3, 16), (3, 18), (0, 40), (3, 19), (4, 184), (4, 185), (4, 186), (4, 187), (3, 20), (3, 21), (3, 22), (3, 23), (4, 188), (4, 189), (4, 190), (4, 191), (3, 24), (3, 25)] (by decide +kernel)
set_option maxRecDepth 20000 in
theorem in_wsL_law_r27 : ∀ w ∈ wsL_law_r27, w ∈ lw_tbl := memck ckT_in _ [(3, 26), (3, 27), (3, 30), (0, 41), (3, 31), (3, 32), (3, 33), (3, 34), (3, 35), (3, 37), (3, 36), (1, 14), (4, 192), (4, 193), (4, 194), (4, 195), (4, 196), (4, 197), (4, 199), (0, 82), (4, 200), (3, 38), (3, 39), (3, 40)] (by decide +kernel)
set_option maxRecDepth 20000 in
theorem in_wsL_law_r28 : ∀ w ∈ wsL_law_r28, w ∈ lw_tbl := memck ckT_in _ [(3, 41), (3, 44), (0, 42), (3, 45), (4, 201), (4, 202), (4, 203), (4, 204), (4, 205), (4, 207), (0, 83), (4, 208), (3, 46), (3, 47), (3, 48), (3, 49), (3, 63), (3, 54), (3, 55), (3, 56), (3, 57), (3, 58), (3, 59), (3, 60)] (by decide +kernel)
set_option maxRecDepth 20000 in
theorem in_wsL_law_r29 : ∀ w ∈ wsL_law_r29, w ∈ lw_tbl := memck ckT_in _ [(3, 61), (3, 62), (4, 209), (4, 210), (4, 211), (4, 212), (4, 213), (3, 64), (3, 65), (3, 66), (3, 67), (3, 70), (0, 43), (3, 71), (4, 214), (4, 215), (4, 216), (4, 217), (3, 167), (3, 168), (3, 72), (3, 73), (3, 74), (3, 75)] (by decide +kernel)
set_option maxRecDepth 20000 in
theorem in_wsL_law_r30 : ∀ w ∈ wsL_law_r30, w ∈ lw_tbl := memck ckT_in _ [(4, 218), (4, 219), (4, 220), (4, 221), (3, 76), (3, 77), (3, 78), (3, 79), (3, 80), (3, 81), (3, 82), (3, 83), (3, 84), (3, 85), (3, 88), (0, 44), (3, 89), (3, 90), (3, 92), (0, 45), (3, 93), (3, 94), (3, 96), (0, 46)] (by decide +kernel)
set_option maxRecDepth 20000 in
theorem in_wsL_law_r31 : ∀ w ∈ wsL_law_r31, w ∈ lw_tbl := memck ckT_in _ [(3, 97), (3, 98), (3, 100), (0, 47), (3, 101), (3, 102), (3, 104), (0, 48), (3, 105), (3, 106), (3, 108), (0, 49), (3, 109), (4, 222), (4, 223), (4, 224), (4, 225), (4, 233), (4, 226), (4, 227), (4, 228), (4, 229), (4, 230), (4, 231)] (by decide +kernel)
set_option maxRecDepth 20000 in
theorem in_wsL_law_r32 : ∀ w ∈ wsL_law_r32, w ∈ lw_tbl := memck ckT_in _ [(4, 232), (4, 234), (4, 236), (0, 84), (4, 237), (4, 238), (5, 0), (0, 85), (5, 1), (3, 110), (3, 111), (3, 112), (3, 113), (3, 116), (0, 50), (3, 117), (5, 2), (5, 3), (5, 4), (5, 5), (5, 6), (3, 118), (3, 119), (3, 120)] (by decide +kernel)
set_option maxRecDepth 20000 in
theorem in_wsL_law_r33 : ∀ w ∈ wsL_law_r33, w ∈ lw_tbl := memck ckT_in _ [(3, 121), (3, 124), (0, 51), (3, 125), (3, 126), (3, 127), (1, 15), (3, 128), (5, 7), (5, 8), (5, 9), (5, 10), (3, 129), (3, 130), (3, 131), (3, 132), (3, 136), (0, 52), (3, 137), (5, 11), (5, 12), (5, 13), (5, 14), (3, 138)] (by decide +kernel)
set_option maxRecDepth 20000 in
theorem in_wsL_law_r34 : ∀ w ∈ wsL_law_r34, w ∈ lw_tbl := memck ckT_in _ [(3, 139), (3, 140), (3, 141), (5, 15), (5, 16), (5, 17), (5, 18), (3, 142), (3, 143), (3, 144), (3, 145), (3, 147), (5, 19), (5, 20), (5, 21), (5, 22)] (by decide +kernel)
set_option maxRecDepth 20000 in
theorem in_wsX50 : ∀ w ∈ wsX50, w ∈ lw_tbl := by decide +kernel
set_option maxRecDepth 20000 in
theorem in_wsX60 : ∀ w ∈ wsX60, w ∈ lw_tbl := by decide +kernel
set_option maxRecDepth 20000 in
theorem in_wsX20 : ∀ w ∈ wsX20, w ∈ lw_tbl := by decide +kernel
set_option maxRecDepth 20000 in
theorem in_wsX10 : ∀ w ∈ wsX10, w ∈ lw_tbl := by decide +kernel
set_option maxRecDepth 20000 in
theorem in_wsX40 : ∀ w ∈ wsX40, w ∈ lw_tbl := by decide +kernel
set_option maxRecDepth 20000 in
theorem in_wsX00 : ∀ w ∈ wsX00, w ∈ lw_tbl := by decide +kernel
set_option maxRecDepth 20000 in
theorem in_wsX30 : ∀ w ∈ wsX30, w ∈ lw_tbl := by decide +kernel
theorem memapp {a b : List Cond} (ha : ∀ w ∈ a, w ∈ lw_tbl) (hb : ∀ w ∈ b, w ∈ lw_tbl) : ∀ w ∈ a ++ b, w ∈ lw_tbl := fun w h => (List.mem_append.mp h).elim (ha w) (hb w)
theorem wsL_law_in : ∀ w ∈ wsL_law, w ∈ lw_tbl := (memapp (memapp (memapp (memapp (memapp (memapp (memapp (memapp (memapp in_wsL_law_r1 (memapp in_wsL_law_r2 (memapp in_wsL_law_r3 (memapp in_wsL_law_r4 (memapp in_wsL_law_r5 (memapp in_wsL_law_r6 (memapp in_wsL_law_r7 (memapp in_wsL_law_r8 (memapp in_wsL_law_r9 (memapp in_wsL_law_r10 (memapp in_wsL_law_r11 (memapp in_wsL_law_r12 (memapp in_wsL_law_r13 (memapp in_wsL_law_r14 (memapp in_wsL_law_r15 (memapp in_wsL_law_r16 (memapp in_wsL_law_r17 (memapp in_wsL_law_r18 (memapp in_wsL_law_r19 (memapp in_wsL_law_r20 (memapp in_wsL_law_r21 (memapp in_wsL_law_r22 (memapp in_wsL_law_r23 (memapp in_wsL_law_r24 (memapp in_wsL_law_r25 (memapp in_wsL_law_r26 (memapp in_wsL_law_r27 (memapp in_wsL_law_r28 (memapp in_wsL_law_r29 (memapp in_wsL_law_r30 (memapp in_wsL_law_r31 (memapp in_wsL_law_r32 (memapp in_wsL_law_r33 in_wsL_law_r34))))))))))))))))))))))))))))))))) in_wsX50) in_wsX60) in_wsX20) in_wsX10) in_wsX40) in_wsX00) in_wsX30) (fun _ h => absurd h List.not_mem_nil))
def ckL : List (List Cond) := [wsL_law_r1, wsL_law_r2, wsL_law_r3, wsL_law_r4, wsL_law_r5, wsL_law_r6, wsL_law_r7, wsL_law_r8, wsL_law_r9, wsL_law_r10, wsL_law_r11, wsL_law_r12, wsL_law_r13, wsL_law_r14, wsL_law_r15, wsL_law_r16, wsL_law_r17, wsL_law_r18, wsL_law_r19, wsL_law_r20, wsL_law_r21, wsL_law_r22, wsL_law_r23, wsL_law_r24, wsL_law_r25, wsL_law_r26, wsL_law_r27, wsL_law_r28, wsL_law_r29, wsL_law_r30, wsL_law_r31, wsL_law_r32, wsL_law_r33, wsL_law_r34, wsX50, wsX60, wsX20, wsX10, wsX40, wsX00, wsX30]
theorem ckm_wsL_law_r1 : ∀ w ∈ wsL_law_r1, w ∈ wsL_law := by
  intro w h
  unfold wsL_law
  exact List.mem_append_left _ (List.mem_append_left _ (List.mem_append_left _ (List.mem_append_left _ (List.mem_append_left _ (List.mem_append_left _ (List.mem_append_left _ (List.mem_append_left _ (List.mem_append_left _ h))))))))
theorem ckm_wsL_law_r2 : ∀ w ∈ wsL_law_r2, w ∈ wsL_law := by
  intro w h
  unfold wsL_law
  exact List.mem_append_left _ (List.mem_append_left _ (List.mem_append_left _ (List.mem_append_left _ (List.mem_append_left _ (List.mem_append_left _ (List.mem_append_left _ (List.mem_append_left _ (List.mem_append_right _ (List.mem_append_left _ h)))))))))
theorem ckm_wsL_law_r3 : ∀ w ∈ wsL_law_r3, w ∈ wsL_law := by
  intro w h
  unfold wsL_law
  exact List.mem_append_left _ (List.mem_append_left _ (List.mem_append_left _ (List.mem_append_left _ (List.mem_append_left _ (List.mem_append_left _ (List.mem_append_left _ (List.mem_append_left _ (List.mem_append_right _ (List.mem_append_right _ (List.mem_append_left _ h))))))))))
theorem ckm_wsL_law_r4 : ∀ w ∈ wsL_law_r4, w ∈ wsL_law := by
  intro w h
  unfold wsL_law
  exact List.mem_append_left _ (List.mem_append_left _ (List.mem_append_left _ (List.mem_append_left _ (List.mem_append_left _ (List.mem_append_left _ (List.mem_append_left _ (List.mem_append_left _ (List.mem_append_right _ (List.mem_append_right _ (List.mem_append_right _ (List.mem_append_left _ h)))))))))))
theorem ckm_wsL_law_r5 : ∀ w ∈ wsL_law_r5, w ∈ wsL_law := by
  intro w h
  unfold wsL_law
  exact List.mem_append_left _ (List.mem_append_left _ (List.mem_append_left _ (List.mem_append_left _ (List.mem_append_left _ (List.mem_append_left _ (List.mem_append_left _ (List.mem_append_left _ (List.mem_append_right _ (List.mem_append_right _ (List.mem_append_right _ (List.mem_append_right _ (List.mem_append_left _ h))))))))))))
theorem ckm_wsL_law_r6 : ∀ w ∈ wsL_law_r6, w ∈ wsL_law := by
  intro w h
  unfold wsL_law
  exact List.mem_append_left _ (List.mem_append_left _ (List.mem_append_left _ (List.mem_append_left _ (List.mem_append_left _ (List.mem_append_left _ (List.mem_append_left _ (List.mem_append_left _ (List.mem_append_right _ (List.mem_append_right _ (List.mem_append_right _ (List.mem_append_right _ (List.mem_append_right _ (List.mem_append_left _ h)))))))))))))
theorem ckm_wsL_law_r7 : ∀ w ∈ wsL_law_r7, w ∈ wsL_law := by
  intro w h
  unfold wsL_law
  exact List.mem_append_left _ (List.mem_append_left _ (List.mem_append_left _ (List.mem_append_left _ (List.mem_append_left _ (List.mem_append_left _ (List.mem_append_left _ (List.mem_append_left _ (List.mem_append_right _ (List.mem_append_right _ (List.mem_append_right _ (List.mem_append_right _ (List.mem_append_right _ (List.mem_append_right _ (List.mem_append_left _ h))))))))))))))
theorem ckm_wsL_law_r8 : ∀ w ∈ wsL_law_r8, w ∈ wsL_law := by
  intro w h
  unfold wsL_law
  exact List.mem_append_left _ (List.mem_append_left _ (List.mem_append_left _ (List.mem_append_left _ (List.mem_append_left _ (List.mem_append_left _ (List.mem_append_left _ (List.mem_append_left _ (List.mem_append_right _ (List.mem_append_right _ (List.mem_append_right _ (List.mem_append_right _ (List.mem_append_right _ (List.mem_append_right _ (List.mem_append_right _ (List.mem_append_left _ h)))))))))))))))
theorem ckm_wsL_law_r9 : ∀ w ∈ wsL_law_r9, w ∈ wsL_law := by
  intro w h
  unfold wsL_law
  exact List.mem_append_left _ (List.mem_append_left _ (List.mem_append_left _ (List.mem_append_left _ (List.mem_append_left _ (List.mem_append_left _ (List.mem_append_left _ (List.mem_append_left _ (List.mem_append_right _ (List.mem_append_right _ (List.mem_append_right _ (List.mem_append_right _ (List.mem_append_right _ (List.mem_append_right _ (List.mem_append_right _ (List.mem_append_right _ (List.mem_append_left _ h))))))))))))))))
theorem ckm_wsL_law_r10 : ∀ w ∈ wsL_law_r10, w ∈ wsL_law := by
  intro w h
  unfold wsL_law
  exact List.mem_append_left _ (List.mem_append_left _ (List.mem_append_left _ (List.mem_append_left _ (List.mem_append_left _ (List.mem_append_left _ (List.mem_append_left _ (List.mem_append_left _ (List.mem_append_right _ (List.mem_append_right _ (List.mem_append_right _ (List.mem_append_right _ (List.mem_append_right _ (List.mem_append_right _ (List.mem_append_right _ (List.mem_append_right _ (List.mem_append_right _ (List.mem_append_left _ h)))))))))))))))))
theorem ckm_wsL_law_r11 : ∀ w ∈ wsL_law_r11, w ∈ wsL_law := by
  intro w h
  unfold wsL_law
  exact List.mem_append_left _ (List.mem_append_left _ (List.mem_append_left _ (List.mem_append_left _ (List.mem_append_left _ (List.mem_append_left _ (List.mem_append_left _ (List.mem_append_left _ (List.mem_append_right _ (List.mem_append_right _ (List.mem_append_right _ (List.mem_append_right _ (List.mem_append_right _ (List.mem_append_right _ (List.mem_append_right _ (List.mem_append_right _ (List.mem_append_right _ (List.mem_append_right _ (List.mem_append_left _ h))))))))))))))))))
theorem ckm_wsL_law_r12 : ∀ w ∈ wsL_law_r12, w ∈ wsL_law := by
  intro w h
  unfold wsL_law
  exact List.mem_append_left _ (List.mem_append_left _ (List.mem_append_left _ (List.mem_append_left _ (List.mem_append_left _ (List.mem_append_left _ (List.mem_append_left _ (List.mem_append_left _ (List.mem_append_right _ (List.mem_append_right _ (List.mem_append_right _ (List.mem_append_right _ (List.mem_append_right _ (List.mem_append_right _ (List.mem_append_right _ (List.mem_append_right _ (List.mem_append_right _ (List.mem_append_right _ (List.mem_append_right _ (List.mem_append_left _ h)))))))))))))))))))
theorem ckm_wsL_law_r13 : ∀ w ∈ wsL_law_r13, w ∈ wsL_law := by
  intro w h
  unfold wsL_law
  exact List.mem_append_left _ (List.mem_append_left _ (List.mem_append_left _ (List.mem_append_left _ (List.mem_append_left _ (List.mem_append_left _ (List.mem_append_left _ (List.mem_append_left _ (List.mem_append_right _ (List.mem_append_right _ (List.mem_append_right _ (List.mem_append_right _ (List.mem_append_right _ (List.mem_append_right _ (List.mem_append_right _ (List.mem_append_right _ (List.mem_append_right _ (List.mem_append_right _ (List.mem_append_right _ (List.mem_append_right _ (List.mem_append_left _ h))))))))))))))))))))
theorem ckm_wsL_law_r14 : ∀ w ∈ wsL_law_r14, w ∈ wsL_law := by
  intro w h
  unfold wsL_law
  exact List.mem_append_left _ (List.mem_append_left _ (List.mem_append_left _ (List.mem_append_left _ (List.mem_append_left _ (List.mem_append_left _ (List.mem_append_left _ (List.mem_append_left _ (List.mem_append_right _ (List.mem_append_right _ (List.mem_append_right _ (List.mem_append_right _ (List.mem_append_right _ (List.mem_append_right _ (List.mem_append_right _ (List.mem_append_right _ (List.mem_append_right _ (List.mem_append_right _ (List.mem_append_right _ (List.mem_append_right _ (List.mem_append_right _ (List.mem_append_left _ h)))))))))))))))))))))
theorem ckm_wsL_law_r15 : ∀ w ∈ wsL_law_r15, w ∈ wsL_law := by
  intro w h
  unfold wsL_law
  exact List.mem_append_left _ (List.mem_append_left _ (List.mem_append_left _ (List.mem_append_left _ (List.mem_append_left _ (List.mem_append_left _ (List.mem_append_left _ (List.mem_append_left _ (List.mem_append_right _ (List.mem_append_right _ (List.mem_append_right _ (List.mem_append_right _ (List.mem_append_right _ (List.mem_append_right _ (List.mem_append_right _ (List.mem_append_right _ (List.mem_append_right _ (List.mem_append_right _ (List.mem_append_right _ (List.mem_append_right _ (List.mem_append_right _ (List.mem_append_right _ (List.mem_append_left _ h))))))))))))))))))))))
theorem ckm_wsL_law_r16 : ∀ w ∈ wsL_law_r16, w ∈ wsL_law := by
  intro w h
  unfold wsL_law
  exact List.mem_append_left _ (List.mem_append_left _ (List.mem_append_left _ (List.mem_append_left _ (List.mem_append_left _ (List.mem_append_left _ (List.mem_append_left _ (List.mem_append_left _ (List.mem_append_right _ (List.mem_append_right _ (List.mem_append_right _ (List.mem_append_right _ (List.mem_append_right _ (List.mem_append_right _ (List.mem_append_right _ (List.mem_append_right _ (List.mem_append_right _ (List.mem_append_right _ (List.mem_append_right _ (List.mem_append_right _ (List.mem_append_right _ (List.mem_append_right _ (List.mem_append_right _ (List.mem_append_left _ h)))))))))))))))))))))))
theorem ckm_wsL_law_r17 : ∀ w ∈ wsL_law_r17, w ∈ wsL_law := by
  intro w h
  unfold wsL_law
  exact List.mem_append_left _ (List.mem_append_left _ (List.mem_append_left _ (List.mem_append_left _ (List.mem_append_left _ (List.mem_append_left _ (List.mem_append_left _ (List.mem_append_left _ (List.mem_append_right _ (List.mem_append_right _ (List.mem_append_right _ (List.mem_append_right _ (List.mem_append_right _ (List.mem_append_right _ (List.mem_append_right _ (List.mem_append_right _ (List.mem_append_right _ (List.mem_append_right _ (List.mem_append_right _ (List.mem_append_right _ (List.mem_append_right _ (List.mem_append_right _ (List.mem_append_right _ (List.mem_append_right _ (List.mem_append_left _ h))))))))))))))))))))))))
theorem ckm_wsL_law_r18 : ∀ w ∈ wsL_law_r18, w ∈ wsL_law := by
  intro w h
  unfold wsL_law
  exact List.mem_append_left _ (List.mem_append_left _ (List.mem_append_left _ (List.mem_append_left _ (List.mem_append_left _ (List.mem_append_left _ (List.mem_append_left _ (List.mem_append_left _ (List.mem_append_right _ (List.mem_append_right _ (List.mem_append_right _ (List.mem_append_right _ (List.mem_append_right _ (List.mem_append_right _ (List.mem_append_right _ (List.mem_append_right _ (List.mem_append_right _ (List.mem_append_right _ (List.mem_append_right _ (List.mem_append_right _ (List.mem_append_right _ (List.mem_append_right _ (List.mem_append_right _ (List.mem_append_right _ (List.mem_append_right _ (List.mem_append_left _ h)))))))))))))))))))))))))
theorem ckm_wsL_law_r19 : ∀ w ∈ wsL_law_r19, w ∈ wsL_law := by
  intro w h
  unfold wsL_law
  exact List.mem_append_left _ (List.mem_append_left _ (List.mem_append_left _ (List.mem_append_left _ (List.mem_append_left _ (List.mem_append_left _ (List.mem_append_left _ (List.mem_append_left _ (List.mem_append_right _ (List.mem_append_right _ (List.mem_append_right _ (List.mem_append_right _ (List.mem_append_right _ (List.mem_append_right _ (List.mem_append_right _ (List.mem_append_right _ (List.mem_append_right _ (List.mem_append_right _ (List.mem_append_right _ (List.mem_append_right _ (List.mem_append_right _ (List.mem_append_right _ (List.mem_append_right _ (List.mem_append_right _ (List.mem_append_right _ (List.mem_append_right _ (List.mem_append_left _ h))))))))))))))))))))))))))
theorem ckm_wsL_law_r20 : ∀ w ∈ wsL_law_r20, w ∈ wsL_law := by
  intro w h
  unfold wsL_law
  exact List.mem_append_left _ (List.mem_append_left _ (List.mem_append_left _ (List.mem_append_left _ (List.mem_append_left _ (List.mem_append_left _ (List.mem_append_left _ (List.mem_append_left _ (List.mem_append_right _ (List.mem_append_right _ (List.mem_append_right _ (List.mem_append_right _ (List.mem_append_right _ (List.mem_append_right _ (List.mem_append_right _ (List.mem_append_right _ (List.mem_append_right _ (List.mem_append_right _ (List.mem_append_right _ (List.mem_append_right _ (List.mem_append_right _ (List.mem_append_right _ (List.mem_append_right _ (List.mem_append_right _ (List.mem_append_right _ (List.mem_append_right _ (List.mem_append_right _ (List.mem_append_left _ h)))))))))))))))))))))))))))
theorem ckm_wsL_law_r21 : ∀ w ∈ wsL_law_r21, w ∈ wsL_law := by
  intro w h
  unfold wsL_law
  exact List.mem_append_left _ (List.mem_append_left _ (List.mem_append_left _ (List.mem_append_left _ (List.mem_append_left _ (List.mem_append_left _ (List.mem_append_left _ (List.mem_append_left _ (List.mem_append_right _ (List.mem_append_right _ (List.mem_append_right _ (List.mem_append_right _ (List.mem_append_right _ (List.mem_append_right _ (List.mem_append_right _ (List.mem_append_right _ (List.mem_append_right _ (List.mem_append_right _ (List.mem_append_right _ (List.mem_append_right _ (List.mem_append_right _ (List.mem_append_right _ (List.mem_append_right _ (List.mem_append_right _ (List.mem_append_right _ (List.mem_append_right _ (List.mem_append_right _ (List.mem_append_right _ (List.mem_append_left _ h))))))))))))))))))))))))))))
theorem ckm_wsL_law_r22 : ∀ w ∈ wsL_law_r22, w ∈ wsL_law := by
  intro w h
  unfold wsL_law
  exact List.mem_append_left _ (List.mem_append_left _ (List.mem_append_left _ (List.mem_append_left _ (List.mem_append_left _ (List.mem_append_left _ (List.mem_append_left _ (List.mem_append_left _ (List.mem_append_right _ (List.mem_append_right _ (List.mem_append_right _ (List.mem_append_right _ (List.mem_append_right _ (List.mem_append_right _ (List.mem_append_right _ (List.mem_append_right _ (List.mem_append_right _ (List.mem_append_right _ (List.mem_append_right _ (List.mem_append_right _ (List.mem_append_right _ (List.mem_append_right _ (List.mem_append_right _ (List.mem_append_right _ (List.mem_append_right _ (List.mem_append_right _ (List.mem_append_right _ (List.mem_append_right _ (List.mem_append_right _ (List.mem_append_left _ h)))))))))))))))))))))))))))))
theorem ckm_wsL_law_r23 : ∀ w ∈ wsL_law_r23, w ∈ wsL_law := by
  intro w h
  unfold wsL_law
  exact List.mem_append_left _ (List.mem_append_left _ (List.mem_append_left _ (List.mem_append_left _ (List.mem_append_left _ (List.mem_append_left _ (List.mem_append_left _ (List.mem_append_left _ (List.mem_append_right _ (List.mem_append_right _ (List.mem_append_right _ (List.mem_append_right _ (List.mem_append_right _ (List.mem_append_right _ (List.mem_append_right _ (List.mem_append_right _ (List.mem_append_right _ (List.mem_append_right _ (List.mem_append_right _ (List.mem_append_right _ (List.mem_append_right _ (List.mem_append_right _ (List.mem_append_right _ (List.mem_append_right _ (List.mem_append_right _ (List.mem_append_right _ (List.mem_append_right _ (List.mem_append_right _ (List.mem_append_right _ (List.mem_append_right _ (List.mem_append_left _ h))))))))))))))))))))))))))))))
theorem ckm_wsL_law_r24 : ∀ w ∈ wsL_law_r24, w ∈ wsL_law := by
  intro w h
  unfold wsL_law
  exact List.mem_append_left _ (List.mem_append_left _ (List.mem_append_left _ (List.mem_append_left _ (List.mem_append_left _ (List.mem_append_left _ (List.mem_append_left _ (List.mem_append_left _ (List.mem_append_right _ (List.mem_append_right _ (List.mem_append_right _ (List.mem_append_right _ (List.mem_append_right _ (List.mem_append_right _ (List.mem_append_right _ (List.mem_append_right _ (List.mem_append_right _ (List.mem_append_right _ (List.mem_append_right _ (List.mem_append_right _ (List.mem_append_right _ (List.mem_append_right _ (List.mem_append_right _ (List.mem_append_right _ (List.mem_append_right _ (List.mem_append_right _ (List.mem_append_right _ (List.mem_append_right _ (List.mem_append_right _ (List.mem_append_right _ (List.mem_append_right _ (List.mem_append_left _ h)))))))))))))))))))))))))))))))
theorem ckm_wsL_law_r25 : ∀ w ∈ wsL_law_r25, w ∈ wsL_law := by
  intro w h
  unfold wsL_law
  exact List.mem_append_left _ (List.mem_append_left _ (List.mem_append_left _ (List.mem_append_left _ (List.mem_append_left _ (List.mem_append_left _ (List.mem_append_left _ (List.mem_append_left _ (List.mem_append_right _ (List.mem_append_right _ (List.mem_append_right _ (List.mem_append_right _ (List.mem_append_right _ (List.mem_append_right _ (List.mem_append_right _ (List.mem_append_right _ (List.mem_append_right _ (List.mem_append_right _ (List.mem_append_right _ (List.mem_append_right _ (List.mem_append_right _ (List.mem_append_right _ (List.mem_append_right _ (List.mem_append_right _ (List.mem_append_right _ (List.mem_append_right _ (List.mem_append_right _ (List.mem_append_right _ (List.mem_append_right _ (List.mem_append_right _ (List.mem_append_right _ (List.mem_append_right _ (List.mem_append_left _ h))))))))))))))))))))))))))))))))
theorem ckm_wsL_law_r26 : ∀ w ∈ wsL_law_r26, w ∈ wsL_law := by
  intro w h
  unfold wsL_law
  exact List.mem_append_left _ (List.mem_append_left _ (List.mem_append_left _ (List.mem_append_left _ (List.mem_append_left _ (List.mem_append_left _ (List.mem_append_left _ (List.mem_append_left _ (List.mem_append_right _ (List.mem_append_right _ (List.mem_append_right _ (List.mem_append_right _ (List.mem_append_right _ (List.mem_append_right _ (List.mem_append_right _ (List.mem_append_right _ (List.mem_append_right _ (List.mem_append_right _ (List.mem_append_right _ (List.mem_append_right _ (List.mem_append_right _ (List.mem_append_right _ (List.mem_append_right _ (List.mem_append_right _ (List.mem_append_right _ (List.mem_append_right _ (List.mem_append_right _ (List.mem_append_right _ (List.mem_append_right _ (List.mem_append_right _ (List.mem_append_right _ (List.mem_append_right _ (List.mem_append_right _ (List.mem_append_left _ h)))))))))))))))))))))))))))))))))
theorem ckm_wsL_law_r27 : ∀ w ∈ wsL_law_r27, w ∈ wsL_law := by
  intro w h
  unfold wsL_law
  exact List.mem_append_left _ (List.mem_append_left _ (List.mem_append_left _ (List.mem_append_left _ (List.mem_append_left _ (List.mem_append_left _ (List.mem_append_left _ (List.mem_append_left _ (List.mem_append_right _ (List.mem_append_right _ (List.mem_append_right _ (List.mem_append_right _ (List.mem_append_right _ (List.mem_append_right _ (List.mem_append_right _ (List.mem_append_right _ (List.mem_append_right _ (List.mem_append_right _ (List.mem_append_right _ (List.mem_append_right _ (List.mem_append_right _ (List.mem_append_right _ (List.mem_append_right _ (List.mem_append_right _ (List.mem_append_right _ (List.mem_append_right _ (List.mem_append_right _ (List.mem_append_right _ (List.mem_append_right _ (List.mem_append_right _ (List.mem_append_right _ (List.mem_append_right _ (List.mem_append_right _ (List.mem_append_right _ (List.mem_append_left _ h))))))))))))))))))))))))))))))))))
theorem ckm_wsL_law_r28 : ∀ w ∈ wsL_law_r28, w ∈ wsL_law := by
  intro w h
  unfold wsL_law
  exact List.mem_append_left _ (List.mem_append_left _ (List.mem_append_left _ (List.mem_append_left _ (List.mem_append_left _ (List.mem_append_left _ (List.mem_append_left _ (List.mem_append_left _ (List.mem_append_right _ (List.mem_append_right _ (List.mem_append_right _ (List.mem_append_right _ (List.mem_append_right _ (List.mem_append_right _ (List.mem_append_right _ (List.mem_append_right _ (List.mem_append_right _ (List.mem_append_right _ (List.mem_append_right _ (List.mem_append_right _ (List.mem_append_right _ (List.mem_append_right _ (List.mem_append_right _ (List.mem_append_right _ (List.mem_append_right _ (List.mem_append_right _ (List.mem_append_right _ (List.mem_append_right _ (List.mem_append_right _ (List.mem_append_right _ (List.mem_append_right _ (List.mem_append_right _ (List.mem_append_right _ (List.mem_append_right _ (List.mem_append_right _ (List.mem_append_left _ h)))))))))))))))))))))))))))))))))))
theorem ckm_wsL_law_r29 : ∀ w ∈ wsL_law_r29, w ∈ wsL_law := by
  intro w h
  unfold wsL_law
  exact List.mem_append_left _ (List.mem_append_left _ (List.mem_append_left _ (List.mem_append_left _ (List.mem_append_left _ (List.mem_append_left _ (List.mem_append_left _ (List.mem_append_left _ (List.mem_append_right _ (List.mem_append_right _ (List.mem_append_right _ (List.mem_append_right _ (List.mem_append_right _ (List.mem_append_right _ (List.mem_append_right _ (List.mem_append_right _ (List.mem_append_right _ (List.mem_append_right _ (List.mem_append_right _ (List.mem_append_right _ (List.mem_append_right _ (List.mem_append_right _ (List.mem_append_right _ (List.mem_append_right _ (List.mem_append_right _ (List.mem_append_right _ (List.mem_append_right _ (List.mem_append_right _ (List.mem_append_right _ (List.mem_append_right _ (List.mem_append_right _ (List.mem_append_right _ (List.mem_append_right _ (List.mem_append_right _ (List.mem_append_right _ (List.mem_append_right _ (List.mem_append_left _ h))))))))))))))))))))))))))))))))))))
theorem ckm_wsL_law_r30 : ∀ w ∈ wsL_law_r30, w ∈ wsL_law := by
  intro w h
  unfold wsL_law
  exact List.mem_append_left _ (List.mem_append_left _ (List.mem_append_left _ (List.mem_append_left _ (List.mem_append_left _ (List.mem_append_left _ (List.mem_append_left _ (List.mem_append_left _ (List.mem_append_right _ (List.mem_append_right _ (List.mem_append_right _ (List.mem_append_right _ (List.mem_append_right _ (List.mem_append_right _ (List.mem_append_right _ (List.mem_append_right _ (List.mem_append_right _ (List.mem_append_right _ (List.mem_append_right _ (List.mem_append_right _ (List.mem_append_right _ (List.mem_append_right _ (List.mem_append_right _ (List.mem_append_right _ (List.mem_append_right _ (List.mem_append_right _ (List.mem_append_right _ (List.mem_append_right _ (List.mem_append_right _ (List.mem_append_right _ (List.mem_append_right _ (List.mem_append_right _ (List.mem_append_right _ (List.mem_append_right _ (List.mem_append_right _ (List.mem_append_right _ (List.mem_append_right _ (List.mem_append_left _ h)))))))))))))))))))))))))))))))))))))
theorem ckm_wsL_law_r31 : ∀ w ∈ wsL_law_r31, w ∈ wsL_law := by
  intro w h
  unfold wsL_law
  exact List.mem_append_left _ (List.mem_append_left _ (List.mem_append_left _ (List.mem_append_left _ (List.mem_append_left _ (List.mem_append_left _ (List.mem_append_left _ (List.mem_append_left _ (List.mem_append_right _ (List.mem_append_right _ (List.mem_append_right _ (List.mem_append_right _ (List.mem_append_right _ (List.mem_append_right _ (List.mem_append_right _ (List.mem_append_right _ (List.mem_append_right _ (List.mem_append_right _ (List.mem_append_right _ (List.mem_append_right _ (List.mem_append_right _ (List.mem_append_right _ (List.mem_append_right _ (List.mem_append_right _ (List.mem_append_right _ (List.mem_append_right _ (List.mem_append_right _ (List.mem_append_right _ (List.mem_append_right _ (List.mem_append_right _ (List.mem_append_right _ (List.mem_append_right _ (List.mem_append_right _ (List.mem_append_right _ (List.mem_append_right _ (List.mem_append_right _ (List.mem_append_right _ (List.mem_append_right _ (List.mem_append_left _ h))))))))))))))))))))))))))))))))))))))
theorem ckm_wsL_law_r32 : ∀ w ∈ wsL_law_r32, w ∈ wsL_law := by
  intro w h
  unfold wsL_law
  exact List.mem_append_left _ (List.mem_append_left _ (List.mem_append_left _ (List.mem_append_left _ (List.mem_append_left _ (List.mem_append_left _ (List.mem_append_left _ (List.mem_append_left _ (List.mem_append_right _ (List.mem_append_right _ (List.mem_append_right _ (List.mem_append_right _ (List.mem_append_right _ (List.mem_append_right _ (List.mem_append_right _ (List.mem_append_right _ (List.mem_append_right _ (List.mem_append_right _ (List.mem_append_right _ (List.mem_append_right _ (List.mem_append_right _ (List.mem_append_right _ (List.mem_append_right _ (List.mem_append_right _ (List.mem_append_right _ (List.mem_append_right _ (List.mem_append_right _ (List.mem_append_right _ (List.mem_append_right _ (List.mem_append_right _ (List.mem_append_right _ (List.mem_append_right _ (List.mem_append_right _ (List.mem_append_right _ (List.mem_append_right _ (List.mem_append_right _ (List.mem_append_right _ (List.mem_append_right _ (List.mem_append_right _ (List.mem_append_left _ h)))))))))))))))))))))))))))))))))))))))
theorem ckm_wsL_law_r33 : ∀ w ∈ wsL_law_r33, w ∈ wsL_law := by
  intro w h
  unfold wsL_law
  exact List.mem_append_left _ (List.mem_append_left _ (List.mem_append_left _ (List.mem_append_left _ (List.mem_append_left _ (List.mem_append_left _ (List.mem_append_left _ (List.mem_append_left _ (List.mem_append_right _ (List.mem_append_right _ (List.mem_append_right _ (List.mem_append_right _ (List.mem_append_right _ (List.mem_append_right _ (List.mem_append_right _ (List.mem_append_right _ (List.mem_append_right _ (List.mem_append_right _ (List.mem_append_right _ (List.mem_append_right _ (List.mem_append_right _ (List.mem_append_right _ (List.mem_append_right _ (List.mem_append_right _ (List.mem_append_right _ (List.mem_append_right _ (List.mem_append_right _ (List.mem_append_right _ (List.mem_append_right _ (List.mem_append_right _ (List.mem_append_right _ (List.mem_append_right _ (List.mem_append_right _ (List.mem_append_right _ (List.mem_append_right _ (List.mem_append_right _ (List.mem_append_right _ (List.mem_append_right _ (List.mem_append_right _ (List.mem_append_right _ (List.mem_append_left _ h))))))))))))))))))))))))))))))))))))))))
theorem ckm_wsL_law_r34 : ∀ w ∈ wsL_law_r34, w ∈ wsL_law := by
  intro w h
  unfold wsL_law
  exact List.mem_append_left _ (List.mem_append_left _ (List.mem_append_left _ (List.mem_append_left _ (List.mem_append_left _ (List.mem_append_left _ (List.mem_append_left _ (List.mem_append_left _ (List.mem_append_right _ (List.mem_append_right _ (List.mem_append_right _ (List.mem_append_right _ (List.mem_append_right _ (List.mem_append_right _ (List.mem_append_right _ (List.mem_append_right _ (List.mem_append_right _ (List.mem_append_right _ (List.mem_append_right _ (List.mem_append_right _ (List.mem_append_right _ (List.mem_append_right _ (List.mem_append_right _ (List.mem_append_right _ (List.mem_append_right _ (List.mem_append_right _ (List.mem_append_right _ (List.mem_append_right _ (List.mem_append_right _ (List.mem_append_right _ (List.mem_append_right _ (List.mem_append_right _ (List.mem_append_right _ (List.mem_append_right _ (List.mem_append_right _ (List.mem_append_right _ (List.mem_append_right _ (List.mem_append_right _ (List.mem_append_right _ (List.mem_append_right _ (List.mem_append_right _ (h)))))))))))))))))))))))))))))))))))))))))
theorem ckm_wsX50 : ∀ w ∈ wsX50, w ∈ wsL_law := by
  intro w h
  unfold wsL_law
  exact List.mem_append_left _ (List.mem_append_left _ (List.mem_append_left _ (List.mem_append_left _ (List.mem_append_left _ (List.mem_append_left _ (List.mem_append_left _ (List.mem_append_right _ h)))))))
theorem ckm_wsX60 : ∀ w ∈ wsX60, w ∈ wsL_law := by
  intro w h
  unfold wsL_law
  exact List.mem_append_left _ (List.mem_append_left _ (List.mem_append_left _ (List.mem_append_left _ (List.mem_append_left _ (List.mem_append_left _ (List.mem_append_right _ h))))))
theorem ckm_wsX20 : ∀ w ∈ wsX20, w ∈ wsL_law := by
  intro w h
  unfold wsL_law
  exact List.mem_append_left _ (List.mem_append_left _ (List.mem_append_left _ (List.mem_append_left _ (List.mem_append_left _ (List.mem_append_right _ h)))))
theorem ckm_wsX10 : ∀ w ∈ wsX10, w ∈ wsL_law := by
  intro w h
  unfold wsL_law
  exact List.mem_append_left _ (List.mem_append_left _ (List.mem_append_left _ (List.mem_append_left _ (List.mem_append_right _ h))))
theorem ckm_wsX40 : ∀ w ∈ wsX40, w ∈ wsL_law := by
  intro w h
  unfold wsL_law
  exact List.mem_append_left _ (List.mem_append_left _ (List.mem_append_left _ (List.mem_append_right _ h)))
theorem ckm_wsX00 : ∀ w ∈ wsX00, w ∈ wsL_law := by
  intro w h
  unfold wsL_law
  exact List.mem_append_left _ (List.mem_append_left _ (List.mem_append_right _ h))
theorem ckm_wsX30 : ∀ w ∈ wsX30, w ∈ wsL_law := by
  intro w h
  unfold wsL_law
  exact List.mem_append_left _ (List.mem_append_right _ h)
theorem ckL_in : ∀ c ∈ ckL, ∀ w ∈ c, w ∈ wsL_law := by
  unfold ckL
  exact List.forall_mem_cons.mpr ⟨ckm_wsL_law_r1, List.forall_mem_cons.mpr ⟨ckm_wsL_law_r2, List.forall_mem_cons.mpr ⟨ckm_wsL_law_r3, List.forall_mem_cons.mpr ⟨ckm_wsL_law_r4, List.forall_mem_cons.mpr ⟨ckm_wsL_law_r5, List.forall_mem_cons.mpr ⟨ckm_wsL_law_r6, List.forall_mem_cons.mpr ⟨ckm_wsL_law_r7, List.forall_mem_cons.mpr ⟨ckm_wsL_law_r8, List.forall_mem_cons.mpr ⟨ckm_wsL_law_r9, List.forall_mem_cons.mpr ⟨ckm_wsL_law_r10, List.forall_mem_cons.mpr ⟨ckm_wsL_law_r11, List.forall_mem_cons.mpr ⟨ckm_wsL_law_r12, List.forall_mem_cons.mpr ⟨ckm_wsL_law_r13, List.forall_mem_cons.mpr ⟨ckm_wsL_law_r14, List.forall_mem_cons.mpr ⟨ckm_wsL_law_r15, List.forall_mem_cons.mpr ⟨ckm_wsL_law_r16, List.forall_mem_cons.mpr ⟨ckm_wsL_law_r17, List.forall_mem_cons.mpr ⟨ckm_wsL_law_r18, List.forall_mem_cons.mpr ⟨ckm_wsL_law_r19, List.forall_mem_cons.mpr ⟨ckm_wsL_law_r20, List.forall_mem_cons.mpr ⟨ckm_wsL_law_r21, List.forall_mem_cons.mpr ⟨ckm_wsL_law_r22, List.forall_mem_cons.mpr ⟨ckm_wsL_law_r23, List.forall_mem_cons.mpr ⟨ckm_wsL_law_r24, List.forall_mem_cons.mpr ⟨ckm_wsL_law_r25, List.forall_mem_cons.mpr ⟨ckm_wsL_law_r26, List.forall_mem_cons.mpr ⟨ckm_wsL_law_r27, List.forall_mem_cons.mpr ⟨ckm_wsL_law_r28, List.forall_mem_cons.mpr ⟨ckm_wsL_law_r29, List.forall_mem_cons.mpr ⟨ckm_wsL_law_r30, List.forall_mem_cons.mpr ⟨ckm_wsL_law_r31, List.forall_mem_cons.mpr ⟨ckm_wsL_law_r32, List.forall_mem_cons.mpr ⟨ckm_wsL_law_r33, List.forall_mem_cons.mpr ⟨ckm_wsL_law_r34, List.forall_mem_cons.mpr ⟨ckm_wsX50, List.forall_mem_cons.mpr ⟨ckm_wsX60, List.forall_mem_cons.mpr ⟨ckm_wsX20, List.forall_mem_cons.mpr ⟨ckm_wsX10, List.forall_mem_cons.mpr ⟨ckm_wsX40, List.forall_mem_cons.mpr ⟨ckm_wsX00, List.forall_mem_cons.mpr ⟨ckm_wsX30, fun _ h => absurd h List.not_mem_nil⟩⟩⟩⟩⟩⟩⟩⟩⟩⟩⟩⟩⟩⟩⟩⟩⟩⟩⟩⟩⟩⟩⟩⟩⟩⟩⟩⟩⟩⟩⟩⟩⟩⟩⟩⟩⟩⟩⟩⟩⟩
