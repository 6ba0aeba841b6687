/-! THE LAW'S CASES -/
noncomputable def sc (xs : Nat → Int32) (n k : Nat) : Int32 := xs (n + k)
theorem scq_eq (xs : Nat → Int32) {n k : Nat} (h : n + k < 2 ^ 31) : sc xs n k = xs (nI n + nI k).toNatClampNeg := by rw [nI_add, nI_clamp h]; rfl
theorem sc_in {n k L : Nat} (h : n + k < L) (hL : L ≤ 448) : vp_in (nI n + nI k) L := by rw [nI_add]; exact vp_in_nI h (by omega)
noncomputable abbrev old (s : State) : Nat → Prop := fun q => s.heap.size ≤ q
set_option maxHeartbeats 4000000 in
set_option maxRecDepth 100000 in
theorem lawc_0 {p : Program} {l : Launch} {e : Env} {s : State} {m : MethodId} {below : List Frame} {meth : Method} {c : Code} {D : va_G} {cA : Nat → ClassId} {o : Nat → Nat → Nat} {a : Nat → Nat} {b L : Nat} {xs : Nat → Int32} {Q : State → Prop} {cells slots : Nat} (Z : Cx p s m #[Value.ref b] meth c cL_law 4 (some .boolean) wsL_law RL D cA) (hX : va_X b L xs s s.heap) (hbl : b < s.heap.size) (n : Nat) (hn : n + 7 ≤ L) (hL : L ≤ 448) (hcs : cells ≤ room_1.cells ∧ slots ≤ room_1.slots) (X : SX) (M : St6) (rX : Int32 × SX) (rM : Int32 × St6) (h1 : FX_person X (sc xs n 1) (sc xs n 2) = some rX) (h2 : f_X6_person M (sc xs n 1) (sc xs n 2) = some rM) (H : Heap) (locs : List Loc) (ls : Array Slot) (hP : va_P D vwCl ([wX cA o X, w6 cA a M] : List va_W).flatten H) (hD : va_D (old s) ([wX cA o X, w6 cA a M] : List va_W).flatten) (hS : va_S (old s) s.heap H locs) (hl : lv_has ls 4 [(3, .int (nI n)), (2, .ref (a 0)), (1, .ref (o 0 0)), (0, .ref b)]) (kk : ∀ (H : Heap) (locs : List Loc) (ls : Array Slot), va_P D vwCl ([wX cA o rX.2, w6 cA a rM.2] : List va_W).flatten H → va_D (old s) ([wX cA o rX.2, w6 cA a rM.2] : List va_W).flatten → va_S (old s) s.heap H locs → lv_has ls 4 [(3, .int (nI n)), (2, .ref (a 0)), (1, .ref (o 0 0)), (0, .ref b)] → W p l e room_1 s m #[Value.ref b] below meth c H locs cells slots Q (F0 m 1194 ls [])) : W p l e room_1 s m #[Value.ref b] below meth c H locs cells slots Q (F0 m 176 ls []) := by
  obtain ⟨hx, hb, hml, hown, hts, hr, hlk, hKK⟩ := id Z
  have hbA : ¬ old s b := Nat.not_le.mpr hbl
  refine lv_aload_n hx hb dL_law_176 rfl (lv_at hl 2 rfl) ?_
  refine lv_aload_n hx hb dL_law_177 rfl (lv_at hl 3 rfl) ?_
  refine lv_iload_n hx hb dL_law_178 rfl (lv_at hl 0 rfl) ?_
  refine lv_iconst (v := 1) hx hb dL_law_179 (by decide) ?_
  refine lv_iadd hx hb dL_law_180 ?_
  refine va_sld hx hb hX hbl hbA hS (sc_in (k := 1) (by omega) hL) dL_law_181 ?_
  refine lv_eqi (y := sc xs n 1) (scq_eq xs (by omega)) ?_
  refine lv_aload_n hx hb dL_law_182 rfl (lv_at hl 3 rfl) ?_
  refine lv_iload_n hx hb dL_law_183 rfl (lv_at hl 0 rfl) ?_
  refine lv_iconst (v := 2) hx hb dL_law_184 (by decide) ?_
  refine lv_iadd hx hb dL_law_185 ?_
  refine va_sld hx hb hX hbl hbA hS (sc_in (k := 2) (by omega) hL) dL_law_186 ?_
  refine lv_eqi (y := sc xs n 2) (scq_eq xs (by omega)) ?_
  refine kV (rest := []) (st1 := [.int rX.1]) (cr := [w6 cA a M]) (cs' := [wX cA o rX.2, w6 cA a M]) Z (cw_X5_person l D cA o X (sc xs n 1) (sc xs n 2) rX h1) 2 gL_law_X5_person rfl hdX5_person ⟨rfl, rfl⟩ ⟨Nat.le_of_ble_eq_true rfl, Nat.le_of_ble_eq_true rfl⟩ hcs hP hD hS hl.1 rfl rfl rfl (Nat.le_of_ble_eq_true rfl) 5 rfl rfl rfl [0] [1] [1, 0] rfl rfl rfl rfl rfl dL_law_187 (fun H locs hP hD hS => ?_)
  refine lv_pop hx hb dL_law_190 rfl ?_
  refine lv_aload_n hx hb dL_law_191 rfl (lv_at hl 1 rfl) ?_
  refine lv_aload_n hx hb dL_law_192 rfl (lv_at hl 3 rfl) ?_
  refine lv_iload_n hx hb dL_law_193 rfl (lv_at hl 0 rfl) ?_
  refine lv_iconst (v := 1) hx hb dL_law_194 (by decide) ?_
  refine lv_iadd hx hb dL_law_195 ?_
  refine va_sld hx hb hX hbl hbA hS (sc_in (k := 1) (by omega) hL) dL_law_196 ?_
  refine lv_eqi (y := sc xs n 1) (scq_eq xs (by omega)) ?_
  refine lv_aload_n hx hb dL_law_197 rfl (lv_at hl 3 rfl) ?_
  refine lv_iload_n hx hb dL_law_198 rfl (lv_at hl 0 rfl) ?_
  refine lv_iconst (v := 2) hx hb dL_law_199 (by decide) ?_
  refine lv_iadd hx hb dL_law_200 ?_
  refine va_sld hx hb hX hbl hbA hS (sc_in (k := 2) (by omega) hL) dL_law_201 ?_
  refine lv_eqi (y := sc xs n 2) (scq_eq xs (by omega)) ?_
  refine kV (rest := []) (st1 := [.int rM.1]) (cr := [wX cA o rX.2]) (cs' := [wX cA o rX.2, w6 cA a rM.2]) Z (c_X6_person l D cA a M (sc xs n 1) (sc xs n 2) rM h2) 2 gL_law_X6_person rfl hdX6_person ⟨rfl, rfl⟩ ⟨Nat.le_of_ble_eq_true rfl, Nat.le_of_ble_eq_true rfl⟩ hcs hP hD hS hl.1 rfl rfl rfl (Nat.le_of_ble_eq_true rfl) 6 rfl rfl rfl [1] [0] [0, 1] rfl rfl rfl rfl rfl dL_law_202 (fun H locs hP hD hS => ?_)
  refine lv_pop hx hb dL_law_205 rfl ?_
  refine lv_goto (tgt := 1194) hx hb dL_law_206 (by decide) ?_
  exact kk _ _ _ hP hD hS hl
set_option maxHeartbeats 4000000 in
set_option maxRecDepth 100000 in
theorem lawc_1 {p : Program} {l : Launch} {e : Env} {s : State} {m : MethodId} {below : List Frame} {meth : Method} {c : Code} {D : va_G} {cA : Nat → ClassId} {o : Nat → Nat → Nat} {a : Nat → Nat} {b L : Nat} {xs : Nat → Int32} {Q : State → Prop} {cells slots : Nat} (Z : Cx p s m #[Value.ref b] meth c cL_law 4 (some .boolean) wsL_law RL D cA) (hX : va_X b L xs s s.heap) (hbl : b < s.heap.size) (n : Nat) (hn : n + 7 ≤ L) (hL : L ≤ 448) (hcs : cells ≤ room_1.cells ∧ slots ≤ room_1.slots) (X : SX) (M : St6) (rX : Int32 × SX) (rM : Int32) (h1 : FX_of X (sc xs n 1) (sc xs n 2) = some rX) (h2 : f_X6_of M (sc xs n 1) (sc xs n 2) = some rM) (H : Heap) (locs : List Loc) (ls : Array Slot) (hP : va_P D vwCl ([wX cA o X, w6 cA a M] : List va_W).flatten H) (hD : va_D (old s) ([wX cA o X, w6 cA a M] : List va_W).flatten) (hS : va_S (old s) s.heap H locs) (hl : lv_has ls 4 [(3, .int (nI n)), (2, .ref (a 0)), (1, .ref (o 0 0)), (0, .ref b)]) (kk : ∀ (H : Heap) (locs : List Loc) (ls : Array Slot), va_P D vwCl ([wX cA o rX.2, w6 cA a M] : List va_W).flatten H → va_D (old s) ([wX cA o rX.2, w6 cA a M] : List va_W).flatten → va_S (old s) s.heap H locs → lv_has ls 4 [(3, .int (nI n)), (2, .ref (a 0)), (1, .ref (o 0 0)), (0, .ref b)] → W p l e room_1 s m #[Value.ref b] below meth c H locs cells slots Q (F0 m 1194 ls [])) : W p l e room_1 s m #[Value.ref b] below meth c H locs cells slots Q (F0 m 209 ls []) := by
  obtain ⟨hx, hb, hml, hown, hts, hr, hlk, hKK⟩ := id Z
  have hbA : ¬ old s b := Nat.not_le.mpr hbl
  refine lv_aload_n hx hb dL_law_209 rfl (lv_at hl 2 rfl) ?_
  refine lv_aload_n hx hb dL_law_210 rfl (lv_at hl 3 rfl) ?_
  refine lv_iload_n hx hb dL_law_211 rfl (lv_at hl 0 rfl) ?_
  refine lv_iconst (v := 1) hx hb dL_law_212 (by decide) ?_
  refine lv_iadd hx hb dL_law_213 ?_
  refine va_sld hx hb hX hbl hbA hS (sc_in (k := 1) (by omega) hL) dL_law_214 ?_
  refine lv_eqi (y := sc xs n 1) (scq_eq xs (by omega)) ?_
  refine lv_aload_n hx hb dL_law_215 rfl (lv_at hl 3 rfl) ?_
  refine lv_iload_n hx hb dL_law_216 rfl (lv_at hl 0 rfl) ?_
  refine lv_iconst (v := 2) hx hb dL_law_217 (by decide) ?_
  refine lv_iadd hx hb dL_law_218 ?_
  refine va_sld hx hb hX hbl hbA hS (sc_in (k := 2) (by omega) hL) dL_law_219 ?_
  refine lv_eqi (y := sc xs n 2) (scq_eq xs (by omega)) ?_
  refine kV (rest := []) (st1 := [.int rX.1]) (cr := [w6 cA a M]) (cs' := [wX cA o rX.2, w6 cA a M]) Z (cw_X5_of l D cA o X (sc xs n 1) (sc xs n 2) rX h1) 2 gL_law_X5_of rfl hdX5_of ⟨rfl, rfl⟩ ⟨Nat.le_of_ble_eq_true rfl, Nat.le_of_ble_eq_true rfl⟩ hcs hP hD hS hl.1 rfl rfl rfl (Nat.le_of_ble_eq_true rfl) 5 rfl rfl rfl [0] [1] [1, 0] rfl rfl rfl rfl rfl dL_law_220 (fun H locs hP hD hS => ?_)
  refine lv_pop hx hb dL_law_223 rfl ?_
  refine lv_aload_n hx hb dL_law_224 rfl (lv_at hl 1 rfl) ?_
  refine lv_aload_n hx hb dL_law_225 rfl (lv_at hl 3 rfl) ?_
  refine lv_iload_n hx hb dL_law_226 rfl (lv_at hl 0 rfl) ?_
  refine lv_iconst (v := 1) hx hb dL_law_227 (by decide) ?_
  refine lv_iadd hx hb dL_law_228 ?_
  refine va_sld hx hb hX hbl hbA hS (sc_in (k := 1) (by omega) hL) dL_law_229 ?_
  refine lv_eqi (y := sc xs n 1) (scq_eq xs (by omega)) ?_
  refine lv_aload_n hx hb dL_law_230 rfl (lv_at hl 3 rfl) ?_
  refine lv_iload_n hx hb dL_law_231 rfl (lv_at hl 0 rfl) ?_
  refine lv_iconst (v := 2) hx hb dL_law_232 (by decide) ?_
  refine lv_iadd hx hb dL_law_233 ?_
  refine va_sld hx hb hX hbl hbA hS (sc_in (k := 2) (by omega) hL) dL_law_234 ?_
  refine lv_eqi (y := sc xs n 2) (scq_eq xs (by omega)) ?_
  refine kV (rest := []) (st1 := [.int rM]) (cr := [wX cA o rX.2]) (cs' := [wX cA o rX.2, w6 cA a M]) Z (c_X6_of l D cA a M (sc xs n 1) (sc xs n 2) rM h2) 2 gL_law_X6_of rfl hdX6_of ⟨rfl, rfl⟩ ⟨Nat.le_of_ble_eq_true rfl, Nat.le_of_ble_eq_true rfl⟩ hcs hP hD hS hl.1 rfl rfl rfl (Nat.le_of_ble_eq_true rfl) 6 rfl rfl rfl [1] [0] [0, 1] rfl rfl rfl rfl rfl dL_law_235 (fun H locs hP hD hS => ?_)
  refine lv_pop hx hb dL_law_238 rfl ?_
  refine lv_goto (tgt := 1194) hx hb dL_law_239 (by decide) ?_
  exact kk _ _ _ hP hD hS hl
set_option maxHeartbeats 4000000 in
set_option maxRecDepth 100000 in
theorem lawc_2 {p : Program} {l : Launch} {e : Env} {s : State} {m : MethodId} {below : List Frame} {meth : Method} {c : Code} {D : va_G} {cA : Nat → ClassId} {o : Nat → Nat → Nat} {a : Nat → Nat} {b L : Nat} {xs : Nat → Int32} {Q : State → Prop} {cells slots : Nat} (Z : Cx p s m #[Value.ref b] meth c cL_law 4 (some .boolean) wsL_law RL D cA) (hX : va_X b L xs s s.heap) (hbl : b < s.heap.size) (n : Nat) (hn : n + 7 ≤ L) (hL : L ≤ 448) (hcs : cells ≤ room_1.cells ∧ slots ≤ room_1.slots) (X : SX) (M : St6) (rX : Int32 × SX) (rM : Int32 × St6) (h1 : FX_type X (sc xs n 1) = some rX) (h2 : f_X6_type M (sc xs n 1) = some rM) (H : Heap) (locs : List Loc) (ls : Array Slot) (hP : va_P D vwCl ([wX cA o X, w6 cA a M] : List va_W).flatten H) (hD : va_D (old s) ([wX cA o X, w6 cA a M] : List va_W).flatten) (hS : va_S (old s) s.heap H locs) (hl : lv_has ls 4 [(3, .int (nI n)), (2, .ref (a 0)), (1, .ref (o 0 0)), (0, .ref b)]) (kk : ∀ (H : Heap) (locs : List Loc) (ls : Array Slot), va_P D vwCl ([wX cA o rX.2, w6 cA a rM.2] : List va_W).flatten H → va_D (old s) ([wX cA o rX.2, w6 cA a rM.2] : List va_W).flatten → va_S (old s) s.heap H locs → lv_has ls 4 [(3, .int (nI n)), (2, .ref (a 0)), (1, .ref (o 0 0)), (0, .ref b)] → W p l e room_1 s m #[Value.ref b] below meth c H locs cells slots Q (F0 m 1194 ls [])) : W p l e room_1 s m #[Value.ref b] below meth c H locs cells slots Q (F0 m 242 ls []) := by
  obtain ⟨hx, hb, hml, hown, hts, hr, hlk, hKK⟩ := id Z
  have hbA : ¬ old s b := Nat.not_le.mpr hbl
  refine lv_aload_n hx hb dL_law_242 rfl (lv_at hl 2 rfl) ?_
  refine lv_aload_n hx hb dL_law_243 rfl (lv_at hl 3 rfl) ?_
  refine lv_iload_n hx hb dL_law_244 rfl (lv_at hl 0 rfl) ?_
  refine lv_iconst (v := 1) hx hb dL_law_245 (by decide) ?_
  refine lv_iadd hx hb dL_law_246 ?_
  refine va_sld hx hb hX hbl hbA hS (sc_in (k := 1) (by omega) hL) dL_law_247 ?_
  refine lv_eqi (y := sc xs n 1) (scq_eq xs (by omega)) ?_
  refine kV (rest := []) (st1 := [.int rX.1]) (cr := [w6 cA a M]) (cs' := [wX cA o rX.2, w6 cA a M]) Z (cw_X5_type l D cA o X (sc xs n 1) rX h1) 1 gL_law_X5_type rfl hdX5_type ⟨rfl, rfl⟩ ⟨Nat.le_of_ble_eq_true rfl, Nat.le_of_ble_eq_true rfl⟩ hcs hP hD hS hl.1 rfl rfl rfl (Nat.le_of_ble_eq_true rfl) 5 rfl rfl rfl [0] [1] [1, 0] rfl rfl rfl rfl rfl dL_law_248 (fun H locs hP hD hS => ?_)
  refine lv_pop hx hb dL_law_251 rfl ?_
  refine lv_aload_n hx hb dL_law_252 rfl (lv_at hl 1 rfl) ?_
  refine lv_aload_n hx hb dL_law_253 rfl (lv_at hl 3 rfl) ?_
  refine lv_iload_n hx hb dL_law_254 rfl (lv_at hl 0 rfl) ?_
  refine lv_iconst (v := 1) hx hb dL_law_255 (by decide) ?_
  refine lv_iadd hx hb dL_law_256 ?_
  refine va_sld hx hb hX hbl hbA hS (sc_in (k := 1) (by omega) hL) dL_law_257 ?_
  refine lv_eqi (y := sc xs n 1) (scq_eq xs (by omega)) ?_
  refine kV (rest := []) (st1 := [.int rM.1]) (cr := [wX cA o rX.2]) (cs' := [wX cA o rX.2, w6 cA a rM.2]) Z (c_X6_type l D cA a M (sc xs n 1) rM h2) 1 gL_law_X6_type rfl hdX6_type ⟨rfl, rfl⟩ ⟨Nat.le_of_ble_eq_true rfl, Nat.le_of_ble_eq_true rfl⟩ hcs hP hD hS hl.1 rfl rfl rfl (Nat.le_of_ble_eq_true rfl) 6 rfl rfl rfl [1] [0] [0, 1] rfl rfl rfl rfl rfl dL_law_258 (fun H locs hP hD hS => ?_)
  refine lv_pop hx hb dL_law_261 rfl ?_
  refine lv_goto (tgt := 1194) hx hb dL_law_262 (by decide) ?_
  exact kk _ _ _ hP hD hS hl
set_option maxHeartbeats 4000000 in
set_option maxRecDepth 100000 in
theorem lawc_3 {p : Program} {l : Launch} {e : Env} {s : State} {m : MethodId} {below : List Frame} {meth : Method} {c : Code} {D : va_G} {cA : Nat → ClassId} {o : Nat → Nat → Nat} {a : Nat → Nat} {b L : Nat} {xs : Nat → Int32} {Q : State → Prop} {cells slots : Nat} (Z : Cx p s m #[Value.ref b] meth c cL_law 4 (some .boolean) wsL_law RL D cA) (hX : va_X b L xs s s.heap) (hbl : b < s.heap.size) {sk sv : Nat} {sf : Option Nat} (hSF : SF sk sv sf (old s) s) (n : Nat) (hn : n + 7 ≤ L) (hL : L ≤ 448) (hcs : cells ≤ room_1.cells ∧ slots ≤ room_1.slots) (X : SX) (M : St6) (rX : Int32 × SX) (rM : Int32 × St6) (h1 : FX_close X  = some rX) (h2 : f_X6_close M  = some rM) (H : Heap) (locs : List Loc) (ls : Array Slot) (hP : va_P D vwCl ([wX cA o X, w6 cA a M] : List va_W).flatten H) (hD : va_D (old s) ([wX cA o X, w6 cA a M] : List va_W).flatten) (hS : va_S (old s) s.heap H locs) (hl : lv_has ls 4 [(3, .int (nI n)), (2, .ref (a 0)), (1, .ref (o 0 0)), (0, .ref b)]) (kk : ∀ (H : Heap) (locs : List Loc) (ls : Array Slot), va_P D vwCl ([wX cA o rX.2, w6 cA a rM.2] : List va_W).flatten H → va_D (old s) ([wX cA o rX.2, w6 cA a rM.2] : List va_W).flatten → va_S (old s) s.heap H locs → lv_has ls 4 [(3, .int (nI n)), (2, .ref (a 0)), (1, .ref (o 0 0)), (0, .ref b)] → W p l e room_1 s m #[Value.ref b] below meth c H locs cells slots Q (F0 m 1194 ls [])) : W p l e room_1 s m #[Value.ref b] below meth c H locs cells slots Q (F0 m 265 ls []) := by
  obtain ⟨hx, hb, hml, hown, hts, hr, hlk, hKK⟩ := id Z
  have hbA : ¬ old s b := Nat.not_le.mpr hbl
  refine lv_aload_n hx hb dL_law_265 rfl (lv_at hl 2 rfl) ?_
  refine kVs (rest := []) (st1 := [.int rX.1]) (cr := [w6 cA a M]) (cs' := [wX cA o rX.2, w6 cA a M]) Z hSF (cw_X5_close l D cA sk sv sf o X  rX h1) 0 gL_law_X5_close rfl hdX5_close ⟨rfl, rfl⟩ ⟨Nat.le_of_ble_eq_true rfl, Nat.le_of_ble_eq_true rfl⟩ hcs hP hD hS hl.1 rfl rfl rfl (Nat.le_of_ble_eq_true rfl) 5 rfl rfl rfl [0] [1] [1, 0] rfl rfl rfl rfl rfl dL_law_266 (fun H locs hP hD hS => ?_)
  refine lv_pop hx hb dL_law_269 rfl ?_
  refine lv_aload_n hx hb dL_law_270 rfl (lv_at hl 1 rfl) ?_
  refine kV (rest := []) (st1 := [.int rM.1]) (cr := [wX cA o rX.2]) (cs' := [wX cA o rX.2, w6 cA a rM.2]) Z (c_X6_close l D cA a M  rM h2) 0 gL_law_X6_close rfl hdX6_close ⟨rfl, rfl⟩ ⟨Nat.le_of_ble_eq_true rfl, Nat.le_of_ble_eq_true rfl⟩ hcs hP hD hS hl.1 rfl rfl rfl (Nat.le_of_ble_eq_true rfl) 6 rfl rfl rfl [1] [0] [0, 1] rfl rfl rfl rfl rfl dL_law_271 (fun H locs hP hD hS => ?_)
  refine lv_pop hx hb dL_law_274 rfl ?_
  refine lv_goto (tgt := 1194) hx hb dL_law_275 (by decide) ?_
  exact kk _ _ _ hP hD hS hl
set_option maxHeartbeats 4000000 in
set_option maxRecDepth 100000 in
theorem lawc_4 {p : Program} {l : Launch} {e : Env} {s : State} {m : MethodId} {below : List Frame} {meth : Method} {c : Code} {D : va_G} {cA : Nat → ClassId} {o : Nat → Nat → Nat} {a : Nat → Nat} {b L : Nat} {xs : Nat → Int32} {Q : State → Prop} {cells slots : Nat} (Z : Cx p s m #[Value.ref b] meth c cL_law 4 (some .boolean) wsL_law RL D cA) (hX : va_X b L xs s s.heap) (hbl : b < s.heap.size) (n : Nat) (hn : n + 7 ≤ L) (hL : L ≤ 448) (hcs : cells ≤ room_1.cells ∧ slots ≤ room_1.slots) (X : SX) (M : St6) (rX : Int32 × SX) (rM : Int32) (h1 : FX_count X (sc xs n 1) = some rX) (h2 : f_X6_count M (sc xs n 1) = some rM) (H : Heap) (locs : List Loc) (ls : Array Slot) (hP : va_P D vwCl ([wX cA o X, w6 cA a M] : List va_W).flatten H) (hD : va_D (old s) ([wX cA o X, w6 cA a M] : List va_W).flatten) (hS : va_S (old s) s.heap H locs) (hl : lv_has ls 4 [(3, .int (nI n)), (2, .ref (a 0)), (1, .ref (o 0 0)), (0, .ref b)]) (kk : ∀ (H : Heap) (locs : List Loc) (ls : Array Slot), va_P D vwCl ([wX cA o rX.2, w6 cA a M] : List va_W).flatten H → va_D (old s) ([wX cA o rX.2, w6 cA a M] : List va_W).flatten → va_S (old s) s.heap H locs → lv_has ls 4 [(3, .int (nI n)), (2, .ref (a 0)), (1, .ref (o 0 0)), (0, .ref b)] → W p l e room_1 s m #[Value.ref b] below meth c H locs cells slots Q (F0 m 1194 ls [])) : W p l e room_1 s m #[Value.ref b] below meth c H locs cells slots Q (F0 m 278 ls []) := by
  obtain ⟨hx, hb, hml, hown, hts, hr, hlk, hKK⟩ := id Z
  have hbA : ¬ old s b := Nat.not_le.mpr hbl
  refine lv_aload_n hx hb dL_law_278 rfl (lv_at hl 2 rfl) ?_
  refine lv_aload_n hx hb dL_law_279 rfl (lv_at hl 3 rfl) ?_
  refine lv_iload_n hx hb dL_law_280 rfl (lv_at hl 0 rfl) ?_
  refine lv_iconst (v := 1) hx hb dL_law_281 (by decide) ?_
  refine lv_iadd hx hb dL_law_282 ?_
  refine va_sld hx hb hX hbl hbA hS (sc_in (k := 1) (by omega) hL) dL_law_283 ?_
  refine lv_eqi (y := sc xs n 1) (scq_eq xs (by omega)) ?_
  refine kV (rest := []) (st1 := [.int rX.1]) (cr := [w6 cA a M]) (cs' := [wX cA o rX.2, w6 cA a M]) Z (cw_X5_count l D cA o X (sc xs n 1) rX h1) 1 gL_law_X5_count rfl hdX5_count ⟨rfl, rfl⟩ ⟨Nat.le_of_ble_eq_true rfl, Nat.le_of_ble_eq_true rfl⟩ hcs hP hD hS hl.1 rfl rfl rfl (Nat.le_of_ble_eq_true rfl) 5 rfl rfl rfl [0] [1] [1, 0] rfl rfl rfl rfl rfl dL_law_284 (fun H locs hP hD hS => ?_)
  refine lv_pop hx hb dL_law_287 rfl ?_
  refine lv_aload_n hx hb dL_law_288 rfl (lv_at hl 1 rfl) ?_
  refine lv_aload_n hx hb dL_law_289 rfl (lv_at hl 3 rfl) ?_
  refine lv_iload_n hx hb dL_law_290 rfl (lv_at hl 0 rfl) ?_
  refine lv_iconst (v := 1) hx hb dL_law_291 (by decide) ?_
  refine lv_iadd hx hb dL_law_292 ?_
  refine va_sld hx hb hX hbl hbA hS (sc_in (k := 1) (by omega) hL) dL_law_293 ?_
  refine lv_eqi (y := sc xs n 1) (scq_eq xs (by omega)) ?_
  refine kV (rest := []) (st1 := [.int rM]) (cr := [wX cA o rX.2]) (cs' := [wX cA o rX.2, w6 cA a M]) Z (c_X6_count l D cA a M (sc xs n 1) rM h2) 1 gL_law_X6_count rfl hdX6_count ⟨rfl, rfl⟩ ⟨Nat.le_of_ble_eq_true rfl, Nat.le_of_ble_eq_true rfl⟩ hcs hP hD hS hl.1 rfl rfl rfl (Nat.le_of_ble_eq_true rfl) 6 rfl rfl rfl [1] [0] [0, 1] rfl rfl rfl rfl rfl dL_law_294 (fun H locs hP hD hS => ?_)
  refine lv_pop hx hb dL_law_297 rfl ?_
  refine lv_goto (tgt := 1194) hx hb dL_law_298 (by decide) ?_
  exact kk _ _ _ hP hD hS hl
set_option maxHeartbeats 4000000 in
set_option maxRecDepth 100000 in
theorem lawc_5 {p : Program} {l : Launch} {e : Env} {s : State} {m : MethodId} {below : List Frame} {meth : Method} {c : Code} {D : va_G} {cA : Nat → ClassId} {o : Nat → Nat → Nat} {a : Nat → Nat} {b L : Nat} {xs : Nat → Int32} {Q : State → Prop} {cells slots : Nat} (Z : Cx p s m #[Value.ref b] meth c cL_law 4 (some .boolean) wsL_law RL D cA) (hX : va_X b L xs s s.heap) (hbl : b < s.heap.size) (n : Nat) (hn : n + 7 ≤ L) (hL : L ≤ 448) (hcs : cells ≤ room_1.cells ∧ slots ≤ room_1.slots) (X : SX) (M : St6) (rX : Int32 × SX) (rM : Int32 × St6) (h1 : FX_hours X (sc xs n 1) = some rX) (h2 : f_X6_hours M (sc xs n 1) = some rM) (H : Heap) (locs : List Loc) (ls : Array Slot) (hP : va_P D vwCl ([wX cA o X, w6 cA a M] : List va_W).flatten H) (hD : va_D (old s) ([wX cA o X, w6 cA a M] : List va_W).flatten) (hS : va_S (old s) s.heap H locs) (hl : lv_has ls 4 [(3, .int (nI n)), (2, .ref (a 0)), (1, .ref (o 0 0)), (0, .ref b)]) (kk : ∀ (H : Heap) (locs : List Loc) (ls : Array Slot), va_P D vwCl ([wX cA o rX.2, w6 cA a rM.2] : List va_W).flatten H → va_D (old s) ([wX cA o rX.2, w6 cA a rM.2] : List va_W).flatten → va_S (old s) s.heap H locs → lv_has ls 4 [(3, .int (nI n)), (2, .ref (a 0)), (1, .ref (o 0 0)), (0, .ref b)] → W p l e room_1 s m #[Value.ref b] below meth c H locs cells slots Q (F0 m 1194 ls [])) : W p l e room_1 s m #[Value.ref b] below meth c H locs cells slots Q (F0 m 301 ls []) := by
  obtain ⟨hx, hb, hml, hown, hts, hr, hlk, hKK⟩ := id Z
  have hbA : ¬ old s b := Nat.not_le.mpr hbl
  refine lv_aload_n hx hb dL_law_301 rfl (lv_at hl 2 rfl) ?_
  refine lv_aload_n hx hb dL_law_302 rfl (lv_at hl 3 rfl) ?_
  refine lv_iload_n hx hb dL_law_303 rfl (lv_at hl 0 rfl) ?_
  refine lv_iconst (v := 1) hx hb dL_law_304 (by decide) ?_
  refine lv_iadd hx hb dL_law_305 ?_
  refine va_sld hx hb hX hbl hbA hS (sc_in (k := 1) (by omega) hL) dL_law_306 ?_
  refine lv_eqi (y := sc xs n 1) (scq_eq xs (by omega)) ?_
  refine kV (rest := []) (st1 := [.int rX.1]) (cr := [w6 cA a M]) (cs' := [wX cA o rX.2, w6 cA a M]) Z (cw_X5_hours l D cA o X (sc xs n 1) rX h1) 1 gL_law_X5_hours rfl hdX5_hours ⟨rfl, rfl⟩ ⟨Nat.le_of_ble_eq_true rfl, Nat.le_of_ble_eq_true rfl⟩ hcs hP hD hS hl.1 rfl rfl rfl (Nat.le_of_ble_eq_true rfl) 5 rfl rfl rfl [0] [1] [1, 0] rfl rfl rfl rfl rfl dL_law_307 (fun H locs hP hD hS => ?_)
  refine lv_pop hx hb dL_law_310 rfl ?_
  refine lv_aload_n hx hb dL_law_311 rfl (lv_at hl 1 rfl) ?_
  refine lv_aload_n hx hb dL_law_312 rfl (lv_at hl 3 rfl) ?_
  refine lv_iload_n hx hb dL_law_313 rfl (lv_at hl 0 rfl) ?_
  refine lv_iconst (v := 1) hx hb dL_law_314 (by decide) ?_
  refine lv_iadd hx hb dL_law_315 ?_
  refine va_sld hx hb hX hbl hbA hS (sc_in (k := 1) (by omega) hL) dL_law_316 ?_
  refine lv_eqi (y := sc xs n 1) (scq_eq xs (by omega)) ?_
  refine kV (rest := []) (st1 := [.int rM.1]) (cr := [wX cA o rX.2]) (cs' := [wX cA o rX.2, w6 cA a rM.2]) Z (c_X6_hours l D cA a M (sc xs n 1) rM h2) 1 gL_law_X6_hours rfl hdX6_hours ⟨rfl, rfl⟩ ⟨Nat.le_of_ble_eq_true rfl, Nat.le_of_ble_eq_true rfl⟩ hcs hP hD hS hl.1 rfl rfl rfl (Nat.le_of_ble_eq_true rfl) 6 rfl rfl rfl [1] [0] [0, 1] rfl rfl rfl rfl rfl dL_law_317 (fun H locs hP hD hS => ?_)
  refine lv_pop hx hb dL_law_320 rfl ?_
  refine lv_goto (tgt := 1194) hx hb dL_law_321 (by decide) ?_
  exact kk _ _ _ hP hD hS hl
set_option maxHeartbeats 4000000 in
set_option maxRecDepth 100000 in
theorem lawc_6 {p : Program} {l : Launch} {e : Env} {s : State} {m : MethodId} {below : List Frame} {meth : Method} {c : Code} {D : va_G} {cA : Nat → ClassId} {o : Nat → Nat → Nat} {a : Nat → Nat} {b L : Nat} {xs : Nat → Int32} {Q : State → Prop} {cells slots : Nat} (Z : Cx p s m #[Value.ref b] meth c cL_law 4 (some .boolean) wsL_law RL D cA) (hX : va_X b L xs s s.heap) (hbl : b < s.heap.size) (n : Nat) (hn : n + 7 ≤ L) (hL : L ≤ 448) (hcs : cells ≤ room_1.cells ∧ slots ≤ room_1.slots) (X : SX) (M : St6) (rX : Int32 × SX) (rM : Int32 × St6) (h1 : FX_lend X (sc xs n 1) (sc xs n 2) = some rX) (h2 : f_X6_lend M (sc xs n 1) (sc xs n 2) = some rM) (H : Heap) (locs : List Loc) (ls : Array Slot) (hP : va_P D vwCl ([wX cA o X, w6 cA a M] : List va_W).flatten H) (hD : va_D (old s) ([wX cA o X, w6 cA a M] : List va_W).flatten) (hS : va_S (old s) s.heap H locs) (hl : lv_has ls 4 [(3, .int (nI n)), (2, .ref (a 0)), (1, .ref (o 0 0)), (0, .ref b)]) (kk : ∀ (H : Heap) (locs : List Loc) (ls : Array Slot), va_P D vwCl ([wX cA o rX.2, w6 cA a rM.2] : List va_W).flatten H → va_D (old s) ([wX cA o rX.2, w6 cA a rM.2] : List va_W).flatten → va_S (old s) s.heap H locs → lv_has ls 4 [(3, .int (nI n)), (2, .ref (a 0)), (1, .ref (o 0 0)), (0, .ref b)] → W p l e room_1 s m #[Value.ref b] below meth c H locs cells slots Q (F0 m 1194 ls [])) : W p l e room_1 s m #[Value.ref b] below meth c H locs cells slots Q (F0 m 324 ls []) := by
  obtain ⟨hx, hb, hml, hown, hts, hr, hlk, hKK⟩ := id Z
  have hbA : ¬ old s b := Nat.not_le.mpr hbl
  refine lv_aload_n hx hb dL_law_324 rfl (lv_at hl 2 rfl) ?_
  refine lv_aload_n hx hb dL_law_325 rfl (lv_at hl 3 rfl) ?_
  refine lv_iload_n hx hb dL_law_326 rfl (lv_at hl 0 rfl) ?_
  refine lv_iconst (v := 1) hx hb dL_law_327 (by decide) ?_
  refine lv_iadd hx hb dL_law_328 ?_
  refine va_sld hx hb hX hbl hbA hS (sc_in (k := 1) (by omega) hL) dL_law_329 ?_
  refine lv_eqi (y := sc xs n 1) (scq_eq xs (by omega)) ?_
  refine lv_aload_n hx hb dL_law_330 rfl (lv_at hl 3 rfl) ?_
  refine lv_iload_n hx hb dL_law_331 rfl (lv_at hl 0 rfl) ?_
  refine lv_iconst (v := 2) hx hb dL_law_332 (by decide) ?_
  refine lv_iadd hx hb dL_law_333 ?_
  refine va_sld hx hb hX hbl hbA hS (sc_in (k := 2) (by omega) hL) dL_law_334 ?_
  refine lv_eqi (y := sc xs n 2) (scq_eq xs (by omega)) ?_
  refine kV (rest := []) (st1 := [.int rX.1]) (cr := [w6 cA a M]) (cs' := [wX cA o rX.2, w6 cA a M]) Z (cw_X5_lend l D cA o X (sc xs n 1) (sc xs n 2) rX h1) 2 gL_law_X5_lend rfl hdX5_lend ⟨rfl, rfl⟩ ⟨Nat.le_of_ble_eq_true rfl, Nat.le_of_ble_eq_true rfl⟩ hcs hP hD hS hl.1 rfl rfl rfl (Nat.le_of_ble_eq_true rfl) 5 rfl rfl rfl [0] [1] [1, 0] rfl rfl rfl rfl rfl dL_law_335 (fun H locs hP hD hS => ?_)
  refine lv_pop hx hb dL_law_338 rfl ?_
  refine lv_aload_n hx hb dL_law_339 rfl (lv_at hl 1 rfl) ?_
  refine lv_aload_n hx hb dL_law_340 rfl (lv_at hl 3 rfl) ?_
  refine lv_iload_n hx hb dL_law_341 rfl (lv_at hl 0 rfl) ?_
  refine lv_iconst (v := 1) hx hb dL_law_342 (by decide) ?_
  refine lv_iadd hx hb dL_law_343 ?_
  refine va_sld hx hb hX hbl hbA hS (sc_in (k := 1) (by omega) hL) dL_law_344 ?_
  refine lv_eqi (y := sc xs n 1) (scq_eq xs (by omega)) ?_
  refine lv_aload_n hx hb dL_law_345 rfl (lv_at hl 3 rfl) ?_
  refine lv_iload_n hx hb dL_law_346 rfl (lv_at hl 0 rfl) ?_
  refine lv_iconst (v := 2) hx hb dL_law_347 (by decide) ?_
  refine lv_iadd hx hb dL_law_348 ?_
  refine va_sld hx hb hX hbl hbA hS (sc_in (k := 2) (by omega) hL) dL_law_349 ?_
  refine lv_eqi (y := sc xs n 2) (scq_eq xs (by omega)) ?_
  refine kV (rest := []) (st1 := [.int rM.1]) (cr := [wX cA o rX.2]) (cs' := [wX cA o rX.2, w6 cA a rM.2]) Z (c_X6_lend l D cA a M (sc xs n 1) (sc xs n 2) rM h2) 2 gL_law_X6_lend rfl hdX6_lend ⟨rfl, rfl⟩ ⟨Nat.le_of_ble_eq_true rfl, Nat.le_of_ble_eq_true rfl⟩ hcs hP hD hS hl.1 rfl rfl rfl (Nat.le_of_ble_eq_true rfl) 6 rfl rfl rfl [1] [0] [0, 1] rfl rfl rfl rfl rfl dL_law_350 (fun H locs hP hD hS => ?_)
  refine lv_pop hx hb dL_law_353 rfl ?_
  refine lv_goto (tgt := 1194) hx hb dL_law_354 (by decide) ?_
  exact kk _ _ _ hP hD hS hl
set_option maxHeartbeats 4000000 in
set_option maxRecDepth 100000 in
theorem lawc_7 {p : Program} {l : Launch} {e : Env} {s : State} {m : MethodId} {below : List Frame} {meth : Method} {c : Code} {D : va_G} {cA : Nat → ClassId} {o : Nat → Nat → Nat} {a : Nat → Nat} {b L : Nat} {xs : Nat → Int32} {Q : State → Prop} {cells slots : Nat} (Z : Cx p s m #[Value.ref b] meth c cL_law 4 (some .boolean) wsL_law RL D cA) (hX : va_X b L xs s s.heap) (hbl : b < s.heap.size) (n : Nat) (hn : n + 7 ≤ L) (hL : L ≤ 448) (hcs : cells ≤ room_1.cells ∧ slots ≤ room_1.slots) (X : SX) (M : St6) (rX : Int32 × SX) (rM : Int32 × St6) (h1 : FX_tell X (sc xs n 1) (sc xs n 2) = some rX) (h2 : f_X6_tell M (sc xs n 1) (sc xs n 2) = some rM) (H : Heap) (locs : List Loc) (ls : Array Slot) (hP : va_P D vwCl ([wX cA o X, w6 cA a M] : List va_W).flatten H) (hD : va_D (old s) ([wX cA o X, w6 cA a M] : List va_W).flatten) (hS : va_S (old s) s.heap H locs) (hl : lv_has ls 4 [(3, .int (nI n)), (2, .ref (a 0)), (1, .ref (o 0 0)), (0, .ref b)]) (kk : ∀ (H : Heap) (locs : List Loc) (ls : Array Slot), va_P D vwCl ([wX cA o rX.2, w6 cA a rM.2] : List va_W).flatten H → va_D (old s) ([wX cA o rX.2, w6 cA a rM.2] : List va_W).flatten → va_S (old s) s.heap H locs → lv_has ls 4 [(3, .int (nI n)), (2, .ref (a 0)), (1, .ref (o 0 0)), (0, .ref b)] → W p l e room_1 s m #[Value.ref b] below meth c H locs cells slots Q (F0 m 1194 ls [])) : W p l e room_1 s m #[Value.ref b] below meth c H locs cells slots Q (F0 m 357 ls []) := by
  obtain ⟨hx, hb, hml, hown, hts, hr, hlk, hKK⟩ := id Z
  have hbA : ¬ old s b := Nat.not_le.mpr hbl
  refine lv_aload_n hx hb dL_law_357 rfl (lv_at hl 2 rfl) ?_
  refine lv_aload_n hx hb dL_law_358 rfl (lv_at hl 3 rfl) ?_
  refine lv_iload_n hx hb dL_law_359 rfl (lv_at hl 0 rfl) ?_
  refine lv_iconst (v := 1) hx hb dL_law_360 (by decide) ?_
  refine lv_iadd hx hb dL_law_361 ?_
  refine va_sld hx hb hX hbl hbA hS (sc_in (k := 1) (by omega) hL) dL_law_362 ?_
  refine lv_eqi (y := sc xs n 1) (scq_eq xs (by omega)) ?_
  refine lv_aload_n hx hb dL_law_363 rfl (lv_at hl 3 rfl) ?_
  refine lv_iload_n hx hb dL_law_364 rfl (lv_at hl 0 rfl) ?_
  refine lv_iconst (v := 2) hx hb dL_law_365 (by decide) ?_
  refine lv_iadd hx hb dL_law_366 ?_
  refine va_sld hx hb hX hbl hbA hS (sc_in (k := 2) (by omega) hL) dL_law_367 ?_
  refine lv_eqi (y := sc xs n 2) (scq_eq xs (by omega)) ?_
  refine kV (rest := []) (st1 := [.int rX.1]) (cr := [w6 cA a M]) (cs' := [wX cA o rX.2, w6 cA a M]) Z (cw_X5_tell l D cA o X (sc xs n 1) (sc xs n 2) rX h1) 2 gL_law_X5_tell rfl hdX5_tell ⟨rfl, rfl⟩ ⟨Nat.le_of_ble_eq_true rfl, Nat.le_of_ble_eq_true rfl⟩ hcs hP hD hS hl.1 rfl rfl rfl (Nat.le_of_ble_eq_true rfl) 5 rfl rfl rfl [0] [1] [1, 0] rfl rfl rfl rfl rfl dL_law_368 (fun H locs hP hD hS => ?_)
  refine lv_pop hx hb dL_law_371 rfl ?_
  refine lv_aload_n hx hb dL_law_372 rfl (lv_at hl 1 rfl) ?_
  refine lv_aload_n hx hb dL_law_373 rfl (lv_at hl 3 rfl) ?_
  refine lv_iload_n hx hb dL_law_374 rfl (lv_at hl 0 rfl) ?_
  refine lv_iconst (v := 1) hx hb dL_law_375 (by decide) ?_
  refine lv_iadd hx hb dL_law_376 ?_
  refine va_sld hx hb hX hbl hbA hS (sc_in (k := 1) (by omega) hL) dL_law_377 ?_
  refine lv_eqi (y := sc xs n 1) (scq_eq xs (by omega)) ?_
  refine lv_aload_n hx hb dL_law_378 rfl (lv_at hl 3 rfl) ?_
  refine lv_iload_n hx hb dL_law_379 rfl (lv_at hl 0 rfl) ?_
  refine lv_iconst (v := 2) hx hb dL_law_380 (by decide) ?_
  refine lv_iadd hx hb dL_law_381 ?_
  refine va_sld hx hb hX hbl hbA hS (sc_in (k := 2) (by omega) hL) dL_law_382 ?_
  refine lv_eqi (y := sc xs n 2) (scq_eq xs (by omega)) ?_
  refine kV (rest := []) (st1 := [.int rM.1]) (cr := [wX cA o rX.2]) (cs' := [wX cA o rX.2, w6 cA a rM.2]) Z (c_X6_tell l D cA a M (sc xs n 1) (sc xs n 2) rM h2) 2 gL_law_X6_tell rfl hdX6_tell ⟨rfl, rfl⟩ ⟨Nat.le_of_ble_eq_true rfl, Nat.le_of_ble_eq_true rfl⟩ hcs hP hD hS hl.1 rfl rfl rfl (Nat.le_of_ble_eq_true rfl) 6 rfl rfl rfl [1] [0] [0, 1] rfl rfl rfl rfl rfl dL_law_383 (fun H locs hP hD hS => ?_)
  refine lv_pop hx hb dL_law_386 rfl ?_
  refine lv_goto (tgt := 1194) hx hb dL_law_387 (by decide) ?_
  exact kk _ _ _ hP hD hS hl
set_option maxHeartbeats 4000000 in
set_option maxRecDepth 100000 in
theorem lawc_8 {p : Program} {l : Launch} {e : Env} {s : State} {m : MethodId} {below : List Frame} {meth : Method} {c : Code} {D : va_G} {cA : Nat → ClassId} {o : Nat → Nat → Nat} {a : Nat → Nat} {b L : Nat} {xs : Nat → Int32} {Q : State → Prop} {cells slots : Nat} (Z : Cx p s m #[Value.ref b] meth c cL_law 4 (some .boolean) wsL_law RL D cA) (hX : va_X b L xs s s.heap) (hbl : b < s.heap.size) (n : Nat) (hn : n + 7 ≤ L) (hL : L ≤ 448) (hcs : cells ≤ room_1.cells ∧ slots ≤ room_1.slots) (X : SX) (M : St6) (rX : Int32 × SX) (rM : Int32 × St6) (h1 : FX_cut X (sc xs n 1) (sc xs n 2) = some rX) (h2 : f_X6_cut M (sc xs n 1) (sc xs n 2) = some rM) (H : Heap) (locs : List Loc) (ls : Array Slot) (hP : va_P D vwCl ([wX cA o X, w6 cA a M] : List va_W).flatten H) (hD : va_D (old s) ([wX cA o X, w6 cA a M] : List va_W).flatten) (hS : va_S (old s) s.heap H locs) (hl : lv_has ls 4 [(3, .int (nI n)), (2, .ref (a 0)), (1, .ref (o 0 0)), (0, .ref b)]) (kk : ∀ (H : Heap) (locs : List Loc) (ls : Array Slot), va_P D vwCl ([wX cA o rX.2, w6 cA a rM.2] : List va_W).flatten H → va_D (old s) ([wX cA o rX.2, w6 cA a rM.2] : List va_W).flatten → va_S (old s) s.heap H locs → lv_has ls 4 [(3, .int (nI n)), (2, .ref (a 0)), (1, .ref (o 0 0)), (0, .ref b)] → W p l e room_1 s m #[Value.ref b] below meth c H locs cells slots Q (F0 m 1194 ls [])) : W p l e room_1 s m #[Value.ref b] below meth c H locs cells slots Q (F0 m 390 ls []) := by
  obtain ⟨hx, hb, hml, hown, hts, hr, hlk, hKK⟩ := id Z
  have hbA : ¬ old s b := Nat.not_le.mpr hbl
  refine lv_aload_n hx hb dL_law_390 rfl (lv_at hl 2 rfl) ?_
  refine lv_aload_n hx hb dL_law_391 rfl (lv_at hl 3 rfl) ?_
  refine lv_iload_n hx hb dL_law_392 rfl (lv_at hl 0 rfl) ?_
  refine lv_iconst (v := 1) hx hb dL_law_393 (by decide) ?_
  refine lv_iadd hx hb dL_law_394 ?_
  refine va_sld hx hb hX hbl hbA hS (sc_in (k := 1) (by omega) hL) dL_law_395 ?_
  refine lv_eqi (y := sc xs n 1) (scq_eq xs (by omega)) ?_
  refine lv_aload_n hx hb dL_law_396 rfl (lv_at hl 3 rfl) ?_
  refine lv_iload_n hx hb dL_law_397 rfl (lv_at hl 0 rfl) ?_
  refine lv_iconst (v := 2) hx hb dL_law_398 (by decide) ?_
  refine lv_iadd hx hb dL_law_399 ?_
  refine va_sld hx hb hX hbl hbA hS (sc_in (k := 2) (by omega) hL) dL_law_400 ?_
  refine lv_eqi (y := sc xs n 2) (scq_eq xs (by omega)) ?_
  refine kV (rest := []) (st1 := [.int rX.1]) (cr := [w6 cA a M]) (cs' := [wX cA o rX.2, w6 cA a M]) Z (cw_X5_cut l D cA o X (sc xs n 1) (sc xs n 2) rX h1) 2 gL_law_X5_cut rfl hdX5_cut ⟨rfl, rfl⟩ ⟨Nat.le_of_ble_eq_true rfl, Nat.le_of_ble_eq_true rfl⟩ hcs hP hD hS hl.1 rfl rfl rfl (Nat.le_of_ble_eq_true rfl) 5 rfl rfl rfl [0] [1] [1, 0] rfl rfl rfl rfl rfl dL_law_401 (fun H locs hP hD hS => ?_)
  refine lv_pop hx hb dL_law_404 rfl ?_
  refine lv_aload_n hx hb dL_law_405 rfl (lv_at hl 1 rfl) ?_
  refine lv_aload_n hx hb dL_law_406 rfl (lv_at hl 3 rfl) ?_
  refine lv_iload_n hx hb dL_law_407 rfl (lv_at hl 0 rfl) ?_
  refine lv_iconst (v := 1) hx hb dL_law_408 (by decide) ?_
  refine lv_iadd hx hb dL_law_409 ?_
  refine va_sld hx hb hX hbl hbA hS (sc_in (k := 1) (by omega) hL) dL_law_410 ?_
  refine lv_eqi (y := sc xs n 1) (scq_eq xs (by omega)) ?_
  refine lv_aload_n hx hb dL_law_411 rfl (lv_at hl 3 rfl) ?_
  refine lv_iload_n hx hb dL_law_412 rfl (lv_at hl 0 rfl) ?_
  refine lv_iconst (v := 2) hx hb dL_law_413 (by decide) ?_
  refine lv_iadd hx hb dL_law_414 ?_
  refine va_sld hx hb hX hbl hbA hS (sc_in (k := 2) (by omega) hL) dL_law_415 ?_
  refine lv_eqi (y := sc xs n 2) (scq_eq xs (by omega)) ?_
  refine kV (rest := []) (st1 := [.int rM.1]) (cr := [wX cA o rX.2]) (cs' := [wX cA o rX.2, w6 cA a rM.2]) Z (c_X6_cut l D cA a M (sc xs n 1) (sc xs n 2) rM h2) 2 gL_law_X6_cut rfl hdX6_cut ⟨rfl, rfl⟩ ⟨Nat.le_of_ble_eq_true rfl, Nat.le_of_ble_eq_true rfl⟩ hcs hP hD hS hl.1 rfl rfl rfl (Nat.le_of_ble_eq_true rfl) 6 rfl rfl rfl [1] [0] [0, 1] rfl rfl rfl rfl rfl dL_law_416 (fun H locs hP hD hS => ?_)
  refine lv_pop hx hb dL_law_419 rfl ?_
  refine lv_goto (tgt := 1194) hx hb dL_law_420 (by decide) ?_
  exact kk _ _ _ hP hD hS hl
set_option maxHeartbeats 4000000 in
set_option maxRecDepth 100000 in
theorem lawc_9 {p : Program} {l : Launch} {e : Env} {s : State} {m : MethodId} {below : List Frame} {meth : Method} {c : Code} {D : va_G} {cA : Nat → ClassId} {o : Nat → Nat → Nat} {a : Nat → Nat} {b L : Nat} {xs : Nat → Int32} {Q : State → Prop} {cells slots : Nat} (Z : Cx p s m #[Value.ref b] meth c cL_law 4 (some .boolean) wsL_law RL D cA) (hX : va_X b L xs s s.heap) (hbl : b < s.heap.size) (n : Nat) (hn : n + 7 ≤ L) (hL : L ≤ 448) (hcs : cells ≤ room_1.cells ∧ slots ≤ room_1.slots) (X : SX) (M : St6) (rX : Int32 × SX) (rM : Int32 × St6) (h1 : FX_drift X (sc xs n 1) = some rX) (h2 : f_X6_drift M (sc xs n 1) = some rM) (H : Heap) (locs : List Loc) (ls : Array Slot) (hP : va_P D vwCl ([wX cA o X, w6 cA a M] : List va_W).flatten H) (hD : va_D (old s) ([wX cA o X, w6 cA a M] : List va_W).flatten) (hS : va_S (old s) s.heap H locs) (hl : lv_has ls 4 [(3, .int (nI n)), (2, .ref (a 0)), (1, .ref (o 0 0)), (0, .ref b)]) (kk : ∀ (H : Heap) (locs : List Loc) (ls : Array Slot), va_P D vwCl ([wX cA o rX.2, w6 cA a rM.2] : List va_W).flatten H → va_D (old s) ([wX cA o rX.2, w6 cA a rM.2] : List va_W).flatten → va_S (old s) s.heap H locs → lv_has ls 4 [(3, .int (nI n)), (2, .ref (a 0)), (1, .ref (o 0 0)), (0, .ref b)] → W p l e room_1 s m #[Value.ref b] below meth c H locs cells slots Q (F0 m 1194 ls [])) : W p l e room_1 s m #[Value.ref b] below meth c H locs cells slots Q (F0 m 423 ls []) := by
  obtain ⟨hx, hb, hml, hown, hts, hr, hlk, hKK⟩ := id Z
  have hbA : ¬ old s b := Nat.not_le.mpr hbl
  refine lv_aload_n hx hb dL_law_423 rfl (lv_at hl 2 rfl) ?_
  refine lv_aload_n hx hb dL_law_424 rfl (lv_at hl 3 rfl) ?_
  refine lv_iload_n hx hb dL_law_425 rfl (lv_at hl 0 rfl) ?_
  refine lv_iconst (v := 1) hx hb dL_law_426 (by decide) ?_
  refine lv_iadd hx hb dL_law_427 ?_
  refine va_sld hx hb hX hbl hbA hS (sc_in (k := 1) (by omega) hL) dL_law_428 ?_
  refine lv_eqi (y := sc xs n 1) (scq_eq xs (by omega)) ?_
  refine kV (rest := []) (st1 := [.int rX.1]) (cr := [w6 cA a M]) (cs' := [wX cA o rX.2, w6 cA a M]) Z (cw_X5_drift l D cA o X (sc xs n 1) rX h1) 1 gL_law_X5_drift rfl hdX5_drift ⟨rfl, rfl⟩ ⟨Nat.le_of_ble_eq_true rfl, Nat.le_of_ble_eq_true rfl⟩ hcs hP hD hS hl.1 rfl rfl rfl (Nat.le_of_ble_eq_true rfl) 5 rfl rfl rfl [0] [1] [1, 0] rfl rfl rfl rfl rfl dL_law_429 (fun H locs hP hD hS => ?_)
  refine lv_pop hx hb dL_law_432 rfl ?_
  refine lv_aload_n hx hb dL_law_433 rfl (lv_at hl 1 rfl) ?_
  refine lv_aload_n hx hb dL_law_434 rfl (lv_at hl 3 rfl) ?_
  refine lv_iload_n hx hb dL_law_435 rfl (lv_at hl 0 rfl) ?_
  refine lv_iconst (v := 1) hx hb dL_law_436 (by decide) ?_
  refine lv_iadd hx hb dL_law_437 ?_
  refine va_sld hx hb hX hbl hbA hS (sc_in (k := 1) (by omega) hL) dL_law_438 ?_
  refine lv_eqi (y := sc xs n 1) (scq_eq xs (by omega)) ?_
  refine kV (rest := []) (st1 := [.int rM.1]) (cr := [wX cA o rX.2]) (cs' := [wX cA o rX.2, w6 cA a rM.2]) Z (c_X6_drift l D cA a M (sc xs n 1) rM h2) 1 gL_law_X6_drift rfl hdX6_drift ⟨rfl, rfl⟩ ⟨Nat.le_of_ble_eq_true rfl, Nat.le_of_ble_eq_true rfl⟩ hcs hP hD hS hl.1 rfl rfl rfl (Nat.le_of_ble_eq_true rfl) 6 rfl rfl rfl [1] [0] [0, 1] rfl rfl rfl rfl rfl dL_law_439 (fun H locs hP hD hS => ?_)
  refine lv_pop hx hb dL_law_442 rfl ?_
  refine lv_goto (tgt := 1194) hx hb dL_law_443 (by decide) ?_
  exact kk _ _ _ hP hD hS hl
set_option maxHeartbeats 4000000 in
set_option maxRecDepth 100000 in
theorem lawc_10 {p : Program} {l : Launch} {e : Env} {s : State} {m : MethodId} {below : List Frame} {meth : Method} {c : Code} {D : va_G} {cA : Nat → ClassId} {o : Nat → Nat → Nat} {a : Nat → Nat} {b L : Nat} {xs : Nat → Int32} {Q : State → Prop} {cells slots : Nat} (Z : Cx p s m #[Value.ref b] meth c cL_law 4 (some .boolean) wsL_law RL D cA) (hX : va_X b L xs s s.heap) (hbl : b < s.heap.size) (n : Nat) (hn : n + 7 ≤ L) (hL : L ≤ 448) (hcs : cells ≤ room_1.cells ∧ slots ≤ room_1.slots) (X : SX) (M : St6) (rX : Int32 × SX) (rM : Int32 × St6) (h1 : FX_undo X  = some rX) (h2 : f_X6_undo M  = some rM) (H : Heap) (locs : List Loc) (ls : Array Slot) (hP : va_P D vwCl ([wX cA o X, w6 cA a M] : List va_W).flatten H) (hD : va_D (old s) ([wX cA o X, w6 cA a M] : List va_W).flatten) (hS : va_S (old s) s.heap H locs) (hl : lv_has ls 4 [(3, .int (nI n)), (2, .ref (a 0)), (1, .ref (o 0 0)), (0, .ref b)]) (kk : ∀ (H : Heap) (locs : List Loc) (ls : Array Slot), va_P D vwCl ([wX cA o rX.2, w6 cA a rM.2] : List va_W).flatten H → va_D (old s) ([wX cA o rX.2, w6 cA a rM.2] : List va_W).flatten → va_S (old s) s.heap H locs → lv_has ls 4 [(3, .int (nI n)), (2, .ref (a 0)), (1, .ref (o 0 0)), (0, .ref b)] → W p l e room_1 s m #[Value.ref b] below meth c H locs cells slots Q (F0 m 1194 ls [])) : W p l e room_1 s m #[Value.ref b] below meth c H locs cells slots Q (F0 m 446 ls []) := by
  obtain ⟨hx, hb, hml, hown, hts, hr, hlk, hKK⟩ := id Z
  have hbA : ¬ old s b := Nat.not_le.mpr hbl
  refine lv_aload_n hx hb dL_law_446 rfl (lv_at hl 2 rfl) ?_
  refine kV (rest := []) (st1 := [.int rX.1]) (cr := [w6 cA a M]) (cs' := [wX cA o rX.2, w6 cA a M]) Z (cw_X5_undo l D cA o X  rX h1) 0 gL_law_X5_undo rfl hdX5_undo ⟨rfl, rfl⟩ ⟨Nat.le_of_ble_eq_true rfl, Nat.le_of_ble_eq_true rfl⟩ hcs hP hD hS hl.1 rfl rfl rfl (Nat.le_of_ble_eq_true rfl) 5 rfl rfl rfl [0] [1] [1, 0] rfl rfl rfl rfl rfl dL_law_447 (fun H locs hP hD hS => ?_)
  refine lv_pop hx hb dL_law_450 rfl ?_
  refine lv_aload_n hx hb dL_law_451 rfl (lv_at hl 1 rfl) ?_
  refine kV (rest := []) (st1 := [.int rM.1]) (cr := [wX cA o rX.2]) (cs' := [wX cA o rX.2, w6 cA a rM.2]) Z (c_X6_undo l D cA a M  rM h2) 0 gL_law_X6_undo rfl hdX6_undo ⟨rfl, rfl⟩ ⟨Nat.le_of_ble_eq_true rfl, Nat.le_of_ble_eq_true rfl⟩ hcs hP hD hS hl.1 rfl rfl rfl (Nat.le_of_ble_eq_true rfl) 6 rfl rfl rfl [1] [0] [0, 1] rfl rfl rfl rfl rfl dL_law_452 (fun H locs hP hD hS => ?_)
  refine lv_pop hx hb dL_law_455 rfl ?_
  refine lv_goto (tgt := 1194) hx hb dL_law_456 (by decide) ?_
  exact kk _ _ _ hP hD hS hl
set_option maxHeartbeats 4000000 in
set_option maxRecDepth 100000 in
theorem lawc_11 {p : Program} {l : Launch} {e : Env} {s : State} {m : MethodId} {below : List Frame} {meth : Method} {c : Code} {D : va_G} {cA : Nat → ClassId} {o : Nat → Nat → Nat} {a : Nat → Nat} {b L : Nat} {xs : Nat → Int32} {Q : State → Prop} {cells slots : Nat} (Z : Cx p s m #[Value.ref b] meth c cL_law 4 (some .boolean) wsL_law RL D cA) (hX : va_X b L xs s s.heap) (hbl : b < s.heap.size) (n : Nat) (hn : n + 7 ≤ L) (hL : L ≤ 448) (hcs : cells ≤ room_1.cells ∧ slots ≤ room_1.slots) (X : SX) (M : St6) (rX : Int32 × SX) (rM : Int32 × St6) (h1 : FX_seed X (sc xs n 1) = some rX) (h2 : f_X6_seed M (sc xs n 1) = some rM) (H : Heap) (locs : List Loc) (ls : Array Slot) (hP : va_P D vwCl ([wX cA o X, w6 cA a M] : List va_W).flatten H) (hD : va_D (old s) ([wX cA o X, w6 cA a M] : List va_W).flatten) (hS : va_S (old s) s.heap H locs) (hl : lv_has ls 4 [(3, .int (nI n)), (2, .ref (a 0)), (1, .ref (o 0 0)), (0, .ref b)]) (kk : ∀ (H : Heap) (locs : List Loc) (ls : Array Slot), va_P D vwCl ([wX cA o rX.2, w6 cA a rM.2] : List va_W).flatten H → va_D (old s) ([wX cA o rX.2, w6 cA a rM.2] : List va_W).flatten → va_S (old s) s.heap H locs → lv_has ls 4 [(3, .int (nI n)), (2, .ref (a 0)), (1, .ref (o 0 0)), (0, .ref b)] → W p l e room_1 s m #[Value.ref b] below meth c H locs cells slots Q (F0 m 1194 ls [])) : W p l e room_1 s m #[Value.ref b] below meth c H locs cells slots Q (F0 m 459 ls []) := by
  obtain ⟨hx, hb, hml, hown, hts, hr, hlk, hKK⟩ := id Z
  have hbA : ¬ old s b := Nat.not_le.mpr hbl
  refine lv_aload_n hx hb dL_law_459 rfl (lv_at hl 2 rfl) ?_
  refine lv_aload_n hx hb dL_law_460 rfl (lv_at hl 3 rfl) ?_
  refine lv_iload_n hx hb dL_law_461 rfl (lv_at hl 0 rfl) ?_
  refine lv_iconst (v := 1) hx hb dL_law_462 (by decide) ?_
  refine lv_iadd hx hb dL_law_463 ?_
  refine va_sld hx hb hX hbl hbA hS (sc_in (k := 1) (by omega) hL) dL_law_464 ?_
  refine lv_eqi (y := sc xs n 1) (scq_eq xs (by omega)) ?_
  refine kV (rest := []) (st1 := [.int rX.1]) (cr := [w6 cA a M]) (cs' := [wX cA o rX.2, w6 cA a M]) Z (cw_X5_seed l D cA o X (sc xs n 1) rX h1) 1 gL_law_X5_seed rfl hdX5_seed ⟨rfl, rfl⟩ ⟨Nat.le_of_ble_eq_true rfl, Nat.le_of_ble_eq_true rfl⟩ hcs hP hD hS hl.1 rfl rfl rfl (Nat.le_of_ble_eq_true rfl) 5 rfl rfl rfl [0] [1] [1, 0] rfl rfl rfl rfl rfl dL_law_465 (fun H locs hP hD hS => ?_)
  refine lv_pop hx hb dL_law_468 rfl ?_
  refine lv_aload_n hx hb dL_law_469 rfl (lv_at hl 1 rfl) ?_
  refine lv_aload_n hx hb dL_law_470 rfl (lv_at hl 3 rfl) ?_
  refine lv_iload_n hx hb dL_law_471 rfl (lv_at hl 0 rfl) ?_
  refine lv_iconst (v := 1) hx hb dL_law_472 (by decide) ?_
  refine lv_iadd hx hb dL_law_473 ?_
  refine va_sld hx hb hX hbl hbA hS (sc_in (k := 1) (by omega) hL) dL_law_474 ?_
  refine lv_eqi (y := sc xs n 1) (scq_eq xs (by omega)) ?_
  refine kV (rest := []) (st1 := [.int rM.1]) (cr := [wX cA o rX.2]) (cs' := [wX cA o rX.2, w6 cA a rM.2]) Z (c_X6_seed l D cA a M (sc xs n 1) rM h2) 1 gL_law_X6_seed rfl hdX6_seed ⟨rfl, rfl⟩ ⟨Nat.le_of_ble_eq_true rfl, Nat.le_of_ble_eq_true rfl⟩ hcs hP hD hS hl.1 rfl rfl rfl (Nat.le_of_ble_eq_true rfl) 6 rfl rfl rfl [1] [0] [0, 1] rfl rfl rfl rfl rfl dL_law_475 (fun H locs hP hD hS => ?_)
  refine lv_pop hx hb dL_law_478 rfl ?_
  refine lv_goto (tgt := 1194) hx hb dL_law_479 (by decide) ?_
  exact kk _ _ _ hP hD hS hl
set_option maxHeartbeats 4000000 in
set_option maxRecDepth 100000 in
theorem lawc_12 {p : Program} {l : Launch} {e : Env} {s : State} {m : MethodId} {below : List Frame} {meth : Method} {c : Code} {D : va_G} {cA : Nat → ClassId} {o : Nat → Nat → Nat} {a : Nat → Nat} {b L : Nat} {xs : Nat → Int32} {Q : State → Prop} {cells slots : Nat} (Z : Cx p s m #[Value.ref b] meth c cL_law 4 (some .boolean) wsL_law RL D cA) (hX : va_X b L xs s s.heap) (hbl : b < s.heap.size) (n : Nat) (hn : n + 7 ≤ L) (hL : L ≤ 448) (hcs : cells ≤ room_1.cells ∧ slots ≤ room_1.slots) (X : SX) (M : St6) (rX : Int32 × SX) (rM : Int32 × St6) (h1 : FX_ahead X (sc xs n 1) (sc xs n 2) = some rX) (h2 : f_X6_ahead M (sc xs n 1) (sc xs n 2) = some rM) (H : Heap) (locs : List Loc) (ls : Array Slot) (hP : va_P D vwCl ([wX cA o X, w6 cA a M] : List va_W).flatten H) (hD : va_D (old s) ([wX cA o X, w6 cA a M] : List va_W).flatten) (hS : va_S (old s) s.heap H locs) (hl : lv_has ls 4 [(3, .int (nI n)), (2, .ref (a 0)), (1, .ref (o 0 0)), (0, .ref b)]) (kk : ∀ (H : Heap) (locs : List Loc) (ls : Array Slot), va_P D vwCl ([wX cA o rX.2, w6 cA a rM.2] : List va_W).flatten H → va_D (old s) ([wX cA o rX.2, w6 cA a rM.2] : List va_W).flatten → va_S (old s) s.heap H locs → lv_has ls 4 [(3, .int (nI n)), (2, .ref (a 0)), (1, .ref (o 0 0)), (0, .ref b)] → W p l e room_1 s m #[Value.ref b] below meth c H locs cells slots Q (F0 m 1194 ls [])) : W p l e room_1 s m #[Value.ref b] below meth c H locs cells slots Q (F0 m 482 ls []) := by
  obtain ⟨hx, hb, hml, hown, hts, hr, hlk, hKK⟩ := id Z
  have hbA : ¬ old s b := Nat.not_le.mpr hbl
  refine lv_aload_n hx hb dL_law_482 rfl (lv_at hl 2 rfl) ?_
  refine lv_aload_n hx hb dL_law_483 rfl (lv_at hl 3 rfl) ?_
  refine lv_iload_n hx hb dL_law_484 rfl (lv_at hl 0 rfl) ?_
  refine lv_iconst (v := 1) hx hb dL_law_485 (by decide) ?_
  refine lv_iadd hx hb dL_law_486 ?_
  refine va_sld hx hb hX hbl hbA hS (sc_in (k := 1) (by omega) hL) dL_law_487 ?_
  refine lv_eqi (y := sc xs n 1) (scq_eq xs (by omega)) ?_
  refine lv_aload_n hx hb dL_law_488 rfl (lv_at hl 3 rfl) ?_
  refine lv_iload_n hx hb dL_law_489 rfl (lv_at hl 0 rfl) ?_
  refine lv_iconst (v := 2) hx hb dL_law_490 (by decide) ?_
  refine lv_iadd hx hb dL_law_491 ?_
  refine va_sld hx hb hX hbl hbA hS (sc_in (k := 2) (by omega) hL) dL_law_492 ?_
  refine lv_eqi (y := sc xs n 2) (scq_eq xs (by omega)) ?_
  refine kV (rest := []) (st1 := [.int rX.1]) (cr := [w6 cA a M]) (cs' := [wX cA o rX.2, w6 cA a M]) Z (cw_X5_ahead l D cA o X (sc xs n 1) (sc xs n 2) rX h1) 2 gL_law_X5_ahead rfl hdX5_ahead ⟨rfl, rfl⟩ ⟨Nat.le_of_ble_eq_true rfl, Nat.le_of_ble_eq_true rfl⟩ hcs hP hD hS hl.1 rfl rfl rfl (Nat.le_of_ble_eq_true rfl) 5 rfl rfl rfl [0] [1] [1, 0] rfl rfl rfl rfl rfl dL_law_493 (fun H locs hP hD hS => ?_)
  refine lv_pop hx hb dL_law_496 rfl ?_
  refine lv_aload_n hx hb dL_law_497 rfl (lv_at hl 1 rfl) ?_
  refine lv_aload_n hx hb dL_law_498 rfl (lv_at hl 3 rfl) ?_
  refine lv_iload_n hx hb dL_law_499 rfl (lv_at hl 0 rfl) ?_
  refine lv_iconst (v := 1) hx hb dL_law_500 (by decide) ?_
  refine lv_iadd hx hb dL_law_501 ?_
  refine va_sld hx hb hX hbl hbA hS (sc_in (k := 1) (by omega) hL) dL_law_502 ?_
  refine lv_eqi (y := sc xs n 1) (scq_eq xs (by omega)) ?_
  refine lv_aload_n hx hb dL_law_503 rfl (lv_at hl 3 rfl) ?_
  refine lv_iload_n hx hb dL_law_504 rfl (lv_at hl 0 rfl) ?_
  refine lv_iconst (v := 2) hx hb dL_law_505 (by decide) ?_
  refine lv_iadd hx hb dL_law_506 ?_
  refine va_sld hx hb hX hbl hbA hS (sc_in (k := 2) (by omega) hL) dL_law_507 ?_
  refine lv_eqi (y := sc xs n 2) (scq_eq xs (by omega)) ?_
  refine kV (rest := []) (st1 := [.int rM.1]) (cr := [wX cA o rX.2]) (cs' := [wX cA o rX.2, w6 cA a rM.2]) Z (c_X6_ahead l D cA a M (sc xs n 1) (sc xs n 2) rM h2) 2 gL_law_X6_ahead rfl hdX6_ahead ⟨rfl, rfl⟩ ⟨Nat.le_of_ble_eq_true rfl, Nat.le_of_ble_eq_true rfl⟩ hcs hP hD hS hl.1 rfl rfl rfl (Nat.le_of_ble_eq_true rfl) 6 rfl rfl rfl [1] [0] [0, 1] rfl rfl rfl rfl rfl dL_law_508 (fun H locs hP hD hS => ?_)
  refine lv_pop hx hb dL_law_511 rfl ?_
  refine lv_goto (tgt := 1194) hx hb dL_law_512 (by decide) ?_
  exact kk _ _ _ hP hD hS hl
set_option maxHeartbeats 4000000 in
set_option maxRecDepth 100000 in
theorem lawc_13 {p : Program} {l : Launch} {e : Env} {s : State} {m : MethodId} {below : List Frame} {meth : Method} {c : Code} {D : va_G} {cA : Nat → ClassId} {o : Nat → Nat → Nat} {a : Nat → Nat} {b L : Nat} {xs : Nat → Int32} {Q : State → Prop} {cells slots : Nat} (Z : Cx p s m #[Value.ref b] meth c cL_law 4 (some .boolean) wsL_law RL D cA) (hX : va_X b L xs s s.heap) (hbl : b < s.heap.size) (n : Nat) (hn : n + 7 ≤ L) (hL : L ≤ 448) (hcs : cells ≤ room_1.cells ∧ slots ≤ room_1.slots) (X : SX) (M : St6) (rX : Int32 × SX) (rM : Int32 × St6) (h1 : FX_then X (sc xs n 1) = some rX) (h2 : f_X6_then M (sc xs n 1) = some rM) (H : Heap) (locs : List Loc) (ls : Array Slot) (hP : va_P D vwCl ([wX cA o X, w6 cA a M] : List va_W).flatten H) (hD : va_D (old s) ([wX cA o X, w6 cA a M] : List va_W).flatten) (hS : va_S (old s) s.heap H locs) (hl : lv_has ls 4 [(3, .int (nI n)), (2, .ref (a 0)), (1, .ref (o 0 0)), (0, .ref b)]) (kk : ∀ (H : Heap) (locs : List Loc) (ls : Array Slot), va_P D vwCl ([wX cA o rX.2, w6 cA a rM.2] : List va_W).flatten H → va_D (old s) ([wX cA o rX.2, w6 cA a rM.2] : List va_W).flatten → va_S (old s) s.heap H locs → lv_has ls 4 [(3, .int (nI n)), (2, .ref (a 0)), (1, .ref (o 0 0)), (0, .ref b)] → W p l e room_1 s m #[Value.ref b] below meth c H locs cells slots Q (F0 m 1194 ls [])) : W p l e room_1 s m #[Value.ref b] below meth c H locs cells slots Q (F0 m 515 ls []) := by
  obtain ⟨hx, hb, hml, hown, hts, hr, hlk, hKK⟩ := id Z
  have hbA : ¬ old s b := Nat.not_le.mpr hbl
  refine lv_aload_n hx hb dL_law_515 rfl (lv_at hl 2 rfl) ?_
  refine lv_aload_n hx hb dL_law_516 rfl (lv_at hl 3 rfl) ?_
  refine lv_iload_n hx hb dL_law_517 rfl (lv_at hl 0 rfl) ?_
  refine lv_iconst (v := 1) hx hb dL_law_518 (by decide) ?_
  refine lv_iadd hx hb dL_law_519 ?_
  refine va_sld hx hb hX hbl hbA hS (sc_in (k := 1) (by omega) hL) dL_law_520 ?_
  refine lv_eqi (y := sc xs n 1) (scq_eq xs (by omega)) ?_
  refine kV (rest := []) (st1 := [.int rX.1]) (cr := [w6 cA a M]) (cs' := [wX cA o rX.2, w6 cA a M]) Z (cw_X5_then l D cA o X (sc xs n 1) rX h1) 1 gL_law_X5_then rfl hdX5_then ⟨rfl, rfl⟩ ⟨Nat.le_of_ble_eq_true rfl, Nat.le_of_ble_eq_true rfl⟩ hcs hP hD hS hl.1 rfl rfl rfl (Nat.le_of_ble_eq_true rfl) 5 rfl rfl rfl [0] [1] [1, 0] rfl rfl rfl rfl rfl dL_law_521 (fun H locs hP hD hS => ?_)
  refine lv_pop hx hb dL_law_524 rfl ?_
  refine lv_aload_n hx hb dL_law_525 rfl (lv_at hl 1 rfl) ?_
  refine lv_aload_n hx hb dL_law_526 rfl (lv_at hl 3 rfl) ?_
  refine lv_iload_n hx hb dL_law_527 rfl (lv_at hl 0 rfl) ?_
  refine lv_iconst (v := 1) hx hb dL_law_528 (by decide) ?_
  refine lv_iadd hx hb dL_law_529 ?_
  refine va_sld hx hb hX hbl hbA hS (sc_in (k := 1) (by omega) hL) dL_law_530 ?_
  refine lv_eqi (y := sc xs n 1) (scq_eq xs (by omega)) ?_
  refine kV (rest := []) (st1 := [.int rM.1]) (cr := [wX cA o rX.2]) (cs' := [wX cA o rX.2, w6 cA a rM.2]) Z (c_X6_then l D cA a M (sc xs n 1) rM h2) 1 gL_law_X6_then rfl hdX6_then ⟨rfl, rfl⟩ ⟨Nat.le_of_ble_eq_true rfl, Nat.le_of_ble_eq_true rfl⟩ hcs hP hD hS hl.1 rfl rfl rfl (Nat.le_of_ble_eq_true rfl) 6 rfl rfl rfl [1] [0] [0, 1] rfl rfl rfl rfl rfl dL_law_531 (fun H locs hP hD hS => ?_)
  refine lv_pop hx hb dL_law_534 rfl ?_
  refine lv_goto (tgt := 1194) hx hb dL_law_535 (by decide) ?_
  exact kk _ _ _ hP hD hS hl
set_option maxHeartbeats 4000000 in
set_option maxRecDepth 100000 in
theorem lawc_14 {p : Program} {l : Launch} {e : Env} {s : State} {m : MethodId} {below : List Frame} {meth : Method} {c : Code} {D : va_G} {cA : Nat → ClassId} {o : Nat → Nat → Nat} {a : Nat → Nat} {b L : Nat} {xs : Nat → Int32} {Q : State → Prop} {cells slots : Nat} (Z : Cx p s m #[Value.ref b] meth c cL_law 4 (some .boolean) wsL_law RL D cA) (hX : va_X b L xs s s.heap) (hbl : b < s.heap.size) (n : Nat) (hn : n + 7 ≤ L) (hL : L ≤ 448) (hcs : cells ≤ room_1.cells ∧ slots ≤ room_1.slots) (X : SX) (M : St6) (rX : Int32 × SX) (rM : Int32 × St6) (h1 : FX_stops X (sc xs n 1) = some rX) (h2 : f_X6_stops M (sc xs n 1) = some rM) (H : Heap) (locs : List Loc) (ls : Array Slot) (hP : va_P D vwCl ([wX cA o X, w6 cA a M] : List va_W).flatten H) (hD : va_D (old s) ([wX cA o X, w6 cA a M] : List va_W).flatten) (hS : va_S (old s) s.heap H locs) (hl : lv_has ls 4 [(3, .int (nI n)), (2, .ref (a 0)), (1, .ref (o 0 0)), (0, .ref b)]) (kk : ∀ (H : Heap) (locs : List Loc) (ls : Array Slot), va_P D vwCl ([wX cA o rX.2, w6 cA a rM.2] : List va_W).flatten H → va_D (old s) ([wX cA o rX.2, w6 cA a rM.2] : List va_W).flatten → va_S (old s) s.heap H locs → lv_has ls 4 [(3, .int (nI n)), (2, .ref (a 0)), (1, .ref (o 0 0)), (0, .ref b)] → W p l e room_1 s m #[Value.ref b] below meth c H locs cells slots Q (F0 m 1194 ls [])) : W p l e room_1 s m #[Value.ref b] below meth c H locs cells slots Q (F0 m 538 ls []) := by
  obtain ⟨hx, hb, hml, hown, hts, hr, hlk, hKK⟩ := id Z
  have hbA : ¬ old s b := Nat.not_le.mpr hbl
  refine lv_aload_n hx hb dL_law_538 rfl (lv_at hl 2 rfl) ?_
  refine lv_aload_n hx hb dL_law_539 rfl (lv_at hl 3 rfl) ?_
  refine lv_iload_n hx hb dL_law_540 rfl (lv_at hl 0 rfl) ?_
  refine lv_iconst (v := 1) hx hb dL_law_541 (by decide) ?_
  refine lv_iadd hx hb dL_law_542 ?_
  refine va_sld hx hb hX hbl hbA hS (sc_in (k := 1) (by omega) hL) dL_law_543 ?_
  refine lv_eqi (y := sc xs n 1) (scq_eq xs (by omega)) ?_
  refine kV (rest := []) (st1 := [.int rX.1]) (cr := [w6 cA a M]) (cs' := [wX cA o rX.2, w6 cA a M]) Z (cw_X5_stops l D cA o X (sc xs n 1) rX h1) 1 gL_law_X5_stops rfl hdX5_stops ⟨rfl, rfl⟩ ⟨Nat.le_of_ble_eq_true rfl, Nat.le_of_ble_eq_true rfl⟩ hcs hP hD hS hl.1 rfl rfl rfl (Nat.le_of_ble_eq_true rfl) 5 rfl rfl rfl [0] [1] [1, 0] rfl rfl rfl rfl rfl dL_law_544 (fun H locs hP hD hS => ?_)
  refine lv_pop hx hb dL_law_547 rfl ?_
  refine lv_aload_n hx hb dL_law_548 rfl (lv_at hl 1 rfl) ?_
  refine lv_aload_n hx hb dL_law_549 rfl (lv_at hl 3 rfl) ?_
  refine lv_iload_n hx hb dL_law_550 rfl (lv_at hl 0 rfl) ?_
  refine lv_iconst (v := 1) hx hb dL_law_551 (by decide) ?_
  refine lv_iadd hx hb dL_law_552 ?_
  refine va_sld hx hb hX hbl hbA hS (sc_in (k := 1) (by omega) hL) dL_law_553 ?_
  refine lv_eqi (y := sc xs n 1) (scq_eq xs (by omega)) ?_
  refine kV (rest := []) (st1 := [.int rM.1]) (cr := [wX cA o rX.2]) (cs' := [wX cA o rX.2, w6 cA a rM.2]) Z (c_X6_stops l D cA a M (sc xs n 1) rM h2) 1 gL_law_X6_stops rfl hdX6_stops ⟨rfl, rfl⟩ ⟨Nat.le_of_ble_eq_true rfl, Nat.le_of_ble_eq_true rfl⟩ hcs hP hD hS hl.1 rfl rfl rfl (Nat.le_of_ble_eq_true rfl) 6 rfl rfl rfl [1] [0] [0, 1] rfl rfl rfl rfl rfl dL_law_554 (fun H locs hP hD hS => ?_)
  refine lv_pop hx hb dL_law_557 rfl ?_
  refine lv_goto (tgt := 1194) hx hb dL_law_558 (by decide) ?_
  exact kk _ _ _ hP hD hS hl
set_option maxHeartbeats 4000000 in
set_option maxRecDepth 100000 in
theorem lawc_15 {p : Program} {l : Launch} {e : Env} {s : State} {m : MethodId} {below : List Frame} {meth : Method} {c : Code} {D : va_G} {cA : Nat → ClassId} {o : Nat → Nat → Nat} {a : Nat → Nat} {b L : Nat} {xs : Nat → Int32} {Q : State → Prop} {cells slots : Nat} (Z : Cx p s m #[Value.ref b] meth c cL_law 4 (some .boolean) wsL_law RL D cA) (hX : va_X b L xs s s.heap) (hbl : b < s.heap.size) (n : Nat) (hn : n + 7 ≤ L) (hL : L ≤ 448) (hcs : cells ≤ room_1.cells ∧ slots ≤ room_1.slots) (X : SX) (M : St6) (rX : Int32 × SX) (rM : Int32 × St6) (h1 : FX_all X  = some rX) (h2 : f_X6_all M  = some rM) (H : Heap) (locs : List Loc) (ls : Array Slot) (hP : va_P D vwCl ([wX cA o X, w6 cA a M] : List va_W).flatten H) (hD : va_D (old s) ([wX cA o X, w6 cA a M] : List va_W).flatten) (hS : va_S (old s) s.heap H locs) (hl : lv_has ls 4 [(3, .int (nI n)), (2, .ref (a 0)), (1, .ref (o 0 0)), (0, .ref b)]) (kk : ∀ (H : Heap) (locs : List Loc) (ls : Array Slot), va_P D vwCl ([wX cA o rX.2, w6 cA a rM.2] : List va_W).flatten H → va_D (old s) ([wX cA o rX.2, w6 cA a rM.2] : List va_W).flatten → va_S (old s) s.heap H locs → lv_has ls 4 [(3, .int (nI n)), (2, .ref (a 0)), (1, .ref (o 0 0)), (0, .ref b)] → W p l e room_1 s m #[Value.ref b] below meth c H locs cells slots Q (F0 m 1194 ls [])) : W p l e room_1 s m #[Value.ref b] below meth c H locs cells slots Q (F0 m 561 ls []) := by
  obtain ⟨hx, hb, hml, hown, hts, hr, hlk, hKK⟩ := id Z
  have hbA : ¬ old s b := Nat.not_le.mpr hbl
  refine lv_aload_n hx hb dL_law_561 rfl (lv_at hl 2 rfl) ?_
  refine kV (rest := []) (st1 := [.int rX.1]) (cr := [w6 cA a M]) (cs' := [wX cA o rX.2, w6 cA a M]) Z (cw_X5_all l D cA o X  rX h1) 0 gL_law_X5_all rfl hdX5_all ⟨rfl, rfl⟩ ⟨Nat.le_of_ble_eq_true rfl, Nat.le_of_ble_eq_true rfl⟩ hcs hP hD hS hl.1 rfl rfl rfl (Nat.le_of_ble_eq_true rfl) 5 rfl rfl rfl [0] [1] [1, 0] rfl rfl rfl rfl rfl dL_law_562 (fun H locs hP hD hS => ?_)
  refine lv_pop hx hb dL_law_565 rfl ?_
  refine lv_aload_n hx hb dL_law_566 rfl (lv_at hl 1 rfl) ?_
  refine kV (rest := []) (st1 := [.int rM.1]) (cr := [wX cA o rX.2]) (cs' := [wX cA o rX.2, w6 cA a rM.2]) Z (c_X6_all l D cA a M  rM h2) 0 gL_law_X6_all rfl hdX6_all ⟨rfl, rfl⟩ ⟨Nat.le_of_ble_eq_true rfl, Nat.le_of_ble_eq_true rfl⟩ hcs hP hD hS hl.1 rfl rfl rfl (Nat.le_of_ble_eq_true rfl) 6 rfl rfl rfl [1] [0] [0, 1] rfl rfl rfl rfl rfl dL_law_567 (fun H locs hP hD hS => ?_)
  refine lv_pop hx hb dL_law_570 rfl ?_
  refine lv_goto (tgt := 1194) hx hb dL_law_571 (by decide) ?_
  exact kk _ _ _ hP hD hS hl
set_option maxHeartbeats 4000000 in
set_option maxRecDepth 100000 in
theorem lawc_16 {p : Program} {l : Launch} {e : Env} {s : State} {m : MethodId} {below : List Frame} {meth : Method} {c : Code} {D : va_G} {cA : Nat → ClassId} {o : Nat → Nat → Nat} {a : Nat → Nat} {b L : Nat} {xs : Nat → Int32} {Q : State → Prop} {cells slots : Nat} (Z : Cx p s m #[Value.ref b] meth c cL_law 4 (some .boolean) wsL_law RL D cA) (hX : va_X b L xs s s.heap) (hbl : b < s.heap.size) (n : Nat) (hn : n + 7 ≤ L) (hL : L ≤ 448) (hcs : cells ≤ room_1.cells ∧ slots ≤ room_1.slots) (X : SX) (M : St6) (rX : Int32 × SX) (rM : Int32 × St6) (h1 : FX_ever X  = some rX) (h2 : f_X6_ever M  = some rM) (H : Heap) (locs : List Loc) (ls : Array Slot) (hP : va_P D vwCl ([wX cA o X, w6 cA a M] : List va_W).flatten H) (hD : va_D (old s) ([wX cA o X, w6 cA a M] : List va_W).flatten) (hS : va_S (old s) s.heap H locs) (hl : lv_has ls 4 [(3, .int (nI n)), (2, .ref (a 0)), (1, .ref (o 0 0)), (0, .ref b)]) (kk : ∀ (H : Heap) (locs : List Loc) (ls : Array Slot), va_P D vwCl ([wX cA o rX.2, w6 cA a rM.2] : List va_W).flatten H → va_D (old s) ([wX cA o rX.2, w6 cA a rM.2] : List va_W).flatten → va_S (old s) s.heap H locs → lv_has ls 4 [(3, .int (nI n)), (2, .ref (a 0)), (1, .ref (o 0 0)), (0, .ref b)] → W p l e room_1 s m #[Value.ref b] below meth c H locs cells slots Q (F0 m 1194 ls [])) : W p l e room_1 s m #[Value.ref b] below meth c H locs cells slots Q (F0 m 574 ls []) := by
  obtain ⟨hx, hb, hml, hown, hts, hr, hlk, hKK⟩ := id Z
  have hbA : ¬ old s b := Nat.not_le.mpr hbl
  refine lv_aload_n hx hb dL_law_574 rfl (lv_at hl 2 rfl) ?_
  refine kV (rest := []) (st1 := [.int rX.1]) (cr := [w6 cA a M]) (cs' := [wX cA o rX.2, w6 cA a M]) Z (cw_X5_ever l D cA o X  rX h1) 0 gL_law_X5_ever rfl hdX5_ever ⟨rfl, rfl⟩ ⟨Nat.le_of_ble_eq_true rfl, Nat.le_of_ble_eq_true rfl⟩ hcs hP hD hS hl.1 rfl rfl rfl (Nat.le_of_ble_eq_true rfl) 5 rfl rfl rfl [0] [1] [1, 0] rfl rfl rfl rfl rfl dL_law_575 (fun H locs hP hD hS => ?_)
  refine lv_pop hx hb dL_law_578 rfl ?_
  refine lv_aload_n hx hb dL_law_579 rfl (lv_at hl 1 rfl) ?_
  refine kV (rest := []) (st1 := [.int rM.1]) (cr := [wX cA o rX.2]) (cs' := [wX cA o rX.2, w6 cA a rM.2]) Z (c_X6_ever l D cA a M  rM h2) 0 gL_law_X6_ever rfl hdX6_ever ⟨rfl, rfl⟩ ⟨Nat.le_of_ble_eq_true rfl, Nat.le_of_ble_eq_true rfl⟩ hcs hP hD hS hl.1 rfl rfl rfl (Nat.le_of_ble_eq_true rfl) 6 rfl rfl rfl [1] [0] [0, 1] rfl rfl rfl rfl rfl dL_law_580 (fun H locs hP hD hS => ?_)
  refine lv_pop hx hb dL_law_583 rfl ?_
  refine lv_goto (tgt := 1194) hx hb dL_law_584 (by decide) ?_
  exact kk _ _ _ hP hD hS hl
set_option maxHeartbeats 4000000 in
set_option maxRecDepth 100000 in
theorem lawc_17 {p : Program} {l : Launch} {e : Env} {s : State} {m : MethodId} {below : List Frame} {meth : Method} {c : Code} {D : va_G} {cA : Nat → ClassId} {o : Nat → Nat → Nat} {a : Nat → Nat} {b L : Nat} {xs : Nat → Int32} {Q : State → Prop} {cells slots : Nat} (Z : Cx p s m #[Value.ref b] meth c cL_law 4 (some .boolean) wsL_law RL D cA) (hX : va_X b L xs s s.heap) (hbl : b < s.heap.size) (n : Nat) (hn : n + 7 ≤ L) (hL : L ≤ 448) (hcs : cells ≤ room_1.cells ∧ slots ≤ room_1.slots) (X : SX) (M : St6) (rX : Int32 × SX) (rM : Int32) (h1 : FX_chain X (sc xs n 1) (sc xs n 2) = some rX) (h2 : f_X6_chain M (sc xs n 1) (sc xs n 2) = some rM) (H : Heap) (locs : List Loc) (ls : Array Slot) (hP : va_P D vwCl ([wX cA o X, w6 cA a M] : List va_W).flatten H) (hD : va_D (old s) ([wX cA o X, w6 cA a M] : List va_W).flatten) (hS : va_S (old s) s.heap H locs) (hl : lv_has ls 4 [(3, .int (nI n)), (2, .ref (a 0)), (1, .ref (o 0 0)), (0, .ref b)]) (kk : ∀ (H : Heap) (locs : List Loc) (ls : Array Slot), va_P D vwCl ([wX cA o rX.2, w6 cA a M] : List va_W).flatten H → va_D (old s) ([wX cA o rX.2, w6 cA a M] : List va_W).flatten → va_S (old s) s.heap H locs → lv_has ls 4 [(3, .int (nI n)), (2, .ref (a 0)), (1, .ref (o 0 0)), (0, .ref b)] → W p l e room_1 s m #[Value.ref b] below meth c H locs cells slots Q (F0 m 1194 ls [])) : W p l e room_1 s m #[Value.ref b] below meth c H locs cells slots Q (F0 m 587 ls []) := by
  obtain ⟨hx, hb, hml, hown, hts, hr, hlk, hKK⟩ := id Z
  have hbA : ¬ old s b := Nat.not_le.mpr hbl
  refine lv_aload_n hx hb dL_law_587 rfl (lv_at hl 2 rfl) ?_
  refine lv_aload_n hx hb dL_law_588 rfl (lv_at hl 3 rfl) ?_
  refine lv_iload_n hx hb dL_law_589 rfl (lv_at hl 0 rfl) ?_
  refine lv_iconst (v := 1) hx hb dL_law_590 (by decide) ?_
  refine lv_iadd hx hb dL_law_591 ?_
  refine va_sld hx hb hX hbl hbA hS (sc_in (k := 1) (by omega) hL) dL_law_592 ?_
  refine lv_eqi (y := sc xs n 1) (scq_eq xs (by omega)) ?_
  refine lv_aload_n hx hb dL_law_593 rfl (lv_at hl 3 rfl) ?_
  refine lv_iload_n hx hb dL_law_594 rfl (lv_at hl 0 rfl) ?_
  refine lv_iconst (v := 2) hx hb dL_law_595 (by decide) ?_
  refine lv_iadd hx hb dL_law_596 ?_
  refine va_sld hx hb hX hbl hbA hS (sc_in (k := 2) (by omega) hL) dL_law_597 ?_
  refine lv_eqi (y := sc xs n 2) (scq_eq xs (by omega)) ?_
  refine kV (rest := []) (st1 := [.int rX.1]) (cr := [w6 cA a M]) (cs' := [wX cA o rX.2, w6 cA a M]) Z (cw_X5_chain l D cA o X (sc xs n 1) (sc xs n 2) rX h1) 2 gL_law_X5_chain rfl hdX5_chain ⟨rfl, rfl⟩ ⟨Nat.le_of_ble_eq_true rfl, Nat.le_of_ble_eq_true rfl⟩ hcs hP hD hS hl.1 rfl rfl rfl (Nat.le_of_ble_eq_true rfl) 5 rfl rfl rfl [0] [1] [1, 0] rfl rfl rfl rfl rfl dL_law_598 (fun H locs hP hD hS => ?_)
  refine lv_pop hx hb dL_law_601 rfl ?_
  refine lv_aload_n hx hb dL_law_602 rfl (lv_at hl 1 rfl) ?_
  refine lv_aload_n hx hb dL_law_603 rfl (lv_at hl 3 rfl) ?_
  refine lv_iload_n hx hb dL_law_604 rfl (lv_at hl 0 rfl) ?_
  refine lv_iconst (v := 1) hx hb dL_law_605 (by decide) ?_
  refine lv_iadd hx hb dL_law_606 ?_
  refine va_sld hx hb hX hbl hbA hS (sc_in (k := 1) (by omega) hL) dL_law_607 ?_
  refine lv_eqi (y := sc xs n 1) (scq_eq xs (by omega)) ?_
  refine lv_aload_n hx hb dL_law_608 rfl (lv_at hl 3 rfl) ?_
  refine lv_iload_n hx hb dL_law_609 rfl (lv_at hl 0 rfl) ?_
  refine lv_iconst (v := 2) hx hb dL_law_610 (by decide) ?_
  refine lv_iadd hx hb dL_law_611 ?_
  refine va_sld hx hb hX hbl hbA hS (sc_in (k := 2) (by omega) hL) dL_law_612 ?_
  refine lv_eqi (y := sc xs n 2) (scq_eq xs (by omega)) ?_
  refine kV (rest := []) (st1 := [.int rM]) (cr := [wX cA o rX.2]) (cs' := [wX cA o rX.2, w6 cA a M]) Z (c_X6_chain l D cA a M (sc xs n 1) (sc xs n 2) rM h2) 2 gL_law_X6_chain rfl hdX6_chain ⟨rfl, rfl⟩ ⟨Nat.le_of_ble_eq_true rfl, Nat.le_of_ble_eq_true rfl⟩ hcs hP hD hS hl.1 rfl rfl rfl (Nat.le_of_ble_eq_true rfl) 6 rfl rfl rfl [1] [0] [0, 1] rfl rfl rfl rfl rfl dL_law_613 (fun H locs hP hD hS => ?_)
  refine lv_pop hx hb dL_law_616 rfl ?_
  refine lv_goto (tgt := 1194) hx hb dL_law_617 (by decide) ?_
  exact kk _ _ _ hP hD hS hl
set_option maxHeartbeats 4000000 in
set_option maxRecDepth 100000 in
theorem lawc_18 {p : Program} {l : Launch} {e : Env} {s : State} {m : MethodId} {below : List Frame} {meth : Method} {c : Code} {D : va_G} {cA : Nat → ClassId} {o : Nat → Nat → Nat} {a : Nat → Nat} {b L : Nat} {xs : Nat → Int32} {Q : State → Prop} {cells slots : Nat} (Z : Cx p s m #[Value.ref b] meth c cL_law 4 (some .boolean) wsL_law RL D cA) (hX : va_X b L xs s s.heap) (hbl : b < s.heap.size) (n : Nat) (hn : n + 7 ≤ L) (hL : L ≤ 448) (hcs : cells ≤ room_1.cells ∧ slots ≤ room_1.slots) (X : SX) (M : St6) (rX : Int32 × SX) (rM : Int32 × St6) (h1 : FX_lends X (sc xs n 1) (sc xs n 2) (sc xs n 3) = some rX) (h2 : f_X6_lends M (sc xs n 1) (sc xs n 2) (sc xs n 3) = some rM) (H : Heap) (locs : List Loc) (ls : Array Slot) (hP : va_P D vwCl ([wX cA o X, w6 cA a M] : List va_W).flatten H) (hD : va_D (old s) ([wX cA o X, w6 cA a M] : List va_W).flatten) (hS : va_S (old s) s.heap H locs) (hl : lv_has ls 4 [(3, .int (nI n)), (2, .ref (a 0)), (1, .ref (o 0 0)), (0, .ref b)]) (kk : ∀ (H : Heap) (locs : List Loc) (ls : Array Slot), va_P D vwCl ([wX cA o rX.2, w6 cA a rM.2] : List va_W).flatten H → va_D (old s) ([wX cA o rX.2, w6 cA a rM.2] : List va_W).flatten → va_S (old s) s.heap H locs → lv_has ls 4 [(3, .int (nI n)), (2, .ref (a 0)), (1, .ref (o 0 0)), (0, .ref b)] → W p l e room_1 s m #[Value.ref b] below meth c H locs cells slots Q (F0 m 1194 ls [])) : W p l e room_1 s m #[Value.ref b] below meth c H locs cells slots Q (F0 m 620 ls []) := by
  obtain ⟨hx, hb, hml, hown, hts, hr, hlk, hKK⟩ := id Z
  have hbA : ¬ old s b := Nat.not_le.mpr hbl
  refine lv_aload_n hx hb dL_law_620 rfl (lv_at hl 2 rfl) ?_
  refine lv_aload_n hx hb dL_law_621 rfl (lv_at hl 3 rfl) ?_
  refine lv_iload_n hx hb dL_law_622 rfl (lv_at hl 0 rfl) ?_
  refine lv_iconst (v := 1) hx hb dL_law_623 (by decide) ?_
  refine lv_iadd hx hb dL_law_624 ?_
  refine va_sld hx hb hX hbl hbA hS (sc_in (k := 1) (by omega) hL) dL_law_625 ?_
  refine lv_eqi (y := sc xs n 1) (scq_eq xs (by omega)) ?_
  refine lv_aload_n hx hb dL_law_626 rfl (lv_at hl 3 rfl) ?_
  refine lv_iload_n hx hb dL_law_627 rfl (lv_at hl 0 rfl) ?_
  refine lv_iconst (v := 2) hx hb dL_law_628 (by decide) ?_
  refine lv_iadd hx hb dL_law_629 ?_
  refine va_sld hx hb hX hbl hbA hS (sc_in (k := 2) (by omega) hL) dL_law_630 ?_
  refine lv_eqi (y := sc xs n 2) (scq_eq xs (by omega)) ?_
  refine lv_aload_n hx hb dL_law_631 rfl (lv_at hl 3 rfl) ?_
  refine lv_iload_n hx hb dL_law_632 rfl (lv_at hl 0 rfl) ?_
  refine lv_iconst (v := 3) hx hb dL_law_633 (by decide) ?_
  refine lv_iadd hx hb dL_law_634 ?_
  refine va_sld hx hb hX hbl hbA hS (sc_in (k := 3) (by omega) hL) dL_law_635 ?_
  refine lv_eqi (y := sc xs n 3) (scq_eq xs (by omega)) ?_
  refine kV (rest := []) (st1 := [.int rX.1]) (cr := [w6 cA a M]) (cs' := [wX cA o rX.2, w6 cA a M]) Z (cw_X5_lends l D cA o X (sc xs n 1) (sc xs n 2) (sc xs n 3) rX h1) 3 gL_law_X5_lends rfl hdX5_lends ⟨rfl, rfl⟩ ⟨Nat.le_of_ble_eq_true rfl, Nat.le_of_ble_eq_true rfl⟩ hcs hP hD hS hl.1 rfl rfl rfl (Nat.le_of_ble_eq_true rfl) 5 rfl rfl rfl [0] [1] [1, 0] rfl rfl rfl rfl rfl dL_law_636 (fun H locs hP hD hS => ?_)
  refine lv_pop hx hb dL_law_639 rfl ?_
  refine lv_aload_n hx hb dL_law_640 rfl (lv_at hl 1 rfl) ?_
  refine lv_aload_n hx hb dL_law_641 rfl (lv_at hl 3 rfl) ?_
  refine lv_iload_n hx hb dL_law_642 rfl (lv_at hl 0 rfl) ?_
  refine lv_iconst (v := 1) hx hb dL_law_643 (by decide) ?_
  refine lv_iadd hx hb dL_law_644 ?_
  refine va_sld hx hb hX hbl hbA hS (sc_in (k := 1) (by omega) hL) dL_law_645 ?_
  refine lv_eqi (y := sc xs n 1) (scq_eq xs (by omega)) ?_
  refine lv_aload_n hx hb dL_law_646 rfl (lv_at hl 3 rfl) ?_
  refine lv_iload_n hx hb dL_law_647 rfl (lv_at hl 0 rfl) ?_
  refine lv_iconst (v := 2) hx hb dL_law_648 (by decide) ?_
  refine lv_iadd hx hb dL_law_649 ?_
  refine va_sld hx hb hX hbl hbA hS (sc_in (k := 2) (by omega) hL) dL_law_650 ?_
  refine lv_eqi (y := sc xs n 2) (scq_eq xs (by omega)) ?_
  refine lv_aload_n hx hb dL_law_651 rfl (lv_at hl 3 rfl) ?_
  refine lv_iload_n hx hb dL_law_652 rfl (lv_at hl 0 rfl) ?_
  refine lv_iconst (v := 3) hx hb dL_law_653 (by decide) ?_
  refine lv_iadd hx hb dL_law_654 ?_
  refine va_sld hx hb hX hbl hbA hS (sc_in (k := 3) (by omega) hL) dL_law_655 ?_
  refine lv_eqi (y := sc xs n 3) (scq_eq xs (by omega)) ?_
  refine kV (rest := []) (st1 := [.int rM.1]) (cr := [wX cA o rX.2]) (cs' := [wX cA o rX.2, w6 cA a rM.2]) Z (c_X6_lends l D cA a M (sc xs n 1) (sc xs n 2) (sc xs n 3) rM h2) 3 gL_law_X6_lends rfl hdX6_lends ⟨rfl, rfl⟩ ⟨Nat.le_of_ble_eq_true rfl, Nat.le_of_ble_eq_true rfl⟩ hcs hP hD hS hl.1 rfl rfl rfl (Nat.le_of_ble_eq_true rfl) 6 rfl rfl rfl [1] [0] [0, 1] rfl rfl rfl rfl rfl dL_law_656 (fun H locs hP hD hS => ?_)
  refine lv_pop hx hb dL_law_659 rfl ?_
  refine lv_goto (tgt := 1194) hx hb dL_law_660 (by decide) ?_
  exact kk _ _ _ hP hD hS hl
set_option maxHeartbeats 4000000 in
set_option maxRecDepth 100000 in
theorem lawc_19 {p : Program} {l : Launch} {e : Env} {s : State} {m : MethodId} {below : List Frame} {meth : Method} {c : Code} {D : va_G} {cA : Nat → ClassId} {o : Nat → Nat → Nat} {a : Nat → Nat} {b L : Nat} {xs : Nat → Int32} {Q : State → Prop} {cells slots : Nat} (Z : Cx p s m #[Value.ref b] meth c cL_law 4 (some .boolean) wsL_law RL D cA) (hX : va_X b L xs s s.heap) (hbl : b < s.heap.size) (n : Nat) (hn : n + 7 ≤ L) (hL : L ≤ 448) (hcs : cells ≤ room_1.cells ∧ slots ≤ room_1.slots) (X : SX) (M : St6) (rX : Int32 × SX) (rM : Int32 × St6) (h1 : FX_instead X (sc xs n 1) (sc xs n 2) (sc xs n 3) = some rX) (h2 : f_X6_instead M (sc xs n 1) (sc xs n 2) (sc xs n 3) = some rM) (H : Heap) (locs : List Loc) (ls : Array Slot) (hP : va_P D vwCl ([wX cA o X, w6 cA a M] : List va_W).flatten H) (hD : va_D (old s) ([wX cA o X, w6 cA a M] : List va_W).flatten) (hS : va_S (old s) s.heap H locs) (hl : lv_has ls 4 [(3, .int (nI n)), (2, .ref (a 0)), (1, .ref (o 0 0)), (0, .ref b)]) (kk : ∀ (H : Heap) (locs : List Loc) (ls : Array Slot), va_P D vwCl ([wX cA o rX.2, w6 cA a rM.2] : List va_W).flatten H → va_D (old s) ([wX cA o rX.2, w6 cA a rM.2] : List va_W).flatten → va_S (old s) s.heap H locs → lv_has ls 4 [(3, .int (nI n)), (2, .ref (a 0)), (1, .ref (o 0 0)), (0, .ref b)] → W p l e room_1 s m #[Value.ref b] below meth c H locs cells slots Q (F0 m 1194 ls [])) : W p l e room_1 s m #[Value.ref b] below meth c H locs cells slots Q (F0 m 663 ls []) := by
  obtain ⟨hx, hb, hml, hown, hts, hr, hlk, hKK⟩ := id Z
  have hbA : ¬ old s b := Nat.not_le.mpr hbl
  refine lv_aload_n hx hb dL_law_663 rfl (lv_at hl 2 rfl) ?_
  refine lv_aload_n hx hb dL_law_664 rfl (lv_at hl 3 rfl) ?_
  refine lv_iload_n hx hb dL_law_665 rfl (lv_at hl 0 rfl) ?_
  refine lv_iconst (v := 1) hx hb dL_law_666 (by decide) ?_
  refine lv_iadd hx hb dL_law_667 ?_
  refine va_sld hx hb hX hbl hbA hS (sc_in (k := 1) (by omega) hL) dL_law_668 ?_
  refine lv_eqi (y := sc xs n 1) (scq_eq xs (by omega)) ?_
  refine lv_aload_n hx hb dL_law_669 rfl (lv_at hl 3 rfl) ?_
  refine lv_iload_n hx hb dL_law_670 rfl (lv_at hl 0 rfl) ?_
  refine lv_iconst (v := 2) hx hb dL_law_671 (by decide) ?_
  refine lv_iadd hx hb dL_law_672 ?_
  refine va_sld hx hb hX hbl hbA hS (sc_in (k := 2) (by omega) hL) dL_law_673 ?_
  refine lv_eqi (y := sc xs n 2) (scq_eq xs (by omega)) ?_
  refine lv_aload_n hx hb dL_law_674 rfl (lv_at hl 3 rfl) ?_
  refine lv_iload_n hx hb dL_law_675 rfl (lv_at hl 0 rfl) ?_
  refine lv_iconst (v := 3) hx hb dL_law_676 (by decide) ?_
  refine lv_iadd hx hb dL_law_677 ?_
  refine va_sld hx hb hX hbl hbA hS (sc_in (k := 3) (by omega) hL) dL_law_678 ?_
  refine lv_eqi (y := sc xs n 3) (scq_eq xs (by omega)) ?_
  refine kV (rest := []) (st1 := [.int rX.1]) (cr := [w6 cA a M]) (cs' := [wX cA o rX.2, w6 cA a M]) Z (cw_X5_instead l D cA o X (sc xs n 1) (sc xs n 2) (sc xs n 3) rX h1) 3 gL_law_X5_instead rfl hdX5_instead ⟨rfl, rfl⟩ ⟨Nat.le_of_ble_eq_true rfl, Nat.le_of_ble_eq_true rfl⟩ hcs hP hD hS hl.1 rfl rfl rfl (Nat.le_of_ble_eq_true rfl) 5 rfl rfl rfl [0] [1] [1, 0] rfl rfl rfl rfl rfl dL_law_679 (fun H locs hP hD hS => ?_)
  refine lv_pop hx hb dL_law_682 rfl ?_
  refine lv_aload_n hx hb dL_law_683 rfl (lv_at hl 1 rfl) ?_
  refine lv_aload_n hx hb dL_law_684 rfl (lv_at hl 3 rfl) ?_
  refine lv_iload_n hx hb dL_law_685 rfl (lv_at hl 0 rfl) ?_
  refine lv_iconst (v := 1) hx hb dL_law_686 (by decide) ?_
  refine lv_iadd hx hb dL_law_687 ?_
  refine va_sld hx hb hX hbl hbA hS (sc_in (k := 1) (by omega) hL) dL_law_688 ?_
  refine lv_eqi (y := sc xs n 1) (scq_eq xs (by omega)) ?_
  refine lv_aload_n hx hb dL_law_689 rfl (lv_at hl 3 rfl) ?_
  refine lv_iload_n hx hb dL_law_690 rfl (lv_at hl 0 rfl) ?_
  refine lv_iconst (v := 2) hx hb dL_law_691 (by decide) ?_
  refine lv_iadd hx hb dL_law_692 ?_
  refine va_sld hx hb hX hbl hbA hS (sc_in (k := 2) (by omega) hL) dL_law_693 ?_
  refine lv_eqi (y := sc xs n 2) (scq_eq xs (by omega)) ?_
  refine lv_aload_n hx hb dL_law_694 rfl (lv_at hl 3 rfl) ?_
  refine lv_iload_n hx hb dL_law_695 rfl (lv_at hl 0 rfl) ?_
  refine lv_iconst (v := 3) hx hb dL_law_696 (by decide) ?_
  refine lv_iadd hx hb dL_law_697 ?_
  refine va_sld hx hb hX hbl hbA hS (sc_in (k := 3) (by omega) hL) dL_law_698 ?_
  refine lv_eqi (y := sc xs n 3) (scq_eq xs (by omega)) ?_
  refine kV (rest := []) (st1 := [.int rM.1]) (cr := [wX cA o rX.2]) (cs' := [wX cA o rX.2, w6 cA a rM.2]) Z (c_X6_instead l D cA a M (sc xs n 1) (sc xs n 2) (sc xs n 3) rM h2) 3 gL_law_X6_instead rfl hdX6_instead ⟨rfl, rfl⟩ ⟨Nat.le_of_ble_eq_true rfl, Nat.le_of_ble_eq_true rfl⟩ hcs hP hD hS hl.1 rfl rfl rfl (Nat.le_of_ble_eq_true rfl) 6 rfl rfl rfl [1] [0] [0, 1] rfl rfl rfl rfl rfl dL_law_699 (fun H locs hP hD hS => ?_)
  refine lv_pop hx hb dL_law_702 rfl ?_
  refine lv_goto (tgt := 1194) hx hb dL_law_703 (by decide) ?_
  exact kk _ _ _ hP hD hS hl
set_option maxHeartbeats 4000000 in
set_option maxRecDepth 100000 in
theorem lawc_20 {p : Program} {l : Launch} {e : Env} {s : State} {m : MethodId} {below : List Frame} {meth : Method} {c : Code} {D : va_G} {cA : Nat → ClassId} {o : Nat → Nat → Nat} {a : Nat → Nat} {b L : Nat} {xs : Nat → Int32} {Q : State → Prop} {cells slots : Nat} (Z : Cx p s m #[Value.ref b] meth c cL_law 4 (some .boolean) wsL_law RL D cA) (hX : va_X b L xs s s.heap) (hbl : b < s.heap.size) (n : Nat) (hn : n + 7 ≤ L) (hL : L ≤ 448) (hcs : cells ≤ room_1.cells ∧ slots ≤ room_1.slots) (X : SX) (M : St6) (rX : Int32 × SX) (rM : Int32 × St6) (h1 : FX_needs X (sc xs n 1) (sc xs n 2) = some rX) (h2 : f_X6_needs M (sc xs n 1) (sc xs n 2) = some rM) (H : Heap) (locs : List Loc) (ls : Array Slot) (hP : va_P D vwCl ([wX cA o X, w6 cA a M] : List va_W).flatten H) (hD : va_D (old s) ([wX cA o X, w6 cA a M] : List va_W).flatten) (hS : va_S (old s) s.heap H locs) (hl : lv_has ls 4 [(3, .int (nI n)), (2, .ref (a 0)), (1, .ref (o 0 0)), (0, .ref b)]) (kk : ∀ (H : Heap) (locs : List Loc) (ls : Array Slot), va_P D vwCl ([wX cA o rX.2, w6 cA a rM.2] : List va_W).flatten H → va_D (old s) ([wX cA o rX.2, w6 cA a rM.2] : List va_W).flatten → va_S (old s) s.heap H locs → lv_has ls 4 [(3, .int (nI n)), (2, .ref (a 0)), (1, .ref (o 0 0)), (0, .ref b)] → W p l e room_1 s m #[Value.ref b] below meth c H locs cells slots Q (F0 m 1194 ls [])) : W p l e room_1 s m #[Value.ref b] below meth c H locs cells slots Q (F0 m 706 ls []) := by
  obtain ⟨hx, hb, hml, hown, hts, hr, hlk, hKK⟩ := id Z
  have hbA : ¬ old s b := Nat.not_le.mpr hbl
  refine lv_aload_n hx hb dL_law_706 rfl (lv_at hl 2 rfl) ?_
  refine lv_aload_n hx hb dL_law_707 rfl (lv_at hl 3 rfl) ?_
  refine lv_iload_n hx hb dL_law_708 rfl (lv_at hl 0 rfl) ?_
  refine lv_iconst (v := 1) hx hb dL_law_709 (by decide) ?_
  refine lv_iadd hx hb dL_law_710 ?_
  refine va_sld hx hb hX hbl hbA hS (sc_in (k := 1) (by omega) hL) dL_law_711 ?_
  refine lv_eqi (y := sc xs n 1) (scq_eq xs (by omega)) ?_
  refine lv_aload_n hx hb dL_law_712 rfl (lv_at hl 3 rfl) ?_
  refine lv_iload_n hx hb dL_law_713 rfl (lv_at hl 0 rfl) ?_
  refine lv_iconst (v := 2) hx hb dL_law_714 (by decide) ?_
  refine lv_iadd hx hb dL_law_715 ?_
  refine va_sld hx hb hX hbl hbA hS (sc_in (k := 2) (by omega) hL) dL_law_716 ?_
  refine lv_eqi (y := sc xs n 2) (scq_eq xs (by omega)) ?_
  refine kV (rest := []) (st1 := [.int rX.1]) (cr := [w6 cA a M]) (cs' := [wX cA o rX.2, w6 cA a M]) Z (cw_X5_needs l D cA o X (sc xs n 1) (sc xs n 2) rX h1) 2 gL_law_X5_needs rfl hdX5_needs ⟨rfl, rfl⟩ ⟨Nat.le_of_ble_eq_true rfl, Nat.le_of_ble_eq_true rfl⟩ hcs hP hD hS hl.1 rfl rfl rfl (Nat.le_of_ble_eq_true rfl) 5 rfl rfl rfl [0] [1] [1, 0] rfl rfl rfl rfl rfl dL_law_717 (fun H locs hP hD hS => ?_)
  refine lv_pop hx hb dL_law_720 rfl ?_
  refine lv_aload_n hx hb dL_law_721 rfl (lv_at hl 1 rfl) ?_
  refine lv_aload_n hx hb dL_law_722 rfl (lv_at hl 3 rfl) ?_
  refine lv_iload_n hx hb dL_law_723 rfl (lv_at hl 0 rfl) ?_
  refine lv_iconst (v := 1) hx hb dL_law_724 (by decide) ?_
  refine lv_iadd hx hb dL_law_725 ?_
  refine va_sld hx hb hX hbl hbA hS (sc_in (k := 1) (by omega) hL) dL_law_726 ?_
  refine lv_eqi (y := sc xs n 1) (scq_eq xs (by omega)) ?_
  refine lv_aload_n hx hb dL_law_727 rfl (lv_at hl 3 rfl) ?_
  refine lv_iload_n hx hb dL_law_728 rfl (lv_at hl 0 rfl) ?_
  refine lv_iconst (v := 2) hx hb dL_law_729 (by decide) ?_
  refine lv_iadd hx hb dL_law_730 ?_
  refine va_sld hx hb hX hbl hbA hS (sc_in (k := 2) (by omega) hL) dL_law_731 ?_
  refine lv_eqi (y := sc xs n 2) (scq_eq xs (by omega)) ?_
  refine kV (rest := []) (st1 := [.int rM.1]) (cr := [wX cA o rX.2]) (cs' := [wX cA o rX.2, w6 cA a rM.2]) Z (c_X6_needs l D cA a M (sc xs n 1) (sc xs n 2) rM h2) 2 gL_law_X6_needs rfl hdX6_needs ⟨rfl, rfl⟩ ⟨Nat.le_of_ble_eq_true rfl, Nat.le_of_ble_eq_true rfl⟩ hcs hP hD hS hl.1 rfl rfl rfl (Nat.le_of_ble_eq_true rfl) 6 rfl rfl rfl [1] [0] [0, 1] rfl rfl rfl rfl rfl dL_law_732 (fun H locs hP hD hS => ?_)
  refine lv_pop hx hb dL_law_735 rfl ?_
  refine lv_goto (tgt := 1194) hx hb dL_law_736 (by decide) ?_
  exact kk _ _ _ hP hD hS hl
set_option maxHeartbeats 4000000 in
set_option maxRecDepth 100000 in
theorem lawc_21 {p : Program} {l : Launch} {e : Env} {s : State} {m : MethodId} {below : List Frame} {meth : Method} {c : Code} {D : va_G} {cA : Nat → ClassId} {o : Nat → Nat → Nat} {a : Nat → Nat} {b L : Nat} {xs : Nat → Int32} {Q : State → Prop} {cells slots : Nat} (Z : Cx p s m #[Value.ref b] meth c cL_law 4 (some .boolean) wsL_law RL D cA) (hX : va_X b L xs s s.heap) (hbl : b < s.heap.size) (n : Nat) (hn : n + 7 ≤ L) (hL : L ≤ 448) (hcs : cells ≤ room_1.cells ∧ slots ≤ room_1.slots) (X : SX) (M : St6) (rX : Int32 × SX) (rM : Int32 × St6) (h1 : FX_match X (sc xs n 1) = some rX) (h2 : f_X6_match M (sc xs n 1) = some rM) (H : Heap) (locs : List Loc) (ls : Array Slot) (hP : va_P D vwCl ([wX cA o X, w6 cA a M] : List va_W).flatten H) (hD : va_D (old s) ([wX cA o X, w6 cA a M] : List va_W).flatten) (hS : va_S (old s) s.heap H locs) (hl : lv_has ls 4 [(3, .int (nI n)), (2, .ref (a 0)), (1, .ref (o 0 0)), (0, .ref b)]) (kk : ∀ (H : Heap) (locs : List Loc) (ls : Array Slot), va_P D vwCl ([wX cA o rX.2, w6 cA a rM.2] : List va_W).flatten H → va_D (old s) ([wX cA o rX.2, w6 cA a rM.2] : List va_W).flatten → va_S (old s) s.heap H locs → lv_has ls 4 [(3, .int (nI n)), (2, .ref (a 0)), (1, .ref (o 0 0)), (0, .ref b)] → W p l e room_1 s m #[Value.ref b] below meth c H locs cells slots Q (F0 m 1194 ls [])) : W p l e room_1 s m #[Value.ref b] below meth c H locs cells slots Q (F0 m 739 ls []) := by
  obtain ⟨hx, hb, hml, hown, hts, hr, hlk, hKK⟩ := id Z
  have hbA : ¬ old s b := Nat.not_le.mpr hbl
  refine lv_aload_n hx hb dL_law_739 rfl (lv_at hl 2 rfl) ?_
  refine lv_aload_n hx hb dL_law_740 rfl (lv_at hl 3 rfl) ?_
  refine lv_iload_n hx hb dL_law_741 rfl (lv_at hl 0 rfl) ?_
  refine lv_iconst (v := 1) hx hb dL_law_742 (by decide) ?_
  refine lv_iadd hx hb dL_law_743 ?_
  refine va_sld hx hb hX hbl hbA hS (sc_in (k := 1) (by omega) hL) dL_law_744 ?_
  refine lv_eqi (y := sc xs n 1) (scq_eq xs (by omega)) ?_
  refine kV (rest := []) (st1 := [.int rX.1]) (cr := [w6 cA a M]) (cs' := [wX cA o rX.2, w6 cA a M]) Z (cw_X5_match l D cA o X (sc xs n 1) rX h1) 1 gL_law_X5_match rfl hdX5_match ⟨rfl, rfl⟩ ⟨Nat.le_of_ble_eq_true rfl, Nat.le_of_ble_eq_true rfl⟩ hcs hP hD hS hl.1 rfl rfl rfl (Nat.le_of_ble_eq_true rfl) 5 rfl rfl rfl [0] [1] [1, 0] rfl rfl rfl rfl rfl dL_law_745 (fun H locs hP hD hS => ?_)
  refine lv_pop hx hb dL_law_748 rfl ?_
  refine lv_aload_n hx hb dL_law_749 rfl (lv_at hl 1 rfl) ?_
  refine lv_aload_n hx hb dL_law_750 rfl (lv_at hl 3 rfl) ?_
  refine lv_iload_n hx hb dL_law_751 rfl (lv_at hl 0 rfl) ?_
  refine lv_iconst (v := 1) hx hb dL_law_752 (by decide) ?_
  refine lv_iadd hx hb dL_law_753 ?_
  refine va_sld hx hb hX hbl hbA hS (sc_in (k := 1) (by omega) hL) dL_law_754 ?_
  refine lv_eqi (y := sc xs n 1) (scq_eq xs (by omega)) ?_
  refine kV (rest := []) (st1 := [.int rM.1]) (cr := [wX cA o rX.2]) (cs' := [wX cA o rX.2, w6 cA a rM.2]) Z (c_X6_match l D cA a M (sc xs n 1) rM h2) 1 gL_law_X6_match rfl hdX6_match ⟨rfl, rfl⟩ ⟨Nat.le_of_ble_eq_true rfl, Nat.le_of_ble_eq_true rfl⟩ hcs hP hD hS hl.1 rfl rfl rfl (Nat.le_of_ble_eq_true rfl) 6 rfl rfl rfl [1] [0] [0, 1] rfl rfl rfl rfl rfl dL_law_755 (fun H locs hP hD hS => ?_)
  refine lv_pop hx hb dL_law_758 rfl ?_
  refine lv_goto (tgt := 1194) hx hb dL_law_759 (by decide) ?_
  exact kk _ _ _ hP hD hS hl
set_option maxHeartbeats 4000000 in
set_option maxRecDepth 100000 in
theorem lawc_22 {p : Program} {l : Launch} {e : Env} {s : State} {m : MethodId} {below : List Frame} {meth : Method} {c : Code} {D : va_G} {cA : Nat → ClassId} {o : Nat → Nat → Nat} {a : Nat → Nat} {b L : Nat} {xs : Nat → Int32} {Q : State → Prop} {cells slots : Nat} (Z : Cx p s m #[Value.ref b] meth c cL_law 4 (some .boolean) wsL_law RL D cA) (hX : va_X b L xs s s.heap) (hbl : b < s.heap.size) (n : Nat) (hn : n + 7 ≤ L) (hL : L ≤ 448) (hcs : cells ≤ room_1.cells ∧ slots ≤ room_1.slots) (X : SX) (M : St6) (rX : Int32 × SX) (rM : Int32 × St6) (h1 : FX_again X  = some rX) (h2 : f_X6_again M  = some rM) (H : Heap) (locs : List Loc) (ls : Array Slot) (hP : va_P D vwCl ([wX cA o X, w6 cA a M] : List va_W).flatten H) (hD : va_D (old s) ([wX cA o X, w6 cA a M] : List va_W).flatten) (hS : va_S (old s) s.heap H locs) (hl : lv_has ls 4 [(3, .int (nI n)), (2, .ref (a 0)), (1, .ref (o 0 0)), (0, .ref b)]) (kk : ∀ (H : Heap) (locs : List Loc) (ls : Array Slot), va_P D vwCl ([wX cA o rX.2, w6 cA a rM.2] : List va_W).flatten H → va_D (old s) ([wX cA o rX.2, w6 cA a rM.2] : List va_W).flatten → va_S (old s) s.heap H locs → lv_has ls 4 [(3, .int (nI n)), (2, .ref (a 0)), (1, .ref (o 0 0)), (0, .ref b)] → W p l e room_1 s m #[Value.ref b] below meth c H locs cells slots Q (F0 m 1194 ls [])) : W p l e room_1 s m #[Value.ref b] below meth c H locs cells slots Q (F0 m 762 ls []) := by
  obtain ⟨hx, hb, hml, hown, hts, hr, hlk, hKK⟩ := id Z
  have hbA : ¬ old s b := Nat.not_le.mpr hbl
  refine lv_aload_n hx hb dL_law_762 rfl (lv_at hl 2 rfl) ?_
  refine kV (rest := []) (st1 := [.int rX.1]) (cr := [w6 cA a M]) (cs' := [wX cA o rX.2, w6 cA a M]) Z (cw_X5_again l D cA o X  rX h1) 0 gL_law_X5_again rfl hdX5_again ⟨rfl, rfl⟩ ⟨Nat.le_of_ble_eq_true rfl, Nat.le_of_ble_eq_true rfl⟩ hcs hP hD hS hl.1 rfl rfl rfl (Nat.le_of_ble_eq_true rfl) 5 rfl rfl rfl [0] [1] [1, 0] rfl rfl rfl rfl rfl dL_law_763 (fun H locs hP hD hS => ?_)
  refine lv_pop hx hb dL_law_766 rfl ?_
  refine lv_aload_n hx hb dL_law_767 rfl (lv_at hl 1 rfl) ?_
  refine kV (rest := []) (st1 := [.int rM.1]) (cr := [wX cA o rX.2]) (cs' := [wX cA o rX.2, w6 cA a rM.2]) Z (c_X6_again l D cA a M  rM h2) 0 gL_law_X6_again rfl hdX6_again ⟨rfl, rfl⟩ ⟨Nat.le_of_ble_eq_true rfl, Nat.le_of_ble_eq_true rfl⟩ hcs hP hD hS hl.1 rfl rfl rfl (Nat.le_of_ble_eq_true rfl) 6 rfl rfl rfl [1] [0] [0, 1] rfl rfl rfl rfl rfl dL_law_768 (fun H locs hP hD hS => ?_)
  refine lv_pop hx hb dL_law_771 rfl ?_
  refine lv_goto (tgt := 1194) hx hb dL_law_772 (by decide) ?_
  exact kk _ _ _ hP hD hS hl
set_option maxHeartbeats 4000000 in
set_option maxRecDepth 100000 in
theorem lawc_23 {p : Program} {l : Launch} {e : Env} {s : State} {m : MethodId} {below : List Frame} {meth : Method} {c : Code} {D : va_G} {cA : Nat → ClassId} {o : Nat → Nat → Nat} {a : Nat → Nat} {b L : Nat} {xs : Nat → Int32} {Q : State → Prop} {cells slots : Nat} (Z : Cx p s m #[Value.ref b] meth c cL_law 4 (some .boolean) wsL_law RL D cA) (hX : va_X b L xs s s.heap) (hbl : b < s.heap.size) (n : Nat) (hn : n + 7 ≤ L) (hL : L ≤ 448) (hcs : cells ≤ room_1.cells ∧ slots ≤ room_1.slots) (X : SX) (M : St6) (rX : Int32 × SX) (rM : Int32 × St6) (h1 : FX_forget X (sc xs n 1) (sc xs n 2) (sc xs n 3) = some rX) (h2 : f_X6_forget M (sc xs n 1) (sc xs n 2) (sc xs n 3) = some rM) (H : Heap) (locs : List Loc) (ls : Array Slot) (hP : va_P D vwCl ([wX cA o X, w6 cA a M] : List va_W).flatten H) (hD : va_D (old s) ([wX cA o X, w6 cA a M] : List va_W).flatten) (hS : va_S (old s) s.heap H locs) (hl : lv_has ls 4 [(3, .int (nI n)), (2, .ref (a 0)), (1, .ref (o 0 0)), (0, .ref b)]) (kk : ∀ (H : Heap) (locs : List Loc) (ls : Array Slot), va_P D vwCl ([wX cA o rX.2, w6 cA a rM.2] : List va_W).flatten H → va_D (old s) ([wX cA o rX.2, w6 cA a rM.2] : List va_W).flatten → va_S (old s) s.heap H locs → lv_has ls 4 [(3, .int (nI n)), (2, .ref (a 0)), (1, .ref (o 0 0)), (0, .ref b)] → W p l e room_1 s m #[Value.ref b] below meth c H locs cells slots Q (F0 m 1194 ls [])) : W p l e room_1 s m #[Value.ref b] below meth c H locs cells slots Q (F0 m 775 ls []) := by
  obtain ⟨hx, hb, hml, hown, hts, hr, hlk, hKK⟩ := id Z
  have hbA : ¬ old s b := Nat.not_le.mpr hbl
  refine lv_aload_n hx hb dL_law_775 rfl (lv_at hl 2 rfl) ?_
  refine lv_aload_n hx hb dL_law_776 rfl (lv_at hl 3 rfl) ?_
  refine lv_iload_n hx hb dL_law_777 rfl (lv_at hl 0 rfl) ?_
  refine lv_iconst (v := 1) hx hb dL_law_778 (by decide) ?_
  refine lv_iadd hx hb dL_law_779 ?_
  refine va_sld hx hb hX hbl hbA hS (sc_in (k := 1) (by omega) hL) dL_law_780 ?_
  refine lv_eqi (y := sc xs n 1) (scq_eq xs (by omega)) ?_
  refine lv_aload_n hx hb dL_law_781 rfl (lv_at hl 3 rfl) ?_
  refine lv_iload_n hx hb dL_law_782 rfl (lv_at hl 0 rfl) ?_
  refine lv_iconst (v := 2) hx hb dL_law_783 (by decide) ?_
  refine lv_iadd hx hb dL_law_784 ?_
  refine va_sld hx hb hX hbl hbA hS (sc_in (k := 2) (by omega) hL) dL_law_785 ?_
  refine lv_eqi (y := sc xs n 2) (scq_eq xs (by omega)) ?_
  refine lv_aload_n hx hb dL_law_786 rfl (lv_at hl 3 rfl) ?_
  refine lv_iload_n hx hb dL_law_787 rfl (lv_at hl 0 rfl) ?_
  refine lv_iconst (v := 3) hx hb dL_law_788 (by decide) ?_
  refine lv_iadd hx hb dL_law_789 ?_
  refine va_sld hx hb hX hbl hbA hS (sc_in (k := 3) (by omega) hL) dL_law_790 ?_
  refine lv_eqi (y := sc xs n 3) (scq_eq xs (by omega)) ?_
  refine kV (rest := []) (st1 := [.int rX.1]) (cr := [w6 cA a M]) (cs' := [wX cA o rX.2, w6 cA a M]) Z (cw_X5_forget l D cA o X (sc xs n 1) (sc xs n 2) (sc xs n 3) rX h1) 3 gL_law_X5_forget rfl hdX5_forget ⟨rfl, rfl⟩ ⟨Nat.le_of_ble_eq_true rfl, Nat.le_of_ble_eq_true rfl⟩ hcs hP hD hS hl.1 rfl rfl rfl (Nat.le_of_ble_eq_true rfl) 5 rfl rfl rfl [0] [1] [1, 0] rfl rfl rfl rfl rfl dL_law_791 (fun H locs hP hD hS => ?_)
  refine lv_pop hx hb dL_law_794 rfl ?_
  refine lv_aload_n hx hb dL_law_795 rfl (lv_at hl 1 rfl) ?_
  refine lv_aload_n hx hb dL_law_796 rfl (lv_at hl 3 rfl) ?_
  refine lv_iload_n hx hb dL_law_797 rfl (lv_at hl 0 rfl) ?_
  refine lv_iconst (v := 1) hx hb dL_law_798 (by decide) ?_
  refine lv_iadd hx hb dL_law_799 ?_
  refine va_sld hx hb hX hbl hbA hS (sc_in (k := 1) (by omega) hL) dL_law_800 ?_
  refine lv_eqi (y := sc xs n 1) (scq_eq xs (by omega)) ?_
  refine lv_aload_n hx hb dL_law_801 rfl (lv_at hl 3 rfl) ?_
  refine lv_iload_n hx hb dL_law_802 rfl (lv_at hl 0 rfl) ?_
  refine lv_iconst (v := 2) hx hb dL_law_803 (by decide) ?_
  refine lv_iadd hx hb dL_law_804 ?_
  refine va_sld hx hb hX hbl hbA hS (sc_in (k := 2) (by omega) hL) dL_law_805 ?_
  refine lv_eqi (y := sc xs n 2) (scq_eq xs (by omega)) ?_
  refine lv_aload_n hx hb dL_law_806 rfl (lv_at hl 3 rfl) ?_
  refine lv_iload_n hx hb dL_law_807 rfl (lv_at hl 0 rfl) ?_
  refine lv_iconst (v := 3) hx hb dL_law_808 (by decide) ?_
  refine lv_iadd hx hb dL_law_809 ?_
  refine va_sld hx hb hX hbl hbA hS (sc_in (k := 3) (by omega) hL) dL_law_810 ?_
  refine lv_eqi (y := sc xs n 3) (scq_eq xs (by omega)) ?_
  refine kV (rest := []) (st1 := [.int rM.1]) (cr := [wX cA o rX.2]) (cs' := [wX cA o rX.2, w6 cA a rM.2]) Z (c_X6_forget l D cA a M (sc xs n 1) (sc xs n 2) (sc xs n 3) rM h2) 3 gL_law_X6_forget rfl hdX6_forget ⟨rfl, rfl⟩ ⟨Nat.le_of_ble_eq_true rfl, Nat.le_of_ble_eq_true rfl⟩ hcs hP hD hS hl.1 rfl rfl rfl (Nat.le_of_ble_eq_true rfl) 6 rfl rfl rfl [1] [0] [0, 1] rfl rfl rfl rfl rfl dL_law_811 (fun H locs hP hD hS => ?_)
  refine lv_pop hx hb dL_law_814 rfl ?_
  refine lv_goto (tgt := 1194) hx hb dL_law_815 (by decide) ?_
  exact kk _ _ _ hP hD hS hl
set_option maxHeartbeats 4000000 in
set_option maxRecDepth 100000 in
theorem lawc_24 {p : Program} {l : Launch} {e : Env} {s : State} {m : MethodId} {below : List Frame} {meth : Method} {c : Code} {D : va_G} {cA : Nat → ClassId} {o : Nat → Nat → Nat} {a : Nat → Nat} {b L : Nat} {xs : Nat → Int32} {Q : State → Prop} {cells slots : Nat} (Z : Cx p s m #[Value.ref b] meth c cL_law 4 (some .boolean) wsL_law RL D cA) (hX : va_X b L xs s s.heap) (hbl : b < s.heap.size) (n : Nat) (hn : n + 7 ≤ L) (hL : L ≤ 448) (hcs : cells ≤ room_1.cells ∧ slots ≤ room_1.slots) (X : SX) (M : St6) (rX : Int32 × SX) (rM : Int32 × St6) (h1 : FX_image X  = some rX) (h2 : f_X6_image M  = some rM) (H : Heap) (locs : List Loc) (ls : Array Slot) (hP : va_P D vwCl ([wX cA o X, w6 cA a M] : List va_W).flatten H) (hD : va_D (old s) ([wX cA o X, w6 cA a M] : List va_W).flatten) (hS : va_S (old s) s.heap H locs) (hl : lv_has ls 4 [(3, .int (nI n)), (2, .ref (a 0)), (1, .ref (o 0 0)), (0, .ref b)]) (kk : ∀ (H : Heap) (locs : List Loc) (ls : Array Slot), va_P D vwCl ([wX cA o rX.2, w6 cA a rM.2] : List va_W).flatten H → va_D (old s) ([wX cA o rX.2, w6 cA a rM.2] : List va_W).flatten → va_S (old s) s.heap H locs → lv_has ls 4 [(3, .int (nI n)), (2, .ref (a 0)), (1, .ref (o 0 0)), (0, .ref b)] → W p l e room_1 s m #[Value.ref b] below meth c H locs cells slots Q (F0 m 1194 ls [])) : W p l e room_1 s m #[Value.ref b] below meth c H locs cells slots Q (F0 m 818 ls []) := by
  obtain ⟨hx, hb, hml, hown, hts, hr, hlk, hKK⟩ := id Z
  have hbA : ¬ old s b := Nat.not_le.mpr hbl
  refine lv_aload_n hx hb dL_law_818 rfl (lv_at hl 2 rfl) ?_
  refine kV (rest := []) (st1 := [.int rX.1]) (cr := [w6 cA a M]) (cs' := [wX cA o rX.2, w6 cA a M]) Z (cw_X5_image l D cA o X  rX h1) 0 gL_law_X5_image rfl hdX5_image ⟨rfl, rfl⟩ ⟨Nat.le_of_ble_eq_true rfl, Nat.le_of_ble_eq_true rfl⟩ hcs hP hD hS hl.1 rfl rfl rfl (Nat.le_of_ble_eq_true rfl) 5 rfl rfl rfl [0] [1] [1, 0] rfl rfl rfl rfl rfl dL_law_819 (fun H locs hP hD hS => ?_)
  refine lv_pop hx hb dL_law_822 rfl ?_
  refine lv_aload_n hx hb dL_law_823 rfl (lv_at hl 1 rfl) ?_
  refine kV (rest := []) (st1 := [.int rM.1]) (cr := [wX cA o rX.2]) (cs' := [wX cA o rX.2, w6 cA a rM.2]) Z (c_X6_image l D cA a M  rM h2) 0 gL_law_X6_image rfl hdX6_image ⟨rfl, rfl⟩ ⟨Nat.le_of_ble_eq_true rfl, Nat.le_of_ble_eq_true rfl⟩ hcs hP hD hS hl.1 rfl rfl rfl (Nat.le_of_ble_eq_true rfl) 6 rfl rfl rfl [1] [0] [0, 1] rfl rfl rfl rfl rfl dL_law_824 (fun H locs hP hD hS => ?_)
  refine lv_pop hx hb dL_law_827 rfl ?_
  refine lv_goto (tgt := 1194) hx hb dL_law_828 (by decide) ?_
  exact kk _ _ _ hP hD hS hl
set_option maxHeartbeats 4000000 in
set_option maxRecDepth 100000 in
theorem lawc_25 {p : Program} {l : Launch} {e : Env} {s : State} {m : MethodId} {below : List Frame} {meth : Method} {c : Code} {D : va_G} {cA : Nat → ClassId} {o : Nat → Nat → Nat} {a : Nat → Nat} {b L : Nat} {xs : Nat → Int32} {Q : State → Prop} {cells slots : Nat} (Z : Cx p s m #[Value.ref b] meth c cL_law 4 (some .boolean) wsL_law RL D cA) (hX : va_X b L xs s s.heap) (hbl : b < s.heap.size) (n : Nat) (hn : n + 7 ≤ L) (hL : L ≤ 448) (hcs : cells ≤ room_1.cells ∧ slots ≤ room_1.slots) (X : SX) (M : St6) (rX : Int32 × SX) (rM : Int32 × St6) (h1 : FX_restore X  = some rX) (h2 : f_X6_restore M  = some rM) (H : Heap) (locs : List Loc) (ls : Array Slot) (hP : va_P D vwCl ([wX cA o X, w6 cA a M] : List va_W).flatten H) (hD : va_D (old s) ([wX cA o X, w6 cA a M] : List va_W).flatten) (hS : va_S (old s) s.heap H locs) (hl : lv_has ls 4 [(3, .int (nI n)), (2, .ref (a 0)), (1, .ref (o 0 0)), (0, .ref b)]) (kk : ∀ (H : Heap) (locs : List Loc) (ls : Array Slot), va_P D vwCl ([wX cA o rX.2, w6 cA a rM.2] : List va_W).flatten H → va_D (old s) ([wX cA o rX.2, w6 cA a rM.2] : List va_W).flatten → va_S (old s) s.heap H locs → lv_has ls 4 [(3, .int (nI n)), (2, .ref (a 0)), (1, .ref (o 0 0)), (0, .ref b)] → W p l e room_1 s m #[Value.ref b] below meth c H locs cells slots Q (F0 m 1194 ls [])) : W p l e room_1 s m #[Value.ref b] below meth c H locs cells slots Q (F0 m 831 ls []) := by
  obtain ⟨hx, hb, hml, hown, hts, hr, hlk, hKK⟩ := id Z
  have hbA : ¬ old s b := Nat.not_le.mpr hbl
  refine lv_aload_n hx hb dL_law_831 rfl (lv_at hl 2 rfl) ?_
  refine kV (rest := []) (st1 := [.int rX.1]) (cr := [w6 cA a M]) (cs' := [wX cA o rX.2, w6 cA a M]) Z (cw_X5_restore l D cA o X  rX h1) 0 gL_law_X5_restore rfl hdX5_restore ⟨rfl, rfl⟩ ⟨Nat.le_of_ble_eq_true rfl, Nat.le_of_ble_eq_true rfl⟩ hcs hP hD hS hl.1 rfl rfl rfl (Nat.le_of_ble_eq_true rfl) 5 rfl rfl rfl [0] [1] [1, 0] rfl rfl rfl rfl rfl dL_law_832 (fun H locs hP hD hS => ?_)
  refine lv_pop hx hb dL_law_835 rfl ?_
  refine lv_aload_n hx hb dL_law_836 rfl (lv_at hl 1 rfl) ?_
  refine kV (rest := []) (st1 := [.int rM.1]) (cr := [wX cA o rX.2]) (cs' := [wX cA o rX.2, w6 cA a rM.2]) Z (c_X6_restore l D cA a M  rM h2) 0 gL_law_X6_restore rfl hdX6_restore ⟨rfl, rfl⟩ ⟨Nat.le_of_ble_eq_true rfl, Nat.le_of_ble_eq_true rfl⟩ hcs hP hD hS hl.1 rfl rfl rfl (Nat.le_of_ble_eq_true rfl) 6 rfl rfl rfl [1] [0] [0, 1] rfl rfl rfl rfl rfl dL_law_837 (fun H locs hP hD hS => ?_)
  refine lv_pop hx hb dL_law_840 rfl ?_
  refine lv_goto (tgt := 1194) hx hb dL_law_841 (by decide) ?_
  exact kk _ _ _ hP hD hS hl
set_option maxHeartbeats 4000000 in
set_option maxRecDepth 100000 in
theorem lawc_26 {p : Program} {l : Launch} {e : Env} {s : State} {m : MethodId} {below : List Frame} {meth : Method} {c : Code} {D : va_G} {cA : Nat → ClassId} {o : Nat → Nat → Nat} {a : Nat → Nat} {b L : Nat} {xs : Nat → Int32} {Q : State → Prop} {cells slots : Nat} (Z : Cx p s m #[Value.ref b] meth c cL_law 4 (some .boolean) wsL_law RL D cA) (hX : va_X b L xs s s.heap) (hbl : b < s.heap.size) (n : Nat) (hn : n + 7 ≤ L) (hL : L ≤ 448) (hcs : cells ≤ room_1.cells ∧ slots ≤ room_1.slots) (X : SX) (M : St6) (rX : Int32 × SX) (rM : Int32 × St6) (h1 : FX_heard X (sc xs n 1) (sc xs n 2) (sc xs n 3) (sc xs n 4) (sc xs n 5) (sc xs n 6) = some rX) (h2 : f_X6_heard M (sc xs n 1) (sc xs n 2) (sc xs n 3) (sc xs n 4) (sc xs n 5) (sc xs n 6) = some rM) (H : Heap) (locs : List Loc) (ls : Array Slot) (hP : va_P D vwCl ([wX cA o X, w6 cA a M] : List va_W).flatten H) (hD : va_D (old s) ([wX cA o X, w6 cA a M] : List va_W).flatten) (hS : va_S (old s) s.heap H locs) (hl : lv_has ls 4 [(3, .int (nI n)), (2, .ref (a 0)), (1, .ref (o 0 0)), (0, .ref b)]) (kk : ∀ (H : Heap) (locs : List Loc) (ls : Array Slot), va_P D vwCl ([wX cA o rX.2, w6 cA a rM.2] : List va_W).flatten H → va_D (old s) ([wX cA o rX.2, w6 cA a rM.2] : List va_W).flatten → va_S (old s) s.heap H locs → lv_has ls 4 [(3, .int (nI n)), (2, .ref (a 0)), (1, .ref (o 0 0)), (0, .ref b)] → W p l e room_1 s m #[Value.ref b] below meth c H locs cells slots Q (F0 m 1194 ls [])) : W p l e room_1 s m #[Value.ref b] below meth c H locs cells slots Q (F0 m 844 ls []) := by
  obtain ⟨hx, hb, hml, hown, hts, hr, hlk, hKK⟩ := id Z
  have hbA : ¬ old s b := Nat.not_le.mpr hbl
  refine lv_aload_n hx hb dL_law_844 rfl (lv_at hl 2 rfl) ?_
  refine lv_aload_n hx hb dL_law_845 rfl (lv_at hl 3 rfl) ?_
  refine lv_iload_n hx hb dL_law_846 rfl (lv_at hl 0 rfl) ?_
  refine lv_iconst (v := 1) hx hb dL_law_847 (by decide) ?_
  refine lv_iadd hx hb dL_law_848 ?_
  refine va_sld hx hb hX hbl hbA hS (sc_in (k := 1) (by omega) hL) dL_law_849 ?_
  refine lv_eqi (y := sc xs n 1) (scq_eq xs (by omega)) ?_
  refine lv_aload_n hx hb dL_law_850 rfl (lv_at hl 3 rfl) ?_
  refine lv_iload_n hx hb dL_law_851 rfl (lv_at hl 0 rfl) ?_
  refine lv_iconst (v := 2) hx hb dL_law_852 (by decide) ?_
  refine lv_iadd hx hb dL_law_853 ?_
  refine va_sld hx hb hX hbl hbA hS (sc_in (k := 2) (by omega) hL) dL_law_854 ?_
  refine lv_eqi (y := sc xs n 2) (scq_eq xs (by omega)) ?_
  refine lv_aload_n hx hb dL_law_855 rfl (lv_at hl 3 rfl) ?_
  refine lv_iload_n hx hb dL_law_856 rfl (lv_at hl 0 rfl) ?_
  refine lv_iconst (v := 3) hx hb dL_law_857 (by decide) ?_
  refine lv_iadd hx hb dL_law_858 ?_
  refine va_sld hx hb hX hbl hbA hS (sc_in (k := 3) (by omega) hL) dL_law_859 ?_
  refine lv_eqi (y := sc xs n 3) (scq_eq xs (by omega)) ?_
  refine lv_aload_n hx hb dL_law_860 rfl (lv_at hl 3 rfl) ?_
  refine lv_iload_n hx hb dL_law_861 rfl (lv_at hl 0 rfl) ?_
  refine lv_iconst (v := 4) hx hb dL_law_862 (by decide) ?_
  refine lv_iadd hx hb dL_law_863 ?_
  refine va_sld hx hb hX hbl hbA hS (sc_in (k := 4) (by omega) hL) dL_law_864 ?_
  refine lv_eqi (y := sc xs n 4) (scq_eq xs (by omega)) ?_
  refine lv_aload_n hx hb dL_law_865 rfl (lv_at hl 3 rfl) ?_
  refine lv_iload_n hx hb dL_law_866 rfl (lv_at hl 0 rfl) ?_
  refine lv_iconst (v := 5) hx hb dL_law_867 (by decide) ?_
  refine lv_iadd hx hb dL_law_868 ?_
  refine va_sld hx hb hX hbl hbA hS (sc_in (k := 5) (by omega) hL) dL_law_869 ?_
  refine lv_eqi (y := sc xs n 5) (scq_eq xs (by omega)) ?_
  refine lv_aload_n hx hb dL_law_870 rfl (lv_at hl 3 rfl) ?_
  refine lv_iload_n hx hb dL_law_871 rfl (lv_at hl 0 rfl) ?_
  refine lv_bipush (v := 6) hx hb dL_law_872 (by decide) ?_
  refine lv_iadd hx hb dL_law_874 ?_
  refine va_sld hx hb hX hbl hbA hS (sc_in (k := 6) (by omega) hL) dL_law_875 ?_
  refine lv_eqi (y := sc xs n 6) (scq_eq xs (by omega)) ?_
  refine kV (rest := []) (st1 := [.int rX.1]) (cr := [w6 cA a M]) (cs' := [wX cA o rX.2, w6 cA a M]) Z (cw_X5_heard l D cA o X (sc xs n 1) (sc xs n 2) (sc xs n 3) (sc xs n 4) (sc xs n 5) (sc xs n 6) rX h1) 6 gL_law_X5_heard rfl hdX5_heard ⟨rfl, rfl⟩ ⟨Nat.le_of_ble_eq_true rfl, Nat.le_of_ble_eq_true rfl⟩ hcs hP hD hS hl.1 rfl rfl rfl (Nat.le_of_ble_eq_true rfl) 5 rfl rfl rfl [0] [1] [1, 0] rfl rfl rfl rfl rfl dL_law_876 (fun H locs hP hD hS => ?_)
  refine lv_pop hx hb dL_law_879 rfl ?_
  refine lv_aload_n hx hb dL_law_880 rfl (lv_at hl 1 rfl) ?_
  refine lv_aload_n hx hb dL_law_881 rfl (lv_at hl 3 rfl) ?_
  refine lv_iload_n hx hb dL_law_882 rfl (lv_at hl 0 rfl) ?_
  refine lv_iconst (v := 1) hx hb dL_law_883 (by decide) ?_
  refine lv_iadd hx hb dL_law_884 ?_
  refine va_sld hx hb hX hbl hbA hS (sc_in (k := 1) (by omega) hL) dL_law_885 ?_
  refine lv_eqi (y := sc xs n 1) (scq_eq xs (by omega)) ?_
  refine lv_aload_n hx hb dL_law_886 rfl (lv_at hl 3 rfl) ?_
  refine lv_iload_n hx hb dL_law_887 rfl (lv_at hl 0 rfl) ?_
  refine lv_iconst (v := 2) hx hb dL_law_888 (by decide) ?_
  refine lv_iadd hx hb dL_law_889 ?_
  refine va_sld hx hb hX hbl hbA hS (sc_in (k := 2) (by omega) hL) dL_law_890 ?_
  refine lv_eqi (y := sc xs n 2) (scq_eq xs (by omega)) ?_
  refine lv_aload_n hx hb dL_law_891 rfl (lv_at hl 3 rfl) ?_
  refine lv_iload_n hx hb dL_law_892 rfl (lv_at hl 0 rfl) ?_
  refine lv_iconst (v := 3) hx hb dL_law_893 (by decide) ?_
  refine lv_iadd hx hb dL_law_894 ?_
  refine va_sld hx hb hX hbl hbA hS (sc_in (k := 3) (by omega) hL) dL_law_895 ?_
  refine lv_eqi (y := sc xs n 3) (scq_eq xs (by omega)) ?_
  refine lv_aload_n hx hb dL_law_896 rfl (lv_at hl 3 rfl) ?_
  refine lv_iload_n hx hb dL_law_897 rfl (lv_at hl 0 rfl) ?_
  refine lv_iconst (v := 4) hx hb dL_law_898 (by decide) ?_
  refine lv_iadd hx hb dL_law_899 ?_
  refine va_sld hx hb hX hbl hbA hS (sc_in (k := 4) (by omega) hL) dL_law_900 ?_
  refine lv_eqi (y := sc xs n 4) (scq_eq xs (by omega)) ?_
  refine lv_aload_n hx hb dL_law_901 rfl (lv_at hl 3 rfl) ?_
  refine lv_iload_n hx hb dL_law_902 rfl (lv_at hl 0 rfl) ?_
  refine lv_iconst (v := 5) hx hb dL_law_903 (by decide) ?_
  refine lv_iadd hx hb dL_law_904 ?_
  refine va_sld hx hb hX hbl hbA hS (sc_in (k := 5) (by omega) hL) dL_law_905 ?_
  refine lv_eqi (y := sc xs n 5) (scq_eq xs (by omega)) ?_
  refine lv_aload_n hx hb dL_law_906 rfl (lv_at hl 3 rfl) ?_
  refine lv_iload_n hx hb dL_law_907 rfl (lv_at hl 0 rfl) ?_
  refine lv_bipush (v := 6) hx hb dL_law_908 (by decide) ?_
  refine lv_iadd hx hb dL_law_910 ?_
  refine va_sld hx hb hX hbl hbA hS (sc_in (k := 6) (by omega) hL) dL_law_911 ?_
  refine lv_eqi (y := sc xs n 6) (scq_eq xs (by omega)) ?_
  refine kV (rest := []) (st1 := [.int rM.1]) (cr := [wX cA o rX.2]) (cs' := [wX cA o rX.2, w6 cA a rM.2]) Z (c_X6_heard l D cA a M (sc xs n 1) (sc xs n 2) (sc xs n 3) (sc xs n 4) (sc xs n 5) (sc xs n 6) rM h2) 6 gL_law_X6_heard rfl hdX6_heard ⟨rfl, rfl⟩ ⟨Nat.le_of_ble_eq_true rfl, Nat.le_of_ble_eq_true rfl⟩ hcs hP hD hS hl.1 rfl rfl rfl (Nat.le_of_ble_eq_true rfl) 6 rfl rfl rfl [1] [0] [0, 1] rfl rfl rfl rfl rfl dL_law_912 (fun H locs hP hD hS => ?_)
  refine lv_pop hx hb dL_law_915 rfl ?_
  refine lv_goto (tgt := 1194) hx hb dL_law_916 (by decide) ?_
  exact kk _ _ _ hP hD hS hl
set_option maxHeartbeats 4000000 in
set_option maxRecDepth 100000 in
theorem lawc_27 {p : Program} {l : Launch} {e : Env} {s : State} {m : MethodId} {below : List Frame} {meth : Method} {c : Code} {D : va_G} {cA : Nat → ClassId} {o : Nat → Nat → Nat} {a : Nat → Nat} {b L : Nat} {xs : Nat → Int32} {Q : State → Prop} {cells slots : Nat} (Z : Cx p s m #[Value.ref b] meth c cL_law 4 (some .boolean) wsL_law RL D cA) (hX : va_X b L xs s s.heap) (hbl : b < s.heap.size) (n : Nat) (hn : n + 7 ≤ L) (hL : L ≤ 448) (hcs : cells ≤ room_1.cells ∧ slots ≤ room_1.slots) (X : SX) (M : St6) (rX : Int32 × SX) (rM : Int32 × St6) (h1 : FX_film X (sc xs n 1) (sc xs n 2) (sc xs n 3) (sc xs n 4) (sc xs n 5) = some rX) (h2 : f_X6_film M (sc xs n 1) (sc xs n 2) (sc xs n 3) (sc xs n 4) (sc xs n 5) = some rM) (hcmp : rX.1 = rM.1) (H : Heap) (locs : List Loc) (ls : Array Slot) (hP : va_P D vwCl ([wX cA o X, w6 cA a M] : List va_W).flatten H) (hD : va_D (old s) ([wX cA o X, w6 cA a M] : List va_W).flatten) (hS : va_S (old s) s.heap H locs) (hl : lv_has ls 4 [(3, .int (nI n)), (2, .ref (a 0)), (1, .ref (o 0 0)), (0, .ref b)]) (kk : ∀ (H : Heap) (locs : List Loc) (ls : Array Slot), va_P D vwCl ([wX cA o rX.2, w6 cA a rM.2] : List va_W).flatten H → va_D (old s) ([wX cA o rX.2, w6 cA a rM.2] : List va_W).flatten → va_S (old s) s.heap H locs → lv_has ls 4 [(3, .int (nI n)), (2, .ref (a 0)), (1, .ref (o 0 0)), (0, .ref b)] → W p l e room_1 s m #[Value.ref b] below meth c H locs cells slots Q (F0 m 1194 ls [])) : W p l e room_1 s m #[Value.ref b] below meth c H locs cells slots Q (F0 m 919 ls []) := by
  obtain ⟨hx, hb, hml, hown, hts, hr, hlk, hKK⟩ := id Z
  have hbA : ¬ old s b := Nat.not_le.mpr hbl
  refine lv_aload_n hx hb dL_law_919 rfl (lv_at hl 2 rfl) ?_
  refine lv_aload_n hx hb dL_law_920 rfl (lv_at hl 3 rfl) ?_
  refine lv_iload_n hx hb dL_law_921 rfl (lv_at hl 0 rfl) ?_
  refine lv_iconst (v := 1) hx hb dL_law_922 (by decide) ?_
  refine lv_iadd hx hb dL_law_923 ?_
  refine va_sld hx hb hX hbl hbA hS (sc_in (k := 1) (by omega) hL) dL_law_924 ?_
  refine lv_eqi (y := sc xs n 1) (scq_eq xs (by omega)) ?_
  refine lv_aload_n hx hb dL_law_925 rfl (lv_at hl 3 rfl) ?_
  refine lv_iload_n hx hb dL_law_926 rfl (lv_at hl 0 rfl) ?_
  refine lv_iconst (v := 2) hx hb dL_law_927 (by decide) ?_
  refine lv_iadd hx hb dL_law_928 ?_
  refine va_sld hx hb hX hbl hbA hS (sc_in (k := 2) (by omega) hL) dL_law_929 ?_
  refine lv_eqi (y := sc xs n 2) (scq_eq xs (by omega)) ?_
  refine lv_aload_n hx hb dL_law_930 rfl (lv_at hl 3 rfl) ?_
  refine lv_iload_n hx hb dL_law_931 rfl (lv_at hl 0 rfl) ?_
  refine lv_iconst (v := 3) hx hb dL_law_932 (by decide) ?_
  refine lv_iadd hx hb dL_law_933 ?_
  refine va_sld hx hb hX hbl hbA hS (sc_in (k := 3) (by omega) hL) dL_law_934 ?_
  refine lv_eqi (y := sc xs n 3) (scq_eq xs (by omega)) ?_
  refine lv_aload_n hx hb dL_law_935 rfl (lv_at hl 3 rfl) ?_
  refine lv_iload_n hx hb dL_law_936 rfl (lv_at hl 0 rfl) ?_
  refine lv_iconst (v := 4) hx hb dL_law_937 (by decide) ?_
  refine lv_iadd hx hb dL_law_938 ?_
  refine va_sld hx hb hX hbl hbA hS (sc_in (k := 4) (by omega) hL) dL_law_939 ?_
  refine lv_eqi (y := sc xs n 4) (scq_eq xs (by omega)) ?_
  refine lv_aload_n hx hb dL_law_940 rfl (lv_at hl 3 rfl) ?_
  refine lv_iload_n hx hb dL_law_941 rfl (lv_at hl 0 rfl) ?_
  refine lv_iconst (v := 5) hx hb dL_law_942 (by decide) ?_
  refine lv_iadd hx hb dL_law_943 ?_
  refine va_sld hx hb hX hbl hbA hS (sc_in (k := 5) (by omega) hL) dL_law_944 ?_
  refine lv_eqi (y := sc xs n 5) (scq_eq xs (by omega)) ?_
  refine kV (rest := []) (st1 := [.int rX.1]) (cr := [w6 cA a M]) (cs' := [wX cA o rX.2, w6 cA a M]) Z (cw_X5_film l D cA o X (sc xs n 1) (sc xs n 2) (sc xs n 3) (sc xs n 4) (sc xs n 5) rX h1) 5 gL_law_X5_film rfl hdX5_film ⟨rfl, rfl⟩ ⟨Nat.le_of_ble_eq_true rfl, Nat.le_of_ble_eq_true rfl⟩ hcs hP hD hS hl.1 rfl rfl rfl (Nat.le_of_ble_eq_true rfl) 5 rfl rfl rfl [0] [1] [1, 0] rfl rfl rfl rfl rfl dL_law_945 (fun H locs hP hD hS => ?_)
  refine lv_aload_n hx hb dL_law_948 rfl (lv_at hl 1 rfl) ?_
  refine lv_aload_n hx hb dL_law_949 rfl (lv_at hl 3 rfl) ?_
  refine lv_iload_n hx hb dL_law_950 rfl (lv_at hl 0 rfl) ?_
  refine lv_iconst (v := 1) hx hb dL_law_951 (by decide) ?_
  refine lv_iadd hx hb dL_law_952 ?_
  refine va_sld hx hb hX hbl hbA hS (sc_in (k := 1) (by omega) hL) dL_law_953 ?_
  refine lv_eqi (y := sc xs n 1) (scq_eq xs (by omega)) ?_
  refine lv_aload_n hx hb dL_law_954 rfl (lv_at hl 3 rfl) ?_
  refine lv_iload_n hx hb dL_law_955 rfl (lv_at hl 0 rfl) ?_
  refine lv_iconst (v := 2) hx hb dL_law_956 (by decide) ?_
  refine lv_iadd hx hb dL_law_957 ?_
  refine va_sld hx hb hX hbl hbA hS (sc_in (k := 2) (by omega) hL) dL_law_958 ?_
  refine lv_eqi (y := sc xs n 2) (scq_eq xs (by omega)) ?_
  refine lv_aload_n hx hb dL_law_959 rfl (lv_at hl 3 rfl) ?_
  refine lv_iload_n hx hb dL_law_960 rfl (lv_at hl 0 rfl) ?_
  refine lv_iconst (v := 3) hx hb dL_law_961 (by decide) ?_
  refine lv_iadd hx hb dL_law_962 ?_
  refine va_sld hx hb hX hbl hbA hS (sc_in (k := 3) (by omega) hL) dL_law_963 ?_
  refine lv_eqi (y := sc xs n 3) (scq_eq xs (by omega)) ?_
  refine lv_aload_n hx hb dL_law_964 rfl (lv_at hl 3 rfl) ?_
  refine lv_iload_n hx hb dL_law_965 rfl (lv_at hl 0 rfl) ?_
  refine lv_iconst (v := 4) hx hb dL_law_966 (by decide) ?_
  refine lv_iadd hx hb dL_law_967 ?_
  refine va_sld hx hb hX hbl hbA hS (sc_in (k := 4) (by omega) hL) dL_law_968 ?_
  refine lv_eqi (y := sc xs n 4) (scq_eq xs (by omega)) ?_
  refine lv_aload_n hx hb dL_law_969 rfl (lv_at hl 3 rfl) ?_
  refine lv_iload_n hx hb dL_law_970 rfl (lv_at hl 0 rfl) ?_
  refine lv_iconst (v := 5) hx hb dL_law_971 (by decide) ?_
  refine lv_iadd hx hb dL_law_972 ?_
  refine va_sld hx hb hX hbl hbA hS (sc_in (k := 5) (by omega) hL) dL_law_973 ?_
  refine lv_eqi (y := sc xs n 5) (scq_eq xs (by omega)) ?_
  refine kV (rest := [.int rX.1]) (st1 := [.int rM.1, .int rX.1]) (cr := [wX cA o rX.2]) (cs' := [wX cA o rX.2, w6 cA a rM.2]) Z (c_X6_film l D cA a M (sc xs n 1) (sc xs n 2) (sc xs n 3) (sc xs n 4) (sc xs n 5) rM h2) 5 gL_law_X6_film rfl hdX6_film ⟨rfl, rfl⟩ ⟨Nat.le_of_ble_eq_true rfl, Nat.le_of_ble_eq_true rfl⟩ hcs hP hD hS hl.1 rfl rfl rfl (Nat.le_of_ble_eq_true rfl) 6 rfl rfl rfl [1] [0] [0, 1] rfl rfl rfl rfl rfl dL_law_974 (fun H locs hP hD hS => ?_)
  refine lv_icmp_eq (tgt := 1194) hx hb dL_law_977 (by decide) (fun _ => ?_) (fun hc => absurd hcmp hc)
  exact kk _ _ _ hP hD hS hl
set_option maxHeartbeats 4000000 in
set_option maxRecDepth 100000 in
theorem lawc_28 {p : Program} {l : Launch} {e : Env} {s : State} {m : MethodId} {below : List Frame} {meth : Method} {c : Code} {D : va_G} {cA : Nat → ClassId} {o : Nat → Nat → Nat} {a : Nat → Nat} {b L : Nat} {xs : Nat → Int32} {Q : State → Prop} {cells slots : Nat} (Z : Cx p s m #[Value.ref b] meth c cL_law 4 (some .boolean) wsL_law RL D cA) (hX : va_X b L xs s s.heap) (hbl : b < s.heap.size) (n : Nat) (hn : n + 7 ≤ L) (hL : L ≤ 448) (hcs : cells ≤ room_1.cells ∧ slots ≤ room_1.slots) (X : SX) (M : St6) (rX : Int32 × SX) (rM : Int32 × St6) (h1 : FX_sheet X (sc xs n 1) (sc xs n 2) (sc xs n 3) = some rX) (h2 : f_X6_sheet M (sc xs n 1) (sc xs n 2) (sc xs n 3) = some rM) (H : Heap) (locs : List Loc) (ls : Array Slot) (hP : va_P D vwCl ([wX cA o X, w6 cA a M] : List va_W).flatten H) (hD : va_D (old s) ([wX cA o X, w6 cA a M] : List va_W).flatten) (hS : va_S (old s) s.heap H locs) (hl : lv_has ls 4 [(3, .int (nI n)), (2, .ref (a 0)), (1, .ref (o 0 0)), (0, .ref b)]) (kk : ∀ (H : Heap) (locs : List Loc) (ls : Array Slot), va_P D vwCl ([wX cA o rX.2, w6 cA a rM.2] : List va_W).flatten H → va_D (old s) ([wX cA o rX.2, w6 cA a rM.2] : List va_W).flatten → va_S (old s) s.heap H locs → lv_has ls 4 [(3, .int (nI n)), (2, .ref (a 0)), (1, .ref (o 0 0)), (0, .ref b)] → W p l e room_1 s m #[Value.ref b] below meth c H locs cells slots Q (F0 m 1194 ls [])) : W p l e room_1 s m #[Value.ref b] below meth c H locs cells slots Q (F0 m 982 ls []) := by
  obtain ⟨hx, hb, hml, hown, hts, hr, hlk, hKK⟩ := id Z
  have hbA : ¬ old s b := Nat.not_le.mpr hbl
  refine lv_aload_n hx hb dL_law_982 rfl (lv_at hl 2 rfl) ?_
  refine lv_aload_n hx hb dL_law_983 rfl (lv_at hl 3 rfl) ?_
  refine lv_iload_n hx hb dL_law_984 rfl (lv_at hl 0 rfl) ?_
  refine lv_iconst (v := 1) hx hb dL_law_985 (by decide) ?_
  refine lv_iadd hx hb dL_law_986 ?_
  refine va_sld hx hb hX hbl hbA hS (sc_in (k := 1) (by omega) hL) dL_law_987 ?_
  refine lv_eqi (y := sc xs n 1) (scq_eq xs (by omega)) ?_
  refine lv_aload_n hx hb dL_law_988 rfl (lv_at hl 3 rfl) ?_
  refine lv_iload_n hx hb dL_law_989 rfl (lv_at hl 0 rfl) ?_
  refine lv_iconst (v := 2) hx hb dL_law_990 (by decide) ?_
  refine lv_iadd hx hb dL_law_991 ?_
  refine va_sld hx hb hX hbl hbA hS (sc_in (k := 2) (by omega) hL) dL_law_992 ?_
  refine lv_eqi (y := sc xs n 2) (scq_eq xs (by omega)) ?_
  refine lv_aload_n hx hb dL_law_993 rfl (lv_at hl 3 rfl) ?_
  refine lv_iload_n hx hb dL_law_994 rfl (lv_at hl 0 rfl) ?_
  refine lv_iconst (v := 3) hx hb dL_law_995 (by decide) ?_
  refine lv_iadd hx hb dL_law_996 ?_
  refine va_sld hx hb hX hbl hbA hS (sc_in (k := 3) (by omega) hL) dL_law_997 ?_
  refine lv_eqi (y := sc xs n 3) (scq_eq xs (by omega)) ?_
  refine kV (rest := []) (st1 := [.int rX.1]) (cr := [w6 cA a M]) (cs' := [wX cA o rX.2, w6 cA a M]) Z (cw_X5_sheet l D cA o X (sc xs n 1) (sc xs n 2) (sc xs n 3) rX h1) 3 gL_law_X5_sheet rfl hdX5_sheet ⟨rfl, rfl⟩ ⟨Nat.le_of_ble_eq_true rfl, Nat.le_of_ble_eq_true rfl⟩ hcs hP hD hS hl.1 rfl rfl rfl (Nat.le_of_ble_eq_true rfl) 5 rfl rfl rfl [0] [1] [1, 0] rfl rfl rfl rfl rfl dL_law_998 (fun H locs hP hD hS => ?_)
  refine lv_pop hx hb dL_law_1001 rfl ?_
  refine lv_aload_n hx hb dL_law_1002 rfl (lv_at hl 1 rfl) ?_
  refine lv_aload_n hx hb dL_law_1003 rfl (lv_at hl 3 rfl) ?_
  refine lv_iload_n hx hb dL_law_1004 rfl (lv_at hl 0 rfl) ?_
  refine lv_iconst (v := 1) hx hb dL_law_1005 (by decide) ?_
  refine lv_iadd hx hb dL_law_1006 ?_
  refine va_sld hx hb hX hbl hbA hS (sc_in (k := 1) (by omega) hL) dL_law_1007 ?_
  refine lv_eqi (y := sc xs n 1) (scq_eq xs (by omega)) ?_
  refine lv_aload_n hx hb dL_law_1008 rfl (lv_at hl 3 rfl) ?_
  refine lv_iload_n hx hb dL_law_1009 rfl (lv_at hl 0 rfl) ?_
  refine lv_iconst (v := 2) hx hb dL_law_1010 (by decide) ?_
  refine lv_iadd hx hb dL_law_1011 ?_
  refine va_sld hx hb hX hbl hbA hS (sc_in (k := 2) (by omega) hL) dL_law_1012 ?_
  refine lv_eqi (y := sc xs n 2) (scq_eq xs (by omega)) ?_
  refine lv_aload_n hx hb dL_law_1013 rfl (lv_at hl 3 rfl) ?_
  refine lv_iload_n hx hb dL_law_1014 rfl (lv_at hl 0 rfl) ?_
  refine lv_iconst (v := 3) hx hb dL_law_1015 (by decide) ?_
  refine lv_iadd hx hb dL_law_1016 ?_
  refine va_sld hx hb hX hbl hbA hS (sc_in (k := 3) (by omega) hL) dL_law_1017 ?_
  refine lv_eqi (y := sc xs n 3) (scq_eq xs (by omega)) ?_
  refine kV (rest := []) (st1 := [.int rM.1]) (cr := [wX cA o rX.2]) (cs' := [wX cA o rX.2, w6 cA a rM.2]) Z (c_X6_sheet l D cA a M (sc xs n 1) (sc xs n 2) (sc xs n 3) rM h2) 3 gL_law_X6_sheet rfl hdX6_sheet ⟨rfl, rfl⟩ ⟨Nat.le_of_ble_eq_true rfl, Nat.le_of_ble_eq_true rfl⟩ hcs hP hD hS hl.1 rfl rfl rfl (Nat.le_of_ble_eq_true rfl) 6 rfl rfl rfl [1] [0] [0, 1] rfl rfl rfl rfl rfl dL_law_1018 (fun H locs hP hD hS => ?_)
  refine lv_pop hx hb dL_law_1021 rfl ?_
  refine lv_goto (tgt := 1194) hx hb dL_law_1022 (by decide) ?_
  exact kk _ _ _ hP hD hS hl
set_option maxHeartbeats 4000000 in
set_option maxRecDepth 100000 in
theorem lawc_29 {p : Program} {l : Launch} {e : Env} {s : State} {m : MethodId} {below : List Frame} {meth : Method} {c : Code} {D : va_G} {cA : Nat → ClassId} {o : Nat → Nat → Nat} {a : Nat → Nat} {b L : Nat} {xs : Nat → Int32} {Q : State → Prop} {cells slots : Nat} (Z : Cx p s m #[Value.ref b] meth c cL_law 4 (some .boolean) wsL_law RL D cA) (hX : va_X b L xs s s.heap) (hbl : b < s.heap.size) (n : Nat) (hn : n + 7 ≤ L) (hL : L ≤ 448) (hcs : cells ≤ room_1.cells ∧ slots ≤ room_1.slots) (X : SX) (M : St6) (rX : Int32 × SX) (rM : Int32 × St6) (h1 : FX_drop X (sc xs n 1) = some rX) (h2 : f_X6_drop M (sc xs n 1) = some rM) (H : Heap) (locs : List Loc) (ls : Array Slot) (hP : va_P D vwCl ([wX cA o X, w6 cA a M] : List va_W).flatten H) (hD : va_D (old s) ([wX cA o X, w6 cA a M] : List va_W).flatten) (hS : va_S (old s) s.heap H locs) (hl : lv_has ls 4 [(3, .int (nI n)), (2, .ref (a 0)), (1, .ref (o 0 0)), (0, .ref b)]) (kk : ∀ (H : Heap) (locs : List Loc) (ls : Array Slot), va_P D vwCl ([wX cA o rX.2, w6 cA a rM.2] : List va_W).flatten H → va_D (old s) ([wX cA o rX.2, w6 cA a rM.2] : List va_W).flatten → va_S (old s) s.heap H locs → lv_has ls 4 [(3, .int (nI n)), (2, .ref (a 0)), (1, .ref (o 0 0)), (0, .ref b)] → W p l e room_1 s m #[Value.ref b] below meth c H locs cells slots Q (F0 m 1194 ls [])) : W p l e room_1 s m #[Value.ref b] below meth c H locs cells slots Q (F0 m 1025 ls []) := by
  obtain ⟨hx, hb, hml, hown, hts, hr, hlk, hKK⟩ := id Z
  have hbA : ¬ old s b := Nat.not_le.mpr hbl
  refine lv_aload_n hx hb dL_law_1025 rfl (lv_at hl 2 rfl) ?_
  refine lv_aload_n hx hb dL_law_1026 rfl (lv_at hl 3 rfl) ?_
  refine lv_iload_n hx hb dL_law_1027 rfl (lv_at hl 0 rfl) ?_
  refine lv_iconst (v := 1) hx hb dL_law_1028 (by decide) ?_
  refine lv_iadd hx hb dL_law_1029 ?_
  refine va_sld hx hb hX hbl hbA hS (sc_in (k := 1) (by omega) hL) dL_law_1030 ?_
  refine lv_eqi (y := sc xs n 1) (scq_eq xs (by omega)) ?_
  refine kV (rest := []) (st1 := [.int rX.1]) (cr := [w6 cA a M]) (cs' := [wX cA o rX.2, w6 cA a M]) Z (cw_X5_drop l D cA o X (sc xs n 1) rX h1) 1 gL_law_X5_drop rfl hdX5_drop ⟨rfl, rfl⟩ ⟨Nat.le_of_ble_eq_true rfl, Nat.le_of_ble_eq_true rfl⟩ hcs hP hD hS hl.1 rfl rfl rfl (Nat.le_of_ble_eq_true rfl) 5 rfl rfl rfl [0] [1] [1, 0] rfl rfl rfl rfl rfl dL_law_1031 (fun H locs hP hD hS => ?_)
  refine lv_pop hx hb dL_law_1034 rfl ?_
  refine lv_aload_n hx hb dL_law_1035 rfl (lv_at hl 1 rfl) ?_
  refine lv_aload_n hx hb dL_law_1036 rfl (lv_at hl 3 rfl) ?_
  refine lv_iload_n hx hb dL_law_1037 rfl (lv_at hl 0 rfl) ?_
  refine lv_iconst (v := 1) hx hb dL_law_1038 (by decide) ?_
  refine lv_iadd hx hb dL_law_1039 ?_
  refine va_sld hx hb hX hbl hbA hS (sc_in (k := 1) (by omega) hL) dL_law_1040 ?_
  refine lv_eqi (y := sc xs n 1) (scq_eq xs (by omega)) ?_
  refine kV (rest := []) (st1 := [.int rM.1]) (cr := [wX cA o rX.2]) (cs' := [wX cA o rX.2, w6 cA a rM.2]) Z (c_X6_drop l D cA a M (sc xs n 1) rM h2) 1 gL_law_X6_drop rfl hdX6_drop ⟨rfl, rfl⟩ ⟨Nat.le_of_ble_eq_true rfl, Nat.le_of_ble_eq_true rfl⟩ hcs hP hD hS hl.1 rfl rfl rfl (Nat.le_of_ble_eq_true rfl) 6 rfl rfl rfl [1] [0] [0, 1] rfl rfl rfl rfl rfl dL_law_1041 (fun H locs hP hD hS => ?_)
  refine lv_pop hx hb dL_law_1044 rfl ?_
  refine lv_goto (tgt := 1194) hx hb dL_law_1045 (by decide) ?_
  exact kk _ _ _ hP hD hS hl
theorem ckL_1079 : Cond.constantLong RL 139 4294967295 ∈ wsL_law := by decide +kernel
theorem ckL_1119 : Cond.constantLong RL 139 4294967295 ∈ wsL_law := by decide +kernel
set_option maxHeartbeats 4000000 in
set_option maxRecDepth 100000 in
theorem lawc_30 {p : Program} {l : Launch} {e : Env} {s : State} {m : MethodId} {below : List Frame} {meth : Method} {c : Code} {D : va_G} {cA : Nat → ClassId} {o : Nat → Nat → Nat} {a : Nat → Nat} {b L : Nat} {xs : Nat → Int32} {Q : State → Prop} {cells slots : Nat} (Z : Cx p s m #[Value.ref b] meth c cL_law 4 (some .boolean) wsL_law RL D cA) (hX : va_X b L xs s s.heap) (hbl : b < s.heap.size) (n : Nat) (hn : n + 7 ≤ L) (hL : L ≤ 448) (hcs : cells ≤ room_1.cells ∧ slots ≤ room_1.slots) (X : SX) (M : St6) (rX : Int32 × SX) (rM : Int32 × St6) (h1 : FX_item X (sc xs n 1) (sc xs n 2) (sc xs n 3) ((((sc xs n 4).toInt64) <<< ((32 : Int32).toInt64 &&& 63)) ||| (((sc xs n 5).toInt64) &&& 4294967295)) = some rX) (h2 : f_X6_item M (sc xs n 1) (sc xs n 2) (sc xs n 3) ((((sc xs n 4).toInt64) <<< ((32 : Int32).toInt64 &&& 63)) ||| (((sc xs n 5).toInt64) &&& 4294967295)) = some rM) (H : Heap) (locs : List Loc) (ls : Array Slot) (hP : va_P D vwCl ([wX cA o X, w6 cA a M] : List va_W).flatten H) (hD : va_D (old s) ([wX cA o X, w6 cA a M] : List va_W).flatten) (hS : va_S (old s) s.heap H locs) (hl : lv_has ls 4 [(3, .int (nI n)), (2, .ref (a 0)), (1, .ref (o 0 0)), (0, .ref b)]) (kk : ∀ (H : Heap) (locs : List Loc) (ls : Array Slot), va_P D vwCl ([wX cA o rX.2, w6 cA a rM.2] : List va_W).flatten H → va_D (old s) ([wX cA o rX.2, w6 cA a rM.2] : List va_W).flatten → va_S (old s) s.heap H locs → lv_has ls 4 [(3, .int (nI n)), (2, .ref (a 0)), (1, .ref (o 0 0)), (0, .ref b)] → W p l e room_1 s m #[Value.ref b] below meth c H locs cells slots Q (F0 m 1194 ls [])) : W p l e room_1 s m #[Value.ref b] below meth c H locs cells slots Q (F0 m 1048 ls []) := by
  obtain ⟨hx, hb, hml, hown, hts, hr, hlk, hKK⟩ := id Z
  have hbA : ¬ old s b := Nat.not_le.mpr hbl
  refine lv_aload_n hx hb dL_law_1048 rfl (lv_at hl 2 rfl) ?_
  refine lv_aload_n hx hb dL_law_1049 rfl (lv_at hl 3 rfl) ?_
  refine lv_iload_n hx hb dL_law_1050 rfl (lv_at hl 0 rfl) ?_
  refine lv_iconst (v := 1) hx hb dL_law_1051 (by decide) ?_
  refine lv_iadd hx hb dL_law_1052 ?_
  refine va_sld hx hb hX hbl hbA hS (sc_in (k := 1) (by omega) hL) dL_law_1053 ?_
  refine lv_eqi (y := sc xs n 1) (scq_eq xs (by omega)) ?_
  refine lv_aload_n hx hb dL_law_1054 rfl (lv_at hl 3 rfl) ?_
  refine lv_iload_n hx hb dL_law_1055 rfl (lv_at hl 0 rfl) ?_
  refine lv_iconst (v := 2) hx hb dL_law_1056 (by decide) ?_
  refine lv_iadd hx hb dL_law_1057 ?_
  refine va_sld hx hb hX hbl hbA hS (sc_in (k := 2) (by omega) hL) dL_law_1058 ?_
  refine lv_eqi (y := sc xs n 2) (scq_eq xs (by omega)) ?_
  refine lv_aload_n hx hb dL_law_1059 rfl (lv_at hl 3 rfl) ?_
  refine lv_iload_n hx hb dL_law_1060 rfl (lv_at hl 0 rfl) ?_
  refine lv_iconst (v := 3) hx hb dL_law_1061 (by decide) ?_
  refine lv_iadd hx hb dL_law_1062 ?_
  refine va_sld hx hb hX hbl hbA hS (sc_in (k := 3) (by omega) hL) dL_law_1063 ?_
  refine lv_eqi (y := sc xs n 3) (scq_eq xs (by omega)) ?_
  refine lv_aload_n hx hb dL_law_1064 rfl (lv_at hl 3 rfl) ?_
  refine lv_iload_n hx hb dL_law_1065 rfl (lv_at hl 0 rfl) ?_
  refine lv_iconst (v := 4) hx hb dL_law_1066 (by decide) ?_
  refine lv_iadd hx hb dL_law_1067 ?_
  refine va_sld hx hb hX hbl hbA hS (sc_in (k := 4) (by omega) hL) dL_law_1068 ?_
  refine lv_eqi (y := sc xs n 4) (scq_eq xs (by omega)) ?_
  refine lv_i2l (v := (sc xs n 4).toInt64) hx hb dL_law_1069 rfl ?_
  refine lv_bipush (v := 32) hx hb dL_law_1070 (by decide) ?_
  refine lv_lshl (v := ((sc xs n 4).toInt64) <<< ((32 : Int32).toInt64 &&& 63)) hx hb dL_law_1072 rfl ?_
  refine lv_aload_n hx hb dL_law_1073 rfl (lv_at hl 3 rfl) ?_
  refine lv_iload_n hx hb dL_law_1074 rfl (lv_at hl 0 rfl) ?_
  refine lv_iconst (v := 5) hx hb dL_law_1075 (by decide) ?_
  refine lv_iadd hx hb dL_law_1076 ?_
  refine va_sld hx hb hX hbl hbA hS (sc_in (k := 5) (by omega) hL) dL_law_1077 ?_
  refine lv_eqi (y := sc xs n 5) (scq_eq xs (by omega)) ?_
  refine lv_i2l (v := (sc xs n 5).toInt64) hx hb dL_law_1078 rfl ?_
  refine lv_ldc2 hx hb hown (hts _ ckL_1079) dL_law_1079 ?_
  refine lv_land hx hb dL_law_1082 ?_
  refine lv_lor hx hb dL_law_1083 ?_
  refine kV (rest := []) (st1 := [.int rX.1]) (cr := [w6 cA a M]) (cs' := [wX cA o rX.2, w6 cA a M]) Z (cw_X5_item l D cA o X (sc xs n 1) (sc xs n 2) (sc xs n 3) ((((sc xs n 4).toInt64) <<< ((32 : Int32).toInt64 &&& 63)) ||| (((sc xs n 5).toInt64) &&& 4294967295)) rX h1) 4 gL_law_X5_item rfl hdX5_item ⟨rfl, rfl⟩ ⟨Nat.le_of_ble_eq_true rfl, Nat.le_of_ble_eq_true rfl⟩ hcs hP hD hS hl.1 rfl rfl rfl (Nat.le_of_ble_eq_true rfl) 5 rfl rfl rfl [0] [1] [1, 0] rfl rfl rfl rfl rfl dL_law_1084 (fun H locs hP hD hS => ?_)
  refine lv_pop hx hb dL_law_1087 rfl ?_
  refine lv_aload_n hx hb dL_law_1088 rfl (lv_at hl 1 rfl) ?_
  refine lv_aload_n hx hb dL_law_1089 rfl (lv_at hl 3 rfl) ?_
  refine lv_iload_n hx hb dL_law_1090 rfl (lv_at hl 0 rfl) ?_
  refine lv_iconst (v := 1) hx hb dL_law_1091 (by decide) ?_
  refine lv_iadd hx hb dL_law_1092 ?_
  refine va_sld hx hb hX hbl hbA hS (sc_in (k := 1) (by omega) hL) dL_law_1093 ?_
  refine lv_eqi (y := sc xs n 1) (scq_eq xs (by omega)) ?_
  refine lv_aload_n hx hb dL_law_1094 rfl (lv_at hl 3 rfl) ?_
  refine lv_iload_n hx hb dL_law_1095 rfl (lv_at hl 0 rfl) ?_
  refine lv_iconst (v := 2) hx hb dL_law_1096 (by decide) ?_
  refine lv_iadd hx hb dL_law_1097 ?_
  refine va_sld hx hb hX hbl hbA hS (sc_in (k := 2) (by omega) hL) dL_law_1098 ?_
  refine lv_eqi (y := sc xs n 2) (scq_eq xs (by omega)) ?_
  refine lv_aload_n hx hb dL_law_1099 rfl (lv_at hl 3 rfl) ?_
  refine lv_iload_n hx hb dL_law_1100 rfl (lv_at hl 0 rfl) ?_
  refine lv_iconst (v := 3) hx hb dL_law_1101 (by decide) ?_
  refine lv_iadd hx hb dL_law_1102 ?_
  refine va_sld hx hb hX hbl hbA hS (sc_in (k := 3) (by omega) hL) dL_law_1103 ?_
  refine lv_eqi (y := sc xs n 3) (scq_eq xs (by omega)) ?_
  refine lv_aload_n hx hb dL_law_1104 rfl (lv_at hl 3 rfl) ?_
  refine lv_iload_n hx hb dL_law_1105 rfl (lv_at hl 0 rfl) ?_
  refine lv_iconst (v := 4) hx hb dL_law_1106 (by decide) ?_
  refine lv_iadd hx hb dL_law_1107 ?_
  refine va_sld hx hb hX hbl hbA hS (sc_in (k := 4) (by omega) hL) dL_law_1108 ?_
  refine lv_eqi (y := sc xs n 4) (scq_eq xs (by omega)) ?_
  refine lv_i2l (v := (sc xs n 4).toInt64) hx hb dL_law_1109 rfl ?_
  refine lv_bipush (v := 32) hx hb dL_law_1110 (by decide) ?_
  refine lv_lshl (v := ((sc xs n 4).toInt64) <<< ((32 : Int32).toInt64 &&& 63)) hx hb dL_law_1112 rfl ?_
  refine lv_aload_n hx hb dL_law_1113 rfl (lv_at hl 3 rfl) ?_
  refine lv_iload_n hx hb dL_law_1114 rfl (lv_at hl 0 rfl) ?_
  refine lv_iconst (v := 5) hx hb dL_law_1115 (by decide) ?_
  refine lv_iadd hx hb dL_law_1116 ?_
  refine va_sld hx hb hX hbl hbA hS (sc_in (k := 5) (by omega) hL) dL_law_1117 ?_
  refine lv_eqi (y := sc xs n 5) (scq_eq xs (by omega)) ?_
  refine lv_i2l (v := (sc xs n 5).toInt64) hx hb dL_law_1118 rfl ?_
  refine lv_ldc2 hx hb hown (hts _ ckL_1119) dL_law_1119 ?_
  refine lv_land hx hb dL_law_1122 ?_
  refine lv_lor hx hb dL_law_1123 ?_
  refine kV (rest := []) (st1 := [.int rM.1]) (cr := [wX cA o rX.2]) (cs' := [wX cA o rX.2, w6 cA a rM.2]) Z (c_X6_item l D cA a M (sc xs n 1) (sc xs n 2) (sc xs n 3) ((((sc xs n 4).toInt64) <<< ((32 : Int32).toInt64 &&& 63)) ||| (((sc xs n 5).toInt64) &&& 4294967295)) rM h2) 4 gL_law_X6_item rfl hdX6_item ⟨rfl, rfl⟩ ⟨Nat.le_of_ble_eq_true rfl, Nat.le_of_ble_eq_true rfl⟩ hcs hP hD hS hl.1 rfl rfl rfl (Nat.le_of_ble_eq_true rfl) 6 rfl rfl rfl [1] [0] [0, 1] rfl rfl rfl rfl rfl dL_law_1124 (fun H locs hP hD hS => ?_)
  refine lv_pop hx hb dL_law_1127 rfl ?_
  refine lv_goto (tgt := 1194) hx hb dL_law_1128 (by decide) ?_
  exact kk _ _ _ hP hD hS hl
set_option maxHeartbeats 4000000 in
set_option maxRecDepth 100000 in
theorem lawc_31 {p : Program} {l : Launch} {e : Env} {s : State} {m : MethodId} {below : List Frame} {meth : Method} {c : Code} {D : va_G} {cA : Nat → ClassId} {o : Nat → Nat → Nat} {a : Nat → Nat} {b L : Nat} {xs : Nat → Int32} {Q : State → Prop} {cells slots : Nat} (Z : Cx p s m #[Value.ref b] meth c cL_law 4 (some .boolean) wsL_law RL D cA) (hX : va_X b L xs s s.heap) (hbl : b < s.heap.size) (n : Nat) (hn : n + 7 ≤ L) (hL : L ≤ 448) (hcs : cells ≤ room_1.cells ∧ slots ≤ room_1.slots) (X : SX) (M : St6) (rX : Int32 × SX) (rM : Int32 × St6) (h1 : FX_copy X (sc xs n 1) (sc xs n 2) (sc xs n 3) (sc xs n 4) (sc xs n 5) = some rX) (h2 : f_X6_copy M (sc xs n 1) (sc xs n 2) (sc xs n 3) (sc xs n 4) (sc xs n 5) = some rM) (H : Heap) (locs : List Loc) (ls : Array Slot) (hP : va_P D vwCl ([wX cA o X, w6 cA a M] : List va_W).flatten H) (hD : va_D (old s) ([wX cA o X, w6 cA a M] : List va_W).flatten) (hS : va_S (old s) s.heap H locs) (hl : lv_has ls 4 [(3, .int (nI n)), (2, .ref (a 0)), (1, .ref (o 0 0)), (0, .ref b)]) (kk : ∀ (H : Heap) (locs : List Loc) (ls : Array Slot), va_P D vwCl ([wX cA o rX.2, w6 cA a rM.2] : List va_W).flatten H → va_D (old s) ([wX cA o rX.2, w6 cA a rM.2] : List va_W).flatten → va_S (old s) s.heap H locs → lv_has ls 4 [(3, .int (nI n)), (2, .ref (a 0)), (1, .ref (o 0 0)), (0, .ref b)] → W p l e room_1 s m #[Value.ref b] below meth c H locs cells slots Q (F0 m 1194 ls [])) : W p l e room_1 s m #[Value.ref b] below meth c H locs cells slots Q (F0 m 1131 ls []) := by
  obtain ⟨hx, hb, hml, hown, hts, hr, hlk, hKK⟩ := id Z
  have hbA : ¬ old s b := Nat.not_le.mpr hbl
  refine lv_aload_n hx hb dL_law_1131 rfl (lv_at hl 2 rfl) ?_
  refine lv_aload_n hx hb dL_law_1132 rfl (lv_at hl 3 rfl) ?_
  refine lv_iload_n hx hb dL_law_1133 rfl (lv_at hl 0 rfl) ?_
  refine lv_iconst (v := 1) hx hb dL_law_1134 (by decide) ?_
  refine lv_iadd hx hb dL_law_1135 ?_
  refine va_sld hx hb hX hbl hbA hS (sc_in (k := 1) (by omega) hL) dL_law_1136 ?_
  refine lv_eqi (y := sc xs n 1) (scq_eq xs (by omega)) ?_
  refine lv_aload_n hx hb dL_law_1137 rfl (lv_at hl 3 rfl) ?_
  refine lv_iload_n hx hb dL_law_1138 rfl (lv_at hl 0 rfl) ?_
  refine lv_iconst (v := 2) hx hb dL_law_1139 (by decide) ?_
  refine lv_iadd hx hb dL_law_1140 ?_
  refine va_sld hx hb hX hbl hbA hS (sc_in (k := 2) (by omega) hL) dL_law_1141 ?_
  refine lv_eqi (y := sc xs n 2) (scq_eq xs (by omega)) ?_
  refine lv_aload_n hx hb dL_law_1142 rfl (lv_at hl 3 rfl) ?_
  refine lv_iload_n hx hb dL_law_1143 rfl (lv_at hl 0 rfl) ?_
  refine lv_iconst (v := 3) hx hb dL_law_1144 (by decide) ?_
  refine lv_iadd hx hb dL_law_1145 ?_
  refine va_sld hx hb hX hbl hbA hS (sc_in (k := 3) (by omega) hL) dL_law_1146 ?_
  refine lv_eqi (y := sc xs n 3) (scq_eq xs (by omega)) ?_
  refine lv_aload_n hx hb dL_law_1147 rfl (lv_at hl 3 rfl) ?_
  refine lv_iload_n hx hb dL_law_1148 rfl (lv_at hl 0 rfl) ?_
  refine lv_iconst (v := 4) hx hb dL_law_1149 (by decide) ?_
  refine lv_iadd hx hb dL_law_1150 ?_
  refine va_sld hx hb hX hbl hbA hS (sc_in (k := 4) (by omega) hL) dL_law_1151 ?_
  refine lv_eqi (y := sc xs n 4) (scq_eq xs (by omega)) ?_
  refine lv_aload_n hx hb dL_law_1152 rfl (lv_at hl 3 rfl) ?_
  refine lv_iload_n hx hb dL_law_1153 rfl (lv_at hl 0 rfl) ?_
  refine lv_iconst (v := 5) hx hb dL_law_1154 (by decide) ?_
  refine lv_iadd hx hb dL_law_1155 ?_
  refine va_sld hx hb hX hbl hbA hS (sc_in (k := 5) (by omega) hL) dL_law_1156 ?_
  refine lv_eqi (y := sc xs n 5) (scq_eq xs (by omega)) ?_
  refine kV (rest := []) (st1 := [.int rX.1]) (cr := [w6 cA a M]) (cs' := [wX cA o rX.2, w6 cA a M]) Z (cw_X5_copy l D cA o X (sc xs n 1) (sc xs n 2) (sc xs n 3) (sc xs n 4) (sc xs n 5) rX h1) 5 gL_law_X5_copy rfl hdX5_copy ⟨rfl, rfl⟩ ⟨Nat.le_of_ble_eq_true rfl, Nat.le_of_ble_eq_true rfl⟩ hcs hP hD hS hl.1 rfl rfl rfl (Nat.le_of_ble_eq_true rfl) 5 rfl rfl rfl [0] [1] [1, 0] rfl rfl rfl rfl rfl dL_law_1157 (fun H locs hP hD hS => ?_)
  refine lv_pop hx hb dL_law_1160 rfl ?_
  refine lv_aload_n hx hb dL_law_1161 rfl (lv_at hl 1 rfl) ?_
  refine lv_aload_n hx hb dL_law_1162 rfl (lv_at hl 3 rfl) ?_
  refine lv_iload_n hx hb dL_law_1163 rfl (lv_at hl 0 rfl) ?_
  refine lv_iconst (v := 1) hx hb dL_law_1164 (by decide) ?_
  refine lv_iadd hx hb dL_law_1165 ?_
  refine va_sld hx hb hX hbl hbA hS (sc_in (k := 1) (by omega) hL) dL_law_1166 ?_
  refine lv_eqi (y := sc xs n 1) (scq_eq xs (by omega)) ?_
  refine lv_aload_n hx hb dL_law_1167 rfl (lv_at hl 3 rfl) ?_
  refine lv_iload_n hx hb dL_law_1168 rfl (lv_at hl 0 rfl) ?_
  refine lv_iconst (v := 2) hx hb dL_law_1169 (by decide) ?_
  refine lv_iadd hx hb dL_law_1170 ?_
  refine va_sld hx hb hX hbl hbA hS (sc_in (k := 2) (by omega) hL) dL_law_1171 ?_
  refine lv_eqi (y := sc xs n 2) (scq_eq xs (by omega)) ?_
  refine lv_aload_n hx hb dL_law_1172 rfl (lv_at hl 3 rfl) ?_
  refine lv_iload_n hx hb dL_law_1173 rfl (lv_at hl 0 rfl) ?_
  refine lv_iconst (v := 3) hx hb dL_law_1174 (by decide) ?_
  refine lv_iadd hx hb dL_law_1175 ?_
  refine va_sld hx hb hX hbl hbA hS (sc_in (k := 3) (by omega) hL) dL_law_1176 ?_
  refine lv_eqi (y := sc xs n 3) (scq_eq xs (by omega)) ?_
  refine lv_aload_n hx hb dL_law_1177 rfl (lv_at hl 3 rfl) ?_
  refine lv_iload_n hx hb dL_law_1178 rfl (lv_at hl 0 rfl) ?_
  refine lv_iconst (v := 4) hx hb dL_law_1179 (by decide) ?_
  refine lv_iadd hx hb dL_law_1180 ?_
  refine va_sld hx hb hX hbl hbA hS (sc_in (k := 4) (by omega) hL) dL_law_1181 ?_
  refine lv_eqi (y := sc xs n 4) (scq_eq xs (by omega)) ?_
  refine lv_aload_n hx hb dL_law_1182 rfl (lv_at hl 3 rfl) ?_
  refine lv_iload_n hx hb dL_law_1183 rfl (lv_at hl 0 rfl) ?_
  refine lv_iconst (v := 5) hx hb dL_law_1184 (by decide) ?_
  refine lv_iadd hx hb dL_law_1185 ?_
  refine va_sld hx hb hX hbl hbA hS (sc_in (k := 5) (by omega) hL) dL_law_1186 ?_
  refine lv_eqi (y := sc xs n 5) (scq_eq xs (by omega)) ?_
  refine kV (rest := []) (st1 := [.int rM.1]) (cr := [wX cA o rX.2]) (cs' := [wX cA o rX.2, w6 cA a rM.2]) Z (c_X6_copy l D cA a M (sc xs n 1) (sc xs n 2) (sc xs n 3) (sc xs n 4) (sc xs n 5) rM h2) 5 gL_law_X6_copy rfl hdX6_copy ⟨rfl, rfl⟩ ⟨Nat.le_of_ble_eq_true rfl, Nat.le_of_ble_eq_true rfl⟩ hcs hP hD hS hl.1 rfl rfl rfl (Nat.le_of_ble_eq_true rfl) 6 rfl rfl rfl [1] [0] [0, 1] rfl rfl rfl rfl rfl dL_law_1187 (fun H locs hP hD hS => ?_)
  refine lv_pop hx hb dL_law_1190 rfl ?_
  refine lv_goto (tgt := 1194) hx hb dL_law_1191 (by decide) ?_
  exact kk _ _ _ hP hD hS hl
