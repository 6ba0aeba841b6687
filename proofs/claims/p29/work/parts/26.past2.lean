theorem n1_X1_become_X2 : Cond.initialized RX2 ∈ wsX1_become := by decide +kernel
theorem n2_X1_become_X2_become : Cond.instanceMethod yX2_become ∈ wsX1_become := by decide +kernel
theorem n3_X1_become_X2_become : Cond.selects RX2 yX2_become yX2_become ∈ wsX1_become := by decide +kernel
theorem n1_X1_keep_X2 : Cond.initialized RX2 ∈ wsX1_keep := by decide +kernel
theorem n2_X1_keep_X2_become : Cond.instanceMethod yX2_become ∈ wsX1_keep := by decide +kernel
theorem n3_X1_keep_X2_become : Cond.selects RX2 yX2_become yX2_become ∈ wsX1_keep := by decide +kernel
theorem n1_X1_takeBack_X2 : Cond.initialized RX2 ∈ wsX1_takeBack := by decide +kernel
theorem n2_X1_takeBack_X2_become : Cond.instanceMethod yX2_become ∈ wsX1_takeBack := by decide +kernel
theorem n3_X1_takeBack_X2_become : Cond.selects RX2 yX2_become yX2_become ∈ wsX1_takeBack := by decide +kernel
theorem in_X1_become_X1 : ∀ w ∈ wsX10, w ∈ wsX1_become := by decide +kernel
theorem in_X1_keep_X1 : ∀ w ∈ wsX10, w ∈ wsX1_keep := by decide +kernel
theorem in_X1_takeBack_X1 : ∀ w ∈ wsX10, w ∈ wsX1_takeBack := by decide +kernel
theorem in_X1_empty_X1 : ∀ w ∈ wsX10, w ∈ wsX1_empty := by decide +kernel
theorem lk_X1_become_7 : Cond.fieldLink RX1 7 "KeyedFeelings$Past" "size" "I" ∈ wsX1_become := by decide +kernel
theorem lk_X1_become_13 : Cond.fieldLink RX1 13 "KeyedFeelings$Past" "next" "I" ∈ wsX1_become := by decide +kernel
theorem lk_X1_become_18 : Cond.fieldLink RX1 18 "KeyedFeelings$Past" "moments" "[LKeyedFeelings$People;" ∈ wsX1_become := by decide +kernel
theorem lk_X1_keep_7 : Cond.fieldLink RX1 7 "KeyedFeelings$Past" "size" "I" ∈ wsX1_keep := by decide +kernel
theorem lk_X1_keep_13 : Cond.fieldLink RX1 13 "KeyedFeelings$Past" "next" "I" ∈ wsX1_keep := by decide +kernel
theorem lk_X1_keep_18 : Cond.fieldLink RX1 18 "KeyedFeelings$Past" "moments" "[LKeyedFeelings$People;" ∈ wsX1_keep := by decide +kernel
theorem lk_X1_takeBack_7 : Cond.fieldLink RX1 7 "KeyedFeelings$Past" "size" "I" ∈ wsX1_takeBack := by decide +kernel
theorem lk_X1_takeBack_13 : Cond.fieldLink RX1 13 "KeyedFeelings$Past" "next" "I" ∈ wsX1_takeBack := by decide +kernel
theorem lk_X1_takeBack_18 : Cond.fieldLink RX1 18 "KeyedFeelings$Past" "moments" "[LKeyedFeelings$People;" ∈ wsX1_takeBack := by decide +kernel
theorem lk_X1_empty_7 : Cond.fieldLink RX1 7 "KeyedFeelings$Past" "size" "I" ∈ wsX1_empty := by decide +kernel
noncomputable def f_X1_empty (q : St1) : Option St1 := some (s1_size q 0)
noncomputable def rmX1_empty : Room := { frames := 0, cells := 0, slots := 0, locals := 0 }
set_option maxHeartbeats 4000000 in
set_option maxRecDepth 100000 in
theorem c_X1_empty (l : Launch) (D : va_G) (cA : Nat → ClassId) (a : Nat → Nat → Nat) (q : St1) (res : St1) (h : f_X1_empty q = some res) : CT l D cA yX1_empty wsX1_empty rmX1_empty [.ref (a 0 0)] [w1 cA a q] [w1 cA a res] none := by
  have h := Option.some.inj h
  subst h
  refine CT.start (cc := cX1_empty) (maxL := 1) (ret := none) (by decide) rfl (Nat.le_of_ble_eq_true rfl) ?_
  intro p' e s m below meth c Z hP hD hS ls hl
  have Z : Cx p' s m _ meth c cX1_empty 1 none wsX1_empty RX1 D cA := Z
  have hl : lv_has ls 1 [(0, .ref (a 0 0))] := hl
  obtain ⟨hx, hb, hml, hown, hts, hr, hlk, hKK⟩ := id Z
  have hK := hKK.1
  refine lv_aload_n hx hb dX1_empty_0 rfl (lv_at hl 0 rfl) ?_
  refine lv_iconst (v := 0) hx hb dX1_empty_1 (by decide) ?_
  refine va_put (D := D) (ci := 1) (v := .int 0) (ty := .int) (C := RX1) (T := TX1) (N := 3) hx hb hts in_X1_empty_X1 tyX1 tyX1_ok nmX1 hown hK hP hD hS 0 rfl rfl 0 (by decide) (hts _ lk_X1_empty_7) (fun _ h9 => h9) rfl (tyX1_ok 0 (by decide)) rfl rfl (Nat.le_of_ble_eq_true rfl) dX1_empty_2 (fun H locs hP hD hS => ?_)
  have hP : va_P D vwCl ([w1 cA a (s1_size q 0)] : List va_W).flatten H := hP
  have hD : va_D _ ([w1 cA a (s1_size q 0)] : List va_W).flatten := hD
  exact CT.vret Z hP hD hS dX1_empty_5
noncomputable def f_X1_keep (q : St1) (p : St2) : Option St1 := if inB (p1_next q) 8 = true then some (if p1_size q + 1 < 8 then p1_size q + 1 else 8, (p1_next q + 1) - (p1_next q + 1) / 8 * 8, va_up (p1_ms q) (p1_next q).toNatClampNeg p) else none
noncomputable def rmX1_keep : Room := { frames := 1, cells := 0, slots := 0, locals := 22 }
theorem jm_X1_keep : Cond.methodLink RX1 27 Lib.Math.min.name ∈ wsX1_keep := by decide +kernel
theorem js_X1_keep : Cond.static Lib.Math.min.name ∈ wsX1_keep := by decide +kernel
theorem ji_X1_keep : Cond.initialized "java/lang/Math" ∈ wsX1_keep := by decide +kernel
theorem jc_X1_keep : Cond.code Lib.Math.min.name Lib.Math.min.code 2 (some .int) ∈ wsX1_keep := by decide +kernel
set_option maxHeartbeats 4000000 in
set_option maxRecDepth 100000 in
theorem c_X1_keep (l : Launch) (D : va_G) (cA : Nat → ClassId) (a : Nat → Nat → Nat) (b : Nat → Nat) (q : St1) (p : St2) (res : St1) (h : f_X1_keep q p = some res) : CT l D cA yX1_keep wsX1_keep rmX1_keep [.ref (a 0 0), .ref (b 0)] [w1 cA a q, w2 cA b p] [w1 cA a res, w2 cA b p] none := by
  obtain ⟨hg, h⟩ := if_inv h
  have h := Option.some.inj h
  subst h
  obtain ⟨sz, nx, ms⟩ := q
  obtain ⟨j, hj, hnx⟩ := vp_in_of (inB_in hg) (by decide)
  have hnx : nx = nI j := hnx
  subst hnx
  rw [show (p1_next (sz, nI j, ms)).toNatClampNeg = j from nI_clamp (by omega)]
  refine CT.pre (cs := cs1 cA a (sz, nI j, ms) (ms 0) (ms 1) (ms 2) (ms 3) (ms 4) (ms 5) (ms 6) (ms 7) ++ [w2 cA b p]) ?_ (w1_fl _ _ _ _)
  refine CT.post (cs' := cs1 cA a (if sz + 1 < 8 then sz + 1 else 8, (nI j + 1) - (nI j + 1) / 8 * 8, ms) (va_up ms j p 0) (va_up ms j p 1) (va_up ms j p 2) (va_up ms j p 3) (va_up ms j p 4) (va_up ms j p 5) (va_up ms j p 6) (va_up ms j p 7) ++ [w2 cA b p]) ?_ (fun H hh => by rw [w1_fl]; exact hh) (by rw [w1_fl]; try rfl)
  refine CT.start (cc := cX1_keep) (maxL := 2) (ret := none) (by decide) rfl (Nat.le_of_ble_eq_true rfl) ?_
  intro p' e s m below meth c Z hP hD hS ls hl
  have Z : Cx p' s m _ meth c cX1_keep 2 none wsX1_keep RX1 D cA := Z
  have hl : lv_has ls 2 [(0, .ref (a 0 0)), (1, .ref (b 0))] := hl
  obtain ⟨hx, hb, hml, hown, hts, hr, hlk, hKK⟩ := id Z
  have hK := hKK.1
  refine lv_aload_n hx hb dX1_keep_0 rfl (lv_at hl 0 rfl) ?_
  refine va_get (D := D) (ci := 1) (v := .ref (a 0 1)) (C := RX1) (T := TX1) (N := 3) hx hb hts in_X1_keep_X1 hown hK hP 0 rfl rfl 2 (by decide) (hts _ lk_X1_keep_18) (fun _ h9 => h9) rfl dX1_keep_1 ?_
  refine lv_aload_n hx hb dX1_keep_4 rfl (lv_at hl 0 rfl) ?_
  refine va_get (D := D) (ci := 1) (v := .int (nI j)) (C := RX1) (T := TX1) (N := 3) hx hb hts in_X1_keep_X1 hown hK hP 0 rfl rfl 1 (by decide) (hts _ lk_X1_keep_13) (fun _ h9 => h9) rfl dX1_keep_5 ?_
  refine va_aldq hx hb hK hP 1 2 rfl rfl (vp_in_nI hj (by decide)) dX1_keep_8 ?_
  rw [show (nI j).toNatClampNeg = j from nI_clamp (by omega)]
  refine lv_aload_n hx hb dX1_keep_9 rfl (lv_at hl 1 rfl) ?_
  have tail : ∀ (H : Heap) (locs : List Loc), va_P D vwCl (cs1 cA a (sz, nI j, ms) (va_up ms j p 0) (va_up ms j p 1) (va_up ms j p 2) (va_up ms j p 3) (va_up ms j p 4) (va_up ms j p 5) (va_up ms j p 6) (va_up ms j p 7) ++ [w2 cA b p] : List va_W).flatten H → va_D (aIn (cs1 cA a (sz, nI j, ms) (ms 0) (ms 1) (ms 2) (ms 3) (ms 4) (ms 5) (ms 6) (ms 7) ++ [w2 cA b p] : List va_W).flatten) (cs1 cA a (sz, nI j, ms) (va_up ms j p 0) (va_up ms j p 1) (va_up ms j p 2) (va_up ms j p 3) (va_up ms j p 4) (va_up ms j p 5) (va_up ms j p 6) (va_up ms j p 7) ++ [w2 cA b p] : List va_W).flatten → va_S (aIn (cs1 cA a (sz, nI j, ms) (ms 0) (ms 1) (ms 2) (ms 3) (ms 4) (ms 5) (ms 6) (ms 7) ++ [w2 cA b p] : List va_W).flatten) s.heap H locs → W p' l e rmX1_keep s m ([.ref (a 0 0), .ref (b 0)] : List Value).toArray below meth c H locs 0 0 (MQ below (QR D (cs1 cA a (sz, nI j, ms) (ms 0) (ms 1) (ms 2) (ms 3) (ms 4) (ms 5) (ms 6) (ms 7) ++ [w2 cA b p]) (cs1 cA a (if sz + 1 < 8 then sz + 1 else 8, (nI j + 1) - (nI j + 1) / 8 * 8, ms) (va_up ms j p 0) (va_up ms j p 1) (va_up ms j p 2) (va_up ms j p 3) (va_up ms j p 4) (va_up ms j p 5) (va_up ms j p 6) (va_up ms j p 7) ++ [w2 cA b p]) none) ([.ref (a 0 0), .ref (b 0)] : List Value).toArray s 0 0 (aIn (cs1 cA a (sz, nI j, ms) (ms 0) (ms 1) (ms 2) (ms 3) (ms 4) (ms 5) (ms 6) (ms 7) ++ [w2 cA b p] : List va_W).flatten)) (F0 m 13 ls []) := by
    intro H locs hP hD hS
    refine lv_aload_n hx hb dX1_keep_13 rfl (lv_at hl 0 rfl) ?_
    refine lv_aload_n hx hb dX1_keep_14 rfl (lv_at hl 0 rfl) ?_
    refine va_get (D := D) (ci := 1) (v := .int (nI j)) (C := RX1) (T := TX1) (N := 3) hx hb hts in_X1_keep_X1 hown hK hP 0 rfl rfl 1 (by decide) (hts _ lk_X1_keep_13) (fun _ h9 => h9) rfl dX1_keep_15 ?_
    refine lv_iconst (v := 1) hx hb dX1_keep_18 (by decide) ?_
    refine lv_iadd hx hb dX1_keep_19 ?_
    refine lv_bipush (v := 8) hx hb dX1_keep_20 (by decide) ?_
    refine lv_irem hx hb dX1_keep_22 (by decide) ?_
    refine va_put (D := D) (ci := 1) (v := .int ((nI j + 1) - (nI j + 1) / 8 * 8)) (ty := .int) (C := RX1) (T := TX1) (N := 3) hx hb hts in_X1_keep_X1 tyX1 tyX1_ok nmX1 hown hK hP hD hS 0 rfl rfl 1 (by decide) (hts _ lk_X1_keep_13) (fun _ h9 => h9) rfl (tyX1_ok 1 (by decide)) rfl rfl (Nat.le_of_ble_eq_true rfl) dX1_keep_23 (fun H locs hP hD hS => ?_)
    have hP : va_P D vwCl (cs1 cA a (sz, (nI j + 1) - (nI j + 1) / 8 * 8, ms) (va_up ms j p 0) (va_up ms j p 1) (va_up ms j p 2) (va_up ms j p 3) (va_up ms j p 4) (va_up ms j p 5) (va_up ms j p 6) (va_up ms j p 7) ++ [w2 cA b p] : List va_W).flatten H := hP
    have hD : va_D _ (cs1 cA a (sz, (nI j + 1) - (nI j + 1) / 8 * 8, ms) (va_up ms j p 0) (va_up ms j p 1) (va_up ms j p 2) (va_up ms j p 3) (va_up ms j p 4) (va_up ms j p 5) (va_up ms j p 6) (va_up ms j p 7) ++ [w2 cA b p] : List va_W).flatten := hD
    refine lv_aload_n hx hb dX1_keep_26 rfl (lv_at hl 0 rfl) ?_
    refine lv_bipush (v := 8) hx hb dX1_keep_27 (by decide) ?_
    refine lv_aload_n hx hb dX1_keep_29 rfl (lv_at hl 0 rfl) ?_
    refine va_get (D := D) (ci := 1) (v := .int sz) (C := RX1) (T := TX1) (N := 3) hx hb hts in_X1_keep_X1 hown hK hP 0 rfl rfl 0 (by decide) (hts _ lk_X1_keep_7) (fun _ h9 => h9) rfl dX1_keep_30 ?_
    refine lv_iconst (v := 1) hx hb dX1_keep_33 (by decide) ?_
    refine lv_iadd hx hb dX1_keep_34 ?_
    refine va_mmin hx hb (hml.trans hl.1.symm) hown (hts _ jm_X1_keep) (hts _ js_X1_keep) (hts _ ji_X1_keep) (hts _ jc_X1_keep) (Nat.le_of_ble_eq_true rfl) (Nat.le_of_ble_eq_true rfl) (Nat.zero_le _) (Nat.zero_le _) dX1_keep_35 ?_
    refine va_put (D := D) (ci := 1) (v := .int (if sz + 1 < 8 then sz + 1 else 8)) (ty := .int) (C := RX1) (T := TX1) (N := 3) hx hb hts in_X1_keep_X1 tyX1 tyX1_ok nmX1 hown hK hP hD hS 0 rfl rfl 0 (by decide) (hts _ lk_X1_keep_7) (fun _ h9 => h9) rfl (tyX1_ok 0 (by decide)) rfl rfl (Nat.le_of_ble_eq_true rfl) dX1_keep_38 (fun H locs hP hD hS => ?_)
    have hP : va_P D vwCl (cs1 cA a (if sz + 1 < 8 then sz + 1 else 8, (nI j + 1) - (nI j + 1) / 8 * 8, ms) (va_up ms j p 0) (va_up ms j p 1) (va_up ms j p 2) (va_up ms j p 3) (va_up ms j p 4) (va_up ms j p 5) (va_up ms j p 6) (va_up ms j p 7) ++ [w2 cA b p] : List va_W).flatten H := hP
    have hD : va_D _ (cs1 cA a (if sz + 1 < 8 then sz + 1 else 8, (nI j + 1) - (nI j + 1) / 8 * 8, ms) (va_up ms j p 0) (va_up ms j p 1) (va_up ms j p 2) (va_up ms j p 3) (va_up ms j p 4) (va_up ms j p 5) (va_up ms j p 6) (va_up ms j p 7) ++ [w2 cA b p] : List va_W).flatten := hD
    exact CT.vret Z hP hD hS dX1_keep_41
  rcases (show j = 0 ∨ j = 1 ∨ j = 2 ∨ j = 3 ∨ j = 4 ∨ j = 5 ∨ j = 6 ∨ j = 7 by omega) with rfl | rfl | rfl | rfl | rfl | rfl | rfl | rfl
  · refine kVN (rest := []) (st1 := []) (cr := [w1h cA a (sz, nI 0, ms), w2 cA (a 2) (ms 1), w2 cA (a 3) (ms 2), w2 cA (a 4) (ms 3), w2 cA (a 5) (ms 4), w2 cA (a 6) (ms 5), w2 cA (a 7) (ms 6), w2 cA (a 8) (ms 7)]) (cs' := cs1 cA a (sz, nI 0, ms) (va_up ms 0 p 0) (va_up ms 0 p 1) (va_up ms 0 p 2) (va_up ms 0 p 3) (va_up ms 0 p 4) (va_up ms 0 p 5) (va_up ms 0 p 6) (va_up ms 0 p 7) ++ [w2 cA b p]) Z (c_become l D cA (a 1) b (ms 0) p) 1 gX1_keep_X2_become_n23 rfl hdX2_become nk_X1_23 n1_X1_keep_X2 n2_X1_keep_X2_become n3_X1_keep_X2_become ⟨rfl, rfl⟩ ⟨Nat.le_of_ble_eq_true rfl, Nat.le_of_ble_eq_true rfl⟩ ⟨Nat.zero_le _, Nat.zero_le _⟩ hP hD hS hl.1 rfl rfl rfl (Nat.le_of_ble_eq_true rfl) 2 rfl rfl rfl [1, 9] [0, 2, 3, 4, 5, 6, 7, 8] [0, 8, 1, 2, 3, 4, 5, 6, 7, 9] rfl rfl rfl rfl rfl dX1_keep_10 tail
  · refine kVN (rest := []) (st1 := []) (cr := [w1h cA a (sz, nI 1, ms), w2 cA (a 1) (ms 0), w2 cA (a 3) (ms 2), w2 cA (a 4) (ms 3), w2 cA (a 5) (ms 4), w2 cA (a 6) (ms 5), w2 cA (a 7) (ms 6), w2 cA (a 8) (ms 7)]) (cs' := cs1 cA a (sz, nI 1, ms) (va_up ms 1 p 0) (va_up ms 1 p 1) (va_up ms 1 p 2) (va_up ms 1 p 3) (va_up ms 1 p 4) (va_up ms 1 p 5) (va_up ms 1 p 6) (va_up ms 1 p 7) ++ [w2 cA b p]) Z (c_become l D cA (a 2) b (ms 1) p) 1 gX1_keep_X2_become_n23 rfl hdX2_become nk_X1_23 n1_X1_keep_X2 n2_X1_keep_X2_become n3_X1_keep_X2_become ⟨rfl, rfl⟩ ⟨Nat.le_of_ble_eq_true rfl, Nat.le_of_ble_eq_true rfl⟩ ⟨Nat.zero_le _, Nat.zero_le _⟩ hP hD hS hl.1 rfl rfl rfl (Nat.le_of_ble_eq_true rfl) 2 rfl rfl rfl [2, 9] [0, 1, 3, 4, 5, 6, 7, 8] [0, 1, 8, 2, 3, 4, 5, 6, 7, 9] rfl rfl rfl rfl rfl dX1_keep_10 tail
  · refine kVN (rest := []) (st1 := []) (cr := [w1h cA a (sz, nI 2, ms), w2 cA (a 1) (ms 0), w2 cA (a 2) (ms 1), w2 cA (a 4) (ms 3), w2 cA (a 5) (ms 4), w2 cA (a 6) (ms 5), w2 cA (a 7) (ms 6), w2 cA (a 8) (ms 7)]) (cs' := cs1 cA a (sz, nI 2, ms) (va_up ms 2 p 0) (va_up ms 2 p 1) (va_up ms 2 p 2) (va_up ms 2 p 3) (va_up ms 2 p 4) (va_up ms 2 p 5) (va_up ms 2 p 6) (va_up ms 2 p 7) ++ [w2 cA b p]) Z (c_become l D cA (a 3) b (ms 2) p) 1 gX1_keep_X2_become_n23 rfl hdX2_become nk_X1_23 n1_X1_keep_X2 n2_X1_keep_X2_become n3_X1_keep_X2_become ⟨rfl, rfl⟩ ⟨Nat.le_of_ble_eq_true rfl, Nat.le_of_ble_eq_true rfl⟩ ⟨Nat.zero_le _, Nat.zero_le _⟩ hP hD hS hl.1 rfl rfl rfl (Nat.le_of_ble_eq_true rfl) 2 rfl rfl rfl [3, 9] [0, 1, 2, 4, 5, 6, 7, 8] [0, 1, 2, 8, 3, 4, 5, 6, 7, 9] rfl rfl rfl rfl rfl dX1_keep_10 tail
  · refine kVN (rest := []) (st1 := []) (cr := [w1h cA a (sz, nI 3, ms), w2 cA (a 1) (ms 0), w2 cA (a 2) (ms 1), w2 cA (a 3) (ms 2), w2 cA (a 5) (ms 4), w2 cA (a 6) (ms 5), w2 cA (a 7) (ms 6), w2 cA (a 8) (ms 7)]) (cs' := cs1 cA a (sz, nI 3, ms) (va_up ms 3 p 0) (va_up ms 3 p 1) (va_up ms 3 p 2) (va_up ms 3 p 3) (va_up ms 3 p 4) (va_up ms 3 p 5) (va_up ms 3 p 6) (va_up ms 3 p 7) ++ [w2 cA b p]) Z (c_become l D cA (a 4) b (ms 3) p) 1 gX1_keep_X2_become_n23 rfl hdX2_become nk_X1_23 n1_X1_keep_X2 n2_X1_keep_X2_become n3_X1_keep_X2_become ⟨rfl, rfl⟩ ⟨Nat.le_of_ble_eq_true rfl, Nat.le_of_ble_eq_true rfl⟩ ⟨Nat.zero_le _, Nat.zero_le _⟩ hP hD hS hl.1 rfl rfl rfl (Nat.le_of_ble_eq_true rfl) 2 rfl rfl rfl [4, 9] [0, 1, 2, 3, 5, 6, 7, 8] [0, 1, 2, 3, 8, 4, 5, 6, 7, 9] rfl rfl rfl rfl rfl dX1_keep_10 tail
  · refine kVN (rest := []) (st1 := []) (cr := [w1h cA a (sz, nI 4, ms), w2 cA (a 1) (ms 0), w2 cA (a 2) (ms 1), w2 cA (a 3) (ms 2), w2 cA (a 4) (ms 3), w2 cA (a 6) (ms 5), w2 cA (a 7) (ms 6), w2 cA (a 8) (ms 7)]) (cs' := cs1 cA a (sz, nI 4, ms) (va_up ms 4 p 0) (va_up ms 4 p 1) (va_up ms 4 p 2) (va_up ms 4 p 3) (va_up ms 4 p 4) (va_up ms 4 p 5) (va_up ms 4 p 6) (va_up ms 4 p 7) ++ [w2 cA b p]) Z (c_become l D cA (a 5) b (ms 4) p) 1 gX1_keep_X2_become_n23 rfl hdX2_become nk_X1_23 n1_X1_keep_X2 n2_X1_keep_X2_become n3_X1_keep_X2_become ⟨rfl, rfl⟩ ⟨Nat.le_of_ble_eq_true rfl, Nat.le_of_ble_eq_true rfl⟩ ⟨Nat.zero_le _, Nat.zero_le _⟩ hP hD hS hl.1 rfl rfl rfl (Nat.le_of_ble_eq_true rfl) 2 rfl rfl rfl [5, 9] [0, 1, 2, 3, 4, 6, 7, 8] [0, 1, 2, 3, 4, 8, 5, 6, 7, 9] rfl rfl rfl rfl rfl dX1_keep_10 tail
  · refine kVN (rest := []) (st1 := []) (cr := [w1h cA a (sz, nI 5, ms), w2 cA (a 1) (ms 0), w2 cA (a 2) (ms 1), w2 cA (a 3) (ms 2), w2 cA (a 4) (ms 3), w2 cA (a 5) (ms 4), w2 cA (a 7) (ms 6), w2 cA (a 8) (ms 7)]) (cs' := cs1 cA a (sz, nI 5, ms) (va_up ms 5 p 0) (va_up ms 5 p 1) (va_up ms 5 p 2) (va_up ms 5 p 3) (va_up ms 5 p 4) (va_up ms 5 p 5) (va_up ms 5 p 6) (va_up ms 5 p 7) ++ [w2 cA b p]) Z (c_become l D cA (a 6) b (ms 5) p) 1 gX1_keep_X2_become_n23 rfl hdX2_become nk_X1_23 n1_X1_keep_X2 n2_X1_keep_X2_become n3_X1_keep_X2_become ⟨rfl, rfl⟩ ⟨Nat.le_of_ble_eq_true rfl, Nat.le_of_ble_eq_true rfl⟩ ⟨Nat.zero_le _, Nat.zero_le _⟩ hP hD hS hl.1 rfl rfl rfl (Nat.le_of_ble_eq_true rfl) 2 rfl rfl rfl [6, 9] [0, 1, 2, 3, 4, 5, 7, 8] [0, 1, 2, 3, 4, 5, 8, 6, 7, 9] rfl rfl rfl rfl rfl dX1_keep_10 tail
  · refine kVN (rest := []) (st1 := []) (cr := [w1h cA a (sz, nI 6, ms), w2 cA (a 1) (ms 0), w2 cA (a 2) (ms 1), w2 cA (a 3) (ms 2), w2 cA (a 4) (ms 3), w2 cA (a 5) (ms 4), w2 cA (a 6) (ms 5), w2 cA (a 8) (ms 7)]) (cs' := cs1 cA a (sz, nI 6, ms) (va_up ms 6 p 0) (va_up ms 6 p 1) (va_up ms 6 p 2) (va_up ms 6 p 3) (va_up ms 6 p 4) (va_up ms 6 p 5) (va_up ms 6 p 6) (va_up ms 6 p 7) ++ [w2 cA b p]) Z (c_become l D cA (a 7) b (ms 6) p) 1 gX1_keep_X2_become_n23 rfl hdX2_become nk_X1_23 n1_X1_keep_X2 n2_X1_keep_X2_become n3_X1_keep_X2_become ⟨rfl, rfl⟩ ⟨Nat.le_of_ble_eq_true rfl, Nat.le_of_ble_eq_true rfl⟩ ⟨Nat.zero_le _, Nat.zero_le _⟩ hP hD hS hl.1 rfl rfl rfl (Nat.le_of_ble_eq_true rfl) 2 rfl rfl rfl [7, 9] [0, 1, 2, 3, 4, 5, 6, 8] [0, 1, 2, 3, 4, 5, 6, 8, 7, 9] rfl rfl rfl rfl rfl dX1_keep_10 tail
  · refine kVN (rest := []) (st1 := []) (cr := [w1h cA a (sz, nI 7, ms), w2 cA (a 1) (ms 0), w2 cA (a 2) (ms 1), w2 cA (a 3) (ms 2), w2 cA (a 4) (ms 3), w2 cA (a 5) (ms 4), w2 cA (a 6) (ms 5), w2 cA (a 7) (ms 6)]) (cs' := cs1 cA a (sz, nI 7, ms) (va_up ms 7 p 0) (va_up ms 7 p 1) (va_up ms 7 p 2) (va_up ms 7 p 3) (va_up ms 7 p 4) (va_up ms 7 p 5) (va_up ms 7 p 6) (va_up ms 7 p 7) ++ [w2 cA b p]) Z (c_become l D cA (a 8) b (ms 7) p) 1 gX1_keep_X2_become_n23 rfl hdX2_become nk_X1_23 n1_X1_keep_X2 n2_X1_keep_X2_become n3_X1_keep_X2_become ⟨rfl, rfl⟩ ⟨Nat.le_of_ble_eq_true rfl, Nat.le_of_ble_eq_true rfl⟩ ⟨Nat.zero_le _, Nat.zero_le _⟩ hP hD hS hl.1 rfl rfl rfl (Nat.le_of_ble_eq_true rfl) 2 rfl rfl rfl [8, 9] [0, 1, 2, 3, 4, 5, 6, 7] [0, 1, 2, 3, 4, 5, 6, 7, 8, 9] rfl rfl rfl rfl rfl dX1_keep_10 tail

noncomputable def f_X1_takeBack (q : St1) (p : St2) : Option (St1 × St2) := if inB (p1_next q + 8 - 1 - (p1_next q + 8 - 1) / 8 * 8) 8 = true then some ((if 0 < p1_size q - 1 then p1_size q - 1 else 0, p1_next q + 8 - 1 - (p1_next q + 8 - 1) / 8 * 8, p1_ms q), p1_ms q (p1_next q + 8 - 1 - (p1_next q + 8 - 1) / 8 * 8).toNatClampNeg) else none
noncomputable def rmX1_takeBack : Room := { frames := 1, cells := 0, slots := 0, locals := 22 }
theorem jm_X1_takeBack : Cond.methodLink RX1 33 Lib.Math.max.name ∈ wsX1_takeBack := by decide +kernel
theorem js_X1_takeBack : Cond.static Lib.Math.max.name ∈ wsX1_takeBack := by decide +kernel
theorem ji_X1_takeBack : Cond.initialized "java/lang/Math" ∈ wsX1_takeBack := by decide +kernel
theorem jc_X1_takeBack : Cond.code Lib.Math.max.name Lib.Math.max.code 2 (some .int) ∈ wsX1_takeBack := by decide +kernel
set_option maxHeartbeats 4000000 in
set_option maxRecDepth 100000 in
theorem c_X1_takeBack (l : Launch) (D : va_G) (cA : Nat → ClassId) (a : Nat → Nat → Nat) (b : Nat → Nat) (q : St1) (p : St2) (res : St1 × St2) (h : f_X1_takeBack q p = some res) : CT l D cA yX1_takeBack wsX1_takeBack rmX1_takeBack [.ref (a 0 0), .ref (b 0)] [w1 cA a q, w2 cA b p] [w1 cA a res.1, w2 cA b res.2] none := by
  obtain ⟨hg, h⟩ := if_inv h
  have h := Option.some.inj h
  subst h
  obtain ⟨sz, nx, ms⟩ := q
  obtain ⟨j, hj, hnx⟩ := vp_in_of (inB_in hg) (by decide)
  have hnx : nx + 8 - 1 - (nx + 8 - 1) / 8 * 8 = nI j := hnx
  dsimp only
  rw [hnx, show (nI j).toNatClampNeg = j from nI_clamp (by omega)]
  refine CT.pre (cs := cs1 cA a (sz, nx, ms) (ms 0) (ms 1) (ms 2) (ms 3) (ms 4) (ms 5) (ms 6) (ms 7) ++ [w2 cA b p]) ?_ (w1_fl _ _ _ _)
  refine CT.post (cs' := cs1 cA a (if 0 < sz - 1 then sz - 1 else 0, nI j, ms) (ms 0) (ms 1) (ms 2) (ms 3) (ms 4) (ms 5) (ms 6) (ms 7) ++ [w2 cA b (ms j)]) ?_ (fun H hh => by rw [w1_fl]; exact hh) (by rw [w1_fl]; try rfl)
  refine CT.start (cc := cX1_takeBack) (maxL := 2) (ret := none) (by decide) rfl (Nat.le_of_ble_eq_true rfl) ?_
  intro p' e s m below meth c Z hP hD hS ls hl
  have Z : Cx p' s m _ meth c cX1_takeBack 2 none wsX1_takeBack RX1 D cA := Z
  have hl : lv_has ls 2 [(0, .ref (a 0 0)), (1, .ref (b 0))] := hl
  obtain ⟨hx, hb, hml, hown, hts, hr, hlk, hKK⟩ := id Z
  have hK := hKK.1
  refine lv_aload_n hx hb dX1_takeBack_0 rfl (lv_at hl 0 rfl) ?_
  refine lv_aload_n hx hb dX1_takeBack_1 rfl (lv_at hl 0 rfl) ?_
  refine va_get (D := D) (ci := 1) (v := .int nx) (C := RX1) (T := TX1) (N := 3) hx hb hts in_X1_takeBack_X1 hown hK hP 0 rfl rfl 1 (by decide) (hts _ lk_X1_takeBack_13) (fun _ h9 => h9) rfl dX1_takeBack_2 ?_
  refine lv_bipush (v := 8) hx hb dX1_takeBack_5 (by decide) ?_
  refine lv_iadd hx hb dX1_takeBack_7 ?_
  refine lv_iconst (v := 1) hx hb dX1_takeBack_8 (by decide) ?_
  refine lv_isub hx hb dX1_takeBack_9 ?_
  refine lv_bipush (v := 8) hx hb dX1_takeBack_10 (by decide) ?_
  refine lv_irem hx hb dX1_takeBack_12 (by decide) ?_
  rw [hnx]
  refine va_put (D := D) (ci := 1) (v := .int (nI j)) (ty := .int) (C := RX1) (T := TX1) (N := 3) hx hb hts in_X1_takeBack_X1 tyX1 tyX1_ok nmX1 hown hK hP hD hS 0 rfl rfl 1 (by decide) (hts _ lk_X1_takeBack_13) (fun _ h9 => h9) rfl (tyX1_ok 1 (by decide)) rfl rfl (Nat.le_of_ble_eq_true rfl) dX1_takeBack_13 (fun H locs hP hD hS => ?_)
  have hP : va_P D vwCl (cs1 cA a (sz, nI j, ms) (ms 0) (ms 1) (ms 2) (ms 3) (ms 4) (ms 5) (ms 6) (ms 7) ++ [w2 cA b p] : List va_W).flatten H := hP
  have hD : va_D _ (cs1 cA a (sz, nI j, ms) (ms 0) (ms 1) (ms 2) (ms 3) (ms 4) (ms 5) (ms 6) (ms 7) ++ [w2 cA b p] : List va_W).flatten := hD
  refine lv_aload_n hx hb dX1_takeBack_16 rfl (lv_at hl 1 rfl) ?_
  refine lv_aload_n hx hb dX1_takeBack_17 rfl (lv_at hl 0 rfl) ?_
  refine va_get (D := D) (ci := 1) (v := .ref (a 0 1)) (C := RX1) (T := TX1) (N := 3) hx hb hts in_X1_takeBack_X1 hown hK hP 0 rfl rfl 2 (by decide) (hts _ lk_X1_takeBack_18) (fun _ h9 => h9) rfl dX1_takeBack_18 ?_
  refine lv_aload_n hx hb dX1_takeBack_21 rfl (lv_at hl 0 rfl) ?_
  refine va_get (D := D) (ci := 1) (v := .int (nI j)) (C := RX1) (T := TX1) (N := 3) hx hb hts in_X1_takeBack_X1 hown hK hP 0 rfl rfl 1 (by decide) (hts _ lk_X1_takeBack_13) (fun _ h9 => h9) rfl dX1_takeBack_22 ?_
  refine va_aldq hx hb hK hP 1 2 rfl rfl (vp_in_nI hj (by decide)) dX1_takeBack_25 ?_
  rw [show (nI j).toNatClampNeg = j from nI_clamp (by omega)]
  have tail : ∀ (H : Heap) (locs : List Loc), va_P D vwCl (cs1 cA a (sz, nI j, ms) (ms 0) (ms 1) (ms 2) (ms 3) (ms 4) (ms 5) (ms 6) (ms 7) ++ [w2 cA b (ms j)] : List va_W).flatten H → va_D (aIn (cs1 cA a (sz, nx, ms) (ms 0) (ms 1) (ms 2) (ms 3) (ms 4) (ms 5) (ms 6) (ms 7) ++ [w2 cA b p] : List va_W).flatten) (cs1 cA a (sz, nI j, ms) (ms 0) (ms 1) (ms 2) (ms 3) (ms 4) (ms 5) (ms 6) (ms 7) ++ [w2 cA b (ms j)] : List va_W).flatten → va_S (aIn (cs1 cA a (sz, nx, ms) (ms 0) (ms 1) (ms 2) (ms 3) (ms 4) (ms 5) (ms 6) (ms 7) ++ [w2 cA b p] : List va_W).flatten) s.heap H locs → W p' l e rmX1_takeBack s m ([.ref (a 0 0), .ref (b 0)] : List Value).toArray below meth c H locs 0 0 (MQ below (QR D (cs1 cA a (sz, nx, ms) (ms 0) (ms 1) (ms 2) (ms 3) (ms 4) (ms 5) (ms 6) (ms 7) ++ [w2 cA b p]) (cs1 cA a (if 0 < sz - 1 then sz - 1 else 0, nI j, ms) (ms 0) (ms 1) (ms 2) (ms 3) (ms 4) (ms 5) (ms 6) (ms 7) ++ [w2 cA b (ms j)]) none) ([.ref (a 0 0), .ref (b 0)] : List Value).toArray s 0 0 (aIn (cs1 cA a (sz, nx, ms) (ms 0) (ms 1) (ms 2) (ms 3) (ms 4) (ms 5) (ms 6) (ms 7) ++ [w2 cA b p] : List va_W).flatten)) (F0 m 29 ls []) := by
    intro H locs hP hD hS
    refine lv_aload_n hx hb dX1_takeBack_29 rfl (lv_at hl 0 rfl) ?_
    refine lv_iconst (v := 0) hx hb dX1_takeBack_30 (by decide) ?_
    refine lv_aload_n hx hb dX1_takeBack_31 rfl (lv_at hl 0 rfl) ?_
    refine va_get (D := D) (ci := 1) (v := .int sz) (C := RX1) (T := TX1) (N := 3) hx hb hts in_X1_takeBack_X1 hown hK hP 0 rfl rfl 0 (by decide) (hts _ lk_X1_takeBack_7) (fun _ h9 => h9) rfl dX1_takeBack_32 ?_
    refine lv_iconst (v := 1) hx hb dX1_takeBack_35 (by decide) ?_
    refine lv_isub hx hb dX1_takeBack_36 ?_
    refine va_mmax hx hb (hml.trans hl.1.symm) hown (hts _ jm_X1_takeBack) (hts _ js_X1_takeBack) (hts _ ji_X1_takeBack) (hts _ jc_X1_takeBack) (Nat.le_of_ble_eq_true rfl) (Nat.le_of_ble_eq_true rfl) (Nat.zero_le _) (Nat.zero_le _) dX1_takeBack_37 ?_
    refine va_put (D := D) (ci := 1) (v := .int (if 0 < sz - 1 then sz - 1 else 0)) (ty := .int) (C := RX1) (T := TX1) (N := 3) hx hb hts in_X1_takeBack_X1 tyX1 tyX1_ok nmX1 hown hK hP hD hS 0 rfl rfl 0 (by decide) (hts _ lk_X1_takeBack_7) (fun _ h9 => h9) rfl (tyX1_ok 0 (by decide)) rfl rfl (Nat.le_of_ble_eq_true rfl) dX1_takeBack_40 (fun H locs hP hD hS => ?_)
    have hP : va_P D vwCl (cs1 cA a (if 0 < sz - 1 then sz - 1 else 0, nI j, ms) (ms 0) (ms 1) (ms 2) (ms 3) (ms 4) (ms 5) (ms 6) (ms 7) ++ [w2 cA b (ms j)] : List va_W).flatten H := hP
    have hD : va_D _ (cs1 cA a (if 0 < sz - 1 then sz - 1 else 0, nI j, ms) (ms 0) (ms 1) (ms 2) (ms 3) (ms 4) (ms 5) (ms 6) (ms 7) ++ [w2 cA b (ms j)] : List va_W).flatten := hD
    exact CT.vret Z hP hD hS dX1_takeBack_43
  clear hnx hg
  rcases (show j = 0 ∨ j = 1 ∨ j = 2 ∨ j = 3 ∨ j = 4 ∨ j = 5 ∨ j = 6 ∨ j = 7 by omega) with rfl | rfl | rfl | rfl | rfl | rfl | rfl | rfl
  · refine kVN (rest := []) (st1 := []) (cr := [w1h cA a (sz, nI 0, ms), w2 cA (a 2) (ms 1), w2 cA (a 3) (ms 2), w2 cA (a 4) (ms 3), w2 cA (a 5) (ms 4), w2 cA (a 6) (ms 5), w2 cA (a 7) (ms 6), w2 cA (a 8) (ms 7)]) (cs' := cs1 cA a (sz, nI 0, ms) (ms 0) (ms 1) (ms 2) (ms 3) (ms 4) (ms 5) (ms 6) (ms 7) ++ [w2 cA b (ms 0)]) Z (c_become l D cA b (a 1) p (ms 0)) 1 gX1_takeBack_X2_become_n23 rfl hdX2_become nk_X1_23 n1_X1_takeBack_X2 n2_X1_takeBack_X2_become n3_X1_takeBack_X2_become ⟨rfl, rfl⟩ ⟨Nat.le_of_ble_eq_true rfl, Nat.le_of_ble_eq_true rfl⟩ ⟨Nat.zero_le _, Nat.zero_le _⟩ hP hD hS hl.1 rfl rfl rfl (Nat.le_of_ble_eq_true rfl) 2 rfl rfl rfl [9, 1] [0, 2, 3, 4, 5, 6, 7, 8] [0, 9, 1, 2, 3, 4, 5, 6, 7, 8] rfl rfl rfl rfl rfl dX1_takeBack_26 tail
  · refine kVN (rest := []) (st1 := []) (cr := [w1h cA a (sz, nI 1, ms), w2 cA (a 1) (ms 0), w2 cA (a 3) (ms 2), w2 cA (a 4) (ms 3), w2 cA (a 5) (ms 4), w2 cA (a 6) (ms 5), w2 cA (a 7) (ms 6), w2 cA (a 8) (ms 7)]) (cs' := cs1 cA a (sz, nI 1, ms) (ms 0) (ms 1) (ms 2) (ms 3) (ms 4) (ms 5) (ms 6) (ms 7) ++ [w2 cA b (ms 1)]) Z (c_become l D cA b (a 2) p (ms 1)) 1 gX1_takeBack_X2_become_n23 rfl hdX2_become nk_X1_23 n1_X1_takeBack_X2 n2_X1_takeBack_X2_become n3_X1_takeBack_X2_become ⟨rfl, rfl⟩ ⟨Nat.le_of_ble_eq_true rfl, Nat.le_of_ble_eq_true rfl⟩ ⟨Nat.zero_le _, Nat.zero_le _⟩ hP hD hS hl.1 rfl rfl rfl (Nat.le_of_ble_eq_true rfl) 2 rfl rfl rfl [9, 2] [0, 1, 3, 4, 5, 6, 7, 8] [0, 1, 9, 2, 3, 4, 5, 6, 7, 8] rfl rfl rfl rfl rfl dX1_takeBack_26 tail
  · refine kVN (rest := []) (st1 := []) (cr := [w1h cA a (sz, nI 2, ms), w2 cA (a 1) (ms 0), w2 cA (a 2) (ms 1), w2 cA (a 4) (ms 3), w2 cA (a 5) (ms 4), w2 cA (a 6) (ms 5), w2 cA (a 7) (ms 6), w2 cA (a 8) (ms 7)]) (cs' := cs1 cA a (sz, nI 2, ms) (ms 0) (ms 1) (ms 2) (ms 3) (ms 4) (ms 5) (ms 6) (ms 7) ++ [w2 cA b (ms 2)]) Z (c_become l D cA b (a 3) p (ms 2)) 1 gX1_takeBack_X2_become_n23 rfl hdX2_become nk_X1_23 n1_X1_takeBack_X2 n2_X1_takeBack_X2_become n3_X1_takeBack_X2_become ⟨rfl, rfl⟩ ⟨Nat.le_of_ble_eq_true rfl, Nat.le_of_ble_eq_true rfl⟩ ⟨Nat.zero_le _, Nat.zero_le _⟩ hP hD hS hl.1 rfl rfl rfl (Nat.le_of_ble_eq_true rfl) 2 rfl rfl rfl [9, 3] [0, 1, 2, 4, 5, 6, 7, 8] [0, 1, 2, 9, 3, 4, 5, 6, 7, 8] rfl rfl rfl rfl rfl dX1_takeBack_26 tail
  · refine kVN (rest := []) (st1 := []) (cr := [w1h cA a (sz, nI 3, ms), w2 cA (a 1) (ms 0), w2 cA (a 2) (ms 1), w2 cA (a 3) (ms 2), w2 cA (a 5) (ms 4), w2 cA (a 6) (ms 5), w2 cA (a 7) (ms 6), w2 cA (a 8) (ms 7)]) (cs' := cs1 cA a (sz, nI 3, ms) (ms 0) (ms 1) (ms 2) (ms 3) (ms 4) (ms 5) (ms 6) (ms 7) ++ [w2 cA b (ms 3)]) Z (c_become l D cA b (a 4) p (ms 3)) 1 gX1_takeBack_X2_become_n23 rfl hdX2_become nk_X1_23 n1_X1_takeBack_X2 n2_X1_takeBack_X2_become n3_X1_takeBack_X2_become ⟨rfl, rfl⟩ ⟨Nat.le_of_ble_eq_true rfl, Nat.le_of_ble_eq_true rfl⟩ ⟨Nat.zero_le _, Nat.zero_le _⟩ hP hD hS hl.1 rfl rfl rfl (Nat.le_of_ble_eq_true rfl) 2 rfl rfl rfl [9, 4] [0, 1, 2, 3, 5, 6, 7, 8] [0, 1, 2, 3, 9, 4, 5, 6, 7, 8] rfl rfl rfl rfl rfl dX1_takeBack_26 tail
  · refine kVN (rest := []) (st1 := []) (cr := [w1h cA a (sz, nI 4, ms), w2 cA (a 1) (ms 0), w2 cA (a 2) (ms 1), w2 cA (a 3) (ms 2), w2 cA (a 4) (ms 3), w2 cA (a 6) (ms 5), w2 cA (a 7) (ms 6), w2 cA (a 8) (ms 7)]) (cs' := cs1 cA a (sz, nI 4, ms) (ms 0) (ms 1) (ms 2) (ms 3) (ms 4) (ms 5) (ms 6) (ms 7) ++ [w2 cA b (ms 4)]) Z (c_become l D cA b (a 5) p (ms 4)) 1 gX1_takeBack_X2_become_n23 rfl hdX2_become nk_X1_23 n1_X1_takeBack_X2 n2_X1_takeBack_X2_become n3_X1_takeBack_X2_become ⟨rfl, rfl⟩ ⟨Nat.le_of_ble_eq_true rfl, Nat.le_of_ble_eq_true rfl⟩ ⟨Nat.zero_le _, Nat.zero_le _⟩ hP hD hS hl.1 rfl rfl rfl (Nat.le_of_ble_eq_true rfl) 2 rfl rfl rfl [9, 5] [0, 1, 2, 3, 4, 6, 7, 8] [0, 1, 2, 3, 4, 9, 5, 6, 7, 8] rfl rfl rfl rfl rfl dX1_takeBack_26 tail
  · refine kVN (rest := []) (st1 := []) (cr := [w1h cA a (sz, nI 5, ms), w2 cA (a 1) (ms 0), w2 cA (a 2) (ms 1), w2 cA (a 3) (ms 2), w2 cA (a 4) (ms 3), w2 cA (a 5) (ms 4), w2 cA (a 7) (ms 6), w2 cA (a 8) (ms 7)]) (cs' := cs1 cA a (sz, nI 5, ms) (ms 0) (ms 1) (ms 2) (ms 3) (ms 4) (ms 5) (ms 6) (ms 7) ++ [w2 cA b (ms 5)]) Z (c_become l D cA b (a 6) p (ms 5)) 1 gX1_takeBack_X2_become_n23 rfl hdX2_become nk_X1_23 n1_X1_takeBack_X2 n2_X1_takeBack_X2_become n3_X1_takeBack_X2_become ⟨rfl, rfl⟩ ⟨Nat.le_of_ble_eq_true rfl, Nat.le_of_ble_eq_true rfl⟩ ⟨Nat.zero_le _, Nat.zero_le _⟩ hP hD hS hl.1 rfl rfl rfl (Nat.le_of_ble_eq_true rfl) 2 rfl rfl rfl [9, 6] [0, 1, 2, 3, 4, 5, 7, 8] [0, 1, 2, 3, 4, 5, 9, 6, 7, 8] rfl rfl rfl rfl rfl dX1_takeBack_26 tail
  · refine kVN (rest := []) (st1 := []) (cr := [w1h cA a (sz, nI 6, ms), w2 cA (a 1) (ms 0), w2 cA (a 2) (ms 1), w2 cA (a 3) (ms 2), w2 cA (a 4) (ms 3), w2 cA (a 5) (ms 4), w2 cA (a 6) (ms 5), w2 cA (a 8) (ms 7)]) (cs' := cs1 cA a (sz, nI 6, ms) (ms 0) (ms 1) (ms 2) (ms 3) (ms 4) (ms 5) (ms 6) (ms 7) ++ [w2 cA b (ms 6)]) Z (c_become l D cA b (a 7) p (ms 6)) 1 gX1_takeBack_X2_become_n23 rfl hdX2_become nk_X1_23 n1_X1_takeBack_X2 n2_X1_takeBack_X2_become n3_X1_takeBack_X2_become ⟨rfl, rfl⟩ ⟨Nat.le_of_ble_eq_true rfl, Nat.le_of_ble_eq_true rfl⟩ ⟨Nat.zero_le _, Nat.zero_le _⟩ hP hD hS hl.1 rfl rfl rfl (Nat.le_of_ble_eq_true rfl) 2 rfl rfl rfl [9, 7] [0, 1, 2, 3, 4, 5, 6, 8] [0, 1, 2, 3, 4, 5, 6, 9, 7, 8] rfl rfl rfl rfl rfl dX1_takeBack_26 tail
  · refine kVN (rest := []) (st1 := []) (cr := [w1h cA a (sz, nI 7, ms), w2 cA (a 1) (ms 0), w2 cA (a 2) (ms 1), w2 cA (a 3) (ms 2), w2 cA (a 4) (ms 3), w2 cA (a 5) (ms 4), w2 cA (a 6) (ms 5), w2 cA (a 7) (ms 6)]) (cs' := cs1 cA a (sz, nI 7, ms) (ms 0) (ms 1) (ms 2) (ms 3) (ms 4) (ms 5) (ms 6) (ms 7) ++ [w2 cA b (ms 7)]) Z (c_become l D cA b (a 8) p (ms 7)) 1 gX1_takeBack_X2_become_n23 rfl hdX2_become nk_X1_23 n1_X1_takeBack_X2 n2_X1_takeBack_X2_become n3_X1_takeBack_X2_become ⟨rfl, rfl⟩ ⟨Nat.le_of_ble_eq_true rfl, Nat.le_of_ble_eq_true rfl⟩ ⟨Nat.zero_le _, Nat.zero_le _⟩ hP hD hS hl.1 rfl rfl rfl (Nat.le_of_ble_eq_true rfl) 2 rfl rfl rfl [9, 8] [0, 1, 2, 3, 4, 5, 6, 7] [0, 1, 2, 3, 4, 5, 6, 7, 9, 8] rfl rfl rfl rfl rfl dX1_takeBack_26 tail

