theorem w1_addr {D : va_G} {cA : Nat → ClassId} {a b : Nat → Nat → Nat} {q : St1} {H : Heap} (h : ∀ i, i < 9 → a i = b i) (hh : ∀ x ∈ w1 cA a q, va_at D vwCl x H) : ∀ x ∈ w1 cA b q, va_at D vwCl x H := by
  simp only [w1, List.forall_mem_append] at hh ⊢
  rw [← h 1 (by decide), ← h 2 (by decide), ← h 3 (by decide), ← h 4 (by decide), ← h 5 (by decide), ← h 6 (by decide), ← h 7 (by decide), ← h 8 (by decide)]
  refine ⟨?_, hh.2⟩
  have h0 := hh.1
  simp only [w1h, List.forall_mem_cons] at h0 ⊢
  rw [← h 0 (by decide)]
  exact ⟨h0.1, at_arrQ (fun j hj => by rw [h (j + 1) (by omega)]) h0.2.1, h0.2.2⟩
theorem w1_fst {cA : Nat → ClassId} {a b : Nat → Nat → Nat} {q : St1} (h : ∀ i, i < 9 → a i = b i) : (w1 cA a q).map Prod.fst = (w1 cA b q).map Prod.fst := by
  simp only [w1, w1h, List.map_append, List.map_cons, List.map_nil]
  rw [← h 0 (by decide), ← h 1 (by decide), ← h 2 (by decide), ← h 3 (by decide), ← h 4 (by decide), ← h 5 (by decide), ← h 6 (by decide), ← h 7 (by decide), ← h 8 (by decide)]
noncomputable def ad5 (h0 qs : Nat) (aN aK aT aA aM s0 s1 s2 s3 : Nat → Nat) (aP aQ : Nat → Nat → Nat) : Nat → Nat → Nat := fun k =>
  if k = 0 then ad [h0] else if k = 1 then aN else if k = 3 then aK else if k = 5 then aT else if k = 6 then aA else if k = 7 then aM else if k = 8 then ad [qs] else if k = 9 then s0 else if k = 10 then s1 else if k = 11 then s2 else if k = 12 then s3 else if k < 30 then aP (k - 20) else aQ (k - 30)
noncomputable def w5all (cA : Nat → ClassId) (o : Nat → Nat → Nat) (κ : St5) (nw : St2) (ps : St1) (kn : St2) (kp : St1) (tr : St2) (tp : St4) (mt : St0) (s0 s1 s2 s3 : St3) : List va_W := [w5 cA o κ, w2 cA (o 1) nw, w1 cA (fun i => o (20 + i)) ps, w2 cA (o 3) kn, w1 cA (fun i => o (30 + i)) kp, w2 cA (o 5) tr, w4 cA (o 6) tp, w0 cA (o 7) mt, wS cA o (), w3 cA (o 9) s0, w3 cA (o 10) s1, w3 cA (o 11) s2, w3 cA (o 12) s3]
theorem om_X5 : Cond.methodLink RX5 1 objectInit ∈ wsX5_init := by decide +kernel
theorem oi_X5 : Cond.instanceMethod objectInit ∈ wsX5_init := by decide +kernel
theorem oc_X5 : Cond.code objectInit ⟨#[0xb1]⟩ 1 none ∈ wsX5_init := by decide +kernel
theorem in_X5_init_X2 : ∀ w ∈ wsX20, w ∈ wsX5_init := by decide +kernel
theorem cl_X5_7 : Cond.classLink RX5 7 RX2 ∈ wsX5_init := by decide +kernel
theorem it_X5_X2 : Cond.instantiable RX2 7 ∈ wsX5_init := by decide +kernel
theorem iz_X5_X2 : Cond.initialized RX2 ∈ wsX5_init := by decide +kernel
theorem n2_X5_X2_init : Cond.instanceMethod yX2_init ∈ wsX5_init := by decide +kernel
theorem lk_X5_init_10 : Cond.fieldLink RX5 10 "KeyedFeelings" "now" "LKeyedFeelings$People;" ∈ wsX5_init := by decide +kernel
theorem in_X5_init_X5 : ∀ w ∈ wsX50, w ∈ wsX5_init := by decide +kernel
theorem in_X5_init_X1 : ∀ w ∈ wsX10, w ∈ wsX5_init := by decide +kernel
theorem cl_X5_16 : Cond.classLink RX5 16 RX1 ∈ wsX5_init := by decide +kernel
theorem it_X5_X1 : Cond.instantiable RX1 3 ∈ wsX5_init := by decide +kernel
theorem iz_X5_X1 : Cond.initialized RX1 ∈ wsX5_init := by decide +kernel
theorem n2_X5_X1_init : Cond.instanceMethod yX1_init ∈ wsX5_init := by decide +kernel
theorem lk_X5_init_19 : Cond.fieldLink RX5 19 "KeyedFeelings" "past" "LKeyedFeelings$Past;" ∈ wsX5_init := by decide +kernel
theorem lk_X5_init_23 : Cond.fieldLink RX5 23 "KeyedFeelings" "keptNow" "LKeyedFeelings$People;" ∈ wsX5_init := by decide +kernel
theorem lk_X5_init_26 : Cond.fieldLink RX5 26 "KeyedFeelings" "keptPast" "LKeyedFeelings$Past;" ∈ wsX5_init := by decide +kernel
theorem lk_X5_init_29 : Cond.fieldLink RX5 29 "KeyedFeelings" "isKept" "Z" ∈ wsX5_init := by decide +kernel
theorem lk_X5_init_33 : Cond.fieldLink RX5 33 "KeyedFeelings" "trial" "LKeyedFeelings$People;" ∈ wsX5_init := by decide +kernel
theorem in_X5_init_X4 : ∀ w ∈ wsX40, w ∈ wsX5_init := by decide +kernel
theorem cl_X5_36 : Cond.classLink RX5 36 RX4 ∈ wsX5_init := by decide +kernel
theorem it_X5_X4 : Cond.instantiable RX4 3 ∈ wsX5_init := by decide +kernel
theorem iz_X5_X4 : Cond.initialized RX4 ∈ wsX5_init := by decide +kernel
theorem n2_X5_X4_init : Cond.instanceMethod yX4_init ∈ wsX5_init := by decide +kernel
theorem lk_X5_init_39 : Cond.fieldLink RX5 39 "KeyedFeelings" "tape" "LKeyedFeelings$Tape;" ∈ wsX5_init := by decide +kernel
theorem in_X5_init_X0 : ∀ w ∈ wsX00, w ∈ wsX5_init := by decide +kernel
theorem cl_X5_43 : Cond.classLink RX5 43 RX0 ∈ wsX5_init := by decide +kernel
theorem it_X5_X0 : Cond.instantiable RX0 3 ∈ wsX5_init := by decide +kernel
theorem iz_X5_X0 : Cond.initialized RX0 ∈ wsX5_init := by decide +kernel
theorem n2_X5_X0_init : Cond.instanceMethod yX0_init ∈ wsX5_init := by decide +kernel
theorem lk_X5_init_46 : Cond.fieldLink RX5 46 "KeyedFeelings" "matching" "LKeyedFeelings$Matching;" ∈ wsX5_init := by decide +kernel
theorem cl_X5_50 : Cond.classLink RX5 50 RX3 ∈ wsX5_init := by decide +kernel
theorem lk_X5_init_52 : Cond.fieldLink RX5 52 "KeyedFeelings" "sheets" "[LKeyedFeelings$Sheet;" ∈ wsX5_init := by decide +kernel
theorem in_X5_init_X3 : ∀ w ∈ wsX30, w ∈ wsX5_init := by decide +kernel
theorem it_X5_X3 : Cond.instantiable RX3 3 ∈ wsX5_init := by decide +kernel
theorem iz_X5_X3 : Cond.initialized RX3 ∈ wsX5_init := by decide +kernel
theorem n2_X5_X3_init : Cond.instanceMethod yX3_init ∈ wsX5_init := by decide +kernel
noncomputable def rmX5_init : Room := { frames := 3, cells := 113, slots := 801, locals := 53 }
set_option maxHeartbeats 4000000 in
set_option maxRecDepth 100000 in
theorem c_X5_init (l : Launch) (D : va_G) (cA : Nat → ClassId) (h0 sz : Nat) : CN (S := Nat → Nat → Nat) l D cA yX5_init wsX5_init rmX5_init 113 801 h0 (.inr (5, [.null, .null, .null, .null, .int 0, .null, .null, .null, .null])) sz (fun a => a 0 0 = h0) (fun a => (w5all cA a 0 st2_0 st1_0 st2_0 st1_0 st2_0 st4_0 st0_0 st3_0 st3_0 st3_0 st3_0).flatten) := by
  refine CN.start (cc := cX5_init) (maxL := 2) (by decide) rfl rfl (Nat.le_of_ble_eq_true rfl) ?_
  intro p e s m below meth c A Z hN hname hP hD hS hA ls hl kk
  have Z : Cx p s m _ meth c cX5_init 2 none wsX5_init RX5 D cA := Z
  obtain ⟨hx, hb, hml, hown, hts, hr, hlk, hKK⟩ := id Z
  have hK := hKK.1
  refine lv_aload_n hx hb dX5_init_0 rfl (lv_at hl 0 rfl) ?_
  refine W.objInit hx hb hown (hts _ om_X5) (hts _ oi_X5) (hts _ oc_X5) rfl (by rw [hml]; exact hl.1) rfl dX5_init_1 (Nat.le_of_ble_eq_true rfl) (Nat.le_of_ble_eq_true rfl) ?_
  refine W.eq (g2 := F0 m 4 ls []) rfl ?_
  have hP : va_P D vwCl ([[(h0, .inr (5, [.null, .null, .null, .null, .int 0, .null, .null, .null, .null]))]] : List va_W).flatten _ := hP
  have hD : va_D A ([[(h0, .inr (5, [.null, .null, .null, .null, .int 0, .null, .null, .null, .null]))]] : List va_W).flatten := hD
  refine lv_aload_n hx hb dX5_init_4 rfl (lv_at hl 0 rfl) ?_
  refine va_new (ci := 2) (fs := [.int 0, .null, .null, .null, .null, .int 0, .int 0]) (C := RX2) (T := TX2) (N := 7) hx hb hts in_X5_init_X2 tyX2 tyX2_ok hown (hts _ cl_X5_7) (hts _ it_X5_X2) (hts _ iz_X5_X2) hK hP hD hS hA rfl (fun j hj => by rcases (show j = 0 ∨ j = 1 ∨ j = 2 ∨ j = 3 ∨ j = 4 ∨ j = 5 ∨ j = 6 by omega) with rfl | rfl | rfl | rfl | rfl | rfl | rfl <;> rfl) (Nat.le_of_ble_eq_true rfl) (Nat.le_of_ble_eq_true rfl) dX5_init_5 (fun q1 H hP hD hS => ?_)
  have hP : va_P D vwCl (([[(h0, .inr (5, [.null, .null, .null, .null, .int 0, .null, .null, .null, .null]))]] : List va_W).flatten ++ [(q1, .inr (2, [.int 0, .null, .null, .null, .null, .int 0, .int 0]))]) _ := hP
  have hD : va_D A (([[(h0, .inr (5, [.null, .null, .null, .null, .int 0, .null, .null, .null, .null]))]] : List va_W).flatten ++ [(q1, .inr (2, [.int 0, .null, .null, .null, .null, .int 0, .int 0]))]) := hD
  refine lv_dup hx hb dX5_init_8 rfl ?_
  refine kIN (rest := [.ref q1, .ref h0]) Z hN (c_X2_init l D cA q1 _) gX5_init_X2_init_n9 rfl ndX2_init rfl nk_X5_9 iz_X5_X2 n2_X5_X2_init ⟨rfl, rfl⟩ ⟨(Nat.le_of_ble_eq_true rfl), (Nat.le_of_ble_eq_true rfl)⟩ ⟨(Nat.le_of_ble_eq_true rfl), (Nat.le_of_ble_eq_true rfl)⟩ hP hD hS hA hl.1 rfl (Nat.le_of_ble_eq_true rfl) dX5_init_9 (fun a1 H1_ locs1_ ha1 hP1_ hD1_ hS1_ => ?_)
  subst ha1
  have hP : va_P D vwCl ([[(h0, .inr (5, [.null, .null, .null, .null, .int 0, .null, .null, .null, .null]))], w2 cA a1 st2_0] : List va_W).flatten _ := hP1_
  have hD : va_D A ([[(h0, .inr (5, [.null, .null, .null, .null, .int 0, .null, .null, .null, .null]))], w2 cA a1 st2_0] : List va_W).flatten := hD1_
  have hS := hS1_
  refine va_putF (D := D) (ci := 5) (v := .ref (a1 0)) (ty := (.object "KeyedFeelings$People")) (C := RX5) (T := TX5) (N := 9) hx hb hts in_X5_init_X5 tyX5 tyX5_ok nmX5 hown hK hP hD hS 0 rfl rfl 0 (by decide) (hts _ lk_X5_init_10) (fun _ h9 => h9) rfl hname rfl (tyX5_ok 0 (by decide)) rfl rfl (Nat.le_of_ble_eq_true rfl) dX5_init_12 (fun H locs hP hD hS => ?_)
  have hP : va_P D vwCl ([[(h0, .inr (5, [.ref (a1 0), .null, .null, .null, .int 0, .null, .null, .null, .null]))], w2 cA a1 st2_0] : List va_W).flatten _ := hP
  have hD : va_D A ([[(h0, .inr (5, [.ref (a1 0), .null, .null, .null, .int 0, .null, .null, .null, .null]))], w2 cA a1 st2_0] : List va_W).flatten := hD
  refine lv_aload_n hx hb dX5_init_15 rfl (lv_at hl 0 rfl) ?_
  refine va_new (ci := 1) (fs := [.int 0, .int 0, .null]) (C := RX1) (T := TX1) (N := 3) hx hb hts in_X5_init_X1 tyX1 tyX1_ok hown (hts _ cl_X5_16) (hts _ it_X5_X1) (hts _ iz_X5_X1) hK hP hD hS hA rfl (fun j hj => by rcases (show j = 0 ∨ j = 1 ∨ j = 2 by omega) with rfl | rfl | rfl <;> rfl) (Nat.le_of_ble_eq_true rfl) (Nat.le_of_ble_eq_true rfl) dX5_init_16 (fun q2 H hP hD hS => ?_)
  have hP : va_P D vwCl (([[(h0, .inr (5, [.ref (a1 0), .null, .null, .null, .int 0, .null, .null, .null, .null]))], w2 cA a1 st2_0] : List va_W).flatten ++ [(q2, .inr (1, [.int 0, .int 0, .null]))]) _ := hP
  have hD : va_D A (([[(h0, .inr (5, [.ref (a1 0), .null, .null, .null, .int 0, .null, .null, .null, .null]))], w2 cA a1 st2_0] : List va_W).flatten ++ [(q2, .inr (1, [.int 0, .int 0, .null]))]) := hD
  refine lv_dup hx hb dX5_init_19 rfl ?_
  refine kIN (rest := [.ref q2, .ref h0]) Z hN (c_X1_init l D cA q2 _) gX5_init_X1_init_n18 rfl ndX1_init rfl nk_X5_18 iz_X5_X1 n2_X5_X1_init ⟨rfl, rfl⟩ ⟨(Nat.le_of_ble_eq_true rfl), (Nat.le_of_ble_eq_true rfl)⟩ ⟨(Nat.le_of_ble_eq_true rfl), (Nat.le_of_ble_eq_true rfl)⟩ hP hD hS hA hl.1 rfl (Nat.le_of_ble_eq_true rfl) dX5_init_20 (fun a2 H2_ locs2_ ha2 hP2_ hD2_ hS2_ => ?_)
  subst ha2
  have hP : va_P D vwCl ([[(h0, .inr (5, [.ref (a1 0), .null, .null, .null, .int 0, .null, .null, .null, .null]))], w2 cA a1 st2_0, w1 cA a2 st1_0] : List va_W).flatten _ := hP2_
  have hD : va_D A ([[(h0, .inr (5, [.ref (a1 0), .null, .null, .null, .int 0, .null, .null, .null, .null]))], w2 cA a1 st2_0, w1 cA a2 st1_0] : List va_W).flatten := hD2_
  have hS := hS2_
  refine va_putF (D := D) (ci := 5) (v := .ref (a2 0 0)) (ty := (.object "KeyedFeelings$Past")) (C := RX5) (T := TX5) (N := 9) hx hb hts in_X5_init_X5 tyX5 tyX5_ok nmX5 hown hK hP hD hS 0 rfl rfl 1 (by decide) (hts _ lk_X5_init_19) (fun _ h9 => h9) rfl hname rfl (tyX5_ok 1 (by decide)) rfl rfl (Nat.le_of_ble_eq_true rfl) dX5_init_23 (fun H locs hP hD hS => ?_)
  have hP : va_P D vwCl ([[(h0, .inr (5, [.ref (a1 0), .ref (a2 0 0), .null, .null, .int 0, .null, .null, .null, .null]))], w2 cA a1 st2_0, w1 cA a2 st1_0] : List va_W).flatten _ := hP
  have hD : va_D A ([[(h0, .inr (5, [.ref (a1 0), .ref (a2 0 0), .null, .null, .int 0, .null, .null, .null, .null]))], w2 cA a1 st2_0, w1 cA a2 st1_0] : List va_W).flatten := hD
  refine lv_aload_n hx hb dX5_init_26 rfl (lv_at hl 0 rfl) ?_
  refine va_new (ci := 2) (fs := [.int 0, .null, .null, .null, .null, .int 0, .int 0]) (C := RX2) (T := TX2) (N := 7) hx hb hts in_X5_init_X2 tyX2 tyX2_ok hown (hts _ cl_X5_7) (hts _ it_X5_X2) (hts _ iz_X5_X2) hK hP hD hS hA rfl (fun j hj => by rcases (show j = 0 ∨ j = 1 ∨ j = 2 ∨ j = 3 ∨ j = 4 ∨ j = 5 ∨ j = 6 by omega) with rfl | rfl | rfl | rfl | rfl | rfl | rfl <;> rfl) (Nat.le_of_ble_eq_true rfl) (Nat.le_of_ble_eq_true rfl) dX5_init_27 (fun q3 H hP hD hS => ?_)
  have hP : va_P D vwCl (([[(h0, .inr (5, [.ref (a1 0), .ref (a2 0 0), .null, .null, .int 0, .null, .null, .null, .null]))], w2 cA a1 st2_0, w1 cA a2 st1_0] : List va_W).flatten ++ [(q3, .inr (2, [.int 0, .null, .null, .null, .null, .int 0, .int 0]))]) _ := hP
  have hD : va_D A (([[(h0, .inr (5, [.ref (a1 0), .ref (a2 0 0), .null, .null, .int 0, .null, .null, .null, .null]))], w2 cA a1 st2_0, w1 cA a2 st1_0] : List va_W).flatten ++ [(q3, .inr (2, [.int 0, .null, .null, .null, .null, .int 0, .int 0]))]) := hD
  refine lv_dup hx hb dX5_init_30 rfl ?_
  refine kIN (rest := [.ref q3, .ref h0]) Z hN (c_X2_init l D cA q3 _) gX5_init_X2_init_n9 rfl ndX2_init rfl nk_X5_9 iz_X5_X2 n2_X5_X2_init ⟨rfl, rfl⟩ ⟨(Nat.le_of_ble_eq_true rfl), (Nat.le_of_ble_eq_true rfl)⟩ ⟨(Nat.le_of_ble_eq_true rfl), (Nat.le_of_ble_eq_true rfl)⟩ hP hD hS hA hl.1 rfl (Nat.le_of_ble_eq_true rfl) dX5_init_31 (fun a3 H3_ locs3_ ha3 hP3_ hD3_ hS3_ => ?_)
  subst ha3
  have hP : va_P D vwCl ([[(h0, .inr (5, [.ref (a1 0), .ref (a2 0 0), .null, .null, .int 0, .null, .null, .null, .null]))], w2 cA a1 st2_0, w1 cA a2 st1_0, w2 cA a3 st2_0] : List va_W).flatten _ := hP3_
  have hD : va_D A ([[(h0, .inr (5, [.ref (a1 0), .ref (a2 0 0), .null, .null, .int 0, .null, .null, .null, .null]))], w2 cA a1 st2_0, w1 cA a2 st1_0, w2 cA a3 st2_0] : List va_W).flatten := hD3_
  have hS := hS3_
  refine va_putF (D := D) (ci := 5) (v := .ref (a3 0)) (ty := (.object "KeyedFeelings$People")) (C := RX5) (T := TX5) (N := 9) hx hb hts in_X5_init_X5 tyX5 tyX5_ok nmX5 hown hK hP hD hS 0 rfl rfl 2 (by decide) (hts _ lk_X5_init_23) (fun _ h9 => h9) rfl hname rfl (tyX5_ok 2 (by decide)) rfl rfl (Nat.le_of_ble_eq_true rfl) dX5_init_34 (fun H locs hP hD hS => ?_)
  have hP : va_P D vwCl ([[(h0, .inr (5, [.ref (a1 0), .ref (a2 0 0), .ref (a3 0), .null, .int 0, .null, .null, .null, .null]))], w2 cA a1 st2_0, w1 cA a2 st1_0, w2 cA a3 st2_0] : List va_W).flatten _ := hP
  have hD : va_D A ([[(h0, .inr (5, [.ref (a1 0), .ref (a2 0 0), .ref (a3 0), .null, .int 0, .null, .null, .null, .null]))], w2 cA a1 st2_0, w1 cA a2 st1_0, w2 cA a3 st2_0] : List va_W).flatten := hD
  refine lv_aload_n hx hb dX5_init_37 rfl (lv_at hl 0 rfl) ?_
  refine va_new (ci := 1) (fs := [.int 0, .int 0, .null]) (C := RX1) (T := TX1) (N := 3) hx hb hts in_X5_init_X1 tyX1 tyX1_ok hown (hts _ cl_X5_16) (hts _ it_X5_X1) (hts _ iz_X5_X1) hK hP hD hS hA rfl (fun j hj => by rcases (show j = 0 ∨ j = 1 ∨ j = 2 by omega) with rfl | rfl | rfl <;> rfl) (Nat.le_of_ble_eq_true rfl) (Nat.le_of_ble_eq_true rfl) dX5_init_38 (fun q4 H hP hD hS => ?_)
  have hP : va_P D vwCl (([[(h0, .inr (5, [.ref (a1 0), .ref (a2 0 0), .ref (a3 0), .null, .int 0, .null, .null, .null, .null]))], w2 cA a1 st2_0, w1 cA a2 st1_0, w2 cA a3 st2_0] : List va_W).flatten ++ [(q4, .inr (1, [.int 0, .int 0, .null]))]) _ := hP
  have hD : va_D A (([[(h0, .inr (5, [.ref (a1 0), .ref (a2 0 0), .ref (a3 0), .null, .int 0, .null, .null, .null, .null]))], w2 cA a1 st2_0, w1 cA a2 st1_0, w2 cA a3 st2_0] : List va_W).flatten ++ [(q4, .inr (1, [.int 0, .int 0, .null]))]) := hD
  refine lv_dup hx hb dX5_init_41 rfl ?_
  refine kIN (rest := [.ref q4, .ref h0]) Z hN (c_X1_init l D cA q4 _) gX5_init_X1_init_n18 rfl ndX1_init rfl nk_X5_18 iz_X5_X1 n2_X5_X1_init ⟨rfl, rfl⟩ ⟨(Nat.le_of_ble_eq_true rfl), (Nat.le_of_ble_eq_true rfl)⟩ ⟨(Nat.le_of_ble_eq_true rfl), (Nat.le_of_ble_eq_true rfl)⟩ hP hD hS hA hl.1 rfl (Nat.le_of_ble_eq_true rfl) dX5_init_42 (fun a4 H4_ locs4_ ha4 hP4_ hD4_ hS4_ => ?_)
  subst ha4
  have hP : va_P D vwCl ([[(h0, .inr (5, [.ref (a1 0), .ref (a2 0 0), .ref (a3 0), .null, .int 0, .null, .null, .null, .null]))], w2 cA a1 st2_0, w1 cA a2 st1_0, w2 cA a3 st2_0, w1 cA a4 st1_0] : List va_W).flatten _ := hP4_
  have hD : va_D A ([[(h0, .inr (5, [.ref (a1 0), .ref (a2 0 0), .ref (a3 0), .null, .int 0, .null, .null, .null, .null]))], w2 cA a1 st2_0, w1 cA a2 st1_0, w2 cA a3 st2_0, w1 cA a4 st1_0] : List va_W).flatten := hD4_
  have hS := hS4_
  refine va_putF (D := D) (ci := 5) (v := .ref (a4 0 0)) (ty := (.object "KeyedFeelings$Past")) (C := RX5) (T := TX5) (N := 9) hx hb hts in_X5_init_X5 tyX5 tyX5_ok nmX5 hown hK hP hD hS 0 rfl rfl 3 (by decide) (hts _ lk_X5_init_26) (fun _ h9 => h9) rfl hname rfl (tyX5_ok 3 (by decide)) rfl rfl (Nat.le_of_ble_eq_true rfl) dX5_init_45 (fun H locs hP hD hS => ?_)
  have hP : va_P D vwCl ([[(h0, .inr (5, [.ref (a1 0), .ref (a2 0 0), .ref (a3 0), .ref (a4 0 0), .int 0, .null, .null, .null, .null]))], w2 cA a1 st2_0, w1 cA a2 st1_0, w2 cA a3 st2_0, w1 cA a4 st1_0] : List va_W).flatten _ := hP
  have hD : va_D A ([[(h0, .inr (5, [.ref (a1 0), .ref (a2 0 0), .ref (a3 0), .ref (a4 0 0), .int 0, .null, .null, .null, .null]))], w2 cA a1 st2_0, w1 cA a2 st1_0, w2 cA a3 st2_0, w1 cA a4 st1_0] : List va_W).flatten := hD
  refine lv_aload_n hx hb dX5_init_48 rfl (lv_at hl 0 rfl) ?_
  refine lv_iconst (v := 0) hx hb dX5_init_49 (by decide) ?_
  refine va_put (D := D) (ci := 5) (v := .int 0) (ty := .boolean) (C := RX5) (T := TX5) (N := 9) hx hb hts in_X5_init_X5 tyX5 tyX5_ok nmX5 hown hK hP hD hS 0 rfl rfl 4 (by decide) (hts _ lk_X5_init_29) (fun _ h9 => h9) rfl (tyX5_ok 4 (by decide)) (nar_bool (Or.inl rfl)) (fit_bool (Or.inl rfl)) (Nat.le_of_ble_eq_true rfl) dX5_init_50 (fun H locs hP hD hS => ?_)
  have hP : va_P D vwCl ([[(h0, .inr (5, [.ref (a1 0), .ref (a2 0 0), .ref (a3 0), .ref (a4 0 0), .int 0, .null, .null, .null, .null]))], w2 cA a1 st2_0, w1 cA a2 st1_0, w2 cA a3 st2_0, w1 cA a4 st1_0] : List va_W).flatten _ := hP
  have hD : va_D A ([[(h0, .inr (5, [.ref (a1 0), .ref (a2 0 0), .ref (a3 0), .ref (a4 0 0), .int 0, .null, .null, .null, .null]))], w2 cA a1 st2_0, w1 cA a2 st1_0, w2 cA a3 st2_0, w1 cA a4 st1_0] : List va_W).flatten := hD
  refine lv_aload_n hx hb dX5_init_53 rfl (lv_at hl 0 rfl) ?_
  refine va_new (ci := 2) (fs := [.int 0, .null, .null, .null, .null, .int 0, .int 0]) (C := RX2) (T := TX2) (N := 7) hx hb hts in_X5_init_X2 tyX2 tyX2_ok hown (hts _ cl_X5_7) (hts _ it_X5_X2) (hts _ iz_X5_X2) hK hP hD hS hA rfl (fun j hj => by rcases (show j = 0 ∨ j = 1 ∨ j = 2 ∨ j = 3 ∨ j = 4 ∨ j = 5 ∨ j = 6 by omega) with rfl | rfl | rfl | rfl | rfl | rfl | rfl <;> rfl) (Nat.le_of_ble_eq_true rfl) (Nat.le_of_ble_eq_true rfl) dX5_init_54 (fun q5 H hP hD hS => ?_)
  have hP : va_P D vwCl (([[(h0, .inr (5, [.ref (a1 0), .ref (a2 0 0), .ref (a3 0), .ref (a4 0 0), .int 0, .null, .null, .null, .null]))], w2 cA a1 st2_0, w1 cA a2 st1_0, w2 cA a3 st2_0, w1 cA a4 st1_0] : List va_W).flatten ++ [(q5, .inr (2, [.int 0, .null, .null, .null, .null, .int 0, .int 0]))]) _ := hP
  have hD : va_D A (([[(h0, .inr (5, [.ref (a1 0), .ref (a2 0 0), .ref (a3 0), .ref (a4 0 0), .int 0, .null, .null, .null, .null]))], w2 cA a1 st2_0, w1 cA a2 st1_0, w2 cA a3 st2_0, w1 cA a4 st1_0] : List va_W).flatten ++ [(q5, .inr (2, [.int 0, .null, .null, .null, .null, .int 0, .int 0]))]) := hD
  refine lv_dup hx hb dX5_init_57 rfl ?_
  refine kIN (rest := [.ref q5, .ref h0]) Z hN (c_X2_init l D cA q5 _) gX5_init_X2_init_n9 rfl ndX2_init rfl nk_X5_9 iz_X5_X2 n2_X5_X2_init ⟨rfl, rfl⟩ ⟨(Nat.le_of_ble_eq_true rfl), (Nat.le_of_ble_eq_true rfl)⟩ ⟨(Nat.le_of_ble_eq_true rfl), (Nat.le_of_ble_eq_true rfl)⟩ hP hD hS hA hl.1 rfl (Nat.le_of_ble_eq_true rfl) dX5_init_58 (fun a5 H5_ locs5_ ha5 hP5_ hD5_ hS5_ => ?_)
  subst ha5
  have hP : va_P D vwCl ([[(h0, .inr (5, [.ref (a1 0), .ref (a2 0 0), .ref (a3 0), .ref (a4 0 0), .int 0, .null, .null, .null, .null]))], w2 cA a1 st2_0, w1 cA a2 st1_0, w2 cA a3 st2_0, w1 cA a4 st1_0, w2 cA a5 st2_0] : List va_W).flatten _ := hP5_
  have hD : va_D A ([[(h0, .inr (5, [.ref (a1 0), .ref (a2 0 0), .ref (a3 0), .ref (a4 0 0), .int 0, .null, .null, .null, .null]))], w2 cA a1 st2_0, w1 cA a2 st1_0, w2 cA a3 st2_0, w1 cA a4 st1_0, w2 cA a5 st2_0] : List va_W).flatten := hD5_
  have hS := hS5_
  refine va_putF (D := D) (ci := 5) (v := .ref (a5 0)) (ty := (.object "KeyedFeelings$People")) (C := RX5) (T := TX5) (N := 9) hx hb hts in_X5_init_X5 tyX5 tyX5_ok nmX5 hown hK hP hD hS 0 rfl rfl 5 (by decide) (hts _ lk_X5_init_33) (fun _ h9 => h9) rfl hname rfl (tyX5_ok 5 (by decide)) rfl rfl (Nat.le_of_ble_eq_true rfl) dX5_init_61 (fun H locs hP hD hS => ?_)
  have hP : va_P D vwCl ([[(h0, .inr (5, [.ref (a1 0), .ref (a2 0 0), .ref (a3 0), .ref (a4 0 0), .int 0, .ref (a5 0), .null, .null, .null]))], w2 cA a1 st2_0, w1 cA a2 st1_0, w2 cA a3 st2_0, w1 cA a4 st1_0, w2 cA a5 st2_0] : List va_W).flatten _ := hP
  have hD : va_D A ([[(h0, .inr (5, [.ref (a1 0), .ref (a2 0 0), .ref (a3 0), .ref (a4 0 0), .int 0, .ref (a5 0), .null, .null, .null]))], w2 cA a1 st2_0, w1 cA a2 st1_0, w2 cA a3 st2_0, w1 cA a4 st1_0, w2 cA a5 st2_0] : List va_W).flatten := hD
  refine lv_aload_n hx hb dX5_init_64 rfl (lv_at hl 0 rfl) ?_
  refine va_new (ci := 4) (fs := [.null, .int 0, .int 0]) (C := RX4) (T := TX4) (N := 3) hx hb hts in_X5_init_X4 tyX4 tyX4_ok hown (hts _ cl_X5_36) (hts _ it_X5_X4) (hts _ iz_X5_X4) hK hP hD hS hA rfl (fun j hj => by rcases (show j = 0 ∨ j = 1 ∨ j = 2 by omega) with rfl | rfl | rfl <;> rfl) (Nat.le_of_ble_eq_true rfl) (Nat.le_of_ble_eq_true rfl) dX5_init_65 (fun q6 H hP hD hS => ?_)
  have hP : va_P D vwCl (([[(h0, .inr (5, [.ref (a1 0), .ref (a2 0 0), .ref (a3 0), .ref (a4 0 0), .int 0, .ref (a5 0), .null, .null, .null]))], w2 cA a1 st2_0, w1 cA a2 st1_0, w2 cA a3 st2_0, w1 cA a4 st1_0, w2 cA a5 st2_0] : List va_W).flatten ++ [(q6, .inr (4, [.null, .int 0, .int 0]))]) _ := hP
  have hD : va_D A (([[(h0, .inr (5, [.ref (a1 0), .ref (a2 0 0), .ref (a3 0), .ref (a4 0 0), .int 0, .ref (a5 0), .null, .null, .null]))], w2 cA a1 st2_0, w1 cA a2 st1_0, w2 cA a3 st2_0, w1 cA a4 st1_0, w2 cA a5 st2_0] : List va_W).flatten ++ [(q6, .inr (4, [.null, .int 0, .int 0]))]) := hD
  refine lv_dup hx hb dX5_init_68 rfl ?_
  refine kIN (rest := [.ref q6, .ref h0]) Z hN (c_X4_init l D cA q6 _) gX5_init_X4_init_n38 rfl ndX4_init rfl nk_X5_38 iz_X5_X4 n2_X5_X4_init ⟨rfl, rfl⟩ ⟨(Nat.le_of_ble_eq_true rfl), (Nat.le_of_ble_eq_true rfl)⟩ ⟨(Nat.le_of_ble_eq_true rfl), (Nat.le_of_ble_eq_true rfl)⟩ hP hD hS hA hl.1 rfl (Nat.le_of_ble_eq_true rfl) dX5_init_69 (fun a6 H6_ locs6_ ha6 hP6_ hD6_ hS6_ => ?_)
  subst ha6
  have hP : va_P D vwCl ([[(h0, .inr (5, [.ref (a1 0), .ref (a2 0 0), .ref (a3 0), .ref (a4 0 0), .int 0, .ref (a5 0), .null, .null, .null]))], w2 cA a1 st2_0, w1 cA a2 st1_0, w2 cA a3 st2_0, w1 cA a4 st1_0, w2 cA a5 st2_0, w4 cA a6 st4_0] : List va_W).flatten _ := hP6_
  have hD : va_D A ([[(h0, .inr (5, [.ref (a1 0), .ref (a2 0 0), .ref (a3 0), .ref (a4 0 0), .int 0, .ref (a5 0), .null, .null, .null]))], w2 cA a1 st2_0, w1 cA a2 st1_0, w2 cA a3 st2_0, w1 cA a4 st1_0, w2 cA a5 st2_0, w4 cA a6 st4_0] : List va_W).flatten := hD6_
  have hS := hS6_
  refine va_putF (D := D) (ci := 5) (v := .ref (a6 0)) (ty := (.object "KeyedFeelings$Tape")) (C := RX5) (T := TX5) (N := 9) hx hb hts in_X5_init_X5 tyX5 tyX5_ok nmX5 hown hK hP hD hS 0 rfl rfl 6 (by decide) (hts _ lk_X5_init_39) (fun _ h9 => h9) rfl hname rfl (tyX5_ok 6 (by decide)) rfl rfl (Nat.le_of_ble_eq_true rfl) dX5_init_72 (fun H locs hP hD hS => ?_)
  have hP : va_P D vwCl ([[(h0, .inr (5, [.ref (a1 0), .ref (a2 0 0), .ref (a3 0), .ref (a4 0 0), .int 0, .ref (a5 0), .ref (a6 0), .null, .null]))], w2 cA a1 st2_0, w1 cA a2 st1_0, w2 cA a3 st2_0, w1 cA a4 st1_0, w2 cA a5 st2_0, w4 cA a6 st4_0] : List va_W).flatten _ := hP
  have hD : va_D A ([[(h0, .inr (5, [.ref (a1 0), .ref (a2 0 0), .ref (a3 0), .ref (a4 0 0), .int 0, .ref (a5 0), .ref (a6 0), .null, .null]))], w2 cA a1 st2_0, w1 cA a2 st1_0, w2 cA a3 st2_0, w1 cA a4 st1_0, w2 cA a5 st2_0, w4 cA a6 st4_0] : List va_W).flatten := hD
  refine lv_aload_n hx hb dX5_init_75 rfl (lv_at hl 0 rfl) ?_
  refine va_new (ci := 0) (fs := [.int 0, .null, .null]) (C := RX0) (T := TX0) (N := 3) hx hb hts in_X5_init_X0 tyX0 tyX0_ok hown (hts _ cl_X5_43) (hts _ it_X5_X0) (hts _ iz_X5_X0) hK hP hD hS hA rfl (fun j hj => by rcases (show j = 0 ∨ j = 1 ∨ j = 2 by omega) with rfl | rfl | rfl <;> rfl) (Nat.le_of_ble_eq_true rfl) (Nat.le_of_ble_eq_true rfl) dX5_init_76 (fun q7 H hP hD hS => ?_)
  have hP : va_P D vwCl (([[(h0, .inr (5, [.ref (a1 0), .ref (a2 0 0), .ref (a3 0), .ref (a4 0 0), .int 0, .ref (a5 0), .ref (a6 0), .null, .null]))], w2 cA a1 st2_0, w1 cA a2 st1_0, w2 cA a3 st2_0, w1 cA a4 st1_0, w2 cA a5 st2_0, w4 cA a6 st4_0] : List va_W).flatten ++ [(q7, .inr (0, [.int 0, .null, .null]))]) _ := hP
  have hD : va_D A (([[(h0, .inr (5, [.ref (a1 0), .ref (a2 0 0), .ref (a3 0), .ref (a4 0 0), .int 0, .ref (a5 0), .ref (a6 0), .null, .null]))], w2 cA a1 st2_0, w1 cA a2 st1_0, w2 cA a3 st2_0, w1 cA a4 st1_0, w2 cA a5 st2_0, w4 cA a6 st4_0] : List va_W).flatten ++ [(q7, .inr (0, [.int 0, .null, .null]))]) := hD
  refine lv_dup hx hb dX5_init_79 rfl ?_
  refine kIN (rest := [.ref q7, .ref h0]) Z hN (c_X0_init l D cA q7 _) gX5_init_X0_init_n45 rfl ndX0_init rfl nk_X5_45 iz_X5_X0 n2_X5_X0_init ⟨rfl, rfl⟩ ⟨(Nat.le_of_ble_eq_true rfl), (Nat.le_of_ble_eq_true rfl)⟩ ⟨(Nat.le_of_ble_eq_true rfl), (Nat.le_of_ble_eq_true rfl)⟩ hP hD hS hA hl.1 rfl (Nat.le_of_ble_eq_true rfl) dX5_init_80 (fun a7 H7_ locs7_ ha7 hP7_ hD7_ hS7_ => ?_)
  subst ha7
  have hP : va_P D vwCl ([[(h0, .inr (5, [.ref (a1 0), .ref (a2 0 0), .ref (a3 0), .ref (a4 0 0), .int 0, .ref (a5 0), .ref (a6 0), .null, .null]))], w2 cA a1 st2_0, w1 cA a2 st1_0, w2 cA a3 st2_0, w1 cA a4 st1_0, w2 cA a5 st2_0, w4 cA a6 st4_0, w0 cA a7 st0_0] : List va_W).flatten _ := hP7_
  have hD : va_D A ([[(h0, .inr (5, [.ref (a1 0), .ref (a2 0 0), .ref (a3 0), .ref (a4 0 0), .int 0, .ref (a5 0), .ref (a6 0), .null, .null]))], w2 cA a1 st2_0, w1 cA a2 st1_0, w2 cA a3 st2_0, w1 cA a4 st1_0, w2 cA a5 st2_0, w4 cA a6 st4_0, w0 cA a7 st0_0] : List va_W).flatten := hD7_
  have hS := hS7_
  refine va_putF (D := D) (ci := 5) (v := .ref (a7 0)) (ty := (.object "KeyedFeelings$Matching")) (C := RX5) (T := TX5) (N := 9) hx hb hts in_X5_init_X5 tyX5 tyX5_ok nmX5 hown hK hP hD hS 0 rfl rfl 7 (by decide) (hts _ lk_X5_init_46) (fun _ h9 => h9) rfl hname rfl (tyX5_ok 7 (by decide)) rfl rfl (Nat.le_of_ble_eq_true rfl) dX5_init_83 (fun H locs hP hD hS => ?_)
  have hP : va_P D vwCl ([[(h0, .inr (5, [.ref (a1 0), .ref (a2 0 0), .ref (a3 0), .ref (a4 0 0), .int 0, .ref (a5 0), .ref (a6 0), .ref (a7 0), .null]))], w2 cA a1 st2_0, w1 cA a2 st1_0, w2 cA a3 st2_0, w1 cA a4 st1_0, w2 cA a5 st2_0, w4 cA a6 st4_0, w0 cA a7 st0_0] : List va_W).flatten _ := hP
  have hD : va_D A ([[(h0, .inr (5, [.ref (a1 0), .ref (a2 0 0), .ref (a3 0), .ref (a4 0 0), .int 0, .ref (a5 0), .ref (a6 0), .ref (a7 0), .null]))], w2 cA a1 st2_0, w1 cA a2 st1_0, w2 cA a3 st2_0, w1 cA a4 st1_0, w2 cA a5 st2_0, w4 cA a6 st4_0, w0 cA a7 st0_0] : List va_W).flatten := hD
  refine lv_aload_n hx hb dX5_init_86 rfl (lv_at hl 0 rfl) ?_
  refine lv_iconst (v := 4) hx hb dX5_init_87 (by decide) ?_
  refine va_newq (C := RX3) (N' := 4) hx hb hown (hts _ cl_X5_50) hN.2 hK hP hD hS hA (by decide) (by decide) (by decide) (Nat.le_of_ble_eq_true rfl) (Nat.le_of_ble_eq_true rfl) dX5_init_88 (fun qs cm H hK1 hP hD hS => ?_)
  obtain rfl := arrS_same hK hK1
  have hflt : ([[(h0, .inr (5, [.ref (a1 0), .ref (a2 0 0), .ref (a3 0), .ref (a4 0 0), .int 0, .ref (a5 0), .ref (a6 0), .ref (a7 0), .null]))], w2 cA a1 st2_0, w1 cA a2 st1_0, w2 cA a3 st2_0, w1 cA a4 st1_0, w2 cA a5 st2_0, w4 cA a6 st4_0, w0 cA a7 st0_0, [(qs, .inl (cA 3, 4, .inr (.inr (.inr (.inr (fun _ => none))))))]] : List va_W).flatten = ([[(h0, .inr (5, [.ref (a1 0), .ref (a2 0 0), .ref (a3 0), .ref (a4 0 0), .int 0, .ref (a5 0), .ref (a6 0), .ref (a7 0), .null]))], w2 cA a1 st2_0, w1 cA a2 st1_0, w2 cA a3 st2_0, w1 cA a4 st1_0, w2 cA a5 st2_0, w4 cA a6 st4_0, w0 cA a7 st0_0] : List va_W).flatten ++ [(qs, .inl (cA 3, 4, .inr (.inr (.inr (.inr (fun _ => none))))))] := by rw [show ([[(h0, .inr (5, [.ref (a1 0), .ref (a2 0 0), .ref (a3 0), .ref (a4 0 0), .int 0, .ref (a5 0), .ref (a6 0), .ref (a7 0), .null]))], w2 cA a1 st2_0, w1 cA a2 st1_0, w2 cA a3 st2_0, w1 cA a4 st1_0, w2 cA a5 st2_0, w4 cA a6 st4_0, w0 cA a7 st0_0, [(qs, .inl (cA 3, 4, .inr (.inr (.inr (.inr (fun _ => none))))))]] : List va_W) = ([[(h0, .inr (5, [.ref (a1 0), .ref (a2 0 0), .ref (a3 0), .ref (a4 0 0), .int 0, .ref (a5 0), .ref (a6 0), .ref (a7 0), .null]))], w2 cA a1 st2_0, w1 cA a2 st1_0, w2 cA a3 st2_0, w1 cA a4 st1_0, w2 cA a5 st2_0, w4 cA a6 st4_0, w0 cA a7 st0_0] : List va_W) ++ [[(qs, .inl (cA 3, 4, .inr (.inr (.inr (.inr (fun _ => none))))))]] from rfl, List.flatten_append]; rfl
  rw [← hflt] at hP hD
  have hP := chP (cc := ([[(h0, .inr (5, [.ref (a1 0), .ref (a2 0 0), .ref (a3 0), .ref (a4 0 0), .int 0, .ref (a5 0), .ref (a6 0), .ref (a7 0), .null]))], [(qs, .inl (cA 3, 4, .inr (.inr (.inr (.inr (fun _ => none))))))], w2 cA a1 st2_0, w1 cA a2 st1_0, w2 cA a3 st2_0, w1 cA a4 st1_0, w2 cA a5 st2_0, w4 cA a6 st4_0, w0 cA a7 st0_0] : List va_W)) hP [0, 8, 1, 2, 3, 4, 5, 6, 7] rfl
  have hD := chD (cc := ([[(h0, .inr (5, [.ref (a1 0), .ref (a2 0 0), .ref (a3 0), .ref (a4 0 0), .int 0, .ref (a5 0), .ref (a6 0), .ref (a7 0), .null]))], [(qs, .inl (cA 3, 4, .inr (.inr (.inr (.inr (fun _ => none))))))], w2 cA a1 st2_0, w1 cA a2 st1_0, w2 cA a3 st2_0, w1 cA a4 st1_0, w2 cA a5 st2_0, w4 cA a6 st4_0, w0 cA a7 st0_0] : List va_W)) hD [0, 8, 1, 2, 3, 4, 5, 6, 7] rfl rfl
  refine va_putF (D := D) (ci := 5) (v := .ref qs) (ty := (.array (.object "KeyedFeelings$Sheet"))) (C := RX5) (T := TX5) (N := 9) hx hb hts in_X5_init_X5 tyX5 tyX5_ok nmX5 hown hK hP hD hS 0 rfl rfl 8 (by decide) (hts _ lk_X5_init_52) (fun _ h9 => h9) rfl hname rfl (tyX5_ok 8 (by decide)) rfl rfl (Nat.le_of_ble_eq_true rfl) dX5_init_91 (fun H locs hP hD hS => ?_)
  have hP : va_P D vwCl ([[(h0, .inr (5, [.ref (a1 0), .ref (a2 0 0), .ref (a3 0), .ref (a4 0 0), .int 0, .ref (a5 0), .ref (a6 0), .ref (a7 0), .ref qs]))], [(qs, .inl (cA 3, 4, .inr (.inr (.inr (.inr (fun _ => none))))))], w2 cA a1 st2_0, w1 cA a2 st1_0, w2 cA a3 st2_0, w1 cA a4 st1_0, w2 cA a5 st2_0, w4 cA a6 st4_0, w0 cA a7 st0_0] : List va_W).flatten _ := hP
  have hD : va_D A ([[(h0, .inr (5, [.ref (a1 0), .ref (a2 0 0), .ref (a3 0), .ref (a4 0 0), .int 0, .ref (a5 0), .ref (a6 0), .ref (a7 0), .ref qs]))], [(qs, .inl (cA 3, 4, .inr (.inr (.inr (.inr (fun _ => none))))))], w2 cA a1 st2_0, w1 cA a2 st1_0, w2 cA a3 st2_0, w1 cA a4 st1_0, w2 cA a5 st2_0, w4 cA a6 st4_0, w0 cA a7 st0_0] : List va_W).flatten := hD
  refine lv_iconst (v := 0) hx hb dX5_init_94 (by decide) ?_
  refine lv_istore_n (lv' := [(1, .int 0), (0, .ref h0)]) hx hb dX5_init_95 rfl hl (by decide) rfl (fun ls hl => ?_)
  refine lv_iload_n hx hb dX5_init_96 rfl (lv_at hl 0 rfl) ?_
  refine lv_aload_n hx hb dX5_init_97 rfl (lv_at hl 1 rfl) ?_
  refine va_get (D := D) (ci := 5) (v := .ref qs) (C := RX5) (T := TX5) (N := 9) hx hb hts in_X5_init_X5 hown hK hP 0 rfl rfl 8 (by decide) (hts _ lk_X5_init_52) (fun _ h9 => h9) rfl dX5_init_98 ?_
  refine va_alen hx hb hK hP 1 3 rfl rfl (v := 4) rfl dX5_init_101 ?_
  refine lv_icmp_ge (tgt := 124) hx hb dX5_init_102 (by decide) (fun hc => absurd hc (by decide)) (fun _ => ?_)
  refine lv_aload_n hx hb dX5_init_105 rfl (lv_at hl 1 rfl) ?_
  refine va_get (D := D) (ci := 5) (v := .ref qs) (C := RX5) (T := TX5) (N := 9) hx hb hts in_X5_init_X5 hown hK hP 0 rfl rfl 8 (by decide) (hts _ lk_X5_init_52) (fun _ h9 => h9) rfl dX5_init_106 ?_
  refine lv_iload_n hx hb dX5_init_109 rfl (lv_at hl 0 rfl) ?_
  refine va_new (ci := 3) (fs := [.int 0, .int 0, .null]) (C := RX3) (T := TX3) (N := 3) hx hb hts in_X5_init_X3 tyX3 tyX3_ok hown (hts _ cl_X5_50) (hts _ it_X5_X3) (hts _ iz_X5_X3) hK hP hD hS hA rfl (fun j hj => by rcases (show j = 0 ∨ j = 1 ∨ j = 2 by omega) with rfl | rfl | rfl <;> rfl) (Nat.le_of_ble_eq_true rfl) (Nat.le_of_ble_eq_true rfl) dX5_init_110 (fun q8 H hP hD hS => ?_)
  have hP : va_P D vwCl (([[(h0, .inr (5, [.ref (a1 0), .ref (a2 0 0), .ref (a3 0), .ref (a4 0 0), .int 0, .ref (a5 0), .ref (a6 0), .ref (a7 0), .ref qs]))], [(qs, .inl (cA 3, 4, .inr (.inr (.inr (.inr (fun _ => none))))))], w2 cA a1 st2_0, w1 cA a2 st1_0, w2 cA a3 st2_0, w1 cA a4 st1_0, w2 cA a5 st2_0, w4 cA a6 st4_0, w0 cA a7 st0_0] : List va_W).flatten ++ [(q8, .inr (3, [.int 0, .int 0, .null]))]) _ := hP
  have hD : va_D A (([[(h0, .inr (5, [.ref (a1 0), .ref (a2 0 0), .ref (a3 0), .ref (a4 0 0), .int 0, .ref (a5 0), .ref (a6 0), .ref (a7 0), .ref qs]))], [(qs, .inl (cA 3, 4, .inr (.inr (.inr (.inr (fun _ => none))))))], w2 cA a1 st2_0, w1 cA a2 st1_0, w2 cA a3 st2_0, w1 cA a4 st1_0, w2 cA a5 st2_0, w4 cA a6 st4_0, w0 cA a7 st0_0] : List va_W).flatten ++ [(q8, .inr (3, [.int 0, .int 0, .null]))]) := hD
  refine lv_dup hx hb dX5_init_113 rfl ?_
  refine kIN (rest := [.ref q8, .int 0, .ref qs]) Z hN (c_X3_init l D cA q8 _) gX5_init_X3_init_n56 rfl ndX3_init rfl nk_X5_56 iz_X5_X3 n2_X5_X3_init ⟨rfl, rfl⟩ ⟨(Nat.le_of_ble_eq_true rfl), (Nat.le_of_ble_eq_true rfl)⟩ ⟨(Nat.le_of_ble_eq_true rfl), (Nat.le_of_ble_eq_true rfl)⟩ hP hD hS hA hl.1 rfl (Nat.le_of_ble_eq_true rfl) dX5_init_114 (fun a8 H8_ locs8_ ha8 hP8_ hD8_ hS8_ => ?_)
  subst ha8
  have hP : va_P D vwCl ([[(h0, .inr (5, [.ref (a1 0), .ref (a2 0 0), .ref (a3 0), .ref (a4 0 0), .int 0, .ref (a5 0), .ref (a6 0), .ref (a7 0), .ref qs]))], [(qs, .inl (cA 3, 4, .inr (.inr (.inr (.inr (fun _ => none))))))], w2 cA a1 st2_0, w1 cA a2 st1_0, w2 cA a3 st2_0, w1 cA a4 st1_0, w2 cA a5 st2_0, w4 cA a6 st4_0, w0 cA a7 st0_0, w3 cA a8 st3_0] : List va_W).flatten _ := hP8_
  have hD : va_D A ([[(h0, .inr (5, [.ref (a1 0), .ref (a2 0 0), .ref (a3 0), .ref (a4 0 0), .int 0, .ref (a5 0), .ref (a6 0), .ref (a7 0), .ref qs]))], [(qs, .inl (cA 3, 4, .inr (.inr (.inr (.inr (fun _ => none))))))], w2 cA a1 st2_0, w1 cA a2 st1_0, w2 cA a3 st2_0, w1 cA a4 st1_0, w2 cA a5 st2_0, w4 cA a6 st4_0, w0 cA a7 st0_0, w3 cA a8 st3_0] : List va_W).flatten := hD8_
  have hS := hS8_
  have hP := chP (cc := ([[(h0, .inr (5, [.ref (a1 0), .ref (a2 0 0), .ref (a3 0), .ref (a4 0 0), .int 0, .ref (a5 0), .ref (a6 0), .ref (a7 0), .ref qs]))], [(qs, .inl (cA 3, 4, .inr (.inr (.inr (.inr (fun _ => none))))))], w3 cA a8 st3_0, w2 cA a1 st2_0, w1 cA a2 st1_0, w2 cA a3 st2_0, w1 cA a4 st1_0, w2 cA a5 st2_0, w4 cA a6 st4_0, w0 cA a7 st0_0] : List va_W)) hP [0, 1, 9, 2, 3, 4, 5, 6, 7, 8] rfl
  have hD := chD (cc := ([[(h0, .inr (5, [.ref (a1 0), .ref (a2 0 0), .ref (a3 0), .ref (a4 0 0), .int 0, .ref (a5 0), .ref (a6 0), .ref (a7 0), .ref qs]))], [(qs, .inl (cA 3, 4, .inr (.inr (.inr (.inr (fun _ => none))))))], w3 cA a8 st3_0, w2 cA a1 st2_0, w1 cA a2 st1_0, w2 cA a3 st2_0, w1 cA a4 st1_0, w2 cA a5 st2_0, w4 cA a6 st4_0, w0 cA a7 st0_0] : List va_W)) hD [0, 1, 9, 2, 3, 4, 5, 6, 7, 8] rfl rfl
  refine va_astq (r := (RX3, TX3, 3)) hx hb hK hP hD hS 1 3 2 3 rfl rfl rfl rfl (inB_in (by decide)) dX5_init_117 (fun H locs hP hD hS => ?_)
  have hP : va_P D vwCl ([[(h0, .inr (5, [.ref (a1 0), .ref (a2 0 0), .ref (a3 0), .ref (a4 0 0), .int 0, .ref (a5 0), .ref (a6 0), .ref (a7 0), .ref qs]))], [(qs, .inl (cA 3, 4, .inr (.inr (.inr (.inr (va_up (fun _ => none) 0 (some (a8 0))))))))], w3 cA a8 st3_0, w2 cA a1 st2_0, w1 cA a2 st1_0, w2 cA a3 st2_0, w1 cA a4 st1_0, w2 cA a5 st2_0, w4 cA a6 st4_0, w0 cA a7 st0_0] : List va_W).flatten _ := hP
  have hD : va_D A ([[(h0, .inr (5, [.ref (a1 0), .ref (a2 0 0), .ref (a3 0), .ref (a4 0 0), .int 0, .ref (a5 0), .ref (a6 0), .ref (a7 0), .ref qs]))], [(qs, .inl (cA 3, 4, .inr (.inr (.inr (.inr (va_up (fun _ => none) 0 (some (a8 0))))))))], w3 cA a8 st3_0, w2 cA a1 st2_0, w1 cA a2 st1_0, w2 cA a3 st2_0, w1 cA a4 st1_0, w2 cA a5 st2_0, w4 cA a6 st4_0, w0 cA a7 st0_0] : List va_W).flatten := hD
  refine lv_iinc (v := 1) (lv' := [(1, .int 1), (0, .ref h0)]) hx hb dX5_init_118 hl (k := 0) rfl rfl (by decide) rfl (fun ls hl => ?_)
  refine lv_goto (tgt := 96) hx hb dX5_init_121 (by decide) ?_
  refine lv_iload_n hx hb dX5_init_96 rfl (lv_at hl 0 rfl) ?_
  refine lv_aload_n hx hb dX5_init_97 rfl (lv_at hl 1 rfl) ?_
  refine va_get (D := D) (ci := 5) (v := .ref qs) (C := RX5) (T := TX5) (N := 9) hx hb hts in_X5_init_X5 hown hK hP 0 rfl rfl 8 (by decide) (hts _ lk_X5_init_52) (fun _ h9 => h9) rfl dX5_init_98 ?_
  refine va_alen hx hb hK hP 1 3 rfl rfl (v := 4) rfl dX5_init_101 ?_
  refine lv_icmp_ge (tgt := 124) hx hb dX5_init_102 (by decide) (fun hc => absurd hc (by decide)) (fun _ => ?_)
  refine lv_aload_n hx hb dX5_init_105 rfl (lv_at hl 1 rfl) ?_
  refine va_get (D := D) (ci := 5) (v := .ref qs) (C := RX5) (T := TX5) (N := 9) hx hb hts in_X5_init_X5 hown hK hP 0 rfl rfl 8 (by decide) (hts _ lk_X5_init_52) (fun _ h9 => h9) rfl dX5_init_106 ?_
  refine lv_iload_n hx hb dX5_init_109 rfl (lv_at hl 0 rfl) ?_
  refine va_new (ci := 3) (fs := [.int 0, .int 0, .null]) (C := RX3) (T := TX3) (N := 3) hx hb hts in_X5_init_X3 tyX3 tyX3_ok hown (hts _ cl_X5_50) (hts _ it_X5_X3) (hts _ iz_X5_X3) hK hP hD hS hA rfl (fun j hj => by rcases (show j = 0 ∨ j = 1 ∨ j = 2 by omega) with rfl | rfl | rfl <;> rfl) (Nat.le_of_ble_eq_true rfl) (Nat.le_of_ble_eq_true rfl) dX5_init_110 (fun q9 H hP hD hS => ?_)
  have hP : va_P D vwCl (([[(h0, .inr (5, [.ref (a1 0), .ref (a2 0 0), .ref (a3 0), .ref (a4 0 0), .int 0, .ref (a5 0), .ref (a6 0), .ref (a7 0), .ref qs]))], [(qs, .inl (cA 3, 4, .inr (.inr (.inr (.inr (va_up (fun _ => none) 0 (some (a8 0))))))))], w3 cA a8 st3_0, w2 cA a1 st2_0, w1 cA a2 st1_0, w2 cA a3 st2_0, w1 cA a4 st1_0, w2 cA a5 st2_0, w4 cA a6 st4_0, w0 cA a7 st0_0] : List va_W).flatten ++ [(q9, .inr (3, [.int 0, .int 0, .null]))]) _ := hP
  have hD : va_D A (([[(h0, .inr (5, [.ref (a1 0), .ref (a2 0 0), .ref (a3 0), .ref (a4 0 0), .int 0, .ref (a5 0), .ref (a6 0), .ref (a7 0), .ref qs]))], [(qs, .inl (cA 3, 4, .inr (.inr (.inr (.inr (va_up (fun _ => none) 0 (some (a8 0))))))))], w3 cA a8 st3_0, w2 cA a1 st2_0, w1 cA a2 st1_0, w2 cA a3 st2_0, w1 cA a4 st1_0, w2 cA a5 st2_0, w4 cA a6 st4_0, w0 cA a7 st0_0] : List va_W).flatten ++ [(q9, .inr (3, [.int 0, .int 0, .null]))]) := hD
  refine lv_dup hx hb dX5_init_113 rfl ?_
  refine kIN (rest := [.ref q9, .int 1, .ref qs]) Z hN (c_X3_init l D cA q9 _) gX5_init_X3_init_n56 rfl ndX3_init rfl nk_X5_56 iz_X5_X3 n2_X5_X3_init ⟨rfl, rfl⟩ ⟨(Nat.le_of_ble_eq_true rfl), (Nat.le_of_ble_eq_true rfl)⟩ ⟨(Nat.le_of_ble_eq_true rfl), (Nat.le_of_ble_eq_true rfl)⟩ hP hD hS hA hl.1 rfl (Nat.le_of_ble_eq_true rfl) dX5_init_114 (fun a9 H9_ locs9_ ha9 hP9_ hD9_ hS9_ => ?_)
  subst ha9
  have hP : va_P D vwCl ([[(h0, .inr (5, [.ref (a1 0), .ref (a2 0 0), .ref (a3 0), .ref (a4 0 0), .int 0, .ref (a5 0), .ref (a6 0), .ref (a7 0), .ref qs]))], [(qs, .inl (cA 3, 4, .inr (.inr (.inr (.inr (va_up (fun _ => none) 0 (some (a8 0))))))))], w3 cA a8 st3_0, w2 cA a1 st2_0, w1 cA a2 st1_0, w2 cA a3 st2_0, w1 cA a4 st1_0, w2 cA a5 st2_0, w4 cA a6 st4_0, w0 cA a7 st0_0, w3 cA a9 st3_0] : List va_W).flatten _ := hP9_
  have hD : va_D A ([[(h0, .inr (5, [.ref (a1 0), .ref (a2 0 0), .ref (a3 0), .ref (a4 0 0), .int 0, .ref (a5 0), .ref (a6 0), .ref (a7 0), .ref qs]))], [(qs, .inl (cA 3, 4, .inr (.inr (.inr (.inr (va_up (fun _ => none) 0 (some (a8 0))))))))], w3 cA a8 st3_0, w2 cA a1 st2_0, w1 cA a2 st1_0, w2 cA a3 st2_0, w1 cA a4 st1_0, w2 cA a5 st2_0, w4 cA a6 st4_0, w0 cA a7 st0_0, w3 cA a9 st3_0] : List va_W).flatten := hD9_
  have hS := hS9_
  have hP := chP (cc := ([[(h0, .inr (5, [.ref (a1 0), .ref (a2 0 0), .ref (a3 0), .ref (a4 0 0), .int 0, .ref (a5 0), .ref (a6 0), .ref (a7 0), .ref qs]))], [(qs, .inl (cA 3, 4, .inr (.inr (.inr (.inr (va_up (fun _ => none) 0 (some (a8 0))))))))], w3 cA a9 st3_0, w3 cA a8 st3_0, w2 cA a1 st2_0, w1 cA a2 st1_0, w2 cA a3 st2_0, w1 cA a4 st1_0, w2 cA a5 st2_0, w4 cA a6 st4_0, w0 cA a7 st0_0] : List va_W)) hP [0, 1, 10, 2, 3, 4, 5, 6, 7, 8, 9] rfl
  have hD := chD (cc := ([[(h0, .inr (5, [.ref (a1 0), .ref (a2 0 0), .ref (a3 0), .ref (a4 0 0), .int 0, .ref (a5 0), .ref (a6 0), .ref (a7 0), .ref qs]))], [(qs, .inl (cA 3, 4, .inr (.inr (.inr (.inr (va_up (fun _ => none) 0 (some (a8 0))))))))], w3 cA a9 st3_0, w3 cA a8 st3_0, w2 cA a1 st2_0, w1 cA a2 st1_0, w2 cA a3 st2_0, w1 cA a4 st1_0, w2 cA a5 st2_0, w4 cA a6 st4_0, w0 cA a7 st0_0] : List va_W)) hD [0, 1, 10, 2, 3, 4, 5, 6, 7, 8, 9] rfl rfl
  refine va_astq (r := (RX3, TX3, 3)) hx hb hK hP hD hS 1 3 2 3 rfl rfl rfl rfl (inB_in (by decide)) dX5_init_117 (fun H locs hP hD hS => ?_)
  have hP : va_P D vwCl ([[(h0, .inr (5, [.ref (a1 0), .ref (a2 0 0), .ref (a3 0), .ref (a4 0 0), .int 0, .ref (a5 0), .ref (a6 0), .ref (a7 0), .ref qs]))], [(qs, .inl (cA 3, 4, .inr (.inr (.inr (.inr (va_up (va_up (fun _ => none) 0 (some (a8 0))) 1 (some (a9 0))))))))], w3 cA a9 st3_0, w3 cA a8 st3_0, w2 cA a1 st2_0, w1 cA a2 st1_0, w2 cA a3 st2_0, w1 cA a4 st1_0, w2 cA a5 st2_0, w4 cA a6 st4_0, w0 cA a7 st0_0] : List va_W).flatten _ := hP
  have hD : va_D A ([[(h0, .inr (5, [.ref (a1 0), .ref (a2 0 0), .ref (a3 0), .ref (a4 0 0), .int 0, .ref (a5 0), .ref (a6 0), .ref (a7 0), .ref qs]))], [(qs, .inl (cA 3, 4, .inr (.inr (.inr (.inr (va_up (va_up (fun _ => none) 0 (some (a8 0))) 1 (some (a9 0))))))))], w3 cA a9 st3_0, w3 cA a8 st3_0, w2 cA a1 st2_0, w1 cA a2 st1_0, w2 cA a3 st2_0, w1 cA a4 st1_0, w2 cA a5 st2_0, w4 cA a6 st4_0, w0 cA a7 st0_0] : List va_W).flatten := hD
  refine lv_iinc (v := 2) (lv' := [(1, .int 2), (0, .ref h0)]) hx hb dX5_init_118 hl (k := 0) rfl rfl (by decide) rfl (fun ls hl => ?_)
  refine lv_goto (tgt := 96) hx hb dX5_init_121 (by decide) ?_
  refine lv_iload_n hx hb dX5_init_96 rfl (lv_at hl 0 rfl) ?_
  refine lv_aload_n hx hb dX5_init_97 rfl (lv_at hl 1 rfl) ?_
  refine va_get (D := D) (ci := 5) (v := .ref qs) (C := RX5) (T := TX5) (N := 9) hx hb hts in_X5_init_X5 hown hK hP 0 rfl rfl 8 (by decide) (hts _ lk_X5_init_52) (fun _ h9 => h9) rfl dX5_init_98 ?_
  refine va_alen hx hb hK hP 1 3 rfl rfl (v := 4) rfl dX5_init_101 ?_
  refine lv_icmp_ge (tgt := 124) hx hb dX5_init_102 (by decide) (fun hc => absurd hc (by decide)) (fun _ => ?_)
  refine lv_aload_n hx hb dX5_init_105 rfl (lv_at hl 1 rfl) ?_
  refine va_get (D := D) (ci := 5) (v := .ref qs) (C := RX5) (T := TX5) (N := 9) hx hb hts in_X5_init_X5 hown hK hP 0 rfl rfl 8 (by decide) (hts _ lk_X5_init_52) (fun _ h9 => h9) rfl dX5_init_106 ?_
  refine lv_iload_n hx hb dX5_init_109 rfl (lv_at hl 0 rfl) ?_
  refine va_new (ci := 3) (fs := [.int 0, .int 0, .null]) (C := RX3) (T := TX3) (N := 3) hx hb hts in_X5_init_X3 tyX3 tyX3_ok hown (hts _ cl_X5_50) (hts _ it_X5_X3) (hts _ iz_X5_X3) hK hP hD hS hA rfl (fun j hj => by rcases (show j = 0 ∨ j = 1 ∨ j = 2 by omega) with rfl | rfl | rfl <;> rfl) (Nat.le_of_ble_eq_true rfl) (Nat.le_of_ble_eq_true rfl) dX5_init_110 (fun q10 H hP hD hS => ?_)
  have hP : va_P D vwCl (([[(h0, .inr (5, [.ref (a1 0), .ref (a2 0 0), .ref (a3 0), .ref (a4 0 0), .int 0, .ref (a5 0), .ref (a6 0), .ref (a7 0), .ref qs]))], [(qs, .inl (cA 3, 4, .inr (.inr (.inr (.inr (va_up (va_up (fun _ => none) 0 (some (a8 0))) 1 (some (a9 0))))))))], w3 cA a9 st3_0, w3 cA a8 st3_0, w2 cA a1 st2_0, w1 cA a2 st1_0, w2 cA a3 st2_0, w1 cA a4 st1_0, w2 cA a5 st2_0, w4 cA a6 st4_0, w0 cA a7 st0_0] : List va_W).flatten ++ [(q10, .inr (3, [.int 0, .int 0, .null]))]) _ := hP
  have hD : va_D A (([[(h0, .inr (5, [.ref (a1 0), .ref (a2 0 0), .ref (a3 0), .ref (a4 0 0), .int 0, .ref (a5 0), .ref (a6 0), .ref (a7 0), .ref qs]))], [(qs, .inl (cA 3, 4, .inr (.inr (.inr (.inr (va_up (va_up (fun _ => none) 0 (some (a8 0))) 1 (some (a9 0))))))))], w3 cA a9 st3_0, w3 cA a8 st3_0, w2 cA a1 st2_0, w1 cA a2 st1_0, w2 cA a3 st2_0, w1 cA a4 st1_0, w2 cA a5 st2_0, w4 cA a6 st4_0, w0 cA a7 st0_0] : List va_W).flatten ++ [(q10, .inr (3, [.int 0, .int 0, .null]))]) := hD
  refine lv_dup hx hb dX5_init_113 rfl ?_
  refine kIN (rest := [.ref q10, .int 2, .ref qs]) Z hN (c_X3_init l D cA q10 _) gX5_init_X3_init_n56 rfl ndX3_init rfl nk_X5_56 iz_X5_X3 n2_X5_X3_init ⟨rfl, rfl⟩ ⟨(Nat.le_of_ble_eq_true rfl), (Nat.le_of_ble_eq_true rfl)⟩ ⟨(Nat.le_of_ble_eq_true rfl), (Nat.le_of_ble_eq_true rfl)⟩ hP hD hS hA hl.1 rfl (Nat.le_of_ble_eq_true rfl) dX5_init_114 (fun a10 H10_ locs10_ ha10 hP10_ hD10_ hS10_ => ?_)
  subst ha10
  have hP : va_P D vwCl ([[(h0, .inr (5, [.ref (a1 0), .ref (a2 0 0), .ref (a3 0), .ref (a4 0 0), .int 0, .ref (a5 0), .ref (a6 0), .ref (a7 0), .ref qs]))], [(qs, .inl (cA 3, 4, .inr (.inr (.inr (.inr (va_up (va_up (fun _ => none) 0 (some (a8 0))) 1 (some (a9 0))))))))], w3 cA a9 st3_0, w3 cA a8 st3_0, w2 cA a1 st2_0, w1 cA a2 st1_0, w2 cA a3 st2_0, w1 cA a4 st1_0, w2 cA a5 st2_0, w4 cA a6 st4_0, w0 cA a7 st0_0, w3 cA a10 st3_0] : List va_W).flatten _ := hP10_
  have hD : va_D A ([[(h0, .inr (5, [.ref (a1 0), .ref (a2 0 0), .ref (a3 0), .ref (a4 0 0), .int 0, .ref (a5 0), .ref (a6 0), .ref (a7 0), .ref qs]))], [(qs, .inl (cA 3, 4, .inr (.inr (.inr (.inr (va_up (va_up (fun _ => none) 0 (some (a8 0))) 1 (some (a9 0))))))))], w3 cA a9 st3_0, w3 cA a8 st3_0, w2 cA a1 st2_0, w1 cA a2 st1_0, w2 cA a3 st2_0, w1 cA a4 st1_0, w2 cA a5 st2_0, w4 cA a6 st4_0, w0 cA a7 st0_0, w3 cA a10 st3_0] : List va_W).flatten := hD10_
  have hS := hS10_
  have hP := chP (cc := ([[(h0, .inr (5, [.ref (a1 0), .ref (a2 0 0), .ref (a3 0), .ref (a4 0 0), .int 0, .ref (a5 0), .ref (a6 0), .ref (a7 0), .ref qs]))], [(qs, .inl (cA 3, 4, .inr (.inr (.inr (.inr (va_up (va_up (fun _ => none) 0 (some (a8 0))) 1 (some (a9 0))))))))], w3 cA a10 st3_0, w3 cA a9 st3_0, w3 cA a8 st3_0, w2 cA a1 st2_0, w1 cA a2 st1_0, w2 cA a3 st2_0, w1 cA a4 st1_0, w2 cA a5 st2_0, w4 cA a6 st4_0, w0 cA a7 st0_0] : List va_W)) hP [0, 1, 11, 2, 3, 4, 5, 6, 7, 8, 9, 10] rfl
  have hD := chD (cc := ([[(h0, .inr (5, [.ref (a1 0), .ref (a2 0 0), .ref (a3 0), .ref (a4 0 0), .int 0, .ref (a5 0), .ref (a6 0), .ref (a7 0), .ref qs]))], [(qs, .inl (cA 3, 4, .inr (.inr (.inr (.inr (va_up (va_up (fun _ => none) 0 (some (a8 0))) 1 (some (a9 0))))))))], w3 cA a10 st3_0, w3 cA a9 st3_0, w3 cA a8 st3_0, w2 cA a1 st2_0, w1 cA a2 st1_0, w2 cA a3 st2_0, w1 cA a4 st1_0, w2 cA a5 st2_0, w4 cA a6 st4_0, w0 cA a7 st0_0] : List va_W)) hD [0, 1, 11, 2, 3, 4, 5, 6, 7, 8, 9, 10] rfl rfl
  refine va_astq (r := (RX3, TX3, 3)) hx hb hK hP hD hS 1 3 2 3 rfl rfl rfl rfl (inB_in (by decide)) dX5_init_117 (fun H locs hP hD hS => ?_)
  have hP : va_P D vwCl ([[(h0, .inr (5, [.ref (a1 0), .ref (a2 0 0), .ref (a3 0), .ref (a4 0 0), .int 0, .ref (a5 0), .ref (a6 0), .ref (a7 0), .ref qs]))], [(qs, .inl (cA 3, 4, .inr (.inr (.inr (.inr (va_up (va_up (va_up (fun _ => none) 0 (some (a8 0))) 1 (some (a9 0))) 2 (some (a10 0))))))))], w3 cA a10 st3_0, w3 cA a9 st3_0, w3 cA a8 st3_0, w2 cA a1 st2_0, w1 cA a2 st1_0, w2 cA a3 st2_0, w1 cA a4 st1_0, w2 cA a5 st2_0, w4 cA a6 st4_0, w0 cA a7 st0_0] : List va_W).flatten _ := hP
  have hD : va_D A ([[(h0, .inr (5, [.ref (a1 0), .ref (a2 0 0), .ref (a3 0), .ref (a4 0 0), .int 0, .ref (a5 0), .ref (a6 0), .ref (a7 0), .ref qs]))], [(qs, .inl (cA 3, 4, .inr (.inr (.inr (.inr (va_up (va_up (va_up (fun _ => none) 0 (some (a8 0))) 1 (some (a9 0))) 2 (some (a10 0))))))))], w3 cA a10 st3_0, w3 cA a9 st3_0, w3 cA a8 st3_0, w2 cA a1 st2_0, w1 cA a2 st1_0, w2 cA a3 st2_0, w1 cA a4 st1_0, w2 cA a5 st2_0, w4 cA a6 st4_0, w0 cA a7 st0_0] : List va_W).flatten := hD
  refine lv_iinc (v := 3) (lv' := [(1, .int 3), (0, .ref h0)]) hx hb dX5_init_118 hl (k := 0) rfl rfl (by decide) rfl (fun ls hl => ?_)
  refine lv_goto (tgt := 96) hx hb dX5_init_121 (by decide) ?_
  refine lv_iload_n hx hb dX5_init_96 rfl (lv_at hl 0 rfl) ?_
  refine lv_aload_n hx hb dX5_init_97 rfl (lv_at hl 1 rfl) ?_
  refine va_get (D := D) (ci := 5) (v := .ref qs) (C := RX5) (T := TX5) (N := 9) hx hb hts in_X5_init_X5 hown hK hP 0 rfl rfl 8 (by decide) (hts _ lk_X5_init_52) (fun _ h9 => h9) rfl dX5_init_98 ?_
  refine va_alen hx hb hK hP 1 3 rfl rfl (v := 4) rfl dX5_init_101 ?_
  refine lv_icmp_ge (tgt := 124) hx hb dX5_init_102 (by decide) (fun hc => absurd hc (by decide)) (fun _ => ?_)
  refine lv_aload_n hx hb dX5_init_105 rfl (lv_at hl 1 rfl) ?_
  refine va_get (D := D) (ci := 5) (v := .ref qs) (C := RX5) (T := TX5) (N := 9) hx hb hts in_X5_init_X5 hown hK hP 0 rfl rfl 8 (by decide) (hts _ lk_X5_init_52) (fun _ h9 => h9) rfl dX5_init_106 ?_
  refine lv_iload_n hx hb dX5_init_109 rfl (lv_at hl 0 rfl) ?_
  refine va_new (ci := 3) (fs := [.int 0, .int 0, .null]) (C := RX3) (T := TX3) (N := 3) hx hb hts in_X5_init_X3 tyX3 tyX3_ok hown (hts _ cl_X5_50) (hts _ it_X5_X3) (hts _ iz_X5_X3) hK hP hD hS hA rfl (fun j hj => by rcases (show j = 0 ∨ j = 1 ∨ j = 2 by omega) with rfl | rfl | rfl <;> rfl) (Nat.le_of_ble_eq_true rfl) (Nat.le_of_ble_eq_true rfl) dX5_init_110 (fun q11 H hP hD hS => ?_)
  have hP : va_P D vwCl (([[(h0, .inr (5, [.ref (a1 0), .ref (a2 0 0), .ref (a3 0), .ref (a4 0 0), .int 0, .ref (a5 0), .ref (a6 0), .ref (a7 0), .ref qs]))], [(qs, .inl (cA 3, 4, .inr (.inr (.inr (.inr (va_up (va_up (va_up (fun _ => none) 0 (some (a8 0))) 1 (some (a9 0))) 2 (some (a10 0))))))))], w3 cA a10 st3_0, w3 cA a9 st3_0, w3 cA a8 st3_0, w2 cA a1 st2_0, w1 cA a2 st1_0, w2 cA a3 st2_0, w1 cA a4 st1_0, w2 cA a5 st2_0, w4 cA a6 st4_0, w0 cA a7 st0_0] : List va_W).flatten ++ [(q11, .inr (3, [.int 0, .int 0, .null]))]) _ := hP
  have hD : va_D A (([[(h0, .inr (5, [.ref (a1 0), .ref (a2 0 0), .ref (a3 0), .ref (a4 0 0), .int 0, .ref (a5 0), .ref (a6 0), .ref (a7 0), .ref qs]))], [(qs, .inl (cA 3, 4, .inr (.inr (.inr (.inr (va_up (va_up (va_up (fun _ => none) 0 (some (a8 0))) 1 (some (a9 0))) 2 (some (a10 0))))))))], w3 cA a10 st3_0, w3 cA a9 st3_0, w3 cA a8 st3_0, w2 cA a1 st2_0, w1 cA a2 st1_0, w2 cA a3 st2_0, w1 cA a4 st1_0, w2 cA a5 st2_0, w4 cA a6 st4_0, w0 cA a7 st0_0] : List va_W).flatten ++ [(q11, .inr (3, [.int 0, .int 0, .null]))]) := hD
  refine lv_dup hx hb dX5_init_113 rfl ?_
  refine kIN (rest := [.ref q11, .int 3, .ref qs]) Z hN (c_X3_init l D cA q11 _) gX5_init_X3_init_n56 rfl ndX3_init rfl nk_X5_56 iz_X5_X3 n2_X5_X3_init ⟨rfl, rfl⟩ ⟨(Nat.le_of_ble_eq_true rfl), (Nat.le_of_ble_eq_true rfl)⟩ ⟨(Nat.le_of_ble_eq_true rfl), (Nat.le_of_ble_eq_true rfl)⟩ hP hD hS hA hl.1 rfl (Nat.le_of_ble_eq_true rfl) dX5_init_114 (fun a11 H11_ locs11_ ha11 hP11_ hD11_ hS11_ => ?_)
  subst ha11
  have hP : va_P D vwCl ([[(h0, .inr (5, [.ref (a1 0), .ref (a2 0 0), .ref (a3 0), .ref (a4 0 0), .int 0, .ref (a5 0), .ref (a6 0), .ref (a7 0), .ref qs]))], [(qs, .inl (cA 3, 4, .inr (.inr (.inr (.inr (va_up (va_up (va_up (fun _ => none) 0 (some (a8 0))) 1 (some (a9 0))) 2 (some (a10 0))))))))], w3 cA a10 st3_0, w3 cA a9 st3_0, w3 cA a8 st3_0, w2 cA a1 st2_0, w1 cA a2 st1_0, w2 cA a3 st2_0, w1 cA a4 st1_0, w2 cA a5 st2_0, w4 cA a6 st4_0, w0 cA a7 st0_0, w3 cA a11 st3_0] : List va_W).flatten _ := hP11_
  have hD : va_D A ([[(h0, .inr (5, [.ref (a1 0), .ref (a2 0 0), .ref (a3 0), .ref (a4 0 0), .int 0, .ref (a5 0), .ref (a6 0), .ref (a7 0), .ref qs]))], [(qs, .inl (cA 3, 4, .inr (.inr (.inr (.inr (va_up (va_up (va_up (fun _ => none) 0 (some (a8 0))) 1 (some (a9 0))) 2 (some (a10 0))))))))], w3 cA a10 st3_0, w3 cA a9 st3_0, w3 cA a8 st3_0, w2 cA a1 st2_0, w1 cA a2 st1_0, w2 cA a3 st2_0, w1 cA a4 st1_0, w2 cA a5 st2_0, w4 cA a6 st4_0, w0 cA a7 st0_0, w3 cA a11 st3_0] : List va_W).flatten := hD11_
  have hS := hS11_
  have hP := chP (cc := ([[(h0, .inr (5, [.ref (a1 0), .ref (a2 0 0), .ref (a3 0), .ref (a4 0 0), .int 0, .ref (a5 0), .ref (a6 0), .ref (a7 0), .ref qs]))], [(qs, .inl (cA 3, 4, .inr (.inr (.inr (.inr (va_up (va_up (va_up (fun _ => none) 0 (some (a8 0))) 1 (some (a9 0))) 2 (some (a10 0))))))))], w3 cA a11 st3_0, w3 cA a10 st3_0, w3 cA a9 st3_0, w3 cA a8 st3_0, w2 cA a1 st2_0, w1 cA a2 st1_0, w2 cA a3 st2_0, w1 cA a4 st1_0, w2 cA a5 st2_0, w4 cA a6 st4_0, w0 cA a7 st0_0] : List va_W)) hP [0, 1, 12, 2, 3, 4, 5, 6, 7, 8, 9, 10, 11] rfl
  have hD := chD (cc := ([[(h0, .inr (5, [.ref (a1 0), .ref (a2 0 0), .ref (a3 0), .ref (a4 0 0), .int 0, .ref (a5 0), .ref (a6 0), .ref (a7 0), .ref qs]))], [(qs, .inl (cA 3, 4, .inr (.inr (.inr (.inr (va_up (va_up (va_up (fun _ => none) 0 (some (a8 0))) 1 (some (a9 0))) 2 (some (a10 0))))))))], w3 cA a11 st3_0, w3 cA a10 st3_0, w3 cA a9 st3_0, w3 cA a8 st3_0, w2 cA a1 st2_0, w1 cA a2 st1_0, w2 cA a3 st2_0, w1 cA a4 st1_0, w2 cA a5 st2_0, w4 cA a6 st4_0, w0 cA a7 st0_0] : List va_W)) hD [0, 1, 12, 2, 3, 4, 5, 6, 7, 8, 9, 10, 11] rfl rfl
  refine va_astq (r := (RX3, TX3, 3)) hx hb hK hP hD hS 1 3 2 3 rfl rfl rfl rfl (inB_in (by decide)) dX5_init_117 (fun H locs hP hD hS => ?_)
  have hP : va_P D vwCl ([[(h0, .inr (5, [.ref (a1 0), .ref (a2 0 0), .ref (a3 0), .ref (a4 0 0), .int 0, .ref (a5 0), .ref (a6 0), .ref (a7 0), .ref qs]))], [(qs, .inl (cA 3, 4, .inr (.inr (.inr (.inr (va_up (va_up (va_up (va_up (fun _ => none) 0 (some (a8 0))) 1 (some (a9 0))) 2 (some (a10 0))) 3 (some (a11 0))))))))], w3 cA a11 st3_0, w3 cA a10 st3_0, w3 cA a9 st3_0, w3 cA a8 st3_0, w2 cA a1 st2_0, w1 cA a2 st1_0, w2 cA a3 st2_0, w1 cA a4 st1_0, w2 cA a5 st2_0, w4 cA a6 st4_0, w0 cA a7 st0_0] : List va_W).flatten _ := hP
  have hD : va_D A ([[(h0, .inr (5, [.ref (a1 0), .ref (a2 0 0), .ref (a3 0), .ref (a4 0 0), .int 0, .ref (a5 0), .ref (a6 0), .ref (a7 0), .ref qs]))], [(qs, .inl (cA 3, 4, .inr (.inr (.inr (.inr (va_up (va_up (va_up (va_up (fun _ => none) 0 (some (a8 0))) 1 (some (a9 0))) 2 (some (a10 0))) 3 (some (a11 0))))))))], w3 cA a11 st3_0, w3 cA a10 st3_0, w3 cA a9 st3_0, w3 cA a8 st3_0, w2 cA a1 st2_0, w1 cA a2 st1_0, w2 cA a3 st2_0, w1 cA a4 st1_0, w2 cA a5 st2_0, w4 cA a6 st4_0, w0 cA a7 st0_0] : List va_W).flatten := hD
  refine lv_iinc (v := 4) (lv' := [(1, .int 4), (0, .ref h0)]) hx hb dX5_init_118 hl (k := 0) rfl rfl (by decide) rfl (fun ls hl => ?_)
  refine lv_goto (tgt := 96) hx hb dX5_init_121 (by decide) ?_
  refine lv_iload_n hx hb dX5_init_96 rfl (lv_at hl 0 rfl) ?_
  refine lv_aload_n hx hb dX5_init_97 rfl (lv_at hl 1 rfl) ?_
  refine va_get (D := D) (ci := 5) (v := .ref qs) (C := RX5) (T := TX5) (N := 9) hx hb hts in_X5_init_X5 hown hK hP 0 rfl rfl 8 (by decide) (hts _ lk_X5_init_52) (fun _ h9 => h9) rfl dX5_init_98 ?_
  refine va_alen hx hb hK hP 1 3 rfl rfl (v := 4) rfl dX5_init_101 ?_
  refine lv_icmp_ge (tgt := 124) hx hb dX5_init_102 (by decide) (fun _ => ?_) (fun hc => absurd (by decide) hc)
  have hP := chP (cc := ([[(h0, .inr (5, [.ref (a1 0), .ref (a2 0 0), .ref (a3 0), .ref (a4 0 0), .int 0, .ref (a5 0), .ref (a6 0), .ref (a7 0), .ref qs]))], w2 cA a1 st2_0, w1 cA a2 st1_0, w2 cA a3 st2_0, w1 cA a4 st1_0, w2 cA a5 st2_0, w4 cA a6 st4_0, w0 cA a7 st0_0, [(qs, .inl (cA 3, 4, .inr (.inr (.inr (.inr (va_up (va_up (va_up (va_up (fun _ => none) 0 (some (a8 0))) 1 (some (a9 0))) 2 (some (a10 0))) 3 (some (a11 0))))))))], w3 cA a8 st3_0, w3 cA a9 st3_0, w3 cA a10 st3_0, w3 cA a11 st3_0] : List va_W)) hP [0, 6, 7, 8, 9, 10, 11, 12, 1, 5, 4, 3, 2] rfl
  have hD := chD (cc := ([[(h0, .inr (5, [.ref (a1 0), .ref (a2 0 0), .ref (a3 0), .ref (a4 0 0), .int 0, .ref (a5 0), .ref (a6 0), .ref (a7 0), .ref qs]))], w2 cA a1 st2_0, w1 cA a2 st1_0, w2 cA a3 st2_0, w1 cA a4 st1_0, w2 cA a5 st2_0, w4 cA a6 st4_0, w0 cA a7 st0_0, [(qs, .inl (cA 3, 4, .inr (.inr (.inr (.inr (va_up (va_up (va_up (va_up (fun _ => none) 0 (some (a8 0))) 1 (some (a9 0))) 2 (some (a10 0))) 3 (some (a11 0))))))))], w3 cA a8 st3_0, w3 cA a9 st3_0, w3 cA a10 st3_0, w3 cA a11 st3_0] : List va_W)) hD [0, 6, 7, 8, 9, 10, 11, 12, 1, 5, 4, 3, 2] rfl rfl
  have hq1 : ∀ i, i < 9 → a2 i = (ad5 h0 qs a1 a3 a5 a6 a7 a8 a9 a10 a11 a2 a4) (20 + i) := fun i hi => by rcases (show i = 0 ∨ i = 1 ∨ i = 2 ∨ i = 3 ∨ i = 4 ∨ i = 5 ∨ i = 6 ∨ i = 7 ∨ i = 8 by omega) with rfl | rfl | rfl | rfl | rfl | rfl | rfl | rfl | rfl <;> rfl
  have hq2 : ∀ i, i < 9 → a4 i = (ad5 h0 qs a1 a3 a5 a6 a7 a8 a9 a10 a11 a2 a4) (30 + i) := fun i hi => by rcases (show i = 0 ∨ i = 1 ∨ i = 2 ∨ i = 3 ∨ i = 4 ∨ i = 5 ∨ i = 6 ∨ i = 7 ∨ i = 8 by omega) with rfl | rfl | rfl | rfl | rfl | rfl | rfl | rfl | rfl <;> rfl
  have hcv : ∀ H9 : Heap, va_P D vwCl ([[(h0, .inr (5, [.ref (a1 0), .ref (a2 0 0), .ref (a3 0), .ref (a4 0 0), .int 0, .ref (a5 0), .ref (a6 0), .ref (a7 0), .ref qs]))], w2 cA a1 st2_0, w1 cA a2 st1_0, w2 cA a3 st2_0, w1 cA a4 st1_0, w2 cA a5 st2_0, w4 cA a6 st4_0, w0 cA a7 st0_0, [(qs, .inl (cA 3, 4, .inr (.inr (.inr (.inr (va_up (va_up (va_up (va_up (fun _ => none) 0 (some (a8 0))) 1 (some (a9 0))) 2 (some (a10 0))) 3 (some (a11 0))))))))], w3 cA a8 st3_0, w3 cA a9 st3_0, w3 cA a10 st3_0, w3 cA a11 st3_0] : List va_W).flatten H9 → va_P D vwCl (w5all cA (ad5 h0 qs a1 a3 a5 a6 a7 a8 a9 a10 a11 a2 a4) 0 st2_0 st1_0 st2_0 st1_0 st2_0 st4_0 st0_0 st3_0 st3_0 st3_0 st3_0).flatten H9 := by
    intro H9 hP
    have hP := Pc_iff.mp hP
    rw [Pc_iff]
    simp only [w5all, List.forall_mem_cons] at hP ⊢
    obtain ⟨h0_, h1, h2, h3, h4, h5, h6, h7, h8, h9, h10, h11, h12, h13⟩ := hP
    refine ⟨?_, h1, w1_addr (b := fun i => (ad5 h0 qs a1 a3 a5 a6 a7 a8 a9 a10 a11 a2 a4) (20 + i)) hq1 h2, h3, w1_addr (b := fun i => (ad5 h0 qs a1 a3 a5 a6 a7 a8 a9 a10 a11 a2 a4) (30 + i)) hq2 h4, h5, h6, h7, ?_, h9, h10, h11, h12, h13⟩
    · simp only [w5, List.forall_mem_cons]; exact h0_
    · simp only [wS, List.forall_mem_cons]
      refine ⟨at_arrQ (fun j hj => ?_) h8.1, h8.2⟩
      rcases (show j = 0 ∨ j = 1 ∨ j = 2 ∨ j = 3 by omega) with rfl | rfl | rfl | rfl <;> rfl
  have hP := hcv _ hP
  have hD : va_D A (w5all cA (ad5 h0 qs a1 a3 a5 a6 a7 a8 a9 a10 a11 a2 a4) 0 st2_0 st1_0 st2_0 st1_0 st2_0 st4_0 st0_0 st3_0 st3_0 st3_0 st3_0).flatten := by
    rw [addr_iff] at hD ⊢
    have he : (w5all cA (ad5 h0 qs a1 a3 a5 a6 a7 a8 a9 a10 a11 a2 a4) 0 st2_0 st1_0 st2_0 st1_0 st2_0 st4_0 st0_0 st3_0 st3_0 st3_0 st3_0).flatten.map Prod.fst = (([[(h0, .inr (5, [.ref (a1 0), .ref (a2 0 0), .ref (a3 0), .ref (a4 0 0), .int 0, .ref (a5 0), .ref (a6 0), .ref (a7 0), .ref qs]))], w2 cA a1 st2_0, w1 cA a2 st1_0, w2 cA a3 st2_0, w1 cA a4 st1_0, w2 cA a5 st2_0, w4 cA a6 st4_0, w0 cA a7 st0_0, [(qs, .inl (cA 3, 4, .inr (.inr (.inr (.inr (va_up (va_up (va_up (va_up (fun _ => none) 0 (some (a8 0))) 1 (some (a9 0))) 2 (some (a10 0))) 3 (some (a11 0))))))))], w3 cA a8 st3_0, w3 cA a9 st3_0, w3 cA a10 st3_0, w3 cA a11 st3_0] : List va_W).flatten).map Prod.fst := by
      simp only [w5all, List.flatten_cons, List.flatten_nil, List.map_append]
      rw [← w1_fst (b := fun i => (ad5 h0 qs a1 a3 a5 a6 a7 a8 a9 a10 a11 a2 a4) (20 + i)) hq1, ← w1_fst (b := fun i => (ad5 h0 qs a1 a3 a5 a6 a7 a8 a9 a10 a11 a2 a4) (30 + i)) hq2]
      rfl
    rw [he]
    exact hD
  exact kk (ad5 h0 qs a1 a3 a5 a6 a7 a8 a9 a10 a11 a2 a4) _ _ _ _ rfl hP hD hS dX5_init_124
