-- X0.find
theorem lk_X0_find_9 : Cond.fieldLink RX0 9 "KeyedFeelings$Matching" "fewest" "I" ∈ wsX0_find := by decide +kernel
theorem in_X0_find_X0 : ∀ w ∈ wsX00, w ∈ wsX0_find := by decide +kernel
noncomputable def f_X0_find (σ : St0) (τ : St2) : Option (St0) := ((f_X0_choose 8 (s0_fewest σ 7) τ 0 0 0).bind (fun r1 => some r1))
noncomputable def rmX0_find : Room := { frames := 10, cells := 0, slots := 0, locals := 294 }
set_option maxHeartbeats 4000000 in
set_option maxRecDepth 100000 in
theorem c_X0_find (l : Launch) (D : va_G) (cA : Nat → ClassId) (a : Nat → Nat) (b : Nat → Nat) (σ : St0) (τ : St2) (res : St0) (h : f_X0_find σ τ = some res) : CT l D cA yX0_find wsX0_find rmX0_find [.ref (a 0), .ref (b 0)] [w0 cA a σ, w2 cA b τ] [w0 cA a res, w2 cA b τ] none := by
  refine CT.start (cc := cX0_find) (maxL := 2) (ret := none) (by decide) rfl (Nat.le_of_ble_eq_true rfl) ?_
  intro p e s m below meth c Z hP hD hS ls hl
  have Z : Cx p s m _ meth c cX0_find 2 none wsX0_find RX0 D cA := Z
  have hl : lv_has ls 2 [(0, .ref (a 0)), (1, .ref (b 0))] := hl
  obtain ⟨hx, hb, hml, hown, hts, hr, hlk, hKK⟩ := id Z
  have hK := hKK.1
  rw [f_X0_find] at h
  refine lv_aload_n hx hb dX0_find_0 rfl (lv_at hl 0 rfl) ?_
  refine lv_bipush (v := 7) hx hb dX0_find_1 (by decide) ?_
  refine va_put (D := D) (ci := 0) (v := .int 7) (ty := .int) (C := RX0) (T := TX0) (N := 3) hx hb hts in_X0_find_X0 tyX0 tyX0_ok nmX0 hown hK hP hD hS 0 rfl rfl 0 (by decide) (hts _ lk_X0_find_9) (fun _ h9 => h9) rfl (tyX0_ok 0 (by decide)) rfl rfl (Nat.le_of_ble_eq_true rfl) dX0_find_3 (fun H locs hP hD hS => ?_)
  have hP : va_P D vwCl ([w0 cA a (s0_fewest σ 7), w2 cA b τ] : List va_W).flatten H := hP
  have hD : va_D _ ([w0 cA a (s0_fewest σ 7), w2 cA b τ] : List va_W).flatten := hD
  refine lv_aload_n hx hb dX0_find_6 rfl (lv_at hl 0 rfl) ?_
  refine lv_aload_n hx hb dX0_find_7 rfl (lv_at hl 1 rfl) ?_
  refine lv_iconst (v := 0) hx hb dX0_find_8 (by decide) ?_
  refine lv_iconst (v := 0) hx hb dX0_find_9 (by decide) ?_
  refine lv_iconst (v := 0) hx hb dX0_find_10 (by decide) ?_
  obtain ⟨r1, hr1, h⟩ := bind_inv h
  refine kS (rest := []) (st1 := []) (cr := []) (cs' := [w0 cA a r1, w2 cA b τ]) Z (c_X0_choose l D cA 8 a b (s0_fewest σ 7) τ 0 0 0 r1 hr1) 5 gX0_find_X0_choose rfl hdX0_choose ⟨rfl, rfl⟩ ⟨Nat.le_of_ble_eq_true rfl, Nat.le_of_ble_eq_true rfl⟩ ⟨Nat.zero_le _, Nat.zero_le _⟩ hP hD hS hl.1 rfl rfl rfl (Nat.le_of_ble_eq_true rfl) [0, 1] [] [0, 1] rfl rfl rfl rfl rfl dX0_find_11 (fun H locs hP hD hS => ?_)
  have h := Option.some.inj h
  subst h
  exact CT.vret Z hP hD hS dX0_find_14

-- X5.match
theorem lk_X5_match_10 : Cond.fieldLink RX5 10 "KeyedFeelings" "now" "LKeyedFeelings$People;" ∈ wsX5_match := by decide +kernel
theorem in_X5_match_X5 : ∀ w ∈ wsX50, w ∈ wsX5_match := by decide +kernel
theorem in_X5_match_X2 : ∀ w ∈ wsX20, w ∈ wsX5_match := by decide +kernel
theorem lk_X5_match_46 : Cond.fieldLink RX5 46 "KeyedFeelings" "matching" "LKeyedFeelings$Matching;" ∈ wsX5_match := by decide +kernel
theorem n1_X5_match_X0 : Cond.initialized RX0 ∈ wsX5_match := by decide +kernel
theorem n2_X5_match_X0_find : Cond.instanceMethod yX0_find ∈ wsX5_match := by decide +kernel
theorem n3_X5_match_X0_find : Cond.selects RX0 yX0_find yX0_find ∈ wsX5_match := by decide +kernel
theorem in_X5_match_X0 : ∀ w ∈ wsX00, w ∈ wsX5_match := by decide +kernel
theorem n1_X5_match_X2 : Cond.initialized RX2 ∈ wsX5_match := by decide +kernel
theorem n2_X5_match_X2_has : Cond.instanceMethod yX2_has ∈ wsX5_match := by decide +kernel
theorem n3_X5_match_X2_has : Cond.selects RX2 yX2_has yX2_has ∈ wsX5_match := by decide +kernel
noncomputable def f_X5_match (κ : St5) (nw : St2) (mt : St0) (x1 : Int32) : Option (Int32 × St0) := (if 2 ≤ (p2_size nw) then (if x1 = (-1) then ((f_X0_find mt nw).bind (fun r3 => (if x1 = (-1) then some (p0_fewest r3, r3) else (if inB x1 6 = true then some ((p0_best r3) x1.toNatClampNeg, r3) else none)))) else ((f_X2_has nw x1).bind (fun r6 => (if r6 = 0 then some ((-1), mt) else ((f_X0_find mt nw).bind (fun r8 => (if x1 = (-1) then some (p0_fewest r8, r8) else (if inB x1 6 = true then some ((p0_best r8) x1.toNatClampNeg, r8) else none)))))))) else some ((-4), mt))
noncomputable def rmX5_match : Room := { frames := 11, cells := 0, slots := 0, locals := 315 }
set_option maxHeartbeats 4000000 in
set_option maxRecDepth 100000 in
theorem c_X5_match (l : Launch) (D : va_G) (cA : Nat → ClassId) (o : Nat → Nat → Nat) (κ : St5) (nw : St2) (mt : St0) (x1 : Int32) (res : Int32 × St0) (h : f_X5_match κ nw mt x1 = some res) : CT l D cA yX5_match wsX5_match rmX5_match [.ref (o 0 0), .int x1] [w5 cA o κ, w2 cA (o 1) nw, w0 cA (o 7) mt] [w5 cA o κ, w2 cA (o 1) nw, w0 cA (o 7) res.2] (some (.int res.1)) := by
  refine CT.start (cc := cX5_match) (maxL := 2) (ret := (some .int)) (by decide) rfl (Nat.le_of_ble_eq_true rfl) ?_
  intro p e s m below meth c Z hP hD hS ls hl
  have Z : Cx p s m _ meth c cX5_match 2 (some .int) wsX5_match RX5 D cA := Z
  have hl : lv_has ls 2 [(0, .ref (o 0 0)), (1, .int x1)] := hl
  obtain ⟨hx, hb, hml, hown, hts, hr, hlk, hKK⟩ := id Z
  have hK := hKK.1
  rw [f_X5_match] at h
  refine lv_aload_n hx hb dX5_match_0 rfl (lv_at hl 0 rfl) ?_
  refine va_get (D := D) (ci := 5) (v := .ref (o 1 0)) (C := RX5) (T := TX5) (N := 9) hx hb hts in_X5_match_X5 hown hK hP 0 rfl rfl 0 (by decide) (hts _ lk_X5_match_10) (fun _ h9 => h9) rfl dX5_match_1 ?_
  refine va_getN (D := D) (ci := 2) (v := .int (p2_size nw)) (C := RX2) (T := TX2) (N := 7) hx hb hts in_X5_match_X2 hown hK hP 1 rfl rfl 0 (by decide) (nest_use rfl (hKK.2 _ nk_X5_57)) (fun _ h9 => h9) rfl dX5_match_4 ?_
  refine lv_iconst (v := 2) hx hb dX5_match_7 (by decide) ?_
  refine lv_icmp_ge (tgt := 14) hx hb dX5_match_8 (by decide) (fun hc1 => ?_) (fun hc1 => ?_)
  · rw [if_pos hc1] at h
    refine lv_iload_n hx hb dX5_match_14 rfl (lv_at hl 1 rfl) ?_
    refine lv_iconst (v := (-1)) hx hb dX5_match_15 (by decide) ?_
    refine lv_icmp_eq (tgt := 32) hx hb dX5_match_16 (by decide) (fun hc2 => ?_) (fun hc2 => ?_)
    · rw [if_pos hc2] at h
      refine lv_aload_n hx hb dX5_match_32 rfl (lv_at hl 0 rfl) ?_
      refine va_get (D := D) (ci := 5) (v := .ref (o 7 0)) (C := RX5) (T := TX5) (N := 9) hx hb hts in_X5_match_X5 hown hK hP 0 rfl rfl 7 (by decide) (hts _ lk_X5_match_46) (fun _ h9 => h9) rfl dX5_match_33 ?_
      refine lv_aload_n hx hb dX5_match_36 rfl (lv_at hl 0 rfl) ?_
      refine va_get (D := D) (ci := 5) (v := .ref (o 1 0)) (C := RX5) (T := TX5) (N := 9) hx hb hts in_X5_match_X5 hown hK hP 0 rfl rfl 0 (by decide) (hts _ lk_X5_match_10) (fun _ h9 => h9) rfl dX5_match_37 ?_
      obtain ⟨r3, hr3, h⟩ := bind_inv h
      refine kVN (rest := []) (st1 := []) (cr := [w5 cA o κ]) (cs' := [w5 cA o κ, w2 cA (o 1) nw, w0 cA (o 7) r3]) Z (c_X0_find l D cA (o 7) (o 1) mt nw r3 hr3) 1 gX5_match_X0_find_n183 rfl hdX0_find nk_X5_183 n1_X5_match_X0 n2_X5_match_X0_find n3_X5_match_X0_find ⟨rfl, rfl⟩ ⟨Nat.le_of_ble_eq_true rfl, Nat.le_of_ble_eq_true rfl⟩ ⟨Nat.zero_le _, Nat.zero_le _⟩ hP hD hS hl.1 rfl rfl rfl (Nat.le_of_ble_eq_true rfl) 0 rfl rfl rfl [2, 1] [0] [0, 2, 1] rfl rfl rfl rfl rfl dX5_match_40 (fun H locs hP hD hS => ?_)
      refine lv_iload_n hx hb dX5_match_43 rfl (lv_at hl 1 rfl) ?_
      refine lv_iconst (v := (-1)) hx hb dX5_match_44 (by decide) ?_
      refine lv_icmp_ne (tgt := 58) hx hb dX5_match_45 (by decide) (fun hc4 => ?_) (fun hc4 => ?_)
      · rw [if_neg hc4] at h
        refine lv_aload_n hx hb dX5_match_58 rfl (lv_at hl 0 rfl) ?_
        refine va_get (D := D) (ci := 5) (v := .ref (o 7 0)) (C := RX5) (T := TX5) (N := 9) hx hb hts in_X5_match_X5 hown hK hP 0 rfl rfl 7 (by decide) (hts _ lk_X5_match_46) (fun _ h9 => h9) rfl dX5_match_59 ?_
        refine va_getN (D := D) (ci := 0) (v := .ref (o 7 1)) (C := RX0) (T := TX0) (N := 3) hx hb hts in_X5_match_X0 hown hK hP 6 rfl rfl 1 (by decide) (nest_use rfl (hKK.2 _ nk_X5_189)) (fun _ h9 => h9) rfl dX5_match_62 ?_
        refine lv_iload_n hx hb dX5_match_65 rfl (lv_at hl 1 rfl) ?_
        obtain ⟨hg5, h⟩ := if_inv h
        refine va_iald hx hb hK hP 7 0 rfl rfl (inB_in hg5) dX5_match_66 ?_
        have h := Option.some.inj h
        subst h
        exact CT.iret Z hP hD hS dX5_match_67
      · rw [if_pos hc4] at h
        refine lv_aload_n hx hb dX5_match_48 rfl (lv_at hl 0 rfl) ?_
        refine va_get (D := D) (ci := 5) (v := .ref (o 7 0)) (C := RX5) (T := TX5) (N := 9) hx hb hts in_X5_match_X5 hown hK hP 0 rfl rfl 7 (by decide) (hts _ lk_X5_match_46) (fun _ h9 => h9) rfl dX5_match_49 ?_
        refine va_getN (D := D) (ci := 0) (v := .int (p0_fewest r3)) (C := RX0) (T := TX0) (N := 3) hx hb hts in_X5_match_X0 hown hK hP 6 rfl rfl 0 (by decide) (nest_use rfl (hKK.2 _ nk_X5_186)) (fun _ h9 => h9) rfl dX5_match_52 ?_
        refine lv_goto (tgt := 67) hx hb dX5_match_55 (by decide) ?_
        have h := Option.some.inj h
        subst h
        exact CT.iret Z hP hD hS dX5_match_67
    · rw [if_neg hc2] at h
      refine lv_aload_n hx hb dX5_match_19 rfl (lv_at hl 0 rfl) ?_
      refine va_get (D := D) (ci := 5) (v := .ref (o 1 0)) (C := RX5) (T := TX5) (N := 9) hx hb hts in_X5_match_X5 hown hK hP 0 rfl rfl 0 (by decide) (hts _ lk_X5_match_10) (fun _ h9 => h9) rfl dX5_match_20 ?_
      refine lv_iload_n hx hb dX5_match_23 rfl (lv_at hl 1 rfl) ?_
      obtain ⟨r6, hr6, h⟩ := bind_inv h
      refine kVN (rest := []) (st1 := [.int r6]) (cr := [w5 cA o κ, w0 cA (o 7) mt]) (cs' := [w5 cA o κ, w2 cA (o 1) nw, w0 cA (o 7) mt]) Z (c_X2_has l D cA (o 1) nw x1 r6 hr6) 1 gX5_match_X2_has_n68 rfl hdX2_has nk_X5_68 n1_X5_match_X2 n2_X5_match_X2_has n3_X5_match_X2_has ⟨rfl, rfl⟩ ⟨Nat.le_of_ble_eq_true rfl, Nat.le_of_ble_eq_true rfl⟩ ⟨Nat.zero_le _, Nat.zero_le _⟩ hP hD hS hl.1 rfl rfl rfl (Nat.le_of_ble_eq_true rfl) 2 rfl rfl rfl [1] [0, 2] [0, 2, 1] rfl rfl rfl rfl rfl dX5_match_24 (fun H locs hP hD hS => ?_)
      refine lv_if_ne (tgt := 32) hx hb dX5_match_27 (by decide) (fun hc7 => ?_) (fun hc7 => ?_)
      · rw [if_neg hc7] at h
        refine lv_aload_n hx hb dX5_match_32 rfl (lv_at hl 0 rfl) ?_
        refine va_get (D := D) (ci := 5) (v := .ref (o 7 0)) (C := RX5) (T := TX5) (N := 9) hx hb hts in_X5_match_X5 hown hK hP 0 rfl rfl 7 (by decide) (hts _ lk_X5_match_46) (fun _ h9 => h9) rfl dX5_match_33 ?_
        refine lv_aload_n hx hb dX5_match_36 rfl (lv_at hl 0 rfl) ?_
        refine va_get (D := D) (ci := 5) (v := .ref (o 1 0)) (C := RX5) (T := TX5) (N := 9) hx hb hts in_X5_match_X5 hown hK hP 0 rfl rfl 0 (by decide) (hts _ lk_X5_match_10) (fun _ h9 => h9) rfl dX5_match_37 ?_
        obtain ⟨r8, hr8, h⟩ := bind_inv h
        refine kVN (rest := []) (st1 := []) (cr := [w5 cA o κ]) (cs' := [w5 cA o κ, w2 cA (o 1) nw, w0 cA (o 7) r8]) Z (c_X0_find l D cA (o 7) (o 1) mt nw r8 hr8) 1 gX5_match_X0_find_n183 rfl hdX0_find nk_X5_183 n1_X5_match_X0 n2_X5_match_X0_find n3_X5_match_X0_find ⟨rfl, rfl⟩ ⟨Nat.le_of_ble_eq_true rfl, Nat.le_of_ble_eq_true rfl⟩ ⟨Nat.zero_le _, Nat.zero_le _⟩ hP hD hS hl.1 rfl rfl rfl (Nat.le_of_ble_eq_true rfl) 0 rfl rfl rfl [2, 1] [0] [0, 2, 1] rfl rfl rfl rfl rfl dX5_match_40 (fun H locs hP hD hS => ?_)
        refine lv_iload_n hx hb dX5_match_43 rfl (lv_at hl 1 rfl) ?_
        refine lv_iconst (v := (-1)) hx hb dX5_match_44 (by decide) ?_
        refine lv_icmp_ne (tgt := 58) hx hb dX5_match_45 (by decide) (fun hc9 => ?_) (fun hc9 => ?_)
        · rw [if_neg hc9] at h
          refine lv_aload_n hx hb dX5_match_58 rfl (lv_at hl 0 rfl) ?_
          refine va_get (D := D) (ci := 5) (v := .ref (o 7 0)) (C := RX5) (T := TX5) (N := 9) hx hb hts in_X5_match_X5 hown hK hP 0 rfl rfl 7 (by decide) (hts _ lk_X5_match_46) (fun _ h9 => h9) rfl dX5_match_59 ?_
          refine va_getN (D := D) (ci := 0) (v := .ref (o 7 1)) (C := RX0) (T := TX0) (N := 3) hx hb hts in_X5_match_X0 hown hK hP 6 rfl rfl 1 (by decide) (nest_use rfl (hKK.2 _ nk_X5_189)) (fun _ h9 => h9) rfl dX5_match_62 ?_
          refine lv_iload_n hx hb dX5_match_65 rfl (lv_at hl 1 rfl) ?_
          obtain ⟨hg10, h⟩ := if_inv h
          refine va_iald hx hb hK hP 7 0 rfl rfl (inB_in hg10) dX5_match_66 ?_
          have h := Option.some.inj h
          subst h
          exact CT.iret Z hP hD hS dX5_match_67
        · rw [if_pos hc9] at h
          refine lv_aload_n hx hb dX5_match_48 rfl (lv_at hl 0 rfl) ?_
          refine va_get (D := D) (ci := 5) (v := .ref (o 7 0)) (C := RX5) (T := TX5) (N := 9) hx hb hts in_X5_match_X5 hown hK hP 0 rfl rfl 7 (by decide) (hts _ lk_X5_match_46) (fun _ h9 => h9) rfl dX5_match_49 ?_
          refine va_getN (D := D) (ci := 0) (v := .int (p0_fewest r8)) (C := RX0) (T := TX0) (N := 3) hx hb hts in_X5_match_X0 hown hK hP 6 rfl rfl 0 (by decide) (nest_use rfl (hKK.2 _ nk_X5_186)) (fun _ h9 => h9) rfl dX5_match_52 ?_
          refine lv_goto (tgt := 67) hx hb dX5_match_55 (by decide) ?_
          have h := Option.some.inj h
          subst h
          exact CT.iret Z hP hD hS dX5_match_67
      · rw [if_pos hc7] at h
        refine lv_iconst (v := (-1)) hx hb dX5_match_30 (by decide) ?_
        have h := Option.some.inj h
        subst h
        exact CT.iret Z hP hD hS dX5_match_31
  · rw [if_neg hc1] at h
    refine lv_bipush (v := (-4)) hx hb dX5_match_11 (by decide) ?_
    have h := Option.some.inj h
    subst h
    exact CT.iret Z hP hD hS dX5_match_13
