-- X3.isMissing
theorem lk_X3_isMissing_15 : Cond.fieldLink RX3 15 "KeyedFeelings$Sheet" "size" "I" ∈ wsX3_isMissing := by decide +kernel
theorem in_X3_isMissing_X3 : ∀ w ∈ wsX30, w ∈ wsX3_isMissing := by decide +kernel
noncomputable def f_X3_isMissing (σ : St3) : Option (Int32) := (if (p3_size σ) = (-1) then some 1 else some 0)
noncomputable def rmX3_isMissing : Room := { frames := 0, cells := 0, slots := 0, locals := 0 }
set_option maxHeartbeats 4000000 in
set_option maxRecDepth 100000 in
theorem c_X3_isMissing (l : Launch) (D : va_G) (cA : Nat → ClassId) (a : Nat → Nat) (σ : St3) (res : Int32) (h : f_X3_isMissing σ = some res) : CT l D cA yX3_isMissing wsX3_isMissing rmX3_isMissing [.ref (a 0)] [w3 cA a σ] [w3 cA a σ] (some (.int res)) := by
  refine CT.start (cc := cX3_isMissing) (maxL := 1) (ret := (some .boolean)) (by decide) rfl (Nat.le_of_ble_eq_true rfl) ?_
  intro p e s m below meth c Z hP hD hS ls hl
  have Z : Cx p s m _ meth c cX3_isMissing 1 (some .boolean) wsX3_isMissing RX3 D cA := Z
  have hl : lv_has ls 1 [(0, .ref (a 0))] := hl
  obtain ⟨hx, hb, hml, hown, hts, hr, hlk, hKK⟩ := id Z
  have hK := hKK.1
  rw [f_X3_isMissing] at h
  refine lv_aload_n hx hb dX3_isMissing_0 rfl (lv_at hl 0 rfl) ?_
  refine va_get (D := D) (ci := 3) (v := .int (p3_size σ)) (C := RX3) (T := TX3) (N := 3) hx hb hts in_X3_isMissing_X3 hown hK hP 0 rfl rfl 1 (by decide) (hts _ lk_X3_isMissing_15) (fun _ h9 => h9) rfl dX3_isMissing_1 ?_
  refine lv_iconst (v := (-1)) hx hb dX3_isMissing_4 (by decide) ?_
  refine lv_icmp_ne (tgt := 12) hx hb dX3_isMissing_5 (by decide) (fun hc1 => ?_) (fun hc1 => ?_)
  · rw [if_neg hc1] at h
    refine lv_iconst (v := 0) hx hb dX3_isMissing_12 (by decide) ?_
    have h := Option.some.inj h
    subst h
    exact CT.zret Z (nar_bool (Or.inl rfl)) hP hD hS dX3_isMissing_13
  · rw [if_pos hc1] at h
    refine lv_iconst (v := 1) hx hb dX3_isMissing_8 (by decide) ?_
    refine lv_goto (tgt := 13) hx hb dX3_isMissing_9 (by decide) ?_
    have h := Option.some.inj h
    subst h
    exact CT.zret Z (nar_bool (Or.inr rfl)) hP hD hS dX3_isMissing_13

-- X3.lose
theorem lk_X3_lose_15 : Cond.fieldLink RX3 15 "KeyedFeelings$Sheet" "size" "I" ∈ wsX3_lose := by decide +kernel
theorem in_X3_lose_X3 : ∀ w ∈ wsX30, w ∈ wsX3_lose := by decide +kernel
noncomputable def f_X3_lose (σ : St3) : Option (St3) := some (s3_size σ (-1))
noncomputable def rmX3_lose : Room := { frames := 0, cells := 0, slots := 0, locals := 0 }
set_option maxHeartbeats 4000000 in
set_option maxRecDepth 100000 in
theorem c_X3_lose (l : Launch) (D : va_G) (cA : Nat → ClassId) (a : Nat → Nat) (σ : St3) (res : St3) (h : f_X3_lose σ = some res) : CT l D cA yX3_lose wsX3_lose rmX3_lose [.ref (a 0)] [w3 cA a σ] [w3 cA a res] none := by
  refine CT.start (cc := cX3_lose) (maxL := 1) (ret := none) (by decide) rfl (Nat.le_of_ble_eq_true rfl) ?_
  intro p e s m below meth c Z hP hD hS ls hl
  have Z : Cx p s m _ meth c cX3_lose 1 none wsX3_lose RX3 D cA := Z
  have hl : lv_has ls 1 [(0, .ref (a 0))] := hl
  obtain ⟨hx, hb, hml, hown, hts, hr, hlk, hKK⟩ := id Z
  have hK := hKK.1
  rw [f_X3_lose] at h
  refine lv_aload_n hx hb dX3_lose_0 rfl (lv_at hl 0 rfl) ?_
  refine lv_iconst (v := (-1)) hx hb dX3_lose_1 (by decide) ?_
  refine va_put (D := D) (ci := 3) (v := .int (-1)) (ty := .int) (C := RX3) (T := TX3) (N := 3) hx hb hts in_X3_lose_X3 tyX3 tyX3_ok nmX3 hown hK hP hD hS 0 rfl rfl 1 (by decide) (hts _ lk_X3_lose_15) (fun _ h9 => h9) rfl (tyX3_ok 1 (by decide)) rfl rfl (Nat.le_of_ble_eq_true rfl) dX3_lose_2 (fun H locs hP hD hS => ?_)
  have hP : va_P D vwCl ([w3 cA a (s3_size σ (-1))] : List va_W).flatten H := hP
  have hD : va_D _ ([w3 cA a (s3_size σ (-1))] : List va_W).flatten := hD
  have h := Option.some.inj h
  subst h
  exact CT.vret Z hP hD hS dX3_lose_5

-- X3.holds
theorem lk_X3_holds_15 : Cond.fieldLink RX3 15 "KeyedFeelings$Sheet" "size" "I" ∈ wsX3_holds := by decide +kernel
theorem in_X3_holds_X3 : ∀ w ∈ wsX30, w ∈ wsX3_holds := by decide +kernel
noncomputable def f_X3_holds (σ : St3) (x1 : Int32) (x2 : Int32) : Option (Int32) := (if x1 < 0 then some 0 else (if x2 < 0 then some 0 else (if ((p3_size σ) - x2) < x1 then some 0 else some 1)))
noncomputable def rmX3_holds : Room := { frames := 0, cells := 0, slots := 0, locals := 0 }
set_option maxHeartbeats 4000000 in
set_option maxRecDepth 100000 in
theorem c_X3_holds (l : Launch) (D : va_G) (cA : Nat → ClassId) (a : Nat → Nat) (σ : St3) (x1 : Int32) (x2 : Int32) (res : Int32) (h : f_X3_holds σ x1 x2 = some res) : CT l D cA yX3_holds wsX3_holds rmX3_holds [.ref (a 0), .int x1, .int x2] [w3 cA a σ] [w3 cA a σ] (some (.int res)) := by
  refine CT.start (cc := cX3_holds) (maxL := 3) (ret := (some .boolean)) (by decide) rfl (Nat.le_of_ble_eq_true rfl) ?_
  intro p e s m below meth c Z hP hD hS ls hl
  have Z : Cx p s m _ meth c cX3_holds 3 (some .boolean) wsX3_holds RX3 D cA := Z
  have hl : lv_has ls 3 [(0, .ref (a 0)), (1, .int x1), (2, .int x2)] := hl
  obtain ⟨hx, hb, hml, hown, hts, hr, hlk, hKK⟩ := id Z
  have hK := hKK.1
  rw [f_X3_holds] at h
  refine lv_iload_n hx hb dX3_holds_0 rfl (lv_at hl 1 rfl) ?_
  refine lv_if_lt (tgt := 22) hx hb dX3_holds_1 (by decide) (fun hc1 => ?_) (fun hc1 => ?_)
  · rw [if_pos hc1] at h
    refine lv_iconst (v := 0) hx hb dX3_holds_22 (by decide) ?_
    have h := Option.some.inj h
    subst h
    exact CT.zret Z (nar_bool (Or.inl rfl)) hP hD hS dX3_holds_23
  · rw [if_neg hc1] at h
    refine lv_iload_n hx hb dX3_holds_4 rfl (lv_at hl 2 rfl) ?_
    refine lv_if_lt (tgt := 22) hx hb dX3_holds_5 (by decide) (fun hc2 => ?_) (fun hc2 => ?_)
    · rw [if_pos hc2] at h
      refine lv_iconst (v := 0) hx hb dX3_holds_22 (by decide) ?_
      have h := Option.some.inj h
      subst h
      exact CT.zret Z (nar_bool (Or.inl rfl)) hP hD hS dX3_holds_23
    · rw [if_neg hc2] at h
      refine lv_iload_n hx hb dX3_holds_8 rfl (lv_at hl 1 rfl) ?_
      refine lv_aload_n hx hb dX3_holds_9 rfl (lv_at hl 0 rfl) ?_
      refine va_get (D := D) (ci := 3) (v := .int (p3_size σ)) (C := RX3) (T := TX3) (N := 3) hx hb hts in_X3_holds_X3 hown hK hP 0 rfl rfl 1 (by decide) (hts _ lk_X3_holds_15) (fun _ h9 => h9) rfl dX3_holds_10 ?_
      refine lv_iload_n hx hb dX3_holds_13 rfl (lv_at hl 2 rfl) ?_
      refine lv_isub hx hb dX3_holds_14 ?_
      refine lv_icmp_gt (tgt := 22) hx hb dX3_holds_15 (by decide) (fun hc3 => ?_) (fun hc3 => ?_)
      · rw [if_pos hc3] at h
        refine lv_iconst (v := 0) hx hb dX3_holds_22 (by decide) ?_
        have h := Option.some.inj h
        subst h
        exact CT.zret Z (nar_bool (Or.inl rfl)) hP hD hS dX3_holds_23
      · rw [if_neg hc3] at h
        refine lv_iconst (v := 1) hx hb dX3_holds_18 (by decide) ?_
        refine lv_goto (tgt := 23) hx hb dX3_holds_19 (by decide) ?_
        have h := Option.some.inj h
        subst h
        exact CT.zret Z (nar_bool (Or.inr rfl)) hP hD hS dX3_holds_23

-- X3.refusal
theorem lk_X3_refusal_9 : Cond.fieldLink RX3 9 "KeyedFeelings$Sheet" "lane" "I" ∈ wsX3_refusal := by decide +kernel
theorem in_X3_refusal_X3 : ∀ w ∈ wsX30, w ∈ wsX3_refusal := by decide +kernel
noncomputable def f_X3_refusal (σ : St3) (x1 : Int32) (x2 : Int32) (x3 : Int32) : Option (Int32) := ((f_X3_isMissing σ).bind (fun r1 => (if r1 = 0 then (if (p3_lane σ) = x1 then ((f_X3_holds σ x2 x3).bind (fun r4 => (if r4 = 0 then some (-13) else some 0))) else some (-12)) else some (-11))))
noncomputable def rmX3_refusal : Room := { frames := 1, cells := 0, slots := 0, locals := 22 }
set_option maxHeartbeats 4000000 in
set_option maxRecDepth 100000 in
theorem c_X3_refusal (l : Launch) (D : va_G) (cA : Nat → ClassId) (a : Nat → Nat) (σ : St3) (x1 : Int32) (x2 : Int32) (x3 : Int32) (res : Int32) (h : f_X3_refusal σ x1 x2 x3 = some res) : CT l D cA yX3_refusal wsX3_refusal rmX3_refusal [.ref (a 0), .int x1, .int x2, .int x3] [w3 cA a σ] [w3 cA a σ] (some (.int res)) := by
  refine CT.start (cc := cX3_refusal) (maxL := 4) (ret := (some .int)) (by decide) rfl (Nat.le_of_ble_eq_true rfl) ?_
  intro p e s m below meth c Z hP hD hS ls hl
  have Z : Cx p s m _ meth c cX3_refusal 4 (some .int) wsX3_refusal RX3 D cA := Z
  have hl : lv_has ls 4 [(0, .ref (a 0)), (1, .int x1), (2, .int x2), (3, .int x3)] := hl
  obtain ⟨hx, hb, hml, hown, hts, hr, hlk, hKK⟩ := id Z
  have hK := hKK.1
  rw [f_X3_refusal] at h
  refine lv_aload_n hx hb dX3_refusal_0 rfl (lv_at hl 0 rfl) ?_
  obtain ⟨r1, hr1, h⟩ := bind_inv h
  refine kV (rest := []) (st1 := [.int r1]) (cr := []) (cs' := [w3 cA a σ]) Z (c_X3_isMissing l D cA a σ r1 hr1) 0 gX3_refusal_X3_isMissing rfl hdX3_isMissing ⟨rfl, rfl⟩ ⟨Nat.le_of_ble_eq_true rfl, Nat.le_of_ble_eq_true rfl⟩ ⟨Nat.zero_le _, Nat.zero_le _⟩ hP hD hS hl.1 rfl rfl rfl (Nat.le_of_ble_eq_true rfl) 3 rfl rfl rfl [0] [] [0] rfl rfl rfl rfl rfl dX3_refusal_1 (fun H locs hP hD hS => ?_)
  refine lv_if_eq (tgt := 10) hx hb dX3_refusal_4 (by decide) (fun hc2 => ?_) (fun hc2 => ?_)
  · rw [if_pos hc2] at h
    refine lv_aload_n hx hb dX3_refusal_10 rfl (lv_at hl 0 rfl) ?_
    refine va_get (D := D) (ci := 3) (v := .int (p3_lane σ)) (C := RX3) (T := TX3) (N := 3) hx hb hts in_X3_refusal_X3 hown hK hP 0 rfl rfl 0 (by decide) (hts _ lk_X3_refusal_9) (fun _ h9 => h9) rfl dX3_refusal_11 ?_
    refine lv_iload_n hx hb dX3_refusal_14 rfl (lv_at hl 1 rfl) ?_
    refine lv_icmp_eq (tgt := 21) hx hb dX3_refusal_15 (by decide) (fun hc3 => ?_) (fun hc3 => ?_)
    · rw [if_pos hc3] at h
      refine lv_aload_n hx hb dX3_refusal_21 rfl (lv_at hl 0 rfl) ?_
      refine lv_iload_n hx hb dX3_refusal_22 rfl (lv_at hl 2 rfl) ?_
      refine lv_iload_n hx hb dX3_refusal_23 rfl (lv_at hl 3 rfl) ?_
      obtain ⟨r4, hr4, h⟩ := bind_inv h
      refine kV (rest := []) (st1 := [.int r4]) (cr := []) (cs' := [w3 cA a σ]) Z (c_X3_holds l D cA a σ x2 x3 r4 hr4) 2 gX3_refusal_X3_holds rfl hdX3_holds ⟨rfl, rfl⟩ ⟨Nat.le_of_ble_eq_true rfl, Nat.le_of_ble_eq_true rfl⟩ ⟨Nat.zero_le _, Nat.zero_le _⟩ hP hD hS hl.1 rfl rfl rfl (Nat.le_of_ble_eq_true rfl) 3 rfl rfl rfl [0] [] [0] rfl rfl rfl rfl rfl dX3_refusal_24 (fun H locs hP hD hS => ?_)
      refine lv_if_eq (tgt := 34) hx hb dX3_refusal_27 (by decide) (fun hc5 => ?_) (fun hc5 => ?_)
      · rw [if_pos hc5] at h
        refine lv_bipush (v := (-13)) hx hb dX3_refusal_34 (by decide) ?_
        have h := Option.some.inj h
        subst h
        exact CT.iret Z hP hD hS dX3_refusal_36
      · rw [if_neg hc5] at h
        refine lv_iconst (v := 0) hx hb dX3_refusal_30 (by decide) ?_
        refine lv_goto (tgt := 36) hx hb dX3_refusal_31 (by decide) ?_
        have h := Option.some.inj h
        subst h
        exact CT.iret Z hP hD hS dX3_refusal_36
    · rw [if_neg hc3] at h
      refine lv_bipush (v := (-12)) hx hb dX3_refusal_18 (by decide) ?_
      have h := Option.some.inj h
      subst h
      exact CT.iret Z hP hD hS dX3_refusal_20
  · rw [if_neg hc2] at h
    refine lv_bipush (v := (-11)) hx hb dX3_refusal_7 (by decide) ?_
    have h := Option.some.inj h
    subst h
    exact CT.iret Z hP hD hS dX3_refusal_9

-- X3.put
theorem lk_X3_put_9 : Cond.fieldLink RX3 9 "KeyedFeelings$Sheet" "lane" "I" ∈ wsX3_put := by decide +kernel
theorem in_X3_put_X3 : ∀ w ∈ wsX30, w ∈ wsX3_put := by decide +kernel
theorem lk_X3_put_18 : Cond.fieldLink RX3 18 "KeyedFeelings$Sheet" "items" "[J" ∈ wsX3_put := by decide +kernel
noncomputable def f_X3_put (σ : St3) (x1 : Int32) (x2 : Int64) : Option (St3) := (if (p3_lane σ) = 0 then (if inB x1 24 = true then some (s3_items σ (vp_updL (p3_items σ) x1.toNatClampNeg x2.toInt32.toInt8.toInt32.toInt64)) else none) else (if (p3_lane σ) = 1 then (if inB x1 24 = true then some (s3_items σ (vp_updL (p3_items σ) x1.toNatClampNeg x2.toInt32.toInt16.toInt32.toInt64)) else none) else (if (p3_lane σ) = 2 then (if inB x1 24 = true then some (s3_items σ (vp_updL (p3_items σ) x1.toNatClampNeg x2.toInt32.toInt64)) else none) else (if inB x1 24 = true then some (s3_items σ (vp_updL (p3_items σ) x1.toNatClampNeg x2)) else none))))
noncomputable def rmX3_put : Room := { frames := 0, cells := 0, slots := 0, locals := 0 }
set_option maxHeartbeats 4000000 in
set_option maxRecDepth 100000 in
theorem c_X3_put (l : Launch) (D : va_G) (cA : Nat → ClassId) (a : Nat → Nat) (σ : St3) (x1 : Int32) (x2 : Int64) (res : St3) (h : f_X3_put σ x1 x2 = some res) : CT l D cA yX3_put wsX3_put rmX3_put [.ref (a 0), .int x1, .long x2] [w3 cA a σ] [w3 cA a res] none := by
  refine CT.start (cc := cX3_put) (maxL := 4) (ret := none) (by decide) rfl (Nat.le_of_ble_eq_true rfl) ?_
  intro p e s m below meth c Z hP hD hS ls hl
  have Z : Cx p s m _ meth c cX3_put 4 none wsX3_put RX3 D cA := Z
  have hl : lv_has ls 4 [(0, .ref (a 0)), (1, .int x1), (2, .long x2)] := hl
  obtain ⟨hx, hb, hml, hown, hts, hr, hlk, hKK⟩ := id Z
  have hK := hKK.1
  rw [f_X3_put] at h
  refine lv_aload_n hx hb dX3_put_0 rfl (lv_at hl 0 rfl) ?_
  refine va_get (D := D) (ci := 3) (v := .int (p3_lane σ)) (C := RX3) (T := TX3) (N := 3) hx hb hts in_X3_put_X3 hown hK hP 0 rfl rfl 0 (by decide) (hts _ lk_X3_put_9) (fun _ h9 => h9) rfl dX3_put_1 ?_
  by_cases hc1 : (p3_lane σ) = 0
  · rw [if_pos hc1] at h
    refine lv_tableIn (tgt := 32) (off := 28) hx hb dX3_put_4 (by rw [hc1]; decide) (by rw [hc1]; decide) (by rw [hc1]; rfl) (by decide) ?_
    refine lv_aload_n hx hb dX3_put_32 rfl (lv_at hl 0 rfl) ?_
    refine va_get (D := D) (ci := 3) (v := .ref (a 1)) (C := RX3) (T := TX3) (N := 3) hx hb hts in_X3_put_X3 hown hK hP 0 rfl rfl 2 (by decide) (hts _ lk_X3_put_18) (fun _ h9 => h9) rfl dX3_put_33 ?_
    refine lv_iload_n hx hb dX3_put_36 rfl (lv_at hl 1 rfl) ?_
    refine lv_lload_n hx hb dX3_put_37 rfl (lv_at hl 2 rfl) ?_
    refine lv_l2i (v := x2.toInt32) hx hb dX3_put_38 rfl ?_
    refine lv_i2b (v := x2.toInt32.toInt8.toInt32) hx hb dX3_put_39 rfl ?_
    refine lv_i2l (v := x2.toInt32.toInt8.toInt32.toInt64) hx hb dX3_put_40 rfl ?_
    obtain ⟨hg2, h⟩ := if_inv h
    refine va_last hx hb hK hP hD hS 1 1 rfl rfl (inB_in hg2) dX3_put_41 (fun H locs hP hD hS => ?_)
    have hP : va_P D vwCl ([w3 cA a (s3_items σ (vp_updL (p3_items σ) x1.toNatClampNeg x2.toInt32.toInt8.toInt32.toInt64))] : List va_W).flatten H := hP
    have hD : va_D _ ([w3 cA a (s3_items σ (vp_updL (p3_items σ) x1.toNatClampNeg x2.toInt32.toInt8.toInt32.toInt64))] : List va_W).flatten := hD
    refine lv_goto (tgt := 77) hx hb dX3_put_42 (by decide) ?_
    have h := Option.some.inj h
    subst h
    exact CT.vret Z hP hD hS dX3_put_77
  · rw [if_neg hc1] at h
    by_cases hc3 : (p3_lane σ) = 1
    · rw [if_pos hc3] at h
      refine lv_tableIn (tgt := 45) (off := 41) hx hb dX3_put_4 (by rw [hc3]; decide) (by rw [hc3]; decide) (by rw [hc3]; rfl) (by decide) ?_
      refine lv_aload_n hx hb dX3_put_45 rfl (lv_at hl 0 rfl) ?_
      refine va_get (D := D) (ci := 3) (v := .ref (a 1)) (C := RX3) (T := TX3) (N := 3) hx hb hts in_X3_put_X3 hown hK hP 0 rfl rfl 2 (by decide) (hts _ lk_X3_put_18) (fun _ h9 => h9) rfl dX3_put_46 ?_
      refine lv_iload_n hx hb dX3_put_49 rfl (lv_at hl 1 rfl) ?_
      refine lv_lload_n hx hb dX3_put_50 rfl (lv_at hl 2 rfl) ?_
      refine lv_l2i (v := x2.toInt32) hx hb dX3_put_51 rfl ?_
      refine lv_i2s (v := x2.toInt32.toInt16.toInt32) hx hb dX3_put_52 rfl ?_
      refine lv_i2l (v := x2.toInt32.toInt16.toInt32.toInt64) hx hb dX3_put_53 rfl ?_
      obtain ⟨hg4, h⟩ := if_inv h
      refine va_last hx hb hK hP hD hS 1 1 rfl rfl (inB_in hg4) dX3_put_54 (fun H locs hP hD hS => ?_)
      have hP : va_P D vwCl ([w3 cA a (s3_items σ (vp_updL (p3_items σ) x1.toNatClampNeg x2.toInt32.toInt16.toInt32.toInt64))] : List va_W).flatten H := hP
      have hD : va_D _ ([w3 cA a (s3_items σ (vp_updL (p3_items σ) x1.toNatClampNeg x2.toInt32.toInt16.toInt32.toInt64))] : List va_W).flatten := hD
      refine lv_goto (tgt := 77) hx hb dX3_put_55 (by decide) ?_
      have h := Option.some.inj h
      subst h
      exact CT.vret Z hP hD hS dX3_put_77
    · rw [if_neg hc3] at h
      by_cases hc5 : (p3_lane σ) = 2
      · rw [if_pos hc5] at h
        refine lv_tableIn (tgt := 58) (off := 54) hx hb dX3_put_4 (by rw [hc5]; decide) (by rw [hc5]; decide) (by rw [hc5]; rfl) (by decide) ?_
        refine lv_aload_n hx hb dX3_put_58 rfl (lv_at hl 0 rfl) ?_
        refine va_get (D := D) (ci := 3) (v := .ref (a 1)) (C := RX3) (T := TX3) (N := 3) hx hb hts in_X3_put_X3 hown hK hP 0 rfl rfl 2 (by decide) (hts _ lk_X3_put_18) (fun _ h9 => h9) rfl dX3_put_59 ?_
        refine lv_iload_n hx hb dX3_put_62 rfl (lv_at hl 1 rfl) ?_
        refine lv_lload_n hx hb dX3_put_63 rfl (lv_at hl 2 rfl) ?_
        refine lv_l2i (v := x2.toInt32) hx hb dX3_put_64 rfl ?_
        refine lv_i2l (v := x2.toInt32.toInt64) hx hb dX3_put_65 rfl ?_
        obtain ⟨hg6, h⟩ := if_inv h
        refine va_last hx hb hK hP hD hS 1 1 rfl rfl (inB_in hg6) dX3_put_66 (fun H locs hP hD hS => ?_)
        have hP : va_P D vwCl ([w3 cA a (s3_items σ (vp_updL (p3_items σ) x1.toNatClampNeg x2.toInt32.toInt64))] : List va_W).flatten H := hP
        have hD : va_D _ ([w3 cA a (s3_items σ (vp_updL (p3_items σ) x1.toNatClampNeg x2.toInt32.toInt64))] : List va_W).flatten := hD
        refine lv_goto (tgt := 77) hx hb dX3_put_67 (by decide) ?_
        have h := Option.some.inj h
        subst h
        exact CT.vret Z hP hD hS dX3_put_77
      · rw [if_neg hc5] at h
        have hc1n := sw_ne (k := 0) 0 (by decide) hc1
        have hc3n := sw_ne (k := 1) 1 (by decide) hc3
        have hc5n := sw_ne (k := 2) 2 (by decide) hc5
        refine lv_tableOut (tgt := 70) hx hb dX3_put_4 (by omega) (by decide) ?_
        refine lv_aload_n hx hb dX3_put_70 rfl (lv_at hl 0 rfl) ?_
        refine va_get (D := D) (ci := 3) (v := .ref (a 1)) (C := RX3) (T := TX3) (N := 3) hx hb hts in_X3_put_X3 hown hK hP 0 rfl rfl 2 (by decide) (hts _ lk_X3_put_18) (fun _ h9 => h9) rfl dX3_put_71 ?_
        refine lv_iload_n hx hb dX3_put_74 rfl (lv_at hl 1 rfl) ?_
        refine lv_lload_n hx hb dX3_put_75 rfl (lv_at hl 2 rfl) ?_
        obtain ⟨hg7, h⟩ := if_inv h
        refine va_last hx hb hK hP hD hS 1 1 rfl rfl (inB_in hg7) dX3_put_76 (fun H locs hP hD hS => ?_)
        have hP : va_P D vwCl ([w3 cA a (s3_items σ (vp_updL (p3_items σ) x1.toNatClampNeg x2))] : List va_W).flatten H := hP
        have hD : va_D _ ([w3 cA a (s3_items σ (vp_updL (p3_items σ) x1.toNatClampNeg x2))] : List va_W).flatten := hD
        have h := Option.some.inj h
        subst h
        exact CT.vret Z hP hD hS dX3_put_77
