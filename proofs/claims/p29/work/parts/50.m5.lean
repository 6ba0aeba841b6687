-- X5.person
theorem lk_X5_person_10 : Cond.fieldLink RX5 10 "KeyedFeelings" "now" "LKeyedFeelings$People;" ∈ wsX5_person := by decide +kernel
theorem in_X5_person_X5 : ∀ w ∈ wsX50, w ∈ wsX5_person := by decide +kernel
theorem in_X5_person_X2 : ∀ w ∈ wsX20, w ∈ wsX5_person := by decide +kernel
theorem lk_X5_person_19 : Cond.fieldLink RX5 19 "KeyedFeelings" "past" "LKeyedFeelings$Past;" ∈ wsX5_person := by decide +kernel
theorem n1_X5_person_X1 : Cond.initialized RX1 ∈ wsX5_person := by decide +kernel
theorem n2_X5_person_X1_empty : Cond.instanceMethod yX1_empty ∈ wsX5_person := by decide +kernel
theorem n3_X5_person_X1_empty : Cond.selects RX1 yX1_empty yX1_empty ∈ wsX5_person := by decide +kernel
theorem n1_X5_person_X2 : Cond.initialized RX2 ∈ wsX5_person := by decide +kernel
theorem n2_X5_person_X2_join : Cond.instanceMethod yX2_join ∈ wsX5_person := by decide +kernel
theorem n3_X5_person_X2_join : Cond.selects RX2 yX2_join yX2_join ∈ wsX5_person := by decide +kernel
noncomputable def f_X5_person (κ : St5) (nw : St2) (ps : St1) (x1 : Int32) (x2 : Int32) : Option (Int32 × St2 × St1) := (if x1 < 0 then some ((-1), nw, ps) else (if 4 < x1 then some ((-1), nw, ps) else (if x2 < 0 then some ((-1), nw, ps) else (if x2 ≤ 30 then (if (p2_size nw) < 6 then ((f_X1_empty ps).bind (fun r6 => ((f_X2_join nw x1 x2).bind (fun r7 => some (r7.1, r7.2, r6))))) else some ((-3), nw, ps)) else some ((-1), nw, ps)))))
noncomputable def rmX5_person : Room := { frames := 1, cells := 0, slots := 0, locals := 22 }
set_option maxHeartbeats 4000000 in
set_option maxRecDepth 100000 in
theorem c_X5_person (l : Launch) (D : va_G) (cA : Nat → ClassId) (o : Nat → Nat → Nat) (κ : St5) (nw : St2) (ps : St1) (x1 : Int32) (x2 : Int32) (res : Int32 × St2 × St1) (h : f_X5_person κ nw ps x1 x2 = some res) : CT l D cA yX5_person wsX5_person rmX5_person [.ref (o 0 0), .int x1, .int x2] [w5 cA o κ, w2 cA (o 1) nw, w1 cA (fun i => o (20 + i)) ps] [w5 cA o κ, w2 cA (o 1) res.2.1, w1 cA (fun i => o (20 + i)) res.2.2] (some (.int res.1)) := by
  refine CT.start (cc := cX5_person) (maxL := 3) (ret := (some .int)) (by decide) rfl (Nat.le_of_ble_eq_true rfl) ?_
  intro p e s m below meth c Z hP hD hS ls hl
  have Z : Cx p s m _ meth c cX5_person 3 (some .int) wsX5_person RX5 D cA := Z
  have hl : lv_has ls 3 [(0, .ref (o 0 0)), (1, .int x1), (2, .int x2)] := hl
  obtain ⟨hx, hb, hml, hown, hts, hr, hlk, hKK⟩ := id Z
  have hK := hKK.1
  rw [f_X5_person] at h
  refine lv_iload_n hx hb dX5_person_0 rfl (lv_at hl 1 rfl) ?_
  refine lv_if_lt (tgt := 19) hx hb dX5_person_1 (by decide) (fun hc1 => ?_) (fun hc1 => ?_)
  · rw [if_pos hc1] at h
    refine lv_iconst (v := (-1)) hx hb dX5_person_19 (by decide) ?_
    have h := Option.some.inj h
    subst h
    exact CT.iret Z hP hD hS dX5_person_20
  · rw [if_neg hc1] at h
    refine lv_iload_n hx hb dX5_person_4 rfl (lv_at hl 1 rfl) ?_
    refine lv_iconst (v := 4) hx hb dX5_person_5 (by decide) ?_
    refine lv_icmp_gt (tgt := 19) hx hb dX5_person_6 (by decide) (fun hc2 => ?_) (fun hc2 => ?_)
    · rw [if_pos hc2] at h
      refine lv_iconst (v := (-1)) hx hb dX5_person_19 (by decide) ?_
      have h := Option.some.inj h
      subst h
      exact CT.iret Z hP hD hS dX5_person_20
    · rw [if_neg hc2] at h
      refine lv_iload_n hx hb dX5_person_9 rfl (lv_at hl 2 rfl) ?_
      refine lv_if_lt (tgt := 19) hx hb dX5_person_10 (by decide) (fun hc3 => ?_) (fun hc3 => ?_)
      · rw [if_pos hc3] at h
        refine lv_iconst (v := (-1)) hx hb dX5_person_19 (by decide) ?_
        have h := Option.some.inj h
        subst h
        exact CT.iret Z hP hD hS dX5_person_20
      · rw [if_neg hc3] at h
        refine lv_iload_n hx hb dX5_person_13 rfl (lv_at hl 2 rfl) ?_
        refine lv_bipush (v := 30) hx hb dX5_person_14 (by decide) ?_
        refine lv_icmp_le (tgt := 21) hx hb dX5_person_16 (by decide) (fun hc4 => ?_) (fun hc4 => ?_)
        · rw [if_pos hc4] at h
          refine lv_aload_n hx hb dX5_person_21 rfl (lv_at hl 0 rfl) ?_
          refine va_get (D := D) (ci := 5) (v := .ref (o 1 0)) (C := RX5) (T := TX5) (N := 9) hx hb hts in_X5_person_X5 hown hK hP 0 rfl rfl 0 (by decide) (hts _ lk_X5_person_10) (fun _ h9 => h9) rfl dX5_person_22 ?_
          refine va_getN (D := D) (ci := 2) (v := .int (p2_size nw)) (C := RX2) (T := TX2) (N := 7) hx hb hts in_X5_person_X2 hown hK hP 1 rfl rfl 0 (by decide) (nest_use rfl (hKK.2 _ nk_X5_57)) (fun _ h9 => h9) rfl dX5_person_25 ?_
          refine lv_bipush (v := 6) hx hb dX5_person_28 (by decide) ?_
          refine lv_icmp_lt (tgt := 36) hx hb dX5_person_30 (by decide) (fun hc5 => ?_) (fun hc5 => ?_)
          · rw [if_pos hc5] at h
            refine lv_aload_n hx hb dX5_person_36 rfl (lv_at hl 0 rfl) ?_
            refine va_get (D := D) (ci := 5) (v := .ref (o 20 0)) (C := RX5) (T := TX5) (N := 9) hx hb hts in_X5_person_X5 hown hK hP 0 rfl rfl 1 (by decide) (hts _ lk_X5_person_19) (fun _ h9 => h9) rfl dX5_person_37 ?_
            obtain ⟨r6, hr6, h⟩ := bind_inv h
            refine kVN (rest := []) (st1 := []) (cr := [w5 cA o κ, w2 cA (o 1) nw]) (cs' := [w5 cA o κ, w2 cA (o 1) nw, w1 cA (fun i => o (20 + i)) r6]) Z (c_X1_empty l D cA (fun i => o (20 + i)) ps r6 hr6) 0 gX5_person_X1_empty_n61 rfl hdX1_empty nk_X5_61 n1_X5_person_X1 n2_X5_person_X1_empty n3_X5_person_X1_empty ⟨rfl, rfl⟩ ⟨Nat.le_of_ble_eq_true rfl, Nat.le_of_ble_eq_true rfl⟩ ⟨Nat.zero_le _, Nat.zero_le _⟩ hP hD hS hl.1 rfl rfl rfl (Nat.le_of_ble_eq_true rfl) 1 rfl rfl rfl [2] [0, 1] [0, 1, 2] rfl rfl rfl rfl rfl dX5_person_40 (fun H locs hP hD hS => ?_)
            refine lv_aload_n hx hb dX5_person_43 rfl (lv_at hl 0 rfl) ?_
            refine va_get (D := D) (ci := 5) (v := .ref (o 1 0)) (C := RX5) (T := TX5) (N := 9) hx hb hts in_X5_person_X5 hown hK hP 0 rfl rfl 0 (by decide) (hts _ lk_X5_person_10) (fun _ h9 => h9) rfl dX5_person_44 ?_
            refine lv_iload_n hx hb dX5_person_47 rfl (lv_at hl 1 rfl) ?_
            refine lv_iload_n hx hb dX5_person_48 rfl (lv_at hl 2 rfl) ?_
            obtain ⟨r7, hr7, h⟩ := bind_inv h
            refine kVN (rest := []) (st1 := [.int r7.1]) (cr := [w5 cA o κ, w1 cA (fun i => o (20 + i)) r6]) (cs' := [w5 cA o κ, w2 cA (o 1) r7.2, w1 cA (fun i => o (20 + i)) r6]) Z (c_X2_join l D cA (o 1) nw x1 x2 r7 hr7) 2 gX5_person_X2_join_n64 rfl hdX2_join nk_X5_64 n1_X5_person_X2 n2_X5_person_X2_join n3_X5_person_X2_join ⟨rfl, rfl⟩ ⟨Nat.le_of_ble_eq_true rfl, Nat.le_of_ble_eq_true rfl⟩ ⟨Nat.zero_le _, Nat.zero_le _⟩ hP hD hS hl.1 rfl rfl rfl (Nat.le_of_ble_eq_true rfl) 2 rfl rfl rfl [1] [0, 2] [0, 2, 1] rfl rfl rfl rfl rfl dX5_person_49 (fun H locs hP hD hS => ?_)
            have h := Option.some.inj h
            subst h
            exact CT.iret Z hP hD hS dX5_person_52
          · rw [if_neg hc5] at h
            refine lv_bipush (v := (-3)) hx hb dX5_person_33 (by decide) ?_
            have h := Option.some.inj h
            subst h
            exact CT.iret Z hP hD hS dX5_person_35
        · rw [if_neg hc4] at h
          refine lv_iconst (v := (-1)) hx hb dX5_person_19 (by decide) ?_
          have h := Option.some.inj h
          subst h
          exact CT.iret Z hP hD hS dX5_person_20

-- X5.of
theorem lk_X5_of_10 : Cond.fieldLink RX5 10 "KeyedFeelings" "now" "LKeyedFeelings$People;" ∈ wsX5_of := by decide +kernel
theorem in_X5_of_X5 : ∀ w ∈ wsX50, w ∈ wsX5_of := by decide +kernel
theorem n1_X5_of_X2 : Cond.initialized RX2 ∈ wsX5_of := by decide +kernel
theorem n2_X5_of_X2_has : Cond.instanceMethod yX2_has ∈ wsX5_of := by decide +kernel
theorem n3_X5_of_X2_has : Cond.selects RX2 yX2_has yX2_has ∈ wsX5_of := by decide +kernel
theorem in_X5_of_X2 : ∀ w ∈ wsX20, w ∈ wsX5_of := by decide +kernel
theorem n2_X5_of_X2_stopped : Cond.instanceMethod yX2_stopped ∈ wsX5_of := by decide +kernel
theorem n3_X5_of_X2_stopped : Cond.selects RX2 yX2_stopped yX2_stopped ∈ wsX5_of := by decide +kernel
theorem n2_X5_of_X2_runsOff : Cond.instanceMethod yX2_runsOff ∈ wsX5_of := by decide +kernel
theorem n3_X5_of_X2_runsOff : Cond.selects RX2 yX2_runsOff yX2_runsOff ∈ wsX5_of := by decide +kernel
theorem n2_X5_of_X2_woundBy : Cond.instanceMethod yX2_woundBy ∈ wsX5_of := by decide +kernel
theorem n3_X5_of_X2_woundBy : Cond.selects RX2 yX2_woundBy yX2_woundBy ∈ wsX5_of := by decide +kernel
noncomputable def f_X5_of (κ : St5) (nw : St2) (x1 : Int32) (x2 : Int32) : Option (Int32) := ((f_X2_has nw x1).bind (fun r1 => (if r1 = 0 then some (-1) else (if x2 = 0 then (if inB x1 6 = true then some ((p2_kinds nw) x1.toNatClampNeg) else none) else (if x2 = 1 then (if inB x1 6 = true then some ((p2_turns nw) x1.toNatClampNeg) else none) else (if x2 = 2 then (if inB x1 6 = true then some ((p2_winds nw) x1.toNatClampNeg) else none) else (if x2 = 3 then (if inB x1 6 = true then some ((p2_keys nw) x1.toNatClampNeg) else none) else (if x2 = 4 then ((f_X2_stopped nw).bind (fun r12 => ((f_X2_runsOff nw x1 r12).bind (fun r13 => some r13)))) else (if x2 = 5 then ((f_X2_woundBy nw x1).bind (fun r15 => some r15)) else some (-1))))))))))
noncomputable def rmX5_of : Room := { frames := 2, cells := 0, slots := 0, locals := 45 }
set_option maxHeartbeats 4000000 in
set_option maxRecDepth 100000 in
theorem c_X5_of (l : Launch) (D : va_G) (cA : Nat → ClassId) (o : Nat → Nat → Nat) (κ : St5) (nw : St2) (x1 : Int32) (x2 : Int32) (res : Int32) (h : f_X5_of κ nw x1 x2 = some res) : CT l D cA yX5_of wsX5_of rmX5_of [.ref (o 0 0), .int x1, .int x2] [w5 cA o κ, w2 cA (o 1) nw] [w5 cA o κ, w2 cA (o 1) nw] (some (.int res)) := by
  refine CT.start (cc := cX5_of) (maxL := 3) (ret := (some .int)) (by decide) rfl (Nat.le_of_ble_eq_true rfl) ?_
  intro p e s m below meth c Z hP hD hS ls hl
  have Z : Cx p s m _ meth c cX5_of 3 (some .int) wsX5_of RX5 D cA := Z
  have hl : lv_has ls 3 [(0, .ref (o 0 0)), (1, .int x1), (2, .int x2)] := hl
  obtain ⟨hx, hb, hml, hown, hts, hr, hlk, hKK⟩ := id Z
  have hK := hKK.1
  rw [f_X5_of] at h
  refine lv_aload_n hx hb dX5_of_0 rfl (lv_at hl 0 rfl) ?_
  refine va_get (D := D) (ci := 5) (v := .ref (o 1 0)) (C := RX5) (T := TX5) (N := 9) hx hb hts in_X5_of_X5 hown hK hP 0 rfl rfl 0 (by decide) (hts _ lk_X5_of_10) (fun _ h9 => h9) rfl dX5_of_1 ?_
  refine lv_iload_n hx hb dX5_of_4 rfl (lv_at hl 1 rfl) ?_
  obtain ⟨r1, hr1, h⟩ := bind_inv h
  refine kVN (rest := []) (st1 := [.int r1]) (cr := [w5 cA o κ]) (cs' := [w5 cA o κ, w2 cA (o 1) nw]) Z (c_X2_has l D cA (o 1) nw x1 r1 hr1) 1 gX5_of_X2_has_n68 rfl hdX2_has nk_X5_68 n1_X5_of_X2 n2_X5_of_X2_has n3_X5_of_X2_has ⟨rfl, rfl⟩ ⟨Nat.le_of_ble_eq_true rfl, Nat.le_of_ble_eq_true rfl⟩ ⟨Nat.zero_le _, Nat.zero_le _⟩ hP hD hS hl.1 rfl rfl rfl (Nat.le_of_ble_eq_true rfl) 2 rfl rfl rfl [1] [0] [0, 1] rfl rfl rfl rfl rfl dX5_of_5 (fun H locs hP hD hS => ?_)
  refine lv_if_ne (tgt := 13) hx hb dX5_of_8 (by decide) (fun hc2 => ?_) (fun hc2 => ?_)
  · rw [if_neg hc2] at h
    refine lv_iload_n hx hb dX5_of_13 rfl (lv_at hl 2 rfl) ?_
    by_cases hc3 : x2 = 0
    · rw [if_pos hc3] at h
      refine lv_tableIn (tgt := 52) (off := 38) hx hb dX5_of_14 (by rw [hc3]; decide) (by rw [hc3]; decide) (by rw [hc3]; rfl) (by decide) ?_
      refine lv_aload_n hx hb dX5_of_52 rfl (lv_at hl 0 rfl) ?_
      refine va_get (D := D) (ci := 5) (v := .ref (o 1 0)) (C := RX5) (T := TX5) (N := 9) hx hb hts in_X5_of_X5 hown hK hP 0 rfl rfl 0 (by decide) (hts _ lk_X5_of_10) (fun _ h9 => h9) rfl dX5_of_53 ?_
      refine va_getN (D := D) (ci := 2) (v := .ref (o 1 1)) (C := RX2) (T := TX2) (N := 7) hx hb hts in_X5_of_X2 hown hK hP 1 rfl rfl 1 (by decide) (nest_use rfl (hKK.2 _ nk_X5_72)) (fun _ h9 => h9) rfl dX5_of_56 ?_
      refine lv_iload_n hx hb dX5_of_59 rfl (lv_at hl 1 rfl) ?_
      obtain ⟨hg4, h⟩ := if_inv h
      refine va_iald hx hb hK hP 2 0 rfl rfl (inB_in hg4) dX5_of_60 ?_
      have h := Option.some.inj h
      subst h
      exact CT.iret Z hP hD hS dX5_of_61
    · rw [if_neg hc3] at h
      by_cases hc5 : x2 = 1
      · rw [if_pos hc5] at h
        refine lv_tableIn (tgt := 62) (off := 48) hx hb dX5_of_14 (by rw [hc5]; decide) (by rw [hc5]; decide) (by rw [hc5]; rfl) (by decide) ?_
        refine lv_aload_n hx hb dX5_of_62 rfl (lv_at hl 0 rfl) ?_
        refine va_get (D := D) (ci := 5) (v := .ref (o 1 0)) (C := RX5) (T := TX5) (N := 9) hx hb hts in_X5_of_X5 hown hK hP 0 rfl rfl 0 (by decide) (hts _ lk_X5_of_10) (fun _ h9 => h9) rfl dX5_of_63 ?_
        refine va_getN (D := D) (ci := 2) (v := .ref (o 1 2)) (C := RX2) (T := TX2) (N := 7) hx hb hts in_X5_of_X2 hown hK hP 1 rfl rfl 2 (by decide) (nest_use rfl (hKK.2 _ nk_X5_76)) (fun _ h9 => h9) rfl dX5_of_66 ?_
        refine lv_iload_n hx hb dX5_of_69 rfl (lv_at hl 1 rfl) ?_
        obtain ⟨hg6, h⟩ := if_inv h
        refine va_iald hx hb hK hP 3 0 rfl rfl (inB_in hg6) dX5_of_70 ?_
        have h := Option.some.inj h
        subst h
        exact CT.iret Z hP hD hS dX5_of_71
      · rw [if_neg hc5] at h
        by_cases hc7 : x2 = 2
        · rw [if_pos hc7] at h
          refine lv_tableIn (tgt := 72) (off := 58) hx hb dX5_of_14 (by rw [hc7]; decide) (by rw [hc7]; decide) (by rw [hc7]; rfl) (by decide) ?_
          refine lv_aload_n hx hb dX5_of_72 rfl (lv_at hl 0 rfl) ?_
          refine va_get (D := D) (ci := 5) (v := .ref (o 1 0)) (C := RX5) (T := TX5) (N := 9) hx hb hts in_X5_of_X5 hown hK hP 0 rfl rfl 0 (by decide) (hts _ lk_X5_of_10) (fun _ h9 => h9) rfl dX5_of_73 ?_
          refine va_getN (D := D) (ci := 2) (v := .ref (o 1 3)) (C := RX2) (T := TX2) (N := 7) hx hb hts in_X5_of_X2 hown hK hP 1 rfl rfl 3 (by decide) (nest_use rfl (hKK.2 _ nk_X5_79)) (fun _ h9 => h9) rfl dX5_of_76 ?_
          refine lv_iload_n hx hb dX5_of_79 rfl (lv_at hl 1 rfl) ?_
          obtain ⟨hg8, h⟩ := if_inv h
          refine va_iald hx hb hK hP 4 0 rfl rfl (inB_in hg8) dX5_of_80 ?_
          have h := Option.some.inj h
          subst h
          exact CT.iret Z hP hD hS dX5_of_81
        · rw [if_neg hc7] at h
          by_cases hc9 : x2 = 3
          · rw [if_pos hc9] at h
            refine lv_tableIn (tgt := 82) (off := 68) hx hb dX5_of_14 (by rw [hc9]; decide) (by rw [hc9]; decide) (by rw [hc9]; rfl) (by decide) ?_
            refine lv_aload_n hx hb dX5_of_82 rfl (lv_at hl 0 rfl) ?_
            refine va_get (D := D) (ci := 5) (v := .ref (o 1 0)) (C := RX5) (T := TX5) (N := 9) hx hb hts in_X5_of_X5 hown hK hP 0 rfl rfl 0 (by decide) (hts _ lk_X5_of_10) (fun _ h9 => h9) rfl dX5_of_83 ?_
            refine va_getN (D := D) (ci := 2) (v := .ref (o 1 4)) (C := RX2) (T := TX2) (N := 7) hx hb hts in_X5_of_X2 hown hK hP 1 rfl rfl 4 (by decide) (nest_use rfl (hKK.2 _ nk_X5_82)) (fun _ h9 => h9) rfl dX5_of_86 ?_
            refine lv_iload_n hx hb dX5_of_89 rfl (lv_at hl 1 rfl) ?_
            obtain ⟨hg10, h⟩ := if_inv h
            refine va_iald hx hb hK hP 5 0 rfl rfl (inB_in hg10) dX5_of_90 ?_
            have h := Option.some.inj h
            subst h
            exact CT.iret Z hP hD hS dX5_of_91
          · rw [if_neg hc9] at h
            by_cases hc11 : x2 = 4
            · rw [if_pos hc11] at h
              refine lv_tableIn (tgt := 92) (off := 78) hx hb dX5_of_14 (by rw [hc11]; decide) (by rw [hc11]; decide) (by rw [hc11]; rfl) (by decide) ?_
              refine lv_aload_n hx hb dX5_of_92 rfl (lv_at hl 0 rfl) ?_
              refine va_get (D := D) (ci := 5) (v := .ref (o 1 0)) (C := RX5) (T := TX5) (N := 9) hx hb hts in_X5_of_X5 hown hK hP 0 rfl rfl 0 (by decide) (hts _ lk_X5_of_10) (fun _ h9 => h9) rfl dX5_of_93 ?_
              refine lv_iload_n hx hb dX5_of_96 rfl (lv_at hl 1 rfl) ?_
              refine lv_aload_n hx hb dX5_of_97 rfl (lv_at hl 0 rfl) ?_
              refine va_get (D := D) (ci := 5) (v := .ref (o 1 0)) (C := RX5) (T := TX5) (N := 9) hx hb hts in_X5_of_X5 hown hK hP 0 rfl rfl 0 (by decide) (hts _ lk_X5_of_10) (fun _ h9 => h9) rfl dX5_of_98 ?_
              obtain ⟨r12, hr12, h⟩ := bind_inv h
              refine kVN (rest := [.int x1, .ref (o 1 0)]) (st1 := [.int r12, .int x1, .ref (o 1 0)]) (cr := [w5 cA o κ]) (cs' := [w5 cA o κ, w2 cA (o 1) nw]) Z (c_X2_stopped l D cA (o 1) nw r12 hr12) 0 gX5_of_X2_stopped_n85 rfl hdX2_stopped nk_X5_85 n1_X5_of_X2 n2_X5_of_X2_stopped n3_X5_of_X2_stopped ⟨rfl, rfl⟩ ⟨Nat.le_of_ble_eq_true rfl, Nat.le_of_ble_eq_true rfl⟩ ⟨Nat.zero_le _, Nat.zero_le _⟩ hP hD hS hl.1 rfl rfl rfl (Nat.le_of_ble_eq_true rfl) 2 rfl rfl rfl [1] [0] [0, 1] rfl rfl rfl rfl rfl dX5_of_101 (fun H locs hP hD hS => ?_)
              obtain ⟨r13, hr13, h⟩ := bind_inv h
              refine kVN (rest := []) (st1 := [.int r13]) (cr := [w5 cA o κ]) (cs' := [w5 cA o κ, w2 cA (o 1) nw]) Z (c_X2_runsOff l D cA (o 1) nw x1 r12 r13 hr13) 2 gX5_of_X2_runsOff_n89 rfl hdX2_runsOff nk_X5_89 n1_X5_of_X2 n2_X5_of_X2_runsOff n3_X5_of_X2_runsOff ⟨rfl, rfl⟩ ⟨Nat.le_of_ble_eq_true rfl, Nat.le_of_ble_eq_true rfl⟩ ⟨Nat.zero_le _, Nat.zero_le _⟩ hP hD hS hl.1 rfl rfl rfl (Nat.le_of_ble_eq_true rfl) 2 rfl rfl rfl [1] [0] [0, 1] rfl rfl rfl rfl rfl dX5_of_104 (fun H locs hP hD hS => ?_)
              have h := Option.some.inj h
              subst h
              exact CT.iret Z hP hD hS dX5_of_107
            · rw [if_neg hc11] at h
              by_cases hc14 : x2 = 5
              · rw [if_pos hc14] at h
                refine lv_tableIn (tgt := 108) (off := 94) hx hb dX5_of_14 (by rw [hc14]; decide) (by rw [hc14]; decide) (by rw [hc14]; rfl) (by decide) ?_
                refine lv_aload_n hx hb dX5_of_108 rfl (lv_at hl 0 rfl) ?_
                refine va_get (D := D) (ci := 5) (v := .ref (o 1 0)) (C := RX5) (T := TX5) (N := 9) hx hb hts in_X5_of_X5 hown hK hP 0 rfl rfl 0 (by decide) (hts _ lk_X5_of_10) (fun _ h9 => h9) rfl dX5_of_109 ?_
                refine lv_iload_n hx hb dX5_of_112 rfl (lv_at hl 1 rfl) ?_
                obtain ⟨r15, hr15, h⟩ := bind_inv h
                refine kVN (rest := []) (st1 := [.int r15]) (cr := [w5 cA o κ]) (cs' := [w5 cA o κ, w2 cA (o 1) nw]) Z (c_X2_woundBy l D cA (o 1) nw x1 r15 hr15) 1 gX5_of_X2_woundBy_n92 rfl hdX2_woundBy nk_X5_92 n1_X5_of_X2 n2_X5_of_X2_woundBy n3_X5_of_X2_woundBy ⟨rfl, rfl⟩ ⟨Nat.le_of_ble_eq_true rfl, Nat.le_of_ble_eq_true rfl⟩ ⟨Nat.zero_le _, Nat.zero_le _⟩ hP hD hS hl.1 rfl rfl rfl (Nat.le_of_ble_eq_true rfl) 2 rfl rfl rfl [1] [0] [0, 1] rfl rfl rfl rfl rfl dX5_of_113 (fun H locs hP hD hS => ?_)
                have h := Option.some.inj h
                subst h
                exact CT.iret Z hP hD hS dX5_of_116
              · rw [if_neg hc14] at h
                have hc3n := sw_ne (k := 0) 0 (by decide) hc3
                have hc5n := sw_ne (k := 1) 1 (by decide) hc5
                have hc7n := sw_ne (k := 2) 2 (by decide) hc7
                have hc9n := sw_ne (k := 3) 3 (by decide) hc9
                have hc11n := sw_ne (k := 4) 4 (by decide) hc11
                have hc14n := sw_ne (k := 5) 5 (by decide) hc14
                refine lv_tableOut (tgt := 117) hx hb dX5_of_14 (by omega) (by decide) ?_
                refine lv_iconst (v := (-1)) hx hb dX5_of_117 (by decide) ?_
                have h := Option.some.inj h
                subst h
                exact CT.iret Z hP hD hS dX5_of_118
  · rw [if_pos hc2] at h
    refine lv_iconst (v := (-1)) hx hb dX5_of_11 (by decide) ?_
    have h := Option.some.inj h
    subst h
    exact CT.iret Z hP hD hS dX5_of_12

-- X5.type
theorem lk_X5_type_39 : Cond.fieldLink RX5 39 "KeyedFeelings" "tape" "LKeyedFeelings$Tape;" ∈ wsX5_type := by decide +kernel
theorem in_X5_type_X5 : ∀ w ∈ wsX50, w ∈ wsX5_type := by decide +kernel
theorem n1_X5_type_X4 : Cond.initialized RX4 ∈ wsX5_type := by decide +kernel
theorem n2_X5_type_X4_isFull : Cond.instanceMethod yX4_isFull ∈ wsX5_type := by decide +kernel
theorem n3_X5_type_X4_isFull : Cond.selects RX4 yX4_isFull yX4_isFull ∈ wsX5_type := by decide +kernel
theorem n2_X5_type_X4_append : Cond.instanceMethod yX4_append ∈ wsX5_type := by decide +kernel
theorem n3_X5_type_X4_append : Cond.selects RX4 yX4_append yX4_append ∈ wsX5_type := by decide +kernel
noncomputable def f_X5_type (κ : St5) (tp : St4) (x1 : Int32) : Option (Int32 × St4) := (if x1 < 32 then some ((-1), tp) else (if x1 ≤ 126 then ((f_X4_isFull tp).bind (fun r3 => (if r3 = 0 then ((f_X4_append tp x1).bind (fun r5 => some (r5.1, r5.2))) else some ((-3), tp)))) else some ((-1), tp)))
noncomputable def rmX5_type : Room := { frames := 1, cells := 0, slots := 0, locals := 21 }
set_option maxHeartbeats 4000000 in
set_option maxRecDepth 100000 in
theorem c_X5_type (l : Launch) (D : va_G) (cA : Nat → ClassId) (o : Nat → Nat → Nat) (κ : St5) (tp : St4) (x1 : Int32) (res : Int32 × St4) (h : f_X5_type κ tp x1 = some res) : CT l D cA yX5_type wsX5_type rmX5_type [.ref (o 0 0), .int x1] [w5 cA o κ, w4 cA (o 6) tp] [w5 cA o κ, w4 cA (o 6) res.2] (some (.int res.1)) := by
  refine CT.start (cc := cX5_type) (maxL := 2) (ret := (some .int)) (by decide) rfl (Nat.le_of_ble_eq_true rfl) ?_
  intro p e s m below meth c Z hP hD hS ls hl
  have Z : Cx p s m _ meth c cX5_type 2 (some .int) wsX5_type RX5 D cA := Z
  have hl : lv_has ls 2 [(0, .ref (o 0 0)), (1, .int x1)] := hl
  obtain ⟨hx, hb, hml, hown, hts, hr, hlk, hKK⟩ := id Z
  have hK := hKK.1
  rw [f_X5_type] at h
  refine lv_iload_n hx hb dX5_type_0 rfl (lv_at hl 1 rfl) ?_
  refine lv_bipush (v := 32) hx hb dX5_type_1 (by decide) ?_
  refine lv_icmp_lt (tgt := 12) hx hb dX5_type_3 (by decide) (fun hc1 => ?_) (fun hc1 => ?_)
  · rw [if_pos hc1] at h
    refine lv_iconst (v := (-1)) hx hb dX5_type_12 (by decide) ?_
    have h := Option.some.inj h
    subst h
    exact CT.iret Z hP hD hS dX5_type_13
  · rw [if_neg hc1] at h
    refine lv_iload_n hx hb dX5_type_6 rfl (lv_at hl 1 rfl) ?_
    refine lv_bipush (v := 126) hx hb dX5_type_7 (by decide) ?_
    refine lv_icmp_le (tgt := 14) hx hb dX5_type_9 (by decide) (fun hc2 => ?_) (fun hc2 => ?_)
    · rw [if_pos hc2] at h
      refine lv_aload_n hx hb dX5_type_14 rfl (lv_at hl 0 rfl) ?_
      refine va_get (D := D) (ci := 5) (v := .ref (o 6 0)) (C := RX5) (T := TX5) (N := 9) hx hb hts in_X5_type_X5 hown hK hP 0 rfl rfl 6 (by decide) (hts _ lk_X5_type_39) (fun _ h9 => h9) rfl dX5_type_15 ?_
      obtain ⟨r3, hr3, h⟩ := bind_inv h
      refine kVN (rest := []) (st1 := [.int r3]) (cr := [w5 cA o κ]) (cs' := [w5 cA o κ, w4 cA (o 6) tp]) Z (c_X4_isFull l D cA (o 6) tp r3 hr3) 0 gX5_type_X4_isFull_n96 rfl hdX4_isFull nk_X5_96 n1_X5_type_X4 n2_X5_type_X4_isFull n3_X5_type_X4_isFull ⟨rfl, rfl⟩ ⟨Nat.le_of_ble_eq_true rfl, Nat.le_of_ble_eq_true rfl⟩ ⟨Nat.zero_le _, Nat.zero_le _⟩ hP hD hS hl.1 rfl rfl rfl (Nat.le_of_ble_eq_true rfl) 4 rfl rfl rfl [1] [0] [0, 1] rfl rfl rfl rfl rfl dX5_type_18 (fun H locs hP hD hS => ?_)
      refine lv_if_eq (tgt := 27) hx hb dX5_type_21 (by decide) (fun hc4 => ?_) (fun hc4 => ?_)
      · rw [if_pos hc4] at h
        refine lv_aload_n hx hb dX5_type_27 rfl (lv_at hl 0 rfl) ?_
        refine va_get (D := D) (ci := 5) (v := .ref (o 6 0)) (C := RX5) (T := TX5) (N := 9) hx hb hts in_X5_type_X5 hown hK hP 0 rfl rfl 6 (by decide) (hts _ lk_X5_type_39) (fun _ h9 => h9) rfl dX5_type_28 ?_
        refine lv_iload_n hx hb dX5_type_31 rfl (lv_at hl 1 rfl) ?_
        obtain ⟨r5, hr5, h⟩ := bind_inv h
        refine kVN (rest := []) (st1 := [.int r5.1]) (cr := [w5 cA o κ]) (cs' := [w5 cA o κ, w4 cA (o 6) r5.2]) Z (c_X4_append l D cA (o 6) tp x1 r5 hr5) 1 gX5_type_X4_append_n100 rfl hdX4_append nk_X5_100 n1_X5_type_X4 n2_X5_type_X4_append n3_X5_type_X4_append ⟨rfl, rfl⟩ ⟨Nat.le_of_ble_eq_true rfl, Nat.le_of_ble_eq_true rfl⟩ ⟨Nat.zero_le _, Nat.zero_le _⟩ hP hD hS hl.1 rfl rfl rfl (Nat.le_of_ble_eq_true rfl) 4 rfl rfl rfl [1] [0] [0, 1] rfl rfl rfl rfl rfl dX5_type_32 (fun H locs hP hD hS => ?_)
        have h := Option.some.inj h
        subst h
        exact CT.iret Z hP hD hS dX5_type_35
      · rw [if_neg hc4] at h
        refine lv_bipush (v := (-3)) hx hb dX5_type_24 (by decide) ?_
        have h := Option.some.inj h
        subst h
        exact CT.iret Z hP hD hS dX5_type_26
    · rw [if_neg hc2] at h
      refine lv_iconst (v := (-1)) hx hb dX5_type_12 (by decide) ?_
      have h := Option.some.inj h
      subst h
      exact CT.iret Z hP hD hS dX5_type_13

-- X5.count
theorem lk_X5_count_10 : Cond.fieldLink RX5 10 "KeyedFeelings" "now" "LKeyedFeelings$People;" ∈ wsX5_count := by decide +kernel
theorem in_X5_count_X5 : ∀ w ∈ wsX50, w ∈ wsX5_count := by decide +kernel
theorem in_X5_count_X2 : ∀ w ∈ wsX20, w ∈ wsX5_count := by decide +kernel
theorem n1_X5_count_X2 : Cond.initialized RX2 ∈ wsX5_count := by decide +kernel
theorem n2_X5_count_X2_stopped : Cond.instanceMethod yX2_stopped ∈ wsX5_count := by decide +kernel
theorem n3_X5_count_X2_stopped : Cond.selects RX2 yX2_stopped yX2_stopped ∈ wsX5_count := by decide +kernel
theorem n2_X5_count_X2_turnsTogether : Cond.instanceMethod yX2_turnsTogether ∈ wsX5_count := by decide +kernel
theorem n3_X5_count_X2_turnsTogether : Cond.selects RX2 yX2_turnsTogether yX2_turnsTogether ∈ wsX5_count := by decide +kernel
theorem n2_X5_count_X2_ring : Cond.instanceMethod yX2_ring ∈ wsX5_count := by decide +kernel
theorem n3_X5_count_X2_ring : Cond.selects RX2 yX2_ring yX2_ring ∈ wsX5_count := by decide +kernel
theorem n2_X5_count_X2_without : Cond.instanceMethod yX2_without ∈ wsX5_count := by decide +kernel
theorem n3_X5_count_X2_without : Cond.selects RX2 yX2_without yX2_without ∈ wsX5_count := by decide +kernel
theorem n2_X5_count_X2_isWindingHour : Cond.instanceMethod yX2_isWindingHour ∈ wsX5_count := by decide +kernel
theorem n3_X5_count_X2_isWindingHour : Cond.selects RX2 yX2_isWindingHour yX2_isWindingHour ∈ wsX5_count := by decide +kernel
theorem lk_X5_count_19 : Cond.fieldLink RX5 19 "KeyedFeelings" "past" "LKeyedFeelings$Past;" ∈ wsX5_count := by decide +kernel
theorem in_X5_count_X1 : ∀ w ∈ wsX10, w ∈ wsX5_count := by decide +kernel
noncomputable def f_X5_count (κ : St5) (nw : St2) (ps : St1) (x1 : Int32) : Option (Int32) := (if x1 = 0 then some (p2_size nw) else (if x1 = 1 then some (p2_hour nw) else (if x1 = 2 then ((f_X2_stopped nw).bind (fun r4 => some r4)) else (if x1 = 3 then ((f_X2_turnsTogether nw).bind (fun r6 => some r6)) else (if x1 = 4 then ((f_X2_ring nw).bind (fun r8 => some r8)) else (if x1 = 5 then ((f_X2_without nw).bind (fun r10 => some r10)) else (if x1 = 6 then ((f_X2_isWindingHour nw).bind (fun r12 => (if r12 = 0 then some 0 else some 1))) else (if x1 = 7 then some (p1_size ps) else some (-1)))))))))
noncomputable def rmX5_count : Room := { frames := 3, cells := 0, slots := 0, locals := 67 }
set_option maxHeartbeats 4000000 in
set_option maxRecDepth 100000 in
theorem c_X5_count (l : Launch) (D : va_G) (cA : Nat → ClassId) (o : Nat → Nat → Nat) (κ : St5) (nw : St2) (ps : St1) (x1 : Int32) (res : Int32) (h : f_X5_count κ nw ps x1 = some res) : CT l D cA yX5_count wsX5_count rmX5_count [.ref (o 0 0), .int x1] [w5 cA o κ, w2 cA (o 1) nw, w1 cA (fun i => o (20 + i)) ps] [w5 cA o κ, w2 cA (o 1) nw, w1 cA (fun i => o (20 + i)) ps] (some (.int res)) := by
  refine CT.start (cc := cX5_count) (maxL := 2) (ret := (some .int)) (by decide) rfl (Nat.le_of_ble_eq_true rfl) ?_
  intro p e s m below meth c Z hP hD hS ls hl
  have Z : Cx p s m _ meth c cX5_count 2 (some .int) wsX5_count RX5 D cA := Z
  have hl : lv_has ls 2 [(0, .ref (o 0 0)), (1, .int x1)] := hl
  obtain ⟨hx, hb, hml, hown, hts, hr, hlk, hKK⟩ := id Z
  have hK := hKK.1
  rw [f_X5_count] at h
  refine lv_iload_n hx hb dX5_count_0 rfl (lv_at hl 1 rfl) ?_
  by_cases hc1 : x1 = 0
  · rw [if_pos hc1] at h
    refine lv_tableIn (tgt := 48) (off := 47) hx hb dX5_count_1 (by rw [hc1]; decide) (by rw [hc1]; decide) (by rw [hc1]; rfl) (by decide) ?_
    refine lv_aload_n hx hb dX5_count_48 rfl (lv_at hl 0 rfl) ?_
    refine va_get (D := D) (ci := 5) (v := .ref (o 1 0)) (C := RX5) (T := TX5) (N := 9) hx hb hts in_X5_count_X5 hown hK hP 0 rfl rfl 0 (by decide) (hts _ lk_X5_count_10) (fun _ h9 => h9) rfl dX5_count_49 ?_
    refine va_getN (D := D) (ci := 2) (v := .int (p2_size nw)) (C := RX2) (T := TX2) (N := 7) hx hb hts in_X5_count_X2 hown hK hP 1 rfl rfl 0 (by decide) (nest_use rfl (hKK.2 _ nk_X5_57)) (fun _ h9 => h9) rfl dX5_count_52 ?_
    have h := Option.some.inj h
    subst h
    exact CT.iret Z hP hD hS dX5_count_55
  · rw [if_neg hc1] at h
    by_cases hc2 : x1 = 1
    · rw [if_pos hc2] at h
      refine lv_tableIn (tgt := 56) (off := 55) hx hb dX5_count_1 (by rw [hc2]; decide) (by rw [hc2]; decide) (by rw [hc2]; rfl) (by decide) ?_
      refine lv_aload_n hx hb dX5_count_56 rfl (lv_at hl 0 rfl) ?_
      refine va_get (D := D) (ci := 5) (v := .ref (o 1 0)) (C := RX5) (T := TX5) (N := 9) hx hb hts in_X5_count_X5 hown hK hP 0 rfl rfl 0 (by decide) (hts _ lk_X5_count_10) (fun _ h9 => h9) rfl dX5_count_57 ?_
      refine va_getN (D := D) (ci := 2) (v := .int (p2_hour nw)) (C := RX2) (T := TX2) (N := 7) hx hb hts in_X5_count_X2 hown hK hP 1 rfl rfl 5 (by decide) (nest_use rfl (hKK.2 _ nk_X5_119)) (fun _ h9 => h9) rfl dX5_count_60 ?_
      have h := Option.some.inj h
      subst h
      exact CT.iret Z hP hD hS dX5_count_63
    · rw [if_neg hc2] at h
      by_cases hc3 : x1 = 2
      · rw [if_pos hc3] at h
        refine lv_tableIn (tgt := 64) (off := 63) hx hb dX5_count_1 (by rw [hc3]; decide) (by rw [hc3]; decide) (by rw [hc3]; rfl) (by decide) ?_
        refine lv_aload_n hx hb dX5_count_64 rfl (lv_at hl 0 rfl) ?_
        refine va_get (D := D) (ci := 5) (v := .ref (o 1 0)) (C := RX5) (T := TX5) (N := 9) hx hb hts in_X5_count_X5 hown hK hP 0 rfl rfl 0 (by decide) (hts _ lk_X5_count_10) (fun _ h9 => h9) rfl dX5_count_65 ?_
        obtain ⟨r4, hr4, h⟩ := bind_inv h
        refine kVN (rest := []) (st1 := [.int r4]) (cr := [w5 cA o κ, w1 cA (fun i => o (20 + i)) ps]) (cs' := [w5 cA o κ, w2 cA (o 1) nw, w1 cA (fun i => o (20 + i)) ps]) Z (c_X2_stopped l D cA (o 1) nw r4 hr4) 0 gX5_count_X2_stopped_n85 rfl hdX2_stopped nk_X5_85 n1_X5_count_X2 n2_X5_count_X2_stopped n3_X5_count_X2_stopped ⟨rfl, rfl⟩ ⟨Nat.le_of_ble_eq_true rfl, Nat.le_of_ble_eq_true rfl⟩ ⟨Nat.zero_le _, Nat.zero_le _⟩ hP hD hS hl.1 rfl rfl rfl (Nat.le_of_ble_eq_true rfl) 2 rfl rfl rfl [1] [0, 2] [0, 2, 1] rfl rfl rfl rfl rfl dX5_count_68 (fun H locs hP hD hS => ?_)
        have h := Option.some.inj h
        subst h
        exact CT.iret Z hP hD hS dX5_count_71
      · rw [if_neg hc3] at h
        by_cases hc5 : x1 = 3
        · rw [if_pos hc5] at h
          refine lv_tableIn (tgt := 72) (off := 71) hx hb dX5_count_1 (by rw [hc5]; decide) (by rw [hc5]; decide) (by rw [hc5]; rfl) (by decide) ?_
          refine lv_aload_n hx hb dX5_count_72 rfl (lv_at hl 0 rfl) ?_
          refine va_get (D := D) (ci := 5) (v := .ref (o 1 0)) (C := RX5) (T := TX5) (N := 9) hx hb hts in_X5_count_X5 hown hK hP 0 rfl rfl 0 (by decide) (hts _ lk_X5_count_10) (fun _ h9 => h9) rfl dX5_count_73 ?_
          obtain ⟨r6, hr6, h⟩ := bind_inv h
          refine kVN (rest := []) (st1 := [.int r6]) (cr := [w5 cA o κ, w1 cA (fun i => o (20 + i)) ps]) (cs' := [w5 cA o κ, w2 cA (o 1) nw, w1 cA (fun i => o (20 + i)) ps]) Z (c_X2_turnsTogether l D cA (o 1) nw r6 hr6) 0 gX5_count_X2_turnsTogether_n122 rfl hdX2_turnsTogether nk_X5_122 n1_X5_count_X2 n2_X5_count_X2_turnsTogether n3_X5_count_X2_turnsTogether ⟨rfl, rfl⟩ ⟨Nat.le_of_ble_eq_true rfl, Nat.le_of_ble_eq_true rfl⟩ ⟨Nat.zero_le _, Nat.zero_le _⟩ hP hD hS hl.1 rfl rfl rfl (Nat.le_of_ble_eq_true rfl) 2 rfl rfl rfl [1] [0, 2] [0, 2, 1] rfl rfl rfl rfl rfl dX5_count_76 (fun H locs hP hD hS => ?_)
          have h := Option.some.inj h
          subst h
          exact CT.iret Z hP hD hS dX5_count_79
        · rw [if_neg hc5] at h
          by_cases hc7 : x1 = 4
          · rw [if_pos hc7] at h
            refine lv_tableIn (tgt := 80) (off := 79) hx hb dX5_count_1 (by rw [hc7]; decide) (by rw [hc7]; decide) (by rw [hc7]; rfl) (by decide) ?_
            refine lv_aload_n hx hb dX5_count_80 rfl (lv_at hl 0 rfl) ?_
            refine va_get (D := D) (ci := 5) (v := .ref (o 1 0)) (C := RX5) (T := TX5) (N := 9) hx hb hts in_X5_count_X5 hown hK hP 0 rfl rfl 0 (by decide) (hts _ lk_X5_count_10) (fun _ h9 => h9) rfl dX5_count_81 ?_
            obtain ⟨r8, hr8, h⟩ := bind_inv h
            refine kVN (rest := []) (st1 := [.int r8]) (cr := [w5 cA o κ, w1 cA (fun i => o (20 + i)) ps]) (cs' := [w5 cA o κ, w2 cA (o 1) nw, w1 cA (fun i => o (20 + i)) ps]) Z (c_X2_ring l D cA (o 1) nw r8 hr8) 0 gX5_count_X2_ring_n125 rfl hdX2_ring nk_X5_125 n1_X5_count_X2 n2_X5_count_X2_ring n3_X5_count_X2_ring ⟨rfl, rfl⟩ ⟨Nat.le_of_ble_eq_true rfl, Nat.le_of_ble_eq_true rfl⟩ ⟨Nat.zero_le _, Nat.zero_le _⟩ hP hD hS hl.1 rfl rfl rfl (Nat.le_of_ble_eq_true rfl) 2 rfl rfl rfl [1] [0, 2] [0, 2, 1] rfl rfl rfl rfl rfl dX5_count_84 (fun H locs hP hD hS => ?_)
            have h := Option.some.inj h
            subst h
            exact CT.iret Z hP hD hS dX5_count_87
          · rw [if_neg hc7] at h
            by_cases hc9 : x1 = 5
            · rw [if_pos hc9] at h
              refine lv_tableIn (tgt := 88) (off := 87) hx hb dX5_count_1 (by rw [hc9]; decide) (by rw [hc9]; decide) (by rw [hc9]; rfl) (by decide) ?_
              refine lv_aload_n hx hb dX5_count_88 rfl (lv_at hl 0 rfl) ?_
              refine va_get (D := D) (ci := 5) (v := .ref (o 1 0)) (C := RX5) (T := TX5) (N := 9) hx hb hts in_X5_count_X5 hown hK hP 0 rfl rfl 0 (by decide) (hts _ lk_X5_count_10) (fun _ h9 => h9) rfl dX5_count_89 ?_
              obtain ⟨r10, hr10, h⟩ := bind_inv h
              refine kVN (rest := []) (st1 := [.int r10]) (cr := [w5 cA o κ, w1 cA (fun i => o (20 + i)) ps]) (cs' := [w5 cA o κ, w2 cA (o 1) nw, w1 cA (fun i => o (20 + i)) ps]) Z (c_X2_without l D cA (o 1) nw r10 hr10) 0 gX5_count_X2_without_n128 rfl hdX2_without nk_X5_128 n1_X5_count_X2 n2_X5_count_X2_without n3_X5_count_X2_without ⟨rfl, rfl⟩ ⟨Nat.le_of_ble_eq_true rfl, Nat.le_of_ble_eq_true rfl⟩ ⟨Nat.zero_le _, Nat.zero_le _⟩ hP hD hS hl.1 rfl rfl rfl (Nat.le_of_ble_eq_true rfl) 2 rfl rfl rfl [1] [0, 2] [0, 2, 1] rfl rfl rfl rfl rfl dX5_count_92 (fun H locs hP hD hS => ?_)
              have h := Option.some.inj h
              subst h
              exact CT.iret Z hP hD hS dX5_count_95
            · rw [if_neg hc9] at h
              by_cases hc11 : x1 = 6
              · rw [if_pos hc11] at h
                refine lv_tableIn (tgt := 96) (off := 95) hx hb dX5_count_1 (by rw [hc11]; decide) (by rw [hc11]; decide) (by rw [hc11]; rfl) (by decide) ?_
                refine lv_aload_n hx hb dX5_count_96 rfl (lv_at hl 0 rfl) ?_
                refine va_get (D := D) (ci := 5) (v := .ref (o 1 0)) (C := RX5) (T := TX5) (N := 9) hx hb hts in_X5_count_X5 hown hK hP 0 rfl rfl 0 (by decide) (hts _ lk_X5_count_10) (fun _ h9 => h9) rfl dX5_count_97 ?_
                obtain ⟨r12, hr12, h⟩ := bind_inv h
                refine kVN (rest := []) (st1 := [.int r12]) (cr := [w5 cA o κ, w1 cA (fun i => o (20 + i)) ps]) (cs' := [w5 cA o κ, w2 cA (o 1) nw, w1 cA (fun i => o (20 + i)) ps]) Z (c_X2_isWindingHour l D cA (o 1) nw r12 hr12) 0 gX5_count_X2_isWindingHour_n131 rfl hdX2_isWindingHour nk_X5_131 n1_X5_count_X2 n2_X5_count_X2_isWindingHour n3_X5_count_X2_isWindingHour ⟨rfl, rfl⟩ ⟨Nat.le_of_ble_eq_true rfl, Nat.le_of_ble_eq_true rfl⟩ ⟨Nat.zero_le _, Nat.zero_le _⟩ hP hD hS hl.1 rfl rfl rfl (Nat.le_of_ble_eq_true rfl) 2 rfl rfl rfl [1] [0, 2] [0, 2, 1] rfl rfl rfl rfl rfl dX5_count_100 (fun H locs hP hD hS => ?_)
                refine lv_if_eq (tgt := 110) hx hb dX5_count_103 (by decide) (fun hc13 => ?_) (fun hc13 => ?_)
                · rw [if_pos hc13] at h
                  refine lv_iconst (v := 0) hx hb dX5_count_110 (by decide) ?_
                  have h := Option.some.inj h
                  subst h
                  exact CT.iret Z hP hD hS dX5_count_111
                · rw [if_neg hc13] at h
                  refine lv_iconst (v := 1) hx hb dX5_count_106 (by decide) ?_
                  refine lv_goto (tgt := 111) hx hb dX5_count_107 (by decide) ?_
                  have h := Option.some.inj h
                  subst h
                  exact CT.iret Z hP hD hS dX5_count_111
              · rw [if_neg hc11] at h
                by_cases hc14 : x1 = 7
                · rw [if_pos hc14] at h
                  refine lv_tableIn (tgt := 112) (off := 111) hx hb dX5_count_1 (by rw [hc14]; decide) (by rw [hc14]; decide) (by rw [hc14]; rfl) (by decide) ?_
                  refine lv_aload_n hx hb dX5_count_112 rfl (lv_at hl 0 rfl) ?_
                  refine va_get (D := D) (ci := 5) (v := .ref (o 20 0)) (C := RX5) (T := TX5) (N := 9) hx hb hts in_X5_count_X5 hown hK hP 0 rfl rfl 1 (by decide) (hts _ lk_X5_count_19) (fun _ h9 => h9) rfl dX5_count_113 ?_
                  refine va_getN (D := D) (ci := 1) (v := .int (p1_size ps)) (C := RX1) (T := TX1) (N := 3) hx hb hts in_X5_count_X1 hown hK hP 6 rfl rfl 0 (by decide) (nest_use rfl (hKK.2 _ nk_X5_134)) (fun _ h9 => h9) rfl dX5_count_116 ?_
                  have h := Option.some.inj h
                  subst h
                  exact CT.iret Z hP hD hS dX5_count_119
                · rw [if_neg hc14] at h
                  have hc1n := sw_ne (k := 0) 0 (by decide) hc1
                  have hc2n := sw_ne (k := 1) 1 (by decide) hc2
                  have hc3n := sw_ne (k := 2) 2 (by decide) hc3
                  have hc5n := sw_ne (k := 3) 3 (by decide) hc5
                  have hc7n := sw_ne (k := 4) 4 (by decide) hc7
                  have hc9n := sw_ne (k := 5) 5 (by decide) hc9
                  have hc11n := sw_ne (k := 6) 6 (by decide) hc11
                  have hc14n := sw_ne (k := 7) 7 (by decide) hc14
                  refine lv_tableOut (tgt := 120) hx hb dX5_count_1 (by omega) (by decide) ?_
                  refine lv_iconst (v := (-1)) hx hb dX5_count_120 (by decide) ?_
                  have h := Option.some.inj h
                  subst h
                  exact CT.iret Z hP hD hS dX5_count_121

-- X5.spend
theorem lk_X5_spend_10 : Cond.fieldLink RX5 10 "KeyedFeelings" "now" "LKeyedFeelings$People;" ∈ wsX5_spend := by decide +kernel
theorem in_X5_spend_X5 : ∀ w ∈ wsX50, w ∈ wsX5_spend := by decide +kernel
theorem in_X5_spend_X2 : ∀ w ∈ wsX20, w ∈ wsX5_spend := by decide +kernel
theorem lk_X5_spend_19 : Cond.fieldLink RX5 19 "KeyedFeelings" "past" "LKeyedFeelings$Past;" ∈ wsX5_spend := by decide +kernel
theorem n1_X5_spend_X1 : Cond.initialized RX1 ∈ wsX5_spend := by decide +kernel
theorem n2_X5_spend_X1_keep : Cond.instanceMethod yX1_keep ∈ wsX5_spend := by decide +kernel
theorem n3_X5_spend_X1_keep : Cond.selects RX1 yX1_keep yX1_keep ∈ wsX5_spend := by decide +kernel
theorem n1_X5_spend_X2 : Cond.initialized RX2 ∈ wsX5_spend := by decide +kernel
theorem n2_X5_spend_X2_passHour : Cond.instanceMethod yX2_passHour ∈ wsX5_spend := by decide +kernel
theorem n3_X5_spend_X2_passHour : Cond.selects RX2 yX2_passHour yX2_passHour ∈ wsX5_spend := by decide +kernel
theorem n2_X5_spend_X2_lendByDraw : Cond.instanceMethod yX2_lendByDraw ∈ wsX5_spend := by decide +kernel
theorem n3_X5_spend_X2_lendByDraw : Cond.selects RX2 yX2_lendByDraw yX2_lendByDraw ∈ wsX5_spend := by decide +kernel
theorem n2_X5_spend_X2_stopped : Cond.instanceMethod yX2_stopped ∈ wsX5_spend := by decide +kernel
theorem n3_X5_spend_X2_stopped : Cond.selects RX2 yX2_stopped yX2_stopped ∈ wsX5_spend := by decide +kernel
noncomputable def lp_X5_spend_33 (κ : St5) (x1 : Int32) (x2 : Int32) : Nat → Int32 → St2 → St1 → Option (Int32 × St2 × St1)
  | 0, _, _, _ => none
  | n + 1, x3, nw, ps => (if x1 ≤ x3 then some (x3, nw, ps) else ((f_X1_keep ps nw).bind (fun r5 => (if x2 = 0 then ((f_X2_passHour nw).bind (fun r7 => lp_X5_spend_33 κ x1 x2 n (x3 + 1) r7 r5)) else ((f_X2_lendByDraw nw).bind (fun r8 => ((f_X2_passHour r8).bind (fun r9 => lp_X5_spend_33 κ x1 x2 n (x3 + 1) r9 r5))))))))
noncomputable def f_X5_spend (κ : St5) (nw : St2) (ps : St1) (x1 : Int32) (x2 : Int32) : Option (Int32 × St2 × St1) := (if x1 < 1 then some ((-1), nw, ps) else (if x1 ≤ 48 then (if ((p2_hour nw) + x1) ≤ 9999 then ((lp_X5_spend_33 κ x1 x2 FU 0 nw ps).bind (fun q10 => ((f_X2_stopped q10.2.1).bind (fun r11 => some (r11, q10.2.1, q10.2.2))))) else some ((-3), nw, ps)) else some ((-1), nw, ps)))
noncomputable def rmX5_spend : Room := { frames := 4, cells := 0, slots := 0, locals := 87 }
set_option maxHeartbeats 4000000 in
set_option maxRecDepth 100000 in
theorem t_X5_spend_33 {p : Program} {l : Launch} {e : Env} {s : State} {m : MethodId} {args : Array Value} {below : List Frame} {meth : Method} {c : Code} {D : va_G} {cA : Nat → ClassId} {A0 : Nat → Prop} {H0 : Heap} {o : Nat → Nat → Nat} (Z : Cx p s m args meth c cX5_spend 4 (some .int) wsX5_spend RX5 D cA) (κ : St5) (x1 : Int32) (x2 : Int32) {Q : State → Prop} : ∀ (n : Nat) (x3 : Int32) (nw : St2) (ps : St1) (q : Int32 × St2 × St1), lp_X5_spend_33 κ x1 x2 n x3 nw ps = some q → ∀ (H : Heap) (locs : List Loc) (ls : Array Slot), va_P D vwCl ([w5 cA o κ, w2 cA (o 1) nw, w1 cA (fun i => o (20 + i)) ps] : List va_W).flatten H → va_D A0 ([w5 cA o κ, w2 cA (o 1) nw, w1 cA (fun i => o (20 + i)) ps] : List va_W).flatten → va_S A0 H0 H locs → lv_has ls 4 [(0, .ref (o 0 0)), (1, .int x1), (2, .int x2), (3, .int x3)] → (∀ (H : Heap) (locs : List Loc) (ls : Array Slot), va_P D vwCl ([w5 cA o κ, w2 cA (o 1) q.2.1, w1 cA (fun i => o (20 + i)) q.2.2] : List va_W).flatten H → va_D A0 ([w5 cA o κ, w2 cA (o 1) q.2.1, w1 cA (fun i => o (20 + i)) q.2.2] : List va_W).flatten → va_S A0 H0 H locs → lv_has ls 4 [(0, .ref (o 0 0)), (1, .int x1), (2, .int x2), (3, .int q.1)] → W p l e rmX5_spend s m args below meth c H locs 0 0 Q (F0 m 73 ls [])) → W p l e rmX5_spend s m args below meth c H locs 0 0 Q (F0 m 33 ls []) := by
  obtain ⟨hx, hb, hml, hown, hts, hr, hlk, hKK⟩ := id Z
  have hK := hKK.1
  intro n
  induction n with
  | zero =>
    intro x3 nw ps q h
    rw [lp_X5_spend_33] at h
    cases h
  | succ n ih =>
    intro x3 nw ps q h H locs ls hP hD hS hl kk
    rw [lp_X5_spend_33] at h
    refine lv_iload_n hx hb dX5_spend_33 rfl (lv_at hl 3 rfl) ?_
    refine lv_iload_n hx hb dX5_spend_34 rfl (lv_at hl 1 rfl) ?_
    refine lv_icmp_ge (tgt := 73) hx hb dX5_spend_35 (by decide) (fun hc4 => ?_) (fun hc4 => ?_)
    · rw [if_pos hc4] at h
      have h := Option.some.inj h
      subst h
      exact kk _ _ _ hP hD hS (lv_sub hl [0, 1, 2, 3] rfl)
    · rw [if_neg hc4] at h
      refine lv_aload_n hx hb dX5_spend_38 rfl (lv_at hl 0 rfl) ?_
      refine va_get (D := D) (ci := 5) (v := .ref (o 20 0)) (C := RX5) (T := TX5) (N := 9) hx hb hts in_X5_spend_X5 hown hK hP 0 rfl rfl 1 (by decide) (hts _ lk_X5_spend_19) (fun _ h9 => h9) rfl dX5_spend_39 ?_
      refine lv_aload_n hx hb dX5_spend_42 rfl (lv_at hl 0 rfl) ?_
      refine va_get (D := D) (ci := 5) (v := .ref (o 1 0)) (C := RX5) (T := TX5) (N := 9) hx hb hts in_X5_spend_X5 hown hK hP 0 rfl rfl 0 (by decide) (hts _ lk_X5_spend_10) (fun _ h9 => h9) rfl dX5_spend_43 ?_
      obtain ⟨r5, hr5, h⟩ := bind_inv h
      refine kVN (rest := []) (st1 := []) (cr := [w5 cA o κ]) (cs' := [w5 cA o κ, w2 cA (o 1) nw, w1 cA (fun i => o (20 + i)) r5]) Z (c_X1_keep l D cA (fun i => o (20 + i)) (o 1) ps nw r5 hr5) 1 gX5_spend_X1_keep_n139 rfl hdX1_keep nk_X5_139 n1_X5_spend_X1 n2_X5_spend_X1_keep n3_X5_spend_X1_keep ⟨rfl, rfl⟩ ⟨Nat.le_of_ble_eq_true rfl, Nat.le_of_ble_eq_true rfl⟩ ⟨Nat.zero_le _, Nat.zero_le _⟩ hP hD hS hl.1 rfl rfl rfl (Nat.le_of_ble_eq_true rfl) 1 rfl rfl rfl [2, 1] [0] [0, 2, 1] rfl rfl rfl rfl rfl dX5_spend_46 (fun H locs hP hD hS => ?_)
      refine lv_iload_n hx hb dX5_spend_49 rfl (lv_at hl 2 rfl) ?_
      refine lv_if_eq (tgt := 60) hx hb dX5_spend_50 (by decide) (fun hc6 => ?_) (fun hc6 => ?_)
      · rw [if_pos hc6] at h
        refine lv_aload_n hx hb dX5_spend_60 rfl (lv_at hl 0 rfl) ?_
        refine va_get (D := D) (ci := 5) (v := .ref (o 1 0)) (C := RX5) (T := TX5) (N := 9) hx hb hts in_X5_spend_X5 hown hK hP 0 rfl rfl 0 (by decide) (hts _ lk_X5_spend_10) (fun _ h9 => h9) rfl dX5_spend_61 ?_
        obtain ⟨r7, hr7, h⟩ := bind_inv h
        refine kVN (rest := []) (st1 := []) (cr := [w5 cA o κ, w1 cA (fun i => o (20 + i)) r5]) (cs' := [w5 cA o κ, w2 cA (o 1) r7, w1 cA (fun i => o (20 + i)) r5]) Z (c_X2_passHour l D cA (o 1) nw r7 hr7) 0 gX5_spend_X2_passHour_n152 rfl hdX2_passHour nk_X5_152 n1_X5_spend_X2 n2_X5_spend_X2_passHour n3_X5_spend_X2_passHour ⟨rfl, rfl⟩ ⟨Nat.le_of_ble_eq_true rfl, Nat.le_of_ble_eq_true rfl⟩ ⟨Nat.zero_le _, Nat.zero_le _⟩ hP hD hS hl.1 rfl rfl rfl (Nat.le_of_ble_eq_true rfl) 2 rfl rfl rfl [1] [0, 2] [0, 2, 1] rfl rfl rfl rfl rfl dX5_spend_64 (fun H locs hP hD hS => ?_)
        refine lv_iinc (v := x3 + 1) (lv' := [(3, .int (x3 + 1)), (0, .ref (o 0 0)), (1, .int x1), (2, .int x2)]) hx hb dX5_spend_67 hl (k := 3) rfl rfl (by decide) rfl (fun ls hl => ?_)
        refine lv_goto (tgt := 33) hx hb dX5_spend_70 (by decide) ?_
        exact ih _ _ _ _ h _ _ _ hP hD hS (lv_sub hl [1, 2, 3, 0] rfl) kk
      · rw [if_neg hc6] at h
        refine lv_aload_n hx hb dX5_spend_53 rfl (lv_at hl 0 rfl) ?_
        refine va_get (D := D) (ci := 5) (v := .ref (o 1 0)) (C := RX5) (T := TX5) (N := 9) hx hb hts in_X5_spend_X5 hown hK hP 0 rfl rfl 0 (by decide) (hts _ lk_X5_spend_10) (fun _ h9 => h9) rfl dX5_spend_54 ?_
        obtain ⟨r8, hr8, h⟩ := bind_inv h
        refine kVN (rest := []) (st1 := []) (cr := [w5 cA o κ, w1 cA (fun i => o (20 + i)) r5]) (cs' := [w5 cA o κ, w2 cA (o 1) r8, w1 cA (fun i => o (20 + i)) r5]) Z (c_X2_lendByDraw l D cA (o 1) nw r8 hr8) 0 gX5_spend_X2_lendByDraw_n149 rfl hdX2_lendByDraw nk_X5_149 n1_X5_spend_X2 n2_X5_spend_X2_lendByDraw n3_X5_spend_X2_lendByDraw ⟨rfl, rfl⟩ ⟨Nat.le_of_ble_eq_true rfl, Nat.le_of_ble_eq_true rfl⟩ ⟨Nat.zero_le _, Nat.zero_le _⟩ hP hD hS hl.1 rfl rfl rfl (Nat.le_of_ble_eq_true rfl) 2 rfl rfl rfl [1] [0, 2] [0, 2, 1] rfl rfl rfl rfl rfl dX5_spend_57 (fun H locs hP hD hS => ?_)
        refine lv_aload_n hx hb dX5_spend_60 rfl (lv_at hl 0 rfl) ?_
        refine va_get (D := D) (ci := 5) (v := .ref (o 1 0)) (C := RX5) (T := TX5) (N := 9) hx hb hts in_X5_spend_X5 hown hK hP 0 rfl rfl 0 (by decide) (hts _ lk_X5_spend_10) (fun _ h9 => h9) rfl dX5_spend_61 ?_
        obtain ⟨r9, hr9, h⟩ := bind_inv h
        refine kVN (rest := []) (st1 := []) (cr := [w5 cA o κ, w1 cA (fun i => o (20 + i)) r5]) (cs' := [w5 cA o κ, w2 cA (o 1) r9, w1 cA (fun i => o (20 + i)) r5]) Z (c_X2_passHour l D cA (o 1) r8 r9 hr9) 0 gX5_spend_X2_passHour_n152 rfl hdX2_passHour nk_X5_152 n1_X5_spend_X2 n2_X5_spend_X2_passHour n3_X5_spend_X2_passHour ⟨rfl, rfl⟩ ⟨Nat.le_of_ble_eq_true rfl, Nat.le_of_ble_eq_true rfl⟩ ⟨Nat.zero_le _, Nat.zero_le _⟩ hP hD hS hl.1 rfl rfl rfl (Nat.le_of_ble_eq_true rfl) 2 rfl rfl rfl [1] [0, 2] [0, 2, 1] rfl rfl rfl rfl rfl dX5_spend_64 (fun H locs hP hD hS => ?_)
        refine lv_iinc (v := x3 + 1) (lv' := [(3, .int (x3 + 1)), (0, .ref (o 0 0)), (1, .int x1), (2, .int x2)]) hx hb dX5_spend_67 hl (k := 3) rfl rfl (by decide) rfl (fun ls hl => ?_)
        refine lv_goto (tgt := 33) hx hb dX5_spend_70 (by decide) ?_
        exact ih _ _ _ _ h _ _ _ hP hD hS (lv_sub hl [1, 2, 3, 0] rfl) kk
set_option maxHeartbeats 4000000 in
set_option maxRecDepth 100000 in
theorem c_X5_spend (l : Launch) (D : va_G) (cA : Nat → ClassId) (o : Nat → Nat → Nat) (κ : St5) (nw : St2) (ps : St1) (x1 : Int32) (x2 : Int32) (res : Int32 × St2 × St1) (h : f_X5_spend κ nw ps x1 x2 = some res) : CT l D cA yX5_spend wsX5_spend rmX5_spend [.ref (o 0 0), .int x1, .int x2] [w5 cA o κ, w2 cA (o 1) nw, w1 cA (fun i => o (20 + i)) ps] [w5 cA o κ, w2 cA (o 1) res.2.1, w1 cA (fun i => o (20 + i)) res.2.2] (some (.int res.1)) := by
  refine CT.start (cc := cX5_spend) (maxL := 4) (ret := (some .int)) (by decide) rfl (Nat.le_of_ble_eq_true rfl) ?_
  intro p e s m below meth c Z hP hD hS ls hl
  have Z : Cx p s m _ meth c cX5_spend 4 (some .int) wsX5_spend RX5 D cA := Z
  have hl : lv_has ls 4 [(0, .ref (o 0 0)), (1, .int x1), (2, .int x2)] := hl
  obtain ⟨hx, hb, hml, hown, hts, hr, hlk, hKK⟩ := id Z
  have hK := hKK.1
  rw [f_X5_spend] at h
  refine lv_iload_n hx hb dX5_spend_0 rfl (lv_at hl 1 rfl) ?_
  refine lv_iconst (v := 1) hx hb dX5_spend_1 (by decide) ?_
  refine lv_icmp_lt (tgt := 11) hx hb dX5_spend_2 (by decide) (fun hc1 => ?_) (fun hc1 => ?_)
  · rw [if_pos hc1] at h
    refine lv_iconst (v := (-1)) hx hb dX5_spend_11 (by decide) ?_
    have h := Option.some.inj h
    subst h
    exact CT.iret Z hP hD hS dX5_spend_12
  · rw [if_neg hc1] at h
    refine lv_iload_n hx hb dX5_spend_5 rfl (lv_at hl 1 rfl) ?_
    refine lv_bipush (v := 48) hx hb dX5_spend_6 (by decide) ?_
    refine lv_icmp_le (tgt := 13) hx hb dX5_spend_8 (by decide) (fun hc2 => ?_) (fun hc2 => ?_)
    · rw [if_pos hc2] at h
      refine lv_aload_n hx hb dX5_spend_13 rfl (lv_at hl 0 rfl) ?_
      refine va_get (D := D) (ci := 5) (v := .ref (o 1 0)) (C := RX5) (T := TX5) (N := 9) hx hb hts in_X5_spend_X5 hown hK hP 0 rfl rfl 0 (by decide) (hts _ lk_X5_spend_10) (fun _ h9 => h9) rfl dX5_spend_14 ?_
      refine va_getN (D := D) (ci := 2) (v := .int (p2_hour nw)) (C := RX2) (T := TX2) (N := 7) hx hb hts in_X5_spend_X2 hown hK hP 1 rfl rfl 5 (by decide) (nest_use rfl (hKK.2 _ nk_X5_119)) (fun _ h9 => h9) rfl dX5_spend_17 ?_
      refine lv_iload_n hx hb dX5_spend_20 rfl (lv_at hl 1 rfl) ?_
      refine lv_iadd hx hb dX5_spend_21 ?_
      refine lv_sipush (v := 9999) hx hb dX5_spend_22 (by decide) ?_
      refine lv_icmp_le (tgt := 31) hx hb dX5_spend_25 (by decide) (fun hc3 => ?_) (fun hc3 => ?_)
      · rw [if_pos hc3] at h
        refine lv_iconst (v := 0) hx hb dX5_spend_31 (by decide) ?_
        refine lv_istore_n (lv' := [(3, .int 0), (0, .ref (o 0 0)), (1, .int x1), (2, .int x2)]) hx hb dX5_spend_32 rfl hl (by decide) rfl (fun ls hl => ?_)
        obtain ⟨q10, hq10, h⟩ := bind_inv h
        refine t_X5_spend_33 Z κ x1 x2 FU _ _ _ _ hq10 _ _ _ hP hD hS (lv_sub hl [1, 2, 3, 0] rfl) (fun H locs ls hP hD hS hl => ?_)
        refine lv_aload_n hx hb dX5_spend_73 rfl (lv_at hl 0 rfl) ?_
        refine va_get (D := D) (ci := 5) (v := .ref (o 1 0)) (C := RX5) (T := TX5) (N := 9) hx hb hts in_X5_spend_X5 hown hK hP 0 rfl rfl 0 (by decide) (hts _ lk_X5_spend_10) (fun _ h9 => h9) rfl dX5_spend_74 ?_
        obtain ⟨r11, hr11, h⟩ := bind_inv h
        refine kVN (rest := []) (st1 := [.int r11]) (cr := [w5 cA o κ, w1 cA (fun i => o (20 + i)) q10.2.2]) (cs' := [w5 cA o κ, w2 cA (o 1) q10.2.1, w1 cA (fun i => o (20 + i)) q10.2.2]) Z (c_X2_stopped l D cA (o 1) q10.2.1 r11 hr11) 0 gX5_spend_X2_stopped_n85 rfl hdX2_stopped nk_X5_85 n1_X5_spend_X2 n2_X5_spend_X2_stopped n3_X5_spend_X2_stopped ⟨rfl, rfl⟩ ⟨Nat.le_of_ble_eq_true rfl, Nat.le_of_ble_eq_true rfl⟩ ⟨Nat.zero_le _, Nat.zero_le _⟩ hP hD hS hl.1 rfl rfl rfl (Nat.le_of_ble_eq_true rfl) 2 rfl rfl rfl [1] [0, 2] [0, 2, 1] rfl rfl rfl rfl rfl dX5_spend_77 (fun H locs hP hD hS => ?_)
        have h := Option.some.inj h
        subst h
        exact CT.iret Z hP hD hS dX5_spend_80
      · rw [if_neg hc3] at h
        refine lv_bipush (v := (-3)) hx hb dX5_spend_28 (by decide) ?_
        have h := Option.some.inj h
        subst h
        exact CT.iret Z hP hD hS dX5_spend_30
    · rw [if_neg hc2] at h
      refine lv_iconst (v := (-1)) hx hb dX5_spend_11 (by decide) ?_
      have h := Option.some.inj h
      subst h
      exact CT.iret Z hP hD hS dX5_spend_12

-- X5.hours
noncomputable def f_X5_hours (κ : St5) (nw : St2) (ps : St1) (x1 : Int32) : Option (Int32 × St2 × St1) := ((f_X5_spend κ nw ps x1 0).bind (fun r1 => some (r1.1, r1.2.1, r1.2.2)))
noncomputable def rmX5_hours : Room := { frames := 5, cells := 0, slots := 0, locals := 110 }
set_option maxHeartbeats 4000000 in
set_option maxRecDepth 100000 in
theorem c_X5_hours (l : Launch) (D : va_G) (cA : Nat → ClassId) (o : Nat → Nat → Nat) (κ : St5) (nw : St2) (ps : St1) (x1 : Int32) (res : Int32 × St2 × St1) (h : f_X5_hours κ nw ps x1 = some res) : CT l D cA yX5_hours wsX5_hours rmX5_hours [.ref (o 0 0), .int x1] [w5 cA o κ, w2 cA (o 1) nw, w1 cA (fun i => o (20 + i)) ps] [w5 cA o κ, w2 cA (o 1) res.2.1, w1 cA (fun i => o (20 + i)) res.2.2] (some (.int res.1)) := by
  refine CT.start (cc := cX5_hours) (maxL := 2) (ret := (some .int)) (by decide) rfl (Nat.le_of_ble_eq_true rfl) ?_
  intro p e s m below meth c Z hP hD hS ls hl
  have Z : Cx p s m _ meth c cX5_hours 2 (some .int) wsX5_hours RX5 D cA := Z
  have hl : lv_has ls 2 [(0, .ref (o 0 0)), (1, .int x1)] := hl
  obtain ⟨hx, hb, hml, hown, hts, hr, hlk, hKK⟩ := id Z
  have hK := hKK.1
  rw [f_X5_hours] at h
  refine lv_aload_n hx hb dX5_hours_0 rfl (lv_at hl 0 rfl) ?_
  refine lv_iload_n hx hb dX5_hours_1 rfl (lv_at hl 1 rfl) ?_
  refine lv_iconst (v := 0) hx hb dX5_hours_2 (by decide) ?_
  obtain ⟨r1, hr1, h⟩ := bind_inv h
  refine kV (rest := []) (st1 := [.int r1.1]) (cr := []) (cs' := [w5 cA o κ, w2 cA (o 1) r1.2.1, w1 cA (fun i => o (20 + i)) r1.2.2]) Z (c_X5_spend l D cA o κ nw ps x1 0 r1 hr1) 2 gX5_hours_X5_spend rfl hdX5_spend ⟨rfl, rfl⟩ ⟨Nat.le_of_ble_eq_true rfl, Nat.le_of_ble_eq_true rfl⟩ ⟨Nat.zero_le _, Nat.zero_le _⟩ hP hD hS hl.1 rfl rfl rfl (Nat.le_of_ble_eq_true rfl) 5 rfl rfl rfl [0, 1, 2] [] [0, 1, 2] rfl rfl rfl rfl rfl dX5_hours_3 (fun H locs hP hD hS => ?_)
  have h := Option.some.inj h
  subst h
  exact CT.iret Z hP hD hS dX5_hours_6

-- X5.lend
theorem lk_X5_lend_10 : Cond.fieldLink RX5 10 "KeyedFeelings" "now" "LKeyedFeelings$People;" ∈ wsX5_lend := by decide +kernel
theorem in_X5_lend_X5 : ∀ w ∈ wsX50, w ∈ wsX5_lend := by decide +kernel
theorem n1_X5_lend_X2 : Cond.initialized RX2 ∈ wsX5_lend := by decide +kernel
theorem n2_X5_lend_X2_has : Cond.instanceMethod yX2_has ∈ wsX5_lend := by decide +kernel
theorem n3_X5_lend_X2_has : Cond.selects RX2 yX2_has yX2_has ∈ wsX5_lend := by decide +kernel
theorem in_X5_lend_X2 : ∀ w ∈ wsX20, w ∈ wsX5_lend := by decide +kernel
theorem lk_X5_lend_19 : Cond.fieldLink RX5 19 "KeyedFeelings" "past" "LKeyedFeelings$Past;" ∈ wsX5_lend := by decide +kernel
theorem n1_X5_lend_X1 : Cond.initialized RX1 ∈ wsX5_lend := by decide +kernel
theorem n2_X5_lend_X1_keep : Cond.instanceMethod yX1_keep ∈ wsX5_lend := by decide +kernel
theorem n3_X5_lend_X1_keep : Cond.selects RX1 yX1_keep yX1_keep ∈ wsX5_lend := by decide +kernel
theorem n2_X5_lend_X2_addTurns : Cond.instanceMethod yX2_addTurns ∈ wsX5_lend := by decide +kernel
theorem n3_X5_lend_X2_addTurns : Cond.selects RX2 yX2_addTurns yX2_addTurns ∈ wsX5_lend := by decide +kernel
noncomputable def f_X5_lend (κ : St5) (nw : St2) (ps : St1) (x1 : Int32) (x2 : Int32) : Option (Int32 × St2 × St1) := ((f_X2_has nw x1).bind (fun r1 => (if r1 = 0 then some ((-1), nw, ps) else (if x2 < 1 then some ((-1), nw, ps) else (if x2 ≤ 30 then (if inB x1 6 = true then (if ((p2_turns nw) x1.toNatClampNeg) < 30 then ((f_X1_keep ps nw).bind (fun r7 => ((f_X2_addTurns nw x1 x2).bind (fun r8 => (if inB x1 6 = true then some ((p2_turns r8) x1.toNatClampNeg, r8, r7) else none))))) else some ((-2), nw, ps)) else none) else some ((-1), nw, ps))))))
noncomputable def rmX5_lend : Room := { frames := 2, cells := 0, slots := 0, locals := 43 }
set_option maxHeartbeats 4000000 in
set_option maxRecDepth 100000 in
theorem c_X5_lend (l : Launch) (D : va_G) (cA : Nat → ClassId) (o : Nat → Nat → Nat) (κ : St5) (nw : St2) (ps : St1) (x1 : Int32) (x2 : Int32) (res : Int32 × St2 × St1) (h : f_X5_lend κ nw ps x1 x2 = some res) : CT l D cA yX5_lend wsX5_lend rmX5_lend [.ref (o 0 0), .int x1, .int x2] [w5 cA o κ, w2 cA (o 1) nw, w1 cA (fun i => o (20 + i)) ps] [w5 cA o κ, w2 cA (o 1) res.2.1, w1 cA (fun i => o (20 + i)) res.2.2] (some (.int res.1)) := by
  refine CT.start (cc := cX5_lend) (maxL := 3) (ret := (some .int)) (by decide) rfl (Nat.le_of_ble_eq_true rfl) ?_
  intro p e s m below meth c Z hP hD hS ls hl
  have Z : Cx p s m _ meth c cX5_lend 3 (some .int) wsX5_lend RX5 D cA := Z
  have hl : lv_has ls 3 [(0, .ref (o 0 0)), (1, .int x1), (2, .int x2)] := hl
  obtain ⟨hx, hb, hml, hown, hts, hr, hlk, hKK⟩ := id Z
  have hK := hKK.1
  rw [f_X5_lend] at h
  refine lv_aload_n hx hb dX5_lend_0 rfl (lv_at hl 0 rfl) ?_
  refine va_get (D := D) (ci := 5) (v := .ref (o 1 0)) (C := RX5) (T := TX5) (N := 9) hx hb hts in_X5_lend_X5 hown hK hP 0 rfl rfl 0 (by decide) (hts _ lk_X5_lend_10) (fun _ h9 => h9) rfl dX5_lend_1 ?_
  refine lv_iload_n hx hb dX5_lend_4 rfl (lv_at hl 1 rfl) ?_
  obtain ⟨r1, hr1, h⟩ := bind_inv h
  refine kVN (rest := []) (st1 := [.int r1]) (cr := [w5 cA o κ, w1 cA (fun i => o (20 + i)) ps]) (cs' := [w5 cA o κ, w2 cA (o 1) nw, w1 cA (fun i => o (20 + i)) ps]) Z (c_X2_has l D cA (o 1) nw x1 r1 hr1) 1 gX5_lend_X2_has_n68 rfl hdX2_has nk_X5_68 n1_X5_lend_X2 n2_X5_lend_X2_has n3_X5_lend_X2_has ⟨rfl, rfl⟩ ⟨Nat.le_of_ble_eq_true rfl, Nat.le_of_ble_eq_true rfl⟩ ⟨Nat.zero_le _, Nat.zero_le _⟩ hP hD hS hl.1 rfl rfl rfl (Nat.le_of_ble_eq_true rfl) 2 rfl rfl rfl [1] [0, 2] [0, 2, 1] rfl rfl rfl rfl rfl dX5_lend_5 (fun H locs hP hD hS => ?_)
  refine lv_if_eq (tgt := 22) hx hb dX5_lend_8 (by decide) (fun hc2 => ?_) (fun hc2 => ?_)
  · rw [if_pos hc2] at h
    refine lv_iconst (v := (-1)) hx hb dX5_lend_22 (by decide) ?_
    have h := Option.some.inj h
    subst h
    exact CT.iret Z hP hD hS dX5_lend_23
  · rw [if_neg hc2] at h
    refine lv_iload_n hx hb dX5_lend_11 rfl (lv_at hl 2 rfl) ?_
    refine lv_iconst (v := 1) hx hb dX5_lend_12 (by decide) ?_
    refine lv_icmp_lt (tgt := 22) hx hb dX5_lend_13 (by decide) (fun hc3 => ?_) (fun hc3 => ?_)
    · rw [if_pos hc3] at h
      refine lv_iconst (v := (-1)) hx hb dX5_lend_22 (by decide) ?_
      have h := Option.some.inj h
      subst h
      exact CT.iret Z hP hD hS dX5_lend_23
    · rw [if_neg hc3] at h
      refine lv_iload_n hx hb dX5_lend_16 rfl (lv_at hl 2 rfl) ?_
      refine lv_bipush (v := 30) hx hb dX5_lend_17 (by decide) ?_
      refine lv_icmp_le (tgt := 24) hx hb dX5_lend_19 (by decide) (fun hc4 => ?_) (fun hc4 => ?_)
      · rw [if_pos hc4] at h
        refine lv_aload_n hx hb dX5_lend_24 rfl (lv_at hl 0 rfl) ?_
        refine va_get (D := D) (ci := 5) (v := .ref (o 1 0)) (C := RX5) (T := TX5) (N := 9) hx hb hts in_X5_lend_X5 hown hK hP 0 rfl rfl 0 (by decide) (hts _ lk_X5_lend_10) (fun _ h9 => h9) rfl dX5_lend_25 ?_
        refine va_getN (D := D) (ci := 2) (v := .ref (o 1 2)) (C := RX2) (T := TX2) (N := 7) hx hb hts in_X5_lend_X2 hown hK hP 1 rfl rfl 2 (by decide) (nest_use rfl (hKK.2 _ nk_X5_76)) (fun _ h9 => h9) rfl dX5_lend_28 ?_
        refine lv_iload_n hx hb dX5_lend_31 rfl (lv_at hl 1 rfl) ?_
        obtain ⟨hg5, h⟩ := if_inv h
        refine va_iald hx hb hK hP 3 0 rfl rfl (inB_in hg5) dX5_lend_32 ?_
        refine lv_bipush (v := 30) hx hb dX5_lend_33 (by decide) ?_
        refine lv_icmp_lt (tgt := 41) hx hb dX5_lend_35 (by decide) (fun hc6 => ?_) (fun hc6 => ?_)
        · rw [if_pos hc6] at h
          refine lv_aload_n hx hb dX5_lend_41 rfl (lv_at hl 0 rfl) ?_
          refine va_get (D := D) (ci := 5) (v := .ref (o 20 0)) (C := RX5) (T := TX5) (N := 9) hx hb hts in_X5_lend_X5 hown hK hP 0 rfl rfl 1 (by decide) (hts _ lk_X5_lend_19) (fun _ h9 => h9) rfl dX5_lend_42 ?_
          refine lv_aload_n hx hb dX5_lend_45 rfl (lv_at hl 0 rfl) ?_
          refine va_get (D := D) (ci := 5) (v := .ref (o 1 0)) (C := RX5) (T := TX5) (N := 9) hx hb hts in_X5_lend_X5 hown hK hP 0 rfl rfl 0 (by decide) (hts _ lk_X5_lend_10) (fun _ h9 => h9) rfl dX5_lend_46 ?_
          obtain ⟨r7, hr7, h⟩ := bind_inv h
          refine kVN (rest := []) (st1 := []) (cr := [w5 cA o κ]) (cs' := [w5 cA o κ, w2 cA (o 1) nw, w1 cA (fun i => o (20 + i)) r7]) Z (c_X1_keep l D cA (fun i => o (20 + i)) (o 1) ps nw r7 hr7) 1 gX5_lend_X1_keep_n139 rfl hdX1_keep nk_X5_139 n1_X5_lend_X1 n2_X5_lend_X1_keep n3_X5_lend_X1_keep ⟨rfl, rfl⟩ ⟨Nat.le_of_ble_eq_true rfl, Nat.le_of_ble_eq_true rfl⟩ ⟨Nat.zero_le _, Nat.zero_le _⟩ hP hD hS hl.1 rfl rfl rfl (Nat.le_of_ble_eq_true rfl) 1 rfl rfl rfl [2, 1] [0] [0, 2, 1] rfl rfl rfl rfl rfl dX5_lend_49 (fun H locs hP hD hS => ?_)
          refine lv_aload_n hx hb dX5_lend_52 rfl (lv_at hl 0 rfl) ?_
          refine va_get (D := D) (ci := 5) (v := .ref (o 1 0)) (C := RX5) (T := TX5) (N := 9) hx hb hts in_X5_lend_X5 hown hK hP 0 rfl rfl 0 (by decide) (hts _ lk_X5_lend_10) (fun _ h9 => h9) rfl dX5_lend_53 ?_
          refine lv_iload_n hx hb dX5_lend_56 rfl (lv_at hl 1 rfl) ?_
          refine lv_iload_n hx hb dX5_lend_57 rfl (lv_at hl 2 rfl) ?_
          obtain ⟨r8, hr8, h⟩ := bind_inv h
          refine kVN (rest := []) (st1 := []) (cr := [w5 cA o κ, w1 cA (fun i => o (20 + i)) r7]) (cs' := [w5 cA o κ, w2 cA (o 1) r8, w1 cA (fun i => o (20 + i)) r7]) Z (c_X2_addTurns l D cA (o 1) nw x1 x2 r8 hr8) 2 gX5_lend_X2_addTurns_n142 rfl hdX2_addTurns nk_X5_142 n1_X5_lend_X2 n2_X5_lend_X2_addTurns n3_X5_lend_X2_addTurns ⟨rfl, rfl⟩ ⟨Nat.le_of_ble_eq_true rfl, Nat.le_of_ble_eq_true rfl⟩ ⟨Nat.zero_le _, Nat.zero_le _⟩ hP hD hS hl.1 rfl rfl rfl (Nat.le_of_ble_eq_true rfl) 2 rfl rfl rfl [1] [0, 2] [0, 2, 1] rfl rfl rfl rfl rfl dX5_lend_58 (fun H locs hP hD hS => ?_)
          refine lv_aload_n hx hb dX5_lend_61 rfl (lv_at hl 0 rfl) ?_
          refine va_get (D := D) (ci := 5) (v := .ref (o 1 0)) (C := RX5) (T := TX5) (N := 9) hx hb hts in_X5_lend_X5 hown hK hP 0 rfl rfl 0 (by decide) (hts _ lk_X5_lend_10) (fun _ h9 => h9) rfl dX5_lend_62 ?_
          refine va_getN (D := D) (ci := 2) (v := .ref (o 1 2)) (C := RX2) (T := TX2) (N := 7) hx hb hts in_X5_lend_X2 hown hK hP 1 rfl rfl 2 (by decide) (nest_use rfl (hKK.2 _ nk_X5_76)) (fun _ h9 => h9) rfl dX5_lend_65 ?_
          refine lv_iload_n hx hb dX5_lend_68 rfl (lv_at hl 1 rfl) ?_
          obtain ⟨hg9, h⟩ := if_inv h
          refine va_iald hx hb hK hP 3 0 rfl rfl (inB_in hg9) dX5_lend_69 ?_
          have h := Option.some.inj h
          subst h
          exact CT.iret Z hP hD hS dX5_lend_70
        · rw [if_neg hc6] at h
          refine lv_bipush (v := (-2)) hx hb dX5_lend_38 (by decide) ?_
          have h := Option.some.inj h
          subst h
          exact CT.iret Z hP hD hS dX5_lend_40
      · rw [if_neg hc4] at h
        refine lv_iconst (v := (-1)) hx hb dX5_lend_22 (by decide) ?_
        have h := Option.some.inj h
        subst h
        exact CT.iret Z hP hD hS dX5_lend_23

-- X5.tell
theorem lk_X5_tell_10 : Cond.fieldLink RX5 10 "KeyedFeelings" "now" "LKeyedFeelings$People;" ∈ wsX5_tell := by decide +kernel
theorem in_X5_tell_X5 : ∀ w ∈ wsX50, w ∈ wsX5_tell := by decide +kernel
theorem n1_X5_tell_X2 : Cond.initialized RX2 ∈ wsX5_tell := by decide +kernel
theorem n2_X5_tell_X2_has : Cond.instanceMethod yX2_has ∈ wsX5_tell := by decide +kernel
theorem n3_X5_tell_X2_has : Cond.selects RX2 yX2_has yX2_has ∈ wsX5_tell := by decide +kernel
theorem in_X5_tell_X2 : ∀ w ∈ wsX20, w ∈ wsX5_tell := by decide +kernel
theorem lk_X5_tell_19 : Cond.fieldLink RX5 19 "KeyedFeelings" "past" "LKeyedFeelings$Past;" ∈ wsX5_tell := by decide +kernel
theorem n1_X5_tell_X1 : Cond.initialized RX1 ∈ wsX5_tell := by decide +kernel
theorem n2_X5_tell_X1_keep : Cond.instanceMethod yX1_keep ∈ wsX5_tell := by decide +kernel
theorem n3_X5_tell_X1_keep : Cond.selects RX1 yX1_keep yX1_keep ∈ wsX5_tell := by decide +kernel
noncomputable def f_X5_tell (κ : St5) (nw : St2) (ps : St1) (x1 : Int32) (x2 : Int32) : Option (Int32 × St2 × St1) := ((f_X2_has nw x1).bind (fun r1 => (if r1 = 0 then some ((-1), nw, ps) else (if x2 = x1 then some ((-1), nw, ps) else (if x2 = (-4) then (if inB x1 6 = true then (if x2 = ((p2_winds nw) x1.toNatClampNeg) then some ((-2), nw, ps) else ((f_X1_keep ps nw).bind (fun r7 => (if inB x1 6 = true then some ((p2_winds nw) x1.toNatClampNeg, (s2_winds nw (upd (p2_winds nw) x1.toNatClampNeg x2)), r7) else none)))) else none) else ((f_X2_has nw x2).bind (fun r9 => (if r9 = 0 then some ((-1), nw, ps) else (if inB x1 6 = true then (if x2 = ((p2_winds nw) x1.toNatClampNeg) then some ((-2), nw, ps) else ((f_X1_keep ps nw).bind (fun r13 => (if inB x1 6 = true then some ((p2_winds nw) x1.toNatClampNeg, (s2_winds nw (upd (p2_winds nw) x1.toNatClampNeg x2)), r13) else none)))) else none)))))))))
noncomputable def rmX5_tell : Room := { frames := 2, cells := 0, slots := 0, locals := 43 }
set_option maxHeartbeats 4000000 in
set_option maxRecDepth 100000 in
theorem c_X5_tell (l : Launch) (D : va_G) (cA : Nat → ClassId) (o : Nat → Nat → Nat) (κ : St5) (nw : St2) (ps : St1) (x1 : Int32) (x2 : Int32) (res : Int32 × St2 × St1) (h : f_X5_tell κ nw ps x1 x2 = some res) : CT l D cA yX5_tell wsX5_tell rmX5_tell [.ref (o 0 0), .int x1, .int x2] [w5 cA o κ, w2 cA (o 1) nw, w1 cA (fun i => o (20 + i)) ps] [w5 cA o κ, w2 cA (o 1) res.2.1, w1 cA (fun i => o (20 + i)) res.2.2] (some (.int res.1)) := by
  refine CT.start (cc := cX5_tell) (maxL := 4) (ret := (some .int)) (by decide) rfl (Nat.le_of_ble_eq_true rfl) ?_
  intro p e s m below meth c Z hP hD hS ls hl
  have Z : Cx p s m _ meth c cX5_tell 4 (some .int) wsX5_tell RX5 D cA := Z
  have hl : lv_has ls 4 [(0, .ref (o 0 0)), (1, .int x1), (2, .int x2)] := hl
  obtain ⟨hx, hb, hml, hown, hts, hr, hlk, hKK⟩ := id Z
  have hK := hKK.1
  rw [f_X5_tell] at h
  refine lv_aload_n hx hb dX5_tell_0 rfl (lv_at hl 0 rfl) ?_
  refine va_get (D := D) (ci := 5) (v := .ref (o 1 0)) (C := RX5) (T := TX5) (N := 9) hx hb hts in_X5_tell_X5 hown hK hP 0 rfl rfl 0 (by decide) (hts _ lk_X5_tell_10) (fun _ h9 => h9) rfl dX5_tell_1 ?_
  refine lv_iload_n hx hb dX5_tell_4 rfl (lv_at hl 1 rfl) ?_
  obtain ⟨r1, hr1, h⟩ := bind_inv h
  refine kVN (rest := []) (st1 := [.int r1]) (cr := [w5 cA o κ, w1 cA (fun i => o (20 + i)) ps]) (cs' := [w5 cA o κ, w2 cA (o 1) nw, w1 cA (fun i => o (20 + i)) ps]) Z (c_X2_has l D cA (o 1) nw x1 r1 hr1) 1 gX5_tell_X2_has_n68 rfl hdX2_has nk_X5_68 n1_X5_tell_X2 n2_X5_tell_X2_has n3_X5_tell_X2_has ⟨rfl, rfl⟩ ⟨Nat.le_of_ble_eq_true rfl, Nat.le_of_ble_eq_true rfl⟩ ⟨Nat.zero_le _, Nat.zero_le _⟩ hP hD hS hl.1 rfl rfl rfl (Nat.le_of_ble_eq_true rfl) 2 rfl rfl rfl [1] [0, 2] [0, 2, 1] rfl rfl rfl rfl rfl dX5_tell_5 (fun H locs hP hD hS => ?_)
  refine lv_if_eq (tgt := 33) hx hb dX5_tell_8 (by decide) (fun hc2 => ?_) (fun hc2 => ?_)
  · rw [if_pos hc2] at h
    refine lv_iconst (v := (-1)) hx hb dX5_tell_33 (by decide) ?_
    have h := Option.some.inj h
    subst h
    exact CT.iret Z hP hD hS dX5_tell_34
  · rw [if_neg hc2] at h
    refine lv_iload_n hx hb dX5_tell_11 rfl (lv_at hl 2 rfl) ?_
    refine lv_iload_n hx hb dX5_tell_12 rfl (lv_at hl 1 rfl) ?_
    refine lv_icmp_eq (tgt := 33) hx hb dX5_tell_13 (by decide) (fun hc3 => ?_) (fun hc3 => ?_)
    · rw [if_pos hc3] at h
      refine lv_iconst (v := (-1)) hx hb dX5_tell_33 (by decide) ?_
      have h := Option.some.inj h
      subst h
      exact CT.iret Z hP hD hS dX5_tell_34
    · rw [if_neg hc3] at h
      refine lv_iload_n hx hb dX5_tell_16 rfl (lv_at hl 2 rfl) ?_
      refine lv_bipush (v := (-4)) hx hb dX5_tell_17 (by decide) ?_
      refine lv_icmp_eq (tgt := 35) hx hb dX5_tell_19 (by decide) (fun hc4 => ?_) (fun hc4 => ?_)
      · rw [if_pos hc4] at h
        refine lv_aload_n hx hb dX5_tell_35 rfl (lv_at hl 0 rfl) ?_
        refine va_get (D := D) (ci := 5) (v := .ref (o 1 0)) (C := RX5) (T := TX5) (N := 9) hx hb hts in_X5_tell_X5 hown hK hP 0 rfl rfl 0 (by decide) (hts _ lk_X5_tell_10) (fun _ h9 => h9) rfl dX5_tell_36 ?_
        refine va_getN (D := D) (ci := 2) (v := .ref (o 1 3)) (C := RX2) (T := TX2) (N := 7) hx hb hts in_X5_tell_X2 hown hK hP 1 rfl rfl 3 (by decide) (nest_use rfl (hKK.2 _ nk_X5_79)) (fun _ h9 => h9) rfl dX5_tell_39 ?_
        refine lv_iload_n hx hb dX5_tell_42 rfl (lv_at hl 1 rfl) ?_
        obtain ⟨hg5, h⟩ := if_inv h
        refine va_iald hx hb hK hP 4 0 rfl rfl (inB_in hg5) dX5_tell_43 ?_
        refine lv_istore_n (lv' := [(3, .int ((p2_winds nw) x1.toNatClampNeg)), (0, .ref (o 0 0)), (1, .int x1), (2, .int x2)]) hx hb dX5_tell_44 rfl hl (by decide) rfl (fun ls hl => ?_)
        refine lv_iload_n hx hb dX5_tell_45 rfl (lv_at hl 3 rfl) ?_
        refine lv_iload_n hx hb dX5_tell_46 rfl (lv_at hl 0 rfl) ?_
        refine lv_icmp_ne (tgt := 53) hx hb dX5_tell_47 (by decide) (fun hc6 => ?_) (fun hc6 => ?_)
        · rw [if_neg hc6] at h
          refine lv_aload_n hx hb dX5_tell_53 rfl (lv_at hl 1 rfl) ?_
          refine va_get (D := D) (ci := 5) (v := .ref (o 20 0)) (C := RX5) (T := TX5) (N := 9) hx hb hts in_X5_tell_X5 hown hK hP 0 rfl rfl 1 (by decide) (hts _ lk_X5_tell_19) (fun _ h9 => h9) rfl dX5_tell_54 ?_
          refine lv_aload_n hx hb dX5_tell_57 rfl (lv_at hl 1 rfl) ?_
          refine va_get (D := D) (ci := 5) (v := .ref (o 1 0)) (C := RX5) (T := TX5) (N := 9) hx hb hts in_X5_tell_X5 hown hK hP 0 rfl rfl 0 (by decide) (hts _ lk_X5_tell_10) (fun _ h9 => h9) rfl dX5_tell_58 ?_
          obtain ⟨r7, hr7, h⟩ := bind_inv h
          refine kVN (rest := []) (st1 := []) (cr := [w5 cA o κ]) (cs' := [w5 cA o κ, w2 cA (o 1) nw, w1 cA (fun i => o (20 + i)) r7]) Z (c_X1_keep l D cA (fun i => o (20 + i)) (o 1) ps nw r7 hr7) 1 gX5_tell_X1_keep_n139 rfl hdX1_keep nk_X5_139 n1_X5_tell_X1 n2_X5_tell_X1_keep n3_X5_tell_X1_keep ⟨rfl, rfl⟩ ⟨Nat.le_of_ble_eq_true rfl, Nat.le_of_ble_eq_true rfl⟩ ⟨Nat.zero_le _, Nat.zero_le _⟩ hP hD hS hl.1 rfl rfl rfl (Nat.le_of_ble_eq_true rfl) 1 rfl rfl rfl [2, 1] [0] [0, 2, 1] rfl rfl rfl rfl rfl dX5_tell_61 (fun H locs hP hD hS => ?_)
          refine lv_aload_n hx hb dX5_tell_64 rfl (lv_at hl 1 rfl) ?_
          refine va_get (D := D) (ci := 5) (v := .ref (o 1 0)) (C := RX5) (T := TX5) (N := 9) hx hb hts in_X5_tell_X5 hown hK hP 0 rfl rfl 0 (by decide) (hts _ lk_X5_tell_10) (fun _ h9 => h9) rfl dX5_tell_65 ?_
          refine va_getN (D := D) (ci := 2) (v := .ref (o 1 3)) (C := RX2) (T := TX2) (N := 7) hx hb hts in_X5_tell_X2 hown hK hP 1 rfl rfl 3 (by decide) (nest_use rfl (hKK.2 _ nk_X5_79)) (fun _ h9 => h9) rfl dX5_tell_68 ?_
          refine lv_iload_n hx hb dX5_tell_71 rfl (lv_at hl 2 rfl) ?_
          refine lv_iload_n hx hb dX5_tell_72 rfl (lv_at hl 3 rfl) ?_
          obtain ⟨hg8, h⟩ := if_inv h
          refine va_iast hx hb hK hP hD hS 4 0 rfl rfl (inB_in hg8) dX5_tell_73 (fun H locs hP hD hS => ?_)
          have hP : va_P D vwCl ([w5 cA o κ, w2 cA (o 1) (s2_winds nw (upd (p2_winds nw) x1.toNatClampNeg x2)), w1 cA (fun i => o (20 + i)) r7] : List va_W).flatten H := hP
          have hD : va_D _ ([w5 cA o κ, w2 cA (o 1) (s2_winds nw (upd (p2_winds nw) x1.toNatClampNeg x2)), w1 cA (fun i => o (20 + i)) r7] : List va_W).flatten := hD
          refine lv_iload_n hx hb dX5_tell_74 rfl (lv_at hl 0 rfl) ?_
          have h := Option.some.inj h
          subst h
          exact CT.iret Z hP hD hS dX5_tell_75
        · rw [if_pos hc6] at h
          refine lv_bipush (v := (-2)) hx hb dX5_tell_50 (by decide) ?_
          have h := Option.some.inj h
          subst h
          exact CT.iret Z hP hD hS dX5_tell_52
      · rw [if_neg hc4] at h
        refine lv_aload_n hx hb dX5_tell_22 rfl (lv_at hl 0 rfl) ?_
        refine va_get (D := D) (ci := 5) (v := .ref (o 1 0)) (C := RX5) (T := TX5) (N := 9) hx hb hts in_X5_tell_X5 hown hK hP 0 rfl rfl 0 (by decide) (hts _ lk_X5_tell_10) (fun _ h9 => h9) rfl dX5_tell_23 ?_
        refine lv_iload_n hx hb dX5_tell_26 rfl (lv_at hl 2 rfl) ?_
        obtain ⟨r9, hr9, h⟩ := bind_inv h
        refine kVN (rest := []) (st1 := [.int r9]) (cr := [w5 cA o κ, w1 cA (fun i => o (20 + i)) ps]) (cs' := [w5 cA o κ, w2 cA (o 1) nw, w1 cA (fun i => o (20 + i)) ps]) Z (c_X2_has l D cA (o 1) nw x2 r9 hr9) 1 gX5_tell_X2_has_n68 rfl hdX2_has nk_X5_68 n1_X5_tell_X2 n2_X5_tell_X2_has n3_X5_tell_X2_has ⟨rfl, rfl⟩ ⟨Nat.le_of_ble_eq_true rfl, Nat.le_of_ble_eq_true rfl⟩ ⟨Nat.zero_le _, Nat.zero_le _⟩ hP hD hS hl.1 rfl rfl rfl (Nat.le_of_ble_eq_true rfl) 2 rfl rfl rfl [1] [0, 2] [0, 2, 1] rfl rfl rfl rfl rfl dX5_tell_27 (fun H locs hP hD hS => ?_)
        refine lv_if_ne (tgt := 35) hx hb dX5_tell_30 (by decide) (fun hc10 => ?_) (fun hc10 => ?_)
        · rw [if_neg hc10] at h
          refine lv_aload_n hx hb dX5_tell_35 rfl (lv_at hl 0 rfl) ?_
          refine va_get (D := D) (ci := 5) (v := .ref (o 1 0)) (C := RX5) (T := TX5) (N := 9) hx hb hts in_X5_tell_X5 hown hK hP 0 rfl rfl 0 (by decide) (hts _ lk_X5_tell_10) (fun _ h9 => h9) rfl dX5_tell_36 ?_
          refine va_getN (D := D) (ci := 2) (v := .ref (o 1 3)) (C := RX2) (T := TX2) (N := 7) hx hb hts in_X5_tell_X2 hown hK hP 1 rfl rfl 3 (by decide) (nest_use rfl (hKK.2 _ nk_X5_79)) (fun _ h9 => h9) rfl dX5_tell_39 ?_
          refine lv_iload_n hx hb dX5_tell_42 rfl (lv_at hl 1 rfl) ?_
          obtain ⟨hg11, h⟩ := if_inv h
          refine va_iald hx hb hK hP 4 0 rfl rfl (inB_in hg11) dX5_tell_43 ?_
          refine lv_istore_n (lv' := [(3, .int ((p2_winds nw) x1.toNatClampNeg)), (0, .ref (o 0 0)), (1, .int x1), (2, .int x2)]) hx hb dX5_tell_44 rfl hl (by decide) rfl (fun ls hl => ?_)
          refine lv_iload_n hx hb dX5_tell_45 rfl (lv_at hl 3 rfl) ?_
          refine lv_iload_n hx hb dX5_tell_46 rfl (lv_at hl 0 rfl) ?_
          refine lv_icmp_ne (tgt := 53) hx hb dX5_tell_47 (by decide) (fun hc12 => ?_) (fun hc12 => ?_)
          · rw [if_neg hc12] at h
            refine lv_aload_n hx hb dX5_tell_53 rfl (lv_at hl 1 rfl) ?_
            refine va_get (D := D) (ci := 5) (v := .ref (o 20 0)) (C := RX5) (T := TX5) (N := 9) hx hb hts in_X5_tell_X5 hown hK hP 0 rfl rfl 1 (by decide) (hts _ lk_X5_tell_19) (fun _ h9 => h9) rfl dX5_tell_54 ?_
            refine lv_aload_n hx hb dX5_tell_57 rfl (lv_at hl 1 rfl) ?_
            refine va_get (D := D) (ci := 5) (v := .ref (o 1 0)) (C := RX5) (T := TX5) (N := 9) hx hb hts in_X5_tell_X5 hown hK hP 0 rfl rfl 0 (by decide) (hts _ lk_X5_tell_10) (fun _ h9 => h9) rfl dX5_tell_58 ?_
            obtain ⟨r13, hr13, h⟩ := bind_inv h
            refine kVN (rest := []) (st1 := []) (cr := [w5 cA o κ]) (cs' := [w5 cA o κ, w2 cA (o 1) nw, w1 cA (fun i => o (20 + i)) r13]) Z (c_X1_keep l D cA (fun i => o (20 + i)) (o 1) ps nw r13 hr13) 1 gX5_tell_X1_keep_n139 rfl hdX1_keep nk_X5_139 n1_X5_tell_X1 n2_X5_tell_X1_keep n3_X5_tell_X1_keep ⟨rfl, rfl⟩ ⟨Nat.le_of_ble_eq_true rfl, Nat.le_of_ble_eq_true rfl⟩ ⟨Nat.zero_le _, Nat.zero_le _⟩ hP hD hS hl.1 rfl rfl rfl (Nat.le_of_ble_eq_true rfl) 1 rfl rfl rfl [2, 1] [0] [0, 2, 1] rfl rfl rfl rfl rfl dX5_tell_61 (fun H locs hP hD hS => ?_)
            refine lv_aload_n hx hb dX5_tell_64 rfl (lv_at hl 1 rfl) ?_
            refine va_get (D := D) (ci := 5) (v := .ref (o 1 0)) (C := RX5) (T := TX5) (N := 9) hx hb hts in_X5_tell_X5 hown hK hP 0 rfl rfl 0 (by decide) (hts _ lk_X5_tell_10) (fun _ h9 => h9) rfl dX5_tell_65 ?_
            refine va_getN (D := D) (ci := 2) (v := .ref (o 1 3)) (C := RX2) (T := TX2) (N := 7) hx hb hts in_X5_tell_X2 hown hK hP 1 rfl rfl 3 (by decide) (nest_use rfl (hKK.2 _ nk_X5_79)) (fun _ h9 => h9) rfl dX5_tell_68 ?_
            refine lv_iload_n hx hb dX5_tell_71 rfl (lv_at hl 2 rfl) ?_
            refine lv_iload_n hx hb dX5_tell_72 rfl (lv_at hl 3 rfl) ?_
            obtain ⟨hg14, h⟩ := if_inv h
            refine va_iast hx hb hK hP hD hS 4 0 rfl rfl (inB_in hg14) dX5_tell_73 (fun H locs hP hD hS => ?_)
            have hP : va_P D vwCl ([w5 cA o κ, w2 cA (o 1) (s2_winds nw (upd (p2_winds nw) x1.toNatClampNeg x2)), w1 cA (fun i => o (20 + i)) r13] : List va_W).flatten H := hP
            have hD : va_D _ ([w5 cA o κ, w2 cA (o 1) (s2_winds nw (upd (p2_winds nw) x1.toNatClampNeg x2)), w1 cA (fun i => o (20 + i)) r13] : List va_W).flatten := hD
            refine lv_iload_n hx hb dX5_tell_74 rfl (lv_at hl 0 rfl) ?_
            have h := Option.some.inj h
            subst h
            exact CT.iret Z hP hD hS dX5_tell_75
          · rw [if_pos hc12] at h
            refine lv_bipush (v := (-2)) hx hb dX5_tell_50 (by decide) ?_
            have h := Option.some.inj h
            subst h
            exact CT.iret Z hP hD hS dX5_tell_52
        · rw [if_pos hc10] at h
          refine lv_iconst (v := (-1)) hx hb dX5_tell_33 (by decide) ?_
          have h := Option.some.inj h
          subst h
          exact CT.iret Z hP hD hS dX5_tell_34

-- X5.cut
theorem lk_X5_cut_10 : Cond.fieldLink RX5 10 "KeyedFeelings" "now" "LKeyedFeelings$People;" ∈ wsX5_cut := by decide +kernel
theorem in_X5_cut_X5 : ∀ w ∈ wsX50, w ∈ wsX5_cut := by decide +kernel
theorem n1_X5_cut_X2 : Cond.initialized RX2 ∈ wsX5_cut := by decide +kernel
theorem n2_X5_cut_X2_has : Cond.instanceMethod yX2_has ∈ wsX5_cut := by decide +kernel
theorem n3_X5_cut_X2_has : Cond.selects RX2 yX2_has yX2_has ∈ wsX5_cut := by decide +kernel
theorem in_X5_cut_X2 : ∀ w ∈ wsX20, w ∈ wsX5_cut := by decide +kernel
theorem lk_X5_cut_19 : Cond.fieldLink RX5 19 "KeyedFeelings" "past" "LKeyedFeelings$Past;" ∈ wsX5_cut := by decide +kernel
theorem n1_X5_cut_X1 : Cond.initialized RX1 ∈ wsX5_cut := by decide +kernel
theorem n2_X5_cut_X1_keep : Cond.instanceMethod yX1_keep ∈ wsX5_cut := by decide +kernel
theorem n3_X5_cut_X1_keep : Cond.selects RX1 yX1_keep yX1_keep ∈ wsX5_cut := by decide +kernel
noncomputable def f_X5_cut (κ : St5) (nw : St2) (ps : St1) (x1 : Int32) (x2 : Int32) : Option (Int32 × St2 × St1) := ((f_X2_has nw x1).bind (fun r1 => (if r1 = 0 then some ((-1), nw, ps) else (if x2 < 1 then some ((-1), nw, ps) else (if x2 ≤ 12 then (if inB x1 6 = true then (if x2 = ((p2_keys nw) x1.toNatClampNeg) then some ((-2), nw, ps) else ((f_X1_keep ps nw).bind (fun r7 => (if inB x1 6 = true then some ((p2_keys nw) x1.toNatClampNeg, (s2_keys nw (upd (p2_keys nw) x1.toNatClampNeg x2)), r7) else none)))) else none) else some ((-1), nw, ps))))))
noncomputable def rmX5_cut : Room := { frames := 2, cells := 0, slots := 0, locals := 43 }
set_option maxHeartbeats 4000000 in
set_option maxRecDepth 100000 in
theorem c_X5_cut (l : Launch) (D : va_G) (cA : Nat → ClassId) (o : Nat → Nat → Nat) (κ : St5) (nw : St2) (ps : St1) (x1 : Int32) (x2 : Int32) (res : Int32 × St2 × St1) (h : f_X5_cut κ nw ps x1 x2 = some res) : CT l D cA yX5_cut wsX5_cut rmX5_cut [.ref (o 0 0), .int x1, .int x2] [w5 cA o κ, w2 cA (o 1) nw, w1 cA (fun i => o (20 + i)) ps] [w5 cA o κ, w2 cA (o 1) res.2.1, w1 cA (fun i => o (20 + i)) res.2.2] (some (.int res.1)) := by
  refine CT.start (cc := cX5_cut) (maxL := 4) (ret := (some .int)) (by decide) rfl (Nat.le_of_ble_eq_true rfl) ?_
  intro p e s m below meth c Z hP hD hS ls hl
  have Z : Cx p s m _ meth c cX5_cut 4 (some .int) wsX5_cut RX5 D cA := Z
  have hl : lv_has ls 4 [(0, .ref (o 0 0)), (1, .int x1), (2, .int x2)] := hl
  obtain ⟨hx, hb, hml, hown, hts, hr, hlk, hKK⟩ := id Z
  have hK := hKK.1
  rw [f_X5_cut] at h
  refine lv_aload_n hx hb dX5_cut_0 rfl (lv_at hl 0 rfl) ?_
  refine va_get (D := D) (ci := 5) (v := .ref (o 1 0)) (C := RX5) (T := TX5) (N := 9) hx hb hts in_X5_cut_X5 hown hK hP 0 rfl rfl 0 (by decide) (hts _ lk_X5_cut_10) (fun _ h9 => h9) rfl dX5_cut_1 ?_
  refine lv_iload_n hx hb dX5_cut_4 rfl (lv_at hl 1 rfl) ?_
  obtain ⟨r1, hr1, h⟩ := bind_inv h
  refine kVN (rest := []) (st1 := [.int r1]) (cr := [w5 cA o κ, w1 cA (fun i => o (20 + i)) ps]) (cs' := [w5 cA o κ, w2 cA (o 1) nw, w1 cA (fun i => o (20 + i)) ps]) Z (c_X2_has l D cA (o 1) nw x1 r1 hr1) 1 gX5_cut_X2_has_n68 rfl hdX2_has nk_X5_68 n1_X5_cut_X2 n2_X5_cut_X2_has n3_X5_cut_X2_has ⟨rfl, rfl⟩ ⟨Nat.le_of_ble_eq_true rfl, Nat.le_of_ble_eq_true rfl⟩ ⟨Nat.zero_le _, Nat.zero_le _⟩ hP hD hS hl.1 rfl rfl rfl (Nat.le_of_ble_eq_true rfl) 2 rfl rfl rfl [1] [0, 2] [0, 2, 1] rfl rfl rfl rfl rfl dX5_cut_5 (fun H locs hP hD hS => ?_)
  refine lv_if_eq (tgt := 22) hx hb dX5_cut_8 (by decide) (fun hc2 => ?_) (fun hc2 => ?_)
  · rw [if_pos hc2] at h
    refine lv_iconst (v := (-1)) hx hb dX5_cut_22 (by decide) ?_
    have h := Option.some.inj h
    subst h
    exact CT.iret Z hP hD hS dX5_cut_23
  · rw [if_neg hc2] at h
    refine lv_iload_n hx hb dX5_cut_11 rfl (lv_at hl 2 rfl) ?_
    refine lv_iconst (v := 1) hx hb dX5_cut_12 (by decide) ?_
    refine lv_icmp_lt (tgt := 22) hx hb dX5_cut_13 (by decide) (fun hc3 => ?_) (fun hc3 => ?_)
    · rw [if_pos hc3] at h
      refine lv_iconst (v := (-1)) hx hb dX5_cut_22 (by decide) ?_
      have h := Option.some.inj h
      subst h
      exact CT.iret Z hP hD hS dX5_cut_23
    · rw [if_neg hc3] at h
      refine lv_iload_n hx hb dX5_cut_16 rfl (lv_at hl 2 rfl) ?_
      refine lv_bipush (v := 12) hx hb dX5_cut_17 (by decide) ?_
      refine lv_icmp_le (tgt := 24) hx hb dX5_cut_19 (by decide) (fun hc4 => ?_) (fun hc4 => ?_)
      · rw [if_pos hc4] at h
        refine lv_aload_n hx hb dX5_cut_24 rfl (lv_at hl 0 rfl) ?_
        refine va_get (D := D) (ci := 5) (v := .ref (o 1 0)) (C := RX5) (T := TX5) (N := 9) hx hb hts in_X5_cut_X5 hown hK hP 0 rfl rfl 0 (by decide) (hts _ lk_X5_cut_10) (fun _ h9 => h9) rfl dX5_cut_25 ?_
        refine va_getN (D := D) (ci := 2) (v := .ref (o 1 4)) (C := RX2) (T := TX2) (N := 7) hx hb hts in_X5_cut_X2 hown hK hP 1 rfl rfl 4 (by decide) (nest_use rfl (hKK.2 _ nk_X5_82)) (fun _ h9 => h9) rfl dX5_cut_28 ?_
        refine lv_iload_n hx hb dX5_cut_31 rfl (lv_at hl 1 rfl) ?_
        obtain ⟨hg5, h⟩ := if_inv h
        refine va_iald hx hb hK hP 5 0 rfl rfl (inB_in hg5) dX5_cut_32 ?_
        refine lv_istore_n (lv' := [(3, .int ((p2_keys nw) x1.toNatClampNeg)), (0, .ref (o 0 0)), (1, .int x1), (2, .int x2)]) hx hb dX5_cut_33 rfl hl (by decide) rfl (fun ls hl => ?_)
        refine lv_iload_n hx hb dX5_cut_34 rfl (lv_at hl 3 rfl) ?_
        refine lv_iload_n hx hb dX5_cut_35 rfl (lv_at hl 0 rfl) ?_
        refine lv_icmp_ne (tgt := 42) hx hb dX5_cut_36 (by decide) (fun hc6 => ?_) (fun hc6 => ?_)
        · rw [if_neg hc6] at h
          refine lv_aload_n hx hb dX5_cut_42 rfl (lv_at hl 1 rfl) ?_
          refine va_get (D := D) (ci := 5) (v := .ref (o 20 0)) (C := RX5) (T := TX5) (N := 9) hx hb hts in_X5_cut_X5 hown hK hP 0 rfl rfl 1 (by decide) (hts _ lk_X5_cut_19) (fun _ h9 => h9) rfl dX5_cut_43 ?_
          refine lv_aload_n hx hb dX5_cut_46 rfl (lv_at hl 1 rfl) ?_
          refine va_get (D := D) (ci := 5) (v := .ref (o 1 0)) (C := RX5) (T := TX5) (N := 9) hx hb hts in_X5_cut_X5 hown hK hP 0 rfl rfl 0 (by decide) (hts _ lk_X5_cut_10) (fun _ h9 => h9) rfl dX5_cut_47 ?_
          obtain ⟨r7, hr7, h⟩ := bind_inv h
          refine kVN (rest := []) (st1 := []) (cr := [w5 cA o κ]) (cs' := [w5 cA o κ, w2 cA (o 1) nw, w1 cA (fun i => o (20 + i)) r7]) Z (c_X1_keep l D cA (fun i => o (20 + i)) (o 1) ps nw r7 hr7) 1 gX5_cut_X1_keep_n139 rfl hdX1_keep nk_X5_139 n1_X5_cut_X1 n2_X5_cut_X1_keep n3_X5_cut_X1_keep ⟨rfl, rfl⟩ ⟨Nat.le_of_ble_eq_true rfl, Nat.le_of_ble_eq_true rfl⟩ ⟨Nat.zero_le _, Nat.zero_le _⟩ hP hD hS hl.1 rfl rfl rfl (Nat.le_of_ble_eq_true rfl) 1 rfl rfl rfl [2, 1] [0] [0, 2, 1] rfl rfl rfl rfl rfl dX5_cut_50 (fun H locs hP hD hS => ?_)
          refine lv_aload_n hx hb dX5_cut_53 rfl (lv_at hl 1 rfl) ?_
          refine va_get (D := D) (ci := 5) (v := .ref (o 1 0)) (C := RX5) (T := TX5) (N := 9) hx hb hts in_X5_cut_X5 hown hK hP 0 rfl rfl 0 (by decide) (hts _ lk_X5_cut_10) (fun _ h9 => h9) rfl dX5_cut_54 ?_
          refine va_getN (D := D) (ci := 2) (v := .ref (o 1 4)) (C := RX2) (T := TX2) (N := 7) hx hb hts in_X5_cut_X2 hown hK hP 1 rfl rfl 4 (by decide) (nest_use rfl (hKK.2 _ nk_X5_82)) (fun _ h9 => h9) rfl dX5_cut_57 ?_
          refine lv_iload_n hx hb dX5_cut_60 rfl (lv_at hl 2 rfl) ?_
          refine lv_iload_n hx hb dX5_cut_61 rfl (lv_at hl 3 rfl) ?_
          obtain ⟨hg8, h⟩ := if_inv h
          refine va_iast hx hb hK hP hD hS 5 0 rfl rfl (inB_in hg8) dX5_cut_62 (fun H locs hP hD hS => ?_)
          have hP : va_P D vwCl ([w5 cA o κ, w2 cA (o 1) (s2_keys nw (upd (p2_keys nw) x1.toNatClampNeg x2)), w1 cA (fun i => o (20 + i)) r7] : List va_W).flatten H := hP
          have hD : va_D _ ([w5 cA o κ, w2 cA (o 1) (s2_keys nw (upd (p2_keys nw) x1.toNatClampNeg x2)), w1 cA (fun i => o (20 + i)) r7] : List va_W).flatten := hD
          refine lv_iload_n hx hb dX5_cut_63 rfl (lv_at hl 0 rfl) ?_
          have h := Option.some.inj h
          subst h
          exact CT.iret Z hP hD hS dX5_cut_64
        · rw [if_pos hc6] at h
          refine lv_bipush (v := (-2)) hx hb dX5_cut_39 (by decide) ?_
          have h := Option.some.inj h
          subst h
          exact CT.iret Z hP hD hS dX5_cut_41
      · rw [if_neg hc4] at h
        refine lv_iconst (v := (-1)) hx hb dX5_cut_22 (by decide) ?_
        have h := Option.some.inj h
        subst h
        exact CT.iret Z hP hD hS dX5_cut_23

-- X5.drift
noncomputable def f_X5_drift (κ : St5) (nw : St2) (ps : St1) (x1 : Int32) : Option (Int32 × St2 × St1) := ((f_X5_spend κ nw ps x1 1).bind (fun r1 => some (r1.1, r1.2.1, r1.2.2)))
noncomputable def rmX5_drift : Room := { frames := 5, cells := 0, slots := 0, locals := 110 }
set_option maxHeartbeats 4000000 in
set_option maxRecDepth 100000 in
theorem c_X5_drift (l : Launch) (D : va_G) (cA : Nat → ClassId) (o : Nat → Nat → Nat) (κ : St5) (nw : St2) (ps : St1) (x1 : Int32) (res : Int32 × St2 × St1) (h : f_X5_drift κ nw ps x1 = some res) : CT l D cA yX5_drift wsX5_drift rmX5_drift [.ref (o 0 0), .int x1] [w5 cA o κ, w2 cA (o 1) nw, w1 cA (fun i => o (20 + i)) ps] [w5 cA o κ, w2 cA (o 1) res.2.1, w1 cA (fun i => o (20 + i)) res.2.2] (some (.int res.1)) := by
  refine CT.start (cc := cX5_drift) (maxL := 2) (ret := (some .int)) (by decide) rfl (Nat.le_of_ble_eq_true rfl) ?_
  intro p e s m below meth c Z hP hD hS ls hl
  have Z : Cx p s m _ meth c cX5_drift 2 (some .int) wsX5_drift RX5 D cA := Z
  have hl : lv_has ls 2 [(0, .ref (o 0 0)), (1, .int x1)] := hl
  obtain ⟨hx, hb, hml, hown, hts, hr, hlk, hKK⟩ := id Z
  have hK := hKK.1
  rw [f_X5_drift] at h
  refine lv_aload_n hx hb dX5_drift_0 rfl (lv_at hl 0 rfl) ?_
  refine lv_iload_n hx hb dX5_drift_1 rfl (lv_at hl 1 rfl) ?_
  refine lv_iconst (v := 1) hx hb dX5_drift_2 (by decide) ?_
  obtain ⟨r1, hr1, h⟩ := bind_inv h
  refine kV (rest := []) (st1 := [.int r1.1]) (cr := []) (cs' := [w5 cA o κ, w2 cA (o 1) r1.2.1, w1 cA (fun i => o (20 + i)) r1.2.2]) Z (c_X5_spend l D cA o κ nw ps x1 1 r1 hr1) 2 gX5_drift_X5_spend rfl hdX5_spend ⟨rfl, rfl⟩ ⟨Nat.le_of_ble_eq_true rfl, Nat.le_of_ble_eq_true rfl⟩ ⟨Nat.zero_le _, Nat.zero_le _⟩ hP hD hS hl.1 rfl rfl rfl (Nat.le_of_ble_eq_true rfl) 5 rfl rfl rfl [0, 1, 2] [] [0, 1, 2] rfl rfl rfl rfl rfl dX5_drift_3 (fun H locs hP hD hS => ?_)
  have h := Option.some.inj h
  subst h
  exact CT.iret Z hP hD hS dX5_drift_6

-- X5.undo
theorem lk_X5_undo_19 : Cond.fieldLink RX5 19 "KeyedFeelings" "past" "LKeyedFeelings$Past;" ∈ wsX5_undo := by decide +kernel
theorem in_X5_undo_X5 : ∀ w ∈ wsX50, w ∈ wsX5_undo := by decide +kernel
theorem in_X5_undo_X1 : ∀ w ∈ wsX10, w ∈ wsX5_undo := by decide +kernel
theorem lk_X5_undo_10 : Cond.fieldLink RX5 10 "KeyedFeelings" "now" "LKeyedFeelings$People;" ∈ wsX5_undo := by decide +kernel
theorem n1_X5_undo_X1 : Cond.initialized RX1 ∈ wsX5_undo := by decide +kernel
theorem n2_X5_undo_X1_takeBack : Cond.instanceMethod yX1_takeBack ∈ wsX5_undo := by decide +kernel
theorem n3_X5_undo_X1_takeBack : Cond.selects RX1 yX1_takeBack yX1_takeBack ∈ wsX5_undo := by decide +kernel
noncomputable def f_X5_undo (κ : St5) (nw : St2) (ps : St1) : Option (Int32 × St2 × St1) := (if (p1_size ps) = 0 then some ((-4), nw, ps) else ((f_X1_takeBack ps nw).bind (fun r2 => some (p1_size r2.1, r2.2, r2.1))))
noncomputable def rmX5_undo : Room := { frames := 2, cells := 0, slots := 0, locals := 43 }
set_option maxHeartbeats 4000000 in
set_option maxRecDepth 100000 in
theorem c_X5_undo (l : Launch) (D : va_G) (cA : Nat → ClassId) (o : Nat → Nat → Nat) (κ : St5) (nw : St2) (ps : St1) (res : Int32 × St2 × St1) (h : f_X5_undo κ nw ps = some res) : CT l D cA yX5_undo wsX5_undo rmX5_undo [.ref (o 0 0)] [w5 cA o κ, w2 cA (o 1) nw, w1 cA (fun i => o (20 + i)) ps] [w5 cA o κ, w2 cA (o 1) res.2.1, w1 cA (fun i => o (20 + i)) res.2.2] (some (.int res.1)) := by
  refine CT.start (cc := cX5_undo) (maxL := 1) (ret := (some .int)) (by decide) rfl (Nat.le_of_ble_eq_true rfl) ?_
  intro p e s m below meth c Z hP hD hS ls hl
  have Z : Cx p s m _ meth c cX5_undo 1 (some .int) wsX5_undo RX5 D cA := Z
  have hl : lv_has ls 1 [(0, .ref (o 0 0))] := hl
  obtain ⟨hx, hb, hml, hown, hts, hr, hlk, hKK⟩ := id Z
  have hK := hKK.1
  rw [f_X5_undo] at h
  refine lv_aload_n hx hb dX5_undo_0 rfl (lv_at hl 0 rfl) ?_
  refine va_get (D := D) (ci := 5) (v := .ref (o 20 0)) (C := RX5) (T := TX5) (N := 9) hx hb hts in_X5_undo_X5 hown hK hP 0 rfl rfl 1 (by decide) (hts _ lk_X5_undo_19) (fun _ h9 => h9) rfl dX5_undo_1 ?_
  refine va_getN (D := D) (ci := 1) (v := .int (p1_size ps)) (C := RX1) (T := TX1) (N := 3) hx hb hts in_X5_undo_X1 hown hK hP 6 rfl rfl 0 (by decide) (nest_use rfl (hKK.2 _ nk_X5_134)) (fun _ h9 => h9) rfl dX5_undo_4 ?_
  refine lv_if_ne (tgt := 13) hx hb dX5_undo_7 (by decide) (fun hc1 => ?_) (fun hc1 => ?_)
  · rw [if_neg hc1] at h
    refine lv_aload_n hx hb dX5_undo_13 rfl (lv_at hl 0 rfl) ?_
    refine va_get (D := D) (ci := 5) (v := .ref (o 20 0)) (C := RX5) (T := TX5) (N := 9) hx hb hts in_X5_undo_X5 hown hK hP 0 rfl rfl 1 (by decide) (hts _ lk_X5_undo_19) (fun _ h9 => h9) rfl dX5_undo_14 ?_
    refine lv_aload_n hx hb dX5_undo_17 rfl (lv_at hl 0 rfl) ?_
    refine va_get (D := D) (ci := 5) (v := .ref (o 1 0)) (C := RX5) (T := TX5) (N := 9) hx hb hts in_X5_undo_X5 hown hK hP 0 rfl rfl 0 (by decide) (hts _ lk_X5_undo_10) (fun _ h9 => h9) rfl dX5_undo_18 ?_
    obtain ⟨r2, hr2, h⟩ := bind_inv h
    refine kVN (rest := []) (st1 := []) (cr := [w5 cA o κ]) (cs' := [w5 cA o κ, w2 cA (o 1) r2.2, w1 cA (fun i => o (20 + i)) r2.1]) Z (c_X1_takeBack l D cA (fun i => o (20 + i)) (o 1) ps nw r2 hr2) 1 gX5_undo_X1_takeBack_n146 rfl hdX1_takeBack nk_X5_146 n1_X5_undo_X1 n2_X5_undo_X1_takeBack n3_X5_undo_X1_takeBack ⟨rfl, rfl⟩ ⟨Nat.le_of_ble_eq_true rfl, Nat.le_of_ble_eq_true rfl⟩ ⟨Nat.zero_le _, Nat.zero_le _⟩ hP hD hS hl.1 rfl rfl rfl (Nat.le_of_ble_eq_true rfl) 1 rfl rfl rfl [2, 1] [0] [0, 2, 1] rfl rfl rfl rfl rfl dX5_undo_21 (fun H locs hP hD hS => ?_)
    refine lv_aload_n hx hb dX5_undo_24 rfl (lv_at hl 0 rfl) ?_
    refine va_get (D := D) (ci := 5) (v := .ref (o 20 0)) (C := RX5) (T := TX5) (N := 9) hx hb hts in_X5_undo_X5 hown hK hP 0 rfl rfl 1 (by decide) (hts _ lk_X5_undo_19) (fun _ h9 => h9) rfl dX5_undo_25 ?_
    refine va_getN (D := D) (ci := 1) (v := .int (p1_size r2.1)) (C := RX1) (T := TX1) (N := 3) hx hb hts in_X5_undo_X1 hown hK hP 6 rfl rfl 0 (by decide) (nest_use rfl (hKK.2 _ nk_X5_134)) (fun _ h9 => h9) rfl dX5_undo_28 ?_
    have h := Option.some.inj h
    subst h
    exact CT.iret Z hP hD hS dX5_undo_31
  · rw [if_pos hc1] at h
    refine lv_bipush (v := (-4)) hx hb dX5_undo_10 (by decide) ?_
    have h := Option.some.inj h
    subst h
    exact CT.iret Z hP hD hS dX5_undo_12

-- X5.seed
theorem lk_X5_seed_10 : Cond.fieldLink RX5 10 "KeyedFeelings" "now" "LKeyedFeelings$People;" ∈ wsX5_seed := by decide +kernel
theorem in_X5_seed_X5 : ∀ w ∈ wsX50, w ∈ wsX5_seed := by decide +kernel
theorem in_X5_seed_X2 : ∀ w ∈ wsX20, w ∈ wsX5_seed := by decide +kernel
noncomputable def f_X5_seed (κ : St5) (nw : St2) (x1 : Int32) : Option (Int32 × St2) := (if 0 ≤ x1 then some (p2_draw nw, (s2_draw nw x1)) else some ((-1), nw))
noncomputable def rmX5_seed : Room := { frames := 0, cells := 0, slots := 0, locals := 0 }
set_option maxHeartbeats 4000000 in
set_option maxRecDepth 100000 in
theorem c_X5_seed (l : Launch) (D : va_G) (cA : Nat → ClassId) (o : Nat → Nat → Nat) (κ : St5) (nw : St2) (x1 : Int32) (res : Int32 × St2) (h : f_X5_seed κ nw x1 = some res) : CT l D cA yX5_seed wsX5_seed rmX5_seed [.ref (o 0 0), .int x1] [w5 cA o κ, w2 cA (o 1) nw] [w5 cA o κ, w2 cA (o 1) res.2] (some (.int res.1)) := by
  refine CT.start (cc := cX5_seed) (maxL := 3) (ret := (some .int)) (by decide) rfl (Nat.le_of_ble_eq_true rfl) ?_
  intro p e s m below meth c Z hP hD hS ls hl
  have Z : Cx p s m _ meth c cX5_seed 3 (some .int) wsX5_seed RX5 D cA := Z
  have hl : lv_has ls 3 [(0, .ref (o 0 0)), (1, .int x1)] := hl
  obtain ⟨hx, hb, hml, hown, hts, hr, hlk, hKK⟩ := id Z
  have hK := hKK.1
  rw [f_X5_seed] at h
  refine lv_iload_n hx hb dX5_seed_0 rfl (lv_at hl 1 rfl) ?_
  refine lv_if_ge (tgt := 6) hx hb dX5_seed_1 (by decide) (fun hc1 => ?_) (fun hc1 => ?_)
  · rw [if_pos hc1] at h
    refine lv_aload_n hx hb dX5_seed_6 rfl (lv_at hl 0 rfl) ?_
    refine va_get (D := D) (ci := 5) (v := .ref (o 1 0)) (C := RX5) (T := TX5) (N := 9) hx hb hts in_X5_seed_X5 hown hK hP 0 rfl rfl 0 (by decide) (hts _ lk_X5_seed_10) (fun _ h9 => h9) rfl dX5_seed_7 ?_
    refine va_getN (D := D) (ci := 2) (v := .int (p2_draw nw)) (C := RX2) (T := TX2) (N := 7) hx hb hts in_X5_seed_X2 hown hK hP 1 rfl rfl 6 (by decide) (nest_use rfl (hKK.2 _ nk_X5_112)) (fun _ h9 => h9) rfl dX5_seed_10 ?_
    refine lv_istore_n (lv' := [(2, .int (p2_draw nw)), (0, .ref (o 0 0)), (1, .int x1)]) hx hb dX5_seed_13 rfl hl (by decide) rfl (fun ls hl => ?_)
    refine lv_aload_n hx hb dX5_seed_14 rfl (lv_at hl 1 rfl) ?_
    refine va_get (D := D) (ci := 5) (v := .ref (o 1 0)) (C := RX5) (T := TX5) (N := 9) hx hb hts in_X5_seed_X5 hown hK hP 0 rfl rfl 0 (by decide) (hts _ lk_X5_seed_10) (fun _ h9 => h9) rfl dX5_seed_15 ?_
    refine lv_iload_n hx hb dX5_seed_18 rfl (lv_at hl 2 rfl) ?_
    refine va_putN (D := D) (ci := 2) (v := .int x1) (ty := .int) (C := RX2) (T := TX2) (N := 7) hx hb hts in_X5_seed_X2 tyX2 tyX2_ok nmX2 hown hK hP hD hS 1 rfl rfl 6 (by decide) (nest_use rfl (hKK.2 _ nk_X5_112)) (fun _ h9 => h9) rfl (tyX2_ok 6 (by decide)) rfl rfl (Nat.le_of_ble_eq_true rfl) dX5_seed_19 (fun H locs hP hD hS => ?_)
    have hP : va_P D vwCl ([w5 cA o κ, w2 cA (o 1) (s2_draw nw x1)] : List va_W).flatten H := hP
    have hD : va_D _ ([w5 cA o κ, w2 cA (o 1) (s2_draw nw x1)] : List va_W).flatten := hD
    refine lv_iload_n hx hb dX5_seed_22 rfl (lv_at hl 0 rfl) ?_
    have h := Option.some.inj h
    subst h
    exact CT.iret Z hP hD hS dX5_seed_23
  · rw [if_neg hc1] at h
    refine lv_iconst (v := (-1)) hx hb dX5_seed_4 (by decide) ?_
    have h := Option.some.inj h
    subst h
    exact CT.iret Z hP hD hS dX5_seed_5

-- X5.ahead
theorem lk_X5_ahead_10 : Cond.fieldLink RX5 10 "KeyedFeelings" "now" "LKeyedFeelings$People;" ∈ wsX5_ahead := by decide +kernel
theorem in_X5_ahead_X5 : ∀ w ∈ wsX50, w ∈ wsX5_ahead := by decide +kernel
theorem n1_X5_ahead_X2 : Cond.initialized RX2 ∈ wsX5_ahead := by decide +kernel
theorem n2_X5_ahead_X2_has : Cond.instanceMethod yX2_has ∈ wsX5_ahead := by decide +kernel
theorem n3_X5_ahead_X2_has : Cond.selects RX2 yX2_has yX2_has ∈ wsX5_ahead := by decide +kernel
theorem lk_X5_ahead_33 : Cond.fieldLink RX5 33 "KeyedFeelings" "trial" "LKeyedFeelings$People;" ∈ wsX5_ahead := by decide +kernel
theorem n2_X5_ahead_X2_become : Cond.instanceMethod yX2_become ∈ wsX5_ahead := by decide +kernel
theorem n3_X5_ahead_X2_become : Cond.selects RX2 yX2_become yX2_become ∈ wsX5_ahead := by decide +kernel
theorem n2_X5_ahead_X2_passHours : Cond.instanceMethod yX2_passHours ∈ wsX5_ahead := by decide +kernel
theorem n3_X5_ahead_X2_passHours : Cond.selects RX2 yX2_passHours yX2_passHours ∈ wsX5_ahead := by decide +kernel
theorem in_X5_ahead_X2 : ∀ w ∈ wsX20, w ∈ wsX5_ahead := by decide +kernel
noncomputable def f_X5_ahead (κ : St5) (nw : St2) (tr : St2) (x1 : Int32) (x2 : Int32) : Option (Int32 × St2) := ((f_X2_has nw x1).bind (fun r1 => (if r1 = 0 then some ((-1), tr) else (if x2 < 0 then some ((-1), tr) else (if x2 ≤ 80 then ((f_X2_passHours nw x2).bind (fun r6 => (if inB x1 6 = true then some ((p2_turns r6) x1.toNatClampNeg, r6) else none))) else some ((-1), tr))))))
noncomputable def rmX5_ahead : Room := { frames := 5, cells := 0, slots := 0, locals := 109 }
set_option maxHeartbeats 4000000 in
set_option maxRecDepth 100000 in
theorem c_X5_ahead (l : Launch) (D : va_G) (cA : Nat → ClassId) (o : Nat → Nat → Nat) (κ : St5) (nw : St2) (tr : St2) (x1 : Int32) (x2 : Int32) (res : Int32 × St2) (h : f_X5_ahead κ nw tr x1 x2 = some res) : CT l D cA yX5_ahead wsX5_ahead rmX5_ahead [.ref (o 0 0), .int x1, .int x2] [w5 cA o κ, w2 cA (o 1) nw, w2 cA (o 5) tr] [w5 cA o κ, w2 cA (o 1) nw, w2 cA (o 5) res.2] (some (.int res.1)) := by
  refine CT.start (cc := cX5_ahead) (maxL := 3) (ret := (some .int)) (by decide) rfl (Nat.le_of_ble_eq_true rfl) ?_
  intro p e s m below meth c Z hP hD hS ls hl
  have Z : Cx p s m _ meth c cX5_ahead 3 (some .int) wsX5_ahead RX5 D cA := Z
  have hl : lv_has ls 3 [(0, .ref (o 0 0)), (1, .int x1), (2, .int x2)] := hl
  obtain ⟨hx, hb, hml, hown, hts, hr, hlk, hKK⟩ := id Z
  have hK := hKK.1
  rw [f_X5_ahead] at h
  refine lv_aload_n hx hb dX5_ahead_0 rfl (lv_at hl 0 rfl) ?_
  refine va_get (D := D) (ci := 5) (v := .ref (o 1 0)) (C := RX5) (T := TX5) (N := 9) hx hb hts in_X5_ahead_X5 hown hK hP 0 rfl rfl 0 (by decide) (hts _ lk_X5_ahead_10) (fun _ h9 => h9) rfl dX5_ahead_1 ?_
  refine lv_iload_n hx hb dX5_ahead_4 rfl (lv_at hl 1 rfl) ?_
  obtain ⟨r1, hr1, h⟩ := bind_inv h
  refine kVN (rest := []) (st1 := [.int r1]) (cr := [w5 cA o κ, w2 cA (o 5) tr]) (cs' := [w5 cA o κ, w2 cA (o 1) nw, w2 cA (o 5) tr]) Z (c_X2_has l D cA (o 1) nw x1 r1 hr1) 1 gX5_ahead_X2_has_n68 rfl hdX2_has nk_X5_68 n1_X5_ahead_X2 n2_X5_ahead_X2_has n3_X5_ahead_X2_has ⟨rfl, rfl⟩ ⟨Nat.le_of_ble_eq_true rfl, Nat.le_of_ble_eq_true rfl⟩ ⟨Nat.zero_le _, Nat.zero_le _⟩ hP hD hS hl.1 rfl rfl rfl (Nat.le_of_ble_eq_true rfl) 2 rfl rfl rfl [1] [0, 2] [0, 2, 1] rfl rfl rfl rfl rfl dX5_ahead_5 (fun H locs hP hD hS => ?_)
  refine lv_if_eq (tgt := 21) hx hb dX5_ahead_8 (by decide) (fun hc2 => ?_) (fun hc2 => ?_)
  · rw [if_pos hc2] at h
    refine lv_iconst (v := (-1)) hx hb dX5_ahead_21 (by decide) ?_
    have h := Option.some.inj h
    subst h
    exact CT.iret Z hP hD hS dX5_ahead_22
  · rw [if_neg hc2] at h
    refine lv_iload_n hx hb dX5_ahead_11 rfl (lv_at hl 2 rfl) ?_
    refine lv_if_lt (tgt := 21) hx hb dX5_ahead_12 (by decide) (fun hc3 => ?_) (fun hc3 => ?_)
    · rw [if_pos hc3] at h
      refine lv_iconst (v := (-1)) hx hb dX5_ahead_21 (by decide) ?_
      have h := Option.some.inj h
      subst h
      exact CT.iret Z hP hD hS dX5_ahead_22
    · rw [if_neg hc3] at h
      refine lv_iload_n hx hb dX5_ahead_15 rfl (lv_at hl 2 rfl) ?_
      refine lv_bipush (v := 80) hx hb dX5_ahead_16 (by decide) ?_
      refine lv_icmp_le (tgt := 23) hx hb dX5_ahead_18 (by decide) (fun hc4 => ?_) (fun hc4 => ?_)
      · rw [if_pos hc4] at h
        refine lv_aload_n hx hb dX5_ahead_23 rfl (lv_at hl 0 rfl) ?_
        refine va_get (D := D) (ci := 5) (v := .ref (o 5 0)) (C := RX5) (T := TX5) (N := 9) hx hb hts in_X5_ahead_X5 hown hK hP 0 rfl rfl 5 (by decide) (hts _ lk_X5_ahead_33) (fun _ h9 => h9) rfl dX5_ahead_24 ?_
        refine lv_aload_n hx hb dX5_ahead_27 rfl (lv_at hl 0 rfl) ?_
        refine va_get (D := D) (ci := 5) (v := .ref (o 1 0)) (C := RX5) (T := TX5) (N := 9) hx hb hts in_X5_ahead_X5 hown hK hP 0 rfl rfl 0 (by decide) (hts _ lk_X5_ahead_10) (fun _ h9 => h9) rfl dX5_ahead_28 ?_
        refine kVN (rest := []) (st1 := []) (cr := [w5 cA o κ]) (cs' := [w5 cA o κ, w2 cA (o 1) nw, w2 cA (o 5) nw]) Z (c_become l D cA (o 5) (o 1) tr nw ) 1 gX5_ahead_X2_become_n115 rfl hdX2_become nk_X5_115 n1_X5_ahead_X2 n2_X5_ahead_X2_become n3_X5_ahead_X2_become ⟨rfl, rfl⟩ ⟨Nat.le_of_ble_eq_true rfl, Nat.le_of_ble_eq_true rfl⟩ ⟨Nat.zero_le _, Nat.zero_le _⟩ hP hD hS hl.1 rfl rfl rfl (Nat.le_of_ble_eq_true rfl) 2 rfl rfl rfl [2, 1] [0] [0, 2, 1] rfl rfl rfl rfl rfl dX5_ahead_31 (fun H locs hP hD hS => ?_)
        refine lv_aload_n hx hb dX5_ahead_34 rfl (lv_at hl 0 rfl) ?_
        refine va_get (D := D) (ci := 5) (v := .ref (o 5 0)) (C := RX5) (T := TX5) (N := 9) hx hb hts in_X5_ahead_X5 hown hK hP 0 rfl rfl 5 (by decide) (hts _ lk_X5_ahead_33) (fun _ h9 => h9) rfl dX5_ahead_35 ?_
        refine lv_iload_n hx hb dX5_ahead_38 rfl (lv_at hl 2 rfl) ?_
        obtain ⟨r6, hr6, h⟩ := bind_inv h
        refine kVN (rest := []) (st1 := []) (cr := [w5 cA o κ, w2 cA (o 1) nw]) (cs' := [w5 cA o κ, w2 cA (o 1) nw, w2 cA (o 5) r6]) Z (c_X2_passHours l D cA (o 5) nw x2 r6 hr6) 1 gX5_ahead_X2_passHours_n155 rfl hdX2_passHours nk_X5_155 n1_X5_ahead_X2 n2_X5_ahead_X2_passHours n3_X5_ahead_X2_passHours ⟨rfl, rfl⟩ ⟨Nat.le_of_ble_eq_true rfl, Nat.le_of_ble_eq_true rfl⟩ ⟨Nat.zero_le _, Nat.zero_le _⟩ hP hD hS hl.1 rfl rfl rfl (Nat.le_of_ble_eq_true rfl) 2 rfl rfl rfl [2] [0, 1] [0, 1, 2] rfl rfl rfl rfl rfl dX5_ahead_39 (fun H locs hP hD hS => ?_)
        refine lv_aload_n hx hb dX5_ahead_42 rfl (lv_at hl 0 rfl) ?_
        refine va_get (D := D) (ci := 5) (v := .ref (o 5 0)) (C := RX5) (T := TX5) (N := 9) hx hb hts in_X5_ahead_X5 hown hK hP 0 rfl rfl 5 (by decide) (hts _ lk_X5_ahead_33) (fun _ h9 => h9) rfl dX5_ahead_43 ?_
        refine va_getN (D := D) (ci := 2) (v := .ref (o 5 2)) (C := RX2) (T := TX2) (N := 7) hx hb hts in_X5_ahead_X2 hown hK hP 6 rfl rfl 2 (by decide) (nest_use rfl (hKK.2 _ nk_X5_76)) (fun _ h9 => h9) rfl dX5_ahead_46 ?_
        refine lv_iload_n hx hb dX5_ahead_49 rfl (lv_at hl 1 rfl) ?_
        obtain ⟨hg7, h⟩ := if_inv h
        refine va_iald hx hb hK hP 8 0 rfl rfl (inB_in hg7) dX5_ahead_50 ?_
        have h := Option.some.inj h
        subst h
        exact CT.iret Z hP hD hS dX5_ahead_51
      · rw [if_neg hc4] at h
        refine lv_iconst (v := (-1)) hx hb dX5_ahead_21 (by decide) ?_
        have h := Option.some.inj h
        subst h
        exact CT.iret Z hP hD hS dX5_ahead_22

-- X5.then
theorem lk_X5_then_33 : Cond.fieldLink RX5 33 "KeyedFeelings" "trial" "LKeyedFeelings$People;" ∈ wsX5_then := by decide +kernel
theorem in_X5_then_X5 : ∀ w ∈ wsX50, w ∈ wsX5_then := by decide +kernel
theorem lk_X5_then_10 : Cond.fieldLink RX5 10 "KeyedFeelings" "now" "LKeyedFeelings$People;" ∈ wsX5_then := by decide +kernel
theorem n1_X5_then_X2 : Cond.initialized RX2 ∈ wsX5_then := by decide +kernel
theorem n2_X5_then_X2_become : Cond.instanceMethod yX2_become ∈ wsX5_then := by decide +kernel
theorem n3_X5_then_X2_become : Cond.selects RX2 yX2_become yX2_become ∈ wsX5_then := by decide +kernel
theorem n2_X5_then_X2_passHours : Cond.instanceMethod yX2_passHours ∈ wsX5_then := by decide +kernel
theorem n3_X5_then_X2_passHours : Cond.selects RX2 yX2_passHours yX2_passHours ∈ wsX5_then := by decide +kernel
theorem n2_X5_then_X2_stopped : Cond.instanceMethod yX2_stopped ∈ wsX5_then := by decide +kernel
theorem n3_X5_then_X2_stopped : Cond.selects RX2 yX2_stopped yX2_stopped ∈ wsX5_then := by decide +kernel
noncomputable def f_X5_then (κ : St5) (nw : St2) (tr : St2) (x1 : Int32) : Option (Int32 × St2) := (if x1 < 0 then some ((-1), tr) else (if x1 ≤ 80 then ((f_X2_passHours nw x1).bind (fun r4 => ((f_X2_stopped r4).bind (fun r5 => some (r5, r4))))) else some ((-1), tr)))
noncomputable def rmX5_then : Room := { frames := 5, cells := 0, slots := 0, locals := 109 }
set_option maxHeartbeats 4000000 in
set_option maxRecDepth 100000 in
theorem c_X5_then (l : Launch) (D : va_G) (cA : Nat → ClassId) (o : Nat → Nat → Nat) (κ : St5) (nw : St2) (tr : St2) (x1 : Int32) (res : Int32 × St2) (h : f_X5_then κ nw tr x1 = some res) : CT l D cA yX5_then wsX5_then rmX5_then [.ref (o 0 0), .int x1] [w5 cA o κ, w2 cA (o 1) nw, w2 cA (o 5) tr] [w5 cA o κ, w2 cA (o 1) nw, w2 cA (o 5) res.2] (some (.int res.1)) := by
  refine CT.start (cc := cX5_then) (maxL := 2) (ret := (some .int)) (by decide) rfl (Nat.le_of_ble_eq_true rfl) ?_
  intro p e s m below meth c Z hP hD hS ls hl
  have Z : Cx p s m _ meth c cX5_then 2 (some .int) wsX5_then RX5 D cA := Z
  have hl : lv_has ls 2 [(0, .ref (o 0 0)), (1, .int x1)] := hl
  obtain ⟨hx, hb, hml, hown, hts, hr, hlk, hKK⟩ := id Z
  have hK := hKK.1
  rw [f_X5_then] at h
  refine lv_iload_n hx hb dX5_then_0 rfl (lv_at hl 1 rfl) ?_
  refine lv_if_lt (tgt := 10) hx hb dX5_then_1 (by decide) (fun hc1 => ?_) (fun hc1 => ?_)
  · rw [if_pos hc1] at h
    refine lv_iconst (v := (-1)) hx hb dX5_then_10 (by decide) ?_
    have h := Option.some.inj h
    subst h
    exact CT.iret Z hP hD hS dX5_then_11
  · rw [if_neg hc1] at h
    refine lv_iload_n hx hb dX5_then_4 rfl (lv_at hl 1 rfl) ?_
    refine lv_bipush (v := 80) hx hb dX5_then_5 (by decide) ?_
    refine lv_icmp_le (tgt := 12) hx hb dX5_then_7 (by decide) (fun hc2 => ?_) (fun hc2 => ?_)
    · rw [if_pos hc2] at h
      refine lv_aload_n hx hb dX5_then_12 rfl (lv_at hl 0 rfl) ?_
      refine va_get (D := D) (ci := 5) (v := .ref (o 5 0)) (C := RX5) (T := TX5) (N := 9) hx hb hts in_X5_then_X5 hown hK hP 0 rfl rfl 5 (by decide) (hts _ lk_X5_then_33) (fun _ h9 => h9) rfl dX5_then_13 ?_
      refine lv_aload_n hx hb dX5_then_16 rfl (lv_at hl 0 rfl) ?_
      refine va_get (D := D) (ci := 5) (v := .ref (o 1 0)) (C := RX5) (T := TX5) (N := 9) hx hb hts in_X5_then_X5 hown hK hP 0 rfl rfl 0 (by decide) (hts _ lk_X5_then_10) (fun _ h9 => h9) rfl dX5_then_17 ?_
      refine kVN (rest := []) (st1 := []) (cr := [w5 cA o κ]) (cs' := [w5 cA o κ, w2 cA (o 1) nw, w2 cA (o 5) nw]) Z (c_become l D cA (o 5) (o 1) tr nw ) 1 gX5_then_X2_become_n115 rfl hdX2_become nk_X5_115 n1_X5_then_X2 n2_X5_then_X2_become n3_X5_then_X2_become ⟨rfl, rfl⟩ ⟨Nat.le_of_ble_eq_true rfl, Nat.le_of_ble_eq_true rfl⟩ ⟨Nat.zero_le _, Nat.zero_le _⟩ hP hD hS hl.1 rfl rfl rfl (Nat.le_of_ble_eq_true rfl) 2 rfl rfl rfl [2, 1] [0] [0, 2, 1] rfl rfl rfl rfl rfl dX5_then_20 (fun H locs hP hD hS => ?_)
      refine lv_aload_n hx hb dX5_then_23 rfl (lv_at hl 0 rfl) ?_
      refine va_get (D := D) (ci := 5) (v := .ref (o 5 0)) (C := RX5) (T := TX5) (N := 9) hx hb hts in_X5_then_X5 hown hK hP 0 rfl rfl 5 (by decide) (hts _ lk_X5_then_33) (fun _ h9 => h9) rfl dX5_then_24 ?_
      refine lv_iload_n hx hb dX5_then_27 rfl (lv_at hl 1 rfl) ?_
      obtain ⟨r4, hr4, h⟩ := bind_inv h
      refine kVN (rest := []) (st1 := []) (cr := [w5 cA o κ, w2 cA (o 1) nw]) (cs' := [w5 cA o κ, w2 cA (o 1) nw, w2 cA (o 5) r4]) Z (c_X2_passHours l D cA (o 5) nw x1 r4 hr4) 1 gX5_then_X2_passHours_n155 rfl hdX2_passHours nk_X5_155 n1_X5_then_X2 n2_X5_then_X2_passHours n3_X5_then_X2_passHours ⟨rfl, rfl⟩ ⟨Nat.le_of_ble_eq_true rfl, Nat.le_of_ble_eq_true rfl⟩ ⟨Nat.zero_le _, Nat.zero_le _⟩ hP hD hS hl.1 rfl rfl rfl (Nat.le_of_ble_eq_true rfl) 2 rfl rfl rfl [2] [0, 1] [0, 1, 2] rfl rfl rfl rfl rfl dX5_then_28 (fun H locs hP hD hS => ?_)
      refine lv_aload_n hx hb dX5_then_31 rfl (lv_at hl 0 rfl) ?_
      refine va_get (D := D) (ci := 5) (v := .ref (o 5 0)) (C := RX5) (T := TX5) (N := 9) hx hb hts in_X5_then_X5 hown hK hP 0 rfl rfl 5 (by decide) (hts _ lk_X5_then_33) (fun _ h9 => h9) rfl dX5_then_32 ?_
      obtain ⟨r5, hr5, h⟩ := bind_inv h
      refine kVN (rest := []) (st1 := [.int r5]) (cr := [w5 cA o κ, w2 cA (o 1) nw]) (cs' := [w5 cA o κ, w2 cA (o 1) nw, w2 cA (o 5) r4]) Z (c_X2_stopped l D cA (o 5) r4 r5 hr5) 0 gX5_then_X2_stopped_n85 rfl hdX2_stopped nk_X5_85 n1_X5_then_X2 n2_X5_then_X2_stopped n3_X5_then_X2_stopped ⟨rfl, rfl⟩ ⟨Nat.le_of_ble_eq_true rfl, Nat.le_of_ble_eq_true rfl⟩ ⟨Nat.zero_le _, Nat.zero_le _⟩ hP hD hS hl.1 rfl rfl rfl (Nat.le_of_ble_eq_true rfl) 2 rfl rfl rfl [2] [0, 1] [0, 1, 2] rfl rfl rfl rfl rfl dX5_then_35 (fun H locs hP hD hS => ?_)
      have h := Option.some.inj h
      subst h
      exact CT.iret Z hP hD hS dX5_then_38
    · rw [if_neg hc2] at h
      refine lv_iconst (v := (-1)) hx hb dX5_then_10 (by decide) ?_
      have h := Option.some.inj h
      subst h
      exact CT.iret Z hP hD hS dX5_then_11

-- X5.stops
theorem lk_X5_stops_10 : Cond.fieldLink RX5 10 "KeyedFeelings" "now" "LKeyedFeelings$People;" ∈ wsX5_stops := by decide +kernel
theorem in_X5_stops_X5 : ∀ w ∈ wsX50, w ∈ wsX5_stops := by decide +kernel
theorem n1_X5_stops_X2 : Cond.initialized RX2 ∈ wsX5_stops := by decide +kernel
theorem n2_X5_stops_X2_has : Cond.instanceMethod yX2_has ∈ wsX5_stops := by decide +kernel
theorem n3_X5_stops_X2_has : Cond.selects RX2 yX2_has yX2_has ∈ wsX5_stops := by decide +kernel
theorem lk_X5_stops_33 : Cond.fieldLink RX5 33 "KeyedFeelings" "trial" "LKeyedFeelings$People;" ∈ wsX5_stops := by decide +kernel
theorem n2_X5_stops_X2_become : Cond.instanceMethod yX2_become ∈ wsX5_stops := by decide +kernel
theorem n3_X5_stops_X2_become : Cond.selects RX2 yX2_become yX2_become ∈ wsX5_stops := by decide +kernel
theorem n2_X5_stops_X2_passUntilStopped : Cond.instanceMethod yX2_passUntilStopped ∈ wsX5_stops := by decide +kernel
theorem n3_X5_stops_X2_passUntilStopped : Cond.selects RX2 yX2_passUntilStopped yX2_passUntilStopped ∈ wsX5_stops := by decide +kernel
noncomputable def f_X5_stops (κ : St5) (nw : St2) (tr : St2) (x1 : Int32) : Option (Int32 × St2) := ((f_X2_has nw x1).bind (fun r1 => (if r1 = 0 then some ((-1), tr) else ((f_X2_passUntilStopped nw (1 <<< (x1 &&& 31)) 80).bind (fun r4 => some (r4.1, r4.2))))))
noncomputable def rmX5_stops : Room := { frames := 5, cells := 0, slots := 0, locals := 110 }
set_option maxHeartbeats 4000000 in
set_option maxRecDepth 100000 in
theorem c_X5_stops (l : Launch) (D : va_G) (cA : Nat → ClassId) (o : Nat → Nat → Nat) (κ : St5) (nw : St2) (tr : St2) (x1 : Int32) (res : Int32 × St2) (h : f_X5_stops κ nw tr x1 = some res) : CT l D cA yX5_stops wsX5_stops rmX5_stops [.ref (o 0 0), .int x1] [w5 cA o κ, w2 cA (o 1) nw, w2 cA (o 5) tr] [w5 cA o κ, w2 cA (o 1) nw, w2 cA (o 5) res.2] (some (.int res.1)) := by
  refine CT.start (cc := cX5_stops) (maxL := 2) (ret := (some .int)) (by decide) rfl (Nat.le_of_ble_eq_true rfl) ?_
  intro p e s m below meth c Z hP hD hS ls hl
  have Z : Cx p s m _ meth c cX5_stops 2 (some .int) wsX5_stops RX5 D cA := Z
  have hl : lv_has ls 2 [(0, .ref (o 0 0)), (1, .int x1)] := hl
  obtain ⟨hx, hb, hml, hown, hts, hr, hlk, hKK⟩ := id Z
  have hK := hKK.1
  rw [f_X5_stops] at h
  refine lv_aload_n hx hb dX5_stops_0 rfl (lv_at hl 0 rfl) ?_
  refine va_get (D := D) (ci := 5) (v := .ref (o 1 0)) (C := RX5) (T := TX5) (N := 9) hx hb hts in_X5_stops_X5 hown hK hP 0 rfl rfl 0 (by decide) (hts _ lk_X5_stops_10) (fun _ h9 => h9) rfl dX5_stops_1 ?_
  refine lv_iload_n hx hb dX5_stops_4 rfl (lv_at hl 1 rfl) ?_
  obtain ⟨r1, hr1, h⟩ := bind_inv h
  refine kVN (rest := []) (st1 := [.int r1]) (cr := [w5 cA o κ, w2 cA (o 5) tr]) (cs' := [w5 cA o κ, w2 cA (o 1) nw, w2 cA (o 5) tr]) Z (c_X2_has l D cA (o 1) nw x1 r1 hr1) 1 gX5_stops_X2_has_n68 rfl hdX2_has nk_X5_68 n1_X5_stops_X2 n2_X5_stops_X2_has n3_X5_stops_X2_has ⟨rfl, rfl⟩ ⟨Nat.le_of_ble_eq_true rfl, Nat.le_of_ble_eq_true rfl⟩ ⟨Nat.zero_le _, Nat.zero_le _⟩ hP hD hS hl.1 rfl rfl rfl (Nat.le_of_ble_eq_true rfl) 2 rfl rfl rfl [1] [0, 2] [0, 2, 1] rfl rfl rfl rfl rfl dX5_stops_5 (fun H locs hP hD hS => ?_)
  refine lv_if_ne (tgt := 13) hx hb dX5_stops_8 (by decide) (fun hc2 => ?_) (fun hc2 => ?_)
  · rw [if_neg hc2] at h
    refine lv_aload_n hx hb dX5_stops_13 rfl (lv_at hl 0 rfl) ?_
    refine va_get (D := D) (ci := 5) (v := .ref (o 5 0)) (C := RX5) (T := TX5) (N := 9) hx hb hts in_X5_stops_X5 hown hK hP 0 rfl rfl 5 (by decide) (hts _ lk_X5_stops_33) (fun _ h9 => h9) rfl dX5_stops_14 ?_
    refine lv_aload_n hx hb dX5_stops_17 rfl (lv_at hl 0 rfl) ?_
    refine va_get (D := D) (ci := 5) (v := .ref (o 1 0)) (C := RX5) (T := TX5) (N := 9) hx hb hts in_X5_stops_X5 hown hK hP 0 rfl rfl 0 (by decide) (hts _ lk_X5_stops_10) (fun _ h9 => h9) rfl dX5_stops_18 ?_
    refine kVN (rest := []) (st1 := []) (cr := [w5 cA o κ]) (cs' := [w5 cA o κ, w2 cA (o 1) nw, w2 cA (o 5) nw]) Z (c_become l D cA (o 5) (o 1) tr nw ) 1 gX5_stops_X2_become_n115 rfl hdX2_become nk_X5_115 n1_X5_stops_X2 n2_X5_stops_X2_become n3_X5_stops_X2_become ⟨rfl, rfl⟩ ⟨Nat.le_of_ble_eq_true rfl, Nat.le_of_ble_eq_true rfl⟩ ⟨Nat.zero_le _, Nat.zero_le _⟩ hP hD hS hl.1 rfl rfl rfl (Nat.le_of_ble_eq_true rfl) 2 rfl rfl rfl [2, 1] [0] [0, 2, 1] rfl rfl rfl rfl rfl dX5_stops_21 (fun H locs hP hD hS => ?_)
    refine lv_aload_n hx hb dX5_stops_24 rfl (lv_at hl 0 rfl) ?_
    refine va_get (D := D) (ci := 5) (v := .ref (o 5 0)) (C := RX5) (T := TX5) (N := 9) hx hb hts in_X5_stops_X5 hown hK hP 0 rfl rfl 5 (by decide) (hts _ lk_X5_stops_33) (fun _ h9 => h9) rfl dX5_stops_25 ?_
    refine lv_iconst (v := 1) hx hb dX5_stops_28 (by decide) ?_
    refine lv_iload_n hx hb dX5_stops_29 rfl (lv_at hl 1 rfl) ?_
    refine lv_ishl hx hb dX5_stops_30 ?_
    refine lv_bipush (v := 80) hx hb dX5_stops_31 (by decide) ?_
    obtain ⟨r4, hr4, h⟩ := bind_inv h
    refine kVN (rest := []) (st1 := [.int r4.1]) (cr := [w5 cA o κ, w2 cA (o 1) nw]) (cs' := [w5 cA o κ, w2 cA (o 1) nw, w2 cA (o 5) r4.2]) Z (c_X2_passUntilStopped l D cA (o 5) nw (1 <<< (x1 &&& 31)) 80 r4 hr4) 2 gX5_stops_X2_passUntilStopped_n159 rfl hdX2_passUntilStopped nk_X5_159 n1_X5_stops_X2 n2_X5_stops_X2_passUntilStopped n3_X5_stops_X2_passUntilStopped ⟨rfl, rfl⟩ ⟨Nat.le_of_ble_eq_true rfl, Nat.le_of_ble_eq_true rfl⟩ ⟨Nat.zero_le _, Nat.zero_le _⟩ hP hD hS hl.1 rfl rfl rfl (Nat.le_of_ble_eq_true rfl) 2 rfl rfl rfl [2] [0, 1] [0, 1, 2] rfl rfl rfl rfl rfl dX5_stops_33 (fun H locs hP hD hS => ?_)
    have h := Option.some.inj h
    subst h
    exact CT.iret Z hP hD hS dX5_stops_36
  · rw [if_pos hc2] at h
    refine lv_iconst (v := (-1)) hx hb dX5_stops_11 (by decide) ?_
    have h := Option.some.inj h
    subst h
    exact CT.iret Z hP hD hS dX5_stops_12

-- X5.all
theorem lk_X5_all_33 : Cond.fieldLink RX5 33 "KeyedFeelings" "trial" "LKeyedFeelings$People;" ∈ wsX5_all := by decide +kernel
theorem in_X5_all_X5 : ∀ w ∈ wsX50, w ∈ wsX5_all := by decide +kernel
theorem lk_X5_all_10 : Cond.fieldLink RX5 10 "KeyedFeelings" "now" "LKeyedFeelings$People;" ∈ wsX5_all := by decide +kernel
theorem n1_X5_all_X2 : Cond.initialized RX2 ∈ wsX5_all := by decide +kernel
theorem n2_X5_all_X2_become : Cond.instanceMethod yX2_become ∈ wsX5_all := by decide +kernel
theorem n3_X5_all_X2_become : Cond.selects RX2 yX2_become yX2_become ∈ wsX5_all := by decide +kernel
theorem n2_X5_all_X2_everybody : Cond.instanceMethod yX2_everybody ∈ wsX5_all := by decide +kernel
theorem n3_X5_all_X2_everybody : Cond.selects RX2 yX2_everybody yX2_everybody ∈ wsX5_all := by decide +kernel
theorem n2_X5_all_X2_passUntilStopped : Cond.instanceMethod yX2_passUntilStopped ∈ wsX5_all := by decide +kernel
theorem n3_X5_all_X2_passUntilStopped : Cond.selects RX2 yX2_passUntilStopped yX2_passUntilStopped ∈ wsX5_all := by decide +kernel
noncomputable def f_X5_all (κ : St5) (nw : St2) (tr : St2) : Option (Int32 × St2) := ((f_X2_everybody nw).bind (fun r2 => ((f_X2_passUntilStopped nw r2 80).bind (fun r3 => some (r3.1, r3.2)))))
noncomputable def rmX5_all : Room := { frames := 5, cells := 0, slots := 0, locals := 110 }
set_option maxHeartbeats 4000000 in
set_option maxRecDepth 100000 in
theorem c_X5_all (l : Launch) (D : va_G) (cA : Nat → ClassId) (o : Nat → Nat → Nat) (κ : St5) (nw : St2) (tr : St2) (res : Int32 × St2) (h : f_X5_all κ nw tr = some res) : CT l D cA yX5_all wsX5_all rmX5_all [.ref (o 0 0)] [w5 cA o κ, w2 cA (o 1) nw, w2 cA (o 5) tr] [w5 cA o κ, w2 cA (o 1) nw, w2 cA (o 5) res.2] (some (.int res.1)) := by
  refine CT.start (cc := cX5_all) (maxL := 1) (ret := (some .int)) (by decide) rfl (Nat.le_of_ble_eq_true rfl) ?_
  intro p e s m below meth c Z hP hD hS ls hl
  have Z : Cx p s m _ meth c cX5_all 1 (some .int) wsX5_all RX5 D cA := Z
  have hl : lv_has ls 1 [(0, .ref (o 0 0))] := hl
  obtain ⟨hx, hb, hml, hown, hts, hr, hlk, hKK⟩ := id Z
  have hK := hKK.1
  rw [f_X5_all] at h
  refine lv_aload_n hx hb dX5_all_0 rfl (lv_at hl 0 rfl) ?_
  refine va_get (D := D) (ci := 5) (v := .ref (o 5 0)) (C := RX5) (T := TX5) (N := 9) hx hb hts in_X5_all_X5 hown hK hP 0 rfl rfl 5 (by decide) (hts _ lk_X5_all_33) (fun _ h9 => h9) rfl dX5_all_1 ?_
  refine lv_aload_n hx hb dX5_all_4 rfl (lv_at hl 0 rfl) ?_
  refine va_get (D := D) (ci := 5) (v := .ref (o 1 0)) (C := RX5) (T := TX5) (N := 9) hx hb hts in_X5_all_X5 hown hK hP 0 rfl rfl 0 (by decide) (hts _ lk_X5_all_10) (fun _ h9 => h9) rfl dX5_all_5 ?_
  refine kVN (rest := []) (st1 := []) (cr := [w5 cA o κ]) (cs' := [w5 cA o κ, w2 cA (o 1) nw, w2 cA (o 5) nw]) Z (c_become l D cA (o 5) (o 1) tr nw ) 1 gX5_all_X2_become_n115 rfl hdX2_become nk_X5_115 n1_X5_all_X2 n2_X5_all_X2_become n3_X5_all_X2_become ⟨rfl, rfl⟩ ⟨Nat.le_of_ble_eq_true rfl, Nat.le_of_ble_eq_true rfl⟩ ⟨Nat.zero_le _, Nat.zero_le _⟩ hP hD hS hl.1 rfl rfl rfl (Nat.le_of_ble_eq_true rfl) 2 rfl rfl rfl [2, 1] [0] [0, 2, 1] rfl rfl rfl rfl rfl dX5_all_8 (fun H locs hP hD hS => ?_)
  refine lv_aload_n hx hb dX5_all_11 rfl (lv_at hl 0 rfl) ?_
  refine va_get (D := D) (ci := 5) (v := .ref (o 5 0)) (C := RX5) (T := TX5) (N := 9) hx hb hts in_X5_all_X5 hown hK hP 0 rfl rfl 5 (by decide) (hts _ lk_X5_all_33) (fun _ h9 => h9) rfl dX5_all_12 ?_
  refine lv_aload_n hx hb dX5_all_15 rfl (lv_at hl 0 rfl) ?_
  refine va_get (D := D) (ci := 5) (v := .ref (o 1 0)) (C := RX5) (T := TX5) (N := 9) hx hb hts in_X5_all_X5 hown hK hP 0 rfl rfl 0 (by decide) (hts _ lk_X5_all_10) (fun _ h9 => h9) rfl dX5_all_16 ?_
  obtain ⟨r2, hr2, h⟩ := bind_inv h
  refine kVN (rest := [.ref (o 5 0)]) (st1 := [.int r2, .ref (o 5 0)]) (cr := [w5 cA o κ, w2 cA (o 5) nw]) (cs' := [w5 cA o κ, w2 cA (o 1) nw, w2 cA (o 5) nw]) Z (c_X2_everybody l D cA (o 1) nw r2 hr2) 0 gX5_all_X2_everybody_n162 rfl hdX2_everybody nk_X5_162 n1_X5_all_X2 n2_X5_all_X2_everybody n3_X5_all_X2_everybody ⟨rfl, rfl⟩ ⟨Nat.le_of_ble_eq_true rfl, Nat.le_of_ble_eq_true rfl⟩ ⟨Nat.zero_le _, Nat.zero_le _⟩ hP hD hS hl.1 rfl rfl rfl (Nat.le_of_ble_eq_true rfl) 2 rfl rfl rfl [1] [0, 2] [0, 2, 1] rfl rfl rfl rfl rfl dX5_all_19 (fun H locs hP hD hS => ?_)
  refine lv_bipush (v := 80) hx hb dX5_all_22 (by decide) ?_
  obtain ⟨r3, hr3, h⟩ := bind_inv h
  refine kVN (rest := []) (st1 := [.int r3.1]) (cr := [w5 cA o κ, w2 cA (o 1) nw]) (cs' := [w5 cA o κ, w2 cA (o 1) nw, w2 cA (o 5) r3.2]) Z (c_X2_passUntilStopped l D cA (o 5) nw r2 80 r3 hr3) 2 gX5_all_X2_passUntilStopped_n159 rfl hdX2_passUntilStopped nk_X5_159 n1_X5_all_X2 n2_X5_all_X2_passUntilStopped n3_X5_all_X2_passUntilStopped ⟨rfl, rfl⟩ ⟨Nat.le_of_ble_eq_true rfl, Nat.le_of_ble_eq_true rfl⟩ ⟨Nat.zero_le _, Nat.zero_le _⟩ hP hD hS hl.1 rfl rfl rfl (Nat.le_of_ble_eq_true rfl) 2 rfl rfl rfl [2] [0, 1] [0, 1, 2] rfl rfl rfl rfl rfl dX5_all_24 (fun H locs hP hD hS => ?_)
  have h := Option.some.inj h
  subst h
  exact CT.iret Z hP hD hS dX5_all_27

-- X5.ever
theorem lk_X5_ever_33 : Cond.fieldLink RX5 33 "KeyedFeelings" "trial" "LKeyedFeelings$People;" ∈ wsX5_ever := by decide +kernel
theorem in_X5_ever_X5 : ∀ w ∈ wsX50, w ∈ wsX5_ever := by decide +kernel
theorem lk_X5_ever_10 : Cond.fieldLink RX5 10 "KeyedFeelings" "now" "LKeyedFeelings$People;" ∈ wsX5_ever := by decide +kernel
theorem n1_X5_ever_X2 : Cond.initialized RX2 ∈ wsX5_ever := by decide +kernel
theorem n2_X5_ever_X2_become : Cond.instanceMethod yX2_become ∈ wsX5_ever := by decide +kernel
theorem n3_X5_ever_X2_become : Cond.selects RX2 yX2_become yX2_become ∈ wsX5_ever := by decide +kernel
theorem n2_X5_ever_X2_stopped : Cond.instanceMethod yX2_stopped ∈ wsX5_ever := by decide +kernel
theorem n3_X5_ever_X2_stopped : Cond.selects RX2 yX2_stopped yX2_stopped ∈ wsX5_ever := by decide +kernel
theorem n2_X5_ever_X2_passHour : Cond.instanceMethod yX2_passHour ∈ wsX5_ever := by decide +kernel
theorem n3_X5_ever_X2_passHour : Cond.selects RX2 yX2_passHour yX2_passHour ∈ wsX5_ever := by decide +kernel
noncomputable def lp_X5_ever_21 (κ : St5) (nw : St2) : Nat → Int32 → Int32 → St2 → Option (Int32 × Int32 × St2)
  | 0, _, _, _ => none
  | n + 1, x1, x2, tr => (if 80 ≤ x2 then some (x1, x2, tr) else ((f_X2_passHour tr).bind (fun r4 => ((f_X2_stopped r4).bind (fun r5 => lp_X5_ever_21 κ nw n (x1 ||| r5) (x2 + 1) r4)))))
noncomputable def f_X5_ever (κ : St5) (nw : St2) (tr : St2) : Option (Int32 × St2) := ((f_X2_stopped nw).bind (fun r2 => ((lp_X5_ever_21 κ nw FU r2 0 nw).bind (fun q6 => some (q6.1, q6.2.2)))))
noncomputable def rmX5_ever : Room := { frames := 4, cells := 0, slots := 0, locals := 87 }
set_option maxHeartbeats 4000000 in
set_option maxRecDepth 100000 in
theorem t_X5_ever_21 {p : Program} {l : Launch} {e : Env} {s : State} {m : MethodId} {args : Array Value} {below : List Frame} {meth : Method} {c : Code} {D : va_G} {cA : Nat → ClassId} {A0 : Nat → Prop} {H0 : Heap} {o : Nat → Nat → Nat} (Z : Cx p s m args meth c cX5_ever 3 (some .int) wsX5_ever RX5 D cA) (κ : St5) (nw : St2) {Q : State → Prop} : ∀ (n : Nat) (x1 : Int32) (x2 : Int32) (tr : St2) (q : Int32 × Int32 × St2), lp_X5_ever_21 κ nw n x1 x2 tr = some q → ∀ (H : Heap) (locs : List Loc) (ls : Array Slot), va_P D vwCl ([w5 cA o κ, w2 cA (o 1) nw, w2 cA (o 5) tr] : List va_W).flatten H → va_D A0 ([w5 cA o κ, w2 cA (o 1) nw, w2 cA (o 5) tr] : List va_W).flatten → va_S A0 H0 H locs → lv_has ls 3 [(0, .ref (o 0 0)), (1, .int x1), (2, .int x2)] → (∀ (H : Heap) (locs : List Loc) (ls : Array Slot), va_P D vwCl ([w5 cA o κ, w2 cA (o 1) nw, w2 cA (o 5) q.2.2] : List va_W).flatten H → va_D A0 ([w5 cA o κ, w2 cA (o 1) nw, w2 cA (o 5) q.2.2] : List va_W).flatten → va_S A0 H0 H locs → lv_has ls 3 [(0, .ref (o 0 0)), (1, .int q.1), (2, .int q.2.1)] → W p l e rmX5_ever s m args below meth c H locs 0 0 Q (F0 m 50 ls [])) → W p l e rmX5_ever s m args below meth c H locs 0 0 Q (F0 m 21 ls []) := by
  obtain ⟨hx, hb, hml, hown, hts, hr, hlk, hKK⟩ := id Z
  have hK := hKK.1
  intro n
  induction n with
  | zero =>
    intro x1 x2 tr q h
    rw [lp_X5_ever_21] at h
    cases h
  | succ n ih =>
    intro x1 x2 tr q h H locs ls hP hD hS hl kk
    rw [lp_X5_ever_21] at h
    refine lv_iload_n hx hb dX5_ever_21 rfl (lv_at hl 2 rfl) ?_
    refine lv_bipush (v := 80) hx hb dX5_ever_22 (by decide) ?_
    refine lv_icmp_ge (tgt := 50) hx hb dX5_ever_24 (by decide) (fun hc3 => ?_) (fun hc3 => ?_)
    · rw [if_pos hc3] at h
      have h := Option.some.inj h
      subst h
      exact kk _ _ _ hP hD hS (lv_sub hl [0, 1, 2] rfl)
    · rw [if_neg hc3] at h
      refine lv_aload_n hx hb dX5_ever_27 rfl (lv_at hl 0 rfl) ?_
      refine va_get (D := D) (ci := 5) (v := .ref (o 5 0)) (C := RX5) (T := TX5) (N := 9) hx hb hts in_X5_ever_X5 hown hK hP 0 rfl rfl 5 (by decide) (hts _ lk_X5_ever_33) (fun _ h9 => h9) rfl dX5_ever_28 ?_
      obtain ⟨r4, hr4, h⟩ := bind_inv h
      refine kVN (rest := []) (st1 := []) (cr := [w5 cA o κ, w2 cA (o 1) nw]) (cs' := [w5 cA o κ, w2 cA (o 1) nw, w2 cA (o 5) r4]) Z (c_X2_passHour l D cA (o 5) tr r4 hr4) 0 gX5_ever_X2_passHour_n152 rfl hdX2_passHour nk_X5_152 n1_X5_ever_X2 n2_X5_ever_X2_passHour n3_X5_ever_X2_passHour ⟨rfl, rfl⟩ ⟨Nat.le_of_ble_eq_true rfl, Nat.le_of_ble_eq_true rfl⟩ ⟨Nat.zero_le _, Nat.zero_le _⟩ hP hD hS hl.1 rfl rfl rfl (Nat.le_of_ble_eq_true rfl) 2 rfl rfl rfl [2] [0, 1] [0, 1, 2] rfl rfl rfl rfl rfl dX5_ever_31 (fun H locs hP hD hS => ?_)
      refine lv_iload_n hx hb dX5_ever_34 rfl (lv_at hl 1 rfl) ?_
      refine lv_aload_n hx hb dX5_ever_35 rfl (lv_at hl 0 rfl) ?_
      refine va_get (D := D) (ci := 5) (v := .ref (o 5 0)) (C := RX5) (T := TX5) (N := 9) hx hb hts in_X5_ever_X5 hown hK hP 0 rfl rfl 5 (by decide) (hts _ lk_X5_ever_33) (fun _ h9 => h9) rfl dX5_ever_36 ?_
      obtain ⟨r5, hr5, h⟩ := bind_inv h
      refine kVN (rest := [.int x1]) (st1 := [.int r5, .int x1]) (cr := [w5 cA o κ, w2 cA (o 1) nw]) (cs' := [w5 cA o κ, w2 cA (o 1) nw, w2 cA (o 5) r4]) Z (c_X2_stopped l D cA (o 5) r4 r5 hr5) 0 gX5_ever_X2_stopped_n85 rfl hdX2_stopped nk_X5_85 n1_X5_ever_X2 n2_X5_ever_X2_stopped n3_X5_ever_X2_stopped ⟨rfl, rfl⟩ ⟨Nat.le_of_ble_eq_true rfl, Nat.le_of_ble_eq_true rfl⟩ ⟨Nat.zero_le _, Nat.zero_le _⟩ hP hD hS hl.1 rfl rfl rfl (Nat.le_of_ble_eq_true rfl) 2 rfl rfl rfl [2] [0, 1] [0, 1, 2] rfl rfl rfl rfl rfl dX5_ever_39 (fun H locs hP hD hS => ?_)
      refine lv_ior hx hb dX5_ever_42 ?_
      refine lv_istore_n (lv' := [(1, .int (x1 ||| r5)), (0, .ref (o 0 0)), (2, .int x2)]) hx hb dX5_ever_43 rfl hl (by decide) rfl (fun ls hl => ?_)
      refine lv_iinc (v := x2 + 1) (lv' := [(2, .int (x2 + 1)), (1, .int (x1 ||| r5)), (0, .ref (o 0 0))]) hx hb dX5_ever_44 hl (k := 2) rfl rfl (by decide) rfl (fun ls hl => ?_)
      refine lv_goto (tgt := 21) hx hb dX5_ever_47 (by decide) ?_
      exact ih _ _ _ _ h _ _ _ hP hD hS (lv_sub hl [2, 1, 0] rfl) kk
set_option maxHeartbeats 4000000 in
set_option maxRecDepth 100000 in
theorem c_X5_ever (l : Launch) (D : va_G) (cA : Nat → ClassId) (o : Nat → Nat → Nat) (κ : St5) (nw : St2) (tr : St2) (res : Int32 × St2) (h : f_X5_ever κ nw tr = some res) : CT l D cA yX5_ever wsX5_ever rmX5_ever [.ref (o 0 0)] [w5 cA o κ, w2 cA (o 1) nw, w2 cA (o 5) tr] [w5 cA o κ, w2 cA (o 1) nw, w2 cA (o 5) res.2] (some (.int res.1)) := by
  refine CT.start (cc := cX5_ever) (maxL := 3) (ret := (some .int)) (by decide) rfl (Nat.le_of_ble_eq_true rfl) ?_
  intro p e s m below meth c Z hP hD hS ls hl
  have Z : Cx p s m _ meth c cX5_ever 3 (some .int) wsX5_ever RX5 D cA := Z
  have hl : lv_has ls 3 [(0, .ref (o 0 0))] := hl
  obtain ⟨hx, hb, hml, hown, hts, hr, hlk, hKK⟩ := id Z
  have hK := hKK.1
  rw [f_X5_ever] at h
  refine lv_aload_n hx hb dX5_ever_0 rfl (lv_at hl 0 rfl) ?_
  refine va_get (D := D) (ci := 5) (v := .ref (o 5 0)) (C := RX5) (T := TX5) (N := 9) hx hb hts in_X5_ever_X5 hown hK hP 0 rfl rfl 5 (by decide) (hts _ lk_X5_ever_33) (fun _ h9 => h9) rfl dX5_ever_1 ?_
  refine lv_aload_n hx hb dX5_ever_4 rfl (lv_at hl 0 rfl) ?_
  refine va_get (D := D) (ci := 5) (v := .ref (o 1 0)) (C := RX5) (T := TX5) (N := 9) hx hb hts in_X5_ever_X5 hown hK hP 0 rfl rfl 0 (by decide) (hts _ lk_X5_ever_10) (fun _ h9 => h9) rfl dX5_ever_5 ?_
  refine kVN (rest := []) (st1 := []) (cr := [w5 cA o κ]) (cs' := [w5 cA o κ, w2 cA (o 1) nw, w2 cA (o 5) nw]) Z (c_become l D cA (o 5) (o 1) tr nw ) 1 gX5_ever_X2_become_n115 rfl hdX2_become nk_X5_115 n1_X5_ever_X2 n2_X5_ever_X2_become n3_X5_ever_X2_become ⟨rfl, rfl⟩ ⟨Nat.le_of_ble_eq_true rfl, Nat.le_of_ble_eq_true rfl⟩ ⟨Nat.zero_le _, Nat.zero_le _⟩ hP hD hS hl.1 rfl rfl rfl (Nat.le_of_ble_eq_true rfl) 2 rfl rfl rfl [2, 1] [0] [0, 2, 1] rfl rfl rfl rfl rfl dX5_ever_8 (fun H locs hP hD hS => ?_)
  refine lv_aload_n hx hb dX5_ever_11 rfl (lv_at hl 0 rfl) ?_
  refine va_get (D := D) (ci := 5) (v := .ref (o 5 0)) (C := RX5) (T := TX5) (N := 9) hx hb hts in_X5_ever_X5 hown hK hP 0 rfl rfl 5 (by decide) (hts _ lk_X5_ever_33) (fun _ h9 => h9) rfl dX5_ever_12 ?_
  obtain ⟨r2, hr2, h⟩ := bind_inv h
  refine kVN (rest := []) (st1 := [.int r2]) (cr := [w5 cA o κ, w2 cA (o 1) nw]) (cs' := [w5 cA o κ, w2 cA (o 1) nw, w2 cA (o 5) nw]) Z (c_X2_stopped l D cA (o 5) nw r2 hr2) 0 gX5_ever_X2_stopped_n85 rfl hdX2_stopped nk_X5_85 n1_X5_ever_X2 n2_X5_ever_X2_stopped n3_X5_ever_X2_stopped ⟨rfl, rfl⟩ ⟨Nat.le_of_ble_eq_true rfl, Nat.le_of_ble_eq_true rfl⟩ ⟨Nat.zero_le _, Nat.zero_le _⟩ hP hD hS hl.1 rfl rfl rfl (Nat.le_of_ble_eq_true rfl) 2 rfl rfl rfl [2] [0, 1] [0, 1, 2] rfl rfl rfl rfl rfl dX5_ever_15 (fun H locs hP hD hS => ?_)
  refine lv_istore_n (lv' := [(1, .int r2), (0, .ref (o 0 0))]) hx hb dX5_ever_18 rfl hl (by decide) rfl (fun ls hl => ?_)
  refine lv_iconst (v := 0) hx hb dX5_ever_19 (by decide) ?_
  refine lv_istore_n (lv' := [(2, .int 0), (1, .int r2), (0, .ref (o 0 0))]) hx hb dX5_ever_20 rfl hl (by decide) rfl (fun ls hl => ?_)
  obtain ⟨q6, hq6, h⟩ := bind_inv h
  refine t_X5_ever_21 Z κ nw FU _ _ _ _ hq6 _ _ _ hP hD hS (lv_sub hl [2, 1, 0] rfl) (fun H locs ls hP hD hS hl => ?_)
  refine lv_iload_n hx hb dX5_ever_50 rfl (lv_at hl 1 rfl) ?_
  have h := Option.some.inj h
  subst h
  exact CT.iret Z hP hD hS dX5_ever_51

