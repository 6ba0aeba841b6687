-- X4.letterHere
theorem lk_X4_letterHere_19 : Cond.fieldLink RX4 19 "KeyedFeelings$Tape" "place" "I" ∈ wsX4_letterHere := by decide +kernel
theorem in_X4_letterHere_X4 : ∀ w ∈ wsX40, w ∈ wsX4_letterHere := by decide +kernel
theorem lk_X4_letterHere_15 : Cond.fieldLink RX4 15 "KeyedFeelings$Tape" "size" "I" ∈ wsX4_letterHere := by decide +kernel
theorem lk_X4_letterHere_11 : Cond.fieldLink RX4 11 "KeyedFeelings$Tape" "letters" "[I" ∈ wsX4_letterHere := by decide +kernel
noncomputable def lp_X4_letterHere_0  : Nat → St4 → Option (St4)
  | 0, _ => none
  | n + 1, σ => (if (p4_size σ) ≤ (p4_place σ) then some σ else (if inB (p4_place σ) 60 = true then (if ((p4_letters σ) (p4_place σ).toNatClampNeg) = 32 then lp_X4_letterHere_0  n (s4_place σ ((p4_place σ) + 1)) else some σ) else none))
noncomputable def f_X4_letterHere (σ : St4) : Option (Int32 × St4) := ((lp_X4_letterHere_0  FU σ).bind (fun q4 => (if (p4_size q4) ≤ (p4_place q4) then some ((-1), q4) else (if inB (p4_place q4) 60 = true then some ((p4_letters q4) (p4_place q4).toNatClampNeg, q4) else none))))
noncomputable def rmX4_letterHere : Room := { frames := 0, cells := 0, slots := 0, locals := 0 }
set_option maxHeartbeats 4000000 in
set_option maxRecDepth 100000 in
theorem t_X4_letterHere_0 {p : Program} {l : Launch} {e : Env} {s : State} {m : MethodId} {args : Array Value} {below : List Frame} {meth : Method} {c : Code} {D : va_G} {cA : Nat → ClassId} {A0 : Nat → Prop} {H0 : Heap} {a : Nat → Nat} (Z : Cx p s m args meth c cX4_letterHere 1 (some .int) wsX4_letterHere RX4 D cA)  {Q : State → Prop} : ∀ (n : Nat) (σ : St4) (q : St4), lp_X4_letterHere_0  n σ = some q → ∀ (H : Heap) (locs : List Loc) (ls : Array Slot), va_P D vwCl ([w4 cA a σ] : List va_W).flatten H → va_D A0 ([w4 cA a σ] : List va_W).flatten → va_S A0 H0 H locs → lv_has ls 1 [(0, .ref (a 0))] → (∀ (H : Heap) (locs : List Loc) (ls : Array Slot), va_P D vwCl ([w4 cA a q] : List va_W).flatten H → va_D A0 ([w4 cA a q] : List va_W).flatten → va_S A0 H0 H locs → lv_has ls 1 [(0, .ref (a 0))] → W p l e rmX4_letterHere s m args below meth c H locs 0 0 Q (F0 m 38 ls [])) → W p l e rmX4_letterHere s m args below meth c H locs 0 0 Q (F0 m 0 ls []) := by
  obtain ⟨hx, hb, hml, hown, hts, hr, hlk, hKK⟩ := id Z
  have hK := hKK.1
  intro n
  induction n with
  | zero =>
    intro σ q h
    rw [lp_X4_letterHere_0] at h
    cases h
  | succ n ih =>
    intro σ q h H locs ls hP hD hS hl kk
    rw [lp_X4_letterHere_0] at h
    refine lv_aload_n hx hb dX4_letterHere_0 rfl (lv_at hl 0 rfl) ?_
    refine va_get (D := D) (ci := 4) (v := .int (p4_place σ)) (C := RX4) (T := TX4) (N := 3) hx hb hts in_X4_letterHere_X4 hown hK hP 0 rfl rfl 2 (by decide) (hts _ lk_X4_letterHere_19) (fun _ h9 => h9) rfl dX4_letterHere_1 ?_
    refine lv_aload_n hx hb dX4_letterHere_4 rfl (lv_at hl 0 rfl) ?_
    refine va_get (D := D) (ci := 4) (v := .int (p4_size σ)) (C := RX4) (T := TX4) (N := 3) hx hb hts in_X4_letterHere_X4 hown hK hP 0 rfl rfl 1 (by decide) (hts _ lk_X4_letterHere_15) (fun _ h9 => h9) rfl dX4_letterHere_5 ?_
    refine lv_icmp_ge (tgt := 38) hx hb dX4_letterHere_8 (by decide) (fun hc1 => ?_) (fun hc1 => ?_)
    · rw [if_pos hc1] at h
      have h := Option.some.inj h
      subst h
      exact kk _ _ _ hP hD hS (lv_sub hl [0] rfl)
    · rw [if_neg hc1] at h
      refine lv_aload_n hx hb dX4_letterHere_11 rfl (lv_at hl 0 rfl) ?_
      refine va_get (D := D) (ci := 4) (v := .ref (a 1)) (C := RX4) (T := TX4) (N := 3) hx hb hts in_X4_letterHere_X4 hown hK hP 0 rfl rfl 0 (by decide) (hts _ lk_X4_letterHere_11) (fun _ h9 => h9) rfl dX4_letterHere_12 ?_
      refine lv_aload_n hx hb dX4_letterHere_15 rfl (lv_at hl 0 rfl) ?_
      refine va_get (D := D) (ci := 4) (v := .int (p4_place σ)) (C := RX4) (T := TX4) (N := 3) hx hb hts in_X4_letterHere_X4 hown hK hP 0 rfl rfl 2 (by decide) (hts _ lk_X4_letterHere_19) (fun _ h9 => h9) rfl dX4_letterHere_16 ?_
      obtain ⟨hg2, h⟩ := if_inv h
      refine va_iald hx hb hK hP 1 0 rfl rfl (inB_in hg2) dX4_letterHere_19 ?_
      refine lv_bipush (v := 32) hx hb dX4_letterHere_20 (by decide) ?_
      refine lv_icmp_ne (tgt := 38) hx hb dX4_letterHere_22 (by decide) (fun hc3 => ?_) (fun hc3 => ?_)
      · rw [if_neg hc3] at h
        have h := Option.some.inj h
        subst h
        exact kk _ _ _ hP hD hS (lv_sub hl [0] rfl)
      · rw [if_pos hc3] at h
        refine lv_aload_n hx hb dX4_letterHere_25 rfl (lv_at hl 0 rfl) ?_
        refine lv_dup hx hb dX4_letterHere_26 rfl ?_
        refine va_get (D := D) (ci := 4) (v := .int (p4_place σ)) (C := RX4) (T := TX4) (N := 3) hx hb hts in_X4_letterHere_X4 hown hK hP 0 rfl rfl 2 (by decide) (hts _ lk_X4_letterHere_19) (fun _ h9 => h9) rfl dX4_letterHere_27 ?_
        refine lv_iconst (v := 1) hx hb dX4_letterHere_30 (by decide) ?_
        refine lv_iadd hx hb dX4_letterHere_31 ?_
        refine va_put (D := D) (ci := 4) (v := .int ((p4_place σ) + 1)) (ty := .int) (C := RX4) (T := TX4) (N := 3) hx hb hts in_X4_letterHere_X4 tyX4 tyX4_ok nmX4 hown hK hP hD hS 0 rfl rfl 2 (by decide) (hts _ lk_X4_letterHere_19) (fun _ h9 => h9) rfl (tyX4_ok 2 (by decide)) rfl rfl (Nat.le_of_ble_eq_true rfl) dX4_letterHere_32 (fun H locs hP hD hS => ?_)
        have hP : va_P D vwCl ([w4 cA a (s4_place σ ((p4_place σ) + 1))] : List va_W).flatten H := hP
        have hD : va_D _ ([w4 cA a (s4_place σ ((p4_place σ) + 1))] : List va_W).flatten := hD
        refine lv_goto (tgt := 0) hx hb dX4_letterHere_35 (by decide) ?_
        exact ih _ _ h _ _ _ hP hD hS (lv_sub hl [0] rfl) kk
set_option maxHeartbeats 4000000 in
set_option maxRecDepth 100000 in
theorem c_X4_letterHere (l : Launch) (D : va_G) (cA : Nat → ClassId) (a : Nat → Nat) (σ : St4) (res : Int32 × St4) (h : f_X4_letterHere σ = some res) : CT l D cA yX4_letterHere wsX4_letterHere rmX4_letterHere [.ref (a 0)] [w4 cA a σ] [w4 cA a res.2] (some (.int res.1)) := by
  refine CT.start (cc := cX4_letterHere) (maxL := 1) (ret := (some .int)) (by decide) rfl (Nat.le_of_ble_eq_true rfl) ?_
  intro p e s m below meth c Z hP hD hS ls hl
  have Z : Cx p s m _ meth c cX4_letterHere 1 (some .int) wsX4_letterHere RX4 D cA := Z
  have hl : lv_has ls 1 [(0, .ref (a 0))] := hl
  obtain ⟨hx, hb, hml, hown, hts, hr, hlk, hKK⟩ := id Z
  have hK := hKK.1
  rw [f_X4_letterHere] at h
  obtain ⟨q4, hq4, h⟩ := bind_inv h
  refine t_X4_letterHere_0 Z  FU _ _ hq4 _ _ _ hP hD hS (lv_sub hl [0] rfl) (fun H locs ls hP hD hS hl => ?_)
  refine lv_aload_n hx hb dX4_letterHere_38 rfl (lv_at hl 0 rfl) ?_
  refine va_get (D := D) (ci := 4) (v := .int (p4_place q4)) (C := RX4) (T := TX4) (N := 3) hx hb hts in_X4_letterHere_X4 hown hK hP 0 rfl rfl 2 (by decide) (hts _ lk_X4_letterHere_19) (fun _ h9 => h9) rfl dX4_letterHere_39 ?_
  refine lv_aload_n hx hb dX4_letterHere_42 rfl (lv_at hl 0 rfl) ?_
  refine va_get (D := D) (ci := 4) (v := .int (p4_size q4)) (C := RX4) (T := TX4) (N := 3) hx hb hts in_X4_letterHere_X4 hown hK hP 0 rfl rfl 1 (by decide) (hts _ lk_X4_letterHere_15) (fun _ h9 => h9) rfl dX4_letterHere_43 ?_
  refine lv_icmp_ge (tgt := 61) hx hb dX4_letterHere_46 (by decide) (fun hc5 => ?_) (fun hc5 => ?_)
  · rw [if_pos hc5] at h
    refine lv_iconst (v := (-1)) hx hb dX4_letterHere_61 (by decide) ?_
    have h := Option.some.inj h
    subst h
    exact CT.iret Z hP hD hS dX4_letterHere_62
  · rw [if_neg hc5] at h
    refine lv_aload_n hx hb dX4_letterHere_49 rfl (lv_at hl 0 rfl) ?_
    refine va_get (D := D) (ci := 4) (v := .ref (a 1)) (C := RX4) (T := TX4) (N := 3) hx hb hts in_X4_letterHere_X4 hown hK hP 0 rfl rfl 0 (by decide) (hts _ lk_X4_letterHere_11) (fun _ h9 => h9) rfl dX4_letterHere_50 ?_
    refine lv_aload_n hx hb dX4_letterHere_53 rfl (lv_at hl 0 rfl) ?_
    refine va_get (D := D) (ci := 4) (v := .int (p4_place q4)) (C := RX4) (T := TX4) (N := 3) hx hb hts in_X4_letterHere_X4 hown hK hP 0 rfl rfl 2 (by decide) (hts _ lk_X4_letterHere_19) (fun _ h9 => h9) rfl dX4_letterHere_54 ?_
    obtain ⟨hg6, h⟩ := if_inv h
    refine va_iald hx hb hK hP 1 0 rfl rfl (inB_in hg6) dX4_letterHere_57 ?_
    refine lv_goto (tgt := 62) hx hb dX4_letterHere_58 (by decide) ?_
    have h := Option.some.inj h
    subst h
    exact CT.iret Z hP hD hS dX4_letterHere_62

-- X4.take
theorem lk_X4_take_19 : Cond.fieldLink RX4 19 "KeyedFeelings$Tape" "place" "I" ∈ wsX4_take := by decide +kernel
theorem in_X4_take_X4 : ∀ w ∈ wsX40, w ∈ wsX4_take := by decide +kernel
noncomputable def f_X4_take (σ : St4) (x1 : Int32) : Option (Int32 × St4) := ((f_X4_letterHere σ).bind (fun r1 => (if r1.1 = x1 then some (1, (s4_place r1.2 ((p4_place r1.2) + 1))) else some (0, (s4_place r1.2 ((p4_place r1.2) + 0))))))
noncomputable def rmX4_take : Room := { frames := 1, cells := 0, slots := 0, locals := 20 }
set_option maxHeartbeats 4000000 in
set_option maxRecDepth 100000 in
theorem c_X4_take (l : Launch) (D : va_G) (cA : Nat → ClassId) (a : Nat → Nat) (σ : St4) (x1 : Int32) (res : Int32 × St4) (h : f_X4_take σ x1 = some res) : CT l D cA yX4_take wsX4_take rmX4_take [.ref (a 0), .int x1] [w4 cA a σ] [w4 cA a res.2] (some (.int res.1)) := by
  refine CT.start (cc := cX4_take) (maxL := 3) (ret := (some .boolean)) (by decide) rfl (Nat.le_of_ble_eq_true rfl) ?_
  intro p e s m below meth c Z hP hD hS ls hl
  have Z : Cx p s m _ meth c cX4_take 3 (some .boolean) wsX4_take RX4 D cA := Z
  have hl : lv_has ls 3 [(0, .ref (a 0)), (1, .int x1)] := hl
  obtain ⟨hx, hb, hml, hown, hts, hr, hlk, hKK⟩ := id Z
  have hK := hKK.1
  rw [f_X4_take] at h
  refine lv_aload_n hx hb dX4_take_0 rfl (lv_at hl 0 rfl) ?_
  obtain ⟨r1, hr1, h⟩ := bind_inv h
  refine kV (rest := []) (st1 := [.int r1.1]) (cr := []) (cs' := [w4 cA a r1.2]) Z (c_X4_letterHere l D cA a σ r1 hr1) 0 gX4_take_X4_letterHere rfl hdX4_letterHere ⟨rfl, rfl⟩ ⟨Nat.le_of_ble_eq_true rfl, Nat.le_of_ble_eq_true rfl⟩ ⟨Nat.zero_le _, Nat.zero_le _⟩ hP hD hS hl.1 rfl rfl rfl (Nat.le_of_ble_eq_true rfl) 4 rfl rfl rfl [0] [] [0] rfl rfl rfl rfl rfl dX4_take_1 (fun H locs hP hD hS => ?_)
  refine lv_iload_n hx hb dX4_take_4 rfl (lv_at hl 1 rfl) ?_
  refine lv_icmp_ne (tgt := 12) hx hb dX4_take_5 (by decide) (fun hc2 => ?_) (fun hc2 => ?_)
  · rw [if_neg hc2] at h
    refine lv_iconst (v := 0) hx hb dX4_take_12 (by decide) ?_
    refine lv_istore_n (lv' := [(2, .int 0), (0, .ref (a 0)), (1, .int x1)]) hx hb dX4_take_13 rfl hl (by decide) rfl (fun ls hl => ?_)
    refine lv_aload_n hx hb dX4_take_14 rfl (lv_at hl 1 rfl) ?_
    refine lv_dup hx hb dX4_take_15 rfl ?_
    refine va_get (D := D) (ci := 4) (v := .int (p4_place r1.2)) (C := RX4) (T := TX4) (N := 3) hx hb hts in_X4_take_X4 hown hK hP 0 rfl rfl 2 (by decide) (hts _ lk_X4_take_19) (fun _ h9 => h9) rfl dX4_take_16 ?_
    refine lv_iload_n hx hb dX4_take_19 rfl (lv_at hl 0 rfl) ?_
    refine lv_if_eq (tgt := 27) hx hb dX4_take_20 (by decide) (fun hc3 => ?_) (fun hc3 => ?_)
    · refine lv_iconst (v := 0) hx hb dX4_take_27 (by decide) ?_
      refine lv_iadd hx hb dX4_take_28 ?_
      refine va_put (D := D) (ci := 4) (v := .int ((p4_place r1.2) + 0)) (ty := .int) (C := RX4) (T := TX4) (N := 3) hx hb hts in_X4_take_X4 tyX4 tyX4_ok nmX4 hown hK hP hD hS 0 rfl rfl 2 (by decide) (hts _ lk_X4_take_19) (fun _ h9 => h9) rfl (tyX4_ok 2 (by decide)) rfl rfl (Nat.le_of_ble_eq_true rfl) dX4_take_29 (fun H locs hP hD hS => ?_)
      have hP : va_P D vwCl ([w4 cA a (s4_place r1.2 ((p4_place r1.2) + 0))] : List va_W).flatten H := hP
      have hD : va_D _ ([w4 cA a (s4_place r1.2 ((p4_place r1.2) + 0))] : List va_W).flatten := hD
      refine lv_iload_n hx hb dX4_take_32 rfl (lv_at hl 0 rfl) ?_
      have h := Option.some.inj h
      subst h
      exact CT.zret Z (nar_bool (Or.inl rfl)) hP hD hS dX4_take_33
    · exact absurd hc3 (by decide)
  · rw [if_pos hc2] at h
    refine lv_iconst (v := 1) hx hb dX4_take_8 (by decide) ?_
    refine lv_goto (tgt := 13) hx hb dX4_take_9 (by decide) ?_
    refine lv_istore_n (lv' := [(2, .int 1), (0, .ref (a 0)), (1, .int x1)]) hx hb dX4_take_13 rfl hl (by decide) rfl (fun ls hl => ?_)
    refine lv_aload_n hx hb dX4_take_14 rfl (lv_at hl 1 rfl) ?_
    refine lv_dup hx hb dX4_take_15 rfl ?_
    refine va_get (D := D) (ci := 4) (v := .int (p4_place r1.2)) (C := RX4) (T := TX4) (N := 3) hx hb hts in_X4_take_X4 hown hK hP 0 rfl rfl 2 (by decide) (hts _ lk_X4_take_19) (fun _ h9 => h9) rfl dX4_take_16 ?_
    refine lv_iload_n hx hb dX4_take_19 rfl (lv_at hl 0 rfl) ?_
    refine lv_if_eq (tgt := 27) hx hb dX4_take_20 (by decide) (fun hc4 => ?_) (fun hc4 => ?_)
    · exact absurd hc4 (by decide)
    · refine lv_iconst (v := 1) hx hb dX4_take_23 (by decide) ?_
      refine lv_goto (tgt := 28) hx hb dX4_take_24 (by decide) ?_
      refine lv_iadd hx hb dX4_take_28 ?_
      refine va_put (D := D) (ci := 4) (v := .int ((p4_place r1.2) + 1)) (ty := .int) (C := RX4) (T := TX4) (N := 3) hx hb hts in_X4_take_X4 tyX4 tyX4_ok nmX4 hown hK hP hD hS 0 rfl rfl 2 (by decide) (hts _ lk_X4_take_19) (fun _ h9 => h9) rfl (tyX4_ok 2 (by decide)) rfl rfl (Nat.le_of_ble_eq_true rfl) dX4_take_29 (fun H locs hP hD hS => ?_)
      have hP : va_P D vwCl ([w4 cA a (s4_place r1.2 ((p4_place r1.2) + 1))] : List va_W).flatten H := hP
      have hD : va_D _ ([w4 cA a (s4_place r1.2 ((p4_place r1.2) + 1))] : List va_W).flatten := hD
      refine lv_iload_n hx hb dX4_take_32 rfl (lv_at hl 0 rfl) ?_
      have h := Option.some.inj h
      subst h
      exact CT.zret Z (nar_bool (Or.inr rfl)) hP hD hS dX4_take_33

-- X4.takeDigit
theorem lk_X4_takeDigit_19 : Cond.fieldLink RX4 19 "KeyedFeelings$Tape" "place" "I" ∈ wsX4_takeDigit := by decide +kernel
theorem in_X4_takeDigit_X4 : ∀ w ∈ wsX40, w ∈ wsX4_takeDigit := by decide +kernel
theorem lk_X4_takeDigit_15 : Cond.fieldLink RX4 15 "KeyedFeelings$Tape" "size" "I" ∈ wsX4_takeDigit := by decide +kernel
theorem lk_X4_takeDigit_11 : Cond.fieldLink RX4 11 "KeyedFeelings$Tape" "letters" "[I" ∈ wsX4_takeDigit := by decide +kernel
noncomputable def f_X4_takeDigit (σ : St4) : Option (Int32 × St4) := (if (p4_size σ) ≤ (p4_place σ) then some ((-1), σ) else (if inB (p4_place σ) 60 = true then (if ((p4_letters σ) (p4_place σ).toNatClampNeg) < 48 then some ((-1), σ) else (if inB (p4_place σ) 60 = true then (if ((p4_letters σ) (p4_place σ).toNatClampNeg) ≤ 57 then (if inB (((p4_place σ) + 1) - 1) 60 = true then some (((p4_letters σ) (((p4_place σ) + 1) - 1).toNatClampNeg) - 48, (s4_place σ ((p4_place σ) + 1))) else none) else some ((-1), σ)) else none)) else none))
noncomputable def rmX4_takeDigit : Room := { frames := 0, cells := 0, slots := 0, locals := 0 }
set_option maxHeartbeats 4000000 in
set_option maxRecDepth 100000 in
theorem c_X4_takeDigit (l : Launch) (D : va_G) (cA : Nat → ClassId) (a : Nat → Nat) (σ : St4) (res : Int32 × St4) (h : f_X4_takeDigit σ = some res) : CT l D cA yX4_takeDigit wsX4_takeDigit rmX4_takeDigit [.ref (a 0)] [w4 cA a σ] [w4 cA a res.2] (some (.int res.1)) := by
  refine CT.start (cc := cX4_takeDigit) (maxL := 1) (ret := (some .int)) (by decide) rfl (Nat.le_of_ble_eq_true rfl) ?_
  intro p e s m below meth c Z hP hD hS ls hl
  have Z : Cx p s m _ meth c cX4_takeDigit 1 (some .int) wsX4_takeDigit RX4 D cA := Z
  have hl : lv_has ls 1 [(0, .ref (a 0))] := hl
  obtain ⟨hx, hb, hml, hown, hts, hr, hlk, hKK⟩ := id Z
  have hK := hKK.1
  rw [f_X4_takeDigit] at h
  refine lv_aload_n hx hb dX4_takeDigit_0 rfl (lv_at hl 0 rfl) ?_
  refine va_get (D := D) (ci := 4) (v := .int (p4_place σ)) (C := RX4) (T := TX4) (N := 3) hx hb hts in_X4_takeDigit_X4 hown hK hP 0 rfl rfl 2 (by decide) (hts _ lk_X4_takeDigit_19) (fun _ h9 => h9) rfl dX4_takeDigit_1 ?_
  refine lv_aload_n hx hb dX4_takeDigit_4 rfl (lv_at hl 0 rfl) ?_
  refine va_get (D := D) (ci := 4) (v := .int (p4_size σ)) (C := RX4) (T := TX4) (N := 3) hx hb hts in_X4_takeDigit_X4 hown hK hP 0 rfl rfl 1 (by decide) (hts _ lk_X4_takeDigit_15) (fun _ h9 => h9) rfl dX4_takeDigit_5 ?_
  refine lv_icmp_ge (tgt := 39) hx hb dX4_takeDigit_8 (by decide) (fun hc1 => ?_) (fun hc1 => ?_)
  · rw [if_pos hc1] at h
    refine lv_iconst (v := (-1)) hx hb dX4_takeDigit_39 (by decide) ?_
    have h := Option.some.inj h
    subst h
    exact CT.iret Z hP hD hS dX4_takeDigit_40
  · rw [if_neg hc1] at h
    refine lv_aload_n hx hb dX4_takeDigit_11 rfl (lv_at hl 0 rfl) ?_
    refine va_get (D := D) (ci := 4) (v := .ref (a 1)) (C := RX4) (T := TX4) (N := 3) hx hb hts in_X4_takeDigit_X4 hown hK hP 0 rfl rfl 0 (by decide) (hts _ lk_X4_takeDigit_11) (fun _ h9 => h9) rfl dX4_takeDigit_12 ?_
    refine lv_aload_n hx hb dX4_takeDigit_15 rfl (lv_at hl 0 rfl) ?_
    refine va_get (D := D) (ci := 4) (v := .int (p4_place σ)) (C := RX4) (T := TX4) (N := 3) hx hb hts in_X4_takeDigit_X4 hown hK hP 0 rfl rfl 2 (by decide) (hts _ lk_X4_takeDigit_19) (fun _ h9 => h9) rfl dX4_takeDigit_16 ?_
    obtain ⟨hg2, h⟩ := if_inv h
    refine va_iald hx hb hK hP 1 0 rfl rfl (inB_in hg2) dX4_takeDigit_19 ?_
    refine lv_bipush (v := 48) hx hb dX4_takeDigit_20 (by decide) ?_
    refine lv_icmp_lt (tgt := 39) hx hb dX4_takeDigit_22 (by decide) (fun hc3 => ?_) (fun hc3 => ?_)
    · rw [if_pos hc3] at h
      refine lv_iconst (v := (-1)) hx hb dX4_takeDigit_39 (by decide) ?_
      have h := Option.some.inj h
      subst h
      exact CT.iret Z hP hD hS dX4_takeDigit_40
    · rw [if_neg hc3] at h
      refine lv_aload_n hx hb dX4_takeDigit_25 rfl (lv_at hl 0 rfl) ?_
      refine va_get (D := D) (ci := 4) (v := .ref (a 1)) (C := RX4) (T := TX4) (N := 3) hx hb hts in_X4_takeDigit_X4 hown hK hP 0 rfl rfl 0 (by decide) (hts _ lk_X4_takeDigit_11) (fun _ h9 => h9) rfl dX4_takeDigit_26 ?_
      refine lv_aload_n hx hb dX4_takeDigit_29 rfl (lv_at hl 0 rfl) ?_
      refine va_get (D := D) (ci := 4) (v := .int (p4_place σ)) (C := RX4) (T := TX4) (N := 3) hx hb hts in_X4_takeDigit_X4 hown hK hP 0 rfl rfl 2 (by decide) (hts _ lk_X4_takeDigit_19) (fun _ h9 => h9) rfl dX4_takeDigit_30 ?_
      obtain ⟨hg4, h⟩ := if_inv h
      refine va_iald hx hb hK hP 1 0 rfl rfl (inB_in hg4) dX4_takeDigit_33 ?_
      refine lv_bipush (v := 57) hx hb dX4_takeDigit_34 (by decide) ?_
      refine lv_icmp_le (tgt := 41) hx hb dX4_takeDigit_36 (by decide) (fun hc5 => ?_) (fun hc5 => ?_)
      · rw [if_pos hc5] at h
        refine lv_aload_n hx hb dX4_takeDigit_41 rfl (lv_at hl 0 rfl) ?_
        refine lv_dup hx hb dX4_takeDigit_42 rfl ?_
        refine va_get (D := D) (ci := 4) (v := .int (p4_place σ)) (C := RX4) (T := TX4) (N := 3) hx hb hts in_X4_takeDigit_X4 hown hK hP 0 rfl rfl 2 (by decide) (hts _ lk_X4_takeDigit_19) (fun _ h9 => h9) rfl dX4_takeDigit_43 ?_
        refine lv_iconst (v := 1) hx hb dX4_takeDigit_46 (by decide) ?_
        refine lv_iadd hx hb dX4_takeDigit_47 ?_
        refine va_put (D := D) (ci := 4) (v := .int ((p4_place σ) + 1)) (ty := .int) (C := RX4) (T := TX4) (N := 3) hx hb hts in_X4_takeDigit_X4 tyX4 tyX4_ok nmX4 hown hK hP hD hS 0 rfl rfl 2 (by decide) (hts _ lk_X4_takeDigit_19) (fun _ h9 => h9) rfl (tyX4_ok 2 (by decide)) rfl rfl (Nat.le_of_ble_eq_true rfl) dX4_takeDigit_48 (fun H locs hP hD hS => ?_)
        have hP : va_P D vwCl ([w4 cA a (s4_place σ ((p4_place σ) + 1))] : List va_W).flatten H := hP
        have hD : va_D _ ([w4 cA a (s4_place σ ((p4_place σ) + 1))] : List va_W).flatten := hD
        refine lv_aload_n hx hb dX4_takeDigit_51 rfl (lv_at hl 0 rfl) ?_
        refine va_get (D := D) (ci := 4) (v := .ref (a 1)) (C := RX4) (T := TX4) (N := 3) hx hb hts in_X4_takeDigit_X4 hown hK hP 0 rfl rfl 0 (by decide) (hts _ lk_X4_takeDigit_11) (fun _ h9 => h9) rfl dX4_takeDigit_52 ?_
        refine lv_aload_n hx hb dX4_takeDigit_55 rfl (lv_at hl 0 rfl) ?_
        refine va_get (D := D) (ci := 4) (v := .int ((p4_place σ) + 1)) (C := RX4) (T := TX4) (N := 3) hx hb hts in_X4_takeDigit_X4 hown hK hP 0 rfl rfl 2 (by decide) (hts _ lk_X4_takeDigit_19) (fun _ h9 => h9) rfl dX4_takeDigit_56 ?_
        refine lv_iconst (v := 1) hx hb dX4_takeDigit_59 (by decide) ?_
        refine lv_isub hx hb dX4_takeDigit_60 ?_
        obtain ⟨hg6, h⟩ := if_inv h
        refine va_iald hx hb hK hP 1 0 rfl rfl (inB_in hg6) dX4_takeDigit_61 ?_
        refine lv_bipush (v := 48) hx hb dX4_takeDigit_62 (by decide) ?_
        refine lv_isub hx hb dX4_takeDigit_64 ?_
        have h := Option.some.inj h
        subst h
        exact CT.iret Z hP hD hS dX4_takeDigit_65
      · rw [if_neg hc5] at h
        refine lv_iconst (v := (-1)) hx hb dX4_takeDigit_39 (by decide) ?_
        have h := Option.some.inj h
        subst h
        exact CT.iret Z hP hD hS dX4_takeDigit_40

-- X4.takeNumber
theorem lk_X4_takeNumber_19 : Cond.fieldLink RX4 19 "KeyedFeelings$Tape" "place" "I" ∈ wsX4_takeNumber := by decide +kernel
theorem in_X4_takeNumber_X4 : ∀ w ∈ wsX40, w ∈ wsX4_takeNumber := by decide +kernel
noncomputable def f_X4_takeNumber (σ : St4) (x1 : Int32) (x2 : Int32) : Option (Int32 × St4) := ((f_X4_letterHere σ).bind (fun r1 => ((f_X4_takeDigit r1.2).bind (fun r2 => (if r2.1 = (-1) then (if r2.1 < x1 then some ((-1), (s4_place r2.2 (p4_place r1.2))) else (if r2.1 ≤ x2 then some (r2.1, r2.2) else some ((-1), (s4_place r2.2 (p4_place r1.2))))) else ((f_X4_takeDigit r2.2).bind (fun r4 => (if r4.1 = (-1) then (if r2.1 < x1 then some ((-1), (s4_place r4.2 (p4_place r1.2))) else (if r2.1 ≤ x2 then some (r2.1, r4.2) else some ((-1), (s4_place r4.2 (p4_place r1.2))))) else (if ((r2.1 * 10) + r4.1) < x1 then some ((-1), (s4_place r4.2 (p4_place r1.2))) else (if ((r2.1 * 10) + r4.1) ≤ x2 then some ((r2.1 * 10) + r4.1, r4.2) else some ((-1), (s4_place r4.2 (p4_place r1.2)))))))))))))
noncomputable def rmX4_takeNumber : Room := { frames := 1, cells := 0, slots := 0, locals := 20 }
set_option maxHeartbeats 4000000 in
set_option maxRecDepth 100000 in
theorem c_X4_takeNumber (l : Launch) (D : va_G) (cA : Nat → ClassId) (a : Nat → Nat) (σ : St4) (x1 : Int32) (x2 : Int32) (res : Int32 × St4) (h : f_X4_takeNumber σ x1 x2 = some res) : CT l D cA yX4_takeNumber wsX4_takeNumber rmX4_takeNumber [.ref (a 0), .int x1, .int x2] [w4 cA a σ] [w4 cA a res.2] (some (.int res.1)) := by
  refine CT.start (cc := cX4_takeNumber) (maxL := 6) (ret := (some .int)) (by decide) rfl (Nat.le_of_ble_eq_true rfl) ?_
  intro p e s m below meth c Z hP hD hS ls hl
  have Z : Cx p s m _ meth c cX4_takeNumber 6 (some .int) wsX4_takeNumber RX4 D cA := Z
  have hl : lv_has ls 6 [(0, .ref (a 0)), (1, .int x1), (2, .int x2)] := hl
  obtain ⟨hx, hb, hml, hown, hts, hr, hlk, hKK⟩ := id Z
  have hK := hKK.1
  rw [f_X4_takeNumber] at h
  refine lv_aload_n hx hb dX4_takeNumber_0 rfl (lv_at hl 0 rfl) ?_
  obtain ⟨r1, hr1, h⟩ := bind_inv h
  refine kV (rest := []) (st1 := [.int r1.1]) (cr := []) (cs' := [w4 cA a r1.2]) Z (c_X4_letterHere l D cA a σ r1 hr1) 0 gX4_takeNumber_X4_letterHere rfl hdX4_letterHere ⟨rfl, rfl⟩ ⟨Nat.le_of_ble_eq_true rfl, Nat.le_of_ble_eq_true rfl⟩ ⟨Nat.zero_le _, Nat.zero_le _⟩ hP hD hS hl.1 rfl rfl rfl (Nat.le_of_ble_eq_true rfl) 4 rfl rfl rfl [0] [] [0] rfl rfl rfl rfl rfl dX4_takeNumber_1 (fun H locs hP hD hS => ?_)
  refine lv_pop hx hb dX4_takeNumber_4 rfl ?_
  refine lv_aload_n hx hb dX4_takeNumber_5 rfl (lv_at hl 0 rfl) ?_
  refine va_get (D := D) (ci := 4) (v := .int (p4_place r1.2)) (C := RX4) (T := TX4) (N := 3) hx hb hts in_X4_takeNumber_X4 hown hK hP 0 rfl rfl 2 (by decide) (hts _ lk_X4_takeNumber_19) (fun _ h9 => h9) rfl dX4_takeNumber_6 ?_
  refine lv_istore_n (lv' := [(3, .int (p4_place r1.2)), (0, .ref (a 0)), (1, .int x1), (2, .int x2)]) hx hb dX4_takeNumber_9 rfl hl (by decide) rfl (fun ls hl => ?_)
  refine lv_aload_n hx hb dX4_takeNumber_10 rfl (lv_at hl 1 rfl) ?_
  obtain ⟨r2, hr2, h⟩ := bind_inv h
  refine kV (rest := []) (st1 := [.int r2.1]) (cr := []) (cs' := [w4 cA a r2.2]) Z (c_X4_takeDigit l D cA a r1.2 r2 hr2) 0 gX4_takeNumber_X4_takeDigit rfl hdX4_takeDigit ⟨rfl, rfl⟩ ⟨Nat.le_of_ble_eq_true rfl, Nat.le_of_ble_eq_true rfl⟩ ⟨Nat.zero_le _, Nat.zero_le _⟩ hP hD hS hl.1 rfl rfl rfl (Nat.le_of_ble_eq_true rfl) 4 rfl rfl rfl [0] [] [0] rfl rfl rfl rfl rfl dX4_takeNumber_11 (fun H locs hP hD hS => ?_)
  refine lv_istore (lv' := [(4, .int r2.1), (3, .int (p4_place r1.2)), (0, .ref (a 0)), (1, .int x1), (2, .int x2)]) hx hb dX4_takeNumber_14 hl (by decide) rfl (fun ls hl => ?_)
  refine lv_iload hx hb dX4_takeNumber_16 (lv_at hl 0 rfl) ?_
  refine lv_iconst (v := (-1)) hx hb dX4_takeNumber_18 (by decide) ?_
  refine lv_icmp_ne (tgt := 26) hx hb dX4_takeNumber_19 (by decide) (fun hc3 => ?_) (fun hc3 => ?_)
  · rw [if_neg hc3] at h
    refine lv_aload_n hx hb dX4_takeNumber_26 rfl (lv_at hl 2 rfl) ?_
    obtain ⟨r4, hr4, h⟩ := bind_inv h
    refine kV (rest := []) (st1 := [.int r4.1]) (cr := []) (cs' := [w4 cA a r4.2]) Z (c_X4_takeDigit l D cA a r2.2 r4 hr4) 0 gX4_takeNumber_X4_takeDigit rfl hdX4_takeDigit ⟨rfl, rfl⟩ ⟨Nat.le_of_ble_eq_true rfl, Nat.le_of_ble_eq_true rfl⟩ ⟨Nat.zero_le _, Nat.zero_le _⟩ hP hD hS hl.1 rfl rfl rfl (Nat.le_of_ble_eq_true rfl) 4 rfl rfl rfl [0] [] [0] rfl rfl rfl rfl rfl dX4_takeNumber_27 (fun H locs hP hD hS => ?_)
    refine lv_istore (lv' := [(5, .int r4.1), (4, .int r2.1), (3, .int (p4_place r1.2)), (0, .ref (a 0)), (1, .int x1), (2, .int x2)]) hx hb dX4_takeNumber_30 hl (by decide) rfl (fun ls hl => ?_)
    refine lv_iload hx hb dX4_takeNumber_32 (lv_at hl 0 rfl) ?_
    refine lv_iconst (v := (-1)) hx hb dX4_takeNumber_34 (by decide) ?_
    refine lv_icmp_eq (tgt := 48) hx hb dX4_takeNumber_35 (by decide) (fun hc5 => ?_) (fun hc5 => ?_)
    · rw [if_pos hc5] at h
      refine lv_iload hx hb dX4_takeNumber_48 (lv_at hl 1 rfl) ?_
      refine lv_iload_n hx hb dX4_takeNumber_50 rfl (lv_at hl 4 rfl) ?_
      refine lv_icmp_lt (tgt := 60) hx hb dX4_takeNumber_51 (by decide) (fun hc6 => ?_) (fun hc6 => ?_)
      · rw [if_pos hc6] at h
        refine lv_aload_n hx hb dX4_takeNumber_60 rfl (lv_at hl 3 rfl) ?_
        refine lv_iload_n hx hb dX4_takeNumber_61 rfl (lv_at hl 2 rfl) ?_
        refine va_put (D := D) (ci := 4) (v := .int (p4_place r1.2)) (ty := .int) (C := RX4) (T := TX4) (N := 3) hx hb hts in_X4_takeNumber_X4 tyX4 tyX4_ok nmX4 hown hK hP hD hS 0 rfl rfl 2 (by decide) (hts _ lk_X4_takeNumber_19) (fun _ h9 => h9) rfl (tyX4_ok 2 (by decide)) rfl rfl (Nat.le_of_ble_eq_true rfl) dX4_takeNumber_62 (fun H locs hP hD hS => ?_)
        have hP : va_P D vwCl ([w4 cA a (s4_place r4.2 (p4_place r1.2))] : List va_W).flatten H := hP
        have hD : va_D _ ([w4 cA a (s4_place r4.2 (p4_place r1.2))] : List va_W).flatten := hD
        refine lv_iconst (v := (-1)) hx hb dX4_takeNumber_65 (by decide) ?_
        have h := Option.some.inj h
        subst h
        exact CT.iret Z hP hD hS dX4_takeNumber_66
      · rw [if_neg hc6] at h
        refine lv_iload hx hb dX4_takeNumber_54 (lv_at hl 1 rfl) ?_
        refine lv_iload_n hx hb dX4_takeNumber_56 rfl (lv_at hl 5 rfl) ?_
        refine lv_icmp_le (tgt := 67) hx hb dX4_takeNumber_57 (by decide) (fun hc7 => ?_) (fun hc7 => ?_)
        · rw [if_pos hc7] at h
          refine lv_iload hx hb dX4_takeNumber_67 (lv_at hl 1 rfl) ?_
          have h := Option.some.inj h
          subst h
          exact CT.iret Z hP hD hS dX4_takeNumber_69
        · rw [if_neg hc7] at h
          refine lv_aload_n hx hb dX4_takeNumber_60 rfl (lv_at hl 3 rfl) ?_
          refine lv_iload_n hx hb dX4_takeNumber_61 rfl (lv_at hl 2 rfl) ?_
          refine va_put (D := D) (ci := 4) (v := .int (p4_place r1.2)) (ty := .int) (C := RX4) (T := TX4) (N := 3) hx hb hts in_X4_takeNumber_X4 tyX4 tyX4_ok nmX4 hown hK hP hD hS 0 rfl rfl 2 (by decide) (hts _ lk_X4_takeNumber_19) (fun _ h9 => h9) rfl (tyX4_ok 2 (by decide)) rfl rfl (Nat.le_of_ble_eq_true rfl) dX4_takeNumber_62 (fun H locs hP hD hS => ?_)
          have hP : va_P D vwCl ([w4 cA a (s4_place r4.2 (p4_place r1.2))] : List va_W).flatten H := hP
          have hD : va_D _ ([w4 cA a (s4_place r4.2 (p4_place r1.2))] : List va_W).flatten := hD
          refine lv_iconst (v := (-1)) hx hb dX4_takeNumber_65 (by decide) ?_
          have h := Option.some.inj h
          subst h
          exact CT.iret Z hP hD hS dX4_takeNumber_66
    · rw [if_neg hc5] at h
      refine lv_iload hx hb dX4_takeNumber_38 (lv_at hl 1 rfl) ?_
      refine lv_bipush (v := 10) hx hb dX4_takeNumber_40 (by decide) ?_
      refine lv_imul hx hb dX4_takeNumber_42 ?_
      refine lv_iload hx hb dX4_takeNumber_43 (lv_at hl 0 rfl) ?_
      refine lv_iadd hx hb dX4_takeNumber_45 ?_
      refine lv_istore (lv' := [(4, .int ((r2.1 * 10) + r4.1)), (5, .int r4.1), (3, .int (p4_place r1.2)), (0, .ref (a 0)), (1, .int x1), (2, .int x2)]) hx hb dX4_takeNumber_46 hl (by decide) rfl (fun ls hl => ?_)
      refine lv_iload hx hb dX4_takeNumber_48 (lv_at hl 0 rfl) ?_
      refine lv_iload_n hx hb dX4_takeNumber_50 rfl (lv_at hl 4 rfl) ?_
      refine lv_icmp_lt (tgt := 60) hx hb dX4_takeNumber_51 (by decide) (fun hc8 => ?_) (fun hc8 => ?_)
      · rw [if_pos hc8] at h
        refine lv_aload_n hx hb dX4_takeNumber_60 rfl (lv_at hl 3 rfl) ?_
        refine lv_iload_n hx hb dX4_takeNumber_61 rfl (lv_at hl 2 rfl) ?_
        refine va_put (D := D) (ci := 4) (v := .int (p4_place r1.2)) (ty := .int) (C := RX4) (T := TX4) (N := 3) hx hb hts in_X4_takeNumber_X4 tyX4 tyX4_ok nmX4 hown hK hP hD hS 0 rfl rfl 2 (by decide) (hts _ lk_X4_takeNumber_19) (fun _ h9 => h9) rfl (tyX4_ok 2 (by decide)) rfl rfl (Nat.le_of_ble_eq_true rfl) dX4_takeNumber_62 (fun H locs hP hD hS => ?_)
        have hP : va_P D vwCl ([w4 cA a (s4_place r4.2 (p4_place r1.2))] : List va_W).flatten H := hP
        have hD : va_D _ ([w4 cA a (s4_place r4.2 (p4_place r1.2))] : List va_W).flatten := hD
        refine lv_iconst (v := (-1)) hx hb dX4_takeNumber_65 (by decide) ?_
        have h := Option.some.inj h
        subst h
        exact CT.iret Z hP hD hS dX4_takeNumber_66
      · rw [if_neg hc8] at h
        refine lv_iload hx hb dX4_takeNumber_54 (lv_at hl 0 rfl) ?_
        refine lv_iload_n hx hb dX4_takeNumber_56 rfl (lv_at hl 5 rfl) ?_
        refine lv_icmp_le (tgt := 67) hx hb dX4_takeNumber_57 (by decide) (fun hc9 => ?_) (fun hc9 => ?_)
        · rw [if_pos hc9] at h
          refine lv_iload hx hb dX4_takeNumber_67 (lv_at hl 0 rfl) ?_
          have h := Option.some.inj h
          subst h
          exact CT.iret Z hP hD hS dX4_takeNumber_69
        · rw [if_neg hc9] at h
          refine lv_aload_n hx hb dX4_takeNumber_60 rfl (lv_at hl 3 rfl) ?_
          refine lv_iload_n hx hb dX4_takeNumber_61 rfl (lv_at hl 2 rfl) ?_
          refine va_put (D := D) (ci := 4) (v := .int (p4_place r1.2)) (ty := .int) (C := RX4) (T := TX4) (N := 3) hx hb hts in_X4_takeNumber_X4 tyX4 tyX4_ok nmX4 hown hK hP hD hS 0 rfl rfl 2 (by decide) (hts _ lk_X4_takeNumber_19) (fun _ h9 => h9) rfl (tyX4_ok 2 (by decide)) rfl rfl (Nat.le_of_ble_eq_true rfl) dX4_takeNumber_62 (fun H locs hP hD hS => ?_)
          have hP : va_P D vwCl ([w4 cA a (s4_place r4.2 (p4_place r1.2))] : List va_W).flatten H := hP
          have hD : va_D _ ([w4 cA a (s4_place r4.2 (p4_place r1.2))] : List va_W).flatten := hD
          refine lv_iconst (v := (-1)) hx hb dX4_takeNumber_65 (by decide) ?_
          have h := Option.some.inj h
          subst h
          exact CT.iret Z hP hD hS dX4_takeNumber_66
  · rw [if_pos hc3] at h
    refine lv_iconst (v := (-1)) hx hb dX4_takeNumber_22 (by decide) ?_
    refine lv_goto (tgt := 30) hx hb dX4_takeNumber_23 (by decide) ?_
    refine lv_istore (lv' := [(5, .int (-1)), (4, .int r2.1), (3, .int (p4_place r1.2)), (0, .ref (a 0)), (1, .int x1), (2, .int x2)]) hx hb dX4_takeNumber_30 hl (by decide) rfl (fun ls hl => ?_)
    refine lv_iload hx hb dX4_takeNumber_32 (lv_at hl 0 rfl) ?_
    refine lv_iconst (v := (-1)) hx hb dX4_takeNumber_34 (by decide) ?_
    refine lv_icmp_eq (tgt := 48) hx hb dX4_takeNumber_35 (by decide) (fun hc10 => ?_) (fun hc10 => ?_)
    · refine lv_iload hx hb dX4_takeNumber_48 (lv_at hl 1 rfl) ?_
      refine lv_iload_n hx hb dX4_takeNumber_50 rfl (lv_at hl 4 rfl) ?_
      refine lv_icmp_lt (tgt := 60) hx hb dX4_takeNumber_51 (by decide) (fun hc11 => ?_) (fun hc11 => ?_)
      · rw [if_pos hc11] at h
        refine lv_aload_n hx hb dX4_takeNumber_60 rfl (lv_at hl 3 rfl) ?_
        refine lv_iload_n hx hb dX4_takeNumber_61 rfl (lv_at hl 2 rfl) ?_
        refine va_put (D := D) (ci := 4) (v := .int (p4_place r1.2)) (ty := .int) (C := RX4) (T := TX4) (N := 3) hx hb hts in_X4_takeNumber_X4 tyX4 tyX4_ok nmX4 hown hK hP hD hS 0 rfl rfl 2 (by decide) (hts _ lk_X4_takeNumber_19) (fun _ h9 => h9) rfl (tyX4_ok 2 (by decide)) rfl rfl (Nat.le_of_ble_eq_true rfl) dX4_takeNumber_62 (fun H locs hP hD hS => ?_)
        have hP : va_P D vwCl ([w4 cA a (s4_place r2.2 (p4_place r1.2))] : List va_W).flatten H := hP
        have hD : va_D _ ([w4 cA a (s4_place r2.2 (p4_place r1.2))] : List va_W).flatten := hD
        refine lv_iconst (v := (-1)) hx hb dX4_takeNumber_65 (by decide) ?_
        have h := Option.some.inj h
        subst h
        exact CT.iret Z hP hD hS dX4_takeNumber_66
      · rw [if_neg hc11] at h
        refine lv_iload hx hb dX4_takeNumber_54 (lv_at hl 1 rfl) ?_
        refine lv_iload_n hx hb dX4_takeNumber_56 rfl (lv_at hl 5 rfl) ?_
        refine lv_icmp_le (tgt := 67) hx hb dX4_takeNumber_57 (by decide) (fun hc12 => ?_) (fun hc12 => ?_)
        · rw [if_pos hc12] at h
          refine lv_iload hx hb dX4_takeNumber_67 (lv_at hl 1 rfl) ?_
          have h := Option.some.inj h
          subst h
          exact CT.iret Z hP hD hS dX4_takeNumber_69
        · rw [if_neg hc12] at h
          refine lv_aload_n hx hb dX4_takeNumber_60 rfl (lv_at hl 3 rfl) ?_
          refine lv_iload_n hx hb dX4_takeNumber_61 rfl (lv_at hl 2 rfl) ?_
          refine va_put (D := D) (ci := 4) (v := .int (p4_place r1.2)) (ty := .int) (C := RX4) (T := TX4) (N := 3) hx hb hts in_X4_takeNumber_X4 tyX4 tyX4_ok nmX4 hown hK hP hD hS 0 rfl rfl 2 (by decide) (hts _ lk_X4_takeNumber_19) (fun _ h9 => h9) rfl (tyX4_ok 2 (by decide)) rfl rfl (Nat.le_of_ble_eq_true rfl) dX4_takeNumber_62 (fun H locs hP hD hS => ?_)
          have hP : va_P D vwCl ([w4 cA a (s4_place r2.2 (p4_place r1.2))] : List va_W).flatten H := hP
          have hD : va_D _ ([w4 cA a (s4_place r2.2 (p4_place r1.2))] : List va_W).flatten := hD
          refine lv_iconst (v := (-1)) hx hb dX4_takeNumber_65 (by decide) ?_
          have h := Option.some.inj h
          subst h
          exact CT.iret Z hP hD hS dX4_takeNumber_66
    · exact absurd hc10 (by decide)

-- X4.readWinding
theorem lk_X4_readWinding_19 : Cond.fieldLink RX4 19 "KeyedFeelings$Tape" "place" "I" ∈ wsX4_readWinding := by decide +kernel
theorem in_X4_readWinding_X4 : ∀ w ∈ wsX40, w ∈ wsX4_readWinding := by decide +kernel
theorem in_X4_readWinding_X2 : ∀ w ∈ wsX20, w ∈ wsX4_readWinding := by decide +kernel
noncomputable def f_X4_readWinding (σ : St4) (τ : St2) (x2 : Int32) : Option (Int32 × St4 × St2) := ((f_X4_letterHere σ).bind (fun r1 => (if (r1.1 - 48) < 0 then some (0, r1.2, τ) else (if 6 ≤ (r1.1 - 48) then some (0, r1.2, τ) else (if (r1.1 - 48) = x2 then some (0, r1.2, τ) else (if 0 ≤ x2 then ((f_X4_take (s4_place r1.2 ((p4_place r1.2) + 1)) 58).bind (fun r6 => (if r6.1 = 0 then some (0, r6.2, τ) else ((f_X4_takeNumber r6.2 1 12).bind (fun r8 => (if r8.1 = (-1) then some (0, r8.2, τ) else (if inB x2 6 = true then (if inB x2 6 = true then some (1, r8.2, (s2_keys (s2_winds τ (upd (p2_winds τ) x2.toNatClampNeg (r1.1 - 48))) (upd (p2_keys τ) x2.toNatClampNeg r8.1))) else none) else none))))))) else some (0, r1.2, τ)))))))
noncomputable def rmX4_readWinding : Room := { frames := 2, cells := 0, slots := 0, locals := 45 }
set_option maxHeartbeats 4000000 in
set_option maxRecDepth 100000 in
theorem c_X4_readWinding (l : Launch) (D : va_G) (cA : Nat → ClassId) (a : Nat → Nat) (b : Nat → Nat) (σ : St4) (τ : St2) (x2 : Int32) (res : Int32 × St4 × St2) (h : f_X4_readWinding σ τ x2 = some res) : CT l D cA yX4_readWinding wsX4_readWinding rmX4_readWinding [.ref (a 0), .ref (b 0), .int x2] [w4 cA a σ, w2 cA b τ] [w4 cA a res.2.1, w2 cA b res.2.2] (some (.int res.1)) := by
  refine CT.start (cc := cX4_readWinding) (maxL := 5) (ret := (some .boolean)) (by decide) rfl (Nat.le_of_ble_eq_true rfl) ?_
  intro p e s m below meth c Z hP hD hS ls hl
  have Z : Cx p s m _ meth c cX4_readWinding 5 (some .boolean) wsX4_readWinding RX4 D cA := Z
  have hl : lv_has ls 5 [(0, .ref (a 0)), (1, .ref (b 0)), (2, .int x2)] := hl
  obtain ⟨hx, hb, hml, hown, hts, hr, hlk, hKK⟩ := id Z
  have hK := hKK.1
  rw [f_X4_readWinding] at h
  refine lv_aload_n hx hb dX4_readWinding_0 rfl (lv_at hl 0 rfl) ?_
  obtain ⟨r1, hr1, h⟩ := bind_inv h
  refine kV (rest := []) (st1 := [.int r1.1]) (cr := [w2 cA b τ]) (cs' := [w4 cA a r1.2, w2 cA b τ]) Z (c_X4_letterHere l D cA a σ r1 hr1) 0 gX4_readWinding_X4_letterHere rfl hdX4_letterHere ⟨rfl, rfl⟩ ⟨Nat.le_of_ble_eq_true rfl, Nat.le_of_ble_eq_true rfl⟩ ⟨Nat.zero_le _, Nat.zero_le _⟩ hP hD hS hl.1 rfl rfl rfl (Nat.le_of_ble_eq_true rfl) 4 rfl rfl rfl [0] [1] [1, 0] rfl rfl rfl rfl rfl dX4_readWinding_1 (fun H locs hP hD hS => ?_)
  refine lv_bipush (v := 48) hx hb dX4_readWinding_4 (by decide) ?_
  refine lv_isub hx hb dX4_readWinding_6 ?_
  refine lv_istore_n (lv' := [(3, .int (r1.1 - 48)), (0, .ref (a 0)), (1, .ref (b 0)), (2, .int x2)]) hx hb dX4_readWinding_7 rfl hl (by decide) rfl (fun ls hl => ?_)
  refine lv_iload_n hx hb dX4_readWinding_8 rfl (lv_at hl 0 rfl) ?_
  refine lv_if_lt (tgt := 27) hx hb dX4_readWinding_9 (by decide) (fun hc2 => ?_) (fun hc2 => ?_)
  · rw [if_pos hc2] at h
    refine lv_iconst (v := 0) hx hb dX4_readWinding_27 (by decide) ?_
    have h := Option.some.inj h
    subst h
    exact CT.zret Z (nar_bool (Or.inl rfl)) hP hD hS dX4_readWinding_28
  · rw [if_neg hc2] at h
    refine lv_iload_n hx hb dX4_readWinding_12 rfl (lv_at hl 0 rfl) ?_
    refine lv_bipush (v := 6) hx hb dX4_readWinding_13 (by decide) ?_
    refine lv_icmp_ge (tgt := 27) hx hb dX4_readWinding_15 (by decide) (fun hc3 => ?_) (fun hc3 => ?_)
    · rw [if_pos hc3] at h
      refine lv_iconst (v := 0) hx hb dX4_readWinding_27 (by decide) ?_
      have h := Option.some.inj h
      subst h
      exact CT.zret Z (nar_bool (Or.inl rfl)) hP hD hS dX4_readWinding_28
    · rw [if_neg hc3] at h
      refine lv_iload_n hx hb dX4_readWinding_18 rfl (lv_at hl 0 rfl) ?_
      refine lv_iload_n hx hb dX4_readWinding_19 rfl (lv_at hl 3 rfl) ?_
      refine lv_icmp_eq (tgt := 27) hx hb dX4_readWinding_20 (by decide) (fun hc4 => ?_) (fun hc4 => ?_)
      · rw [if_pos hc4] at h
        refine lv_iconst (v := 0) hx hb dX4_readWinding_27 (by decide) ?_
        have h := Option.some.inj h
        subst h
        exact CT.zret Z (nar_bool (Or.inl rfl)) hP hD hS dX4_readWinding_28
      · rw [if_neg hc4] at h
        refine lv_iload_n hx hb dX4_readWinding_23 rfl (lv_at hl 3 rfl) ?_
        refine lv_if_ge (tgt := 29) hx hb dX4_readWinding_24 (by decide) (fun hc5 => ?_) (fun hc5 => ?_)
        · rw [if_pos hc5] at h
          refine lv_aload_n hx hb dX4_readWinding_29 rfl (lv_at hl 1 rfl) ?_
          refine lv_dup hx hb dX4_readWinding_30 rfl ?_
          refine va_get (D := D) (ci := 4) (v := .int (p4_place r1.2)) (C := RX4) (T := TX4) (N := 3) hx hb hts in_X4_readWinding_X4 hown hK hP 0 rfl rfl 2 (by decide) (hts _ lk_X4_readWinding_19) (fun _ h9 => h9) rfl dX4_readWinding_31 ?_
          refine lv_iconst (v := 1) hx hb dX4_readWinding_34 (by decide) ?_
          refine lv_iadd hx hb dX4_readWinding_35 ?_
          refine va_put (D := D) (ci := 4) (v := .int ((p4_place r1.2) + 1)) (ty := .int) (C := RX4) (T := TX4) (N := 3) hx hb hts in_X4_readWinding_X4 tyX4 tyX4_ok nmX4 hown hK hP hD hS 0 rfl rfl 2 (by decide) (hts _ lk_X4_readWinding_19) (fun _ h9 => h9) rfl (tyX4_ok 2 (by decide)) rfl rfl (Nat.le_of_ble_eq_true rfl) dX4_readWinding_36 (fun H locs hP hD hS => ?_)
          have hP : va_P D vwCl ([w4 cA a (s4_place r1.2 ((p4_place r1.2) + 1)), w2 cA b τ] : List va_W).flatten H := hP
          have hD : va_D _ ([w4 cA a (s4_place r1.2 ((p4_place r1.2) + 1)), w2 cA b τ] : List va_W).flatten := hD
          refine lv_aload_n hx hb dX4_readWinding_39 rfl (lv_at hl 1 rfl) ?_
          refine lv_bipush (v := 58) hx hb dX4_readWinding_40 (by decide) ?_
          obtain ⟨r6, hr6, h⟩ := bind_inv h
          refine kV (rest := []) (st1 := [.int r6.1]) (cr := [w2 cA b τ]) (cs' := [w4 cA a r6.2, w2 cA b τ]) Z (c_X4_take l D cA a (s4_place r1.2 ((p4_place r1.2) + 1)) 58 r6 hr6) 1 gX4_readWinding_X4_take rfl hdX4_take ⟨rfl, rfl⟩ ⟨Nat.le_of_ble_eq_true rfl, Nat.le_of_ble_eq_true rfl⟩ ⟨Nat.zero_le _, Nat.zero_le _⟩ hP hD hS hl.1 rfl rfl rfl (Nat.le_of_ble_eq_true rfl) 4 rfl rfl rfl [0] [1] [1, 0] rfl rfl rfl rfl rfl dX4_readWinding_42 (fun H locs hP hD hS => ?_)
          refine lv_if_ne (tgt := 50) hx hb dX4_readWinding_45 (by decide) (fun hc7 => ?_) (fun hc7 => ?_)
          · rw [if_neg hc7] at h
            refine lv_aload_n hx hb dX4_readWinding_50 rfl (lv_at hl 1 rfl) ?_
            refine lv_iconst (v := 1) hx hb dX4_readWinding_51 (by decide) ?_
            refine lv_bipush (v := 12) hx hb dX4_readWinding_52 (by decide) ?_
            obtain ⟨r8, hr8, h⟩ := bind_inv h
            refine kV (rest := []) (st1 := [.int r8.1]) (cr := [w2 cA b τ]) (cs' := [w4 cA a r8.2, w2 cA b τ]) Z (c_X4_takeNumber l D cA a r6.2 1 12 r8 hr8) 2 gX4_readWinding_X4_takeNumber rfl hdX4_takeNumber ⟨rfl, rfl⟩ ⟨Nat.le_of_ble_eq_true rfl, Nat.le_of_ble_eq_true rfl⟩ ⟨Nat.zero_le _, Nat.zero_le _⟩ hP hD hS hl.1 rfl rfl rfl (Nat.le_of_ble_eq_true rfl) 4 rfl rfl rfl [0] [1] [1, 0] rfl rfl rfl rfl rfl dX4_readWinding_54 (fun H locs hP hD hS => ?_)
            refine lv_istore (lv' := [(4, .int r8.1), (3, .int (r1.1 - 48)), (0, .ref (a 0)), (1, .ref (b 0)), (2, .int x2)]) hx hb dX4_readWinding_57 hl (by decide) rfl (fun ls hl => ?_)
            refine lv_iload hx hb dX4_readWinding_59 (lv_at hl 0 rfl) ?_
            refine lv_iconst (v := (-1)) hx hb dX4_readWinding_61 (by decide) ?_
            refine lv_icmp_ne (tgt := 67) hx hb dX4_readWinding_62 (by decide) (fun hc9 => ?_) (fun hc9 => ?_)
            · rw [if_neg hc9] at h
              refine lv_aload_n hx hb dX4_readWinding_67 rfl (lv_at hl 3 rfl) ?_
              refine va_getN (D := D) (ci := 2) (v := .ref (b 3)) (C := RX2) (T := TX2) (N := 7) hx hb hts in_X4_readWinding_X2 hown hK hP 2 rfl rfl 3 (by decide) (nest_use rfl (hKK.2 _ nk_X4_54)) (fun _ h9 => h9) rfl dX4_readWinding_68 ?_
              refine lv_iload_n hx hb dX4_readWinding_71 rfl (lv_at hl 4 rfl) ?_
              refine lv_iload_n hx hb dX4_readWinding_72 rfl (lv_at hl 1 rfl) ?_
              obtain ⟨hg10, h⟩ := if_inv h
              refine va_iast hx hb hK hP hD hS 5 0 rfl rfl (inB_in hg10) dX4_readWinding_73 (fun H locs hP hD hS => ?_)
              have hP : va_P D vwCl ([w4 cA a r8.2, w2 cA b (s2_winds τ (upd (p2_winds τ) x2.toNatClampNeg (r1.1 - 48)))] : List va_W).flatten H := hP
              have hD : va_D _ ([w4 cA a r8.2, w2 cA b (s2_winds τ (upd (p2_winds τ) x2.toNatClampNeg (r1.1 - 48)))] : List va_W).flatten := hD
              refine lv_aload_n hx hb dX4_readWinding_74 rfl (lv_at hl 3 rfl) ?_
              refine va_getN (D := D) (ci := 2) (v := .ref (b 4)) (C := RX2) (T := TX2) (N := 7) hx hb hts in_X4_readWinding_X2 hown hK hP 2 rfl rfl 4 (by decide) (nest_use rfl (hKK.2 _ nk_X4_57)) (fun _ h9 => h9) rfl dX4_readWinding_75 ?_
              refine lv_iload_n hx hb dX4_readWinding_78 rfl (lv_at hl 4 rfl) ?_
              refine lv_iload hx hb dX4_readWinding_79 (lv_at hl 0 rfl) ?_
              obtain ⟨hg11, h⟩ := if_inv h
              refine va_iast hx hb hK hP hD hS 6 0 rfl rfl (inB_in hg11) dX4_readWinding_81 (fun H locs hP hD hS => ?_)
              have hP : va_P D vwCl ([w4 cA a r8.2, w2 cA b (s2_keys (s2_winds τ (upd (p2_winds τ) x2.toNatClampNeg (r1.1 - 48))) (upd (p2_keys τ) x2.toNatClampNeg r8.1))] : List va_W).flatten H := hP
              have hD : va_D _ ([w4 cA a r8.2, w2 cA b (s2_keys (s2_winds τ (upd (p2_winds τ) x2.toNatClampNeg (r1.1 - 48))) (upd (p2_keys τ) x2.toNatClampNeg r8.1))] : List va_W).flatten := hD
              refine lv_iconst (v := 1) hx hb dX4_readWinding_82 (by decide) ?_
              have h := Option.some.inj h
              subst h
              exact CT.zret Z (nar_bool (Or.inr rfl)) hP hD hS dX4_readWinding_83
            · rw [if_pos hc9] at h
              refine lv_iconst (v := 0) hx hb dX4_readWinding_65 (by decide) ?_
              have h := Option.some.inj h
              subst h
              exact CT.zret Z (nar_bool (Or.inl rfl)) hP hD hS dX4_readWinding_66
          · rw [if_pos hc7] at h
            refine lv_iconst (v := 0) hx hb dX4_readWinding_48 (by decide) ?_
            have h := Option.some.inj h
            subst h
            exact CT.zret Z (nar_bool (Or.inl rfl)) hP hD hS dX4_readWinding_49
        · rw [if_neg hc5] at h
          refine lv_iconst (v := 0) hx hb dX4_readWinding_27 (by decide) ?_
          have h := Option.some.inj h
          subst h
          exact CT.zret Z (nar_bool (Or.inl rfl)) hP hD hS dX4_readWinding_28

-- X4.readPerson
theorem lk_X4_readPerson_19 : Cond.fieldLink RX4 19 "KeyedFeelings$Tape" "place" "I" ∈ wsX4_readPerson := by decide +kernel
theorem in_X4_readPerson_X4 : ∀ w ∈ wsX40, w ∈ wsX4_readPerson := by decide +kernel
theorem n1_X4_readPerson_X2 : Cond.initialized RX2 ∈ wsX4_readPerson := by decide +kernel
theorem n2_X4_readPerson_X2_join : Cond.instanceMethod yX2_join ∈ wsX4_readPerson := by decide +kernel
theorem n3_X4_readPerson_X2_join : Cond.selects RX2 yX2_join yX2_join ∈ wsX4_readPerson := by decide +kernel
noncomputable def f_X4_readPerson (σ : St4) (τ : St2) : Option (Int32 × St4 × St2) := ((f_X4_letterHere σ).bind (fun r1 => (if 0 ≤ (f_kind r1.1) then ((f_X4_takeNumber (s4_place r1.2 ((p4_place r1.2) + 1)) 0 30).bind (fun r3 => (if r3.1 = (-1) then some (0, r3.2, τ) else ((f_X2_join τ (f_kind r1.1) r3.1).bind (fun r5 => ((f_X4_take r3.2 62).bind (fun r6 => (if r6.1 = 0 then some (1, r6.2, r5.2) else ((f_X4_readWinding r6.2 r5.2 r5.1).bind (fun r8 => (if r8.1 = 0 then some (0, r8.2.1, r8.2.2) else some (1, r8.2.1, r8.2.2)))))))))))) else some (0, r1.2, τ))))
noncomputable def rmX4_readPerson : Room := { frames := 5, cells := 0, slots := 0, locals := 106 }
set_option maxHeartbeats 4000000 in
set_option maxRecDepth 100000 in
theorem c_X4_readPerson (l : Launch) (D : va_G) (cA : Nat → ClassId) (sk sv : Nat) (sf : Option Nat) (a : Nat → Nat) (b : Nat → Nat) (σ : St4) (τ : St2) (res : Int32 × St4 × St2) (h : f_X4_readPerson σ τ = some res) : CTs l D cA yX4_readPerson wsX4_readPerson rmX4_readPerson [.ref (a 0), .ref (b 0)] [w4 cA a σ, w2 cA b τ] [w4 cA a res.2.1, w2 cA b res.2.2] (some (.int res.1)) sk sv sf := by
  refine CTs.start (sk := sk) (sv := sv) (sf := sf) (cc := cX4_readPerson) (maxL := 5) (ret := (some .boolean)) (by decide) rfl (Nat.le_of_ble_eq_true rfl) ?_
  intro p e s m below meth c Z hSF hP hD hS ls hl
  have Z : Cx p s m _ meth c cX4_readPerson 5 (some .boolean) wsX4_readPerson RX4 D cA := Z
  have hl : lv_has ls 5 [(0, .ref (a 0)), (1, .ref (b 0))] := hl
  obtain ⟨hx, hb, hml, hown, hts, hr, hlk, hKK⟩ := id Z
  have hK := hKK.1
  rw [f_X4_readPerson] at h
  refine lv_aload_n hx hb dX4_readPerson_0 rfl (lv_at hl 0 rfl) ?_
  obtain ⟨r1, hr1, h⟩ := bind_inv h
  refine kV (rest := []) (st1 := [.int r1.1]) (cr := [w2 cA b τ]) (cs' := [w4 cA a r1.2, w2 cA b τ]) Z (c_X4_letterHere l D cA a σ r1 hr1) 0 gX4_readPerson_X4_letterHere rfl hdX4_letterHere ⟨rfl, rfl⟩ ⟨Nat.le_of_ble_eq_true rfl, Nat.le_of_ble_eq_true rfl⟩ ⟨Nat.zero_le _, Nat.zero_le _⟩ hP hD hS hl.1 rfl rfl rfl (Nat.le_of_ble_eq_true rfl) 4 rfl rfl rfl [0] [1] [1, 0] rfl rfl rfl rfl rfl dX4_readPerson_1 (fun H locs hP hD hS => ?_)
  refine kPS (rest := []) (st1 := [.int (f_kind r1.1)]) ⟨hx, hb, hml, hown, hts⟩ (c_X4_kindOf0 l sk sv sf r1.1) 1 gX4_readPerson_X4_kindOf rfl hdX4_kindOf ⟨rfl, rfl⟩ ⟨Nat.le_of_ble_eq_true rfl, Nat.le_of_ble_eq_true rfl⟩ ⟨Nat.zero_le _, Nat.zero_le _⟩ (fun U hU hW => hSF.go rfl hS hU hW (fun _ h => False.elim h)) hl.1 rfl rfl rfl (Nat.le_of_ble_eq_true rfl) dX4_readPerson_4 ?_
  refine lv_istore_n (lv' := [(2, .int (f_kind r1.1)), (0, .ref (a 0)), (1, .ref (b 0))]) hx hb dX4_readPerson_7 rfl hl (by decide) rfl (fun ls hl => ?_)
  refine lv_iload_n hx hb dX4_readPerson_8 rfl (lv_at hl 0 rfl) ?_
  refine lv_if_ge (tgt := 14) hx hb dX4_readPerson_9 (by decide) (fun hc2 => ?_) (fun hc2 => ?_)
  · rw [if_pos hc2] at h
    refine lv_aload_n hx hb dX4_readPerson_14 rfl (lv_at hl 1 rfl) ?_
    refine lv_dup hx hb dX4_readPerson_15 rfl ?_
    refine va_get (D := D) (ci := 4) (v := .int (p4_place r1.2)) (C := RX4) (T := TX4) (N := 3) hx hb hts in_X4_readPerson_X4 hown hK hP 0 rfl rfl 2 (by decide) (hts _ lk_X4_readPerson_19) (fun _ h9 => h9) rfl dX4_readPerson_16 ?_
    refine lv_iconst (v := 1) hx hb dX4_readPerson_19 (by decide) ?_
    refine lv_iadd hx hb dX4_readPerson_20 ?_
    refine va_put (D := D) (ci := 4) (v := .int ((p4_place r1.2) + 1)) (ty := .int) (C := RX4) (T := TX4) (N := 3) hx hb hts in_X4_readPerson_X4 tyX4 tyX4_ok nmX4 hown hK hP hD hS 0 rfl rfl 2 (by decide) (hts _ lk_X4_readPerson_19) (fun _ h9 => h9) rfl (tyX4_ok 2 (by decide)) rfl rfl (Nat.le_of_ble_eq_true rfl) dX4_readPerson_21 (fun H locs hP hD hS => ?_)
    have hP : va_P D vwCl ([w4 cA a (s4_place r1.2 ((p4_place r1.2) + 1)), w2 cA b τ] : List va_W).flatten H := hP
    have hD : va_D _ ([w4 cA a (s4_place r1.2 ((p4_place r1.2) + 1)), w2 cA b τ] : List va_W).flatten := hD
    refine lv_aload_n hx hb dX4_readPerson_24 rfl (lv_at hl 1 rfl) ?_
    refine lv_iconst (v := 0) hx hb dX4_readPerson_25 (by decide) ?_
    refine lv_bipush (v := 30) hx hb dX4_readPerson_26 (by decide) ?_
    obtain ⟨r3, hr3, h⟩ := bind_inv h
    refine kV (rest := []) (st1 := [.int r3.1]) (cr := [w2 cA b τ]) (cs' := [w4 cA a r3.2, w2 cA b τ]) Z (c_X4_takeNumber l D cA a (s4_place r1.2 ((p4_place r1.2) + 1)) 0 30 r3 hr3) 2 gX4_readPerson_X4_takeNumber rfl hdX4_takeNumber ⟨rfl, rfl⟩ ⟨Nat.le_of_ble_eq_true rfl, Nat.le_of_ble_eq_true rfl⟩ ⟨Nat.zero_le _, Nat.zero_le _⟩ hP hD hS hl.1 rfl rfl rfl (Nat.le_of_ble_eq_true rfl) 4 rfl rfl rfl [0] [1] [1, 0] rfl rfl rfl rfl rfl dX4_readPerson_28 (fun H locs hP hD hS => ?_)
    refine lv_istore_n (lv' := [(3, .int r3.1), (2, .int (f_kind r1.1)), (0, .ref (a 0)), (1, .ref (b 0))]) hx hb dX4_readPerson_31 rfl hl (by decide) rfl (fun ls hl => ?_)
    refine lv_iload_n hx hb dX4_readPerson_32 rfl (lv_at hl 0 rfl) ?_
    refine lv_iconst (v := (-1)) hx hb dX4_readPerson_33 (by decide) ?_
    refine lv_icmp_ne (tgt := 39) hx hb dX4_readPerson_34 (by decide) (fun hc4 => ?_) (fun hc4 => ?_)
    · rw [if_neg hc4] at h
      refine lv_aload_n hx hb dX4_readPerson_39 rfl (lv_at hl 3 rfl) ?_
      refine lv_iload_n hx hb dX4_readPerson_40 rfl (lv_at hl 1 rfl) ?_
      refine lv_iload_n hx hb dX4_readPerson_41 rfl (lv_at hl 0 rfl) ?_
      obtain ⟨r5, hr5, h⟩ := bind_inv h
      refine kVN (rest := []) (st1 := [.int r5.1]) (cr := [w4 cA a r3.2]) (cs' := [w4 cA a r3.2, w2 cA b r5.2]) Z (c_X2_join l D cA b τ (f_kind r1.1) r3.1 r5 hr5) 2 gX4_readPerson_X2_join_n45 rfl hdX2_join nk_X4_45 n1_X4_readPerson_X2 n2_X4_readPerson_X2_join n3_X4_readPerson_X2_join ⟨rfl, rfl⟩ ⟨Nat.le_of_ble_eq_true rfl, Nat.le_of_ble_eq_true rfl⟩ ⟨Nat.zero_le _, Nat.zero_le _⟩ hP hD hS hl.1 rfl rfl rfl (Nat.le_of_ble_eq_true rfl) 2 rfl rfl rfl [1] [0] [0, 1] rfl rfl rfl rfl rfl dX4_readPerson_42 (fun H locs hP hD hS => ?_)
      refine lv_istore (lv' := [(4, .int r5.1), (3, .int r3.1), (2, .int (f_kind r1.1)), (0, .ref (a 0)), (1, .ref (b 0))]) hx hb dX4_readPerson_45 hl (by decide) rfl (fun ls hl => ?_)
      refine lv_aload_n hx hb dX4_readPerson_47 rfl (lv_at hl 3 rfl) ?_
      refine lv_bipush (v := 62) hx hb dX4_readPerson_48 (by decide) ?_
      obtain ⟨r6, hr6, h⟩ := bind_inv h
      refine kV (rest := []) (st1 := [.int r6.1]) (cr := [w2 cA b r5.2]) (cs' := [w4 cA a r6.2, w2 cA b r5.2]) Z (c_X4_take l D cA a r3.2 62 r6 hr6) 1 gX4_readPerson_X4_take rfl hdX4_take ⟨rfl, rfl⟩ ⟨Nat.le_of_ble_eq_true rfl, Nat.le_of_ble_eq_true rfl⟩ ⟨Nat.zero_le _, Nat.zero_le _⟩ hP hD hS hl.1 rfl rfl rfl (Nat.le_of_ble_eq_true rfl) 4 rfl rfl rfl [0] [1] [1, 0] rfl rfl rfl rfl rfl dX4_readPerson_50 (fun H locs hP hD hS => ?_)
      refine lv_if_eq (tgt := 66) hx hb dX4_readPerson_53 (by decide) (fun hc7 => ?_) (fun hc7 => ?_)
      · rw [if_pos hc7] at h
        refine lv_iconst (v := 1) hx hb dX4_readPerson_66 (by decide) ?_
        refine lv_goto (tgt := 71) hx hb dX4_readPerson_67 (by decide) ?_
        have h := Option.some.inj h
        subst h
        exact CT.zret Z (nar_bool (Or.inr rfl)) hP hD hS dX4_readPerson_71
      · rw [if_neg hc7] at h
        refine lv_aload_n hx hb dX4_readPerson_56 rfl (lv_at hl 3 rfl) ?_
        refine lv_aload_n hx hb dX4_readPerson_57 rfl (lv_at hl 4 rfl) ?_
        refine lv_iload hx hb dX4_readPerson_58 (lv_at hl 0 rfl) ?_
        obtain ⟨r8, hr8, h⟩ := bind_inv h
        refine kV (rest := []) (st1 := [.int r8.1]) (cr := []) (cs' := [w4 cA a r8.2.1, w2 cA b r8.2.2]) Z (c_X4_readWinding l D cA a b r6.2 r5.2 r5.1 r8 hr8) 2 gX4_readPerson_X4_readWinding rfl hdX4_readWinding ⟨rfl, rfl⟩ ⟨Nat.le_of_ble_eq_true rfl, Nat.le_of_ble_eq_true rfl⟩ ⟨Nat.zero_le _, Nat.zero_le _⟩ hP hD hS hl.1 rfl rfl rfl (Nat.le_of_ble_eq_true rfl) 4 rfl rfl rfl [0, 1] [] [0, 1] rfl rfl rfl rfl rfl dX4_readPerson_60 (fun H locs hP hD hS => ?_)
        refine lv_if_eq (tgt := 70) hx hb dX4_readPerson_63 (by decide) (fun hc9 => ?_) (fun hc9 => ?_)
        · rw [if_pos hc9] at h
          refine lv_iconst (v := 0) hx hb dX4_readPerson_70 (by decide) ?_
          have h := Option.some.inj h
          subst h
          exact CT.zret Z (nar_bool (Or.inl rfl)) hP hD hS dX4_readPerson_71
        · rw [if_neg hc9] at h
          refine lv_iconst (v := 1) hx hb dX4_readPerson_66 (by decide) ?_
          refine lv_goto (tgt := 71) hx hb dX4_readPerson_67 (by decide) ?_
          have h := Option.some.inj h
          subst h
          exact CT.zret Z (nar_bool (Or.inr rfl)) hP hD hS dX4_readPerson_71
    · rw [if_pos hc4] at h
      refine lv_iconst (v := 0) hx hb dX4_readPerson_37 (by decide) ?_
      have h := Option.some.inj h
      subst h
      exact CT.zret Z (nar_bool (Or.inl rfl)) hP hD hS dX4_readPerson_38
  · rw [if_neg hc2] at h
    refine lv_iconst (v := 0) hx hb dX4_readPerson_12 (by decide) ?_
    have h := Option.some.inj h
    subst h
    exact CT.zret Z (nar_bool (Or.inl rfl)) hP hD hS dX4_readPerson_13

-- X4.allWoundAreThere
theorem in_X4_allWoundAreThere_X2 : ∀ w ∈ wsX20, w ∈ wsX4_allWoundAreThere := by decide +kernel
theorem n1_X4_allWoundAreThere_X2 : Cond.initialized RX2 ∈ wsX4_allWoundAreThere := by decide +kernel
theorem n2_X4_allWoundAreThere_X2_has : Cond.instanceMethod yX2_has ∈ wsX4_allWoundAreThere := by decide +kernel
theorem n3_X4_allWoundAreThere_X2_has : Cond.selects RX2 yX2_has yX2_has ∈ wsX4_allWoundAreThere := by decide +kernel
noncomputable def lp_X4_allWoundAreThere_2 (τ : St2) : Nat → Int32 → Option (Int32)
  | 0, _ => none
  | n + 1, x1 => (if (p2_size τ) ≤ x1 then some 1 else (if inB x1 6 = true then (if ((p2_winds τ) x1.toNatClampNeg) = (-4) then lp_X4_allWoundAreThere_2 τ n (x1 + 1) else (if inB x1 6 = true then ((f_X2_has τ ((p2_winds τ) x1.toNatClampNeg)).bind (fun r5 => (if r5 = 0 then some 0 else lp_X4_allWoundAreThere_2 τ n (x1 + 1)))) else none)) else none))
noncomputable def f_X4_allWoundAreThere (τ : St2) : Option (Int32) := lp_X4_allWoundAreThere_2 τ FU 0
noncomputable def rmX4_allWoundAreThere : Room := { frames := 1, cells := 0, slots := 0, locals := 21 }
set_option maxHeartbeats 4000000 in
set_option maxRecDepth 100000 in
theorem t_X4_allWoundAreThere_2 {p : Program} {l : Launch} {e : Env} {s : State} {m : MethodId} {args : Array Value} {below : List Frame} {meth : Method} {c : Code} {D : va_G} {cA : Nat → ClassId} {b : Nat → Nat} (Z : Cx p s m args meth c cX4_allWoundAreThere 2 (some .boolean) wsX4_allWoundAreThere RX4 D cA) (τ : St2) {cs : List va_W} : ∀ (n : Nat) (x1 : Int32) (q : Int32), lp_X4_allWoundAreThere_2 τ n x1 = some q → ∀ (H : Heap) (locs : List Loc) (ls : Array Slot), va_P D vwCl ([w2 cA b τ] : List va_W).flatten H → va_D (aIn cs.flatten) ([w2 cA b τ] : List va_W).flatten → va_S (aIn cs.flatten) s.heap H locs → lv_has ls 2 [(0, .ref (b 0)), (1, .int x1)] → W p l e rmX4_allWoundAreThere s m args below meth c H locs 0 0 (MQ below (QR D cs [w2 cA b τ] (some (.int q))) args s 0 0 (aIn cs.flatten)) (F0 m 2 ls []) := by
  obtain ⟨hx, hb, hml, hown, hts, hr, hlk, hKK⟩ := id Z
  have hK := hKK.1
  intro n
  induction n with
  | zero =>
    intro x1 q h
    rw [lp_X4_allWoundAreThere_2] at h
    cases h
  | succ n ih =>
    intro x1 q h H locs ls hP hD hS hl 
    rw [lp_X4_allWoundAreThere_2] at h
    refine lv_iload_n hx hb dX4_allWoundAreThere_2 rfl (lv_at hl 1 rfl) ?_
    refine lv_aload_n hx hb dX4_allWoundAreThere_3 rfl (lv_at hl 0 rfl) ?_
    refine va_getN (D := D) (ci := 2) (v := .int (p2_size τ)) (C := RX2) (T := TX2) (N := 7) hx hb hts in_X4_allWoundAreThere_X2 hown hK hP 0 rfl rfl 0 (by decide) (nest_use rfl (hKK.2 _ nk_X4_60)) (fun _ h9 => h9) rfl dX4_allWoundAreThere_4 ?_
    refine lv_icmp_ge (tgt := 42) hx hb dX4_allWoundAreThere_7 (by decide) (fun hc1 => ?_) (fun hc1 => ?_)
    · rw [if_pos hc1] at h
      refine lv_iconst (v := 1) hx hb dX4_allWoundAreThere_42 (by decide) ?_
      have h := Option.some.inj h
      subst h
      exact CT.zret Z (nar_bool (Or.inr rfl)) hP hD hS dX4_allWoundAreThere_43
    · rw [if_neg hc1] at h
      refine lv_aload_n hx hb dX4_allWoundAreThere_10 rfl (lv_at hl 0 rfl) ?_
      refine va_getN (D := D) (ci := 2) (v := .ref (b 3)) (C := RX2) (T := TX2) (N := 7) hx hb hts in_X4_allWoundAreThere_X2 hown hK hP 0 rfl rfl 3 (by decide) (nest_use rfl (hKK.2 _ nk_X4_54)) (fun _ h9 => h9) rfl dX4_allWoundAreThere_11 ?_
      refine lv_iload_n hx hb dX4_allWoundAreThere_14 rfl (lv_at hl 1 rfl) ?_
      obtain ⟨hg2, h⟩ := if_inv h
      refine va_iald hx hb hK hP 3 0 rfl rfl (inB_in hg2) dX4_allWoundAreThere_15 ?_
      refine lv_bipush (v := (-4)) hx hb dX4_allWoundAreThere_16 (by decide) ?_
      refine lv_icmp_eq (tgt := 36) hx hb dX4_allWoundAreThere_18 (by decide) (fun hc3 => ?_) (fun hc3 => ?_)
      · rw [if_pos hc3] at h
        refine lv_iinc (v := x1 + 1) (lv' := [(1, .int (x1 + 1)), (0, .ref (b 0))]) hx hb dX4_allWoundAreThere_36 hl (k := 1) rfl rfl (by decide) rfl (fun ls hl => ?_)
        refine lv_goto (tgt := 2) hx hb dX4_allWoundAreThere_39 (by decide) ?_
        exact ih _ _ h _ _ _ hP hD hS (lv_sub hl [1, 0] rfl)
      · rw [if_neg hc3] at h
        refine lv_aload_n hx hb dX4_allWoundAreThere_21 rfl (lv_at hl 0 rfl) ?_
        refine lv_aload_n hx hb dX4_allWoundAreThere_22 rfl (lv_at hl 0 rfl) ?_
        refine va_getN (D := D) (ci := 2) (v := .ref (b 3)) (C := RX2) (T := TX2) (N := 7) hx hb hts in_X4_allWoundAreThere_X2 hown hK hP 0 rfl rfl 3 (by decide) (nest_use rfl (hKK.2 _ nk_X4_54)) (fun _ h9 => h9) rfl dX4_allWoundAreThere_23 ?_
        refine lv_iload_n hx hb dX4_allWoundAreThere_26 rfl (lv_at hl 1 rfl) ?_
        obtain ⟨hg4, h⟩ := if_inv h
        refine va_iald hx hb hK hP 3 0 rfl rfl (inB_in hg4) dX4_allWoundAreThere_27 ?_
        obtain ⟨r5, hr5, h⟩ := bind_inv h
        refine kVN (rest := []) (st1 := [.int r5]) (cr := []) (cs' := [w2 cA b τ]) Z (c_X2_has l D cA b τ ((p2_winds τ) x1.toNatClampNeg) r5 hr5) 1 gX4_allWoundAreThere_X2_has_n61 rfl hdX2_has nk_X4_61 n1_X4_allWoundAreThere_X2 n2_X4_allWoundAreThere_X2_has n3_X4_allWoundAreThere_X2_has ⟨rfl, rfl⟩ ⟨Nat.le_of_ble_eq_true rfl, Nat.le_of_ble_eq_true rfl⟩ ⟨Nat.zero_le _, Nat.zero_le _⟩ hP hD hS hl.1 rfl rfl rfl (Nat.le_of_ble_eq_true rfl) 2 rfl rfl rfl [0] [] [0] rfl rfl rfl rfl rfl dX4_allWoundAreThere_28 (fun H locs hP hD hS => ?_)
        refine lv_if_ne (tgt := 36) hx hb dX4_allWoundAreThere_31 (by decide) (fun hc6 => ?_) (fun hc6 => ?_)
        · rw [if_neg hc6] at h
          refine lv_iinc (v := x1 + 1) (lv' := [(1, .int (x1 + 1)), (0, .ref (b 0))]) hx hb dX4_allWoundAreThere_36 hl (k := 1) rfl rfl (by decide) rfl (fun ls hl => ?_)
          refine lv_goto (tgt := 2) hx hb dX4_allWoundAreThere_39 (by decide) ?_
          exact ih _ _ h _ _ _ hP hD hS (lv_sub hl [1, 0] rfl)
        · rw [if_pos hc6] at h
          refine lv_iconst (v := 0) hx hb dX4_allWoundAreThere_34 (by decide) ?_
          have h := Option.some.inj h
          subst h
          exact CT.zret Z (nar_bool (Or.inl rfl)) hP hD hS dX4_allWoundAreThere_35
set_option maxHeartbeats 4000000 in
set_option maxRecDepth 100000 in
theorem c_X4_allWoundAreThere (l : Launch) (D : va_G) (cA : Nat → ClassId) (b : Nat → Nat) (τ : St2) (res : Int32) (h : f_X4_allWoundAreThere τ = some res) : CT l D cA yX4_allWoundAreThere wsX4_allWoundAreThere rmX4_allWoundAreThere [.ref (b 0)] [w2 cA b τ] [w2 cA b τ] (some (.int res)) := by
  refine CT.start (cc := cX4_allWoundAreThere) (maxL := 2) (ret := (some .boolean)) (by decide) rfl (Nat.le_of_ble_eq_true rfl) ?_
  intro p e s m below meth c Z hP hD hS ls hl
  have Z : Cx p s m _ meth c cX4_allWoundAreThere 2 (some .boolean) wsX4_allWoundAreThere RX4 D cA := Z
  have hl : lv_has ls 2 [(0, .ref (b 0))] := hl
  obtain ⟨hx, hb, hml, hown, hts, hr, hlk, hKK⟩ := id Z
  have hK := hKK.1
  rw [f_X4_allWoundAreThere] at h
  refine lv_iconst (v := 0) hx hb dX4_allWoundAreThere_0 (by decide) ?_
  refine lv_istore_n (lv' := [(1, .int 0), (0, .ref (b 0))]) hx hb dX4_allWoundAreThere_1 rfl hl (by decide) rfl (fun ls hl => ?_)
  exact t_X4_allWoundAreThere_2 Z τ FU _ _ h _ _ _ hP hD hS (lv_sub hl [1, 0] rfl)

-- X4.readClose
theorem lk_X4_readClose_19 : Cond.fieldLink RX4 19 "KeyedFeelings$Tape" "place" "I" ∈ wsX4_readClose := by decide +kernel
theorem in_X4_readClose_X4 : ∀ w ∈ wsX40, w ∈ wsX4_readClose := by decide +kernel
noncomputable def lp_X4_readClose_7  : Nat → Int32 → St4 → St2 → Option (Int32 × St4 × St2)
  | 0, _, _, _ => none
  | n + 1, x2, σ, τ => (if 6 ≤ x2 then ((f_X4_letterHere σ).bind (fun r2 => (if r2.1 = (-1) then ((f_X4_allWoundAreThere τ).bind (fun r4 => (if r4 = 0 then some (0, r2.2, τ) else some (1, r2.2, τ)))) else some (0, r2.2, τ)))) else (if x2 ≤ 0 then ((f_X4_readPerson σ τ).bind (fun r7 => (if r7.1 = 0 then some (0, r7.2.1, r7.2.2) else lp_X4_readClose_7  n (x2 + 1) r7.2.1 r7.2.2))) else ((f_X4_take σ 44).bind (fun r9 => (if r9.1 = 0 then ((f_X4_letterHere r9.2).bind (fun r13 => (if r13.1 = (-1) then ((f_X4_allWoundAreThere τ).bind (fun r15 => (if r15 = 0 then some (0, r13.2, τ) else some (1, r13.2, τ)))) else some (0, r13.2, τ)))) else ((f_X4_readPerson r9.2 τ).bind (fun r11 => (if r11.1 = 0 then some (0, r11.2.1, r11.2.2) else lp_X4_readClose_7  n (x2 + 1) r11.2.1 r11.2.2))))))))
noncomputable def f_X4_readClose (σ : St4) (τ : St2) : Option (Int32 × St4 × St2) := lp_X4_readClose_7  FU 0 (s4_place σ 0) τ
noncomputable def rmX4_readClose : Room := { frames := 6, cells := 0, slots := 0, locals := 130 }
set_option maxHeartbeats 4000000 in
set_option maxRecDepth 100000 in
theorem t_X4_readClose_7 {p : Program} {l : Launch} {e : Env} {s : State} {m : MethodId} {args : Array Value} {below : List Frame} {meth : Method} {c : Code} {D : va_G} {cA : Nat → ClassId} {a : Nat → Nat} {b : Nat → Nat} (Z : Cx p s m args meth c cX4_readClose 3 (some .boolean) wsX4_readClose RX4 D cA)  {cs : List va_W} {sk sv : Nat} {sf : Option Nat} (hSF : SF sk sv sf (aIn cs.flatten) s) : ∀ (n : Nat) (x2 : Int32) (σ : St4) (τ : St2) (q : Int32 × St4 × St2), lp_X4_readClose_7  n x2 σ τ = some q → ∀ (H : Heap) (locs : List Loc) (ls : Array Slot), va_P D vwCl ([w4 cA a σ, w2 cA b τ] : List va_W).flatten H → va_D (aIn cs.flatten) ([w4 cA a σ, w2 cA b τ] : List va_W).flatten → va_S (aIn cs.flatten) s.heap H locs → lv_has ls 3 [(0, .ref (a 0)), (1, .ref (b 0)), (2, .int x2)] → W p l e rmX4_readClose s m args below meth c H locs 0 0 (MQ below (QR D cs [w4 cA a q.2.1, w2 cA b q.2.2] (some (.int q.1))) args s 0 0 (aIn cs.flatten)) (F0 m 7 ls []) := by
  obtain ⟨hx, hb, hml, hown, hts, hr, hlk, hKK⟩ := id Z
  have hK := hKK.1
  intro n
  induction n with
  | zero =>
    intro x2 σ τ q h
    rw [lp_X4_readClose_7] at h
    cases h
  | succ n ih =>
    intro x2 σ τ q h H locs ls hP hD hS hl 
    rw [lp_X4_readClose_7] at h
    refine lv_iload_n hx hb dX4_readClose_7 rfl (lv_at hl 2 rfl) ?_
    refine lv_bipush (v := 6) hx hb dX4_readClose_8 (by decide) ?_
    refine lv_icmp_ge (tgt := 45) hx hb dX4_readClose_10 (by decide) (fun hc1 => ?_) (fun hc1 => ?_)
    · rw [if_pos hc1] at h
      refine lv_aload_n hx hb dX4_readClose_45 rfl (lv_at hl 0 rfl) ?_
      obtain ⟨r2, hr2, h⟩ := bind_inv h
      refine kV (rest := []) (st1 := [.int r2.1]) (cr := [w2 cA b τ]) (cs' := [w4 cA a r2.2, w2 cA b τ]) Z (c_X4_letterHere l D cA a σ r2 hr2) 0 gX4_readClose_X4_letterHere rfl hdX4_letterHere ⟨rfl, rfl⟩ ⟨Nat.le_of_ble_eq_true rfl, Nat.le_of_ble_eq_true rfl⟩ ⟨Nat.zero_le _, Nat.zero_le _⟩ hP hD hS hl.1 rfl rfl rfl (Nat.le_of_ble_eq_true rfl) 4 rfl rfl rfl [0] [1] [1, 0] rfl rfl rfl rfl rfl dX4_readClose_46 (fun H locs hP hD hS => ?_)
      refine lv_iconst (v := (-1)) hx hb dX4_readClose_49 (by decide) ?_
      refine lv_icmp_ne (tgt := 64) hx hb dX4_readClose_50 (by decide) (fun hc3 => ?_) (fun hc3 => ?_)
      · rw [if_neg hc3] at h
        refine lv_iconst (v := 0) hx hb dX4_readClose_64 (by decide) ?_
        have h := Option.some.inj h
        subst h
        exact CT.zret Z (nar_bool (Or.inl rfl)) hP hD hS dX4_readClose_65
      · rw [if_pos hc3] at h
        refine lv_aload_n hx hb dX4_readClose_53 rfl (lv_at hl 1 rfl) ?_
        obtain ⟨r4, hr4, h⟩ := bind_inv h
        refine kS (rest := []) (st1 := [.int r4]) (cr := [w4 cA a r2.2]) (cs' := [w4 cA a r2.2, w2 cA b τ]) Z (c_X4_allWoundAreThere l D cA b τ r4 hr4) 1 gX4_readClose_X4_allWoundAreThere rfl hdX4_allWoundAreThere ⟨rfl, rfl⟩ ⟨Nat.le_of_ble_eq_true rfl, Nat.le_of_ble_eq_true rfl⟩ ⟨Nat.zero_le _, Nat.zero_le _⟩ hP hD hS hl.1 rfl rfl rfl (Nat.le_of_ble_eq_true rfl) [1] [0] [0, 1] rfl rfl rfl rfl rfl dX4_readClose_54 (fun H locs hP hD hS => ?_)
        refine lv_if_eq (tgt := 64) hx hb dX4_readClose_57 (by decide) (fun hc5 => ?_) (fun hc5 => ?_)
        · rw [if_pos hc5] at h
          refine lv_iconst (v := 0) hx hb dX4_readClose_64 (by decide) ?_
          have h := Option.some.inj h
          subst h
          exact CT.zret Z (nar_bool (Or.inl rfl)) hP hD hS dX4_readClose_65
        · rw [if_neg hc5] at h
          refine lv_iconst (v := 1) hx hb dX4_readClose_60 (by decide) ?_
          refine lv_goto (tgt := 65) hx hb dX4_readClose_61 (by decide) ?_
          have h := Option.some.inj h
          subst h
          exact CT.zret Z (nar_bool (Or.inr rfl)) hP hD hS dX4_readClose_65
    · rw [if_neg hc1] at h
      refine lv_iload_n hx hb dX4_readClose_13 rfl (lv_at hl 2 rfl) ?_
      refine lv_if_le (tgt := 29) hx hb dX4_readClose_14 (by decide) (fun hc6 => ?_) (fun hc6 => ?_)
      · rw [if_pos hc6] at h
        refine lv_aload_n hx hb dX4_readClose_29 rfl (lv_at hl 0 rfl) ?_
        refine lv_aload_n hx hb dX4_readClose_30 rfl (lv_at hl 1 rfl) ?_
        obtain ⟨r7, hr7, h⟩ := bind_inv h
        refine kVs (rest := []) (st1 := [.int r7.1]) (cr := []) (cs' := [w4 cA a r7.2.1, w2 cA b r7.2.2]) Z hSF (c_X4_readPerson l D cA sk sv sf a b σ τ r7 hr7) 1 gX4_readClose_X4_readPerson rfl hdX4_readPerson ⟨rfl, rfl⟩ ⟨Nat.le_of_ble_eq_true rfl, Nat.le_of_ble_eq_true rfl⟩ ⟨Nat.zero_le _, Nat.zero_le _⟩ hP hD hS hl.1 rfl rfl rfl (Nat.le_of_ble_eq_true rfl) 4 rfl rfl rfl [0, 1] [] [0, 1] rfl rfl rfl rfl rfl dX4_readClose_31 (fun H locs hP hD hS => ?_)
        refine lv_if_ne (tgt := 39) hx hb dX4_readClose_34 (by decide) (fun hc8 => ?_) (fun hc8 => ?_)
        · rw [if_neg hc8] at h
          refine lv_iinc (v := x2 + 1) (lv' := [(2, .int (x2 + 1)), (0, .ref (a 0)), (1, .ref (b 0))]) hx hb dX4_readClose_39 hl (k := 2) rfl rfl (by decide) rfl (fun ls hl => ?_)
          refine lv_goto (tgt := 7) hx hb dX4_readClose_42 (by decide) ?_
          exact ih _ _ _ _ h _ _ _ hP hD hS (lv_sub hl [1, 2, 0] rfl)
        · rw [if_pos hc8] at h
          refine lv_iconst (v := 0) hx hb dX4_readClose_37 (by decide) ?_
          have h := Option.some.inj h
          subst h
          exact CT.zret Z (nar_bool (Or.inl rfl)) hP hD hS dX4_readClose_38
      · rw [if_neg hc6] at h
        refine lv_aload_n hx hb dX4_readClose_17 rfl (lv_at hl 0 rfl) ?_
        refine lv_bipush (v := 44) hx hb dX4_readClose_18 (by decide) ?_
        obtain ⟨r9, hr9, h⟩ := bind_inv h
        refine kV (rest := []) (st1 := [.int r9.1]) (cr := [w2 cA b τ]) (cs' := [w4 cA a r9.2, w2 cA b τ]) Z (c_X4_take l D cA a σ 44 r9 hr9) 1 gX4_readClose_X4_take rfl hdX4_take ⟨rfl, rfl⟩ ⟨Nat.le_of_ble_eq_true rfl, Nat.le_of_ble_eq_true rfl⟩ ⟨Nat.zero_le _, Nat.zero_le _⟩ hP hD hS hl.1 rfl rfl rfl (Nat.le_of_ble_eq_true rfl) 4 rfl rfl rfl [0] [1] [1, 0] rfl rfl rfl rfl rfl dX4_readClose_20 (fun H locs hP hD hS => ?_)
        refine lv_if_ne (tgt := 29) hx hb dX4_readClose_23 (by decide) (fun hc10 => ?_) (fun hc10 => ?_)
        · rw [if_neg hc10] at h
          refine lv_aload_n hx hb dX4_readClose_29 rfl (lv_at hl 0 rfl) ?_
          refine lv_aload_n hx hb dX4_readClose_30 rfl (lv_at hl 1 rfl) ?_
          obtain ⟨r11, hr11, h⟩ := bind_inv h
          refine kVs (rest := []) (st1 := [.int r11.1]) (cr := []) (cs' := [w4 cA a r11.2.1, w2 cA b r11.2.2]) Z hSF (c_X4_readPerson l D cA sk sv sf a b r9.2 τ r11 hr11) 1 gX4_readClose_X4_readPerson rfl hdX4_readPerson ⟨rfl, rfl⟩ ⟨Nat.le_of_ble_eq_true rfl, Nat.le_of_ble_eq_true rfl⟩ ⟨Nat.zero_le _, Nat.zero_le _⟩ hP hD hS hl.1 rfl rfl rfl (Nat.le_of_ble_eq_true rfl) 4 rfl rfl rfl [0, 1] [] [0, 1] rfl rfl rfl rfl rfl dX4_readClose_31 (fun H locs hP hD hS => ?_)
          refine lv_if_ne (tgt := 39) hx hb dX4_readClose_34 (by decide) (fun hc12 => ?_) (fun hc12 => ?_)
          · rw [if_neg hc12] at h
            refine lv_iinc (v := x2 + 1) (lv' := [(2, .int (x2 + 1)), (0, .ref (a 0)), (1, .ref (b 0))]) hx hb dX4_readClose_39 hl (k := 2) rfl rfl (by decide) rfl (fun ls hl => ?_)
            refine lv_goto (tgt := 7) hx hb dX4_readClose_42 (by decide) ?_
            exact ih _ _ _ _ h _ _ _ hP hD hS (lv_sub hl [1, 2, 0] rfl)
          · rw [if_pos hc12] at h
            refine lv_iconst (v := 0) hx hb dX4_readClose_37 (by decide) ?_
            have h := Option.some.inj h
            subst h
            exact CT.zret Z (nar_bool (Or.inl rfl)) hP hD hS dX4_readClose_38
        · rw [if_pos hc10] at h
          refine lv_goto (tgt := 45) hx hb dX4_readClose_26 (by decide) ?_
          refine lv_aload_n hx hb dX4_readClose_45 rfl (lv_at hl 0 rfl) ?_
          obtain ⟨r13, hr13, h⟩ := bind_inv h
          refine kV (rest := []) (st1 := [.int r13.1]) (cr := [w2 cA b τ]) (cs' := [w4 cA a r13.2, w2 cA b τ]) Z (c_X4_letterHere l D cA a r9.2 r13 hr13) 0 gX4_readClose_X4_letterHere rfl hdX4_letterHere ⟨rfl, rfl⟩ ⟨Nat.le_of_ble_eq_true rfl, Nat.le_of_ble_eq_true rfl⟩ ⟨Nat.zero_le _, Nat.zero_le _⟩ hP hD hS hl.1 rfl rfl rfl (Nat.le_of_ble_eq_true rfl) 4 rfl rfl rfl [0] [1] [1, 0] rfl rfl rfl rfl rfl dX4_readClose_46 (fun H locs hP hD hS => ?_)
          refine lv_iconst (v := (-1)) hx hb dX4_readClose_49 (by decide) ?_
          refine lv_icmp_ne (tgt := 64) hx hb dX4_readClose_50 (by decide) (fun hc14 => ?_) (fun hc14 => ?_)
          · rw [if_neg hc14] at h
            refine lv_iconst (v := 0) hx hb dX4_readClose_64 (by decide) ?_
            have h := Option.some.inj h
            subst h
            exact CT.zret Z (nar_bool (Or.inl rfl)) hP hD hS dX4_readClose_65
          · rw [if_pos hc14] at h
            refine lv_aload_n hx hb dX4_readClose_53 rfl (lv_at hl 1 rfl) ?_
            obtain ⟨r15, hr15, h⟩ := bind_inv h
            refine kS (rest := []) (st1 := [.int r15]) (cr := [w4 cA a r13.2]) (cs' := [w4 cA a r13.2, w2 cA b τ]) Z (c_X4_allWoundAreThere l D cA b τ r15 hr15) 1 gX4_readClose_X4_allWoundAreThere rfl hdX4_allWoundAreThere ⟨rfl, rfl⟩ ⟨Nat.le_of_ble_eq_true rfl, Nat.le_of_ble_eq_true rfl⟩ ⟨Nat.zero_le _, Nat.zero_le _⟩ hP hD hS hl.1 rfl rfl rfl (Nat.le_of_ble_eq_true rfl) [1] [0] [0, 1] rfl rfl rfl rfl rfl dX4_readClose_54 (fun H locs hP hD hS => ?_)
            refine lv_if_eq (tgt := 64) hx hb dX4_readClose_57 (by decide) (fun hc16 => ?_) (fun hc16 => ?_)
            · rw [if_pos hc16] at h
              refine lv_iconst (v := 0) hx hb dX4_readClose_64 (by decide) ?_
              have h := Option.some.inj h
              subst h
              exact CT.zret Z (nar_bool (Or.inl rfl)) hP hD hS dX4_readClose_65
            · rw [if_neg hc16] at h
              refine lv_iconst (v := 1) hx hb dX4_readClose_60 (by decide) ?_
              refine lv_goto (tgt := 65) hx hb dX4_readClose_61 (by decide) ?_
              have h := Option.some.inj h
              subst h
              exact CT.zret Z (nar_bool (Or.inr rfl)) hP hD hS dX4_readClose_65
set_option maxHeartbeats 4000000 in
set_option maxRecDepth 100000 in
theorem c_X4_readClose (l : Launch) (D : va_G) (cA : Nat → ClassId) (sk sv : Nat) (sf : Option Nat) (a : Nat → Nat) (b : Nat → Nat) (σ : St4) (τ : St2) (res : Int32 × St4 × St2) (h : f_X4_readClose σ τ = some res) : CTs l D cA yX4_readClose wsX4_readClose rmX4_readClose [.ref (a 0), .ref (b 0)] [w4 cA a σ, w2 cA b τ] [w4 cA a res.2.1, w2 cA b res.2.2] (some (.int res.1)) sk sv sf := by
  refine CTs.start (sk := sk) (sv := sv) (sf := sf) (cc := cX4_readClose) (maxL := 3) (ret := (some .boolean)) (by decide) rfl (Nat.le_of_ble_eq_true rfl) ?_
  intro p e s m below meth c Z hSF hP hD hS ls hl
  have Z : Cx p s m _ meth c cX4_readClose 3 (some .boolean) wsX4_readClose RX4 D cA := Z
  have hl : lv_has ls 3 [(0, .ref (a 0)), (1, .ref (b 0))] := hl
  obtain ⟨hx, hb, hml, hown, hts, hr, hlk, hKK⟩ := id Z
  have hK := hKK.1
  rw [f_X4_readClose] at h
  refine lv_aload_n hx hb dX4_readClose_0 rfl (lv_at hl 0 rfl) ?_
  refine lv_iconst (v := 0) hx hb dX4_readClose_1 (by decide) ?_
  refine va_put (D := D) (ci := 4) (v := .int 0) (ty := .int) (C := RX4) (T := TX4) (N := 3) hx hb hts in_X4_readClose_X4 tyX4 tyX4_ok nmX4 hown hK hP hD hS 0 rfl rfl 2 (by decide) (hts _ lk_X4_readClose_19) (fun _ h9 => h9) rfl (tyX4_ok 2 (by decide)) rfl rfl (Nat.le_of_ble_eq_true rfl) dX4_readClose_2 (fun H locs hP hD hS => ?_)
  have hP : va_P D vwCl ([w4 cA a (s4_place σ 0), w2 cA b τ] : List va_W).flatten H := hP
  have hD : va_D _ ([w4 cA a (s4_place σ 0), w2 cA b τ] : List va_W).flatten := hD
  refine lv_iconst (v := 0) hx hb dX4_readClose_5 (by decide) ?_
  refine lv_istore_n (lv' := [(2, .int 0), (0, .ref (a 0)), (1, .ref (b 0))]) hx hb dX4_readClose_6 rfl hl (by decide) rfl (fun ls hl => ?_)
  exact t_X4_readClose_7 Z  hSF FU _ _ _ _ h _ _ _ hP hD hS (lv_sub hl [1, 2, 0] rfl)

-- X5.close
theorem lk_X5_close_33 : Cond.fieldLink RX5 33 "KeyedFeelings" "trial" "LKeyedFeelings$People;" ∈ wsX5_close := by decide +kernel
theorem in_X5_close_X5 : ∀ w ∈ wsX50, w ∈ wsX5_close := by decide +kernel
theorem n1_X5_close_X2 : Cond.initialized RX2 ∈ wsX5_close := by decide +kernel
theorem n2_X5_close_X2_empty : Cond.instanceMethod yX2_empty ∈ wsX5_close := by decide +kernel
theorem n3_X5_close_X2_empty : Cond.selects RX2 yX2_empty yX2_empty ∈ wsX5_close := by decide +kernel
theorem lk_X5_close_39 : Cond.fieldLink RX5 39 "KeyedFeelings" "tape" "LKeyedFeelings$Tape;" ∈ wsX5_close := by decide +kernel
theorem n1_X5_close_X4 : Cond.initialized RX4 ∈ wsX5_close := by decide +kernel
theorem n2_X5_close_X4_readClose : Cond.instanceMethod yX4_readClose ∈ wsX5_close := by decide +kernel
theorem n3_X5_close_X4_readClose : Cond.selects RX4 yX4_readClose yX4_readClose ∈ wsX5_close := by decide +kernel
theorem in_X5_close_X4 : ∀ w ∈ wsX40, w ∈ wsX5_close := by decide +kernel
theorem n2_X5_close_X4_empty : Cond.instanceMethod yX4_empty ∈ wsX5_close := by decide +kernel
theorem n3_X5_close_X4_empty : Cond.selects RX4 yX4_empty yX4_empty ∈ wsX5_close := by decide +kernel
theorem lk_X5_close_10 : Cond.fieldLink RX5 10 "KeyedFeelings" "now" "LKeyedFeelings$People;" ∈ wsX5_close := by decide +kernel
theorem in_X5_close_X2 : ∀ w ∈ wsX20, w ∈ wsX5_close := by decide +kernel
theorem n2_X5_close_X2_become : Cond.instanceMethod yX2_become ∈ wsX5_close := by decide +kernel
theorem n3_X5_close_X2_become : Cond.selects RX2 yX2_become yX2_become ∈ wsX5_close := by decide +kernel
theorem lk_X5_close_19 : Cond.fieldLink RX5 19 "KeyedFeelings" "past" "LKeyedFeelings$Past;" ∈ wsX5_close := by decide +kernel
theorem n1_X5_close_X1 : Cond.initialized RX1 ∈ wsX5_close := by decide +kernel
theorem n2_X5_close_X1_empty : Cond.instanceMethod yX1_empty ∈ wsX5_close := by decide +kernel
theorem n3_X5_close_X1_empty : Cond.selects RX1 yX1_empty yX1_empty ∈ wsX5_close := by decide +kernel
noncomputable def f_X5_close (κ : St5) (nw : St2) (ps : St1) (tr : St2) (tp : St4) : Option (Int32 × St2 × St1 × St2 × St4) := ((f_X2_empty tr).bind (fun r1 => ((f_X4_readClose tp r1).bind (fun r2 => ((f_X4_empty r2.2.1).bind (fun r3 => (if r2.1 = 0 then some ((-20) - (p4_place r2.2.1), nw, ps, r2.2.2, r3) else ((f_X1_empty ps).bind (fun r6 => some (p2_size r2.2.2, (s2_draw r2.2.2 (p2_draw nw)), r6, (s2_draw r2.2.2 (p2_draw nw)), r3))))))))))
noncomputable def rmX5_close : Room := { frames := 7, cells := 0, slots := 0, locals := 152 }
set_option maxHeartbeats 4000000 in
set_option maxRecDepth 100000 in
theorem c_X5_close (l : Launch) (D : va_G) (cA : Nat → ClassId) (sk sv : Nat) (sf : Option Nat) (o : Nat → Nat → Nat) (κ : St5) (nw : St2) (ps : St1) (tr : St2) (tp : St4) (res : Int32 × St2 × St1 × St2 × St4) (h : f_X5_close κ nw ps tr tp = some res) : CTs l D cA yX5_close wsX5_close rmX5_close [.ref (o 0 0)] [w5 cA o κ, w2 cA (o 1) nw, w1 cA (fun i => o (20 + i)) ps, w2 cA (o 5) tr, w4 cA (o 6) tp] [w5 cA o κ, w2 cA (o 1) res.2.1, w1 cA (fun i => o (20 + i)) res.2.2.1, w2 cA (o 5) res.2.2.2.1, w4 cA (o 6) res.2.2.2.2] (some (.int res.1)) sk sv sf := by
  refine CTs.start (sk := sk) (sv := sv) (sf := sf) (cc := cX5_close) (maxL := 3) (ret := (some .int)) (by decide) rfl (Nat.le_of_ble_eq_true rfl) ?_
  intro p e s m below meth c Z hSF hP hD hS ls hl
  have Z : Cx p s m _ meth c cX5_close 3 (some .int) wsX5_close RX5 D cA := Z
  have hl : lv_has ls 3 [(0, .ref (o 0 0))] := hl
  obtain ⟨hx, hb, hml, hown, hts, hr, hlk, hKK⟩ := id Z
  have hK := hKK.1
  rw [f_X5_close] at h
  refine lv_aload_n hx hb dX5_close_0 rfl (lv_at hl 0 rfl) ?_
  refine va_get (D := D) (ci := 5) (v := .ref (o 5 0)) (C := RX5) (T := TX5) (N := 9) hx hb hts in_X5_close_X5 hown hK hP 0 rfl rfl 5 (by decide) (hts _ lk_X5_close_33) (fun _ h9 => h9) rfl dX5_close_1 ?_
  obtain ⟨r1, hr1, h⟩ := bind_inv h
  refine kVN (rest := []) (st1 := []) (cr := [w5 cA o κ, w2 cA (o 1) nw, w1 cA (fun i => o (20 + i)) ps, w4 cA (o 6) tp]) (cs' := [w5 cA o κ, w2 cA (o 1) nw, w1 cA (fun i => o (20 + i)) ps, w2 cA (o 5) r1, w4 cA (o 6) tp]) Z (c_X2_empty l D cA (o 5) tr r1 hr1) 0 gX5_close_X2_empty_n103 rfl hdX2_empty nk_X5_103 n1_X5_close_X2 n2_X5_close_X2_empty n3_X5_close_X2_empty ⟨rfl, rfl⟩ ⟨Nat.le_of_ble_eq_true rfl, Nat.le_of_ble_eq_true rfl⟩ ⟨Nat.zero_le _, Nat.zero_le _⟩ hP hD hS hl.1 rfl rfl rfl (Nat.le_of_ble_eq_true rfl) 2 rfl rfl rfl [3] [0, 1, 2, 4] [0, 1, 2, 4, 3] rfl rfl rfl rfl rfl dX5_close_4 (fun H locs hP hD hS => ?_)
  refine lv_aload_n hx hb dX5_close_7 rfl (lv_at hl 0 rfl) ?_
  refine va_get (D := D) (ci := 5) (v := .ref (o 6 0)) (C := RX5) (T := TX5) (N := 9) hx hb hts in_X5_close_X5 hown hK hP 0 rfl rfl 6 (by decide) (hts _ lk_X5_close_39) (fun _ h9 => h9) rfl dX5_close_8 ?_
  refine lv_aload_n hx hb dX5_close_11 rfl (lv_at hl 0 rfl) ?_
  refine va_get (D := D) (ci := 5) (v := .ref (o 5 0)) (C := RX5) (T := TX5) (N := 9) hx hb hts in_X5_close_X5 hown hK hP 0 rfl rfl 5 (by decide) (hts _ lk_X5_close_33) (fun _ h9 => h9) rfl dX5_close_12 ?_
  obtain ⟨r2, hr2, h⟩ := bind_inv h
  refine kVNs (rest := []) (st1 := [.int r2.1]) (cr := [w5 cA o κ, w2 cA (o 1) nw, w1 cA (fun i => o (20 + i)) ps]) (cs' := [w5 cA o κ, w2 cA (o 1) nw, w1 cA (fun i => o (20 + i)) ps, w2 cA (o 5) r2.2.2, w4 cA (o 6) r2.2.1]) Z hSF (c_X4_readClose l D cA sk sv sf (o 6) (o 5) tp r1 r2 hr2) 1 gX5_close_X4_readClose_n104 rfl hdX4_readClose nk_X5_104 n1_X5_close_X4 n2_X5_close_X4_readClose n3_X5_close_X4_readClose ⟨rfl, rfl⟩ ⟨Nat.le_of_ble_eq_true rfl, Nat.le_of_ble_eq_true rfl⟩ ⟨Nat.zero_le _, Nat.zero_le _⟩ hP hD hS hl.1 rfl rfl rfl (Nat.le_of_ble_eq_true rfl) 4 rfl rfl rfl [4, 3] [0, 1, 2] [0, 1, 2, 4, 3] rfl rfl rfl rfl rfl dX5_close_15 (fun H locs hP hD hS => ?_)
  refine lv_istore_n (lv' := [(1, .int r2.1), (0, .ref (o 0 0))]) hx hb dX5_close_18 rfl hl (by decide) rfl (fun ls hl => ?_)
  refine lv_aload_n hx hb dX5_close_19 rfl (lv_at hl 1 rfl) ?_
  refine va_get (D := D) (ci := 5) (v := .ref (o 6 0)) (C := RX5) (T := TX5) (N := 9) hx hb hts in_X5_close_X5 hown hK hP 0 rfl rfl 6 (by decide) (hts _ lk_X5_close_39) (fun _ h9 => h9) rfl dX5_close_20 ?_
  refine va_getN (D := D) (ci := 4) (v := .int (p4_place r2.2.1)) (C := RX4) (T := TX4) (N := 3) hx hb hts in_X5_close_X4 hown hK hP 53 rfl rfl 2 (by decide) (nest_use rfl (hKK.2 _ nk_X5_108)) (fun _ h9 => h9) rfl dX5_close_23 ?_
  refine lv_istore_n (lv' := [(2, .int (p4_place r2.2.1)), (1, .int r2.1), (0, .ref (o 0 0))]) hx hb dX5_close_26 rfl hl (by decide) rfl (fun ls hl => ?_)
  refine lv_aload_n hx hb dX5_close_27 rfl (lv_at hl 2 rfl) ?_
  refine va_get (D := D) (ci := 5) (v := .ref (o 6 0)) (C := RX5) (T := TX5) (N := 9) hx hb hts in_X5_close_X5 hown hK hP 0 rfl rfl 6 (by decide) (hts _ lk_X5_close_39) (fun _ h9 => h9) rfl dX5_close_28 ?_
  obtain ⟨r3, hr3, h⟩ := bind_inv h
  refine kVN (rest := []) (st1 := []) (cr := [w5 cA o κ, w2 cA (o 1) nw, w1 cA (fun i => o (20 + i)) ps, w2 cA (o 5) r2.2.2]) (cs' := [w5 cA o κ, w2 cA (o 1) nw, w1 cA (fun i => o (20 + i)) ps, w2 cA (o 5) r2.2.2, w4 cA (o 6) r3]) Z (c_X4_empty l D cA (o 6) r2.2.1 r3 hr3) 0 gX5_close_X4_empty_n111 rfl hdX4_empty nk_X5_111 n1_X5_close_X4 n2_X5_close_X4_empty n3_X5_close_X4_empty ⟨rfl, rfl⟩ ⟨Nat.le_of_ble_eq_true rfl, Nat.le_of_ble_eq_true rfl⟩ ⟨Nat.zero_le _, Nat.zero_le _⟩ hP hD hS hl.1 rfl rfl rfl (Nat.le_of_ble_eq_true rfl) 4 rfl rfl rfl [4] [0, 1, 2, 3] [0, 1, 2, 3, 4] rfl rfl rfl rfl rfl dX5_close_31 (fun H locs hP hD hS => ?_)
  refine lv_iload_n hx hb dX5_close_34 rfl (lv_at hl 1 rfl) ?_
  refine lv_if_ne (tgt := 43) hx hb dX5_close_35 (by decide) (fun hc4 => ?_) (fun hc4 => ?_)
  · rw [if_neg hc4] at h
    refine lv_aload_n hx hb dX5_close_43 rfl (lv_at hl 2 rfl) ?_
    refine va_get (D := D) (ci := 5) (v := .ref (o 5 0)) (C := RX5) (T := TX5) (N := 9) hx hb hts in_X5_close_X5 hown hK hP 0 rfl rfl 5 (by decide) (hts _ lk_X5_close_33) (fun _ h9 => h9) rfl dX5_close_44 ?_
    refine lv_aload_n hx hb dX5_close_47 rfl (lv_at hl 2 rfl) ?_
    refine va_get (D := D) (ci := 5) (v := .ref (o 1 0)) (C := RX5) (T := TX5) (N := 9) hx hb hts in_X5_close_X5 hown hK hP 0 rfl rfl 0 (by decide) (hts _ lk_X5_close_10) (fun _ h9 => h9) rfl dX5_close_48 ?_
    refine va_getN (D := D) (ci := 2) (v := .int (p2_draw nw)) (C := RX2) (T := TX2) (N := 7) hx hb hts in_X5_close_X2 hown hK hP 1 rfl rfl 6 (by decide) (nest_use rfl (hKK.2 _ nk_X5_112)) (fun _ h9 => h9) rfl dX5_close_51 ?_
    refine va_putN (D := D) (ci := 2) (v := .int (p2_draw nw)) (ty := .int) (C := RX2) (T := TX2) (N := 7) hx hb hts in_X5_close_X2 tyX2 tyX2_ok nmX2 hown hK hP hD hS 48 rfl rfl 6 (by decide) (nest_use rfl (hKK.2 _ nk_X5_112)) (fun _ h9 => h9) rfl (tyX2_ok 6 (by decide)) rfl rfl (Nat.le_of_ble_eq_true rfl) dX5_close_54 (fun H locs hP hD hS => ?_)
    have hP : va_P D vwCl ([w5 cA o κ, w2 cA (o 1) nw, w1 cA (fun i => o (20 + i)) ps, w2 cA (o 5) (s2_draw r2.2.2 (p2_draw nw)), w4 cA (o 6) r3] : List va_W).flatten H := hP
    have hD : va_D _ ([w5 cA o κ, w2 cA (o 1) nw, w1 cA (fun i => o (20 + i)) ps, w2 cA (o 5) (s2_draw r2.2.2 (p2_draw nw)), w4 cA (o 6) r3] : List va_W).flatten := hD
    refine lv_aload_n hx hb dX5_close_57 rfl (lv_at hl 2 rfl) ?_
    refine va_get (D := D) (ci := 5) (v := .ref (o 1 0)) (C := RX5) (T := TX5) (N := 9) hx hb hts in_X5_close_X5 hown hK hP 0 rfl rfl 0 (by decide) (hts _ lk_X5_close_10) (fun _ h9 => h9) rfl dX5_close_58 ?_
    refine lv_aload_n hx hb dX5_close_61 rfl (lv_at hl 2 rfl) ?_
    refine va_get (D := D) (ci := 5) (v := .ref (o 5 0)) (C := RX5) (T := TX5) (N := 9) hx hb hts in_X5_close_X5 hown hK hP 0 rfl rfl 5 (by decide) (hts _ lk_X5_close_33) (fun _ h9 => h9) rfl dX5_close_62 ?_
    refine kVN (rest := []) (st1 := []) (cr := [w5 cA o κ, w1 cA (fun i => o (20 + i)) ps, w4 cA (o 6) r3]) (cs' := [w5 cA o κ, w2 cA (o 1) (s2_draw r2.2.2 (p2_draw nw)), w1 cA (fun i => o (20 + i)) ps, w2 cA (o 5) (s2_draw r2.2.2 (p2_draw nw)), w4 cA (o 6) r3]) Z (c_become l D cA (o 1) (o 5) nw (s2_draw r2.2.2 (p2_draw nw)) ) 1 gX5_close_X2_become_n115 rfl hdX2_become nk_X5_115 n1_X5_close_X2 n2_X5_close_X2_become n3_X5_close_X2_become ⟨rfl, rfl⟩ ⟨Nat.le_of_ble_eq_true rfl, Nat.le_of_ble_eq_true rfl⟩ ⟨Nat.zero_le _, Nat.zero_le _⟩ hP hD hS hl.1 rfl rfl rfl (Nat.le_of_ble_eq_true rfl) 2 rfl rfl rfl [1, 3] [0, 2, 4] [0, 3, 1, 4, 2] rfl rfl rfl rfl rfl dX5_close_65 (fun H locs hP hD hS => ?_)
    refine lv_aload_n hx hb dX5_close_68 rfl (lv_at hl 2 rfl) ?_
    refine va_get (D := D) (ci := 5) (v := .ref (o 20 0)) (C := RX5) (T := TX5) (N := 9) hx hb hts in_X5_close_X5 hown hK hP 0 rfl rfl 1 (by decide) (hts _ lk_X5_close_19) (fun _ h9 => h9) rfl dX5_close_69 ?_
    obtain ⟨r6, hr6, h⟩ := bind_inv h
    refine kVN (rest := []) (st1 := []) (cr := [w5 cA o κ, w2 cA (o 1) (s2_draw r2.2.2 (p2_draw nw)), w2 cA (o 5) (s2_draw r2.2.2 (p2_draw nw)), w4 cA (o 6) r3]) (cs' := [w5 cA o κ, w2 cA (o 1) (s2_draw r2.2.2 (p2_draw nw)), w1 cA (fun i => o (20 + i)) r6, w2 cA (o 5) (s2_draw r2.2.2 (p2_draw nw)), w4 cA (o 6) r3]) Z (c_X1_empty l D cA (fun i => o (20 + i)) ps r6 hr6) 0 gX5_close_X1_empty_n61 rfl hdX1_empty nk_X5_61 n1_X5_close_X1 n2_X5_close_X1_empty n3_X5_close_X1_empty ⟨rfl, rfl⟩ ⟨Nat.le_of_ble_eq_true rfl, Nat.le_of_ble_eq_true rfl⟩ ⟨Nat.zero_le _, Nat.zero_le _⟩ hP hD hS hl.1 rfl rfl rfl (Nat.le_of_ble_eq_true rfl) 1 rfl rfl rfl [2] [0, 1, 3, 4] [0, 1, 4, 2, 3] rfl rfl rfl rfl rfl dX5_close_72 (fun H locs hP hD hS => ?_)
    refine lv_aload_n hx hb dX5_close_75 rfl (lv_at hl 2 rfl) ?_
    refine va_get (D := D) (ci := 5) (v := .ref (o 1 0)) (C := RX5) (T := TX5) (N := 9) hx hb hts in_X5_close_X5 hown hK hP 0 rfl rfl 0 (by decide) (hts _ lk_X5_close_10) (fun _ h9 => h9) rfl dX5_close_76 ?_
    refine va_getN (D := D) (ci := 2) (v := .int (p2_size r2.2.2)) (C := RX2) (T := TX2) (N := 7) hx hb hts in_X5_close_X2 hown hK hP 1 rfl rfl 0 (by decide) (nest_use rfl (hKK.2 _ nk_X5_57)) (fun _ h9 => h9) rfl dX5_close_79 ?_
    have h := Option.some.inj h
    subst h
    exact CT.iret Z hP hD hS dX5_close_82
  · rw [if_pos hc4] at h
    refine lv_bipush (v := (-20)) hx hb dX5_close_38 (by decide) ?_
    refine lv_iload_n hx hb dX5_close_40 rfl (lv_at hl 0 rfl) ?_
    refine lv_isub hx hb dX5_close_41 ?_
    have h := Option.some.inj h
    subst h
    exact CT.iret Z hP hD hS dX5_close_42
