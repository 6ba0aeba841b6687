-- X4.isFull
theorem lk_X4_isFull_15 : Cond.fieldLink RX4 15 "KeyedFeelings$Tape" "size" "I" ∈ wsX4_isFull := by decide +kernel
theorem in_X4_isFull_X4 : ∀ w ∈ wsX40, w ∈ wsX4_isFull := by decide +kernel
noncomputable def f_X4_isFull (σ : St4) : Option (Int32) := (if (p4_size σ) < 60 then some 0 else some 1)
noncomputable def rmX4_isFull : Room := { frames := 0, cells := 0, slots := 0, locals := 0 }
set_option maxHeartbeats 4000000 in
set_option maxRecDepth 100000 in
theorem c_X4_isFull (l : Launch) (D : va_G) (cA : Nat → ClassId) (a : Nat → Nat) (σ : St4) (res : Int32) (h : f_X4_isFull σ = some res) : CT l D cA yX4_isFull wsX4_isFull rmX4_isFull [.ref (a 0)] [w4 cA a σ] [w4 cA a σ] (some (.int res)) := by
  refine CT.start (cc := cX4_isFull) (maxL := 1) (ret := (some .boolean)) (by decide) rfl (Nat.le_of_ble_eq_true rfl) ?_
  intro p e s m below meth c Z hP hD hS ls hl
  have Z : Cx p s m _ meth c cX4_isFull 1 (some .boolean) wsX4_isFull RX4 D cA := Z
  have hl : lv_has ls 1 [(0, .ref (a 0))] := hl
  obtain ⟨hx, hb, hml, hown, hts, hr, hlk, hKK⟩ := id Z
  have hK := hKK.1
  rw [f_X4_isFull] at h
  refine lv_aload_n hx hb dX4_isFull_0 rfl (lv_at hl 0 rfl) ?_
  refine va_get (D := D) (ci := 4) (v := .int (p4_size σ)) (C := RX4) (T := TX4) (N := 3) hx hb hts in_X4_isFull_X4 hown hK hP 0 rfl rfl 1 (by decide) (hts _ lk_X4_isFull_15) (fun _ h9 => h9) rfl dX4_isFull_1 ?_
  refine lv_bipush (v := 60) hx hb dX4_isFull_4 (by decide) ?_
  refine lv_icmp_lt (tgt := 13) hx hb dX4_isFull_6 (by decide) (fun hc1 => ?_) (fun hc1 => ?_)
  · rw [if_pos hc1] at h
    refine lv_iconst (v := 0) hx hb dX4_isFull_13 (by decide) ?_
    have h := Option.some.inj h
    subst h
    exact CT.zret Z (nar_bool (Or.inl rfl)) hP hD hS dX4_isFull_14
  · rw [if_neg hc1] at h
    refine lv_iconst (v := 1) hx hb dX4_isFull_9 (by decide) ?_
    refine lv_goto (tgt := 14) hx hb dX4_isFull_10 (by decide) ?_
    have h := Option.some.inj h
    subst h
    exact CT.zret Z (nar_bool (Or.inr rfl)) hP hD hS dX4_isFull_14

-- X4.append
theorem lk_X4_append_15 : Cond.fieldLink RX4 15 "KeyedFeelings$Tape" "size" "I" ∈ wsX4_append := by decide +kernel
theorem in_X4_append_X4 : ∀ w ∈ wsX40, w ∈ wsX4_append := by decide +kernel
theorem lk_X4_append_11 : Cond.fieldLink RX4 11 "KeyedFeelings$Tape" "letters" "[I" ∈ wsX4_append := by decide +kernel
noncomputable def f_X4_append (σ : St4) (x1 : Int32) : Option (Int32 × St4) := (if 60 ≤ (p4_size σ) then some (p4_size σ, σ) else (if inB (p4_size σ) 60 = true then some ((p4_size σ) + 1, (s4_size (s4_letters σ (upd (p4_letters σ) ((p4_size σ).toNatClampNeg) x1)) ((p4_size σ) + 1))) else none))
noncomputable def rmX4_append : Room := { frames := 0, cells := 0, slots := 0, locals := 0 }
set_option maxHeartbeats 4000000 in
set_option maxRecDepth 100000 in
theorem c_X4_append (l : Launch) (D : va_G) (cA : Nat → ClassId) (a : Nat → Nat) (σ : St4) (x1 : Int32) (res : Int32 × St4) (h : f_X4_append σ x1 = some res) : CT l D cA yX4_append wsX4_append rmX4_append [.ref (a 0), .int x1] [w4 cA a σ] [w4 cA a res.2] (some (.int res.1)) := by
  refine CT.start (cc := cX4_append) (maxL := 2) (ret := (some .int)) (by decide) rfl (Nat.le_of_ble_eq_true rfl) ?_
  intro p e s m below meth c Z hP hD hS ls hl
  have Z : Cx p s m _ meth c cX4_append 2 (some .int) wsX4_append RX4 D cA := Z
  have hl : lv_has ls 2 [(0, .ref (a 0)), (1, .int x1)] := hl
  obtain ⟨hx, hb, hml, hown, hts, hr, hlk, hKK⟩ := id Z
  have hK := hKK.1
  rw [f_X4_append] at h
  refine lv_aload_n hx hb dX4_append_0 rfl (lv_at hl 0 rfl) ?_
  refine va_get (D := D) (ci := 4) (v := .int (p4_size σ)) (C := RX4) (T := TX4) (N := 3) hx hb hts in_X4_append_X4 hown hK hP 0 rfl rfl 1 (by decide) (hts _ lk_X4_append_15) (fun _ h9 => h9) rfl dX4_append_1 ?_
  refine lv_bipush (v := 60) hx hb dX4_append_4 (by decide) ?_
  refine lv_icmp_ge (tgt := 29) hx hb dX4_append_6 (by decide) (fun hc1 => ?_) (fun hc1 => ?_)
  · rw [if_pos hc1] at h
    refine lv_aload_n hx hb dX4_append_29 rfl (lv_at hl 0 rfl) ?_
    refine va_get (D := D) (ci := 4) (v := .int (p4_size σ)) (C := RX4) (T := TX4) (N := 3) hx hb hts in_X4_append_X4 hown hK hP 0 rfl rfl 1 (by decide) (hts _ lk_X4_append_15) (fun _ h9 => h9) rfl dX4_append_30 ?_
    have h := Option.some.inj h
    subst h
    exact CT.iret Z hP hD hS dX4_append_33
  · rw [if_neg hc1] at h
    refine lv_aload_n hx hb dX4_append_9 rfl (lv_at hl 0 rfl) ?_
    refine va_get (D := D) (ci := 4) (v := .ref (a 1)) (C := RX4) (T := TX4) (N := 3) hx hb hts in_X4_append_X4 hown hK hP 0 rfl rfl 0 (by decide) (hts _ lk_X4_append_11) (fun _ h9 => h9) rfl dX4_append_10 ?_
    refine lv_aload_n hx hb dX4_append_13 rfl (lv_at hl 0 rfl) ?_
    refine va_get (D := D) (ci := 4) (v := .int (p4_size σ)) (C := RX4) (T := TX4) (N := 3) hx hb hts in_X4_append_X4 hown hK hP 0 rfl rfl 1 (by decide) (hts _ lk_X4_append_15) (fun _ h9 => h9) rfl dX4_append_14 ?_
    refine lv_iload_n hx hb dX4_append_17 rfl (lv_at hl 1 rfl) ?_
    obtain ⟨hg2, h⟩ := if_inv h
    refine va_iast hx hb hK hP hD hS 1 0 rfl rfl (inB_in hg2) dX4_append_18 (fun H locs hP hD hS => ?_)
    have hP : va_P D vwCl ([w4 cA a (s4_letters σ (upd (p4_letters σ) ((p4_size σ).toNatClampNeg) x1))] : List va_W).flatten H := hP
    have hD : va_D _ ([w4 cA a (s4_letters σ (upd (p4_letters σ) ((p4_size σ).toNatClampNeg) x1))] : List va_W).flatten := hD
    refine lv_aload_n hx hb dX4_append_19 rfl (lv_at hl 0 rfl) ?_
    refine lv_dup hx hb dX4_append_20 rfl ?_
    refine va_get (D := D) (ci := 4) (v := .int (p4_size σ)) (C := RX4) (T := TX4) (N := 3) hx hb hts in_X4_append_X4 hown hK hP 0 rfl rfl 1 (by decide) (hts _ lk_X4_append_15) (fun _ h9 => h9) rfl dX4_append_21 ?_
    refine lv_iconst (v := 1) hx hb dX4_append_24 (by decide) ?_
    refine lv_iadd hx hb dX4_append_25 ?_
    refine va_put (D := D) (ci := 4) (v := .int ((p4_size σ) + 1)) (ty := .int) (C := RX4) (T := TX4) (N := 3) hx hb hts in_X4_append_X4 tyX4 tyX4_ok nmX4 hown hK hP hD hS 0 rfl rfl 1 (by decide) (hts _ lk_X4_append_15) (fun _ h9 => h9) rfl (tyX4_ok 1 (by decide)) rfl rfl (Nat.le_of_ble_eq_true rfl) dX4_append_26 (fun H locs hP hD hS => ?_)
    have hP : va_P D vwCl ([w4 cA a (s4_size (s4_letters σ (upd (p4_letters σ) ((p4_size σ).toNatClampNeg) x1)) ((p4_size σ) + 1))] : List va_W).flatten H := hP
    have hD : va_D _ ([w4 cA a (s4_size (s4_letters σ (upd (p4_letters σ) ((p4_size σ).toNatClampNeg) x1)) ((p4_size σ) + 1))] : List va_W).flatten := hD
    refine lv_aload_n hx hb dX4_append_29 rfl (lv_at hl 0 rfl) ?_
    refine va_get (D := D) (ci := 4) (v := .int ((p4_size σ) + 1)) (C := RX4) (T := TX4) (N := 3) hx hb hts in_X4_append_X4 hown hK hP 0 rfl rfl 1 (by decide) (hts _ lk_X4_append_15) (fun _ h9 => h9) rfl dX4_append_30 ?_
    have h := Option.some.inj h
    subst h
    exact CT.iret Z hP hD hS dX4_append_33

-- X4.empty
theorem lk_X4_empty_15 : Cond.fieldLink RX4 15 "KeyedFeelings$Tape" "size" "I" ∈ wsX4_empty := by decide +kernel
theorem in_X4_empty_X4 : ∀ w ∈ wsX40, w ∈ wsX4_empty := by decide +kernel
noncomputable def f_X4_empty (σ : St4) : Option (St4) := some (s4_size σ 0)
noncomputable def rmX4_empty : Room := { frames := 0, cells := 0, slots := 0, locals := 0 }
set_option maxHeartbeats 4000000 in
set_option maxRecDepth 100000 in
theorem c_X4_empty (l : Launch) (D : va_G) (cA : Nat → ClassId) (a : Nat → Nat) (σ : St4) (res : St4) (h : f_X4_empty σ = some res) : CT l D cA yX4_empty wsX4_empty rmX4_empty [.ref (a 0)] [w4 cA a σ] [w4 cA a res] none := by
  refine CT.start (cc := cX4_empty) (maxL := 1) (ret := none) (by decide) rfl (Nat.le_of_ble_eq_true rfl) ?_
  intro p e s m below meth c Z hP hD hS ls hl
  have Z : Cx p s m _ meth c cX4_empty 1 none wsX4_empty RX4 D cA := Z
  have hl : lv_has ls 1 [(0, .ref (a 0))] := hl
  obtain ⟨hx, hb, hml, hown, hts, hr, hlk, hKK⟩ := id Z
  have hK := hKK.1
  rw [f_X4_empty] at h
  refine lv_aload_n hx hb dX4_empty_0 rfl (lv_at hl 0 rfl) ?_
  refine lv_iconst (v := 0) hx hb dX4_empty_1 (by decide) ?_
  refine va_put (D := D) (ci := 4) (v := .int 0) (ty := .int) (C := RX4) (T := TX4) (N := 3) hx hb hts in_X4_empty_X4 tyX4 tyX4_ok nmX4 hown hK hP hD hS 0 rfl rfl 1 (by decide) (hts _ lk_X4_empty_15) (fun _ h9 => h9) rfl (tyX4_ok 1 (by decide)) rfl rfl (Nat.le_of_ble_eq_true rfl) dX4_empty_2 (fun H locs hP hD hS => ?_)
  have hP : va_P D vwCl ([w4 cA a (s4_size σ 0)] : List va_W).flatten H := hP
  have hD : va_D _ ([w4 cA a (s4_size σ 0)] : List va_W).flatten := hD
  have h := Option.some.inj h
  subst h
  exact CT.vret Z hP hD hS dX4_empty_5
