-- X6.in
noncomputable def f_X6_in (x0 : Int64) (x2 : Int64) (x4 : Int64) : Option (Int32) := (if (lg_cmp x0 x2) < 0 then some 0 else (if 0 < (lg_cmp x0 x4) then some 0 else some 1))
noncomputable def rmX6_in : Room := { frames := 0, cells := 0, slots := 0, locals := 0 }
set_option maxHeartbeats 4000000 in
set_option maxRecDepth 100000 in
theorem c_X6_in (l : Launch) (D : va_G) (cA : Nat → ClassId)  (x0 : Int64) (x2 : Int64) (x4 : Int64) (res : Int32) (h : f_X6_in x0 x2 x4 = some res) : CT l D cA yX6_in wsX6_in rmX6_in [.long x0, .long x2, .long x4] [] [] (some (.int res)) := by
  refine CT.start (cc := cX6_in) (maxL := 6) (ret := (some .boolean)) (by decide) rfl (Nat.le_of_ble_eq_true rfl) ?_
  intro p e s m below meth c Z hP hD hS ls hl
  have Z : Cx p s m _ meth c cX6_in 6 (some .boolean) wsX6_in RX6 D cA := Z
  have hl : lv_has ls 6 [(0, .long x0), (2, .long x2), (4, .long x4)] := hl
  obtain ⟨hx, hb, hml, hown, hts, hr, hlk, hKK⟩ := id Z
  have hK := hKK.1
  rw [f_X6_in] at h
  refine lv_lload_n hx hb dX6_in_0 rfl (lv_at hl 0 rfl) ?_
  refine lv_lload_n hx hb dX6_in_1 rfl (lv_at hl 1 rfl) ?_
  refine W.lcmp hx hb dX6_in_2 ?_
  refine lv_if_lt (tgt := 17) hx hb dX6_in_3 (by decide) (fun hc1 => ?_) (fun hc1 => ?_)
  · rw [if_pos hc1] at h
    refine lv_iconst (v := 0) hx hb dX6_in_17 (by decide) ?_
    have h := Option.some.inj h
    subst h
    exact CT.zret Z (nar_bool (Or.inl rfl)) hP hD hS dX6_in_18
  · rw [if_neg hc1] at h
    refine lv_lload_n hx hb dX6_in_6 rfl (lv_at hl 0 rfl) ?_
    refine lv_lload hx hb dX6_in_7 (lv_at hl 2 rfl) ?_
    refine W.lcmp hx hb dX6_in_9 ?_
    refine lv_if_gt (tgt := 17) hx hb dX6_in_10 (by decide) (fun hc2 => ?_) (fun hc2 => ?_)
    · rw [if_pos hc2] at h
      refine lv_iconst (v := 0) hx hb dX6_in_17 (by decide) ?_
      have h := Option.some.inj h
      subst h
      exact CT.zret Z (nar_bool (Or.inl rfl)) hP hD hS dX6_in_18
    · rw [if_neg hc2] at h
      refine lv_iconst (v := 1) hx hb dX6_in_13 (by decide) ?_
      refine lv_goto (tgt := 18) hx hb dX6_in_14 (by decide) ?_
      have h := Option.some.inj h
      subst h
      exact CT.zret Z (nar_bool (Or.inr rfl)) hP hD hS dX6_in_18

-- X6.isPerson
theorem lk_X6_isPerson_7 : Cond.fieldLink RX6 7 "KeyedFeelingsModel" "now" "[I" ∈ wsX6_isPerson := by decide +kernel
theorem in_X6_isPerson_X6 : ∀ w ∈ wsX60, w ∈ wsX6_isPerson := by decide +kernel
noncomputable def f_X6_isPerson (σ : St6) (x1 : Int32) : Option (Int32) := ((f_X6_in x1.toInt64 0 ((((p6_now σ) (0 : Int32).toNatClampNeg) - 1).toInt64)).bind (fun r1 => (if r1 = 0 ∨ r1 = 1 then some r1 else none)))
noncomputable def rmX6_isPerson : Room := { frames := 1, cells := 0, slots := 0, locals := 25 }
set_option maxHeartbeats 4000000 in
set_option maxRecDepth 100000 in
theorem c_X6_isPerson (l : Launch) (D : va_G) (cA : Nat → ClassId) (a : Nat → Nat) (σ : St6) (x1 : Int32) (res : Int32) (h : f_X6_isPerson σ x1 = some res) : CT l D cA yX6_isPerson wsX6_isPerson rmX6_isPerson [.ref (a 0), .int x1] [w6 cA a σ] [w6 cA a σ] (some (.int res)) := by
  refine CT.start (cc := cX6_isPerson) (maxL := 2) (ret := (some .boolean)) (by decide) rfl (Nat.le_of_ble_eq_true rfl) ?_
  intro p e s m below meth c Z hP hD hS ls hl
  have Z : Cx p s m _ meth c cX6_isPerson 2 (some .boolean) wsX6_isPerson RX6 D cA := Z
  have hl : lv_has ls 2 [(0, .ref (a 0)), (1, .int x1)] := hl
  obtain ⟨hx, hb, hml, hown, hts, hr, hlk, hKK⟩ := id Z
  have hK := hKK.1
  rw [f_X6_isPerson] at h
  refine lv_iload_n hx hb dX6_isPerson_0 rfl (lv_at hl 1 rfl) ?_
  refine lv_i2l (v := x1.toInt64) hx hb dX6_isPerson_1 rfl ?_
  refine lv_lconst (v := 0) hx hb dX6_isPerson_2 (by decide) ?_
  refine lv_aload_n hx hb dX6_isPerson_3 rfl (lv_at hl 0 rfl) ?_
  refine va_get (D := D) (ci := 6) (v := .ref (a 1)) (C := RX6) (T := TX6) (N := 19) hx hb hts in_X6_isPerson_X6 hown hK hP 0 rfl rfl 0 (by decide) (hts _ lk_X6_isPerson_7) (fun _ h9 => h9) rfl dX6_isPerson_4 ?_
  refine lv_iconst (v := 0) hx hb dX6_isPerson_7 (by decide) ?_
  refine va_iald hx hb hK hP 1 0 rfl rfl (inB_in (by decide)) dX6_isPerson_8 ?_
  refine lv_iconst (v := 1) hx hb dX6_isPerson_9 (by decide) ?_
  refine lv_isub hx hb dX6_isPerson_10 ?_
  refine lv_i2l (v := (((p6_now σ) (0 : Int32).toNatClampNeg) - 1).toInt64) hx hb dX6_isPerson_11 rfl ?_
  obtain ⟨r1, hr1, h⟩ := bind_inv h
  refine kS (rest := []) (st1 := [.int r1]) (cr := [w6 cA a σ]) (cs' := [w6 cA a σ]) Z (c_X6_in l D cA x1.toInt64 0 ((((p6_now σ) (0 : Int32).toNatClampNeg) - 1).toInt64) r1 hr1) 3 gX6_isPerson_X6_in rfl hdX6_in ⟨rfl, rfl⟩ ⟨Nat.le_of_ble_eq_true rfl, Nat.le_of_ble_eq_true rfl⟩ ⟨Nat.zero_le _, Nat.zero_le _⟩ hP hD hS hl.1 rfl rfl rfl (Nat.le_of_ble_eq_true rfl) [] [0] [0] rfl rfl rfl rfl rfl dX6_isPerson_12 (fun H locs hP hD hS => ?_)
  obtain ⟨hg2, h⟩ := if_inv h
  have h := Option.some.inj h
  subst h
  exact CT.zret Z (nar_bool hg2) hP hD hS dX6_isPerson_15

-- X6.told
theorem lk_X6_told_7 : Cond.fieldLink RX6 7 "KeyedFeelingsModel" "now" "[I" ∈ wsX6_told := by decide +kernel
theorem in_X6_told_X6 : ∀ w ∈ wsX60, w ∈ wsX6_told := by decide +kernel
noncomputable def f_X6_told (σ : St6) (x1 : Int32) (x2 : Int32) : Option (Int32) := (if inB ((3 + (4 * x1)) + x2) 27 = true then some ((p6_now σ) ((3 + (4 * x1)) + x2).toNatClampNeg) else none)
noncomputable def rmX6_told : Room := { frames := 0, cells := 0, slots := 0, locals := 0 }
set_option maxHeartbeats 4000000 in
set_option maxRecDepth 100000 in
theorem c_X6_told (l : Launch) (D : va_G) (cA : Nat → ClassId) (a : Nat → Nat) (σ : St6) (x1 : Int32) (x2 : Int32) (res : Int32) (h : f_X6_told σ x1 x2 = some res) : CT l D cA yX6_told wsX6_told rmX6_told [.ref (a 0), .int x1, .int x2] [w6 cA a σ] [w6 cA a σ] (some (.int res)) := by
  refine CT.start (cc := cX6_told) (maxL := 3) (ret := (some .int)) (by decide) rfl (Nat.le_of_ble_eq_true rfl) ?_
  intro p e s m below meth c Z hP hD hS ls hl
  have Z : Cx p s m _ meth c cX6_told 3 (some .int) wsX6_told RX6 D cA := Z
  have hl : lv_has ls 3 [(0, .ref (a 0)), (1, .int x1), (2, .int x2)] := hl
  obtain ⟨hx, hb, hml, hown, hts, hr, hlk, hKK⟩ := id Z
  have hK := hKK.1
  rw [f_X6_told] at h
  refine lv_aload_n hx hb dX6_told_0 rfl (lv_at hl 0 rfl) ?_
  refine va_get (D := D) (ci := 6) (v := .ref (a 1)) (C := RX6) (T := TX6) (N := 19) hx hb hts in_X6_told_X6 hown hK hP 0 rfl rfl 0 (by decide) (hts _ lk_X6_told_7) (fun _ h9 => h9) rfl dX6_told_1 ?_
  refine lv_iconst (v := 3) hx hb dX6_told_4 (by decide) ?_
  refine lv_iconst (v := 4) hx hb dX6_told_5 (by decide) ?_
  refine lv_iload_n hx hb dX6_told_6 rfl (lv_at hl 1 rfl) ?_
  refine lv_imul hx hb dX6_told_7 ?_
  refine lv_iadd hx hb dX6_told_8 ?_
  refine lv_iload_n hx hb dX6_told_9 rfl (lv_at hl 2 rfl) ?_
  refine lv_iadd hx hb dX6_told_10 ?_
  obtain ⟨hg1, h⟩ := if_inv h
  refine va_iald hx hb hK hP 1 0 rfl rfl (inB_in hg1) dX6_told_11 ?_
  have h := Option.some.inj h
  subst h
  exact CT.iret Z hP hD hS dX6_told_12

-- X6.tells
theorem lk_X6_tells_7 : Cond.fieldLink RX6 7 "KeyedFeelingsModel" "now" "[I" ∈ wsX6_tells := by decide +kernel
theorem in_X6_tells_X6 : ∀ w ∈ wsX60, w ∈ wsX6_tells := by decide +kernel
noncomputable def f_X6_tells (σ : St6) (x1 : Int32) (x2 : Int32) (x3 : Int32) : Option (St6) := (if inB ((3 + (4 * x1)) + x2) 27 = true then some (s6_now σ (upd (p6_now σ) (((3 + (4 * x1)) + x2).toNatClampNeg) x3)) else none)
noncomputable def rmX6_tells : Room := { frames := 0, cells := 0, slots := 0, locals := 0 }
set_option maxHeartbeats 4000000 in
set_option maxRecDepth 100000 in
theorem c_X6_tells (l : Launch) (D : va_G) (cA : Nat → ClassId) (a : Nat → Nat) (σ : St6) (x1 : Int32) (x2 : Int32) (x3 : Int32) (res : St6) (h : f_X6_tells σ x1 x2 x3 = some res) : CT l D cA yX6_tells wsX6_tells rmX6_tells [.ref (a 0), .int x1, .int x2, .int x3] [w6 cA a σ] [w6 cA a res] none := by
  refine CT.start (cc := cX6_tells) (maxL := 4) (ret := none) (by decide) rfl (Nat.le_of_ble_eq_true rfl) ?_
  intro p e s m below meth c Z hP hD hS ls hl
  have Z : Cx p s m _ meth c cX6_tells 4 none wsX6_tells RX6 D cA := Z
  have hl : lv_has ls 4 [(0, .ref (a 0)), (1, .int x1), (2, .int x2), (3, .int x3)] := hl
  obtain ⟨hx, hb, hml, hown, hts, hr, hlk, hKK⟩ := id Z
  have hK := hKK.1
  rw [f_X6_tells] at h
  refine lv_aload_n hx hb dX6_tells_0 rfl (lv_at hl 0 rfl) ?_
  refine va_get (D := D) (ci := 6) (v := .ref (a 1)) (C := RX6) (T := TX6) (N := 19) hx hb hts in_X6_tells_X6 hown hK hP 0 rfl rfl 0 (by decide) (hts _ lk_X6_tells_7) (fun _ h9 => h9) rfl dX6_tells_1 ?_
  refine lv_iconst (v := 3) hx hb dX6_tells_4 (by decide) ?_
  refine lv_iconst (v := 4) hx hb dX6_tells_5 (by decide) ?_
  refine lv_iload_n hx hb dX6_tells_6 rfl (lv_at hl 1 rfl) ?_
  refine lv_imul hx hb dX6_tells_7 ?_
  refine lv_iadd hx hb dX6_tells_8 ?_
  refine lv_iload_n hx hb dX6_tells_9 rfl (lv_at hl 2 rfl) ?_
  refine lv_iadd hx hb dX6_tells_10 ?_
  refine lv_iload_n hx hb dX6_tells_11 rfl (lv_at hl 3 rfl) ?_
  obtain ⟨hg1, h⟩ := if_inv h
  refine va_iast hx hb hK hP hD hS 1 0 rfl rfl (inB_in hg1) dX6_tells_12 (fun H locs hP hD hS => ?_)
  have hP : va_P D vwCl ([w6 cA a (s6_now σ (upd (p6_now σ) (((3 + (4 * x1)) + x2).toNatClampNeg) x3))] : List va_W).flatten H := hP
  have hD : va_D _ ([w6 cA a (s6_now σ (upd (p6_now σ) (((3 + (4 * x1)) + x2).toNatClampNeg) x3))] : List va_W).flatten := hD
  have h := Option.some.inj h
  subst h
  exact CT.vret Z hP hD hS dX6_tells_13

-- X6.turns
noncomputable def f_X6_turns (σ : St6) (x1 : Int32) : Option (Int32) := ((f_X6_told σ x1 1).bind (fun r1 => some r1))
noncomputable def rmX6_turns : Room := { frames := 1, cells := 0, slots := 0, locals := 22 }
set_option maxHeartbeats 4000000 in
set_option maxRecDepth 100000 in
theorem c_X6_turns (l : Launch) (D : va_G) (cA : Nat → ClassId) (a : Nat → Nat) (σ : St6) (x1 : Int32) (res : Int32) (h : f_X6_turns σ x1 = some res) : CT l D cA yX6_turns wsX6_turns rmX6_turns [.ref (a 0), .int x1] [w6 cA a σ] [w6 cA a σ] (some (.int res)) := by
  refine CT.start (cc := cX6_turns) (maxL := 2) (ret := (some .int)) (by decide) rfl (Nat.le_of_ble_eq_true rfl) ?_
  intro p e s m below meth c Z hP hD hS ls hl
  have Z : Cx p s m _ meth c cX6_turns 2 (some .int) wsX6_turns RX6 D cA := Z
  have hl : lv_has ls 2 [(0, .ref (a 0)), (1, .int x1)] := hl
  obtain ⟨hx, hb, hml, hown, hts, hr, hlk, hKK⟩ := id Z
  have hK := hKK.1
  rw [f_X6_turns] at h
  refine lv_aload_n hx hb dX6_turns_0 rfl (lv_at hl 0 rfl) ?_
  refine lv_iload_n hx hb dX6_turns_1 rfl (lv_at hl 1 rfl) ?_
  refine lv_iconst (v := 1) hx hb dX6_turns_2 (by decide) ?_
  obtain ⟨r1, hr1, h⟩ := bind_inv h
  refine kV (rest := []) (st1 := [.int r1]) (cr := []) (cs' := [w6 cA a σ]) Z (c_X6_told l D cA a σ x1 1 r1 hr1) 2 gX6_turns_X6_told rfl hdX6_told ⟨rfl, rfl⟩ ⟨Nat.le_of_ble_eq_true rfl, Nat.le_of_ble_eq_true rfl⟩ ⟨Nat.zero_le _, Nat.zero_le _⟩ hP hD hS hl.1 rfl rfl rfl (Nat.le_of_ble_eq_true rfl) 6 rfl rfl rfl [0] [] [0] rfl rfl rfl rfl rfl dX6_turns_3 (fun H locs hP hD hS => ?_)
  have h := Option.some.inj h
  subst h
  exact CT.iret Z hP hD hS dX6_turns_6

-- X6.whom
noncomputable def f_X6_whom (σ : St6) (x1 : Int32) : Option (Int32) := ((f_X6_told σ x1 2).bind (fun r1 => some r1))
noncomputable def rmX6_whom : Room := { frames := 1, cells := 0, slots := 0, locals := 22 }
set_option maxHeartbeats 4000000 in
set_option maxRecDepth 100000 in
theorem c_X6_whom (l : Launch) (D : va_G) (cA : Nat → ClassId) (a : Nat → Nat) (σ : St6) (x1 : Int32) (res : Int32) (h : f_X6_whom σ x1 = some res) : CT l D cA yX6_whom wsX6_whom rmX6_whom [.ref (a 0), .int x1] [w6 cA a σ] [w6 cA a σ] (some (.int res)) := by
  refine CT.start (cc := cX6_whom) (maxL := 2) (ret := (some .int)) (by decide) rfl (Nat.le_of_ble_eq_true rfl) ?_
  intro p e s m below meth c Z hP hD hS ls hl
  have Z : Cx p s m _ meth c cX6_whom 2 (some .int) wsX6_whom RX6 D cA := Z
  have hl : lv_has ls 2 [(0, .ref (a 0)), (1, .int x1)] := hl
  obtain ⟨hx, hb, hml, hown, hts, hr, hlk, hKK⟩ := id Z
  have hK := hKK.1
  rw [f_X6_whom] at h
  refine lv_aload_n hx hb dX6_whom_0 rfl (lv_at hl 0 rfl) ?_
  refine lv_iload_n hx hb dX6_whom_1 rfl (lv_at hl 1 rfl) ?_
  refine lv_iconst (v := 2) hx hb dX6_whom_2 (by decide) ?_
  obtain ⟨r1, hr1, h⟩ := bind_inv h
  refine kV (rest := []) (st1 := [.int r1]) (cr := []) (cs' := [w6 cA a σ]) Z (c_X6_told l D cA a σ x1 2 r1 hr1) 2 gX6_whom_X6_told rfl hdX6_told ⟨rfl, rfl⟩ ⟨Nat.le_of_ble_eq_true rfl, Nat.le_of_ble_eq_true rfl⟩ ⟨Nat.zero_le _, Nat.zero_le _⟩ hP hD hS hl.1 rfl rfl rfl (Nat.le_of_ble_eq_true rfl) 6 rfl rfl rfl [0] [] [0] rfl rfl rfl rfl rfl dX6_whom_3 (fun H locs hP hD hS => ?_)
  have h := Option.some.inj h
  subst h
  exact CT.iret Z hP hD hS dX6_whom_6

-- X6.isStopped
noncomputable def f_X6_isStopped (σ : St6) (x1 : Int32) : Option (Int32) := ((f_X6_turns σ x1).bind (fun r1 => (if r1 = 0 then some 1 else some 0)))
noncomputable def rmX6_isStopped : Room := { frames := 2, cells := 0, slots := 0, locals := 43 }
set_option maxHeartbeats 4000000 in
set_option maxRecDepth 100000 in
theorem c_X6_isStopped (l : Launch) (D : va_G) (cA : Nat → ClassId) (a : Nat → Nat) (σ : St6) (x1 : Int32) (res : Int32) (h : f_X6_isStopped σ x1 = some res) : CT l D cA yX6_isStopped wsX6_isStopped rmX6_isStopped [.ref (a 0), .int x1] [w6 cA a σ] [w6 cA a σ] (some (.int res)) := by
  refine CT.start (cc := cX6_isStopped) (maxL := 2) (ret := (some .boolean)) (by decide) rfl (Nat.le_of_ble_eq_true rfl) ?_
  intro p e s m below meth c Z hP hD hS ls hl
  have Z : Cx p s m _ meth c cX6_isStopped 2 (some .boolean) wsX6_isStopped RX6 D cA := Z
  have hl : lv_has ls 2 [(0, .ref (a 0)), (1, .int x1)] := hl
  obtain ⟨hx, hb, hml, hown, hts, hr, hlk, hKK⟩ := id Z
  have hK := hKK.1
  rw [f_X6_isStopped] at h
  refine lv_aload_n hx hb dX6_isStopped_0 rfl (lv_at hl 0 rfl) ?_
  refine lv_iload_n hx hb dX6_isStopped_1 rfl (lv_at hl 1 rfl) ?_
  obtain ⟨r1, hr1, h⟩ := bind_inv h
  refine kV (rest := []) (st1 := [.int r1]) (cr := []) (cs' := [w6 cA a σ]) Z (c_X6_turns l D cA a σ x1 r1 hr1) 1 gX6_isStopped_X6_turns rfl hdX6_turns ⟨rfl, rfl⟩ ⟨Nat.le_of_ble_eq_true rfl, Nat.le_of_ble_eq_true rfl⟩ ⟨Nat.zero_le _, Nat.zero_le _⟩ hP hD hS hl.1 rfl rfl rfl (Nat.le_of_ble_eq_true rfl) 6 rfl rfl rfl [0] [] [0] rfl rfl rfl rfl rfl dX6_isStopped_2 (fun H locs hP hD hS => ?_)
  refine lv_if_ne (tgt := 12) hx hb dX6_isStopped_5 (by decide) (fun hc2 => ?_) (fun hc2 => ?_)
  · rw [if_neg hc2] at h
    refine lv_iconst (v := 0) hx hb dX6_isStopped_12 (by decide) ?_
    have h := Option.some.inj h
    subst h
    exact CT.zret Z (nar_bool (Or.inl rfl)) hP hD hS dX6_isStopped_13
  · rw [if_pos hc2] at h
    refine lv_iconst (v := 1) hx hb dX6_isStopped_8 (by decide) ?_
    refine lv_goto (tgt := 13) hx hb dX6_isStopped_9 (by decide) ?_
    have h := Option.some.inj h
    subst h
    exact CT.zret Z (nar_bool (Or.inr rfl)) hP hD hS dX6_isStopped_13

-- X6.windersOf
theorem lk_X6_windersOf_7 : Cond.fieldLink RX6 7 "KeyedFeelingsModel" "now" "[I" ∈ wsX6_windersOf := by decide +kernel
theorem in_X6_windersOf_X6 : ∀ w ∈ wsX60, w ∈ wsX6_windersOf := by decide +kernel
noncomputable def lp_X6_windersOf_4 (σ : St6) (x1 : Int32) : Nat → Int32 → Int32 → Option (Int32 × Int32)
  | 0, _, _ => none
  | n + 1, x2, x3 => (if ((p6_now σ) (0 : Int32).toNatClampNeg) ≤ x3 then some (x2, x3) else ((f_X6_whom σ x3).bind (fun r2 => (if r2 = x1 then lp_X6_windersOf_4 σ x1 n (x2 ||| (1 <<< (x3 &&& 31))) (x3 + 1) else lp_X6_windersOf_4 σ x1 n (x2 ||| 0) (x3 + 1)))))
noncomputable def f_X6_windersOf (σ : St6) (x1 : Int32) : Option (Int32) := ((lp_X6_windersOf_4 σ x1 FU 0 0).bind (fun q4 => some q4.1))
noncomputable def rmX6_windersOf : Room := { frames := 2, cells := 0, slots := 0, locals := 43 }
set_option maxHeartbeats 4000000 in
set_option maxRecDepth 100000 in
theorem t_X6_windersOf_4 {p : Program} {l : Launch} {e : Env} {s : State} {m : MethodId} {args : Array Value} {below : List Frame} {meth : Method} {c : Code} {D : va_G} {cA : Nat → ClassId} {A0 : Nat → Prop} {H0 : Heap} {a : Nat → Nat} (Z : Cx p s m args meth c cX6_windersOf 4 (some .int) wsX6_windersOf RX6 D cA) (σ : St6) (x1 : Int32) {Q : State → Prop} : ∀ (n : Nat) (x2 : Int32) (x3 : Int32) (q : Int32 × Int32), lp_X6_windersOf_4 σ x1 n x2 x3 = some q → ∀ (H : Heap) (locs : List Loc) (ls : Array Slot), va_P D vwCl ([w6 cA a σ] : List va_W).flatten H → va_D A0 ([w6 cA a σ] : List va_W).flatten → va_S A0 H0 H locs → lv_has ls 4 [(0, .ref (a 0)), (1, .int x1), (2, .int x2), (3, .int x3)] → (∀ (H : Heap) (locs : List Loc) (ls : Array Slot), va_P D vwCl ([w6 cA a σ] : List va_W).flatten H → va_D A0 ([w6 cA a σ] : List va_W).flatten → va_S A0 H0 H locs → lv_has ls 4 [(0, .ref (a 0)), (1, .int x1), (2, .int q.1), (3, .int q.2)] → W p l e rmX6_windersOf s m args below meth c H locs 0 0 Q (F0 m 39 ls [])) → W p l e rmX6_windersOf s m args below meth c H locs 0 0 Q (F0 m 4 ls []) := by
  obtain ⟨hx, hb, hml, hown, hts, hr, hlk, hKK⟩ := id Z
  have hK := hKK.1
  intro n
  induction n with
  | zero =>
    intro x2 x3 q h
    rw [lp_X6_windersOf_4] at h
    cases h
  | succ n ih =>
    intro x2 x3 q h H locs ls hP hD hS hl kk
    rw [lp_X6_windersOf_4] at h
    refine lv_iload_n hx hb dX6_windersOf_4 rfl (lv_at hl 3 rfl) ?_
    refine lv_aload_n hx hb dX6_windersOf_5 rfl (lv_at hl 0 rfl) ?_
    refine va_get (D := D) (ci := 6) (v := .ref (a 1)) (C := RX6) (T := TX6) (N := 19) hx hb hts in_X6_windersOf_X6 hown hK hP 0 rfl rfl 0 (by decide) (hts _ lk_X6_windersOf_7) (fun _ h9 => h9) rfl dX6_windersOf_6 ?_
    refine lv_iconst (v := 0) hx hb dX6_windersOf_9 (by decide) ?_
    refine va_iald hx hb hK hP 1 0 rfl rfl (inB_in (by decide)) dX6_windersOf_10 ?_
    refine lv_icmp_ge (tgt := 39) hx hb dX6_windersOf_11 (by decide) (fun hc1 => ?_) (fun hc1 => ?_)
    · rw [if_pos hc1] at h
      have h := Option.some.inj h
      subst h
      exact kk _ _ _ hP hD hS (lv_sub hl [0, 1, 2, 3] rfl)
    · rw [if_neg hc1] at h
      refine lv_iload_n hx hb dX6_windersOf_14 rfl (lv_at hl 2 rfl) ?_
      refine lv_aload_n hx hb dX6_windersOf_15 rfl (lv_at hl 0 rfl) ?_
      refine lv_iload_n hx hb dX6_windersOf_16 rfl (lv_at hl 3 rfl) ?_
      obtain ⟨r2, hr2, h⟩ := bind_inv h
      refine kV (rest := [.int x2]) (st1 := [.int r2, .int x2]) (cr := []) (cs' := [w6 cA a σ]) Z (c_X6_whom l D cA a σ x3 r2 hr2) 1 gX6_windersOf_X6_whom rfl hdX6_whom ⟨rfl, rfl⟩ ⟨Nat.le_of_ble_eq_true rfl, Nat.le_of_ble_eq_true rfl⟩ ⟨Nat.zero_le _, Nat.zero_le _⟩ hP hD hS hl.1 rfl rfl rfl (Nat.le_of_ble_eq_true rfl) 6 rfl rfl rfl [0] [] [0] rfl rfl rfl rfl rfl dX6_windersOf_17 (fun H locs hP hD hS => ?_)
      refine lv_iload_n hx hb dX6_windersOf_20 rfl (lv_at hl 1 rfl) ?_
      refine lv_icmp_ne (tgt := 30) hx hb dX6_windersOf_21 (by decide) (fun hc3 => ?_) (fun hc3 => ?_)
      · rw [if_neg hc3] at h
        refine lv_iconst (v := 0) hx hb dX6_windersOf_30 (by decide) ?_
        refine lv_ior hx hb dX6_windersOf_31 ?_
        refine lv_istore_n (lv' := [(2, .int (x2 ||| 0)), (0, .ref (a 0)), (1, .int x1), (3, .int x3)]) hx hb dX6_windersOf_32 rfl hl (by decide) rfl (fun ls hl => ?_)
        refine lv_iinc (v := x3 + 1) (lv' := [(3, .int (x3 + 1)), (2, .int (x2 ||| 0)), (0, .ref (a 0)), (1, .int x1)]) hx hb dX6_windersOf_33 hl (k := 3) rfl rfl (by decide) rfl (fun ls hl => ?_)
        refine lv_goto (tgt := 4) hx hb dX6_windersOf_36 (by decide) ?_
        exact ih _ _ _ h _ _ _ hP hD hS (lv_sub hl [2, 3, 1, 0] rfl) kk
      · rw [if_pos hc3] at h
        refine lv_iconst (v := 1) hx hb dX6_windersOf_24 (by decide) ?_
        refine lv_iload_n hx hb dX6_windersOf_25 rfl (lv_at hl 3 rfl) ?_
        refine lv_ishl hx hb dX6_windersOf_26 ?_
        refine lv_goto (tgt := 31) hx hb dX6_windersOf_27 (by decide) ?_
        refine lv_ior hx hb dX6_windersOf_31 ?_
        refine lv_istore_n (lv' := [(2, .int (x2 ||| (1 <<< (x3 &&& 31)))), (0, .ref (a 0)), (1, .int x1), (3, .int x3)]) hx hb dX6_windersOf_32 rfl hl (by decide) rfl (fun ls hl => ?_)
        refine lv_iinc (v := x3 + 1) (lv' := [(3, .int (x3 + 1)), (2, .int (x2 ||| (1 <<< (x3 &&& 31)))), (0, .ref (a 0)), (1, .int x1)]) hx hb dX6_windersOf_33 hl (k := 3) rfl rfl (by decide) rfl (fun ls hl => ?_)
        refine lv_goto (tgt := 4) hx hb dX6_windersOf_36 (by decide) ?_
        exact ih _ _ _ h _ _ _ hP hD hS (lv_sub hl [2, 3, 1, 0] rfl) kk
set_option maxHeartbeats 4000000 in
set_option maxRecDepth 100000 in
theorem c_X6_windersOf (l : Launch) (D : va_G) (cA : Nat → ClassId) (a : Nat → Nat) (σ : St6) (x1 : Int32) (res : Int32) (h : f_X6_windersOf σ x1 = some res) : CT l D cA yX6_windersOf wsX6_windersOf rmX6_windersOf [.ref (a 0), .int x1] [w6 cA a σ] [w6 cA a σ] (some (.int res)) := by
  refine CT.start (cc := cX6_windersOf) (maxL := 4) (ret := (some .int)) (by decide) rfl (Nat.le_of_ble_eq_true rfl) ?_
  intro p e s m below meth c Z hP hD hS ls hl
  have Z : Cx p s m _ meth c cX6_windersOf 4 (some .int) wsX6_windersOf RX6 D cA := Z
  have hl : lv_has ls 4 [(0, .ref (a 0)), (1, .int x1)] := hl
  obtain ⟨hx, hb, hml, hown, hts, hr, hlk, hKK⟩ := id Z
  have hK := hKK.1
  rw [f_X6_windersOf] at h
  refine lv_iconst (v := 0) hx hb dX6_windersOf_0 (by decide) ?_
  refine lv_istore_n (lv' := [(2, .int 0), (0, .ref (a 0)), (1, .int x1)]) hx hb dX6_windersOf_1 rfl hl (by decide) rfl (fun ls hl => ?_)
  refine lv_iconst (v := 0) hx hb dX6_windersOf_2 (by decide) ?_
  refine lv_istore_n (lv' := [(3, .int 0), (2, .int 0), (0, .ref (a 0)), (1, .int x1)]) hx hb dX6_windersOf_3 rfl hl (by decide) rfl (fun ls hl => ?_)
  obtain ⟨q4, hq4, h⟩ := bind_inv h
  refine t_X6_windersOf_4 Z σ x1 FU _ _ _ hq4 _ _ _ hP hD hS (lv_sub hl [2, 3, 1, 0] rfl) (fun H locs ls hP hD hS hl => ?_)
  refine lv_iload_n hx hb dX6_windersOf_39 rfl (lv_at hl 2 rfl) ?_
  have h := Option.some.inj h
  subst h
  exact CT.iret Z hP hD hS dX6_windersOf_40

-- X6.runs
theorem lk_X6_runs_7 : Cond.fieldLink RX6 7 "KeyedFeelingsModel" "now" "[I" ∈ wsX6_runs := by decide +kernel
theorem in_X6_runs_X6 : ∀ w ∈ wsX60, w ∈ wsX6_runs := by decide +kernel
noncomputable def f_X6_runs (σ : St6) (x1 : Int32) : Option (Int32) := (if (((p6_now σ) (1 : Int32).toNatClampNeg) - ((p6_now σ) (1 : Int32).toNatClampNeg) / 2 * 2) = 0 then (if (((p6_now σ) (1 : Int32).toNatClampNeg) - ((p6_now σ) (1 : Int32).toNatClampNeg) / 3 * 3) = 0 then ((f_X6_isStopped σ x1).bind (fun r46 => (if r46 = 0 then ((f_X6_told σ x1 0).bind (fun r48 => (if r48 = 0 then some 1 else (if r48 = 1 then some 2 else (if r48 = 2 then some 0 else (if r48 = 3 then ((f_X6_whom σ x1).bind (fun r53 => (if r53 = (-4) then some (2 + 0) else ((f_X6_whom σ x1).bind (fun r55 => ((f_X6_isStopped σ r55).bind (fun r56 => (if r56 = 0 then some (2 + 0) else some (2 + 2))))))))) else ((f_X6_windersOf σ x1).bind (fun r58 => (if r58 = 0 then some (2 * 0) else some 0))))))))) else some 0))) else ((f_X6_isStopped σ x1).bind (fun r32 => (if r32 = 0 then ((f_X6_told σ x1 0).bind (fun r34 => (if r34 = 0 then some 1 else (if r34 = 1 then some 2 else (if r34 = 2 then some 1 else (if r34 = 3 then ((f_X6_whom σ x1).bind (fun r39 => (if r39 = (-4) then some (2 + 0) else ((f_X6_whom σ x1).bind (fun r41 => ((f_X6_isStopped σ r41).bind (fun r42 => (if r42 = 0 then some (2 + 0) else some (2 + 2))))))))) else ((f_X6_windersOf σ x1).bind (fun r44 => (if r44 = 0 then some (2 * 1) else some 1))))))))) else some 0)))) else (if (((p6_now σ) (1 : Int32).toNatClampNeg) - ((p6_now σ) (1 : Int32).toNatClampNeg) / 3 * 3) = 0 then ((f_X6_isStopped σ x1).bind (fun r17 => (if r17 = 0 then ((f_X6_told σ x1 0).bind (fun r19 => (if r19 = 0 then some 1 else (if r19 = 1 then some 1 else (if r19 = 2 then some 0 else (if r19 = 3 then ((f_X6_whom σ x1).bind (fun r24 => (if r24 = (-4) then some (1 + 0) else ((f_X6_whom σ x1).bind (fun r26 => ((f_X6_isStopped σ r26).bind (fun r27 => (if r27 = 0 then some (1 + 0) else some (1 + 2))))))))) else ((f_X6_windersOf σ x1).bind (fun r29 => (if r29 = 0 then some (2 * 0) else some 0))))))))) else some 0))) else ((f_X6_isStopped σ x1).bind (fun r3 => (if r3 = 0 then ((f_X6_told σ x1 0).bind (fun r5 => (if r5 = 0 then some 1 else (if r5 = 1 then some 1 else (if r5 = 2 then some 1 else (if r5 = 3 then ((f_X6_whom σ x1).bind (fun r10 => (if r10 = (-4) then some (1 + 0) else ((f_X6_whom σ x1).bind (fun r12 => ((f_X6_isStopped σ r12).bind (fun r13 => (if r13 = 0 then some (1 + 0) else some (1 + 2))))))))) else ((f_X6_windersOf σ x1).bind (fun r15 => (if r15 = 0 then some (2 * 1) else some 1))))))))) else some 0)))))
noncomputable def rmX6_runs : Room := { frames := 3, cells := 0, slots := 0, locals := 66 }
set_option maxHeartbeats 4000000 in
set_option maxRecDepth 100000 in
theorem c_X6_runs (l : Launch) (D : va_G) (cA : Nat → ClassId) (a : Nat → Nat) (σ : St6) (x1 : Int32) (res : Int32) (h : f_X6_runs σ x1 = some res) : CT l D cA yX6_runs wsX6_runs rmX6_runs [.ref (a 0), .int x1] [w6 cA a σ] [w6 cA a σ] (some (.int res)) := by
  refine CT.start (cc := cX6_runs) (maxL := 4) (ret := (some .int)) (by decide) rfl (Nat.le_of_ble_eq_true rfl) ?_
  intro p e s m below meth c Z hP hD hS ls hl
  have Z : Cx p s m _ meth c cX6_runs 4 (some .int) wsX6_runs RX6 D cA := Z
  have hl : lv_has ls 4 [(0, .ref (a 0)), (1, .int x1)] := hl
  obtain ⟨hx, hb, hml, hown, hts, hr, hlk, hKK⟩ := id Z
  have hK := hKK.1
  rw [f_X6_runs] at h
  refine lv_aload_n hx hb dX6_runs_0 rfl (lv_at hl 0 rfl) ?_
  refine va_get (D := D) (ci := 6) (v := .ref (a 1)) (C := RX6) (T := TX6) (N := 19) hx hb hts in_X6_runs_X6 hown hK hP 0 rfl rfl 0 (by decide) (hts _ lk_X6_runs_7) (fun _ h9 => h9) rfl dX6_runs_1 ?_
  refine lv_iconst (v := 1) hx hb dX6_runs_4 (by decide) ?_
  refine va_iald hx hb hK hP 1 0 rfl rfl (inB_in (by decide)) dX6_runs_5 ?_
  refine lv_iconst (v := 2) hx hb dX6_runs_6 (by decide) ?_
  refine lv_irem hx hb dX6_runs_7 (by decide) ?_
  refine lv_if_ne (tgt := 15) hx hb dX6_runs_8 (by decide) (fun hc1 => ?_) (fun hc1 => ?_)
  · rw [if_neg hc1] at h
    refine lv_iconst (v := 1) hx hb dX6_runs_15 (by decide) ?_
    refine lv_istore_n (lv' := [(2, .int 1), (0, .ref (a 0)), (1, .int x1)]) hx hb dX6_runs_16 rfl hl (by decide) rfl (fun ls hl => ?_)
    refine lv_aload_n hx hb dX6_runs_17 rfl (lv_at hl 1 rfl) ?_
    refine va_get (D := D) (ci := 6) (v := .ref (a 1)) (C := RX6) (T := TX6) (N := 19) hx hb hts in_X6_runs_X6 hown hK hP 0 rfl rfl 0 (by decide) (hts _ lk_X6_runs_7) (fun _ h9 => h9) rfl dX6_runs_18 ?_
    refine lv_iconst (v := 1) hx hb dX6_runs_21 (by decide) ?_
    refine va_iald hx hb hK hP 1 0 rfl rfl (inB_in (by decide)) dX6_runs_22 ?_
    refine lv_iconst (v := 3) hx hb dX6_runs_23 (by decide) ?_
    refine lv_irem hx hb dX6_runs_24 (by decide) ?_
    refine lv_if_ne (tgt := 32) hx hb dX6_runs_25 (by decide) (fun hc2 => ?_) (fun hc2 => ?_)
    · rw [if_neg hc2] at h
      refine lv_iconst (v := 1) hx hb dX6_runs_32 (by decide) ?_
      refine lv_istore_n (lv' := [(3, .int 1), (2, .int 1), (0, .ref (a 0)), (1, .int x1)]) hx hb dX6_runs_33 rfl hl (by decide) rfl (fun ls hl => ?_)
      refine lv_aload_n hx hb dX6_runs_34 rfl (lv_at hl 2 rfl) ?_
      refine lv_iload_n hx hb dX6_runs_35 rfl (lv_at hl 3 rfl) ?_
      obtain ⟨r3, hr3, h⟩ := bind_inv h
      refine kV (rest := []) (st1 := [.int r3]) (cr := []) (cs' := [w6 cA a σ]) Z (c_X6_isStopped l D cA a σ x1 r3 hr3) 1 gX6_runs_X6_isStopped rfl hdX6_isStopped ⟨rfl, rfl⟩ ⟨Nat.le_of_ble_eq_true rfl, Nat.le_of_ble_eq_true rfl⟩ ⟨Nat.zero_le _, Nat.zero_le _⟩ hP hD hS hl.1 rfl rfl rfl (Nat.le_of_ble_eq_true rfl) 6 rfl rfl rfl [0] [] [0] rfl rfl rfl rfl rfl dX6_runs_36 (fun H locs hP hD hS => ?_)
      refine lv_if_eq (tgt := 44) hx hb dX6_runs_39 (by decide) (fun hc4 => ?_) (fun hc4 => ?_)
      · rw [if_pos hc4] at h
        refine lv_aload_n hx hb dX6_runs_44 rfl (lv_at hl 2 rfl) ?_
        refine lv_iload_n hx hb dX6_runs_45 rfl (lv_at hl 3 rfl) ?_
        refine lv_iconst (v := 0) hx hb dX6_runs_46 (by decide) ?_
        obtain ⟨r5, hr5, h⟩ := bind_inv h
        refine kV (rest := []) (st1 := [.int r5]) (cr := []) (cs' := [w6 cA a σ]) Z (c_X6_told l D cA a σ x1 0 r5 hr5) 2 gX6_runs_X6_told rfl hdX6_told ⟨rfl, rfl⟩ ⟨Nat.le_of_ble_eq_true rfl, Nat.le_of_ble_eq_true rfl⟩ ⟨Nat.zero_le _, Nat.zero_le _⟩ hP hD hS hl.1 rfl rfl rfl (Nat.le_of_ble_eq_true rfl) 6 rfl rfl rfl [0] [] [0] rfl rfl rfl rfl rfl dX6_runs_47 (fun H locs hP hD hS => ?_)
        by_cases hc6 : r5 = 0
        · rw [if_pos hc6] at h
          refine lv_tableIn (tgt := 80) (off := 30) hx hb dX6_runs_50 (by rw [hc6]; decide) (by rw [hc6]; decide) (by rw [hc6]; rfl) (by decide) ?_
          refine lv_iconst (v := 1) hx hb dX6_runs_80 (by decide) ?_
          have h := Option.some.inj h
          subst h
          exact CT.iret Z hP hD hS dX6_runs_81
        · rw [if_neg hc6] at h
          by_cases hc7 : r5 = 1
          · rw [if_pos hc7] at h
            refine lv_tableIn (tgt := 82) (off := 32) hx hb dX6_runs_50 (by rw [hc7]; decide) (by rw [hc7]; decide) (by rw [hc7]; rfl) (by decide) ?_
            refine lv_iload_n hx hb dX6_runs_82 rfl (lv_at hl 1 rfl) ?_
            have h := Option.some.inj h
            subst h
            exact CT.iret Z hP hD hS dX6_runs_83
          · rw [if_neg hc7] at h
            by_cases hc8 : r5 = 2
            · rw [if_pos hc8] at h
              refine lv_tableIn (tgt := 84) (off := 34) hx hb dX6_runs_50 (by rw [hc8]; decide) (by rw [hc8]; decide) (by rw [hc8]; rfl) (by decide) ?_
              refine lv_iload_n hx hb dX6_runs_84 rfl (lv_at hl 0 rfl) ?_
              have h := Option.some.inj h
              subst h
              exact CT.iret Z hP hD hS dX6_runs_85
            · rw [if_neg hc8] at h
              by_cases hc9 : r5 = 3
              · rw [if_pos hc9] at h
                refine lv_tableIn (tgt := 86) (off := 36) hx hb dX6_runs_50 (by rw [hc9]; decide) (by rw [hc9]; decide) (by rw [hc9]; rfl) (by decide) ?_
                refine lv_iload_n hx hb dX6_runs_86 rfl (lv_at hl 1 rfl) ?_
                refine lv_aload_n hx hb dX6_runs_87 rfl (lv_at hl 2 rfl) ?_
                refine lv_iload_n hx hb dX6_runs_88 rfl (lv_at hl 3 rfl) ?_
                obtain ⟨r10, hr10, h⟩ := bind_inv h
                refine kV (rest := [.int 1]) (st1 := [.int r10, .int 1]) (cr := []) (cs' := [w6 cA a σ]) Z (c_X6_whom l D cA a σ x1 r10 hr10) 1 gX6_runs_X6_whom rfl hdX6_whom ⟨rfl, rfl⟩ ⟨Nat.le_of_ble_eq_true rfl, Nat.le_of_ble_eq_true rfl⟩ ⟨Nat.zero_le _, Nat.zero_le _⟩ hP hD hS hl.1 rfl rfl rfl (Nat.le_of_ble_eq_true rfl) 6 rfl rfl rfl [0] [] [0] rfl rfl rfl rfl rfl dX6_runs_89 (fun H locs hP hD hS => ?_)
                refine lv_bipush (v := (-4)) hx hb dX6_runs_92 (by decide) ?_
                refine lv_icmp_eq (tgt := 113) hx hb dX6_runs_94 (by decide) (fun hc11 => ?_) (fun hc11 => ?_)
                · rw [if_pos hc11] at h
                  refine lv_iconst (v := 0) hx hb dX6_runs_113 (by decide) ?_
                  refine lv_iadd hx hb dX6_runs_114 ?_
                  have h := Option.some.inj h
                  subst h
                  exact CT.iret Z hP hD hS dX6_runs_115
                · rw [if_neg hc11] at h
                  refine lv_aload_n hx hb dX6_runs_97 rfl (lv_at hl 2 rfl) ?_
                  refine lv_aload_n hx hb dX6_runs_98 rfl (lv_at hl 2 rfl) ?_
                  refine lv_iload_n hx hb dX6_runs_99 rfl (lv_at hl 3 rfl) ?_
                  obtain ⟨r12, hr12, h⟩ := bind_inv h
                  refine kV (rest := [.ref (a 0), .int 1]) (st1 := [.int r12, .ref (a 0), .int 1]) (cr := []) (cs' := [w6 cA a σ]) Z (c_X6_whom l D cA a σ x1 r12 hr12) 1 gX6_runs_X6_whom rfl hdX6_whom ⟨rfl, rfl⟩ ⟨Nat.le_of_ble_eq_true rfl, Nat.le_of_ble_eq_true rfl⟩ ⟨Nat.zero_le _, Nat.zero_le _⟩ hP hD hS hl.1 rfl rfl rfl (Nat.le_of_ble_eq_true rfl) 6 rfl rfl rfl [0] [] [0] rfl rfl rfl rfl rfl dX6_runs_100 (fun H locs hP hD hS => ?_)
                  obtain ⟨r13, hr13, h⟩ := bind_inv h
                  refine kV (rest := [.int 1]) (st1 := [.int r13, .int 1]) (cr := []) (cs' := [w6 cA a σ]) Z (c_X6_isStopped l D cA a σ r12 r13 hr13) 1 gX6_runs_X6_isStopped rfl hdX6_isStopped ⟨rfl, rfl⟩ ⟨Nat.le_of_ble_eq_true rfl, Nat.le_of_ble_eq_true rfl⟩ ⟨Nat.zero_le _, Nat.zero_le _⟩ hP hD hS hl.1 rfl rfl rfl (Nat.le_of_ble_eq_true rfl) 6 rfl rfl rfl [0] [] [0] rfl rfl rfl rfl rfl dX6_runs_103 (fun H locs hP hD hS => ?_)
                  refine lv_if_eq (tgt := 113) hx hb dX6_runs_106 (by decide) (fun hc14 => ?_) (fun hc14 => ?_)
                  · rw [if_pos hc14] at h
                    refine lv_iconst (v := 0) hx hb dX6_runs_113 (by decide) ?_
                    refine lv_iadd hx hb dX6_runs_114 ?_
                    have h := Option.some.inj h
                    subst h
                    exact CT.iret Z hP hD hS dX6_runs_115
                  · rw [if_neg hc14] at h
                    refine lv_iconst (v := 2) hx hb dX6_runs_109 (by decide) ?_
                    refine lv_goto (tgt := 114) hx hb dX6_runs_110 (by decide) ?_
                    refine lv_iadd hx hb dX6_runs_114 ?_
                    have h := Option.some.inj h
                    subst h
                    exact CT.iret Z hP hD hS dX6_runs_115
              · rw [if_neg hc9] at h
                have hc6n := sw_ne (k := 0) 0 (by decide) hc6
                have hc7n := sw_ne (k := 1) 1 (by decide) hc7
                have hc8n := sw_ne (k := 2) 2 (by decide) hc8
                have hc9n := sw_ne (k := 3) 3 (by decide) hc9
                refine lv_tableOut (tgt := 116) hx hb dX6_runs_50 (by omega) (by decide) ?_
                refine lv_aload_n hx hb dX6_runs_116 rfl (lv_at hl 2 rfl) ?_
                refine lv_iload_n hx hb dX6_runs_117 rfl (lv_at hl 3 rfl) ?_
                obtain ⟨r15, hr15, h⟩ := bind_inv h
                refine kV (rest := []) (st1 := [.int r15]) (cr := []) (cs' := [w6 cA a σ]) Z (c_X6_windersOf l D cA a σ x1 r15 hr15) 1 gX6_runs_X6_windersOf rfl hdX6_windersOf ⟨rfl, rfl⟩ ⟨Nat.le_of_ble_eq_true rfl, Nat.le_of_ble_eq_true rfl⟩ ⟨Nat.zero_le _, Nat.zero_le _⟩ hP hD hS hl.1 rfl rfl rfl (Nat.le_of_ble_eq_true rfl) 6 rfl rfl rfl [0] [] [0] rfl rfl rfl rfl rfl dX6_runs_118 (fun H locs hP hD hS => ?_)
                refine lv_if_ne (tgt := 130) hx hb dX6_runs_121 (by decide) (fun hc16 => ?_) (fun hc16 => ?_)
                · rw [if_neg hc16] at h
                  refine lv_iload_n hx hb dX6_runs_130 rfl (lv_at hl 0 rfl) ?_
                  have h := Option.some.inj h
                  subst h
                  exact CT.iret Z hP hD hS dX6_runs_131
                · rw [if_pos hc16] at h
                  refine lv_iconst (v := 2) hx hb dX6_runs_124 (by decide) ?_
                  refine lv_iload_n hx hb dX6_runs_125 rfl (lv_at hl 0 rfl) ?_
                  refine lv_imul hx hb dX6_runs_126 ?_
                  refine lv_goto (tgt := 131) hx hb dX6_runs_127 (by decide) ?_
                  have h := Option.some.inj h
                  subst h
                  exact CT.iret Z hP hD hS dX6_runs_131
      · rw [if_neg hc4] at h
        refine lv_iconst (v := 0) hx hb dX6_runs_42 (by decide) ?_
        have h := Option.some.inj h
        subst h
        exact CT.iret Z hP hD hS dX6_runs_43
    · rw [if_pos hc2] at h
      refine lv_iconst (v := 0) hx hb dX6_runs_28 (by decide) ?_
      refine lv_goto (tgt := 33) hx hb dX6_runs_29 (by decide) ?_
      refine lv_istore_n (lv' := [(3, .int 0), (2, .int 1), (0, .ref (a 0)), (1, .int x1)]) hx hb dX6_runs_33 rfl hl (by decide) rfl (fun ls hl => ?_)
      refine lv_aload_n hx hb dX6_runs_34 rfl (lv_at hl 2 rfl) ?_
      refine lv_iload_n hx hb dX6_runs_35 rfl (lv_at hl 3 rfl) ?_
      obtain ⟨r17, hr17, h⟩ := bind_inv h
      refine kV (rest := []) (st1 := [.int r17]) (cr := []) (cs' := [w6 cA a σ]) Z (c_X6_isStopped l D cA a σ x1 r17 hr17) 1 gX6_runs_X6_isStopped rfl hdX6_isStopped ⟨rfl, rfl⟩ ⟨Nat.le_of_ble_eq_true rfl, Nat.le_of_ble_eq_true rfl⟩ ⟨Nat.zero_le _, Nat.zero_le _⟩ hP hD hS hl.1 rfl rfl rfl (Nat.le_of_ble_eq_true rfl) 6 rfl rfl rfl [0] [] [0] rfl rfl rfl rfl rfl dX6_runs_36 (fun H locs hP hD hS => ?_)
      refine lv_if_eq (tgt := 44) hx hb dX6_runs_39 (by decide) (fun hc18 => ?_) (fun hc18 => ?_)
      · rw [if_pos hc18] at h
        refine lv_aload_n hx hb dX6_runs_44 rfl (lv_at hl 2 rfl) ?_
        refine lv_iload_n hx hb dX6_runs_45 rfl (lv_at hl 3 rfl) ?_
        refine lv_iconst (v := 0) hx hb dX6_runs_46 (by decide) ?_
        obtain ⟨r19, hr19, h⟩ := bind_inv h
        refine kV (rest := []) (st1 := [.int r19]) (cr := []) (cs' := [w6 cA a σ]) Z (c_X6_told l D cA a σ x1 0 r19 hr19) 2 gX6_runs_X6_told rfl hdX6_told ⟨rfl, rfl⟩ ⟨Nat.le_of_ble_eq_true rfl, Nat.le_of_ble_eq_true rfl⟩ ⟨Nat.zero_le _, Nat.zero_le _⟩ hP hD hS hl.1 rfl rfl rfl (Nat.le_of_ble_eq_true rfl) 6 rfl rfl rfl [0] [] [0] rfl rfl rfl rfl rfl dX6_runs_47 (fun H locs hP hD hS => ?_)
        by_cases hc20 : r19 = 0
        · rw [if_pos hc20] at h
          refine lv_tableIn (tgt := 80) (off := 30) hx hb dX6_runs_50 (by rw [hc20]; decide) (by rw [hc20]; decide) (by rw [hc20]; rfl) (by decide) ?_
          refine lv_iconst (v := 1) hx hb dX6_runs_80 (by decide) ?_
          have h := Option.some.inj h
          subst h
          exact CT.iret Z hP hD hS dX6_runs_81
        · rw [if_neg hc20] at h
          by_cases hc21 : r19 = 1
          · rw [if_pos hc21] at h
            refine lv_tableIn (tgt := 82) (off := 32) hx hb dX6_runs_50 (by rw [hc21]; decide) (by rw [hc21]; decide) (by rw [hc21]; rfl) (by decide) ?_
            refine lv_iload_n hx hb dX6_runs_82 rfl (lv_at hl 1 rfl) ?_
            have h := Option.some.inj h
            subst h
            exact CT.iret Z hP hD hS dX6_runs_83
          · rw [if_neg hc21] at h
            by_cases hc22 : r19 = 2
            · rw [if_pos hc22] at h
              refine lv_tableIn (tgt := 84) (off := 34) hx hb dX6_runs_50 (by rw [hc22]; decide) (by rw [hc22]; decide) (by rw [hc22]; rfl) (by decide) ?_
              refine lv_iload_n hx hb dX6_runs_84 rfl (lv_at hl 0 rfl) ?_
              have h := Option.some.inj h
              subst h
              exact CT.iret Z hP hD hS dX6_runs_85
            · rw [if_neg hc22] at h
              by_cases hc23 : r19 = 3
              · rw [if_pos hc23] at h
                refine lv_tableIn (tgt := 86) (off := 36) hx hb dX6_runs_50 (by rw [hc23]; decide) (by rw [hc23]; decide) (by rw [hc23]; rfl) (by decide) ?_
                refine lv_iload_n hx hb dX6_runs_86 rfl (lv_at hl 1 rfl) ?_
                refine lv_aload_n hx hb dX6_runs_87 rfl (lv_at hl 2 rfl) ?_
                refine lv_iload_n hx hb dX6_runs_88 rfl (lv_at hl 3 rfl) ?_
                obtain ⟨r24, hr24, h⟩ := bind_inv h
                refine kV (rest := [.int 1]) (st1 := [.int r24, .int 1]) (cr := []) (cs' := [w6 cA a σ]) Z (c_X6_whom l D cA a σ x1 r24 hr24) 1 gX6_runs_X6_whom rfl hdX6_whom ⟨rfl, rfl⟩ ⟨Nat.le_of_ble_eq_true rfl, Nat.le_of_ble_eq_true rfl⟩ ⟨Nat.zero_le _, Nat.zero_le _⟩ hP hD hS hl.1 rfl rfl rfl (Nat.le_of_ble_eq_true rfl) 6 rfl rfl rfl [0] [] [0] rfl rfl rfl rfl rfl dX6_runs_89 (fun H locs hP hD hS => ?_)
                refine lv_bipush (v := (-4)) hx hb dX6_runs_92 (by decide) ?_
                refine lv_icmp_eq (tgt := 113) hx hb dX6_runs_94 (by decide) (fun hc25 => ?_) (fun hc25 => ?_)
                · rw [if_pos hc25] at h
                  refine lv_iconst (v := 0) hx hb dX6_runs_113 (by decide) ?_
                  refine lv_iadd hx hb dX6_runs_114 ?_
                  have h := Option.some.inj h
                  subst h
                  exact CT.iret Z hP hD hS dX6_runs_115
                · rw [if_neg hc25] at h
                  refine lv_aload_n hx hb dX6_runs_97 rfl (lv_at hl 2 rfl) ?_
                  refine lv_aload_n hx hb dX6_runs_98 rfl (lv_at hl 2 rfl) ?_
                  refine lv_iload_n hx hb dX6_runs_99 rfl (lv_at hl 3 rfl) ?_
                  obtain ⟨r26, hr26, h⟩ := bind_inv h
                  refine kV (rest := [.ref (a 0), .int 1]) (st1 := [.int r26, .ref (a 0), .int 1]) (cr := []) (cs' := [w6 cA a σ]) Z (c_X6_whom l D cA a σ x1 r26 hr26) 1 gX6_runs_X6_whom rfl hdX6_whom ⟨rfl, rfl⟩ ⟨Nat.le_of_ble_eq_true rfl, Nat.le_of_ble_eq_true rfl⟩ ⟨Nat.zero_le _, Nat.zero_le _⟩ hP hD hS hl.1 rfl rfl rfl (Nat.le_of_ble_eq_true rfl) 6 rfl rfl rfl [0] [] [0] rfl rfl rfl rfl rfl dX6_runs_100 (fun H locs hP hD hS => ?_)
                  obtain ⟨r27, hr27, h⟩ := bind_inv h
                  refine kV (rest := [.int 1]) (st1 := [.int r27, .int 1]) (cr := []) (cs' := [w6 cA a σ]) Z (c_X6_isStopped l D cA a σ r26 r27 hr27) 1 gX6_runs_X6_isStopped rfl hdX6_isStopped ⟨rfl, rfl⟩ ⟨Nat.le_of_ble_eq_true rfl, Nat.le_of_ble_eq_true rfl⟩ ⟨Nat.zero_le _, Nat.zero_le _⟩ hP hD hS hl.1 rfl rfl rfl (Nat.le_of_ble_eq_true rfl) 6 rfl rfl rfl [0] [] [0] rfl rfl rfl rfl rfl dX6_runs_103 (fun H locs hP hD hS => ?_)
                  refine lv_if_eq (tgt := 113) hx hb dX6_runs_106 (by decide) (fun hc28 => ?_) (fun hc28 => ?_)
                  · rw [if_pos hc28] at h
                    refine lv_iconst (v := 0) hx hb dX6_runs_113 (by decide) ?_
                    refine lv_iadd hx hb dX6_runs_114 ?_
                    have h := Option.some.inj h
                    subst h
                    exact CT.iret Z hP hD hS dX6_runs_115
                  · rw [if_neg hc28] at h
                    refine lv_iconst (v := 2) hx hb dX6_runs_109 (by decide) ?_
                    refine lv_goto (tgt := 114) hx hb dX6_runs_110 (by decide) ?_
                    refine lv_iadd hx hb dX6_runs_114 ?_
                    have h := Option.some.inj h
                    subst h
                    exact CT.iret Z hP hD hS dX6_runs_115
              · rw [if_neg hc23] at h
                have hc20n := sw_ne (k := 0) 0 (by decide) hc20
                have hc21n := sw_ne (k := 1) 1 (by decide) hc21
                have hc22n := sw_ne (k := 2) 2 (by decide) hc22
                have hc23n := sw_ne (k := 3) 3 (by decide) hc23
                refine lv_tableOut (tgt := 116) hx hb dX6_runs_50 (by omega) (by decide) ?_
                refine lv_aload_n hx hb dX6_runs_116 rfl (lv_at hl 2 rfl) ?_
                refine lv_iload_n hx hb dX6_runs_117 rfl (lv_at hl 3 rfl) ?_
                obtain ⟨r29, hr29, h⟩ := bind_inv h
                refine kV (rest := []) (st1 := [.int r29]) (cr := []) (cs' := [w6 cA a σ]) Z (c_X6_windersOf l D cA a σ x1 r29 hr29) 1 gX6_runs_X6_windersOf rfl hdX6_windersOf ⟨rfl, rfl⟩ ⟨Nat.le_of_ble_eq_true rfl, Nat.le_of_ble_eq_true rfl⟩ ⟨Nat.zero_le _, Nat.zero_le _⟩ hP hD hS hl.1 rfl rfl rfl (Nat.le_of_ble_eq_true rfl) 6 rfl rfl rfl [0] [] [0] rfl rfl rfl rfl rfl dX6_runs_118 (fun H locs hP hD hS => ?_)
                refine lv_if_ne (tgt := 130) hx hb dX6_runs_121 (by decide) (fun hc30 => ?_) (fun hc30 => ?_)
                · rw [if_neg hc30] at h
                  refine lv_iload_n hx hb dX6_runs_130 rfl (lv_at hl 0 rfl) ?_
                  have h := Option.some.inj h
                  subst h
                  exact CT.iret Z hP hD hS dX6_runs_131
                · rw [if_pos hc30] at h
                  refine lv_iconst (v := 2) hx hb dX6_runs_124 (by decide) ?_
                  refine lv_iload_n hx hb dX6_runs_125 rfl (lv_at hl 0 rfl) ?_
                  refine lv_imul hx hb dX6_runs_126 ?_
                  refine lv_goto (tgt := 131) hx hb dX6_runs_127 (by decide) ?_
                  have h := Option.some.inj h
                  subst h
                  exact CT.iret Z hP hD hS dX6_runs_131
      · rw [if_neg hc18] at h
        refine lv_iconst (v := 0) hx hb dX6_runs_42 (by decide) ?_
        have h := Option.some.inj h
        subst h
        exact CT.iret Z hP hD hS dX6_runs_43
  · rw [if_pos hc1] at h
    refine lv_iconst (v := 2) hx hb dX6_runs_11 (by decide) ?_
    refine lv_goto (tgt := 16) hx hb dX6_runs_12 (by decide) ?_
    refine lv_istore_n (lv' := [(2, .int 2), (0, .ref (a 0)), (1, .int x1)]) hx hb dX6_runs_16 rfl hl (by decide) rfl (fun ls hl => ?_)
    refine lv_aload_n hx hb dX6_runs_17 rfl (lv_at hl 1 rfl) ?_
    refine va_get (D := D) (ci := 6) (v := .ref (a 1)) (C := RX6) (T := TX6) (N := 19) hx hb hts in_X6_runs_X6 hown hK hP 0 rfl rfl 0 (by decide) (hts _ lk_X6_runs_7) (fun _ h9 => h9) rfl dX6_runs_18 ?_
    refine lv_iconst (v := 1) hx hb dX6_runs_21 (by decide) ?_
    refine va_iald hx hb hK hP 1 0 rfl rfl (inB_in (by decide)) dX6_runs_22 ?_
    refine lv_iconst (v := 3) hx hb dX6_runs_23 (by decide) ?_
    refine lv_irem hx hb dX6_runs_24 (by decide) ?_
    refine lv_if_ne (tgt := 32) hx hb dX6_runs_25 (by decide) (fun hc31 => ?_) (fun hc31 => ?_)
    · rw [if_neg hc31] at h
      refine lv_iconst (v := 1) hx hb dX6_runs_32 (by decide) ?_
      refine lv_istore_n (lv' := [(3, .int 1), (2, .int 2), (0, .ref (a 0)), (1, .int x1)]) hx hb dX6_runs_33 rfl hl (by decide) rfl (fun ls hl => ?_)
      refine lv_aload_n hx hb dX6_runs_34 rfl (lv_at hl 2 rfl) ?_
      refine lv_iload_n hx hb dX6_runs_35 rfl (lv_at hl 3 rfl) ?_
      obtain ⟨r32, hr32, h⟩ := bind_inv h
      refine kV (rest := []) (st1 := [.int r32]) (cr := []) (cs' := [w6 cA a σ]) Z (c_X6_isStopped l D cA a σ x1 r32 hr32) 1 gX6_runs_X6_isStopped rfl hdX6_isStopped ⟨rfl, rfl⟩ ⟨Nat.le_of_ble_eq_true rfl, Nat.le_of_ble_eq_true rfl⟩ ⟨Nat.zero_le _, Nat.zero_le _⟩ hP hD hS hl.1 rfl rfl rfl (Nat.le_of_ble_eq_true rfl) 6 rfl rfl rfl [0] [] [0] rfl rfl rfl rfl rfl dX6_runs_36 (fun H locs hP hD hS => ?_)
      refine lv_if_eq (tgt := 44) hx hb dX6_runs_39 (by decide) (fun hc33 => ?_) (fun hc33 => ?_)
      · rw [if_pos hc33] at h
        refine lv_aload_n hx hb dX6_runs_44 rfl (lv_at hl 2 rfl) ?_
        refine lv_iload_n hx hb dX6_runs_45 rfl (lv_at hl 3 rfl) ?_
        refine lv_iconst (v := 0) hx hb dX6_runs_46 (by decide) ?_
        obtain ⟨r34, hr34, h⟩ := bind_inv h
        refine kV (rest := []) (st1 := [.int r34]) (cr := []) (cs' := [w6 cA a σ]) Z (c_X6_told l D cA a σ x1 0 r34 hr34) 2 gX6_runs_X6_told rfl hdX6_told ⟨rfl, rfl⟩ ⟨Nat.le_of_ble_eq_true rfl, Nat.le_of_ble_eq_true rfl⟩ ⟨Nat.zero_le _, Nat.zero_le _⟩ hP hD hS hl.1 rfl rfl rfl (Nat.le_of_ble_eq_true rfl) 6 rfl rfl rfl [0] [] [0] rfl rfl rfl rfl rfl dX6_runs_47 (fun H locs hP hD hS => ?_)
        by_cases hc35 : r34 = 0
        · rw [if_pos hc35] at h
          refine lv_tableIn (tgt := 80) (off := 30) hx hb dX6_runs_50 (by rw [hc35]; decide) (by rw [hc35]; decide) (by rw [hc35]; rfl) (by decide) ?_
          refine lv_iconst (v := 1) hx hb dX6_runs_80 (by decide) ?_
          have h := Option.some.inj h
          subst h
          exact CT.iret Z hP hD hS dX6_runs_81
        · rw [if_neg hc35] at h
          by_cases hc36 : r34 = 1
          · rw [if_pos hc36] at h
            refine lv_tableIn (tgt := 82) (off := 32) hx hb dX6_runs_50 (by rw [hc36]; decide) (by rw [hc36]; decide) (by rw [hc36]; rfl) (by decide) ?_
            refine lv_iload_n hx hb dX6_runs_82 rfl (lv_at hl 1 rfl) ?_
            have h := Option.some.inj h
            subst h
            exact CT.iret Z hP hD hS dX6_runs_83
          · rw [if_neg hc36] at h
            by_cases hc37 : r34 = 2
            · rw [if_pos hc37] at h
              refine lv_tableIn (tgt := 84) (off := 34) hx hb dX6_runs_50 (by rw [hc37]; decide) (by rw [hc37]; decide) (by rw [hc37]; rfl) (by decide) ?_
              refine lv_iload_n hx hb dX6_runs_84 rfl (lv_at hl 0 rfl) ?_
              have h := Option.some.inj h
              subst h
              exact CT.iret Z hP hD hS dX6_runs_85
            · rw [if_neg hc37] at h
              by_cases hc38 : r34 = 3
              · rw [if_pos hc38] at h
                refine lv_tableIn (tgt := 86) (off := 36) hx hb dX6_runs_50 (by rw [hc38]; decide) (by rw [hc38]; decide) (by rw [hc38]; rfl) (by decide) ?_
                refine lv_iload_n hx hb dX6_runs_86 rfl (lv_at hl 1 rfl) ?_
                refine lv_aload_n hx hb dX6_runs_87 rfl (lv_at hl 2 rfl) ?_
                refine lv_iload_n hx hb dX6_runs_88 rfl (lv_at hl 3 rfl) ?_
                obtain ⟨r39, hr39, h⟩ := bind_inv h
                refine kV (rest := [.int 2]) (st1 := [.int r39, .int 2]) (cr := []) (cs' := [w6 cA a σ]) Z (c_X6_whom l D cA a σ x1 r39 hr39) 1 gX6_runs_X6_whom rfl hdX6_whom ⟨rfl, rfl⟩ ⟨Nat.le_of_ble_eq_true rfl, Nat.le_of_ble_eq_true rfl⟩ ⟨Nat.zero_le _, Nat.zero_le _⟩ hP hD hS hl.1 rfl rfl rfl (Nat.le_of_ble_eq_true rfl) 6 rfl rfl rfl [0] [] [0] rfl rfl rfl rfl rfl dX6_runs_89 (fun H locs hP hD hS => ?_)
                refine lv_bipush (v := (-4)) hx hb dX6_runs_92 (by decide) ?_
                refine lv_icmp_eq (tgt := 113) hx hb dX6_runs_94 (by decide) (fun hc40 => ?_) (fun hc40 => ?_)
                · rw [if_pos hc40] at h
                  refine lv_iconst (v := 0) hx hb dX6_runs_113 (by decide) ?_
                  refine lv_iadd hx hb dX6_runs_114 ?_
                  have h := Option.some.inj h
                  subst h
                  exact CT.iret Z hP hD hS dX6_runs_115
                · rw [if_neg hc40] at h
                  refine lv_aload_n hx hb dX6_runs_97 rfl (lv_at hl 2 rfl) ?_
                  refine lv_aload_n hx hb dX6_runs_98 rfl (lv_at hl 2 rfl) ?_
                  refine lv_iload_n hx hb dX6_runs_99 rfl (lv_at hl 3 rfl) ?_
                  obtain ⟨r41, hr41, h⟩ := bind_inv h
                  refine kV (rest := [.ref (a 0), .int 2]) (st1 := [.int r41, .ref (a 0), .int 2]) (cr := []) (cs' := [w6 cA a σ]) Z (c_X6_whom l D cA a σ x1 r41 hr41) 1 gX6_runs_X6_whom rfl hdX6_whom ⟨rfl, rfl⟩ ⟨Nat.le_of_ble_eq_true rfl, Nat.le_of_ble_eq_true rfl⟩ ⟨Nat.zero_le _, Nat.zero_le _⟩ hP hD hS hl.1 rfl rfl rfl (Nat.le_of_ble_eq_true rfl) 6 rfl rfl rfl [0] [] [0] rfl rfl rfl rfl rfl dX6_runs_100 (fun H locs hP hD hS => ?_)
                  obtain ⟨r42, hr42, h⟩ := bind_inv h
                  refine kV (rest := [.int 2]) (st1 := [.int r42, .int 2]) (cr := []) (cs' := [w6 cA a σ]) Z (c_X6_isStopped l D cA a σ r41 r42 hr42) 1 gX6_runs_X6_isStopped rfl hdX6_isStopped ⟨rfl, rfl⟩ ⟨Nat.le_of_ble_eq_true rfl, Nat.le_of_ble_eq_true rfl⟩ ⟨Nat.zero_le _, Nat.zero_le _⟩ hP hD hS hl.1 rfl rfl rfl (Nat.le_of_ble_eq_true rfl) 6 rfl rfl rfl [0] [] [0] rfl rfl rfl rfl rfl dX6_runs_103 (fun H locs hP hD hS => ?_)
                  refine lv_if_eq (tgt := 113) hx hb dX6_runs_106 (by decide) (fun hc43 => ?_) (fun hc43 => ?_)
                  · rw [if_pos hc43] at h
                    refine lv_iconst (v := 0) hx hb dX6_runs_113 (by decide) ?_
                    refine lv_iadd hx hb dX6_runs_114 ?_
                    have h := Option.some.inj h
                    subst h
                    exact CT.iret Z hP hD hS dX6_runs_115
                  · rw [if_neg hc43] at h
                    refine lv_iconst (v := 2) hx hb dX6_runs_109 (by decide) ?_
                    refine lv_goto (tgt := 114) hx hb dX6_runs_110 (by decide) ?_
                    refine lv_iadd hx hb dX6_runs_114 ?_
                    have h := Option.some.inj h
                    subst h
                    exact CT.iret Z hP hD hS dX6_runs_115
              · rw [if_neg hc38] at h
                have hc35n := sw_ne (k := 0) 0 (by decide) hc35
                have hc36n := sw_ne (k := 1) 1 (by decide) hc36
                have hc37n := sw_ne (k := 2) 2 (by decide) hc37
                have hc38n := sw_ne (k := 3) 3 (by decide) hc38
                refine lv_tableOut (tgt := 116) hx hb dX6_runs_50 (by omega) (by decide) ?_
                refine lv_aload_n hx hb dX6_runs_116 rfl (lv_at hl 2 rfl) ?_
                refine lv_iload_n hx hb dX6_runs_117 rfl (lv_at hl 3 rfl) ?_
                obtain ⟨r44, hr44, h⟩ := bind_inv h
                refine kV (rest := []) (st1 := [.int r44]) (cr := []) (cs' := [w6 cA a σ]) Z (c_X6_windersOf l D cA a σ x1 r44 hr44) 1 gX6_runs_X6_windersOf rfl hdX6_windersOf ⟨rfl, rfl⟩ ⟨Nat.le_of_ble_eq_true rfl, Nat.le_of_ble_eq_true rfl⟩ ⟨Nat.zero_le _, Nat.zero_le _⟩ hP hD hS hl.1 rfl rfl rfl (Nat.le_of_ble_eq_true rfl) 6 rfl rfl rfl [0] [] [0] rfl rfl rfl rfl rfl dX6_runs_118 (fun H locs hP hD hS => ?_)
                refine lv_if_ne (tgt := 130) hx hb dX6_runs_121 (by decide) (fun hc45 => ?_) (fun hc45 => ?_)
                · rw [if_neg hc45] at h
                  refine lv_iload_n hx hb dX6_runs_130 rfl (lv_at hl 0 rfl) ?_
                  have h := Option.some.inj h
                  subst h
                  exact CT.iret Z hP hD hS dX6_runs_131
                · rw [if_pos hc45] at h
                  refine lv_iconst (v := 2) hx hb dX6_runs_124 (by decide) ?_
                  refine lv_iload_n hx hb dX6_runs_125 rfl (lv_at hl 0 rfl) ?_
                  refine lv_imul hx hb dX6_runs_126 ?_
                  refine lv_goto (tgt := 131) hx hb dX6_runs_127 (by decide) ?_
                  have h := Option.some.inj h
                  subst h
                  exact CT.iret Z hP hD hS dX6_runs_131
      · rw [if_neg hc33] at h
        refine lv_iconst (v := 0) hx hb dX6_runs_42 (by decide) ?_
        have h := Option.some.inj h
        subst h
        exact CT.iret Z hP hD hS dX6_runs_43
    · rw [if_pos hc31] at h
      refine lv_iconst (v := 0) hx hb dX6_runs_28 (by decide) ?_
      refine lv_goto (tgt := 33) hx hb dX6_runs_29 (by decide) ?_
      refine lv_istore_n (lv' := [(3, .int 0), (2, .int 2), (0, .ref (a 0)), (1, .int x1)]) hx hb dX6_runs_33 rfl hl (by decide) rfl (fun ls hl => ?_)
      refine lv_aload_n hx hb dX6_runs_34 rfl (lv_at hl 2 rfl) ?_
      refine lv_iload_n hx hb dX6_runs_35 rfl (lv_at hl 3 rfl) ?_
      obtain ⟨r46, hr46, h⟩ := bind_inv h
      refine kV (rest := []) (st1 := [.int r46]) (cr := []) (cs' := [w6 cA a σ]) Z (c_X6_isStopped l D cA a σ x1 r46 hr46) 1 gX6_runs_X6_isStopped rfl hdX6_isStopped ⟨rfl, rfl⟩ ⟨Nat.le_of_ble_eq_true rfl, Nat.le_of_ble_eq_true rfl⟩ ⟨Nat.zero_le _, Nat.zero_le _⟩ hP hD hS hl.1 rfl rfl rfl (Nat.le_of_ble_eq_true rfl) 6 rfl rfl rfl [0] [] [0] rfl rfl rfl rfl rfl dX6_runs_36 (fun H locs hP hD hS => ?_)
      refine lv_if_eq (tgt := 44) hx hb dX6_runs_39 (by decide) (fun hc47 => ?_) (fun hc47 => ?_)
      · rw [if_pos hc47] at h
        refine lv_aload_n hx hb dX6_runs_44 rfl (lv_at hl 2 rfl) ?_
        refine lv_iload_n hx hb dX6_runs_45 rfl (lv_at hl 3 rfl) ?_
        refine lv_iconst (v := 0) hx hb dX6_runs_46 (by decide) ?_
        obtain ⟨r48, hr48, h⟩ := bind_inv h
        refine kV (rest := []) (st1 := [.int r48]) (cr := []) (cs' := [w6 cA a σ]) Z (c_X6_told l D cA a σ x1 0 r48 hr48) 2 gX6_runs_X6_told rfl hdX6_told ⟨rfl, rfl⟩ ⟨Nat.le_of_ble_eq_true rfl, Nat.le_of_ble_eq_true rfl⟩ ⟨Nat.zero_le _, Nat.zero_le _⟩ hP hD hS hl.1 rfl rfl rfl (Nat.le_of_ble_eq_true rfl) 6 rfl rfl rfl [0] [] [0] rfl rfl rfl rfl rfl dX6_runs_47 (fun H locs hP hD hS => ?_)
        by_cases hc49 : r48 = 0
        · rw [if_pos hc49] at h
          refine lv_tableIn (tgt := 80) (off := 30) hx hb dX6_runs_50 (by rw [hc49]; decide) (by rw [hc49]; decide) (by rw [hc49]; rfl) (by decide) ?_
          refine lv_iconst (v := 1) hx hb dX6_runs_80 (by decide) ?_
          have h := Option.some.inj h
          subst h
          exact CT.iret Z hP hD hS dX6_runs_81
        · rw [if_neg hc49] at h
          by_cases hc50 : r48 = 1
          · rw [if_pos hc50] at h
            refine lv_tableIn (tgt := 82) (off := 32) hx hb dX6_runs_50 (by rw [hc50]; decide) (by rw [hc50]; decide) (by rw [hc50]; rfl) (by decide) ?_
            refine lv_iload_n hx hb dX6_runs_82 rfl (lv_at hl 1 rfl) ?_
            have h := Option.some.inj h
            subst h
            exact CT.iret Z hP hD hS dX6_runs_83
          · rw [if_neg hc50] at h
            by_cases hc51 : r48 = 2
            · rw [if_pos hc51] at h
              refine lv_tableIn (tgt := 84) (off := 34) hx hb dX6_runs_50 (by rw [hc51]; decide) (by rw [hc51]; decide) (by rw [hc51]; rfl) (by decide) ?_
              refine lv_iload_n hx hb dX6_runs_84 rfl (lv_at hl 0 rfl) ?_
              have h := Option.some.inj h
              subst h
              exact CT.iret Z hP hD hS dX6_runs_85
            · rw [if_neg hc51] at h
              by_cases hc52 : r48 = 3
              · rw [if_pos hc52] at h
                refine lv_tableIn (tgt := 86) (off := 36) hx hb dX6_runs_50 (by rw [hc52]; decide) (by rw [hc52]; decide) (by rw [hc52]; rfl) (by decide) ?_
                refine lv_iload_n hx hb dX6_runs_86 rfl (lv_at hl 1 rfl) ?_
                refine lv_aload_n hx hb dX6_runs_87 rfl (lv_at hl 2 rfl) ?_
                refine lv_iload_n hx hb dX6_runs_88 rfl (lv_at hl 3 rfl) ?_
                obtain ⟨r53, hr53, h⟩ := bind_inv h
                refine kV (rest := [.int 2]) (st1 := [.int r53, .int 2]) (cr := []) (cs' := [w6 cA a σ]) Z (c_X6_whom l D cA a σ x1 r53 hr53) 1 gX6_runs_X6_whom rfl hdX6_whom ⟨rfl, rfl⟩ ⟨Nat.le_of_ble_eq_true rfl, Nat.le_of_ble_eq_true rfl⟩ ⟨Nat.zero_le _, Nat.zero_le _⟩ hP hD hS hl.1 rfl rfl rfl (Nat.le_of_ble_eq_true rfl) 6 rfl rfl rfl [0] [] [0] rfl rfl rfl rfl rfl dX6_runs_89 (fun H locs hP hD hS => ?_)
                refine lv_bipush (v := (-4)) hx hb dX6_runs_92 (by decide) ?_
                refine lv_icmp_eq (tgt := 113) hx hb dX6_runs_94 (by decide) (fun hc54 => ?_) (fun hc54 => ?_)
                · rw [if_pos hc54] at h
                  refine lv_iconst (v := 0) hx hb dX6_runs_113 (by decide) ?_
                  refine lv_iadd hx hb dX6_runs_114 ?_
                  have h := Option.some.inj h
                  subst h
                  exact CT.iret Z hP hD hS dX6_runs_115
                · rw [if_neg hc54] at h
                  refine lv_aload_n hx hb dX6_runs_97 rfl (lv_at hl 2 rfl) ?_
                  refine lv_aload_n hx hb dX6_runs_98 rfl (lv_at hl 2 rfl) ?_
                  refine lv_iload_n hx hb dX6_runs_99 rfl (lv_at hl 3 rfl) ?_
                  obtain ⟨r55, hr55, h⟩ := bind_inv h
                  refine kV (rest := [.ref (a 0), .int 2]) (st1 := [.int r55, .ref (a 0), .int 2]) (cr := []) (cs' := [w6 cA a σ]) Z (c_X6_whom l D cA a σ x1 r55 hr55) 1 gX6_runs_X6_whom rfl hdX6_whom ⟨rfl, rfl⟩ ⟨Nat.le_of_ble_eq_true rfl, Nat.le_of_ble_eq_true rfl⟩ ⟨Nat.zero_le _, Nat.zero_le _⟩ hP hD hS hl.1 rfl rfl rfl (Nat.le_of_ble_eq_true rfl) 6 rfl rfl rfl [0] [] [0] rfl rfl rfl rfl rfl dX6_runs_100 (fun H locs hP hD hS => ?_)
                  obtain ⟨r56, hr56, h⟩ := bind_inv h
                  refine kV (rest := [.int 2]) (st1 := [.int r56, .int 2]) (cr := []) (cs' := [w6 cA a σ]) Z (c_X6_isStopped l D cA a σ r55 r56 hr56) 1 gX6_runs_X6_isStopped rfl hdX6_isStopped ⟨rfl, rfl⟩ ⟨Nat.le_of_ble_eq_true rfl, Nat.le_of_ble_eq_true rfl⟩ ⟨Nat.zero_le _, Nat.zero_le _⟩ hP hD hS hl.1 rfl rfl rfl (Nat.le_of_ble_eq_true rfl) 6 rfl rfl rfl [0] [] [0] rfl rfl rfl rfl rfl dX6_runs_103 (fun H locs hP hD hS => ?_)
                  refine lv_if_eq (tgt := 113) hx hb dX6_runs_106 (by decide) (fun hc57 => ?_) (fun hc57 => ?_)
                  · rw [if_pos hc57] at h
                    refine lv_iconst (v := 0) hx hb dX6_runs_113 (by decide) ?_
                    refine lv_iadd hx hb dX6_runs_114 ?_
                    have h := Option.some.inj h
                    subst h
                    exact CT.iret Z hP hD hS dX6_runs_115
                  · rw [if_neg hc57] at h
                    refine lv_iconst (v := 2) hx hb dX6_runs_109 (by decide) ?_
                    refine lv_goto (tgt := 114) hx hb dX6_runs_110 (by decide) ?_
                    refine lv_iadd hx hb dX6_runs_114 ?_
                    have h := Option.some.inj h
                    subst h
                    exact CT.iret Z hP hD hS dX6_runs_115
              · rw [if_neg hc52] at h
                have hc49n := sw_ne (k := 0) 0 (by decide) hc49
                have hc50n := sw_ne (k := 1) 1 (by decide) hc50
                have hc51n := sw_ne (k := 2) 2 (by decide) hc51
                have hc52n := sw_ne (k := 3) 3 (by decide) hc52
                refine lv_tableOut (tgt := 116) hx hb dX6_runs_50 (by omega) (by decide) ?_
                refine lv_aload_n hx hb dX6_runs_116 rfl (lv_at hl 2 rfl) ?_
                refine lv_iload_n hx hb dX6_runs_117 rfl (lv_at hl 3 rfl) ?_
                obtain ⟨r58, hr58, h⟩ := bind_inv h
                refine kV (rest := []) (st1 := [.int r58]) (cr := []) (cs' := [w6 cA a σ]) Z (c_X6_windersOf l D cA a σ x1 r58 hr58) 1 gX6_runs_X6_windersOf rfl hdX6_windersOf ⟨rfl, rfl⟩ ⟨Nat.le_of_ble_eq_true rfl, Nat.le_of_ble_eq_true rfl⟩ ⟨Nat.zero_le _, Nat.zero_le _⟩ hP hD hS hl.1 rfl rfl rfl (Nat.le_of_ble_eq_true rfl) 6 rfl rfl rfl [0] [] [0] rfl rfl rfl rfl rfl dX6_runs_118 (fun H locs hP hD hS => ?_)
                refine lv_if_ne (tgt := 130) hx hb dX6_runs_121 (by decide) (fun hc59 => ?_) (fun hc59 => ?_)
                · rw [if_neg hc59] at h
                  refine lv_iload_n hx hb dX6_runs_130 rfl (lv_at hl 0 rfl) ?_
                  have h := Option.some.inj h
                  subst h
                  exact CT.iret Z hP hD hS dX6_runs_131
                · rw [if_pos hc59] at h
                  refine lv_iconst (v := 2) hx hb dX6_runs_124 (by decide) ?_
                  refine lv_iload_n hx hb dX6_runs_125 rfl (lv_at hl 0 rfl) ?_
                  refine lv_imul hx hb dX6_runs_126 ?_
                  refine lv_goto (tgt := 131) hx hb dX6_runs_127 (by decide) ?_
                  have h := Option.some.inj h
                  subst h
                  exact CT.iret Z hP hD hS dX6_runs_131
      · rw [if_neg hc47] at h
        refine lv_iconst (v := 0) hx hb dX6_runs_42 (by decide) ?_
        have h := Option.some.inj h
        subst h
        exact CT.iret Z hP hD hS dX6_runs_43

-- X6.isWinding
theorem lk_X6_isWinding_7 : Cond.fieldLink RX6 7 "KeyedFeelingsModel" "now" "[I" ∈ wsX6_isWinding := by decide +kernel
theorem in_X6_isWinding_X6 : ∀ w ∈ wsX60, w ∈ wsX6_isWinding := by decide +kernel
noncomputable def f_X6_isWinding (σ : St6) : Option (Int32) := (if (((p6_now σ) (1 : Int32).toNatClampNeg) - ((p6_now σ) (1 : Int32).toNatClampNeg) / 8 * 8) = 0 then some 1 else some 0)
noncomputable def rmX6_isWinding : Room := { frames := 0, cells := 0, slots := 0, locals := 0 }
set_option maxHeartbeats 4000000 in
set_option maxRecDepth 100000 in
theorem c_X6_isWinding (l : Launch) (D : va_G) (cA : Nat → ClassId) (a : Nat → Nat) (σ : St6) (res : Int32) (h : f_X6_isWinding σ = some res) : CT l D cA yX6_isWinding wsX6_isWinding rmX6_isWinding [.ref (a 0)] [w6 cA a σ] [w6 cA a σ] (some (.int res)) := by
  refine CT.start (cc := cX6_isWinding) (maxL := 1) (ret := (some .boolean)) (by decide) rfl (Nat.le_of_ble_eq_true rfl) ?_
  intro p e s m below meth c Z hP hD hS ls hl
  have Z : Cx p s m _ meth c cX6_isWinding 1 (some .boolean) wsX6_isWinding RX6 D cA := Z
  have hl : lv_has ls 1 [(0, .ref (a 0))] := hl
  obtain ⟨hx, hb, hml, hown, hts, hr, hlk, hKK⟩ := id Z
  have hK := hKK.1
  rw [f_X6_isWinding] at h
  refine lv_aload_n hx hb dX6_isWinding_0 rfl (lv_at hl 0 rfl) ?_
  refine va_get (D := D) (ci := 6) (v := .ref (a 1)) (C := RX6) (T := TX6) (N := 19) hx hb hts in_X6_isWinding_X6 hown hK hP 0 rfl rfl 0 (by decide) (hts _ lk_X6_isWinding_7) (fun _ h9 => h9) rfl dX6_isWinding_1 ?_
  refine lv_iconst (v := 1) hx hb dX6_isWinding_4 (by decide) ?_
  refine va_iald hx hb hK hP 1 0 rfl rfl (inB_in (by decide)) dX6_isWinding_5 ?_
  refine lv_bipush (v := 8) hx hb dX6_isWinding_6 (by decide) ?_
  refine lv_irem hx hb dX6_isWinding_8 (by decide) ?_
  refine lv_if_ne (tgt := 16) hx hb dX6_isWinding_9 (by decide) (fun hc1 => ?_) (fun hc1 => ?_)
  · rw [if_neg hc1] at h
    refine lv_iconst (v := 0) hx hb dX6_isWinding_16 (by decide) ?_
    have h := Option.some.inj h
    subst h
    exact CT.zret Z (nar_bool (Or.inl rfl)) hP hD hS dX6_isWinding_17
  · rw [if_pos hc1] at h
    refine lv_iconst (v := 1) hx hb dX6_isWinding_12 (by decide) ?_
    refine lv_goto (tgt := 17) hx hb dX6_isWinding_13 (by decide) ?_
    have h := Option.some.inj h
    subst h
    exact CT.zret Z (nar_bool (Or.inr rfl)) hP hD hS dX6_isWinding_17

-- X6.winds
theorem lk_X6_winds_13 : Cond.fieldLink RX6 13 "KeyedFeelingsModel" "change" "[I" ∈ wsX6_winds := by decide +kernel
theorem in_X6_winds_X6 : ∀ w ∈ wsX60, w ∈ wsX6_winds := by decide +kernel
theorem lk_X6_winds_7 : Cond.fieldLink RX6 7 "KeyedFeelingsModel" "now" "[I" ∈ wsX6_winds := by decide +kernel
noncomputable def lp_X6_winds_2 (x1 : Int32) : Nat → Int32 → St6 → Option (Int32 × St6)
  | 0, _, _ => none
  | n + 1, x2, σ => (if 6 ≤ x2 then some (x2, σ) else (if inB x2 6 = true then lp_X6_winds_2 x1 n (x2 + 1) (s6_change σ (upd (p6_change σ) x2.toNatClampNeg 0)) else none))
noncomputable def lp_X6_winds_23 (x1 : Int32) : Nat → Int32 → St6 → Option (Int32 × St6)
  | 0, _, _ => none
  | n + 1, x2, σ => (if ((p6_now σ) (0 : Int32).toNatClampNeg) ≤ x2 then some (x2, σ) else ((f_X6_isStopped σ x2).bind (fun r5 => (if r5 = 0 then ((f_X6_whom σ x2).bind (fun r7 => (if r7 = (-4) then lp_X6_winds_23 x1 n (x2 + 1) σ else (if ((x1 >>> (x2 &&& 31)) &&& 1) = 0 then ((f_X6_whom σ x2).bind (fun r10 => (if inB r10 6 = true then ((f_X6_told σ x2 3).bind (fun r12 => (if inB r10 6 = true then lp_X6_winds_23 x1 n (x2 + 1) (s6_change σ (upd (p6_change σ) r10.toNatClampNeg (((p6_change σ) r10.toNatClampNeg) + r12))) else none))) else none))) else lp_X6_winds_23 x1 n (x2 + 1) σ)))) else lp_X6_winds_23 x1 n (x2 + 1) σ))))
noncomputable def lp_X6_winds_86  : Nat → Int32 → St6 → Option (Int32 × St6)
  | 0, _, _ => none
  | n + 1, x2, σ => (if ((p6_now σ) (0 : Int32).toNatClampNeg) ≤ x2 then some (x2, σ) else ((f_X6_turns σ x2).bind (fun r16 => (if inB x2 6 = true then (if (r16 + ((p6_change σ) x2.toNatClampNeg)) ≤ 30 then ((f_X6_tells σ x2 1 (r16 + ((p6_change σ) x2.toNatClampNeg))).bind (fun r19 => lp_X6_winds_86  n (x2 + 1) r19)) else ((f_X6_tells σ x2 1 30).bind (fun r20 => lp_X6_winds_86  n (x2 + 1) r20))) else none))))
noncomputable def f_X6_winds (σ : St6) (x1 : Int32) : Option (St6) := ((lp_X6_winds_2 x1 FU 0 σ).bind (fun q3 => ((lp_X6_winds_23 x1 FU 0 q3.2).bind (fun q14 => ((lp_X6_winds_86  FU 0 q14.2).bind (fun q21 => some q21.2))))))
noncomputable def rmX6_winds : Room := { frames := 3, cells := 0, slots := 0, locals := 64 }
set_option maxHeartbeats 4000000 in
set_option maxRecDepth 100000 in
theorem t_X6_winds_2 {p : Program} {l : Launch} {e : Env} {s : State} {m : MethodId} {args : Array Value} {below : List Frame} {meth : Method} {c : Code} {D : va_G} {cA : Nat → ClassId} {A0 : Nat → Prop} {H0 : Heap} {a : Nat → Nat} (Z : Cx p s m args meth c cX6_winds 4 none wsX6_winds RX6 D cA) (x1 : Int32) {Q : State → Prop} : ∀ (n : Nat) (x2 : Int32) (σ : St6) (q : Int32 × St6), lp_X6_winds_2 x1 n x2 σ = some q → ∀ (H : Heap) (locs : List Loc) (ls : Array Slot), va_P D vwCl ([w6 cA a σ] : List va_W).flatten H → va_D A0 ([w6 cA a σ] : List va_W).flatten → va_S A0 H0 H locs → lv_has ls 4 [(0, .ref (a 0)), (1, .int x1), (2, .int x2)] → (∀ (H : Heap) (locs : List Loc) (ls : Array Slot), va_P D vwCl ([w6 cA a q.2] : List va_W).flatten H → va_D A0 ([w6 cA a q.2] : List va_W).flatten → va_S A0 H0 H locs → lv_has ls 4 [(0, .ref (a 0)), (1, .int x1), (2, .int q.1)] → W p l e rmX6_winds s m args below meth c H locs 0 0 Q (F0 m 21 ls [])) → W p l e rmX6_winds s m args below meth c H locs 0 0 Q (F0 m 2 ls []) := by
  obtain ⟨hx, hb, hml, hown, hts, hr, hlk, hKK⟩ := id Z
  have hK := hKK.1
  intro n
  induction n with
  | zero =>
    intro x2 σ q h
    rw [lp_X6_winds_2] at h
    cases h
  | succ n ih =>
    intro x2 σ q h H locs ls hP hD hS hl kk
    rw [lp_X6_winds_2] at h
    refine lv_iload_n hx hb dX6_winds_2 rfl (lv_at hl 2 rfl) ?_
    refine lv_bipush (v := 6) hx hb dX6_winds_3 (by decide) ?_
    refine lv_icmp_ge (tgt := 21) hx hb dX6_winds_5 (by decide) (fun hc1 => ?_) (fun hc1 => ?_)
    · rw [if_pos hc1] at h
      have h := Option.some.inj h
      subst h
      exact kk _ _ _ hP hD hS (lv_sub hl [0, 1, 2] rfl)
    · rw [if_neg hc1] at h
      refine lv_aload_n hx hb dX6_winds_8 rfl (lv_at hl 0 rfl) ?_
      refine va_get (D := D) (ci := 6) (v := .ref (a 2)) (C := RX6) (T := TX6) (N := 19) hx hb hts in_X6_winds_X6 hown hK hP 0 rfl rfl 1 (by decide) (hts _ lk_X6_winds_13) (fun _ h9 => h9) rfl dX6_winds_9 ?_
      refine lv_iload_n hx hb dX6_winds_12 rfl (lv_at hl 2 rfl) ?_
      refine lv_iconst (v := 0) hx hb dX6_winds_13 (by decide) ?_
      obtain ⟨hg2, h⟩ := if_inv h
      refine va_iast hx hb hK hP hD hS 2 0 rfl rfl (inB_in hg2) dX6_winds_14 (fun H locs hP hD hS => ?_)
      have hP : va_P D vwCl ([w6 cA a (s6_change σ (upd (p6_change σ) x2.toNatClampNeg 0))] : List va_W).flatten H := hP
      have hD : va_D _ ([w6 cA a (s6_change σ (upd (p6_change σ) x2.toNatClampNeg 0))] : List va_W).flatten := hD
      refine lv_iinc (v := x2 + 1) (lv' := [(2, .int (x2 + 1)), (0, .ref (a 0)), (1, .int x1)]) hx hb dX6_winds_15 hl (k := 2) rfl rfl (by decide) rfl (fun ls hl => ?_)
      refine lv_goto (tgt := 2) hx hb dX6_winds_18 (by decide) ?_
      exact ih _ _ _ h _ _ _ hP hD hS (lv_sub hl [1, 2, 0] rfl) kk
set_option maxHeartbeats 4000000 in
set_option maxRecDepth 100000 in
theorem t_X6_winds_23 {p : Program} {l : Launch} {e : Env} {s : State} {m : MethodId} {args : Array Value} {below : List Frame} {meth : Method} {c : Code} {D : va_G} {cA : Nat → ClassId} {A0 : Nat → Prop} {H0 : Heap} {a : Nat → Nat} (Z : Cx p s m args meth c cX6_winds 4 none wsX6_winds RX6 D cA) (x1 : Int32) {Q : State → Prop} : ∀ (n : Nat) (x2 : Int32) (σ : St6) (q : Int32 × St6), lp_X6_winds_23 x1 n x2 σ = some q → ∀ (H : Heap) (locs : List Loc) (ls : Array Slot), va_P D vwCl ([w6 cA a σ] : List va_W).flatten H → va_D A0 ([w6 cA a σ] : List va_W).flatten → va_S A0 H0 H locs → lv_has ls 4 [(0, .ref (a 0)), (1, .int x1), (2, .int x2)] → (∀ (H : Heap) (locs : List Loc) (ls : Array Slot), va_P D vwCl ([w6 cA a q.2] : List va_W).flatten H → va_D A0 ([w6 cA a q.2] : List va_W).flatten → va_S A0 H0 H locs → lv_has ls 4 [(0, .ref (a 0)), (1, .int x1), (2, .int q.1)] → W p l e rmX6_winds s m args below meth c H locs 0 0 Q (F0 m 84 ls [])) → W p l e rmX6_winds s m args below meth c H locs 0 0 Q (F0 m 23 ls []) := by
  obtain ⟨hx, hb, hml, hown, hts, hr, hlk, hKK⟩ := id Z
  have hK := hKK.1
  intro n
  induction n with
  | zero =>
    intro x2 σ q h
    rw [lp_X6_winds_23] at h
    cases h
  | succ n ih =>
    intro x2 σ q h H locs ls hP hD hS hl kk
    rw [lp_X6_winds_23] at h
    refine lv_iload_n hx hb dX6_winds_23 rfl (lv_at hl 2 rfl) ?_
    refine lv_aload_n hx hb dX6_winds_24 rfl (lv_at hl 0 rfl) ?_
    refine va_get (D := D) (ci := 6) (v := .ref (a 1)) (C := RX6) (T := TX6) (N := 19) hx hb hts in_X6_winds_X6 hown hK hP 0 rfl rfl 0 (by decide) (hts _ lk_X6_winds_7) (fun _ h9 => h9) rfl dX6_winds_25 ?_
    refine lv_iconst (v := 0) hx hb dX6_winds_28 (by decide) ?_
    refine va_iald hx hb hK hP 1 0 rfl rfl (inB_in (by decide)) dX6_winds_29 ?_
    refine lv_icmp_ge (tgt := 84) hx hb dX6_winds_30 (by decide) (fun hc4 => ?_) (fun hc4 => ?_)
    · rw [if_pos hc4] at h
      have h := Option.some.inj h
      subst h
      exact kk _ _ _ hP hD hS (lv_sub hl [0, 1, 2] rfl)
    · rw [if_neg hc4] at h
      refine lv_aload_n hx hb dX6_winds_33 rfl (lv_at hl 0 rfl) ?_
      refine lv_iload_n hx hb dX6_winds_34 rfl (lv_at hl 2 rfl) ?_
      obtain ⟨r5, hr5, h⟩ := bind_inv h
      refine kV (rest := []) (st1 := [.int r5]) (cr := []) (cs' := [w6 cA a σ]) Z (c_X6_isStopped l D cA a σ x2 r5 hr5) 1 gX6_winds_X6_isStopped rfl hdX6_isStopped ⟨rfl, rfl⟩ ⟨Nat.le_of_ble_eq_true rfl, Nat.le_of_ble_eq_true rfl⟩ ⟨Nat.zero_le _, Nat.zero_le _⟩ hP hD hS hl.1 rfl rfl rfl (Nat.le_of_ble_eq_true rfl) 6 rfl rfl rfl [0] [] [0] rfl rfl rfl rfl rfl dX6_winds_35 (fun H locs hP hD hS => ?_)
      refine lv_if_ne (tgt := 78) hx hb dX6_winds_38 (by decide) (fun hc6 => ?_) (fun hc6 => ?_)
      · rw [if_neg hc6] at h
        refine lv_iinc (v := x2 + 1) (lv' := [(2, .int (x2 + 1)), (0, .ref (a 0)), (1, .int x1)]) hx hb dX6_winds_78 hl (k := 2) rfl rfl (by decide) rfl (fun ls hl => ?_)
        refine lv_goto (tgt := 23) hx hb dX6_winds_81 (by decide) ?_
        exact ih _ _ _ h _ _ _ hP hD hS (lv_sub hl [1, 2, 0] rfl) kk
      · rw [if_pos hc6] at h
        refine lv_aload_n hx hb dX6_winds_41 rfl (lv_at hl 0 rfl) ?_
        refine lv_iload_n hx hb dX6_winds_42 rfl (lv_at hl 2 rfl) ?_
        obtain ⟨r7, hr7, h⟩ := bind_inv h
        refine kV (rest := []) (st1 := [.int r7]) (cr := []) (cs' := [w6 cA a σ]) Z (c_X6_whom l D cA a σ x2 r7 hr7) 1 gX6_winds_X6_whom rfl hdX6_whom ⟨rfl, rfl⟩ ⟨Nat.le_of_ble_eq_true rfl, Nat.le_of_ble_eq_true rfl⟩ ⟨Nat.zero_le _, Nat.zero_le _⟩ hP hD hS hl.1 rfl rfl rfl (Nat.le_of_ble_eq_true rfl) 6 rfl rfl rfl [0] [] [0] rfl rfl rfl rfl rfl dX6_winds_43 (fun H locs hP hD hS => ?_)
        refine lv_bipush (v := (-4)) hx hb dX6_winds_46 (by decide) ?_
        refine lv_icmp_eq (tgt := 78) hx hb dX6_winds_48 (by decide) (fun hc8 => ?_) (fun hc8 => ?_)
        · rw [if_pos hc8] at h
          refine lv_iinc (v := x2 + 1) (lv' := [(2, .int (x2 + 1)), (0, .ref (a 0)), (1, .int x1)]) hx hb dX6_winds_78 hl (k := 2) rfl rfl (by decide) rfl (fun ls hl => ?_)
          refine lv_goto (tgt := 23) hx hb dX6_winds_81 (by decide) ?_
          exact ih _ _ _ h _ _ _ hP hD hS (lv_sub hl [1, 2, 0] rfl) kk
        · rw [if_neg hc8] at h
          refine lv_iload_n hx hb dX6_winds_51 rfl (lv_at hl 1 rfl) ?_
          refine lv_iload_n hx hb dX6_winds_52 rfl (lv_at hl 2 rfl) ?_
          refine lv_ishr hx hb dX6_winds_53 ?_
          refine lv_iconst (v := 1) hx hb dX6_winds_54 (by decide) ?_
          refine lv_iand hx hb dX6_winds_55 ?_
          refine lv_if_ne (tgt := 78) hx hb dX6_winds_56 (by decide) (fun hc9 => ?_) (fun hc9 => ?_)
          · rw [if_neg hc9] at h
            refine lv_iinc (v := x2 + 1) (lv' := [(2, .int (x2 + 1)), (0, .ref (a 0)), (1, .int x1)]) hx hb dX6_winds_78 hl (k := 2) rfl rfl (by decide) rfl (fun ls hl => ?_)
            refine lv_goto (tgt := 23) hx hb dX6_winds_81 (by decide) ?_
            exact ih _ _ _ h _ _ _ hP hD hS (lv_sub hl [1, 2, 0] rfl) kk
          · rw [if_pos hc9] at h
            refine lv_aload_n hx hb dX6_winds_59 rfl (lv_at hl 0 rfl) ?_
            refine va_get (D := D) (ci := 6) (v := .ref (a 2)) (C := RX6) (T := TX6) (N := 19) hx hb hts in_X6_winds_X6 hown hK hP 0 rfl rfl 1 (by decide) (hts _ lk_X6_winds_13) (fun _ h9 => h9) rfl dX6_winds_60 ?_
            refine lv_aload_n hx hb dX6_winds_63 rfl (lv_at hl 0 rfl) ?_
            refine lv_iload_n hx hb dX6_winds_64 rfl (lv_at hl 2 rfl) ?_
            obtain ⟨r10, hr10, h⟩ := bind_inv h
            refine kV (rest := [.ref (a 2)]) (st1 := [.int r10, .ref (a 2)]) (cr := []) (cs' := [w6 cA a σ]) Z (c_X6_whom l D cA a σ x2 r10 hr10) 1 gX6_winds_X6_whom rfl hdX6_whom ⟨rfl, rfl⟩ ⟨Nat.le_of_ble_eq_true rfl, Nat.le_of_ble_eq_true rfl⟩ ⟨Nat.zero_le _, Nat.zero_le _⟩ hP hD hS hl.1 rfl rfl rfl (Nat.le_of_ble_eq_true rfl) 6 rfl rfl rfl [0] [] [0] rfl rfl rfl rfl rfl dX6_winds_65 (fun H locs hP hD hS => ?_)
            refine lv_dup2_11 hx hb dX6_winds_68 rfl rfl ?_
            obtain ⟨hg11, h⟩ := if_inv h
            refine va_iald hx hb hK hP 2 0 rfl rfl (inB_in hg11) dX6_winds_69 ?_
            refine lv_aload_n hx hb dX6_winds_70 rfl (lv_at hl 0 rfl) ?_
            refine lv_iload_n hx hb dX6_winds_71 rfl (lv_at hl 2 rfl) ?_
            refine lv_iconst (v := 3) hx hb dX6_winds_72 (by decide) ?_
            obtain ⟨r12, hr12, h⟩ := bind_inv h
            refine kV (rest := [.int ((p6_change σ) r10.toNatClampNeg), .int r10, .ref (a 2)]) (st1 := [.int r12, .int ((p6_change σ) r10.toNatClampNeg), .int r10, .ref (a 2)]) (cr := []) (cs' := [w6 cA a σ]) Z (c_X6_told l D cA a σ x2 3 r12 hr12) 2 gX6_winds_X6_told rfl hdX6_told ⟨rfl, rfl⟩ ⟨Nat.le_of_ble_eq_true rfl, Nat.le_of_ble_eq_true rfl⟩ ⟨Nat.zero_le _, Nat.zero_le _⟩ hP hD hS hl.1 rfl rfl rfl (Nat.le_of_ble_eq_true rfl) 6 rfl rfl rfl [0] [] [0] rfl rfl rfl rfl rfl dX6_winds_73 (fun H locs hP hD hS => ?_)
            refine lv_iadd hx hb dX6_winds_76 ?_
            obtain ⟨hg13, h⟩ := if_inv h
            refine va_iast hx hb hK hP hD hS 2 0 rfl rfl (inB_in hg13) dX6_winds_77 (fun H locs hP hD hS => ?_)
            have hP : va_P D vwCl ([w6 cA a (s6_change σ (upd (p6_change σ) r10.toNatClampNeg (((p6_change σ) r10.toNatClampNeg) + r12)))] : List va_W).flatten H := hP
            have hD : va_D _ ([w6 cA a (s6_change σ (upd (p6_change σ) r10.toNatClampNeg (((p6_change σ) r10.toNatClampNeg) + r12)))] : List va_W).flatten := hD
            refine lv_iinc (v := x2 + 1) (lv' := [(2, .int (x2 + 1)), (0, .ref (a 0)), (1, .int x1)]) hx hb dX6_winds_78 hl (k := 2) rfl rfl (by decide) rfl (fun ls hl => ?_)
            refine lv_goto (tgt := 23) hx hb dX6_winds_81 (by decide) ?_
            exact ih _ _ _ h _ _ _ hP hD hS (lv_sub hl [1, 2, 0] rfl) kk
set_option maxHeartbeats 4000000 in
set_option maxRecDepth 100000 in
theorem t_X6_winds_86 {p : Program} {l : Launch} {e : Env} {s : State} {m : MethodId} {args : Array Value} {below : List Frame} {meth : Method} {c : Code} {D : va_G} {cA : Nat → ClassId} {A0 : Nat → Prop} {H0 : Heap} {a : Nat → Nat} (Z : Cx p s m args meth c cX6_winds 4 none wsX6_winds RX6 D cA)  {Q : State → Prop} : ∀ (n : Nat) (x2 : Int32) (σ : St6) (q : Int32 × St6), lp_X6_winds_86  n x2 σ = some q → ∀ (H : Heap) (locs : List Loc) (ls : Array Slot), va_P D vwCl ([w6 cA a σ] : List va_W).flatten H → va_D A0 ([w6 cA a σ] : List va_W).flatten → va_S A0 H0 H locs → lv_has ls 4 [(0, .ref (a 0)), (2, .int x2)] → (∀ (H : Heap) (locs : List Loc) (ls : Array Slot), va_P D vwCl ([w6 cA a q.2] : List va_W).flatten H → va_D A0 ([w6 cA a q.2] : List va_W).flatten → va_S A0 H0 H locs → lv_has ls 4 [(0, .ref (a 0)), (2, .int q.1)] → W p l e rmX6_winds s m args below meth c H locs 0 0 Q (F0 m 133 ls [])) → W p l e rmX6_winds s m args below meth c H locs 0 0 Q (F0 m 86 ls []) := by
  obtain ⟨hx, hb, hml, hown, hts, hr, hlk, hKK⟩ := id Z
  have hK := hKK.1
  intro n
  induction n with
  | zero =>
    intro x2 σ q h
    rw [lp_X6_winds_86] at h
    cases h
  | succ n ih =>
    intro x2 σ q h H locs ls hP hD hS hl kk
    rw [lp_X6_winds_86] at h
    refine lv_iload_n hx hb dX6_winds_86 rfl (lv_at hl 1 rfl) ?_
    refine lv_aload_n hx hb dX6_winds_87 rfl (lv_at hl 0 rfl) ?_
    refine va_get (D := D) (ci := 6) (v := .ref (a 1)) (C := RX6) (T := TX6) (N := 19) hx hb hts in_X6_winds_X6 hown hK hP 0 rfl rfl 0 (by decide) (hts _ lk_X6_winds_7) (fun _ h9 => h9) rfl dX6_winds_88 ?_
    refine lv_iconst (v := 0) hx hb dX6_winds_91 (by decide) ?_
    refine va_iald hx hb hK hP 1 0 rfl rfl (inB_in (by decide)) dX6_winds_92 ?_
    refine lv_icmp_ge (tgt := 133) hx hb dX6_winds_93 (by decide) (fun hc15 => ?_) (fun hc15 => ?_)
    · rw [if_pos hc15] at h
      have h := Option.some.inj h
      subst h
      exact kk _ _ _ hP hD hS (lv_sub hl [0, 1] rfl)
    · rw [if_neg hc15] at h
      refine lv_aload_n hx hb dX6_winds_96 rfl (lv_at hl 0 rfl) ?_
      refine lv_iload_n hx hb dX6_winds_97 rfl (lv_at hl 1 rfl) ?_
      obtain ⟨r16, hr16, h⟩ := bind_inv h
      refine kV (rest := []) (st1 := [.int r16]) (cr := []) (cs' := [w6 cA a σ]) Z (c_X6_turns l D cA a σ x2 r16 hr16) 1 gX6_winds_X6_turns rfl hdX6_turns ⟨rfl, rfl⟩ ⟨Nat.le_of_ble_eq_true rfl, Nat.le_of_ble_eq_true rfl⟩ ⟨Nat.zero_le _, Nat.zero_le _⟩ hP hD hS hl.1 rfl rfl rfl (Nat.le_of_ble_eq_true rfl) 6 rfl rfl rfl [0] [] [0] rfl rfl rfl rfl rfl dX6_winds_98 (fun H locs hP hD hS => ?_)
      refine lv_aload_n hx hb dX6_winds_101 rfl (lv_at hl 0 rfl) ?_
      refine va_get (D := D) (ci := 6) (v := .ref (a 2)) (C := RX6) (T := TX6) (N := 19) hx hb hts in_X6_winds_X6 hown hK hP 0 rfl rfl 1 (by decide) (hts _ lk_X6_winds_13) (fun _ h9 => h9) rfl dX6_winds_102 ?_
      refine lv_iload_n hx hb dX6_winds_105 rfl (lv_at hl 1 rfl) ?_
      obtain ⟨hg17, h⟩ := if_inv h
      refine va_iald hx hb hK hP 2 0 rfl rfl (inB_in hg17) dX6_winds_106 ?_
      refine lv_iadd hx hb dX6_winds_107 ?_
      refine lv_istore_n (lv' := [(3, .int (r16 + ((p6_change σ) x2.toNatClampNeg))), (0, .ref (a 0)), (2, .int x2)]) hx hb dX6_winds_108 rfl hl (by decide) rfl (fun ls hl => ?_)
      refine lv_aload_n hx hb dX6_winds_109 rfl (lv_at hl 1 rfl) ?_
      refine lv_iload_n hx hb dX6_winds_110 rfl (lv_at hl 2 rfl) ?_
      refine lv_iconst (v := 1) hx hb dX6_winds_111 (by decide) ?_
      refine lv_iload_n hx hb dX6_winds_112 rfl (lv_at hl 0 rfl) ?_
      refine lv_bipush (v := 30) hx hb dX6_winds_113 (by decide) ?_
      refine lv_icmp_le (tgt := 123) hx hb dX6_winds_115 (by decide) (fun hc18 => ?_) (fun hc18 => ?_)
      · rw [if_pos hc18] at h
        refine lv_iload_n hx hb dX6_winds_123 rfl (lv_at hl 0 rfl) ?_
        obtain ⟨r19, hr19, h⟩ := bind_inv h
        refine kV (rest := []) (st1 := []) (cr := []) (cs' := [w6 cA a r19]) Z (c_X6_tells l D cA a σ x2 1 (r16 + ((p6_change σ) x2.toNatClampNeg)) r19 hr19) 3 gX6_winds_X6_tells rfl hdX6_tells ⟨rfl, rfl⟩ ⟨Nat.le_of_ble_eq_true rfl, Nat.le_of_ble_eq_true rfl⟩ ⟨Nat.zero_le _, Nat.zero_le _⟩ hP hD hS hl.1 rfl rfl rfl (Nat.le_of_ble_eq_true rfl) 6 rfl rfl rfl [0] [] [0] rfl rfl rfl rfl rfl dX6_winds_124 (fun H locs hP hD hS => ?_)
        refine lv_iinc (v := x2 + 1) (lv' := [(2, .int (x2 + 1)), (3, .int (r16 + ((p6_change σ) x2.toNatClampNeg))), (0, .ref (a 0))]) hx hb dX6_winds_127 hl (k := 2) rfl rfl (by decide) rfl (fun ls hl => ?_)
        refine lv_goto (tgt := 86) hx hb dX6_winds_130 (by decide) ?_
        exact ih _ _ _ h _ _ _ hP hD hS (lv_sub hl [2, 0] rfl) kk
      · rw [if_neg hc18] at h
        refine lv_bipush (v := 30) hx hb dX6_winds_118 (by decide) ?_
        refine lv_goto (tgt := 124) hx hb dX6_winds_120 (by decide) ?_
        obtain ⟨r20, hr20, h⟩ := bind_inv h
        refine kV (rest := []) (st1 := []) (cr := []) (cs' := [w6 cA a r20]) Z (c_X6_tells l D cA a σ x2 1 30 r20 hr20) 3 gX6_winds_X6_tells rfl hdX6_tells ⟨rfl, rfl⟩ ⟨Nat.le_of_ble_eq_true rfl, Nat.le_of_ble_eq_true rfl⟩ ⟨Nat.zero_le _, Nat.zero_le _⟩ hP hD hS hl.1 rfl rfl rfl (Nat.le_of_ble_eq_true rfl) 6 rfl rfl rfl [0] [] [0] rfl rfl rfl rfl rfl dX6_winds_124 (fun H locs hP hD hS => ?_)
        refine lv_iinc (v := x2 + 1) (lv' := [(2, .int (x2 + 1)), (3, .int (r16 + ((p6_change σ) x2.toNatClampNeg))), (0, .ref (a 0))]) hx hb dX6_winds_127 hl (k := 2) rfl rfl (by decide) rfl (fun ls hl => ?_)
        refine lv_goto (tgt := 86) hx hb dX6_winds_130 (by decide) ?_
        exact ih _ _ _ h _ _ _ hP hD hS (lv_sub hl [2, 0] rfl) kk
set_option maxHeartbeats 4000000 in
set_option maxRecDepth 100000 in
theorem c_X6_winds (l : Launch) (D : va_G) (cA : Nat → ClassId) (a : Nat → Nat) (σ : St6) (x1 : Int32) (res : St6) (h : f_X6_winds σ x1 = some res) : CT l D cA yX6_winds wsX6_winds rmX6_winds [.ref (a 0), .int x1] [w6 cA a σ] [w6 cA a res] none := by
  refine CT.start (cc := cX6_winds) (maxL := 4) (ret := none) (by decide) rfl (Nat.le_of_ble_eq_true rfl) ?_
  intro p e s m below meth c Z hP hD hS ls hl
  have Z : Cx p s m _ meth c cX6_winds 4 none wsX6_winds RX6 D cA := Z
  have hl : lv_has ls 4 [(0, .ref (a 0)), (1, .int x1)] := hl
  obtain ⟨hx, hb, hml, hown, hts, hr, hlk, hKK⟩ := id Z
  have hK := hKK.1
  rw [f_X6_winds] at h
  refine lv_iconst (v := 0) hx hb dX6_winds_0 (by decide) ?_
  refine lv_istore_n (lv' := [(2, .int 0), (0, .ref (a 0)), (1, .int x1)]) hx hb dX6_winds_1 rfl hl (by decide) rfl (fun ls hl => ?_)
  obtain ⟨q3, hq3, h⟩ := bind_inv h
  refine t_X6_winds_2 Z x1 FU _ _ _ hq3 _ _ _ hP hD hS (lv_sub hl [1, 2, 0] rfl) (fun H locs ls hP hD hS hl => ?_)
  refine lv_iconst (v := 0) hx hb dX6_winds_21 (by decide) ?_
  refine lv_istore_n (lv' := [(2, .int 0), (0, .ref (a 0)), (1, .int x1)]) hx hb dX6_winds_22 rfl hl (by decide) rfl (fun ls hl => ?_)
  obtain ⟨q14, hq14, h⟩ := bind_inv h
  refine t_X6_winds_23 Z x1 FU _ _ _ hq14 _ _ _ hP hD hS (lv_sub hl [1, 2, 0] rfl) (fun H locs ls hP hD hS hl => ?_)
  refine lv_iconst (v := 0) hx hb dX6_winds_84 (by decide) ?_
  refine lv_istore_n (lv' := [(2, .int 0), (0, .ref (a 0)), (1, .int x1)]) hx hb dX6_winds_85 rfl hl (by decide) rfl (fun ls hl => ?_)
  obtain ⟨q21, hq21, h⟩ := bind_inv h
  refine t_X6_winds_86 Z  FU _ _ _ hq21 _ _ _ hP hD hS (lv_sub hl [1, 0] rfl) (fun H locs ls hP hD hS hl => ?_)
  have h := Option.some.inj h
  subst h
  exact CT.vret Z hP hD hS dX6_winds_133

-- X6.goesBy
theorem lk_X6_goesBy_7 : Cond.fieldLink RX6 7 "KeyedFeelingsModel" "now" "[I" ∈ wsX6_goesBy := by decide +kernel
theorem in_X6_goesBy_X6 : ∀ w ∈ wsX60, w ∈ wsX6_goesBy := by decide +kernel
theorem lk_X6_goesBy_13 : Cond.fieldLink RX6 13 "KeyedFeelingsModel" "change" "[I" ∈ wsX6_goesBy := by decide +kernel
noncomputable def lp_X6_goesBy_14  : Nat → Int32 → St6 → Option (Int32 × St6)
  | 0, _, _ => none
  | n + 1, x2, σ => (if ((p6_now σ) (0 : Int32).toNatClampNeg) ≤ x2 then some (x2, σ) else ((f_X6_runs σ x2).bind (fun r4 => (if inB x2 6 = true then lp_X6_goesBy_14  n (x2 + 1) (s6_change σ (upd (p6_change σ) x2.toNatClampNeg r4)) else none))))
noncomputable def lp_X6_goesBy_43  : Nat → Int32 → St6 → Option (Int32 × St6)
  | 0, _, _ => none
  | n + 1, x2, σ => (if ((p6_now σ) (0 : Int32).toNatClampNeg) ≤ x2 then some (x2, σ) else ((f_X6_turns σ x2).bind (fun r8 => (if inB x2 6 = true then (if 0 ≤ (r8 - ((p6_change σ) x2.toNatClampNeg)) then ((f_X6_tells σ x2 1 (r8 - ((p6_change σ) x2.toNatClampNeg))).bind (fun r11 => lp_X6_goesBy_43  n (x2 + 1) r11)) else ((f_X6_tells σ x2 1 0).bind (fun r12 => lp_X6_goesBy_43  n (x2 + 1) r12))) else none))))
noncomputable def f_X6_goesBy (σ : St6) (x1 : Int32) : Option (St6) := ((f_X6_isWinding σ).bind (fun r1 => (if r1 = 0 then ((lp_X6_goesBy_14  FU 0 σ).bind (fun q6 => ((lp_X6_goesBy_43  FU 0 q6.2).bind (fun q13 => some (s6_now q13.2 (upd (p6_now q13.2) ((1 : Int32).toNatClampNeg) (((p6_now q13.2) (1 : Int32).toNatClampNeg) + 1))))))) else ((f_X6_winds σ x1).bind (fun r14 => ((lp_X6_goesBy_14  FU 0 r14).bind (fun q15 => ((lp_X6_goesBy_43  FU 0 q15.2).bind (fun q16 => some (s6_now q16.2 (upd (p6_now q16.2) ((1 : Int32).toNatClampNeg) (((p6_now q16.2) (1 : Int32).toNatClampNeg) + 1))))))))))))
noncomputable def rmX6_goesBy : Room := { frames := 4, cells := 0, slots := 0, locals := 89 }
set_option maxHeartbeats 4000000 in
set_option maxRecDepth 100000 in
theorem t_X6_goesBy_14 {p : Program} {l : Launch} {e : Env} {s : State} {m : MethodId} {args : Array Value} {below : List Frame} {meth : Method} {c : Code} {D : va_G} {cA : Nat → ClassId} {A0 : Nat → Prop} {H0 : Heap} {a : Nat → Nat} (Z : Cx p s m args meth c cX6_goesBy 4 none wsX6_goesBy RX6 D cA)  {Q : State → Prop} : ∀ (n : Nat) (x2 : Int32) (σ : St6) (q : Int32 × St6), lp_X6_goesBy_14  n x2 σ = some q → ∀ (H : Heap) (locs : List Loc) (ls : Array Slot), va_P D vwCl ([w6 cA a σ] : List va_W).flatten H → va_D A0 ([w6 cA a σ] : List va_W).flatten → va_S A0 H0 H locs → lv_has ls 4 [(0, .ref (a 0)), (2, .int x2)] → (∀ (H : Heap) (locs : List Loc) (ls : Array Slot), va_P D vwCl ([w6 cA a q.2] : List va_W).flatten H → va_D A0 ([w6 cA a q.2] : List va_W).flatten → va_S A0 H0 H locs → lv_has ls 4 [(0, .ref (a 0)), (2, .int q.1)] → W p l e rmX6_goesBy s m args below meth c H locs 0 0 Q (F0 m 41 ls [])) → W p l e rmX6_goesBy s m args below meth c H locs 0 0 Q (F0 m 14 ls []) := by
  obtain ⟨hx, hb, hml, hown, hts, hr, hlk, hKK⟩ := id Z
  have hK := hKK.1
  intro n
  induction n with
  | zero =>
    intro x2 σ q h
    rw [lp_X6_goesBy_14] at h
    cases h
  | succ n ih =>
    intro x2 σ q h H locs ls hP hD hS hl kk
    rw [lp_X6_goesBy_14] at h
    refine lv_iload_n hx hb dX6_goesBy_14 rfl (lv_at hl 1 rfl) ?_
    refine lv_aload_n hx hb dX6_goesBy_15 rfl (lv_at hl 0 rfl) ?_
    refine va_get (D := D) (ci := 6) (v := .ref (a 1)) (C := RX6) (T := TX6) (N := 19) hx hb hts in_X6_goesBy_X6 hown hK hP 0 rfl rfl 0 (by decide) (hts _ lk_X6_goesBy_7) (fun _ h9 => h9) rfl dX6_goesBy_16 ?_
    refine lv_iconst (v := 0) hx hb dX6_goesBy_19 (by decide) ?_
    refine va_iald hx hb hK hP 1 0 rfl rfl (inB_in (by decide)) dX6_goesBy_20 ?_
    refine lv_icmp_ge (tgt := 41) hx hb dX6_goesBy_21 (by decide) (fun hc3 => ?_) (fun hc3 => ?_)
    · rw [if_pos hc3] at h
      have h := Option.some.inj h
      subst h
      exact kk _ _ _ hP hD hS (lv_sub hl [0, 1] rfl)
    · rw [if_neg hc3] at h
      refine lv_aload_n hx hb dX6_goesBy_24 rfl (lv_at hl 0 rfl) ?_
      refine va_get (D := D) (ci := 6) (v := .ref (a 2)) (C := RX6) (T := TX6) (N := 19) hx hb hts in_X6_goesBy_X6 hown hK hP 0 rfl rfl 1 (by decide) (hts _ lk_X6_goesBy_13) (fun _ h9 => h9) rfl dX6_goesBy_25 ?_
      refine lv_iload_n hx hb dX6_goesBy_28 rfl (lv_at hl 1 rfl) ?_
      refine lv_aload_n hx hb dX6_goesBy_29 rfl (lv_at hl 0 rfl) ?_
      refine lv_iload_n hx hb dX6_goesBy_30 rfl (lv_at hl 1 rfl) ?_
      obtain ⟨r4, hr4, h⟩ := bind_inv h
      refine kV (rest := [.int x2, .ref (a 2)]) (st1 := [.int r4, .int x2, .ref (a 2)]) (cr := []) (cs' := [w6 cA a σ]) Z (c_X6_runs l D cA a σ x2 r4 hr4) 1 gX6_goesBy_X6_runs rfl hdX6_runs ⟨rfl, rfl⟩ ⟨Nat.le_of_ble_eq_true rfl, Nat.le_of_ble_eq_true rfl⟩ ⟨Nat.zero_le _, Nat.zero_le _⟩ hP hD hS hl.1 rfl rfl rfl (Nat.le_of_ble_eq_true rfl) 6 rfl rfl rfl [0] [] [0] rfl rfl rfl rfl rfl dX6_goesBy_31 (fun H locs hP hD hS => ?_)
      obtain ⟨hg5, h⟩ := if_inv h
      refine va_iast hx hb hK hP hD hS 2 0 rfl rfl (inB_in hg5) dX6_goesBy_34 (fun H locs hP hD hS => ?_)
      have hP : va_P D vwCl ([w6 cA a (s6_change σ (upd (p6_change σ) x2.toNatClampNeg r4))] : List va_W).flatten H := hP
      have hD : va_D _ ([w6 cA a (s6_change σ (upd (p6_change σ) x2.toNatClampNeg r4))] : List va_W).flatten := hD
      refine lv_iinc (v := x2 + 1) (lv' := [(2, .int (x2 + 1)), (0, .ref (a 0))]) hx hb dX6_goesBy_35 hl (k := 1) rfl rfl (by decide) rfl (fun ls hl => ?_)
      refine lv_goto (tgt := 14) hx hb dX6_goesBy_38 (by decide) ?_
      exact ih _ _ _ h _ _ _ hP hD hS (lv_sub hl [1, 0] rfl) kk
set_option maxHeartbeats 4000000 in
set_option maxRecDepth 100000 in
theorem t_X6_goesBy_43 {p : Program} {l : Launch} {e : Env} {s : State} {m : MethodId} {args : Array Value} {below : List Frame} {meth : Method} {c : Code} {D : va_G} {cA : Nat → ClassId} {A0 : Nat → Prop} {H0 : Heap} {a : Nat → Nat} (Z : Cx p s m args meth c cX6_goesBy 4 none wsX6_goesBy RX6 D cA)  {Q : State → Prop} : ∀ (n : Nat) (x2 : Int32) (σ : St6) (q : Int32 × St6), lp_X6_goesBy_43  n x2 σ = some q → ∀ (H : Heap) (locs : List Loc) (ls : Array Slot), va_P D vwCl ([w6 cA a σ] : List va_W).flatten H → va_D A0 ([w6 cA a σ] : List va_W).flatten → va_S A0 H0 H locs → lv_has ls 4 [(0, .ref (a 0)), (2, .int x2)] → (∀ (H : Heap) (locs : List Loc) (ls : Array Slot), va_P D vwCl ([w6 cA a q.2] : List va_W).flatten H → va_D A0 ([w6 cA a q.2] : List va_W).flatten → va_S A0 H0 H locs → lv_has ls 4 [(0, .ref (a 0)), (2, .int q.1)] → W p l e rmX6_goesBy s m args below meth c H locs 0 0 Q (F0 m 87 ls [])) → W p l e rmX6_goesBy s m args below meth c H locs 0 0 Q (F0 m 43 ls []) := by
  obtain ⟨hx, hb, hml, hown, hts, hr, hlk, hKK⟩ := id Z
  have hK := hKK.1
  intro n
  induction n with
  | zero =>
    intro x2 σ q h
    rw [lp_X6_goesBy_43] at h
    cases h
  | succ n ih =>
    intro x2 σ q h H locs ls hP hD hS hl kk
    rw [lp_X6_goesBy_43] at h
    refine lv_iload_n hx hb dX6_goesBy_43 rfl (lv_at hl 1 rfl) ?_
    refine lv_aload_n hx hb dX6_goesBy_44 rfl (lv_at hl 0 rfl) ?_
    refine va_get (D := D) (ci := 6) (v := .ref (a 1)) (C := RX6) (T := TX6) (N := 19) hx hb hts in_X6_goesBy_X6 hown hK hP 0 rfl rfl 0 (by decide) (hts _ lk_X6_goesBy_7) (fun _ h9 => h9) rfl dX6_goesBy_45 ?_
    refine lv_iconst (v := 0) hx hb dX6_goesBy_48 (by decide) ?_
    refine va_iald hx hb hK hP 1 0 rfl rfl (inB_in (by decide)) dX6_goesBy_49 ?_
    refine lv_icmp_ge (tgt := 87) hx hb dX6_goesBy_50 (by decide) (fun hc7 => ?_) (fun hc7 => ?_)
    · rw [if_pos hc7] at h
      have h := Option.some.inj h
      subst h
      exact kk _ _ _ hP hD hS (lv_sub hl [0, 1] rfl)
    · rw [if_neg hc7] at h
      refine lv_aload_n hx hb dX6_goesBy_53 rfl (lv_at hl 0 rfl) ?_
      refine lv_iload_n hx hb dX6_goesBy_54 rfl (lv_at hl 1 rfl) ?_
      obtain ⟨r8, hr8, h⟩ := bind_inv h
      refine kV (rest := []) (st1 := [.int r8]) (cr := []) (cs' := [w6 cA a σ]) Z (c_X6_turns l D cA a σ x2 r8 hr8) 1 gX6_goesBy_X6_turns rfl hdX6_turns ⟨rfl, rfl⟩ ⟨Nat.le_of_ble_eq_true rfl, Nat.le_of_ble_eq_true rfl⟩ ⟨Nat.zero_le _, Nat.zero_le _⟩ hP hD hS hl.1 rfl rfl rfl (Nat.le_of_ble_eq_true rfl) 6 rfl rfl rfl [0] [] [0] rfl rfl rfl rfl rfl dX6_goesBy_55 (fun H locs hP hD hS => ?_)
      refine lv_aload_n hx hb dX6_goesBy_58 rfl (lv_at hl 0 rfl) ?_
      refine va_get (D := D) (ci := 6) (v := .ref (a 2)) (C := RX6) (T := TX6) (N := 19) hx hb hts in_X6_goesBy_X6 hown hK hP 0 rfl rfl 1 (by decide) (hts _ lk_X6_goesBy_13) (fun _ h9 => h9) rfl dX6_goesBy_59 ?_
      refine lv_iload_n hx hb dX6_goesBy_62 rfl (lv_at hl 1 rfl) ?_
      obtain ⟨hg9, h⟩ := if_inv h
      refine va_iald hx hb hK hP 2 0 rfl rfl (inB_in hg9) dX6_goesBy_63 ?_
      refine lv_isub hx hb dX6_goesBy_64 ?_
      refine lv_istore_n (lv' := [(3, .int (r8 - ((p6_change σ) x2.toNatClampNeg))), (0, .ref (a 0)), (2, .int x2)]) hx hb dX6_goesBy_65 rfl hl (by decide) rfl (fun ls hl => ?_)
      refine lv_aload_n hx hb dX6_goesBy_66 rfl (lv_at hl 1 rfl) ?_
      refine lv_iload_n hx hb dX6_goesBy_67 rfl (lv_at hl 2 rfl) ?_
      refine lv_iconst (v := 1) hx hb dX6_goesBy_68 (by decide) ?_
      refine lv_iload_n hx hb dX6_goesBy_69 rfl (lv_at hl 0 rfl) ?_
      refine lv_if_ge (tgt := 77) hx hb dX6_goesBy_70 (by decide) (fun hc10 => ?_) (fun hc10 => ?_)
      · rw [if_pos hc10] at h
        refine lv_iload_n hx hb dX6_goesBy_77 rfl (lv_at hl 0 rfl) ?_
        obtain ⟨r11, hr11, h⟩ := bind_inv h
        refine kV (rest := []) (st1 := []) (cr := []) (cs' := [w6 cA a r11]) Z (c_X6_tells l D cA a σ x2 1 (r8 - ((p6_change σ) x2.toNatClampNeg)) r11 hr11) 3 gX6_goesBy_X6_tells rfl hdX6_tells ⟨rfl, rfl⟩ ⟨Nat.le_of_ble_eq_true rfl, Nat.le_of_ble_eq_true rfl⟩ ⟨Nat.zero_le _, Nat.zero_le _⟩ hP hD hS hl.1 rfl rfl rfl (Nat.le_of_ble_eq_true rfl) 6 rfl rfl rfl [0] [] [0] rfl rfl rfl rfl rfl dX6_goesBy_78 (fun H locs hP hD hS => ?_)
        refine lv_iinc (v := x2 + 1) (lv' := [(2, .int (x2 + 1)), (3, .int (r8 - ((p6_change σ) x2.toNatClampNeg))), (0, .ref (a 0))]) hx hb dX6_goesBy_81 hl (k := 2) rfl rfl (by decide) rfl (fun ls hl => ?_)
        refine lv_goto (tgt := 43) hx hb dX6_goesBy_84 (by decide) ?_
        exact ih _ _ _ h _ _ _ hP hD hS (lv_sub hl [2, 0] rfl) kk
      · rw [if_neg hc10] at h
        refine lv_iconst (v := 0) hx hb dX6_goesBy_73 (by decide) ?_
        refine lv_goto (tgt := 78) hx hb dX6_goesBy_74 (by decide) ?_
        obtain ⟨r12, hr12, h⟩ := bind_inv h
        refine kV (rest := []) (st1 := []) (cr := []) (cs' := [w6 cA a r12]) Z (c_X6_tells l D cA a σ x2 1 0 r12 hr12) 3 gX6_goesBy_X6_tells rfl hdX6_tells ⟨rfl, rfl⟩ ⟨Nat.le_of_ble_eq_true rfl, Nat.le_of_ble_eq_true rfl⟩ ⟨Nat.zero_le _, Nat.zero_le _⟩ hP hD hS hl.1 rfl rfl rfl (Nat.le_of_ble_eq_true rfl) 6 rfl rfl rfl [0] [] [0] rfl rfl rfl rfl rfl dX6_goesBy_78 (fun H locs hP hD hS => ?_)
        refine lv_iinc (v := x2 + 1) (lv' := [(2, .int (x2 + 1)), (3, .int (r8 - ((p6_change σ) x2.toNatClampNeg))), (0, .ref (a 0))]) hx hb dX6_goesBy_81 hl (k := 2) rfl rfl (by decide) rfl (fun ls hl => ?_)
        refine lv_goto (tgt := 43) hx hb dX6_goesBy_84 (by decide) ?_
        exact ih _ _ _ h _ _ _ hP hD hS (lv_sub hl [2, 0] rfl) kk
set_option maxHeartbeats 4000000 in
set_option maxRecDepth 100000 in
theorem c_X6_goesBy (l : Launch) (D : va_G) (cA : Nat → ClassId) (a : Nat → Nat) (σ : St6) (x1 : Int32) (res : St6) (h : f_X6_goesBy σ x1 = some res) : CT l D cA yX6_goesBy wsX6_goesBy rmX6_goesBy [.ref (a 0), .int x1] [w6 cA a σ] [w6 cA a res] none := by
  refine CT.start (cc := cX6_goesBy) (maxL := 4) (ret := none) (by decide) rfl (Nat.le_of_ble_eq_true rfl) ?_
  intro p e s m below meth c Z hP hD hS ls hl
  have Z : Cx p s m _ meth c cX6_goesBy 4 none wsX6_goesBy RX6 D cA := Z
  have hl : lv_has ls 4 [(0, .ref (a 0)), (1, .int x1)] := hl
  obtain ⟨hx, hb, hml, hown, hts, hr, hlk, hKK⟩ := id Z
  have hK := hKK.1
  rw [f_X6_goesBy] at h
  refine lv_aload_n hx hb dX6_goesBy_0 rfl (lv_at hl 0 rfl) ?_
  obtain ⟨r1, hr1, h⟩ := bind_inv h
  refine kV (rest := []) (st1 := [.int r1]) (cr := []) (cs' := [w6 cA a σ]) Z (c_X6_isWinding l D cA a σ r1 hr1) 0 gX6_goesBy_X6_isWinding rfl hdX6_isWinding ⟨rfl, rfl⟩ ⟨Nat.le_of_ble_eq_true rfl, Nat.le_of_ble_eq_true rfl⟩ ⟨Nat.zero_le _, Nat.zero_le _⟩ hP hD hS hl.1 rfl rfl rfl (Nat.le_of_ble_eq_true rfl) 6 rfl rfl rfl [0] [] [0] rfl rfl rfl rfl rfl dX6_goesBy_1 (fun H locs hP hD hS => ?_)
  refine lv_if_eq (tgt := 12) hx hb dX6_goesBy_4 (by decide) (fun hc2 => ?_) (fun hc2 => ?_)
  · rw [if_pos hc2] at h
    refine lv_iconst (v := 0) hx hb dX6_goesBy_12 (by decide) ?_
    refine lv_istore_n (lv' := [(2, .int 0), (0, .ref (a 0)), (1, .int x1)]) hx hb dX6_goesBy_13 rfl hl (by decide) rfl (fun ls hl => ?_)
    obtain ⟨q6, hq6, h⟩ := bind_inv h
    refine t_X6_goesBy_14 Z  FU _ _ _ hq6 _ _ _ hP hD hS (lv_sub hl [1, 0] rfl) (fun H locs ls hP hD hS hl => ?_)
    refine lv_iconst (v := 0) hx hb dX6_goesBy_41 (by decide) ?_
    refine lv_istore_n (lv' := [(2, .int 0), (0, .ref (a 0))]) hx hb dX6_goesBy_42 rfl hl (by decide) rfl (fun ls hl => ?_)
    obtain ⟨q13, hq13, h⟩ := bind_inv h
    refine t_X6_goesBy_43 Z  FU _ _ _ hq13 _ _ _ hP hD hS (lv_sub hl [1, 0] rfl) (fun H locs ls hP hD hS hl => ?_)
    refine lv_aload_n hx hb dX6_goesBy_87 rfl (lv_at hl 0 rfl) ?_
    refine va_get (D := D) (ci := 6) (v := .ref (a 1)) (C := RX6) (T := TX6) (N := 19) hx hb hts in_X6_goesBy_X6 hown hK hP 0 rfl rfl 0 (by decide) (hts _ lk_X6_goesBy_7) (fun _ h9 => h9) rfl dX6_goesBy_88 ?_
    refine lv_iconst (v := 1) hx hb dX6_goesBy_91 (by decide) ?_
    refine lv_dup2_11 hx hb dX6_goesBy_92 rfl rfl ?_
    refine va_iald hx hb hK hP 1 0 rfl rfl (inB_in (by decide)) dX6_goesBy_93 ?_
    refine lv_iconst (v := 1) hx hb dX6_goesBy_94 (by decide) ?_
    refine lv_iadd hx hb dX6_goesBy_95 ?_
    refine va_iast hx hb hK hP hD hS 1 0 rfl rfl (inB_in (by decide)) dX6_goesBy_96 (fun H locs hP hD hS => ?_)
    have hP : va_P D vwCl ([w6 cA a (s6_now q13.2 (upd (p6_now q13.2) ((1 : Int32).toNatClampNeg) (((p6_now q13.2) (1 : Int32).toNatClampNeg) + 1)))] : List va_W).flatten H := hP
    have hD : va_D _ ([w6 cA a (s6_now q13.2 (upd (p6_now q13.2) ((1 : Int32).toNatClampNeg) (((p6_now q13.2) (1 : Int32).toNatClampNeg) + 1)))] : List va_W).flatten := hD
    have h := Option.some.inj h
    subst h
    exact CT.vret Z hP hD hS dX6_goesBy_97
  · rw [if_neg hc2] at h
    refine lv_aload_n hx hb dX6_goesBy_7 rfl (lv_at hl 0 rfl) ?_
    refine lv_iload_n hx hb dX6_goesBy_8 rfl (lv_at hl 1 rfl) ?_
    obtain ⟨r14, hr14, h⟩ := bind_inv h
    refine kV (rest := []) (st1 := []) (cr := []) (cs' := [w6 cA a r14]) Z (c_X6_winds l D cA a σ x1 r14 hr14) 1 gX6_goesBy_X6_winds rfl hdX6_winds ⟨rfl, rfl⟩ ⟨Nat.le_of_ble_eq_true rfl, Nat.le_of_ble_eq_true rfl⟩ ⟨Nat.zero_le _, Nat.zero_le _⟩ hP hD hS hl.1 rfl rfl rfl (Nat.le_of_ble_eq_true rfl) 6 rfl rfl rfl [0] [] [0] rfl rfl rfl rfl rfl dX6_goesBy_9 (fun H locs hP hD hS => ?_)
    refine lv_iconst (v := 0) hx hb dX6_goesBy_12 (by decide) ?_
    refine lv_istore_n (lv' := [(2, .int 0), (0, .ref (a 0)), (1, .int x1)]) hx hb dX6_goesBy_13 rfl hl (by decide) rfl (fun ls hl => ?_)
    obtain ⟨q15, hq15, h⟩ := bind_inv h
    refine t_X6_goesBy_14 Z  FU _ _ _ hq15 _ _ _ hP hD hS (lv_sub hl [1, 0] rfl) (fun H locs ls hP hD hS hl => ?_)
    refine lv_iconst (v := 0) hx hb dX6_goesBy_41 (by decide) ?_
    refine lv_istore_n (lv' := [(2, .int 0), (0, .ref (a 0))]) hx hb dX6_goesBy_42 rfl hl (by decide) rfl (fun ls hl => ?_)
    obtain ⟨q16, hq16, h⟩ := bind_inv h
    refine t_X6_goesBy_43 Z  FU _ _ _ hq16 _ _ _ hP hD hS (lv_sub hl [1, 0] rfl) (fun H locs ls hP hD hS hl => ?_)
    refine lv_aload_n hx hb dX6_goesBy_87 rfl (lv_at hl 0 rfl) ?_
    refine va_get (D := D) (ci := 6) (v := .ref (a 1)) (C := RX6) (T := TX6) (N := 19) hx hb hts in_X6_goesBy_X6 hown hK hP 0 rfl rfl 0 (by decide) (hts _ lk_X6_goesBy_7) (fun _ h9 => h9) rfl dX6_goesBy_88 ?_
    refine lv_iconst (v := 1) hx hb dX6_goesBy_91 (by decide) ?_
    refine lv_dup2_11 hx hb dX6_goesBy_92 rfl rfl ?_
    refine va_iald hx hb hK hP 1 0 rfl rfl (inB_in (by decide)) dX6_goesBy_93 ?_
    refine lv_iconst (v := 1) hx hb dX6_goesBy_94 (by decide) ?_
    refine lv_iadd hx hb dX6_goesBy_95 ?_
    refine va_iast hx hb hK hP hD hS 1 0 rfl rfl (inB_in (by decide)) dX6_goesBy_96 (fun H locs hP hD hS => ?_)
    have hP : va_P D vwCl ([w6 cA a (s6_now q16.2 (upd (p6_now q16.2) ((1 : Int32).toNatClampNeg) (((p6_now q16.2) (1 : Int32).toNatClampNeg) + 1)))] : List va_W).flatten H := hP
    have hD : va_D _ ([w6 cA a (s6_now q16.2 (upd (p6_now q16.2) ((1 : Int32).toNatClampNeg) (((p6_now q16.2) (1 : Int32).toNatClampNeg) + 1)))] : List va_W).flatten := hD
    have h := Option.some.inj h
    subst h
    exact CT.vret Z hP hD hS dX6_goesBy_97

-- X6.goesOn
noncomputable def lp_X6_goesOn_2 (x1 : Int32) : Nat → Int32 → St6 → Option (Int32 × St6)
  | 0, _, _ => none
  | n + 1, x2, σ => (if x1 ≤ x2 then some (x2, σ) else ((f_X6_goesBy σ 0).bind (fun r2 => lp_X6_goesOn_2 x1 n (x2 + 1) r2)))
noncomputable def f_X6_goesOn (σ : St6) (x1 : Int32) : Option (St6) := ((lp_X6_goesOn_2 x1 FU 0 σ).bind (fun q3 => some q3.2))
noncomputable def rmX6_goesOn : Room := { frames := 5, cells := 0, slots := 0, locals := 112 }
set_option maxHeartbeats 4000000 in
set_option maxRecDepth 100000 in
theorem t_X6_goesOn_2 {p : Program} {l : Launch} {e : Env} {s : State} {m : MethodId} {args : Array Value} {below : List Frame} {meth : Method} {c : Code} {D : va_G} {cA : Nat → ClassId} {A0 : Nat → Prop} {H0 : Heap} {a : Nat → Nat} (Z : Cx p s m args meth c cX6_goesOn 3 none wsX6_goesOn RX6 D cA) (x1 : Int32) {Q : State → Prop} : ∀ (n : Nat) (x2 : Int32) (σ : St6) (q : Int32 × St6), lp_X6_goesOn_2 x1 n x2 σ = some q → ∀ (H : Heap) (locs : List Loc) (ls : Array Slot), va_P D vwCl ([w6 cA a σ] : List va_W).flatten H → va_D A0 ([w6 cA a σ] : List va_W).flatten → va_S A0 H0 H locs → lv_has ls 3 [(0, .ref (a 0)), (1, .int x1), (2, .int x2)] → (∀ (H : Heap) (locs : List Loc) (ls : Array Slot), va_P D vwCl ([w6 cA a q.2] : List va_W).flatten H → va_D A0 ([w6 cA a q.2] : List va_W).flatten → va_S A0 H0 H locs → lv_has ls 3 [(0, .ref (a 0)), (1, .int x1), (2, .int q.1)] → W p l e rmX6_goesOn s m args below meth c H locs 0 0 Q (F0 m 18 ls [])) → W p l e rmX6_goesOn s m args below meth c H locs 0 0 Q (F0 m 2 ls []) := by
  obtain ⟨hx, hb, hml, hown, hts, hr, hlk, hKK⟩ := id Z
  have hK := hKK.1
  intro n
  induction n with
  | zero =>
    intro x2 σ q h
    rw [lp_X6_goesOn_2] at h
    cases h
  | succ n ih =>
    intro x2 σ q h H locs ls hP hD hS hl kk
    rw [lp_X6_goesOn_2] at h
    refine lv_iload_n hx hb dX6_goesOn_2 rfl (lv_at hl 2 rfl) ?_
    refine lv_iload_n hx hb dX6_goesOn_3 rfl (lv_at hl 1 rfl) ?_
    refine lv_icmp_ge (tgt := 18) hx hb dX6_goesOn_4 (by decide) (fun hc1 => ?_) (fun hc1 => ?_)
    · rw [if_pos hc1] at h
      have h := Option.some.inj h
      subst h
      exact kk _ _ _ hP hD hS (lv_sub hl [0, 1, 2] rfl)
    · rw [if_neg hc1] at h
      refine lv_aload_n hx hb dX6_goesOn_7 rfl (lv_at hl 0 rfl) ?_
      refine lv_iconst (v := 0) hx hb dX6_goesOn_8 (by decide) ?_
      obtain ⟨r2, hr2, h⟩ := bind_inv h
      refine kV (rest := []) (st1 := []) (cr := []) (cs' := [w6 cA a r2]) Z (c_X6_goesBy l D cA a σ 0 r2 hr2) 1 gX6_goesOn_X6_goesBy rfl hdX6_goesBy ⟨rfl, rfl⟩ ⟨Nat.le_of_ble_eq_true rfl, Nat.le_of_ble_eq_true rfl⟩ ⟨Nat.zero_le _, Nat.zero_le _⟩ hP hD hS hl.1 rfl rfl rfl (Nat.le_of_ble_eq_true rfl) 6 rfl rfl rfl [0] [] [0] rfl rfl rfl rfl rfl dX6_goesOn_9 (fun H locs hP hD hS => ?_)
      refine lv_iinc (v := x2 + 1) (lv' := [(2, .int (x2 + 1)), (0, .ref (a 0)), (1, .int x1)]) hx hb dX6_goesOn_12 hl (k := 2) rfl rfl (by decide) rfl (fun ls hl => ?_)
      refine lv_goto (tgt := 2) hx hb dX6_goesOn_15 (by decide) ?_
      exact ih _ _ _ h _ _ _ hP hD hS (lv_sub hl [1, 2, 0] rfl) kk
set_option maxHeartbeats 4000000 in
set_option maxRecDepth 100000 in
theorem c_X6_goesOn (l : Launch) (D : va_G) (cA : Nat → ClassId) (a : Nat → Nat) (σ : St6) (x1 : Int32) (res : St6) (h : f_X6_goesOn σ x1 = some res) : CT l D cA yX6_goesOn wsX6_goesOn rmX6_goesOn [.ref (a 0), .int x1] [w6 cA a σ] [w6 cA a res] none := by
  refine CT.start (cc := cX6_goesOn) (maxL := 3) (ret := none) (by decide) rfl (Nat.le_of_ble_eq_true rfl) ?_
  intro p e s m below meth c Z hP hD hS ls hl
  have Z : Cx p s m _ meth c cX6_goesOn 3 none wsX6_goesOn RX6 D cA := Z
  have hl : lv_has ls 3 [(0, .ref (a 0)), (1, .int x1)] := hl
  obtain ⟨hx, hb, hml, hown, hts, hr, hlk, hKK⟩ := id Z
  have hK := hKK.1
  rw [f_X6_goesOn] at h
  refine lv_iconst (v := 0) hx hb dX6_goesOn_0 (by decide) ?_
  refine lv_istore_n (lv' := [(2, .int 0), (0, .ref (a 0)), (1, .int x1)]) hx hb dX6_goesOn_1 rfl hl (by decide) rfl (fun ls hl => ?_)
  obtain ⟨q3, hq3, h⟩ := bind_inv h
  refine t_X6_goesOn_2 Z x1 FU _ _ _ hq3 _ _ _ hP hD hS (lv_sub hl [1, 2, 0] rfl) (fun H locs ls hP hD hS hl => ?_)
  have h := Option.some.inj h
  subst h
  exact CT.vret Z hP hD hS dX6_goesOn_18

-- X6.stopped
theorem lk_X6_stopped_7 : Cond.fieldLink RX6 7 "KeyedFeelingsModel" "now" "[I" ∈ wsX6_stopped := by decide +kernel
theorem in_X6_stopped_X6 : ∀ w ∈ wsX60, w ∈ wsX6_stopped := by decide +kernel
noncomputable def lp_X6_stopped_4 (σ : St6) : Nat → Int32 → Int32 → Option (Int32 × Int32)
  | 0, _, _ => none
  | n + 1, x1, x2 => (if ((p6_now σ) (0 : Int32).toNatClampNeg) ≤ x2 then some (x1, x2) else ((f_X6_isStopped σ x2).bind (fun r2 => (if r2 = 0 then lp_X6_stopped_4 σ n (x1 ||| 0) (x2 + 1) else lp_X6_stopped_4 σ n (x1 ||| (1 <<< (x2 &&& 31))) (x2 + 1)))))
noncomputable def f_X6_stopped (σ : St6) : Option (Int32) := ((lp_X6_stopped_4 σ FU 0 0).bind (fun q4 => some q4.1))
noncomputable def rmX6_stopped : Room := { frames := 3, cells := 0, slots := 0, locals := 64 }
set_option maxHeartbeats 4000000 in
set_option maxRecDepth 100000 in
theorem t_X6_stopped_4 {p : Program} {l : Launch} {e : Env} {s : State} {m : MethodId} {args : Array Value} {below : List Frame} {meth : Method} {c : Code} {D : va_G} {cA : Nat → ClassId} {A0 : Nat → Prop} {H0 : Heap} {a : Nat → Nat} (Z : Cx p s m args meth c cX6_stopped 3 (some .int) wsX6_stopped RX6 D cA) (σ : St6) {Q : State → Prop} : ∀ (n : Nat) (x1 : Int32) (x2 : Int32) (q : Int32 × Int32), lp_X6_stopped_4 σ n x1 x2 = some q → ∀ (H : Heap) (locs : List Loc) (ls : Array Slot), va_P D vwCl ([w6 cA a σ] : List va_W).flatten H → va_D A0 ([w6 cA a σ] : List va_W).flatten → va_S A0 H0 H locs → lv_has ls 3 [(0, .ref (a 0)), (1, .int x1), (2, .int x2)] → (∀ (H : Heap) (locs : List Loc) (ls : Array Slot), va_P D vwCl ([w6 cA a σ] : List va_W).flatten H → va_D A0 ([w6 cA a σ] : List va_W).flatten → va_S A0 H0 H locs → lv_has ls 3 [(0, .ref (a 0)), (1, .int q.1), (2, .int q.2)] → W p l e rmX6_stopped s m args below meth c H locs 0 0 Q (F0 m 38 ls [])) → W p l e rmX6_stopped s m args below meth c H locs 0 0 Q (F0 m 4 ls []) := by
  obtain ⟨hx, hb, hml, hown, hts, hr, hlk, hKK⟩ := id Z
  have hK := hKK.1
  intro n
  induction n with
  | zero =>
    intro x1 x2 q h
    rw [lp_X6_stopped_4] at h
    cases h
  | succ n ih =>
    intro x1 x2 q h H locs ls hP hD hS hl kk
    rw [lp_X6_stopped_4] at h
    refine lv_iload_n hx hb dX6_stopped_4 rfl (lv_at hl 2 rfl) ?_
    refine lv_aload_n hx hb dX6_stopped_5 rfl (lv_at hl 0 rfl) ?_
    refine va_get (D := D) (ci := 6) (v := .ref (a 1)) (C := RX6) (T := TX6) (N := 19) hx hb hts in_X6_stopped_X6 hown hK hP 0 rfl rfl 0 (by decide) (hts _ lk_X6_stopped_7) (fun _ h9 => h9) rfl dX6_stopped_6 ?_
    refine lv_iconst (v := 0) hx hb dX6_stopped_9 (by decide) ?_
    refine va_iald hx hb hK hP 1 0 rfl rfl (inB_in (by decide)) dX6_stopped_10 ?_
    refine lv_icmp_ge (tgt := 38) hx hb dX6_stopped_11 (by decide) (fun hc1 => ?_) (fun hc1 => ?_)
    · rw [if_pos hc1] at h
      have h := Option.some.inj h
      subst h
      exact kk _ _ _ hP hD hS (lv_sub hl [0, 1, 2] rfl)
    · rw [if_neg hc1] at h
      refine lv_iload_n hx hb dX6_stopped_14 rfl (lv_at hl 1 rfl) ?_
      refine lv_aload_n hx hb dX6_stopped_15 rfl (lv_at hl 0 rfl) ?_
      refine lv_iload_n hx hb dX6_stopped_16 rfl (lv_at hl 2 rfl) ?_
      obtain ⟨r2, hr2, h⟩ := bind_inv h
      refine kV (rest := [.int x1]) (st1 := [.int r2, .int x1]) (cr := []) (cs' := [w6 cA a σ]) Z (c_X6_isStopped l D cA a σ x2 r2 hr2) 1 gX6_stopped_X6_isStopped rfl hdX6_isStopped ⟨rfl, rfl⟩ ⟨Nat.le_of_ble_eq_true rfl, Nat.le_of_ble_eq_true rfl⟩ ⟨Nat.zero_le _, Nat.zero_le _⟩ hP hD hS hl.1 rfl rfl rfl (Nat.le_of_ble_eq_true rfl) 6 rfl rfl rfl [0] [] [0] rfl rfl rfl rfl rfl dX6_stopped_17 (fun H locs hP hD hS => ?_)
      refine lv_if_eq (tgt := 29) hx hb dX6_stopped_20 (by decide) (fun hc3 => ?_) (fun hc3 => ?_)
      · rw [if_pos hc3] at h
        refine lv_iconst (v := 0) hx hb dX6_stopped_29 (by decide) ?_
        refine lv_ior hx hb dX6_stopped_30 ?_
        refine lv_istore_n (lv' := [(1, .int (x1 ||| 0)), (0, .ref (a 0)), (2, .int x2)]) hx hb dX6_stopped_31 rfl hl (by decide) rfl (fun ls hl => ?_)
        refine lv_iinc (v := x2 + 1) (lv' := [(2, .int (x2 + 1)), (1, .int (x1 ||| 0)), (0, .ref (a 0))]) hx hb dX6_stopped_32 hl (k := 2) rfl rfl (by decide) rfl (fun ls hl => ?_)
        refine lv_goto (tgt := 4) hx hb dX6_stopped_35 (by decide) ?_
        exact ih _ _ _ h _ _ _ hP hD hS (lv_sub hl [2, 1, 0] rfl) kk
      · rw [if_neg hc3] at h
        refine lv_iconst (v := 1) hx hb dX6_stopped_23 (by decide) ?_
        refine lv_iload_n hx hb dX6_stopped_24 rfl (lv_at hl 2 rfl) ?_
        refine lv_ishl hx hb dX6_stopped_25 ?_
        refine lv_goto (tgt := 30) hx hb dX6_stopped_26 (by decide) ?_
        refine lv_ior hx hb dX6_stopped_30 ?_
        refine lv_istore_n (lv' := [(1, .int (x1 ||| (1 <<< (x2 &&& 31)))), (0, .ref (a 0)), (2, .int x2)]) hx hb dX6_stopped_31 rfl hl (by decide) rfl (fun ls hl => ?_)
        refine lv_iinc (v := x2 + 1) (lv' := [(2, .int (x2 + 1)), (1, .int (x1 ||| (1 <<< (x2 &&& 31)))), (0, .ref (a 0))]) hx hb dX6_stopped_32 hl (k := 2) rfl rfl (by decide) rfl (fun ls hl => ?_)
        refine lv_goto (tgt := 4) hx hb dX6_stopped_35 (by decide) ?_
        exact ih _ _ _ h _ _ _ hP hD hS (lv_sub hl [2, 1, 0] rfl) kk
set_option maxHeartbeats 4000000 in
set_option maxRecDepth 100000 in
theorem c_X6_stopped (l : Launch) (D : va_G) (cA : Nat → ClassId) (a : Nat → Nat) (σ : St6) (res : Int32) (h : f_X6_stopped σ = some res) : CT l D cA yX6_stopped wsX6_stopped rmX6_stopped [.ref (a 0)] [w6 cA a σ] [w6 cA a σ] (some (.int res)) := by
  refine CT.start (cc := cX6_stopped) (maxL := 3) (ret := (some .int)) (by decide) rfl (Nat.le_of_ble_eq_true rfl) ?_
  intro p e s m below meth c Z hP hD hS ls hl
  have Z : Cx p s m _ meth c cX6_stopped 3 (some .int) wsX6_stopped RX6 D cA := Z
  have hl : lv_has ls 3 [(0, .ref (a 0))] := hl
  obtain ⟨hx, hb, hml, hown, hts, hr, hlk, hKK⟩ := id Z
  have hK := hKK.1
  rw [f_X6_stopped] at h
  refine lv_iconst (v := 0) hx hb dX6_stopped_0 (by decide) ?_
  refine lv_istore_n (lv' := [(1, .int 0), (0, .ref (a 0))]) hx hb dX6_stopped_1 rfl hl (by decide) rfl (fun ls hl => ?_)
  refine lv_iconst (v := 0) hx hb dX6_stopped_2 (by decide) ?_
  refine lv_istore_n (lv' := [(2, .int 0), (1, .int 0), (0, .ref (a 0))]) hx hb dX6_stopped_3 rfl hl (by decide) rfl (fun ls hl => ?_)
  obtain ⟨q4, hq4, h⟩ := bind_inv h
  refine t_X6_stopped_4 Z σ FU _ _ _ hq4 _ _ _ hP hD hS (lv_sub hl [2, 1, 0] rfl) (fun H locs ls hP hD hS hl => ?_)
  refine lv_iload_n hx hb dX6_stopped_38 rfl (lv_at hl 1 rfl) ?_
  have h := Option.some.inj h
  subst h
  exact CT.iret Z hP hD hS dX6_stopped_39

-- X6.many
noncomputable def lp_X6_many_4  : Nat → Int32 → Int32 → Option (Int32 × Int32)
  | 0, _, _ => none
  | n + 1, x1, x2 => (if x2 = 0 then some (x1, x2) else lp_X6_many_4  n (x1 + 1) (x2 &&& (x2 - 1)))
noncomputable def f_X6_many (x0 : Int32) : Option (Int32) := ((lp_X6_many_4  FU 0 x0).bind (fun q2 => some q2.1))
noncomputable def rmX6_many : Room := { frames := 0, cells := 0, slots := 0, locals := 0 }
set_option maxHeartbeats 4000000 in
set_option maxRecDepth 100000 in
theorem t_X6_many_4 {p : Program} {l : Launch} {e : Env} {s : State} {m : MethodId} {args : Array Value} {below : List Frame} {meth : Method} {c : Code} {D : va_G} {cA : Nat → ClassId} {A0 : Nat → Prop} {H0 : Heap}  (Z : Cx p s m args meth c cX6_many 3 (some .int) wsX6_many RX6 D cA)  {Q : State → Prop} : ∀ (n : Nat) (x1 : Int32) (x2 : Int32) (q : Int32 × Int32), lp_X6_many_4  n x1 x2 = some q → ∀ (H : Heap) (locs : List Loc) (ls : Array Slot), va_P D vwCl ([] : List va_W).flatten H → va_D A0 ([] : List va_W).flatten → va_S A0 H0 H locs → lv_has ls 3 [(1, .int x1), (2, .int x2)] → (∀ (H : Heap) (locs : List Loc) (ls : Array Slot), va_P D vwCl ([] : List va_W).flatten H → va_D A0 ([] : List va_W).flatten → va_S A0 H0 H locs → lv_has ls 3 [(1, .int q.1), (2, .int q.2)] → W p l e rmX6_many s m args below meth c H locs 0 0 Q (F0 m 20 ls [])) → W p l e rmX6_many s m args below meth c H locs 0 0 Q (F0 m 4 ls []) := by
  obtain ⟨hx, hb, hml, hown, hts, hr, hlk, hKK⟩ := id Z
  have hK := hKK.1
  intro n
  induction n with
  | zero =>
    intro x1 x2 q h
    rw [lp_X6_many_4] at h
    cases h
  | succ n ih =>
    intro x1 x2 q h H locs ls hP hD hS hl kk
    rw [lp_X6_many_4] at h
    refine lv_iload_n hx hb dX6_many_4 rfl (lv_at hl 1 rfl) ?_
    refine lv_if_eq (tgt := 20) hx hb dX6_many_5 (by decide) (fun hc1 => ?_) (fun hc1 => ?_)
    · rw [if_pos hc1] at h
      have h := Option.some.inj h
      subst h
      exact kk _ _ _ hP hD hS (lv_sub hl [0, 1] rfl)
    · rw [if_neg hc1] at h
      refine lv_iinc (v := x1 + 1) (lv' := [(1, .int (x1 + 1)), (2, .int x2)]) hx hb dX6_many_8 hl (k := 0) rfl rfl (by decide) rfl (fun ls hl => ?_)
      refine lv_iload_n hx hb dX6_many_11 rfl (lv_at hl 1 rfl) ?_
      refine lv_iload_n hx hb dX6_many_12 rfl (lv_at hl 1 rfl) ?_
      refine lv_iconst (v := 1) hx hb dX6_many_13 (by decide) ?_
      refine lv_isub hx hb dX6_many_14 ?_
      refine lv_iand hx hb dX6_many_15 ?_
      refine lv_istore_n (lv' := [(2, .int (x2 &&& (x2 - 1))), (1, .int (x1 + 1))]) hx hb dX6_many_16 rfl hl (by decide) rfl (fun ls hl => ?_)
      refine lv_goto (tgt := 4) hx hb dX6_many_17 (by decide) ?_
      exact ih _ _ _ h _ _ _ hP hD hS (lv_sub hl [1, 0] rfl) kk
set_option maxHeartbeats 4000000 in
set_option maxRecDepth 100000 in
theorem c_X6_many (l : Launch) (D : va_G) (cA : Nat → ClassId)  (x0 : Int32) (res : Int32) (h : f_X6_many x0 = some res) : CT l D cA yX6_many wsX6_many rmX6_many [.int x0] [] [] (some (.int res)) := by
  refine CT.start (cc := cX6_many) (maxL := 3) (ret := (some .int)) (by decide) rfl (Nat.le_of_ble_eq_true rfl) ?_
  intro p e s m below meth c Z hP hD hS ls hl
  have Z : Cx p s m _ meth c cX6_many 3 (some .int) wsX6_many RX6 D cA := Z
  have hl : lv_has ls 3 [(0, .int x0)] := hl
  obtain ⟨hx, hb, hml, hown, hts, hr, hlk, hKK⟩ := id Z
  have hK := hKK.1
  rw [f_X6_many] at h
  refine lv_iconst (v := 0) hx hb dX6_many_0 (by decide) ?_
  refine lv_istore_n (lv' := [(1, .int 0), (0, .int x0)]) hx hb dX6_many_1 rfl hl (by decide) rfl (fun ls hl => ?_)
  refine lv_iload_n hx hb dX6_many_2 rfl (lv_at hl 1 rfl) ?_
  refine lv_istore_n (lv' := [(2, .int x0), (1, .int 0), (0, .int x0)]) hx hb dX6_many_3 rfl hl (by decide) rfl (fun ls hl => ?_)
  obtain ⟨q2, hq2, h⟩ := bind_inv h
  refine t_X6_many_4 Z  FU _ _ _ hq2 _ _ _ hP hD hS (lv_sub hl [1, 0] rfl) (fun H locs ls hP hD hS hl => ?_)
  refine lv_iload_n hx hb dX6_many_20 rfl (lv_at hl 0 rfl) ?_
  have h := Option.some.inj h
  subst h
  exact CT.iret Z hP hD hS dX6_many_21

-- X6.personComes
theorem lk_X6_personComes_7 : Cond.fieldLink RX6 7 "KeyedFeelingsModel" "now" "[I" ∈ wsX6_personComes := by decide +kernel
theorem in_X6_personComes_X6 : ∀ w ∈ wsX60, w ∈ wsX6_personComes := by decide +kernel
theorem lk_X6_personComes_90 : Cond.fieldLink RX6 90 "KeyedFeelingsModel" "undos" "I" ∈ wsX6_personComes := by decide +kernel
noncomputable def f_X6_personComes (σ : St6) (x1 : Int32) (x2 : Int32) (x3 : Int32) (x4 : Int32) : Option (St6) := ((f_X6_tells σ ((p6_now σ) (0 : Int32).toNatClampNeg) 0 x1).bind (fun r1 => ((f_X6_tells r1 ((p6_now σ) (0 : Int32).toNatClampNeg) 1 x2).bind (fun r2 => ((f_X6_tells r2 ((p6_now σ) (0 : Int32).toNatClampNeg) 2 x3).bind (fun r3 => ((f_X6_tells r3 ((p6_now σ) (0 : Int32).toNatClampNeg) 3 x4).bind (fun r4 => some (s6_undos (s6_now r4 (upd (p6_now r4) ((0 : Int32).toNatClampNeg) (((p6_now r4) (0 : Int32).toNatClampNeg) + 1))) 0)))))))))
noncomputable def rmX6_personComes : Room := { frames := 1, cells := 0, slots := 0, locals := 23 }
set_option maxHeartbeats 4000000 in
set_option maxRecDepth 100000 in
theorem c_X6_personComes (l : Launch) (D : va_G) (cA : Nat → ClassId) (a : Nat → Nat) (σ : St6) (x1 : Int32) (x2 : Int32) (x3 : Int32) (x4 : Int32) (res : St6) (h : f_X6_personComes σ x1 x2 x3 x4 = some res) : CT l D cA yX6_personComes wsX6_personComes rmX6_personComes [.ref (a 0), .int x1, .int x2, .int x3, .int x4] [w6 cA a σ] [w6 cA a res] none := by
  refine CT.start (cc := cX6_personComes) (maxL := 6) (ret := none) (by decide) rfl (Nat.le_of_ble_eq_true rfl) ?_
  intro p e s m below meth c Z hP hD hS ls hl
  have Z : Cx p s m _ meth c cX6_personComes 6 none wsX6_personComes RX6 D cA := Z
  have hl : lv_has ls 6 [(0, .ref (a 0)), (1, .int x1), (2, .int x2), (3, .int x3), (4, .int x4)] := hl
  obtain ⟨hx, hb, hml, hown, hts, hr, hlk, hKK⟩ := id Z
  have hK := hKK.1
  rw [f_X6_personComes] at h
  refine lv_aload_n hx hb dX6_personComes_0 rfl (lv_at hl 0 rfl) ?_
  refine va_get (D := D) (ci := 6) (v := .ref (a 1)) (C := RX6) (T := TX6) (N := 19) hx hb hts in_X6_personComes_X6 hown hK hP 0 rfl rfl 0 (by decide) (hts _ lk_X6_personComes_7) (fun _ h9 => h9) rfl dX6_personComes_1 ?_
  refine lv_iconst (v := 0) hx hb dX6_personComes_4 (by decide) ?_
  refine va_iald hx hb hK hP 1 0 rfl rfl (inB_in (by decide)) dX6_personComes_5 ?_
  refine lv_istore (lv' := [(5, .int ((p6_now σ) (0 : Int32).toNatClampNeg)), (0, .ref (a 0)), (1, .int x1), (2, .int x2), (3, .int x3), (4, .int x4)]) hx hb dX6_personComes_6 hl (by decide) rfl (fun ls hl => ?_)
  refine lv_aload_n hx hb dX6_personComes_8 rfl (lv_at hl 1 rfl) ?_
  refine lv_iload hx hb dX6_personComes_9 (lv_at hl 0 rfl) ?_
  refine lv_iconst (v := 0) hx hb dX6_personComes_11 (by decide) ?_
  refine lv_iload_n hx hb dX6_personComes_12 rfl (lv_at hl 2 rfl) ?_
  obtain ⟨r1, hr1, h⟩ := bind_inv h
  refine kV (rest := []) (st1 := []) (cr := []) (cs' := [w6 cA a r1]) Z (c_X6_tells l D cA a σ ((p6_now σ) (0 : Int32).toNatClampNeg) 0 x1 r1 hr1) 3 gX6_personComes_X6_tells rfl hdX6_tells ⟨rfl, rfl⟩ ⟨Nat.le_of_ble_eq_true rfl, Nat.le_of_ble_eq_true rfl⟩ ⟨Nat.zero_le _, Nat.zero_le _⟩ hP hD hS hl.1 rfl rfl rfl (Nat.le_of_ble_eq_true rfl) 6 rfl rfl rfl [0] [] [0] rfl rfl rfl rfl rfl dX6_personComes_13 (fun H locs hP hD hS => ?_)
  refine lv_aload_n hx hb dX6_personComes_16 rfl (lv_at hl 1 rfl) ?_
  refine lv_iload hx hb dX6_personComes_17 (lv_at hl 0 rfl) ?_
  refine lv_iconst (v := 1) hx hb dX6_personComes_19 (by decide) ?_
  refine lv_iload_n hx hb dX6_personComes_20 rfl (lv_at hl 3 rfl) ?_
  obtain ⟨r2, hr2, h⟩ := bind_inv h
  refine kV (rest := []) (st1 := []) (cr := []) (cs' := [w6 cA a r2]) Z (c_X6_tells l D cA a r1 ((p6_now σ) (0 : Int32).toNatClampNeg) 1 x2 r2 hr2) 3 gX6_personComes_X6_tells rfl hdX6_tells ⟨rfl, rfl⟩ ⟨Nat.le_of_ble_eq_true rfl, Nat.le_of_ble_eq_true rfl⟩ ⟨Nat.zero_le _, Nat.zero_le _⟩ hP hD hS hl.1 rfl rfl rfl (Nat.le_of_ble_eq_true rfl) 6 rfl rfl rfl [0] [] [0] rfl rfl rfl rfl rfl dX6_personComes_21 (fun H locs hP hD hS => ?_)
  refine lv_aload_n hx hb dX6_personComes_24 rfl (lv_at hl 1 rfl) ?_
  refine lv_iload hx hb dX6_personComes_25 (lv_at hl 0 rfl) ?_
  refine lv_iconst (v := 2) hx hb dX6_personComes_27 (by decide) ?_
  refine lv_iload_n hx hb dX6_personComes_28 rfl (lv_at hl 4 rfl) ?_
  obtain ⟨r3, hr3, h⟩ := bind_inv h
  refine kV (rest := []) (st1 := []) (cr := []) (cs' := [w6 cA a r3]) Z (c_X6_tells l D cA a r2 ((p6_now σ) (0 : Int32).toNatClampNeg) 2 x3 r3 hr3) 3 gX6_personComes_X6_tells rfl hdX6_tells ⟨rfl, rfl⟩ ⟨Nat.le_of_ble_eq_true rfl, Nat.le_of_ble_eq_true rfl⟩ ⟨Nat.zero_le _, Nat.zero_le _⟩ hP hD hS hl.1 rfl rfl rfl (Nat.le_of_ble_eq_true rfl) 6 rfl rfl rfl [0] [] [0] rfl rfl rfl rfl rfl dX6_personComes_29 (fun H locs hP hD hS => ?_)
  refine lv_aload_n hx hb dX6_personComes_32 rfl (lv_at hl 1 rfl) ?_
  refine lv_iload hx hb dX6_personComes_33 (lv_at hl 0 rfl) ?_
  refine lv_iconst (v := 3) hx hb dX6_personComes_35 (by decide) ?_
  refine lv_iload hx hb dX6_personComes_36 (lv_at hl 5 rfl) ?_
  obtain ⟨r4, hr4, h⟩ := bind_inv h
  refine kV (rest := []) (st1 := []) (cr := []) (cs' := [w6 cA a r4]) Z (c_X6_tells l D cA a r3 ((p6_now σ) (0 : Int32).toNatClampNeg) 3 x4 r4 hr4) 3 gX6_personComes_X6_tells rfl hdX6_tells ⟨rfl, rfl⟩ ⟨Nat.le_of_ble_eq_true rfl, Nat.le_of_ble_eq_true rfl⟩ ⟨Nat.zero_le _, Nat.zero_le _⟩ hP hD hS hl.1 rfl rfl rfl (Nat.le_of_ble_eq_true rfl) 6 rfl rfl rfl [0] [] [0] rfl rfl rfl rfl rfl dX6_personComes_38 (fun H locs hP hD hS => ?_)
  refine lv_aload_n hx hb dX6_personComes_41 rfl (lv_at hl 1 rfl) ?_
  refine va_get (D := D) (ci := 6) (v := .ref (a 1)) (C := RX6) (T := TX6) (N := 19) hx hb hts in_X6_personComes_X6 hown hK hP 0 rfl rfl 0 (by decide) (hts _ lk_X6_personComes_7) (fun _ h9 => h9) rfl dX6_personComes_42 ?_
  refine lv_iconst (v := 0) hx hb dX6_personComes_45 (by decide) ?_
  refine lv_dup2_11 hx hb dX6_personComes_46 rfl rfl ?_
  refine va_iald hx hb hK hP 1 0 rfl rfl (inB_in (by decide)) dX6_personComes_47 ?_
  refine lv_iconst (v := 1) hx hb dX6_personComes_48 (by decide) ?_
  refine lv_iadd hx hb dX6_personComes_49 ?_
  refine va_iast hx hb hK hP hD hS 1 0 rfl rfl (inB_in (by decide)) dX6_personComes_50 (fun H locs hP hD hS => ?_)
  have hP : va_P D vwCl ([w6 cA a (s6_now r4 (upd (p6_now r4) ((0 : Int32).toNatClampNeg) (((p6_now r4) (0 : Int32).toNatClampNeg) + 1)))] : List va_W).flatten H := hP
  have hD : va_D _ ([w6 cA a (s6_now r4 (upd (p6_now r4) ((0 : Int32).toNatClampNeg) (((p6_now r4) (0 : Int32).toNatClampNeg) + 1)))] : List va_W).flatten := hD
  refine lv_aload_n hx hb dX6_personComes_51 rfl (lv_at hl 1 rfl) ?_
  refine lv_iconst (v := 0) hx hb dX6_personComes_52 (by decide) ?_
  refine va_put (D := D) (ci := 6) (v := .int 0) (ty := .int) (C := RX6) (T := TX6) (N := 19) hx hb hts in_X6_personComes_X6 tyX6 tyX6_ok nmX6 hown hK hP hD hS 0 rfl rfl 8 (by decide) (hts _ lk_X6_personComes_90) (fun _ h9 => h9) rfl (tyX6_ok 8 (by decide)) rfl rfl (Nat.le_of_ble_eq_true rfl) dX6_personComes_53 (fun H locs hP hD hS => ?_)
  have hP : va_P D vwCl ([w6 cA a (s6_undos (s6_now r4 (upd (p6_now r4) ((0 : Int32).toNatClampNeg) (((p6_now r4) (0 : Int32).toNatClampNeg) + 1))) 0)] : List va_W).flatten H := hP
  have hD : va_D _ ([w6 cA a (s6_undos (s6_now r4 (upd (p6_now r4) ((0 : Int32).toNatClampNeg) (((p6_now r4) (0 : Int32).toNatClampNeg) + 1))) 0)] : List va_W).flatten := hD
  have h := Option.some.inj h
  subst h
  exact CT.vret Z hP hD hS dX6_personComes_56

