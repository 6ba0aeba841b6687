-- X6.person
theorem ck_X6_person_94 : Cond.constantLong RX6 94 4 ∈ wsX6_person := by decide +kernel
theorem ck_X6_person_96 : Cond.constantLong RX6 96 30 ∈ wsX6_person := by decide +kernel
theorem lk_X6_person_7 : Cond.fieldLink RX6 7 "KeyedFeelingsModel" "now" "[I" ∈ wsX6_person := by decide +kernel
theorem in_X6_person_X6 : ∀ w ∈ wsX60, w ∈ wsX6_person := by decide +kernel
noncomputable def f_X6_person (σ : St6) (x1 : Int32) (x2 : Int32) : Option (Int32 × St6) := ((f_X6_in x1.toInt64 0 4).bind (fun r1 => (if r1 = 0 then some ((-1), σ) else ((f_X6_in x2.toInt64 0 30).bind (fun r3 => (if r3 = 0 then some ((-1), σ) else (if ((p6_now σ) (0 : Int32).toNatClampNeg) = 6 then some ((-3), σ) else ((f_X6_personComes σ x1 x2 (-4) 1).bind (fun r6 => some (((p6_now r6) (0 : Int32).toNatClampNeg) - 1, r6))))))))))
noncomputable def rmX6_person : Room := { frames := 2, cells := 0, slots := 0, locals := 48 }
set_option maxHeartbeats 4000000 in
set_option maxRecDepth 100000 in
theorem c_X6_person (l : Launch) (D : va_G) (cA : Nat → ClassId) (a : Nat → Nat) (σ : St6) (x1 : Int32) (x2 : Int32) (res : Int32 × St6) (h : f_X6_person σ x1 x2 = some res) : CT l D cA yX6_person wsX6_person rmX6_person [.ref (a 0), .int x1, .int x2] [w6 cA a σ] [w6 cA a res.2] (some (.int res.1)) := by
  refine CT.start (cc := cX6_person) (maxL := 3) (ret := (some .int)) (by decide) rfl (Nat.le_of_ble_eq_true rfl) ?_
  intro p e s m below meth c Z hP hD hS ls hl
  have Z : Cx p s m _ meth c cX6_person 3 (some .int) wsX6_person RX6 D cA := Z
  have hl : lv_has ls 3 [(0, .ref (a 0)), (1, .int x1), (2, .int x2)] := hl
  obtain ⟨hx, hb, hml, hown, hts, hr, hlk, hKK⟩ := id Z
  have hK := hKK.1
  rw [f_X6_person] at h
  refine lv_iload_n hx hb dX6_person_0 rfl (lv_at hl 1 rfl) ?_
  refine lv_i2l (v := x1.toInt64) hx hb dX6_person_1 rfl ?_
  refine lv_lconst (v := 0) hx hb dX6_person_2 (by decide) ?_
  refine lv_ldc2 hx hb hown (hts _ ck_X6_person_94) dX6_person_3 ?_
  obtain ⟨r1, hr1, h⟩ := bind_inv h
  refine kS (rest := []) (st1 := [.int r1]) (cr := [w6 cA a σ]) (cs' := [w6 cA a σ]) Z (c_X6_in l D cA x1.toInt64 0 4 r1 hr1) 3 gX6_person_X6_in rfl hdX6_in ⟨rfl, rfl⟩ ⟨Nat.le_of_ble_eq_true rfl, Nat.le_of_ble_eq_true rfl⟩ ⟨Nat.zero_le _, Nat.zero_le _⟩ hP hD hS hl.1 rfl rfl rfl (Nat.le_of_ble_eq_true rfl) [] [0] [0] rfl rfl rfl rfl rfl dX6_person_6 (fun H locs hP hD hS => ?_)
  refine lv_if_eq (tgt := 24) hx hb dX6_person_9 (by decide) (fun hc2 => ?_) (fun hc2 => ?_)
  · rw [if_pos hc2] at h
    refine lv_iconst (v := (-1)) hx hb dX6_person_24 (by decide) ?_
    have h := Option.some.inj h
    subst h
    exact CT.iret Z hP hD hS dX6_person_25
  · rw [if_neg hc2] at h
    refine lv_iload_n hx hb dX6_person_12 rfl (lv_at hl 2 rfl) ?_
    refine lv_i2l (v := x2.toInt64) hx hb dX6_person_13 rfl ?_
    refine lv_lconst (v := 0) hx hb dX6_person_14 (by decide) ?_
    refine lv_ldc2 hx hb hown (hts _ ck_X6_person_96) dX6_person_15 ?_
    obtain ⟨r3, hr3, h⟩ := bind_inv h
    refine kS (rest := []) (st1 := [.int r3]) (cr := [w6 cA a σ]) (cs' := [w6 cA a σ]) Z (c_X6_in l D cA x2.toInt64 0 30 r3 hr3) 3 gX6_person_X6_in rfl hdX6_in ⟨rfl, rfl⟩ ⟨Nat.le_of_ble_eq_true rfl, Nat.le_of_ble_eq_true rfl⟩ ⟨Nat.zero_le _, Nat.zero_le _⟩ hP hD hS hl.1 rfl rfl rfl (Nat.le_of_ble_eq_true rfl) [] [0] [0] rfl rfl rfl rfl rfl dX6_person_18 (fun H locs hP hD hS => ?_)
    refine lv_if_ne (tgt := 26) hx hb dX6_person_21 (by decide) (fun hc4 => ?_) (fun hc4 => ?_)
    · rw [if_neg hc4] at h
      refine lv_aload_n hx hb dX6_person_26 rfl (lv_at hl 0 rfl) ?_
      refine va_get (D := D) (ci := 6) (v := .ref (a 1)) (C := RX6) (T := TX6) (N := 19) hx hb hts in_X6_person_X6 hown hK hP 0 rfl rfl 0 (by decide) (hts _ lk_X6_person_7) (fun _ h9 => h9) rfl dX6_person_27 ?_
      refine lv_iconst (v := 0) hx hb dX6_person_30 (by decide) ?_
      refine va_iald hx hb hK hP 1 0 rfl rfl (inB_in (by decide)) dX6_person_31 ?_
      refine lv_bipush (v := 6) hx hb dX6_person_32 (by decide) ?_
      refine lv_icmp_ne (tgt := 40) hx hb dX6_person_34 (by decide) (fun hc5 => ?_) (fun hc5 => ?_)
      · rw [if_neg hc5] at h
        refine lv_aload_n hx hb dX6_person_40 rfl (lv_at hl 0 rfl) ?_
        refine lv_iload_n hx hb dX6_person_41 rfl (lv_at hl 1 rfl) ?_
        refine lv_iload_n hx hb dX6_person_42 rfl (lv_at hl 2 rfl) ?_
        refine lv_bipush (v := (-4)) hx hb dX6_person_43 (by decide) ?_
        refine lv_iconst (v := 1) hx hb dX6_person_45 (by decide) ?_
        obtain ⟨r6, hr6, h⟩ := bind_inv h
        refine kV (rest := []) (st1 := []) (cr := []) (cs' := [w6 cA a r6]) Z (c_X6_personComes l D cA a σ x1 x2 (-4) 1 r6 hr6) 4 gX6_person_X6_personComes rfl hdX6_personComes ⟨rfl, rfl⟩ ⟨Nat.le_of_ble_eq_true rfl, Nat.le_of_ble_eq_true rfl⟩ ⟨Nat.zero_le _, Nat.zero_le _⟩ hP hD hS hl.1 rfl rfl rfl (Nat.le_of_ble_eq_true rfl) 6 rfl rfl rfl [0] [] [0] rfl rfl rfl rfl rfl dX6_person_46 (fun H locs hP hD hS => ?_)
        refine lv_aload_n hx hb dX6_person_49 rfl (lv_at hl 0 rfl) ?_
        refine va_get (D := D) (ci := 6) (v := .ref (a 1)) (C := RX6) (T := TX6) (N := 19) hx hb hts in_X6_person_X6 hown hK hP 0 rfl rfl 0 (by decide) (hts _ lk_X6_person_7) (fun _ h9 => h9) rfl dX6_person_50 ?_
        refine lv_iconst (v := 0) hx hb dX6_person_53 (by decide) ?_
        refine va_iald hx hb hK hP 1 0 rfl rfl (inB_in (by decide)) dX6_person_54 ?_
        refine lv_iconst (v := 1) hx hb dX6_person_55 (by decide) ?_
        refine lv_isub hx hb dX6_person_56 ?_
        have h := Option.some.inj h
        subst h
        exact CT.iret Z hP hD hS dX6_person_57
      · rw [if_pos hc5] at h
        refine lv_bipush (v := (-3)) hx hb dX6_person_37 (by decide) ?_
        have h := Option.some.inj h
        subst h
        exact CT.iret Z hP hD hS dX6_person_39
    · rw [if_pos hc4] at h
      refine lv_iconst (v := (-1)) hx hb dX6_person_24 (by decide) ?_
      have h := Option.some.inj h
      subst h
      exact CT.iret Z hP hD hS dX6_person_25

-- X6.of
theorem ck_X6_of_105 : Cond.constantLong RX6 105 5 ∈ wsX6_of := by decide +kernel
noncomputable def f_X6_of (σ : St6) (x1 : Int32) (x2 : Int32) : Option (Int32) := ((f_X6_isPerson σ x1).bind (fun r1 => (if r1 = 0 then some (-1) else ((f_X6_in x2.toInt64 0 5).bind (fun r3 => (if r3 = 0 then some (-1) else (if 4 ≤ x2 then (if x2 = 4 then ((f_X6_runs σ x1).bind (fun r8 => some r8)) else ((f_X6_windersOf σ x1).bind (fun r7 => some r7))) else ((f_X6_told σ x1 x2).bind (fun r9 => some r9)))))))))
noncomputable def rmX6_of : Room := { frames := 4, cells := 0, slots := 0, locals := 89 }
set_option maxHeartbeats 4000000 in
set_option maxRecDepth 100000 in
theorem c_X6_of (l : Launch) (D : va_G) (cA : Nat → ClassId) (a : Nat → Nat) (σ : St6) (x1 : Int32) (x2 : Int32) (res : Int32) (h : f_X6_of σ x1 x2 = some res) : CT l D cA yX6_of wsX6_of rmX6_of [.ref (a 0), .int x1, .int x2] [w6 cA a σ] [w6 cA a σ] (some (.int res)) := by
  refine CT.start (cc := cX6_of) (maxL := 3) (ret := (some .int)) (by decide) rfl (Nat.le_of_ble_eq_true rfl) ?_
  intro p e s m below meth c Z hP hD hS ls hl
  have Z : Cx p s m _ meth c cX6_of 3 (some .int) wsX6_of RX6 D cA := Z
  have hl : lv_has ls 3 [(0, .ref (a 0)), (1, .int x1), (2, .int x2)] := hl
  obtain ⟨hx, hb, hml, hown, hts, hr, hlk, hKK⟩ := id Z
  have hK := hKK.1
  rw [f_X6_of] at h
  refine lv_aload_n hx hb dX6_of_0 rfl (lv_at hl 0 rfl) ?_
  refine lv_iload_n hx hb dX6_of_1 rfl (lv_at hl 1 rfl) ?_
  obtain ⟨r1, hr1, h⟩ := bind_inv h
  refine kV (rest := []) (st1 := [.int r1]) (cr := []) (cs' := [w6 cA a σ]) Z (c_X6_isPerson l D cA a σ x1 r1 hr1) 1 gX6_of_X6_isPerson rfl hdX6_isPerson ⟨rfl, rfl⟩ ⟨Nat.le_of_ble_eq_true rfl, Nat.le_of_ble_eq_true rfl⟩ ⟨Nat.zero_le _, Nat.zero_le _⟩ hP hD hS hl.1 rfl rfl rfl (Nat.le_of_ble_eq_true rfl) 6 rfl rfl rfl [0] [] [0] rfl rfl rfl rfl rfl dX6_of_2 (fun H locs hP hD hS => ?_)
  refine lv_if_eq (tgt := 20) hx hb dX6_of_5 (by decide) (fun hc2 => ?_) (fun hc2 => ?_)
  · rw [if_pos hc2] at h
    refine lv_iconst (v := (-1)) hx hb dX6_of_20 (by decide) ?_
    have h := Option.some.inj h
    subst h
    exact CT.iret Z hP hD hS dX6_of_21
  · rw [if_neg hc2] at h
    refine lv_iload_n hx hb dX6_of_8 rfl (lv_at hl 2 rfl) ?_
    refine lv_i2l (v := x2.toInt64) hx hb dX6_of_9 rfl ?_
    refine lv_lconst (v := 0) hx hb dX6_of_10 (by decide) ?_
    refine lv_ldc2 hx hb hown (hts _ ck_X6_of_105) dX6_of_11 ?_
    obtain ⟨r3, hr3, h⟩ := bind_inv h
    refine kS (rest := []) (st1 := [.int r3]) (cr := [w6 cA a σ]) (cs' := [w6 cA a σ]) Z (c_X6_in l D cA x2.toInt64 0 5 r3 hr3) 3 gX6_of_X6_in rfl hdX6_in ⟨rfl, rfl⟩ ⟨Nat.le_of_ble_eq_true rfl, Nat.le_of_ble_eq_true rfl⟩ ⟨Nat.zero_le _, Nat.zero_le _⟩ hP hD hS hl.1 rfl rfl rfl (Nat.le_of_ble_eq_true rfl) [] [0] [0] rfl rfl rfl rfl rfl dX6_of_14 (fun H locs hP hD hS => ?_)
    refine lv_if_ne (tgt := 22) hx hb dX6_of_17 (by decide) (fun hc4 => ?_) (fun hc4 => ?_)
    · rw [if_neg hc4] at h
      refine lv_iload_n hx hb dX6_of_22 rfl (lv_at hl 2 rfl) ?_
      refine lv_iconst (v := 4) hx hb dX6_of_23 (by decide) ?_
      refine lv_icmp_ge (tgt := 36) hx hb dX6_of_24 (by decide) (fun hc5 => ?_) (fun hc5 => ?_)
      · rw [if_pos hc5] at h
        refine lv_iload_n hx hb dX6_of_36 rfl (lv_at hl 2 rfl) ?_
        refine lv_iconst (v := 4) hx hb dX6_of_37 (by decide) ?_
        refine lv_icmp_ne (tgt := 49) hx hb dX6_of_38 (by decide) (fun hc6 => ?_) (fun hc6 => ?_)
        · rw [if_neg hc6] at h
          refine lv_aload_n hx hb dX6_of_49 rfl (lv_at hl 0 rfl) ?_
          refine lv_iload_n hx hb dX6_of_50 rfl (lv_at hl 1 rfl) ?_
          obtain ⟨r7, hr7, h⟩ := bind_inv h
          refine kV (rest := []) (st1 := [.int r7]) (cr := []) (cs' := [w6 cA a σ]) Z (c_X6_windersOf l D cA a σ x1 r7 hr7) 1 gX6_of_X6_windersOf rfl hdX6_windersOf ⟨rfl, rfl⟩ ⟨Nat.le_of_ble_eq_true rfl, Nat.le_of_ble_eq_true rfl⟩ ⟨Nat.zero_le _, Nat.zero_le _⟩ hP hD hS hl.1 rfl rfl rfl (Nat.le_of_ble_eq_true rfl) 6 rfl rfl rfl [0] [] [0] rfl rfl rfl rfl rfl dX6_of_51 (fun H locs hP hD hS => ?_)
          have h := Option.some.inj h
          subst h
          exact CT.iret Z hP hD hS dX6_of_54
        · rw [if_pos hc6] at h
          refine lv_aload_n hx hb dX6_of_41 rfl (lv_at hl 0 rfl) ?_
          refine lv_iload_n hx hb dX6_of_42 rfl (lv_at hl 1 rfl) ?_
          obtain ⟨r8, hr8, h⟩ := bind_inv h
          refine kV (rest := []) (st1 := [.int r8]) (cr := []) (cs' := [w6 cA a σ]) Z (c_X6_runs l D cA a σ x1 r8 hr8) 1 gX6_of_X6_runs rfl hdX6_runs ⟨rfl, rfl⟩ ⟨Nat.le_of_ble_eq_true rfl, Nat.le_of_ble_eq_true rfl⟩ ⟨Nat.zero_le _, Nat.zero_le _⟩ hP hD hS hl.1 rfl rfl rfl (Nat.le_of_ble_eq_true rfl) 6 rfl rfl rfl [0] [] [0] rfl rfl rfl rfl rfl dX6_of_43 (fun H locs hP hD hS => ?_)
          refine lv_goto (tgt := 54) hx hb dX6_of_46 (by decide) ?_
          have h := Option.some.inj h
          subst h
          exact CT.iret Z hP hD hS dX6_of_54
      · rw [if_neg hc5] at h
        refine lv_aload_n hx hb dX6_of_27 rfl (lv_at hl 0 rfl) ?_
        refine lv_iload_n hx hb dX6_of_28 rfl (lv_at hl 1 rfl) ?_
        refine lv_iload_n hx hb dX6_of_29 rfl (lv_at hl 2 rfl) ?_
        obtain ⟨r9, hr9, h⟩ := bind_inv h
        refine kV (rest := []) (st1 := [.int r9]) (cr := []) (cs' := [w6 cA a σ]) Z (c_X6_told l D cA a σ x1 x2 r9 hr9) 2 gX6_of_X6_told rfl hdX6_told ⟨rfl, rfl⟩ ⟨Nat.le_of_ble_eq_true rfl, Nat.le_of_ble_eq_true rfl⟩ ⟨Nat.zero_le _, Nat.zero_le _⟩ hP hD hS hl.1 rfl rfl rfl (Nat.le_of_ble_eq_true rfl) 6 rfl rfl rfl [0] [] [0] rfl rfl rfl rfl rfl dX6_of_30 (fun H locs hP hD hS => ?_)
        refine lv_goto (tgt := 54) hx hb dX6_of_33 (by decide) ?_
        have h := Option.some.inj h
        subst h
        exact CT.iret Z hP hD hS dX6_of_54
    · rw [if_pos hc4] at h
      refine lv_iconst (v := (-1)) hx hb dX6_of_20 (by decide) ?_
      have h := Option.some.inj h
      subst h
      exact CT.iret Z hP hD hS dX6_of_21

-- X6.behind
noncomputable def lp_X6_behind_8 (σ : St6) : Nat → Int32 → Int32 → Option (Int32 × Int32)
  | 0, _, _ => none
  | n + 1, x2, x3 => (if x3 = (-4) then some (x2, x3) else (if ((x2 >>> (x3 &&& 31)) &&& 1) = 0 then ((f_X6_whom σ x3).bind (fun r4 => lp_X6_behind_8 σ n (x2 ||| (1 <<< (x3 &&& 31))) r4)) else some (x2, x3)))
noncomputable def f_X6_behind (σ : St6) (x1 : Int32) : Option (Int32) := ((f_X6_whom σ x1).bind (fun r1 => ((lp_X6_behind_8 σ FU 0 r1).bind (fun q5 => some q5.1))))
noncomputable def rmX6_behind : Room := { frames := 2, cells := 0, slots := 0, locals := 43 }
set_option maxHeartbeats 4000000 in
set_option maxRecDepth 100000 in
theorem t_X6_behind_8 {p : Program} {l : Launch} {e : Env} {s : State} {m : MethodId} {args : Array Value} {below : List Frame} {meth : Method} {c : Code} {D : va_G} {cA : Nat → ClassId} {A0 : Nat → Prop} {H0 : Heap} {a : Nat → Nat} (Z : Cx p s m args meth c cX6_behind 4 (some .int) wsX6_behind RX6 D cA) (σ : St6) {Q : State → Prop} : ∀ (n : Nat) (x2 : Int32) (x3 : Int32) (q : Int32 × Int32), lp_X6_behind_8 σ n x2 x3 = some q → ∀ (H : Heap) (locs : List Loc) (ls : Array Slot), va_P D vwCl ([w6 cA a σ] : List va_W).flatten H → va_D A0 ([w6 cA a σ] : List va_W).flatten → va_S A0 H0 H locs → lv_has ls 4 [(0, .ref (a 0)), (2, .int x2), (3, .int x3)] → (∀ (H : Heap) (locs : List Loc) (ls : Array Slot), va_P D vwCl ([w6 cA a σ] : List va_W).flatten H → va_D A0 ([w6 cA a σ] : List va_W).flatten → va_S A0 H0 H locs → lv_has ls 4 [(0, .ref (a 0)), (2, .int q.1), (3, .int q.2)] → W p l e rmX6_behind s m args below meth c H locs 0 0 Q (F0 m 37 ls [])) → W p l e rmX6_behind s m args below meth c H locs 0 0 Q (F0 m 8 ls []) := by
  obtain ⟨hx, hb, hml, hown, hts, hr, hlk, hKK⟩ := id Z
  have hK := hKK.1
  intro n
  induction n with
  | zero =>
    intro x2 x3 q h
    rw [lp_X6_behind_8] at h
    cases h
  | succ n ih =>
    intro x2 x3 q h H locs ls hP hD hS hl kk
    rw [lp_X6_behind_8] at h
    refine lv_iload_n hx hb dX6_behind_8 rfl (lv_at hl 2 rfl) ?_
    refine lv_bipush (v := (-4)) hx hb dX6_behind_9 (by decide) ?_
    refine lv_icmp_eq (tgt := 37) hx hb dX6_behind_11 (by decide) (fun hc2 => ?_) (fun hc2 => ?_)
    · rw [if_pos hc2] at h
      have h := Option.some.inj h
      subst h
      exact kk _ _ _ hP hD hS (lv_sub hl [0, 1, 2] rfl)
    · rw [if_neg hc2] at h
      refine lv_iload_n hx hb dX6_behind_14 rfl (lv_at hl 1 rfl) ?_
      refine lv_iload_n hx hb dX6_behind_15 rfl (lv_at hl 2 rfl) ?_
      refine lv_ishr hx hb dX6_behind_16 ?_
      refine lv_iconst (v := 1) hx hb dX6_behind_17 (by decide) ?_
      refine lv_iand hx hb dX6_behind_18 ?_
      refine lv_if_ne (tgt := 37) hx hb dX6_behind_19 (by decide) (fun hc3 => ?_) (fun hc3 => ?_)
      · rw [if_neg hc3] at h
        have h := Option.some.inj h
        subst h
        exact kk _ _ _ hP hD hS (lv_sub hl [0, 1, 2] rfl)
      · rw [if_pos hc3] at h
        refine lv_iload_n hx hb dX6_behind_22 rfl (lv_at hl 1 rfl) ?_
        refine lv_iconst (v := 1) hx hb dX6_behind_23 (by decide) ?_
        refine lv_iload_n hx hb dX6_behind_24 rfl (lv_at hl 2 rfl) ?_
        refine lv_ishl hx hb dX6_behind_25 ?_
        refine lv_ior hx hb dX6_behind_26 ?_
        refine lv_istore_n (lv' := [(2, .int (x2 ||| (1 <<< (x3 &&& 31)))), (0, .ref (a 0)), (3, .int x3)]) hx hb dX6_behind_27 rfl hl (by decide) rfl (fun ls hl => ?_)
        refine lv_aload_n hx hb dX6_behind_28 rfl (lv_at hl 1 rfl) ?_
        refine lv_iload_n hx hb dX6_behind_29 rfl (lv_at hl 2 rfl) ?_
        obtain ⟨r4, hr4, h⟩ := bind_inv h
        refine kV (rest := []) (st1 := [.int r4]) (cr := []) (cs' := [w6 cA a σ]) Z (c_X6_whom l D cA a σ x3 r4 hr4) 1 gX6_behind_X6_whom rfl hdX6_whom ⟨rfl, rfl⟩ ⟨Nat.le_of_ble_eq_true rfl, Nat.le_of_ble_eq_true rfl⟩ ⟨Nat.zero_le _, Nat.zero_le _⟩ hP hD hS hl.1 rfl rfl rfl (Nat.le_of_ble_eq_true rfl) 6 rfl rfl rfl [0] [] [0] rfl rfl rfl rfl rfl dX6_behind_30 (fun H locs hP hD hS => ?_)
        refine lv_istore_n (lv' := [(3, .int r4), (2, .int (x2 ||| (1 <<< (x3 &&& 31)))), (0, .ref (a 0))]) hx hb dX6_behind_33 rfl hl (by decide) rfl (fun ls hl => ?_)
        refine lv_goto (tgt := 8) hx hb dX6_behind_34 (by decide) ?_
        exact ih _ _ _ h _ _ _ hP hD hS (lv_sub hl [2, 1, 0] rfl) kk
set_option maxHeartbeats 4000000 in
set_option maxRecDepth 100000 in
theorem c_X6_behind (l : Launch) (D : va_G) (cA : Nat → ClassId) (a : Nat → Nat) (σ : St6) (x1 : Int32) (res : Int32) (h : f_X6_behind σ x1 = some res) : CT l D cA yX6_behind wsX6_behind rmX6_behind [.ref (a 0), .int x1] [w6 cA a σ] [w6 cA a σ] (some (.int res)) := by
  refine CT.start (cc := cX6_behind) (maxL := 4) (ret := (some .int)) (by decide) rfl (Nat.le_of_ble_eq_true rfl) ?_
  intro p e s m below meth c Z hP hD hS ls hl
  have Z : Cx p s m _ meth c cX6_behind 4 (some .int) wsX6_behind RX6 D cA := Z
  have hl : lv_has ls 4 [(0, .ref (a 0)), (1, .int x1)] := hl
  obtain ⟨hx, hb, hml, hown, hts, hr, hlk, hKK⟩ := id Z
  have hK := hKK.1
  rw [f_X6_behind] at h
  refine lv_iconst (v := 0) hx hb dX6_behind_0 (by decide) ?_
  refine lv_istore_n (lv' := [(2, .int 0), (0, .ref (a 0)), (1, .int x1)]) hx hb dX6_behind_1 rfl hl (by decide) rfl (fun ls hl => ?_)
  refine lv_aload_n hx hb dX6_behind_2 rfl (lv_at hl 1 rfl) ?_
  refine lv_iload_n hx hb dX6_behind_3 rfl (lv_at hl 2 rfl) ?_
  obtain ⟨r1, hr1, h⟩ := bind_inv h
  refine kV (rest := []) (st1 := [.int r1]) (cr := []) (cs' := [w6 cA a σ]) Z (c_X6_whom l D cA a σ x1 r1 hr1) 1 gX6_behind_X6_whom rfl hdX6_whom ⟨rfl, rfl⟩ ⟨Nat.le_of_ble_eq_true rfl, Nat.le_of_ble_eq_true rfl⟩ ⟨Nat.zero_le _, Nat.zero_le _⟩ hP hD hS hl.1 rfl rfl rfl (Nat.le_of_ble_eq_true rfl) 6 rfl rfl rfl [0] [] [0] rfl rfl rfl rfl rfl dX6_behind_4 (fun H locs hP hD hS => ?_)
  refine lv_istore_n (lv' := [(3, .int r1), (2, .int 0), (0, .ref (a 0)), (1, .int x1)]) hx hb dX6_behind_7 rfl hl (by decide) rfl (fun ls hl => ?_)
  obtain ⟨q5, hq5, h⟩ := bind_inv h
  refine t_X6_behind_8 Z σ FU _ _ _ hq5 _ _ _ hP hD hS (lv_sub hl [2, 1, 0] rfl) (fun H locs ls hP hD hS hl => ?_)
  refine lv_iload_n hx hb dX6_behind_37 rfl (lv_at hl 1 rfl) ?_
  have h := Option.some.inj h
  subst h
  exact CT.iret Z hP hD hS dX6_behind_38

-- X6.ring
theorem lk_X6_ring_7 : Cond.fieldLink RX6 7 "KeyedFeelingsModel" "now" "[I" ∈ wsX6_ring := by decide +kernel
theorem in_X6_ring_X6 : ∀ w ∈ wsX60, w ∈ wsX6_ring := by decide +kernel
noncomputable def lp_X6_ring_4 (σ : St6) : Nat → Int32 → Int32 → Option (Int32 × Int32)
  | 0, _, _ => none
  | n + 1, x1, x2 => (if ((p6_now σ) (0 : Int32).toNatClampNeg) ≤ x2 then some (x1, x2) else ((f_X6_behind σ x2).bind (fun r2 => (if ((r2 >>> (x2 &&& 31)) &&& 1) = 1 then lp_X6_ring_4 σ n (x1 ||| (1 <<< (x2 &&& 31))) (x2 + 1) else lp_X6_ring_4 σ n (x1 ||| 0) (x2 + 1)))))
noncomputable def f_X6_ring (σ : St6) : Option (Int32) := ((lp_X6_ring_4 σ FU 0 0).bind (fun q4 => some q4.1))
noncomputable def rmX6_ring : Room := { frames := 3, cells := 0, slots := 0, locals := 66 }
set_option maxHeartbeats 4000000 in
set_option maxRecDepth 100000 in
theorem t_X6_ring_4 {p : Program} {l : Launch} {e : Env} {s : State} {m : MethodId} {args : Array Value} {below : List Frame} {meth : Method} {c : Code} {D : va_G} {cA : Nat → ClassId} {A0 : Nat → Prop} {H0 : Heap} {a : Nat → Nat} (Z : Cx p s m args meth c cX6_ring 3 (some .int) wsX6_ring RX6 D cA) (σ : St6) {Q : State → Prop} : ∀ (n : Nat) (x1 : Int32) (x2 : Int32) (q : Int32 × Int32), lp_X6_ring_4 σ n x1 x2 = some q → ∀ (H : Heap) (locs : List Loc) (ls : Array Slot), va_P D vwCl ([w6 cA a σ] : List va_W).flatten H → va_D A0 ([w6 cA a σ] : List va_W).flatten → va_S A0 H0 H locs → lv_has ls 3 [(0, .ref (a 0)), (1, .int x1), (2, .int x2)] → (∀ (H : Heap) (locs : List Loc) (ls : Array Slot), va_P D vwCl ([w6 cA a σ] : List va_W).flatten H → va_D A0 ([w6 cA a σ] : List va_W).flatten → va_S A0 H0 H locs → lv_has ls 3 [(0, .ref (a 0)), (1, .int q.1), (2, .int q.2)] → W p l e rmX6_ring s m args below meth c H locs 0 0 Q (F0 m 43 ls [])) → W p l e rmX6_ring s m args below meth c H locs 0 0 Q (F0 m 4 ls []) := by
  obtain ⟨hx, hb, hml, hown, hts, hr, hlk, hKK⟩ := id Z
  have hK := hKK.1
  intro n
  induction n with
  | zero =>
    intro x1 x2 q h
    rw [lp_X6_ring_4] at h
    cases h
  | succ n ih =>
    intro x1 x2 q h H locs ls hP hD hS hl kk
    rw [lp_X6_ring_4] at h
    refine lv_iload_n hx hb dX6_ring_4 rfl (lv_at hl 2 rfl) ?_
    refine lv_aload_n hx hb dX6_ring_5 rfl (lv_at hl 0 rfl) ?_
    refine va_get (D := D) (ci := 6) (v := .ref (a 1)) (C := RX6) (T := TX6) (N := 19) hx hb hts in_X6_ring_X6 hown hK hP 0 rfl rfl 0 (by decide) (hts _ lk_X6_ring_7) (fun _ h9 => h9) rfl dX6_ring_6 ?_
    refine lv_iconst (v := 0) hx hb dX6_ring_9 (by decide) ?_
    refine va_iald hx hb hK hP 1 0 rfl rfl (inB_in (by decide)) dX6_ring_10 ?_
    refine lv_icmp_ge (tgt := 43) hx hb dX6_ring_11 (by decide) (fun hc1 => ?_) (fun hc1 => ?_)
    · rw [if_pos hc1] at h
      have h := Option.some.inj h
      subst h
      exact kk _ _ _ hP hD hS (lv_sub hl [0, 1, 2] rfl)
    · rw [if_neg hc1] at h
      refine lv_iload_n hx hb dX6_ring_14 rfl (lv_at hl 1 rfl) ?_
      refine lv_aload_n hx hb dX6_ring_15 rfl (lv_at hl 0 rfl) ?_
      refine lv_iload_n hx hb dX6_ring_16 rfl (lv_at hl 2 rfl) ?_
      obtain ⟨r2, hr2, h⟩ := bind_inv h
      refine kV (rest := [.int x1]) (st1 := [.int r2, .int x1]) (cr := []) (cs' := [w6 cA a σ]) Z (c_X6_behind l D cA a σ x2 r2 hr2) 1 gX6_ring_X6_behind rfl hdX6_behind ⟨rfl, rfl⟩ ⟨Nat.le_of_ble_eq_true rfl, Nat.le_of_ble_eq_true rfl⟩ ⟨Nat.zero_le _, Nat.zero_le _⟩ hP hD hS hl.1 rfl rfl rfl (Nat.le_of_ble_eq_true rfl) 6 rfl rfl rfl [0] [] [0] rfl rfl rfl rfl rfl dX6_ring_17 (fun H locs hP hD hS => ?_)
      refine lv_iload_n hx hb dX6_ring_20 rfl (lv_at hl 2 rfl) ?_
      refine lv_ishr hx hb dX6_ring_21 ?_
      refine lv_iconst (v := 1) hx hb dX6_ring_22 (by decide) ?_
      refine lv_iand hx hb dX6_ring_23 ?_
      refine lv_iconst (v := 1) hx hb dX6_ring_24 (by decide) ?_
      refine lv_icmp_ne (tgt := 34) hx hb dX6_ring_25 (by decide) (fun hc3 => ?_) (fun hc3 => ?_)
      · rw [if_neg hc3] at h
        refine lv_iconst (v := 0) hx hb dX6_ring_34 (by decide) ?_
        refine lv_ior hx hb dX6_ring_35 ?_
        refine lv_istore_n (lv' := [(1, .int (x1 ||| 0)), (0, .ref (a 0)), (2, .int x2)]) hx hb dX6_ring_36 rfl hl (by decide) rfl (fun ls hl => ?_)
        refine lv_iinc (v := x2 + 1) (lv' := [(2, .int (x2 + 1)), (1, .int (x1 ||| 0)), (0, .ref (a 0))]) hx hb dX6_ring_37 hl (k := 2) rfl rfl (by decide) rfl (fun ls hl => ?_)
        refine lv_goto (tgt := 4) hx hb dX6_ring_40 (by decide) ?_
        exact ih _ _ _ h _ _ _ hP hD hS (lv_sub hl [2, 1, 0] rfl) kk
      · rw [if_pos hc3] at h
        refine lv_iconst (v := 1) hx hb dX6_ring_28 (by decide) ?_
        refine lv_iload_n hx hb dX6_ring_29 rfl (lv_at hl 2 rfl) ?_
        refine lv_ishl hx hb dX6_ring_30 ?_
        refine lv_goto (tgt := 35) hx hb dX6_ring_31 (by decide) ?_
        refine lv_ior hx hb dX6_ring_35 ?_
        refine lv_istore_n (lv' := [(1, .int (x1 ||| (1 <<< (x2 &&& 31)))), (0, .ref (a 0)), (2, .int x2)]) hx hb dX6_ring_36 rfl hl (by decide) rfl (fun ls hl => ?_)
        refine lv_iinc (v := x2 + 1) (lv' := [(2, .int (x2 + 1)), (1, .int (x1 ||| (1 <<< (x2 &&& 31)))), (0, .ref (a 0))]) hx hb dX6_ring_37 hl (k := 2) rfl rfl (by decide) rfl (fun ls hl => ?_)
        refine lv_goto (tgt := 4) hx hb dX6_ring_40 (by decide) ?_
        exact ih _ _ _ h _ _ _ hP hD hS (lv_sub hl [2, 1, 0] rfl) kk
set_option maxHeartbeats 4000000 in
set_option maxRecDepth 100000 in
theorem c_X6_ring (l : Launch) (D : va_G) (cA : Nat → ClassId) (a : Nat → Nat) (σ : St6) (res : Int32) (h : f_X6_ring σ = some res) : CT l D cA yX6_ring wsX6_ring rmX6_ring [.ref (a 0)] [w6 cA a σ] [w6 cA a σ] (some (.int res)) := by
  refine CT.start (cc := cX6_ring) (maxL := 3) (ret := (some .int)) (by decide) rfl (Nat.le_of_ble_eq_true rfl) ?_
  intro p e s m below meth c Z hP hD hS ls hl
  have Z : Cx p s m _ meth c cX6_ring 3 (some .int) wsX6_ring RX6 D cA := Z
  have hl : lv_has ls 3 [(0, .ref (a 0))] := hl
  obtain ⟨hx, hb, hml, hown, hts, hr, hlk, hKK⟩ := id Z
  have hK := hKK.1
  rw [f_X6_ring] at h
  refine lv_iconst (v := 0) hx hb dX6_ring_0 (by decide) ?_
  refine lv_istore_n (lv' := [(1, .int 0), (0, .ref (a 0))]) hx hb dX6_ring_1 rfl hl (by decide) rfl (fun ls hl => ?_)
  refine lv_iconst (v := 0) hx hb dX6_ring_2 (by decide) ?_
  refine lv_istore_n (lv' := [(2, .int 0), (1, .int 0), (0, .ref (a 0))]) hx hb dX6_ring_3 rfl hl (by decide) rfl (fun ls hl => ?_)
  obtain ⟨q4, hq4, h⟩ := bind_inv h
  refine t_X6_ring_4 Z σ FU _ _ _ hq4 _ _ _ hP hD hS (lv_sub hl [2, 1, 0] rfl) (fun H locs ls hP hD hS hl => ?_)
  refine lv_iload_n hx hb dX6_ring_43 rfl (lv_at hl 1 rfl) ?_
  have h := Option.some.inj h
  subst h
  exact CT.iret Z hP hD hS dX6_ring_44

-- X6.without
theorem lk_X6_without_7 : Cond.fieldLink RX6 7 "KeyedFeelingsModel" "now" "[I" ∈ wsX6_without := by decide +kernel
theorem in_X6_without_X6 : ∀ w ∈ wsX60, w ∈ wsX6_without := by decide +kernel
noncomputable def lp_X6_without_4 (σ : St6) : Nat → Int32 → Int32 → Option (Int32 × Int32)
  | 0, _, _ => none
  | n + 1, x1, x2 => (if ((p6_now σ) (0 : Int32).toNatClampNeg) ≤ x2 then some (x1, x2) else ((f_X6_windersOf σ x2).bind (fun r2 => (if r2 = 0 then lp_X6_without_4 σ n (x1 + 1) (x2 + 1) else lp_X6_without_4 σ n (x1 + 0) (x2 + 1)))))
noncomputable def f_X6_without (σ : St6) : Option (Int32) := ((lp_X6_without_4 σ FU 0 0).bind (fun q4 => some q4.1))
noncomputable def rmX6_without : Room := { frames := 3, cells := 0, slots := 0, locals := 66 }
set_option maxHeartbeats 4000000 in
set_option maxRecDepth 100000 in
theorem t_X6_without_4 {p : Program} {l : Launch} {e : Env} {s : State} {m : MethodId} {args : Array Value} {below : List Frame} {meth : Method} {c : Code} {D : va_G} {cA : Nat → ClassId} {A0 : Nat → Prop} {H0 : Heap} {a : Nat → Nat} (Z : Cx p s m args meth c cX6_without 3 (some .int) wsX6_without RX6 D cA) (σ : St6) {Q : State → Prop} : ∀ (n : Nat) (x1 : Int32) (x2 : Int32) (q : Int32 × Int32), lp_X6_without_4 σ n x1 x2 = some q → ∀ (H : Heap) (locs : List Loc) (ls : Array Slot), va_P D vwCl ([w6 cA a σ] : List va_W).flatten H → va_D A0 ([w6 cA a σ] : List va_W).flatten → va_S A0 H0 H locs → lv_has ls 3 [(0, .ref (a 0)), (1, .int x1), (2, .int x2)] → (∀ (H : Heap) (locs : List Loc) (ls : Array Slot), va_P D vwCl ([w6 cA a σ] : List va_W).flatten H → va_D A0 ([w6 cA a σ] : List va_W).flatten → va_S A0 H0 H locs → lv_has ls 3 [(0, .ref (a 0)), (1, .int q.1), (2, .int q.2)] → W p l e rmX6_without s m args below meth c H locs 0 0 Q (F0 m 36 ls [])) → W p l e rmX6_without s m args below meth c H locs 0 0 Q (F0 m 4 ls []) := by
  obtain ⟨hx, hb, hml, hown, hts, hr, hlk, hKK⟩ := id Z
  have hK := hKK.1
  intro n
  induction n with
  | zero =>
    intro x1 x2 q h
    rw [lp_X6_without_4] at h
    cases h
  | succ n ih =>
    intro x1 x2 q h H locs ls hP hD hS hl kk
    rw [lp_X6_without_4] at h
    refine lv_iload_n hx hb dX6_without_4 rfl (lv_at hl 2 rfl) ?_
    refine lv_aload_n hx hb dX6_without_5 rfl (lv_at hl 0 rfl) ?_
    refine va_get (D := D) (ci := 6) (v := .ref (a 1)) (C := RX6) (T := TX6) (N := 19) hx hb hts in_X6_without_X6 hown hK hP 0 rfl rfl 0 (by decide) (hts _ lk_X6_without_7) (fun _ h9 => h9) rfl dX6_without_6 ?_
    refine lv_iconst (v := 0) hx hb dX6_without_9 (by decide) ?_
    refine va_iald hx hb hK hP 1 0 rfl rfl (inB_in (by decide)) dX6_without_10 ?_
    refine lv_icmp_ge (tgt := 36) hx hb dX6_without_11 (by decide) (fun hc1 => ?_) (fun hc1 => ?_)
    · rw [if_pos hc1] at h
      have h := Option.some.inj h
      subst h
      exact kk _ _ _ hP hD hS (lv_sub hl [0, 1, 2] rfl)
    · rw [if_neg hc1] at h
      refine lv_iload_n hx hb dX6_without_14 rfl (lv_at hl 1 rfl) ?_
      refine lv_aload_n hx hb dX6_without_15 rfl (lv_at hl 0 rfl) ?_
      refine lv_iload_n hx hb dX6_without_16 rfl (lv_at hl 2 rfl) ?_
      obtain ⟨r2, hr2, h⟩ := bind_inv h
      refine kV (rest := [.int x1]) (st1 := [.int r2, .int x1]) (cr := []) (cs' := [w6 cA a σ]) Z (c_X6_windersOf l D cA a σ x2 r2 hr2) 1 gX6_without_X6_windersOf rfl hdX6_windersOf ⟨rfl, rfl⟩ ⟨Nat.le_of_ble_eq_true rfl, Nat.le_of_ble_eq_true rfl⟩ ⟨Nat.zero_le _, Nat.zero_le _⟩ hP hD hS hl.1 rfl rfl rfl (Nat.le_of_ble_eq_true rfl) 6 rfl rfl rfl [0] [] [0] rfl rfl rfl rfl rfl dX6_without_17 (fun H locs hP hD hS => ?_)
      refine lv_if_ne (tgt := 27) hx hb dX6_without_20 (by decide) (fun hc3 => ?_) (fun hc3 => ?_)
      · rw [if_neg hc3] at h
        refine lv_iconst (v := 0) hx hb dX6_without_27 (by decide) ?_
        refine lv_iadd hx hb dX6_without_28 ?_
        refine lv_istore_n (lv' := [(1, .int (x1 + 0)), (0, .ref (a 0)), (2, .int x2)]) hx hb dX6_without_29 rfl hl (by decide) rfl (fun ls hl => ?_)
        refine lv_iinc (v := x2 + 1) (lv' := [(2, .int (x2 + 1)), (1, .int (x1 + 0)), (0, .ref (a 0))]) hx hb dX6_without_30 hl (k := 2) rfl rfl (by decide) rfl (fun ls hl => ?_)
        refine lv_goto (tgt := 4) hx hb dX6_without_33 (by decide) ?_
        exact ih _ _ _ h _ _ _ hP hD hS (lv_sub hl [2, 1, 0] rfl) kk
      · rw [if_pos hc3] at h
        refine lv_iconst (v := 1) hx hb dX6_without_23 (by decide) ?_
        refine lv_goto (tgt := 28) hx hb dX6_without_24 (by decide) ?_
        refine lv_iadd hx hb dX6_without_28 ?_
        refine lv_istore_n (lv' := [(1, .int (x1 + 1)), (0, .ref (a 0)), (2, .int x2)]) hx hb dX6_without_29 rfl hl (by decide) rfl (fun ls hl => ?_)
        refine lv_iinc (v := x2 + 1) (lv' := [(2, .int (x2 + 1)), (1, .int (x1 + 1)), (0, .ref (a 0))]) hx hb dX6_without_30 hl (k := 2) rfl rfl (by decide) rfl (fun ls hl => ?_)
        refine lv_goto (tgt := 4) hx hb dX6_without_33 (by decide) ?_
        exact ih _ _ _ h _ _ _ hP hD hS (lv_sub hl [2, 1, 0] rfl) kk
set_option maxHeartbeats 4000000 in
set_option maxRecDepth 100000 in
theorem c_X6_without (l : Launch) (D : va_G) (cA : Nat → ClassId) (a : Nat → Nat) (σ : St6) (res : Int32) (h : f_X6_without σ = some res) : CT l D cA yX6_without wsX6_without rmX6_without [.ref (a 0)] [w6 cA a σ] [w6 cA a σ] (some (.int res)) := by
  refine CT.start (cc := cX6_without) (maxL := 3) (ret := (some .int)) (by decide) rfl (Nat.le_of_ble_eq_true rfl) ?_
  intro p e s m below meth c Z hP hD hS ls hl
  have Z : Cx p s m _ meth c cX6_without 3 (some .int) wsX6_without RX6 D cA := Z
  have hl : lv_has ls 3 [(0, .ref (a 0))] := hl
  obtain ⟨hx, hb, hml, hown, hts, hr, hlk, hKK⟩ := id Z
  have hK := hKK.1
  rw [f_X6_without] at h
  refine lv_iconst (v := 0) hx hb dX6_without_0 (by decide) ?_
  refine lv_istore_n (lv' := [(1, .int 0), (0, .ref (a 0))]) hx hb dX6_without_1 rfl hl (by decide) rfl (fun ls hl => ?_)
  refine lv_iconst (v := 0) hx hb dX6_without_2 (by decide) ?_
  refine lv_istore_n (lv' := [(2, .int 0), (1, .int 0), (0, .ref (a 0))]) hx hb dX6_without_3 rfl hl (by decide) rfl (fun ls hl => ?_)
  obtain ⟨q4, hq4, h⟩ := bind_inv h
  refine t_X6_without_4 Z σ FU _ _ _ hq4 _ _ _ hP hD hS (lv_sub hl [2, 1, 0] rfl) (fun H locs ls hP hD hS hl => ?_)
  refine lv_iload_n hx hb dX6_without_36 rfl (lv_at hl 1 rfl) ?_
  have h := Option.some.inj h
  subst h
  exact CT.iret Z hP hD hS dX6_without_37

-- X6.turnsAll
theorem lk_X6_turnsAll_7 : Cond.fieldLink RX6 7 "KeyedFeelingsModel" "now" "[I" ∈ wsX6_turnsAll := by decide +kernel
theorem in_X6_turnsAll_X6 : ∀ w ∈ wsX60, w ∈ wsX6_turnsAll := by decide +kernel
noncomputable def lp_X6_turnsAll_4 (σ : St6) : Nat → Int32 → Int32 → Option (Int32 × Int32)
  | 0, _, _ => none
  | n + 1, x1, x2 => (if ((p6_now σ) (0 : Int32).toNatClampNeg) ≤ x2 then some (x1, x2) else ((f_X6_turns σ x2).bind (fun r2 => lp_X6_turnsAll_4 σ n (x1 + r2) (x2 + 1))))
noncomputable def f_X6_turnsAll (σ : St6) : Option (Int32) := ((lp_X6_turnsAll_4 σ FU 0 0).bind (fun q3 => some q3.1))
noncomputable def rmX6_turnsAll : Room := { frames := 2, cells := 0, slots := 0, locals := 43 }
set_option maxHeartbeats 4000000 in
set_option maxRecDepth 100000 in
theorem t_X6_turnsAll_4 {p : Program} {l : Launch} {e : Env} {s : State} {m : MethodId} {args : Array Value} {below : List Frame} {meth : Method} {c : Code} {D : va_G} {cA : Nat → ClassId} {A0 : Nat → Prop} {H0 : Heap} {a : Nat → Nat} (Z : Cx p s m args meth c cX6_turnsAll 3 (some .int) wsX6_turnsAll RX6 D cA) (σ : St6) {Q : State → Prop} : ∀ (n : Nat) (x1 : Int32) (x2 : Int32) (q : Int32 × Int32), lp_X6_turnsAll_4 σ n x1 x2 = some q → ∀ (H : Heap) (locs : List Loc) (ls : Array Slot), va_P D vwCl ([w6 cA a σ] : List va_W).flatten H → va_D A0 ([w6 cA a σ] : List va_W).flatten → va_S A0 H0 H locs → lv_has ls 3 [(0, .ref (a 0)), (1, .int x1), (2, .int x2)] → (∀ (H : Heap) (locs : List Loc) (ls : Array Slot), va_P D vwCl ([w6 cA a σ] : List va_W).flatten H → va_D A0 ([w6 cA a σ] : List va_W).flatten → va_S A0 H0 H locs → lv_has ls 3 [(0, .ref (a 0)), (1, .int q.1), (2, .int q.2)] → W p l e rmX6_turnsAll s m args below meth c H locs 0 0 Q (F0 m 28 ls [])) → W p l e rmX6_turnsAll s m args below meth c H locs 0 0 Q (F0 m 4 ls []) := by
  obtain ⟨hx, hb, hml, hown, hts, hr, hlk, hKK⟩ := id Z
  have hK := hKK.1
  intro n
  induction n with
  | zero =>
    intro x1 x2 q h
    rw [lp_X6_turnsAll_4] at h
    cases h
  | succ n ih =>
    intro x1 x2 q h H locs ls hP hD hS hl kk
    rw [lp_X6_turnsAll_4] at h
    refine lv_iload_n hx hb dX6_turnsAll_4 rfl (lv_at hl 2 rfl) ?_
    refine lv_aload_n hx hb dX6_turnsAll_5 rfl (lv_at hl 0 rfl) ?_
    refine va_get (D := D) (ci := 6) (v := .ref (a 1)) (C := RX6) (T := TX6) (N := 19) hx hb hts in_X6_turnsAll_X6 hown hK hP 0 rfl rfl 0 (by decide) (hts _ lk_X6_turnsAll_7) (fun _ h9 => h9) rfl dX6_turnsAll_6 ?_
    refine lv_iconst (v := 0) hx hb dX6_turnsAll_9 (by decide) ?_
    refine va_iald hx hb hK hP 1 0 rfl rfl (inB_in (by decide)) dX6_turnsAll_10 ?_
    refine lv_icmp_ge (tgt := 28) hx hb dX6_turnsAll_11 (by decide) (fun hc1 => ?_) (fun hc1 => ?_)
    · rw [if_pos hc1] at h
      have h := Option.some.inj h
      subst h
      exact kk _ _ _ hP hD hS (lv_sub hl [0, 1, 2] rfl)
    · rw [if_neg hc1] at h
      refine lv_iload_n hx hb dX6_turnsAll_14 rfl (lv_at hl 1 rfl) ?_
      refine lv_aload_n hx hb dX6_turnsAll_15 rfl (lv_at hl 0 rfl) ?_
      refine lv_iload_n hx hb dX6_turnsAll_16 rfl (lv_at hl 2 rfl) ?_
      obtain ⟨r2, hr2, h⟩ := bind_inv h
      refine kV (rest := [.int x1]) (st1 := [.int r2, .int x1]) (cr := []) (cs' := [w6 cA a σ]) Z (c_X6_turns l D cA a σ x2 r2 hr2) 1 gX6_turnsAll_X6_turns rfl hdX6_turns ⟨rfl, rfl⟩ ⟨Nat.le_of_ble_eq_true rfl, Nat.le_of_ble_eq_true rfl⟩ ⟨Nat.zero_le _, Nat.zero_le _⟩ hP hD hS hl.1 rfl rfl rfl (Nat.le_of_ble_eq_true rfl) 6 rfl rfl rfl [0] [] [0] rfl rfl rfl rfl rfl dX6_turnsAll_17 (fun H locs hP hD hS => ?_)
      refine lv_iadd hx hb dX6_turnsAll_20 ?_
      refine lv_istore_n (lv' := [(1, .int (x1 + r2)), (0, .ref (a 0)), (2, .int x2)]) hx hb dX6_turnsAll_21 rfl hl (by decide) rfl (fun ls hl => ?_)
      refine lv_iinc (v := x2 + 1) (lv' := [(2, .int (x2 + 1)), (1, .int (x1 + r2)), (0, .ref (a 0))]) hx hb dX6_turnsAll_22 hl (k := 2) rfl rfl (by decide) rfl (fun ls hl => ?_)
      refine lv_goto (tgt := 4) hx hb dX6_turnsAll_25 (by decide) ?_
      exact ih _ _ _ h _ _ _ hP hD hS (lv_sub hl [2, 1, 0] rfl) kk
set_option maxHeartbeats 4000000 in
set_option maxRecDepth 100000 in
theorem c_X6_turnsAll (l : Launch) (D : va_G) (cA : Nat → ClassId) (a : Nat → Nat) (σ : St6) (res : Int32) (h : f_X6_turnsAll σ = some res) : CT l D cA yX6_turnsAll wsX6_turnsAll rmX6_turnsAll [.ref (a 0)] [w6 cA a σ] [w6 cA a σ] (some (.int res)) := by
  refine CT.start (cc := cX6_turnsAll) (maxL := 3) (ret := (some .int)) (by decide) rfl (Nat.le_of_ble_eq_true rfl) ?_
  intro p e s m below meth c Z hP hD hS ls hl
  have Z : Cx p s m _ meth c cX6_turnsAll 3 (some .int) wsX6_turnsAll RX6 D cA := Z
  have hl : lv_has ls 3 [(0, .ref (a 0))] := hl
  obtain ⟨hx, hb, hml, hown, hts, hr, hlk, hKK⟩ := id Z
  have hK := hKK.1
  rw [f_X6_turnsAll] at h
  refine lv_iconst (v := 0) hx hb dX6_turnsAll_0 (by decide) ?_
  refine lv_istore_n (lv' := [(1, .int 0), (0, .ref (a 0))]) hx hb dX6_turnsAll_1 rfl hl (by decide) rfl (fun ls hl => ?_)
  refine lv_iconst (v := 0) hx hb dX6_turnsAll_2 (by decide) ?_
  refine lv_istore_n (lv' := [(2, .int 0), (1, .int 0), (0, .ref (a 0))]) hx hb dX6_turnsAll_3 rfl hl (by decide) rfl (fun ls hl => ?_)
  obtain ⟨q3, hq3, h⟩ := bind_inv h
  refine t_X6_turnsAll_4 Z σ FU _ _ _ hq3 _ _ _ hP hD hS (lv_sub hl [2, 1, 0] rfl) (fun H locs ls hP hD hS hl => ?_)
  refine lv_iload_n hx hb dX6_turnsAll_28 rfl (lv_at hl 1 rfl) ?_
  have h := Option.some.inj h
  subst h
  exact CT.iret Z hP hD hS dX6_turnsAll_29

-- X6.count
theorem lk_X6_count_7 : Cond.fieldLink RX6 7 "KeyedFeelingsModel" "now" "[I" ∈ wsX6_count := by decide +kernel
theorem in_X6_count_X6 : ∀ w ∈ wsX60, w ∈ wsX6_count := by decide +kernel
theorem lk_X6_count_90 : Cond.fieldLink RX6 90 "KeyedFeelingsModel" "undos" "I" ∈ wsX6_count := by decide +kernel
noncomputable def f_X6_count (σ : St6) (x1 : Int32) : Option (Int32) := (if x1 = 0 then (if inB x1 27 = true then some ((p6_now σ) x1.toNatClampNeg) else none) else (if x1 = 1 then (if inB x1 27 = true then some ((p6_now σ) x1.toNatClampNeg) else none) else (if x1 = 2 then ((f_X6_stopped σ).bind (fun r6 => some r6)) else (if x1 = 3 then ((f_X6_turnsAll σ).bind (fun r8 => some r8)) else (if x1 = 4 then ((f_X6_ring σ).bind (fun r10 => some r10)) else (if x1 = 5 then ((f_X6_without σ).bind (fun r12 => some r12)) else (if x1 = 6 then ((f_X6_isWinding σ).bind (fun r14 => (if r14 = 0 then some 0 else some 1))) else (if x1 = 7 then some (p6_undos σ) else some (-1)))))))))
noncomputable def rmX6_count : Room := { frames := 4, cells := 0, slots := 0, locals := 88 }
set_option maxHeartbeats 4000000 in
set_option maxRecDepth 100000 in
theorem c_X6_count (l : Launch) (D : va_G) (cA : Nat → ClassId) (a : Nat → Nat) (σ : St6) (x1 : Int32) (res : Int32) (h : f_X6_count σ x1 = some res) : CT l D cA yX6_count wsX6_count rmX6_count [.ref (a 0), .int x1] [w6 cA a σ] [w6 cA a σ] (some (.int res)) := by
  refine CT.start (cc := cX6_count) (maxL := 2) (ret := (some .int)) (by decide) rfl (Nat.le_of_ble_eq_true rfl) ?_
  intro p e s m below meth c Z hP hD hS ls hl
  have Z : Cx p s m _ meth c cX6_count 2 (some .int) wsX6_count RX6 D cA := Z
  have hl : lv_has ls 2 [(0, .ref (a 0)), (1, .int x1)] := hl
  obtain ⟨hx, hb, hml, hown, hts, hr, hlk, hKK⟩ := id Z
  have hK := hKK.1
  rw [f_X6_count] at h
  refine lv_iload_n hx hb dX6_count_0 rfl (lv_at hl 1 rfl) ?_
  by_cases hc1 : x1 = 0
  · rw [if_pos hc1] at h
    refine lv_tableIn (tgt := 48) (off := 47) hx hb dX6_count_1 (by rw [hc1]; decide) (by rw [hc1]; decide) (by rw [hc1]; rfl) (by decide) ?_
    refine lv_aload_n hx hb dX6_count_48 rfl (lv_at hl 0 rfl) ?_
    refine va_get (D := D) (ci := 6) (v := .ref (a 1)) (C := RX6) (T := TX6) (N := 19) hx hb hts in_X6_count_X6 hown hK hP 0 rfl rfl 0 (by decide) (hts _ lk_X6_count_7) (fun _ h9 => h9) rfl dX6_count_49 ?_
    refine lv_iload_n hx hb dX6_count_52 rfl (lv_at hl 1 rfl) ?_
    obtain ⟨hg2, h⟩ := if_inv h
    refine va_iald hx hb hK hP 1 0 rfl rfl (inB_in hg2) dX6_count_53 ?_
    have h := Option.some.inj h
    subst h
    exact CT.iret Z hP hD hS dX6_count_54
  · rw [if_neg hc1] at h
    by_cases hc3 : x1 = 1
    · rw [if_pos hc3] at h
      refine lv_tableIn (tgt := 48) (off := 47) hx hb dX6_count_1 (by rw [hc3]; decide) (by rw [hc3]; decide) (by rw [hc3]; rfl) (by decide) ?_
      refine lv_aload_n hx hb dX6_count_48 rfl (lv_at hl 0 rfl) ?_
      refine va_get (D := D) (ci := 6) (v := .ref (a 1)) (C := RX6) (T := TX6) (N := 19) hx hb hts in_X6_count_X6 hown hK hP 0 rfl rfl 0 (by decide) (hts _ lk_X6_count_7) (fun _ h9 => h9) rfl dX6_count_49 ?_
      refine lv_iload_n hx hb dX6_count_52 rfl (lv_at hl 1 rfl) ?_
      obtain ⟨hg4, h⟩ := if_inv h
      refine va_iald hx hb hK hP 1 0 rfl rfl (inB_in hg4) dX6_count_53 ?_
      have h := Option.some.inj h
      subst h
      exact CT.iret Z hP hD hS dX6_count_54
    · rw [if_neg hc3] at h
      by_cases hc5 : x1 = 2
      · rw [if_pos hc5] at h
        refine lv_tableIn (tgt := 55) (off := 54) hx hb dX6_count_1 (by rw [hc5]; decide) (by rw [hc5]; decide) (by rw [hc5]; rfl) (by decide) ?_
        refine lv_aload_n hx hb dX6_count_55 rfl (lv_at hl 0 rfl) ?_
        obtain ⟨r6, hr6, h⟩ := bind_inv h
        refine kV (rest := []) (st1 := [.int r6]) (cr := []) (cs' := [w6 cA a σ]) Z (c_X6_stopped l D cA a σ r6 hr6) 0 gX6_count_X6_stopped rfl hdX6_stopped ⟨rfl, rfl⟩ ⟨Nat.le_of_ble_eq_true rfl, Nat.le_of_ble_eq_true rfl⟩ ⟨Nat.zero_le _, Nat.zero_le _⟩ hP hD hS hl.1 rfl rfl rfl (Nat.le_of_ble_eq_true rfl) 6 rfl rfl rfl [0] [] [0] rfl rfl rfl rfl rfl dX6_count_56 (fun H locs hP hD hS => ?_)
        have h := Option.some.inj h
        subst h
        exact CT.iret Z hP hD hS dX6_count_59
      · rw [if_neg hc5] at h
        by_cases hc7 : x1 = 3
        · rw [if_pos hc7] at h
          refine lv_tableIn (tgt := 60) (off := 59) hx hb dX6_count_1 (by rw [hc7]; decide) (by rw [hc7]; decide) (by rw [hc7]; rfl) (by decide) ?_
          refine lv_aload_n hx hb dX6_count_60 rfl (lv_at hl 0 rfl) ?_
          obtain ⟨r8, hr8, h⟩ := bind_inv h
          refine kV (rest := []) (st1 := [.int r8]) (cr := []) (cs' := [w6 cA a σ]) Z (c_X6_turnsAll l D cA a σ r8 hr8) 0 gX6_count_X6_turnsAll rfl hdX6_turnsAll ⟨rfl, rfl⟩ ⟨Nat.le_of_ble_eq_true rfl, Nat.le_of_ble_eq_true rfl⟩ ⟨Nat.zero_le _, Nat.zero_le _⟩ hP hD hS hl.1 rfl rfl rfl (Nat.le_of_ble_eq_true rfl) 6 rfl rfl rfl [0] [] [0] rfl rfl rfl rfl rfl dX6_count_61 (fun H locs hP hD hS => ?_)
          have h := Option.some.inj h
          subst h
          exact CT.iret Z hP hD hS dX6_count_64
        · rw [if_neg hc7] at h
          by_cases hc9 : x1 = 4
          · rw [if_pos hc9] at h
            refine lv_tableIn (tgt := 65) (off := 64) hx hb dX6_count_1 (by rw [hc9]; decide) (by rw [hc9]; decide) (by rw [hc9]; rfl) (by decide) ?_
            refine lv_aload_n hx hb dX6_count_65 rfl (lv_at hl 0 rfl) ?_
            obtain ⟨r10, hr10, h⟩ := bind_inv h
            refine kV (rest := []) (st1 := [.int r10]) (cr := []) (cs' := [w6 cA a σ]) Z (c_X6_ring l D cA a σ r10 hr10) 0 gX6_count_X6_ring rfl hdX6_ring ⟨rfl, rfl⟩ ⟨Nat.le_of_ble_eq_true rfl, Nat.le_of_ble_eq_true rfl⟩ ⟨Nat.zero_le _, Nat.zero_le _⟩ hP hD hS hl.1 rfl rfl rfl (Nat.le_of_ble_eq_true rfl) 6 rfl rfl rfl [0] [] [0] rfl rfl rfl rfl rfl dX6_count_66 (fun H locs hP hD hS => ?_)
            have h := Option.some.inj h
            subst h
            exact CT.iret Z hP hD hS dX6_count_69
          · rw [if_neg hc9] at h
            by_cases hc11 : x1 = 5
            · rw [if_pos hc11] at h
              refine lv_tableIn (tgt := 70) (off := 69) hx hb dX6_count_1 (by rw [hc11]; decide) (by rw [hc11]; decide) (by rw [hc11]; rfl) (by decide) ?_
              refine lv_aload_n hx hb dX6_count_70 rfl (lv_at hl 0 rfl) ?_
              obtain ⟨r12, hr12, h⟩ := bind_inv h
              refine kV (rest := []) (st1 := [.int r12]) (cr := []) (cs' := [w6 cA a σ]) Z (c_X6_without l D cA a σ r12 hr12) 0 gX6_count_X6_without rfl hdX6_without ⟨rfl, rfl⟩ ⟨Nat.le_of_ble_eq_true rfl, Nat.le_of_ble_eq_true rfl⟩ ⟨Nat.zero_le _, Nat.zero_le _⟩ hP hD hS hl.1 rfl rfl rfl (Nat.le_of_ble_eq_true rfl) 6 rfl rfl rfl [0] [] [0] rfl rfl rfl rfl rfl dX6_count_71 (fun H locs hP hD hS => ?_)
              have h := Option.some.inj h
              subst h
              exact CT.iret Z hP hD hS dX6_count_74
            · rw [if_neg hc11] at h
              by_cases hc13 : x1 = 6
              · rw [if_pos hc13] at h
                refine lv_tableIn (tgt := 75) (off := 74) hx hb dX6_count_1 (by rw [hc13]; decide) (by rw [hc13]; decide) (by rw [hc13]; rfl) (by decide) ?_
                refine lv_aload_n hx hb dX6_count_75 rfl (lv_at hl 0 rfl) ?_
                obtain ⟨r14, hr14, h⟩ := bind_inv h
                refine kV (rest := []) (st1 := [.int r14]) (cr := []) (cs' := [w6 cA a σ]) Z (c_X6_isWinding l D cA a σ r14 hr14) 0 gX6_count_X6_isWinding rfl hdX6_isWinding ⟨rfl, rfl⟩ ⟨Nat.le_of_ble_eq_true rfl, Nat.le_of_ble_eq_true rfl⟩ ⟨Nat.zero_le _, Nat.zero_le _⟩ hP hD hS hl.1 rfl rfl rfl (Nat.le_of_ble_eq_true rfl) 6 rfl rfl rfl [0] [] [0] rfl rfl rfl rfl rfl dX6_count_76 (fun H locs hP hD hS => ?_)
                refine lv_if_eq (tgt := 86) hx hb dX6_count_79 (by decide) (fun hc15 => ?_) (fun hc15 => ?_)
                · rw [if_pos hc15] at h
                  refine lv_iconst (v := 0) hx hb dX6_count_86 (by decide) ?_
                  have h := Option.some.inj h
                  subst h
                  exact CT.iret Z hP hD hS dX6_count_87
                · rw [if_neg hc15] at h
                  refine lv_iconst (v := 1) hx hb dX6_count_82 (by decide) ?_
                  refine lv_goto (tgt := 87) hx hb dX6_count_83 (by decide) ?_
                  have h := Option.some.inj h
                  subst h
                  exact CT.iret Z hP hD hS dX6_count_87
              · rw [if_neg hc13] at h
                by_cases hc16 : x1 = 7
                · rw [if_pos hc16] at h
                  refine lv_tableIn (tgt := 88) (off := 87) hx hb dX6_count_1 (by rw [hc16]; decide) (by rw [hc16]; decide) (by rw [hc16]; rfl) (by decide) ?_
                  refine lv_aload_n hx hb dX6_count_88 rfl (lv_at hl 0 rfl) ?_
                  refine va_get (D := D) (ci := 6) (v := .int (p6_undos σ)) (C := RX6) (T := TX6) (N := 19) hx hb hts in_X6_count_X6 hown hK hP 0 rfl rfl 8 (by decide) (hts _ lk_X6_count_90) (fun _ h9 => h9) rfl dX6_count_89 ?_
                  have h := Option.some.inj h
                  subst h
                  exact CT.iret Z hP hD hS dX6_count_92
                · rw [if_neg hc16] at h
                  have hc1n := sw_ne (k := 0) 0 (by decide) hc1
                  have hc3n := sw_ne (k := 1) 1 (by decide) hc3
                  have hc5n := sw_ne (k := 2) 2 (by decide) hc5
                  have hc7n := sw_ne (k := 3) 3 (by decide) hc7
                  have hc9n := sw_ne (k := 4) 4 (by decide) hc9
                  have hc11n := sw_ne (k := 5) 5 (by decide) hc11
                  have hc13n := sw_ne (k := 6) 6 (by decide) hc13
                  have hc16n := sw_ne (k := 7) 7 (by decide) hc16
                  refine lv_tableOut (tgt := 93) hx hb dX6_count_1 (by omega) (by decide) ?_
                  refine lv_iconst (v := (-1)) hx hb dX6_count_93 (by decide) ?_
                  have h := Option.some.inj h
                  subst h
                  exact CT.iret Z hP hD hS dX6_count_94

-- X6.type
theorem ck_X6_type_123 : Cond.constantLong RX6 123 32 ∈ wsX6_type := by decide +kernel
theorem ck_X6_type_125 : Cond.constantLong RX6 125 126 ∈ wsX6_type := by decide +kernel
theorem lk_X6_type_127 : Cond.fieldLink RX6 127 "KeyedFeelingsModel" "typed" "I" ∈ wsX6_type := by decide +kernel
theorem in_X6_type_X6 : ∀ w ∈ wsX60, w ∈ wsX6_type := by decide +kernel
theorem lk_X6_type_16 : Cond.fieldLink RX6 16 "KeyedFeelingsModel" "tape" "[I" ∈ wsX6_type := by decide +kernel
noncomputable def f_X6_type (σ : St6) (x1 : Int32) : Option (Int32 × St6) := ((f_X6_in x1.toInt64 32 126).bind (fun r1 => (if r1 = 0 then some ((-1), σ) else (if (p6_typed σ) = 60 then some ((-3), σ) else (if inB (p6_typed σ) 60 = true then some ((p6_typed σ) + 1, (s6_typed (s6_tape σ (upd (p6_tape σ) ((p6_typed σ).toNatClampNeg) x1)) ((p6_typed σ) + 1))) else none)))))
noncomputable def rmX6_type : Room := { frames := 1, cells := 0, slots := 0, locals := 25 }
set_option maxHeartbeats 4000000 in
set_option maxRecDepth 100000 in
theorem c_X6_type (l : Launch) (D : va_G) (cA : Nat → ClassId) (a : Nat → Nat) (σ : St6) (x1 : Int32) (res : Int32 × St6) (h : f_X6_type σ x1 = some res) : CT l D cA yX6_type wsX6_type rmX6_type [.ref (a 0), .int x1] [w6 cA a σ] [w6 cA a res.2] (some (.int res.1)) := by
  refine CT.start (cc := cX6_type) (maxL := 2) (ret := (some .int)) (by decide) rfl (Nat.le_of_ble_eq_true rfl) ?_
  intro p e s m below meth c Z hP hD hS ls hl
  have Z : Cx p s m _ meth c cX6_type 2 (some .int) wsX6_type RX6 D cA := Z
  have hl : lv_has ls 2 [(0, .ref (a 0)), (1, .int x1)] := hl
  obtain ⟨hx, hb, hml, hown, hts, hr, hlk, hKK⟩ := id Z
  have hK := hKK.1
  rw [f_X6_type] at h
  refine lv_iload_n hx hb dX6_type_0 rfl (lv_at hl 1 rfl) ?_
  refine lv_i2l (v := x1.toInt64) hx hb dX6_type_1 rfl ?_
  refine lv_ldc2 hx hb hown (hts _ ck_X6_type_123) dX6_type_2 ?_
  refine lv_ldc2 hx hb hown (hts _ ck_X6_type_125) dX6_type_5 ?_
  obtain ⟨r1, hr1, h⟩ := bind_inv h
  refine kS (rest := []) (st1 := [.int r1]) (cr := [w6 cA a σ]) (cs' := [w6 cA a σ]) Z (c_X6_in l D cA x1.toInt64 32 126 r1 hr1) 3 gX6_type_X6_in rfl hdX6_in ⟨rfl, rfl⟩ ⟨Nat.le_of_ble_eq_true rfl, Nat.le_of_ble_eq_true rfl⟩ ⟨Nat.zero_le _, Nat.zero_le _⟩ hP hD hS hl.1 rfl rfl rfl (Nat.le_of_ble_eq_true rfl) [] [0] [0] rfl rfl rfl rfl rfl dX6_type_8 (fun H locs hP hD hS => ?_)
  refine lv_if_ne (tgt := 16) hx hb dX6_type_11 (by decide) (fun hc2 => ?_) (fun hc2 => ?_)
  · rw [if_neg hc2] at h
    refine lv_aload_n hx hb dX6_type_16 rfl (lv_at hl 0 rfl) ?_
    refine va_get (D := D) (ci := 6) (v := .int (p6_typed σ)) (C := RX6) (T := TX6) (N := 19) hx hb hts in_X6_type_X6 hown hK hP 0 rfl rfl 3 (by decide) (hts _ lk_X6_type_127) (fun _ h9 => h9) rfl dX6_type_17 ?_
    refine lv_bipush (v := 60) hx hb dX6_type_20 (by decide) ?_
    refine lv_icmp_ne (tgt := 28) hx hb dX6_type_22 (by decide) (fun hc3 => ?_) (fun hc3 => ?_)
    · rw [if_neg hc3] at h
      refine lv_aload_n hx hb dX6_type_28 rfl (lv_at hl 0 rfl) ?_
      refine va_get (D := D) (ci := 6) (v := .ref (a 3)) (C := RX6) (T := TX6) (N := 19) hx hb hts in_X6_type_X6 hown hK hP 0 rfl rfl 2 (by decide) (hts _ lk_X6_type_16) (fun _ h9 => h9) rfl dX6_type_29 ?_
      refine lv_aload_n hx hb dX6_type_32 rfl (lv_at hl 0 rfl) ?_
      refine va_get (D := D) (ci := 6) (v := .int (p6_typed σ)) (C := RX6) (T := TX6) (N := 19) hx hb hts in_X6_type_X6 hown hK hP 0 rfl rfl 3 (by decide) (hts _ lk_X6_type_127) (fun _ h9 => h9) rfl dX6_type_33 ?_
      refine lv_iload_n hx hb dX6_type_36 rfl (lv_at hl 1 rfl) ?_
      obtain ⟨hg4, h⟩ := if_inv h
      refine va_iast hx hb hK hP hD hS 3 0 rfl rfl (inB_in hg4) dX6_type_37 (fun H locs hP hD hS => ?_)
      have hP : va_P D vwCl ([w6 cA a (s6_tape σ (upd (p6_tape σ) ((p6_typed σ).toNatClampNeg) x1))] : List va_W).flatten H := hP
      have hD : va_D _ ([w6 cA a (s6_tape σ (upd (p6_tape σ) ((p6_typed σ).toNatClampNeg) x1))] : List va_W).flatten := hD
      refine lv_aload_n hx hb dX6_type_38 rfl (lv_at hl 0 rfl) ?_
      refine lv_dup hx hb dX6_type_39 rfl ?_
      refine va_get (D := D) (ci := 6) (v := .int (p6_typed σ)) (C := RX6) (T := TX6) (N := 19) hx hb hts in_X6_type_X6 hown hK hP 0 rfl rfl 3 (by decide) (hts _ lk_X6_type_127) (fun _ h9 => h9) rfl dX6_type_40 ?_
      refine lv_iconst (v := 1) hx hb dX6_type_43 (by decide) ?_
      refine lv_iadd hx hb dX6_type_44 ?_
      refine va_put (D := D) (ci := 6) (v := .int ((p6_typed σ) + 1)) (ty := .int) (C := RX6) (T := TX6) (N := 19) hx hb hts in_X6_type_X6 tyX6 tyX6_ok nmX6 hown hK hP hD hS 0 rfl rfl 3 (by decide) (hts _ lk_X6_type_127) (fun _ h9 => h9) rfl (tyX6_ok 3 (by decide)) rfl rfl (Nat.le_of_ble_eq_true rfl) dX6_type_45 (fun H locs hP hD hS => ?_)
      have hP : va_P D vwCl ([w6 cA a (s6_typed (s6_tape σ (upd (p6_tape σ) ((p6_typed σ).toNatClampNeg) x1)) ((p6_typed σ) + 1))] : List va_W).flatten H := hP
      have hD : va_D _ ([w6 cA a (s6_typed (s6_tape σ (upd (p6_tape σ) ((p6_typed σ).toNatClampNeg) x1)) ((p6_typed σ) + 1))] : List va_W).flatten := hD
      refine lv_aload_n hx hb dX6_type_48 rfl (lv_at hl 0 rfl) ?_
      refine va_get (D := D) (ci := 6) (v := .int ((p6_typed σ) + 1)) (C := RX6) (T := TX6) (N := 19) hx hb hts in_X6_type_X6 hown hK hP 0 rfl rfl 3 (by decide) (hts _ lk_X6_type_127) (fun _ h9 => h9) rfl dX6_type_49 ?_
      have h := Option.some.inj h
      subst h
      exact CT.iret Z hP hD hS dX6_type_52
    · rw [if_pos hc3] at h
      refine lv_bipush (v := (-3)) hx hb dX6_type_25 (by decide) ?_
      have h := Option.some.inj h
      subst h
      exact CT.iret Z hP hD hS dX6_type_27
  · rw [if_pos hc2] at h
    refine lv_iconst (v := (-1)) hx hb dX6_type_14 (by decide) ?_
    have h := Option.some.inj h
    subst h
    exact CT.iret Z hP hD hS dX6_type_15

-- X6.here
theorem lk_X6_here_130 : Cond.fieldLink RX6 130 "KeyedFeelingsModel" "place" "I" ∈ wsX6_here := by decide +kernel
theorem in_X6_here_X6 : ∀ w ∈ wsX60, w ∈ wsX6_here := by decide +kernel
theorem lk_X6_here_127 : Cond.fieldLink RX6 127 "KeyedFeelingsModel" "typed" "I" ∈ wsX6_here := by decide +kernel
theorem lk_X6_here_16 : Cond.fieldLink RX6 16 "KeyedFeelingsModel" "tape" "[I" ∈ wsX6_here := by decide +kernel
noncomputable def lp_X6_here_0  : Nat → St6 → Option (St6)
  | 0, _ => none
  | n + 1, σ => (if (p6_typed σ) ≤ (p6_place σ) then some σ else (if inB (p6_place σ) 60 = true then (if ((p6_tape σ) (p6_place σ).toNatClampNeg) = 32 then lp_X6_here_0  n (s6_place σ ((p6_place σ) + 1)) else some σ) else none))
noncomputable def f_X6_here (σ : St6) : Option (Int32 × St6) := ((lp_X6_here_0  FU σ).bind (fun q4 => (if (p6_typed q4) ≤ (p6_place q4) then some (0, q4) else (if inB (p6_place q4) 60 = true then some ((p6_tape q4) (p6_place q4).toNatClampNeg, q4) else none))))
noncomputable def rmX6_here : Room := { frames := 0, cells := 0, slots := 0, locals := 0 }
set_option maxHeartbeats 4000000 in
set_option maxRecDepth 100000 in
theorem t_X6_here_0 {p : Program} {l : Launch} {e : Env} {s : State} {m : MethodId} {args : Array Value} {below : List Frame} {meth : Method} {c : Code} {D : va_G} {cA : Nat → ClassId} {A0 : Nat → Prop} {H0 : Heap} {a : Nat → Nat} (Z : Cx p s m args meth c cX6_here 1 (some .int) wsX6_here RX6 D cA)  {Q : State → Prop} : ∀ (n : Nat) (σ : St6) (q : St6), lp_X6_here_0  n σ = some q → ∀ (H : Heap) (locs : List Loc) (ls : Array Slot), va_P D vwCl ([w6 cA a σ] : List va_W).flatten H → va_D A0 ([w6 cA a σ] : List va_W).flatten → va_S A0 H0 H locs → lv_has ls 1 [(0, .ref (a 0))] → (∀ (H : Heap) (locs : List Loc) (ls : Array Slot), va_P D vwCl ([w6 cA a q] : List va_W).flatten H → va_D A0 ([w6 cA a q] : List va_W).flatten → va_S A0 H0 H locs → lv_has ls 1 [(0, .ref (a 0))] → W p l e rmX6_here s m args below meth c H locs 0 0 Q (F0 m 38 ls [])) → W p l e rmX6_here s m args below meth c H locs 0 0 Q (F0 m 0 ls []) := by
  obtain ⟨hx, hb, hml, hown, hts, hr, hlk, hKK⟩ := id Z
  have hK := hKK.1
  intro n
  induction n with
  | zero =>
    intro σ q h
    rw [lp_X6_here_0] at h
    cases h
  | succ n ih =>
    intro σ q h H locs ls hP hD hS hl kk
    rw [lp_X6_here_0] at h
    refine lv_aload_n hx hb dX6_here_0 rfl (lv_at hl 0 rfl) ?_
    refine va_get (D := D) (ci := 6) (v := .int (p6_place σ)) (C := RX6) (T := TX6) (N := 19) hx hb hts in_X6_here_X6 hown hK hP 0 rfl rfl 4 (by decide) (hts _ lk_X6_here_130) (fun _ h9 => h9) rfl dX6_here_1 ?_
    refine lv_aload_n hx hb dX6_here_4 rfl (lv_at hl 0 rfl) ?_
    refine va_get (D := D) (ci := 6) (v := .int (p6_typed σ)) (C := RX6) (T := TX6) (N := 19) hx hb hts in_X6_here_X6 hown hK hP 0 rfl rfl 3 (by decide) (hts _ lk_X6_here_127) (fun _ h9 => h9) rfl dX6_here_5 ?_
    refine lv_icmp_ge (tgt := 38) hx hb dX6_here_8 (by decide) (fun hc1 => ?_) (fun hc1 => ?_)
    · rw [if_pos hc1] at h
      have h := Option.some.inj h
      subst h
      exact kk _ _ _ hP hD hS (lv_sub hl [0] rfl)
    · rw [if_neg hc1] at h
      refine lv_aload_n hx hb dX6_here_11 rfl (lv_at hl 0 rfl) ?_
      refine va_get (D := D) (ci := 6) (v := .ref (a 3)) (C := RX6) (T := TX6) (N := 19) hx hb hts in_X6_here_X6 hown hK hP 0 rfl rfl 2 (by decide) (hts _ lk_X6_here_16) (fun _ h9 => h9) rfl dX6_here_12 ?_
      refine lv_aload_n hx hb dX6_here_15 rfl (lv_at hl 0 rfl) ?_
      refine va_get (D := D) (ci := 6) (v := .int (p6_place σ)) (C := RX6) (T := TX6) (N := 19) hx hb hts in_X6_here_X6 hown hK hP 0 rfl rfl 4 (by decide) (hts _ lk_X6_here_130) (fun _ h9 => h9) rfl dX6_here_16 ?_
      obtain ⟨hg2, h⟩ := if_inv h
      refine va_iald hx hb hK hP 3 0 rfl rfl (inB_in hg2) dX6_here_19 ?_
      refine lv_bipush (v := 32) hx hb dX6_here_20 (by decide) ?_
      refine lv_icmp_ne (tgt := 38) hx hb dX6_here_22 (by decide) (fun hc3 => ?_) (fun hc3 => ?_)
      · rw [if_neg hc3] at h
        have h := Option.some.inj h
        subst h
        exact kk _ _ _ hP hD hS (lv_sub hl [0] rfl)
      · rw [if_pos hc3] at h
        refine lv_aload_n hx hb dX6_here_25 rfl (lv_at hl 0 rfl) ?_
        refine lv_dup hx hb dX6_here_26 rfl ?_
        refine va_get (D := D) (ci := 6) (v := .int (p6_place σ)) (C := RX6) (T := TX6) (N := 19) hx hb hts in_X6_here_X6 hown hK hP 0 rfl rfl 4 (by decide) (hts _ lk_X6_here_130) (fun _ h9 => h9) rfl dX6_here_27 ?_
        refine lv_iconst (v := 1) hx hb dX6_here_30 (by decide) ?_
        refine lv_iadd hx hb dX6_here_31 ?_
        refine va_put (D := D) (ci := 6) (v := .int ((p6_place σ) + 1)) (ty := .int) (C := RX6) (T := TX6) (N := 19) hx hb hts in_X6_here_X6 tyX6 tyX6_ok nmX6 hown hK hP hD hS 0 rfl rfl 4 (by decide) (hts _ lk_X6_here_130) (fun _ h9 => h9) rfl (tyX6_ok 4 (by decide)) rfl rfl (Nat.le_of_ble_eq_true rfl) dX6_here_32 (fun H locs hP hD hS => ?_)
        have hP : va_P D vwCl ([w6 cA a (s6_place σ ((p6_place σ) + 1))] : List va_W).flatten H := hP
        have hD : va_D _ ([w6 cA a (s6_place σ ((p6_place σ) + 1))] : List va_W).flatten := hD
        refine lv_goto (tgt := 0) hx hb dX6_here_35 (by decide) ?_
        exact ih _ _ h _ _ _ hP hD hS (lv_sub hl [0] rfl) kk
set_option maxHeartbeats 4000000 in
set_option maxRecDepth 100000 in
theorem c_X6_here (l : Launch) (D : va_G) (cA : Nat → ClassId) (a : Nat → Nat) (σ : St6) (res : Int32 × St6) (h : f_X6_here σ = some res) : CT l D cA yX6_here wsX6_here rmX6_here [.ref (a 0)] [w6 cA a σ] [w6 cA a res.2] (some (.int res.1)) := by
  refine CT.start (cc := cX6_here) (maxL := 1) (ret := (some .int)) (by decide) rfl (Nat.le_of_ble_eq_true rfl) ?_
  intro p e s m below meth c Z hP hD hS ls hl
  have Z : Cx p s m _ meth c cX6_here 1 (some .int) wsX6_here RX6 D cA := Z
  have hl : lv_has ls 1 [(0, .ref (a 0))] := hl
  obtain ⟨hx, hb, hml, hown, hts, hr, hlk, hKK⟩ := id Z
  have hK := hKK.1
  rw [f_X6_here] at h
  obtain ⟨q4, hq4, h⟩ := bind_inv h
  refine t_X6_here_0 Z  FU _ _ hq4 _ _ _ hP hD hS (lv_sub hl [0] rfl) (fun H locs ls hP hD hS hl => ?_)
  refine lv_aload_n hx hb dX6_here_38 rfl (lv_at hl 0 rfl) ?_
  refine va_get (D := D) (ci := 6) (v := .int (p6_place q4)) (C := RX6) (T := TX6) (N := 19) hx hb hts in_X6_here_X6 hown hK hP 0 rfl rfl 4 (by decide) (hts _ lk_X6_here_130) (fun _ h9 => h9) rfl dX6_here_39 ?_
  refine lv_aload_n hx hb dX6_here_42 rfl (lv_at hl 0 rfl) ?_
  refine va_get (D := D) (ci := 6) (v := .int (p6_typed q4)) (C := RX6) (T := TX6) (N := 19) hx hb hts in_X6_here_X6 hown hK hP 0 rfl rfl 3 (by decide) (hts _ lk_X6_here_127) (fun _ h9 => h9) rfl dX6_here_43 ?_
  refine lv_icmp_ge (tgt := 61) hx hb dX6_here_46 (by decide) (fun hc5 => ?_) (fun hc5 => ?_)
  · rw [if_pos hc5] at h
    refine lv_iconst (v := 0) hx hb dX6_here_61 (by decide) ?_
    have h := Option.some.inj h
    subst h
    exact CT.iret Z hP hD hS dX6_here_62
  · rw [if_neg hc5] at h
    refine lv_aload_n hx hb dX6_here_49 rfl (lv_at hl 0 rfl) ?_
    refine va_get (D := D) (ci := 6) (v := .ref (a 3)) (C := RX6) (T := TX6) (N := 19) hx hb hts in_X6_here_X6 hown hK hP 0 rfl rfl 2 (by decide) (hts _ lk_X6_here_16) (fun _ h9 => h9) rfl dX6_here_50 ?_
    refine lv_aload_n hx hb dX6_here_53 rfl (lv_at hl 0 rfl) ?_
    refine va_get (D := D) (ci := 6) (v := .int (p6_place q4)) (C := RX6) (T := TX6) (N := 19) hx hb hts in_X6_here_X6 hown hK hP 0 rfl rfl 4 (by decide) (hts _ lk_X6_here_130) (fun _ h9 => h9) rfl dX6_here_54 ?_
    obtain ⟨hg6, h⟩ := if_inv h
    refine va_iald hx hb hK hP 3 0 rfl rfl (inB_in hg6) dX6_here_57 ?_
    refine lv_goto (tgt := 62) hx hb dX6_here_58 (by decide) ?_
    have h := Option.some.inj h
    subst h
    exact CT.iret Z hP hD hS dX6_here_62

-- X6.must
theorem lk_X6_must_133 : Cond.fieldLink RX6 133 "KeyedFeelingsModel" "isFault" "Z" ∈ wsX6_must := by decide +kernel
theorem in_X6_must_X6 : ∀ w ∈ wsX60, w ∈ wsX6_must := by decide +kernel
theorem lk_X6_must_130 : Cond.fieldLink RX6 130 "KeyedFeelingsModel" "place" "I" ∈ wsX6_must := by decide +kernel
noncomputable def f_X6_must (σ : St6) (x1 : Int32) : Option (St6) := (if (p6_isFault σ) = 0 then (if x1 = 0 then some (s6_isFault (s6_place σ ((p6_place σ) + 0)) 1) else some (s6_isFault (s6_place σ ((p6_place σ) + 1)) 0)) else some (s6_isFault (s6_place σ ((p6_place σ) + 0)) 1))
noncomputable def rmX6_must : Room := { frames := 0, cells := 0, slots := 0, locals := 0 }
set_option maxHeartbeats 4000000 in
set_option maxRecDepth 100000 in
theorem c_X6_must (l : Launch) (D : va_G) (cA : Nat → ClassId) (a : Nat → Nat) (σ : St6) (x1 : Int32) (res : St6) (h : f_X6_must σ x1 = some res) : CT l D cA yX6_must wsX6_must rmX6_must [.ref (a 0), .int x1] [w6 cA a σ] [w6 cA a res] none := by
  refine CT.start (cc := cX6_must) (maxL := 2) (ret := none) (by decide) rfl (Nat.le_of_ble_eq_true rfl) ?_
  intro p e s m below meth c Z hP hD hS ls hl
  have Z : Cx p s m _ meth c cX6_must 2 none wsX6_must RX6 D cA := Z
  have hl : lv_has ls 2 [(0, .ref (a 0)), (1, .int x1)] := hl
  obtain ⟨hx, hb, hml, hown, hts, hr, hlk, hKK⟩ := id Z
  have hK := hKK.1
  rw [f_X6_must] at h
  refine lv_aload_n hx hb dX6_must_0 rfl (lv_at hl 0 rfl) ?_
  refine lv_aload_n hx hb dX6_must_1 rfl (lv_at hl 0 rfl) ?_
  refine va_get (D := D) (ci := 6) (v := .int (p6_isFault σ)) (C := RX6) (T := TX6) (N := 19) hx hb hts in_X6_must_X6 hown hK hP 0 rfl rfl 5 (by decide) (hts _ lk_X6_must_133) (fun _ h9 => h9) rfl dX6_must_2 ?_
  refine lv_if_ne (tgt := 12) hx hb dX6_must_5 (by decide) (fun hc1 => ?_) (fun hc1 => ?_)
  · rw [if_neg hc1] at h
    refine lv_iconst (v := 1) hx hb dX6_must_12 (by decide) ?_
    refine lv_goto (tgt := 17) hx hb dX6_must_13 (by decide) ?_
    refine va_put (D := D) (ci := 6) (v := .int 1) (ty := .boolean) (C := RX6) (T := TX6) (N := 19) hx hb hts in_X6_must_X6 tyX6 tyX6_ok nmX6 hown hK hP hD hS 0 rfl rfl 5 (by decide) (hts _ lk_X6_must_133) (fun _ h9 => h9) rfl (tyX6_ok 5 (by decide)) (nar_bool (by decide)) (fit_bool (by decide)) (Nat.le_of_ble_eq_true rfl) dX6_must_17 (fun H locs hP hD hS => ?_)
    have hP : va_P D vwCl ([w6 cA a (s6_isFault σ 1)] : List va_W).flatten H := hP
    have hD : va_D _ ([w6 cA a (s6_isFault σ 1)] : List va_W).flatten := hD
    refine lv_aload_n hx hb dX6_must_20 rfl (lv_at hl 0 rfl) ?_
    refine lv_dup hx hb dX6_must_21 rfl ?_
    refine va_get (D := D) (ci := 6) (v := .int (p6_place σ)) (C := RX6) (T := TX6) (N := 19) hx hb hts in_X6_must_X6 hown hK hP 0 rfl rfl 4 (by decide) (hts _ lk_X6_must_130) (fun _ h9 => h9) rfl dX6_must_22 ?_
    refine lv_aload_n hx hb dX6_must_25 rfl (lv_at hl 0 rfl) ?_
    refine va_get (D := D) (ci := 6) (v := .int 1) (C := RX6) (T := TX6) (N := 19) hx hb hts in_X6_must_X6 hown hK hP 0 rfl rfl 5 (by decide) (hts _ lk_X6_must_133) (fun _ h9 => h9) rfl dX6_must_26 ?_
    refine lv_if_eq (tgt := 36) hx hb dX6_must_29 (by decide) (fun hc2 => ?_) (fun hc2 => ?_)
    · exact absurd hc2 (by decide)
    · refine lv_iconst (v := 0) hx hb dX6_must_32 (by decide) ?_
      refine lv_goto (tgt := 37) hx hb dX6_must_33 (by decide) ?_
      refine lv_iadd hx hb dX6_must_37 ?_
      refine va_put (D := D) (ci := 6) (v := .int ((p6_place σ) + 0)) (ty := .int) (C := RX6) (T := TX6) (N := 19) hx hb hts in_X6_must_X6 tyX6 tyX6_ok nmX6 hown hK hP hD hS 0 rfl rfl 4 (by decide) (hts _ lk_X6_must_130) (fun _ h9 => h9) rfl (tyX6_ok 4 (by decide)) rfl rfl (Nat.le_of_ble_eq_true rfl) dX6_must_38 (fun H locs hP hD hS => ?_)
      have hP : va_P D vwCl ([w6 cA a (s6_isFault (s6_place σ ((p6_place σ) + 0)) 1)] : List va_W).flatten H := hP
      have hD : va_D _ ([w6 cA a (s6_isFault (s6_place σ ((p6_place σ) + 0)) 1)] : List va_W).flatten := hD
      have h := Option.some.inj h
      subst h
      exact CT.vret Z hP hD hS dX6_must_41
  · rw [if_pos hc1] at h
    refine lv_iload_n hx hb dX6_must_8 rfl (lv_at hl 1 rfl) ?_
    refine lv_if_ne (tgt := 16) hx hb dX6_must_9 (by decide) (fun hc3 => ?_) (fun hc3 => ?_)
    · rw [if_neg hc3] at h
      refine lv_iconst (v := 0) hx hb dX6_must_16 (by decide) ?_
      refine va_put (D := D) (ci := 6) (v := .int 0) (ty := .boolean) (C := RX6) (T := TX6) (N := 19) hx hb hts in_X6_must_X6 tyX6 tyX6_ok nmX6 hown hK hP hD hS 0 rfl rfl 5 (by decide) (hts _ lk_X6_must_133) (fun _ h9 => h9) rfl (tyX6_ok 5 (by decide)) (nar_bool (by decide)) (fit_bool (by decide)) (Nat.le_of_ble_eq_true rfl) dX6_must_17 (fun H locs hP hD hS => ?_)
      have hP : va_P D vwCl ([w6 cA a (s6_isFault σ 0)] : List va_W).flatten H := hP
      have hD : va_D _ ([w6 cA a (s6_isFault σ 0)] : List va_W).flatten := hD
      refine lv_aload_n hx hb dX6_must_20 rfl (lv_at hl 0 rfl) ?_
      refine lv_dup hx hb dX6_must_21 rfl ?_
      refine va_get (D := D) (ci := 6) (v := .int (p6_place σ)) (C := RX6) (T := TX6) (N := 19) hx hb hts in_X6_must_X6 hown hK hP 0 rfl rfl 4 (by decide) (hts _ lk_X6_must_130) (fun _ h9 => h9) rfl dX6_must_22 ?_
      refine lv_aload_n hx hb dX6_must_25 rfl (lv_at hl 0 rfl) ?_
      refine va_get (D := D) (ci := 6) (v := .int 0) (C := RX6) (T := TX6) (N := 19) hx hb hts in_X6_must_X6 hown hK hP 0 rfl rfl 5 (by decide) (hts _ lk_X6_must_133) (fun _ h9 => h9) rfl dX6_must_26 ?_
      refine lv_if_eq (tgt := 36) hx hb dX6_must_29 (by decide) (fun hc4 => ?_) (fun hc4 => ?_)
      · refine lv_iconst (v := 1) hx hb dX6_must_36 (by decide) ?_
        refine lv_iadd hx hb dX6_must_37 ?_
        refine va_put (D := D) (ci := 6) (v := .int ((p6_place σ) + 1)) (ty := .int) (C := RX6) (T := TX6) (N := 19) hx hb hts in_X6_must_X6 tyX6 tyX6_ok nmX6 hown hK hP hD hS 0 rfl rfl 4 (by decide) (hts _ lk_X6_must_130) (fun _ h9 => h9) rfl (tyX6_ok 4 (by decide)) rfl rfl (Nat.le_of_ble_eq_true rfl) dX6_must_38 (fun H locs hP hD hS => ?_)
        have hP : va_P D vwCl ([w6 cA a (s6_isFault (s6_place σ ((p6_place σ) + 1)) 0)] : List va_W).flatten H := hP
        have hD : va_D _ ([w6 cA a (s6_isFault (s6_place σ ((p6_place σ) + 1)) 0)] : List va_W).flatten := hD
        have h := Option.some.inj h
        subst h
        exact CT.vret Z hP hD hS dX6_must_41
      · exact absurd hc4 (by decide)
    · rw [if_pos hc3] at h
      refine lv_iconst (v := 1) hx hb dX6_must_12 (by decide) ?_
      refine lv_goto (tgt := 17) hx hb dX6_must_13 (by decide) ?_
      refine va_put (D := D) (ci := 6) (v := .int 1) (ty := .boolean) (C := RX6) (T := TX6) (N := 19) hx hb hts in_X6_must_X6 tyX6 tyX6_ok nmX6 hown hK hP hD hS 0 rfl rfl 5 (by decide) (hts _ lk_X6_must_133) (fun _ h9 => h9) rfl (tyX6_ok 5 (by decide)) (nar_bool (by decide)) (fit_bool (by decide)) (Nat.le_of_ble_eq_true rfl) dX6_must_17 (fun H locs hP hD hS => ?_)
      have hP : va_P D vwCl ([w6 cA a (s6_isFault σ 1)] : List va_W).flatten H := hP
      have hD : va_D _ ([w6 cA a (s6_isFault σ 1)] : List va_W).flatten := hD
      refine lv_aload_n hx hb dX6_must_20 rfl (lv_at hl 0 rfl) ?_
      refine lv_dup hx hb dX6_must_21 rfl ?_
      refine va_get (D := D) (ci := 6) (v := .int (p6_place σ)) (C := RX6) (T := TX6) (N := 19) hx hb hts in_X6_must_X6 hown hK hP 0 rfl rfl 4 (by decide) (hts _ lk_X6_must_130) (fun _ h9 => h9) rfl dX6_must_22 ?_
      refine lv_aload_n hx hb dX6_must_25 rfl (lv_at hl 0 rfl) ?_
      refine va_get (D := D) (ci := 6) (v := .int 1) (C := RX6) (T := TX6) (N := 19) hx hb hts in_X6_must_X6 hown hK hP 0 rfl rfl 5 (by decide) (hts _ lk_X6_must_133) (fun _ h9 => h9) rfl dX6_must_26 ?_
      refine lv_if_eq (tgt := 36) hx hb dX6_must_29 (by decide) (fun hc5 => ?_) (fun hc5 => ?_)
      · exact absurd hc5 (by decide)
      · refine lv_iconst (v := 0) hx hb dX6_must_32 (by decide) ?_
        refine lv_goto (tgt := 37) hx hb dX6_must_33 (by decide) ?_
        refine lv_iadd hx hb dX6_must_37 ?_
        refine va_put (D := D) (ci := 6) (v := .int ((p6_place σ) + 0)) (ty := .int) (C := RX6) (T := TX6) (N := 19) hx hb hts in_X6_must_X6 tyX6 tyX6_ok nmX6 hown hK hP hD hS 0 rfl rfl 4 (by decide) (hts _ lk_X6_must_130) (fun _ h9 => h9) rfl (tyX6_ok 4 (by decide)) rfl rfl (Nat.le_of_ble_eq_true rfl) dX6_must_38 (fun H locs hP hD hS => ?_)
        have hP : va_P D vwCl ([w6 cA a (s6_isFault (s6_place σ ((p6_place σ) + 0)) 1)] : List va_W).flatten H := hP
        have hD : va_D _ ([w6 cA a (s6_isFault (s6_place σ ((p6_place σ) + 0)) 1)] : List va_W).flatten := hD
        have h := Option.some.inj h
        subst h
        exact CT.vret Z hP hD hS dX6_must_41

-- X6.number
theorem lk_X6_number_133 : Cond.fieldLink RX6 133 "KeyedFeelingsModel" "isFault" "Z" ∈ wsX6_number := by decide +kernel
theorem in_X6_number_X6 : ∀ w ∈ wsX60, w ∈ wsX6_number := by decide +kernel
theorem lk_X6_number_130 : Cond.fieldLink RX6 130 "KeyedFeelingsModel" "place" "I" ∈ wsX6_number := by decide +kernel
theorem lk_X6_number_127 : Cond.fieldLink RX6 127 "KeyedFeelingsModel" "typed" "I" ∈ wsX6_number := by decide +kernel
theorem lk_X6_number_16 : Cond.fieldLink RX6 16 "KeyedFeelingsModel" "tape" "[I" ∈ wsX6_number := by decide +kernel
theorem ck_X6_number_140 : Cond.constantLong RX6 140 48 ∈ wsX6_number := by decide +kernel
theorem ck_X6_number_142 : Cond.constantLong RX6 142 57 ∈ wsX6_number := by decide +kernel
noncomputable def lp_X6_number_55 (x1 : Int32) (x2 : Int32) (x4 : Int32) : Nat → Int32 → St6 → Option (Int32 × St6)
  | 0, _, _ => none
  | n + 1, x5, σ => (if (p6_isFault σ) = 0 then (if (p6_typed σ) ≤ (p6_place σ) then some (x5, σ) else (if 2 ≤ ((p6_place σ) - x4) then some (x5, σ) else (if inB (p6_place σ) 60 = true then ((f_X6_in (((p6_tape σ) (p6_place σ).toNatClampNeg).toInt64) 48 57).bind (fun r8 => (if r8 = 0 then some (x5, σ) else (if inB (p6_place σ) 60 = true then lp_X6_number_55 x1 x2 x4 n (((10 * x5) + ((p6_tape σ) (p6_place σ).toNatClampNeg)) - 48) (s6_place σ ((p6_place σ) + 1)) else none)))) else none))) else some (x5, σ))
noncomputable def f_X6_number (σ : St6) (x1 : Int32) (x2 : Int32) : Option (Int32 × St6) := (if (p6_isFault σ) = 0 then ((f_X6_here σ).bind (fun r2 => (if (p6_isFault r2.2) = 0 then ((f_X6_in r2.1.toInt64 48 57).bind (fun r15 => (if r15 = 0 then ((lp_X6_number_55 x1 x2 (p6_place r2.2) FU 0 (s6_isFault r2.2 1)).bind (fun q21 => (if (p6_isFault q21.2) = 0 then ((f_X6_in q21.1.toInt64 x1.toInt64 x2.toInt64).bind (fun r23 => (if r23 = 0 then some (q21.1, (s6_isFault (s6_place q21.2 (p6_place r2.2)) 1)) else some (q21.1, q21.2)))) else some (q21.1, q21.2)))) else ((lp_X6_number_55 x1 x2 (p6_place r2.2) FU 0 (s6_isFault r2.2 0)).bind (fun q17 => (if (p6_isFault q17.2) = 0 then ((f_X6_in q17.1.toInt64 x1.toInt64 x2.toInt64).bind (fun r19 => (if r19 = 0 then some (q17.1, (s6_isFault (s6_place q17.2 (p6_place r2.2)) 1)) else some (q17.1, q17.2)))) else some (q17.1, q17.2))))))) else ((lp_X6_number_55 x1 x2 (p6_place r2.2) FU 0 (s6_isFault r2.2 1)).bind (fun q11 => (if (p6_isFault q11.2) = 0 then ((f_X6_in q11.1.toInt64 x1.toInt64 x2.toInt64).bind (fun r13 => (if r13 = 0 then some (q11.1, (s6_isFault (s6_place q11.2 (p6_place r2.2)) 1)) else some (q11.1, q11.2)))) else some (q11.1, q11.2))))))) else (if (p6_isFault σ) = 0 then ((f_X6_in ((0 : Int32).toInt64) 48 57).bind (fun r30 => (if r30 = 0 then ((lp_X6_number_55 x1 x2 (p6_place σ) FU 0 (s6_isFault σ 1)).bind (fun q36 => (if (p6_isFault q36.2) = 0 then ((f_X6_in q36.1.toInt64 x1.toInt64 x2.toInt64).bind (fun r38 => (if r38 = 0 then some (q36.1, (s6_isFault (s6_place q36.2 (p6_place σ)) 1)) else some (q36.1, q36.2)))) else some (q36.1, q36.2)))) else ((lp_X6_number_55 x1 x2 (p6_place σ) FU 0 (s6_isFault σ 0)).bind (fun q32 => (if (p6_isFault q32.2) = 0 then ((f_X6_in q32.1.toInt64 x1.toInt64 x2.toInt64).bind (fun r34 => (if r34 = 0 then some (q32.1, (s6_isFault (s6_place q32.2 (p6_place σ)) 1)) else some (q32.1, q32.2)))) else some (q32.1, q32.2))))))) else ((lp_X6_number_55 x1 x2 (p6_place σ) FU 0 (s6_isFault σ 1)).bind (fun q26 => (if (p6_isFault q26.2) = 0 then ((f_X6_in q26.1.toInt64 x1.toInt64 x2.toInt64).bind (fun r28 => (if r28 = 0 then some (q26.1, (s6_isFault (s6_place q26.2 (p6_place σ)) 1)) else some (q26.1, q26.2)))) else some (q26.1, q26.2))))))
noncomputable def rmX6_number : Room := { frames := 1, cells := 0, slots := 0, locals := 25 }
set_option maxHeartbeats 4000000 in
set_option maxRecDepth 100000 in
theorem t_X6_number_55 {p : Program} {l : Launch} {e : Env} {s : State} {m : MethodId} {args : Array Value} {below : List Frame} {meth : Method} {c : Code} {D : va_G} {cA : Nat → ClassId} {A0 : Nat → Prop} {H0 : Heap} {a : Nat → Nat} (Z : Cx p s m args meth c cX6_number 6 (some .int) wsX6_number RX6 D cA) (x1 : Int32) (x2 : Int32) (x4 : Int32) {Q : State → Prop} : ∀ (n : Nat) (x5 : Int32) (σ : St6) (q : Int32 × St6), lp_X6_number_55 x1 x2 x4 n x5 σ = some q → ∀ (H : Heap) (locs : List Loc) (ls : Array Slot), va_P D vwCl ([w6 cA a σ] : List va_W).flatten H → va_D A0 ([w6 cA a σ] : List va_W).flatten → va_S A0 H0 H locs → lv_has ls 6 [(0, .ref (a 0)), (1, .int x1), (2, .int x2), (4, .int x4), (5, .int x5)] → (∀ (H : Heap) (locs : List Loc) (ls : Array Slot), va_P D vwCl ([w6 cA a q.2] : List va_W).flatten H → va_D A0 ([w6 cA a q.2] : List va_W).flatten → va_S A0 H0 H locs → lv_has ls 6 [(0, .ref (a 0)), (1, .int x1), (2, .int x2), (4, .int x4), (5, .int q.1)] → W p l e rmX6_number s m args below meth c H locs 0 0 Q (F0 m 139 ls [])) → W p l e rmX6_number s m args below meth c H locs 0 0 Q (F0 m 55 ls []) := by
  obtain ⟨hx, hb, hml, hown, hts, hr, hlk, hKK⟩ := id Z
  have hK := hKK.1
  intro n
  induction n with
  | zero =>
    intro x5 σ q h
    rw [lp_X6_number_55] at h
    cases h
  | succ n ih =>
    intro x5 σ q h H locs ls hP hD hS hl kk
    rw [lp_X6_number_55] at h
    refine lv_aload_n hx hb dX6_number_55 rfl (lv_at hl 0 rfl) ?_
    refine va_get (D := D) (ci := 6) (v := .int (p6_isFault σ)) (C := RX6) (T := TX6) (N := 19) hx hb hts in_X6_number_X6 hown hK hP 0 rfl rfl 5 (by decide) (hts _ lk_X6_number_133) (fun _ h9 => h9) rfl dX6_number_56 ?_
    refine lv_if_ne (tgt := 139) hx hb dX6_number_59 (by decide) (fun hc4 => ?_) (fun hc4 => ?_)
    · rw [if_neg hc4] at h
      have h := Option.some.inj h
      subst h
      exact kk _ _ _ hP hD hS (lv_sub hl [0, 1, 2, 3, 4] rfl)
    · rw [if_pos hc4] at h
      refine lv_aload_n hx hb dX6_number_62 rfl (lv_at hl 0 rfl) ?_
      refine va_get (D := D) (ci := 6) (v := .int (p6_place σ)) (C := RX6) (T := TX6) (N := 19) hx hb hts in_X6_number_X6 hown hK hP 0 rfl rfl 4 (by decide) (hts _ lk_X6_number_130) (fun _ h9 => h9) rfl dX6_number_63 ?_
      refine lv_aload_n hx hb dX6_number_66 rfl (lv_at hl 0 rfl) ?_
      refine va_get (D := D) (ci := 6) (v := .int (p6_typed σ)) (C := RX6) (T := TX6) (N := 19) hx hb hts in_X6_number_X6 hown hK hP 0 rfl rfl 3 (by decide) (hts _ lk_X6_number_127) (fun _ h9 => h9) rfl dX6_number_67 ?_
      refine lv_icmp_ge (tgt := 139) hx hb dX6_number_70 (by decide) (fun hc5 => ?_) (fun hc5 => ?_)
      · rw [if_pos hc5] at h
        have h := Option.some.inj h
        subst h
        exact kk _ _ _ hP hD hS (lv_sub hl [0, 1, 2, 3, 4] rfl)
      · rw [if_neg hc5] at h
        refine lv_aload_n hx hb dX6_number_73 rfl (lv_at hl 0 rfl) ?_
        refine va_get (D := D) (ci := 6) (v := .int (p6_place σ)) (C := RX6) (T := TX6) (N := 19) hx hb hts in_X6_number_X6 hown hK hP 0 rfl rfl 4 (by decide) (hts _ lk_X6_number_130) (fun _ h9 => h9) rfl dX6_number_74 ?_
        refine lv_iload hx hb dX6_number_77 (lv_at hl 3 rfl) ?_
        refine lv_isub hx hb dX6_number_79 ?_
        refine lv_iconst (v := 2) hx hb dX6_number_80 (by decide) ?_
        refine lv_icmp_ge (tgt := 139) hx hb dX6_number_81 (by decide) (fun hc6 => ?_) (fun hc6 => ?_)
        · rw [if_pos hc6] at h
          have h := Option.some.inj h
          subst h
          exact kk _ _ _ hP hD hS (lv_sub hl [0, 1, 2, 3, 4] rfl)
        · rw [if_neg hc6] at h
          refine lv_aload_n hx hb dX6_number_84 rfl (lv_at hl 0 rfl) ?_
          refine va_get (D := D) (ci := 6) (v := .ref (a 3)) (C := RX6) (T := TX6) (N := 19) hx hb hts in_X6_number_X6 hown hK hP 0 rfl rfl 2 (by decide) (hts _ lk_X6_number_16) (fun _ h9 => h9) rfl dX6_number_85 ?_
          refine lv_aload_n hx hb dX6_number_88 rfl (lv_at hl 0 rfl) ?_
          refine va_get (D := D) (ci := 6) (v := .int (p6_place σ)) (C := RX6) (T := TX6) (N := 19) hx hb hts in_X6_number_X6 hown hK hP 0 rfl rfl 4 (by decide) (hts _ lk_X6_number_130) (fun _ h9 => h9) rfl dX6_number_89 ?_
          obtain ⟨hg7, h⟩ := if_inv h
          refine va_iald hx hb hK hP 3 0 rfl rfl (inB_in hg7) dX6_number_92 ?_
          refine lv_i2l (v := ((p6_tape σ) (p6_place σ).toNatClampNeg).toInt64) hx hb dX6_number_93 rfl ?_
          refine lv_ldc2 hx hb hown (hts _ ck_X6_number_140) dX6_number_94 ?_
          refine lv_ldc2 hx hb hown (hts _ ck_X6_number_142) dX6_number_97 ?_
          obtain ⟨r8, hr8, h⟩ := bind_inv h
          refine kS (rest := []) (st1 := [.int r8]) (cr := [w6 cA a σ]) (cs' := [w6 cA a σ]) Z (c_X6_in l D cA (((p6_tape σ) (p6_place σ).toNatClampNeg).toInt64) 48 57 r8 hr8) 3 gX6_number_X6_in rfl hdX6_in ⟨rfl, rfl⟩ ⟨Nat.le_of_ble_eq_true rfl, Nat.le_of_ble_eq_true rfl⟩ ⟨Nat.zero_le _, Nat.zero_le _⟩ hP hD hS hl.1 rfl rfl rfl (Nat.le_of_ble_eq_true rfl) [] [0] [0] rfl rfl rfl rfl rfl dX6_number_100 (fun H locs hP hD hS => ?_)
          refine lv_if_eq (tgt := 139) hx hb dX6_number_103 (by decide) (fun hc9 => ?_) (fun hc9 => ?_)
          · rw [if_pos hc9] at h
            have h := Option.some.inj h
            subst h
            exact kk _ _ _ hP hD hS (lv_sub hl [0, 1, 2, 3, 4] rfl)
          · rw [if_neg hc9] at h
            refine lv_bipush (v := 10) hx hb dX6_number_106 (by decide) ?_
            refine lv_iload hx hb dX6_number_108 (lv_at hl 4 rfl) ?_
            refine lv_imul hx hb dX6_number_110 ?_
            refine lv_aload_n hx hb dX6_number_111 rfl (lv_at hl 0 rfl) ?_
            refine va_get (D := D) (ci := 6) (v := .ref (a 3)) (C := RX6) (T := TX6) (N := 19) hx hb hts in_X6_number_X6 hown hK hP 0 rfl rfl 2 (by decide) (hts _ lk_X6_number_16) (fun _ h9 => h9) rfl dX6_number_112 ?_
            refine lv_aload_n hx hb dX6_number_115 rfl (lv_at hl 0 rfl) ?_
            refine va_get (D := D) (ci := 6) (v := .int (p6_place σ)) (C := RX6) (T := TX6) (N := 19) hx hb hts in_X6_number_X6 hown hK hP 0 rfl rfl 4 (by decide) (hts _ lk_X6_number_130) (fun _ h9 => h9) rfl dX6_number_116 ?_
            obtain ⟨hg10, h⟩ := if_inv h
            refine va_iald hx hb hK hP 3 0 rfl rfl (inB_in hg10) dX6_number_119 ?_
            refine lv_iadd hx hb dX6_number_120 ?_
            refine lv_bipush (v := 48) hx hb dX6_number_121 (by decide) ?_
            refine lv_isub hx hb dX6_number_123 ?_
            refine lv_istore (lv' := [(5, .int (((10 * x5) + ((p6_tape σ) (p6_place σ).toNatClampNeg)) - 48)), (0, .ref (a 0)), (1, .int x1), (2, .int x2), (4, .int x4)]) hx hb dX6_number_124 hl (by decide) rfl (fun ls hl => ?_)
            refine lv_aload_n hx hb dX6_number_126 rfl (lv_at hl 1 rfl) ?_
            refine lv_dup hx hb dX6_number_127 rfl ?_
            refine va_get (D := D) (ci := 6) (v := .int (p6_place σ)) (C := RX6) (T := TX6) (N := 19) hx hb hts in_X6_number_X6 hown hK hP 0 rfl rfl 4 (by decide) (hts _ lk_X6_number_130) (fun _ h9 => h9) rfl dX6_number_128 ?_
            refine lv_iconst (v := 1) hx hb dX6_number_131 (by decide) ?_
            refine lv_iadd hx hb dX6_number_132 ?_
            refine va_put (D := D) (ci := 6) (v := .int ((p6_place σ) + 1)) (ty := .int) (C := RX6) (T := TX6) (N := 19) hx hb hts in_X6_number_X6 tyX6 tyX6_ok nmX6 hown hK hP hD hS 0 rfl rfl 4 (by decide) (hts _ lk_X6_number_130) (fun _ h9 => h9) rfl (tyX6_ok 4 (by decide)) rfl rfl (Nat.le_of_ble_eq_true rfl) dX6_number_133 (fun H locs hP hD hS => ?_)
            have hP : va_P D vwCl ([w6 cA a (s6_place σ ((p6_place σ) + 1))] : List va_W).flatten H := hP
            have hD : va_D _ ([w6 cA a (s6_place σ ((p6_place σ) + 1))] : List va_W).flatten := hD
            refine lv_goto (tgt := 55) hx hb dX6_number_136 (by decide) ?_
            exact ih _ _ _ h _ _ _ hP hD hS (lv_sub hl [1, 2, 3, 4, 0] rfl) kk
set_option maxHeartbeats 4000000 in
set_option maxRecDepth 100000 in
theorem c_X6_number (l : Launch) (D : va_G) (cA : Nat → ClassId) (a : Nat → Nat) (σ : St6) (x1 : Int32) (x2 : Int32) (res : Int32 × St6) (h : f_X6_number σ x1 x2 = some res) : CT l D cA yX6_number wsX6_number rmX6_number [.ref (a 0), .int x1, .int x2] [w6 cA a σ] [w6 cA a res.2] (some (.int res.1)) := by
  refine CT.start (cc := cX6_number) (maxL := 6) (ret := (some .int)) (by decide) rfl (Nat.le_of_ble_eq_true rfl) ?_
  intro p e s m below meth c Z hP hD hS ls hl
  have Z : Cx p s m _ meth c cX6_number 6 (some .int) wsX6_number RX6 D cA := Z
  have hl : lv_has ls 6 [(0, .ref (a 0)), (1, .int x1), (2, .int x2)] := hl
  obtain ⟨hx, hb, hml, hown, hts, hr, hlk, hKK⟩ := id Z
  have hK := hKK.1
  rw [f_X6_number] at h
  refine lv_aload_n hx hb dX6_number_0 rfl (lv_at hl 0 rfl) ?_
  refine va_get (D := D) (ci := 6) (v := .int (p6_isFault σ)) (C := RX6) (T := TX6) (N := 19) hx hb hts in_X6_number_X6 hown hK hP 0 rfl rfl 5 (by decide) (hts _ lk_X6_number_133) (fun _ h9 => h9) rfl dX6_number_1 ?_
  refine lv_if_eq (tgt := 11) hx hb dX6_number_4 (by decide) (fun hc1 => ?_) (fun hc1 => ?_)
  · rw [if_pos hc1] at h
    refine lv_aload_n hx hb dX6_number_11 rfl (lv_at hl 0 rfl) ?_
    obtain ⟨r2, hr2, h⟩ := bind_inv h
    refine kV (rest := []) (st1 := [.int r2.1]) (cr := []) (cs' := [w6 cA a r2.2]) Z (c_X6_here l D cA a σ r2 hr2) 0 gX6_number_X6_here rfl hdX6_here ⟨rfl, rfl⟩ ⟨Nat.le_of_ble_eq_true rfl, Nat.le_of_ble_eq_true rfl⟩ ⟨Nat.zero_le _, Nat.zero_le _⟩ hP hD hS hl.1 rfl rfl rfl (Nat.le_of_ble_eq_true rfl) 6 rfl rfl rfl [0] [] [0] rfl rfl rfl rfl rfl dX6_number_12 (fun H locs hP hD hS => ?_)
    refine lv_istore_n (lv' := [(3, .int r2.1), (0, .ref (a 0)), (1, .int x1), (2, .int x2)]) hx hb dX6_number_15 rfl hl (by decide) rfl (fun ls hl => ?_)
    refine lv_aload_n hx hb dX6_number_16 rfl (lv_at hl 1 rfl) ?_
    refine va_get (D := D) (ci := 6) (v := .int (p6_place r2.2)) (C := RX6) (T := TX6) (N := 19) hx hb hts in_X6_number_X6 hown hK hP 0 rfl rfl 4 (by decide) (hts _ lk_X6_number_130) (fun _ h9 => h9) rfl dX6_number_17 ?_
    refine lv_istore (lv' := [(4, .int (p6_place r2.2)), (3, .int r2.1), (0, .ref (a 0)), (1, .int x1), (2, .int x2)]) hx hb dX6_number_20 hl (by decide) rfl (fun ls hl => ?_)
    refine lv_iconst (v := 0) hx hb dX6_number_22 (by decide) ?_
    refine lv_istore (lv' := [(5, .int 0), (4, .int (p6_place r2.2)), (3, .int r2.1), (0, .ref (a 0)), (1, .int x1), (2, .int x2)]) hx hb dX6_number_23 hl (by decide) rfl (fun ls hl => ?_)
    refine lv_aload_n hx hb dX6_number_25 rfl (lv_at hl 3 rfl) ?_
    refine lv_aload_n hx hb dX6_number_26 rfl (lv_at hl 3 rfl) ?_
    refine va_get (D := D) (ci := 6) (v := .int (p6_isFault r2.2)) (C := RX6) (T := TX6) (N := 19) hx hb hts in_X6_number_X6 hown hK hP 0 rfl rfl 5 (by decide) (hts _ lk_X6_number_133) (fun _ h9 => h9) rfl dX6_number_27 ?_
    refine lv_if_ne (tgt := 47) hx hb dX6_number_30 (by decide) (fun hc3 => ?_) (fun hc3 => ?_)
    · rw [if_neg hc3] at h
      refine lv_iconst (v := 1) hx hb dX6_number_47 (by decide) ?_
      refine lv_goto (tgt := 52) hx hb dX6_number_48 (by decide) ?_
      refine va_put (D := D) (ci := 6) (v := .int 1) (ty := .boolean) (C := RX6) (T := TX6) (N := 19) hx hb hts in_X6_number_X6 tyX6 tyX6_ok nmX6 hown hK hP hD hS 0 rfl rfl 5 (by decide) (hts _ lk_X6_number_133) (fun _ h9 => h9) rfl (tyX6_ok 5 (by decide)) (nar_bool (by decide)) (fit_bool (by decide)) (Nat.le_of_ble_eq_true rfl) dX6_number_52 (fun H locs hP hD hS => ?_)
      have hP : va_P D vwCl ([w6 cA a (s6_isFault r2.2 1)] : List va_W).flatten H := hP
      have hD : va_D _ ([w6 cA a (s6_isFault r2.2 1)] : List va_W).flatten := hD
      obtain ⟨q11, hq11, h⟩ := bind_inv h
      refine t_X6_number_55 Z x1 x2 (p6_place r2.2) FU _ _ _ hq11 _ _ _ hP hD hS (lv_sub hl [3, 4, 5, 1, 0] rfl) (fun H locs ls hP hD hS hl => ?_)
      refine lv_aload_n hx hb dX6_number_139 rfl (lv_at hl 0 rfl) ?_
      refine va_get (D := D) (ci := 6) (v := .int (p6_isFault q11.2)) (C := RX6) (T := TX6) (N := 19) hx hb hts in_X6_number_X6 hown hK hP 0 rfl rfl 5 (by decide) (hts _ lk_X6_number_133) (fun _ h9 => h9) rfl dX6_number_140 ?_
      refine lv_if_ne (tgt := 170) hx hb dX6_number_143 (by decide) (fun hc12 => ?_) (fun hc12 => ?_)
      · rw [if_neg hc12] at h
        refine lv_iload hx hb dX6_number_170 (lv_at hl 4 rfl) ?_
        have h := Option.some.inj h
        subst h
        exact CT.iret Z hP hD hS dX6_number_172
      · rw [if_pos hc12] at h
        refine lv_iload hx hb dX6_number_146 (lv_at hl 4 rfl) ?_
        refine lv_i2l (v := q11.1.toInt64) hx hb dX6_number_148 rfl ?_
        refine lv_iload_n hx hb dX6_number_149 rfl (lv_at hl 1 rfl) ?_
        refine lv_i2l (v := x1.toInt64) hx hb dX6_number_150 rfl ?_
        refine lv_iload_n hx hb dX6_number_151 rfl (lv_at hl 2 rfl) ?_
        refine lv_i2l (v := x2.toInt64) hx hb dX6_number_152 rfl ?_
        obtain ⟨r13, hr13, h⟩ := bind_inv h
        refine kS (rest := []) (st1 := [.int r13]) (cr := [w6 cA a q11.2]) (cs' := [w6 cA a q11.2]) Z (c_X6_in l D cA q11.1.toInt64 x1.toInt64 x2.toInt64 r13 hr13) 3 gX6_number_X6_in rfl hdX6_in ⟨rfl, rfl⟩ ⟨Nat.le_of_ble_eq_true rfl, Nat.le_of_ble_eq_true rfl⟩ ⟨Nat.zero_le _, Nat.zero_le _⟩ hP hD hS hl.1 rfl rfl rfl (Nat.le_of_ble_eq_true rfl) [] [0] [0] rfl rfl rfl rfl rfl dX6_number_153 (fun H locs hP hD hS => ?_)
        refine lv_if_ne (tgt := 170) hx hb dX6_number_156 (by decide) (fun hc14 => ?_) (fun hc14 => ?_)
        · rw [if_neg hc14] at h
          refine lv_iload hx hb dX6_number_170 (lv_at hl 4 rfl) ?_
          have h := Option.some.inj h
          subst h
          exact CT.iret Z hP hD hS dX6_number_172
        · rw [if_pos hc14] at h
          refine lv_aload_n hx hb dX6_number_159 rfl (lv_at hl 0 rfl) ?_
          refine lv_iconst (v := 1) hx hb dX6_number_160 (by decide) ?_
          refine va_put (D := D) (ci := 6) (v := .int 1) (ty := .boolean) (C := RX6) (T := TX6) (N := 19) hx hb hts in_X6_number_X6 tyX6 tyX6_ok nmX6 hown hK hP hD hS 0 rfl rfl 5 (by decide) (hts _ lk_X6_number_133) (fun _ h9 => h9) rfl (tyX6_ok 5 (by decide)) (nar_bool (by decide)) (fit_bool (by decide)) (Nat.le_of_ble_eq_true rfl) dX6_number_161 (fun H locs hP hD hS => ?_)
          have hP : va_P D vwCl ([w6 cA a (s6_isFault q11.2 1)] : List va_W).flatten H := hP
          have hD : va_D _ ([w6 cA a (s6_isFault q11.2 1)] : List va_W).flatten := hD
          refine lv_aload_n hx hb dX6_number_164 rfl (lv_at hl 0 rfl) ?_
          refine lv_iload hx hb dX6_number_165 (lv_at hl 3 rfl) ?_
          refine va_put (D := D) (ci := 6) (v := .int (p6_place r2.2)) (ty := .int) (C := RX6) (T := TX6) (N := 19) hx hb hts in_X6_number_X6 tyX6 tyX6_ok nmX6 hown hK hP hD hS 0 rfl rfl 4 (by decide) (hts _ lk_X6_number_130) (fun _ h9 => h9) rfl (tyX6_ok 4 (by decide)) rfl rfl (Nat.le_of_ble_eq_true rfl) dX6_number_167 (fun H locs hP hD hS => ?_)
          have hP : va_P D vwCl ([w6 cA a (s6_isFault (s6_place q11.2 (p6_place r2.2)) 1)] : List va_W).flatten H := hP
          have hD : va_D _ ([w6 cA a (s6_isFault (s6_place q11.2 (p6_place r2.2)) 1)] : List va_W).flatten := hD
          refine lv_iload hx hb dX6_number_170 (lv_at hl 4 rfl) ?_
          have h := Option.some.inj h
          subst h
          exact CT.iret Z hP hD hS dX6_number_172
    · rw [if_pos hc3] at h
      refine lv_iload_n hx hb dX6_number_33 rfl (lv_at hl 2 rfl) ?_
      refine lv_i2l (v := r2.1.toInt64) hx hb dX6_number_34 rfl ?_
      refine lv_ldc2 hx hb hown (hts _ ck_X6_number_140) dX6_number_35 ?_
      refine lv_ldc2 hx hb hown (hts _ ck_X6_number_142) dX6_number_38 ?_
      obtain ⟨r15, hr15, h⟩ := bind_inv h
      refine kS (rest := [.ref (a 0)]) (st1 := [.int r15, .ref (a 0)]) (cr := [w6 cA a r2.2]) (cs' := [w6 cA a r2.2]) Z (c_X6_in l D cA r2.1.toInt64 48 57 r15 hr15) 3 gX6_number_X6_in rfl hdX6_in ⟨rfl, rfl⟩ ⟨Nat.le_of_ble_eq_true rfl, Nat.le_of_ble_eq_true rfl⟩ ⟨Nat.zero_le _, Nat.zero_le _⟩ hP hD hS hl.1 rfl rfl rfl (Nat.le_of_ble_eq_true rfl) [] [0] [0] rfl rfl rfl rfl rfl dX6_number_41 (fun H locs hP hD hS => ?_)
      refine lv_if_ne (tgt := 51) hx hb dX6_number_44 (by decide) (fun hc16 => ?_) (fun hc16 => ?_)
      · rw [if_neg hc16] at h
        refine lv_iconst (v := 0) hx hb dX6_number_51 (by decide) ?_
        refine va_put (D := D) (ci := 6) (v := .int 0) (ty := .boolean) (C := RX6) (T := TX6) (N := 19) hx hb hts in_X6_number_X6 tyX6 tyX6_ok nmX6 hown hK hP hD hS 0 rfl rfl 5 (by decide) (hts _ lk_X6_number_133) (fun _ h9 => h9) rfl (tyX6_ok 5 (by decide)) (nar_bool (by decide)) (fit_bool (by decide)) (Nat.le_of_ble_eq_true rfl) dX6_number_52 (fun H locs hP hD hS => ?_)
        have hP : va_P D vwCl ([w6 cA a (s6_isFault r2.2 0)] : List va_W).flatten H := hP
        have hD : va_D _ ([w6 cA a (s6_isFault r2.2 0)] : List va_W).flatten := hD
        obtain ⟨q17, hq17, h⟩ := bind_inv h
        refine t_X6_number_55 Z x1 x2 (p6_place r2.2) FU _ _ _ hq17 _ _ _ hP hD hS (lv_sub hl [3, 4, 5, 1, 0] rfl) (fun H locs ls hP hD hS hl => ?_)
        refine lv_aload_n hx hb dX6_number_139 rfl (lv_at hl 0 rfl) ?_
        refine va_get (D := D) (ci := 6) (v := .int (p6_isFault q17.2)) (C := RX6) (T := TX6) (N := 19) hx hb hts in_X6_number_X6 hown hK hP 0 rfl rfl 5 (by decide) (hts _ lk_X6_number_133) (fun _ h9 => h9) rfl dX6_number_140 ?_
        refine lv_if_ne (tgt := 170) hx hb dX6_number_143 (by decide) (fun hc18 => ?_) (fun hc18 => ?_)
        · rw [if_neg hc18] at h
          refine lv_iload hx hb dX6_number_170 (lv_at hl 4 rfl) ?_
          have h := Option.some.inj h
          subst h
          exact CT.iret Z hP hD hS dX6_number_172
        · rw [if_pos hc18] at h
          refine lv_iload hx hb dX6_number_146 (lv_at hl 4 rfl) ?_
          refine lv_i2l (v := q17.1.toInt64) hx hb dX6_number_148 rfl ?_
          refine lv_iload_n hx hb dX6_number_149 rfl (lv_at hl 1 rfl) ?_
          refine lv_i2l (v := x1.toInt64) hx hb dX6_number_150 rfl ?_
          refine lv_iload_n hx hb dX6_number_151 rfl (lv_at hl 2 rfl) ?_
          refine lv_i2l (v := x2.toInt64) hx hb dX6_number_152 rfl ?_
          obtain ⟨r19, hr19, h⟩ := bind_inv h
          refine kS (rest := []) (st1 := [.int r19]) (cr := [w6 cA a q17.2]) (cs' := [w6 cA a q17.2]) Z (c_X6_in l D cA q17.1.toInt64 x1.toInt64 x2.toInt64 r19 hr19) 3 gX6_number_X6_in rfl hdX6_in ⟨rfl, rfl⟩ ⟨Nat.le_of_ble_eq_true rfl, Nat.le_of_ble_eq_true rfl⟩ ⟨Nat.zero_le _, Nat.zero_le _⟩ hP hD hS hl.1 rfl rfl rfl (Nat.le_of_ble_eq_true rfl) [] [0] [0] rfl rfl rfl rfl rfl dX6_number_153 (fun H locs hP hD hS => ?_)
          refine lv_if_ne (tgt := 170) hx hb dX6_number_156 (by decide) (fun hc20 => ?_) (fun hc20 => ?_)
          · rw [if_neg hc20] at h
            refine lv_iload hx hb dX6_number_170 (lv_at hl 4 rfl) ?_
            have h := Option.some.inj h
            subst h
            exact CT.iret Z hP hD hS dX6_number_172
          · rw [if_pos hc20] at h
            refine lv_aload_n hx hb dX6_number_159 rfl (lv_at hl 0 rfl) ?_
            refine lv_iconst (v := 1) hx hb dX6_number_160 (by decide) ?_
            refine va_put (D := D) (ci := 6) (v := .int 1) (ty := .boolean) (C := RX6) (T := TX6) (N := 19) hx hb hts in_X6_number_X6 tyX6 tyX6_ok nmX6 hown hK hP hD hS 0 rfl rfl 5 (by decide) (hts _ lk_X6_number_133) (fun _ h9 => h9) rfl (tyX6_ok 5 (by decide)) (nar_bool (by decide)) (fit_bool (by decide)) (Nat.le_of_ble_eq_true rfl) dX6_number_161 (fun H locs hP hD hS => ?_)
            have hP : va_P D vwCl ([w6 cA a (s6_isFault q17.2 1)] : List va_W).flatten H := hP
            have hD : va_D _ ([w6 cA a (s6_isFault q17.2 1)] : List va_W).flatten := hD
            refine lv_aload_n hx hb dX6_number_164 rfl (lv_at hl 0 rfl) ?_
            refine lv_iload hx hb dX6_number_165 (lv_at hl 3 rfl) ?_
            refine va_put (D := D) (ci := 6) (v := .int (p6_place r2.2)) (ty := .int) (C := RX6) (T := TX6) (N := 19) hx hb hts in_X6_number_X6 tyX6 tyX6_ok nmX6 hown hK hP hD hS 0 rfl rfl 4 (by decide) (hts _ lk_X6_number_130) (fun _ h9 => h9) rfl (tyX6_ok 4 (by decide)) rfl rfl (Nat.le_of_ble_eq_true rfl) dX6_number_167 (fun H locs hP hD hS => ?_)
            have hP : va_P D vwCl ([w6 cA a (s6_isFault (s6_place q17.2 (p6_place r2.2)) 1)] : List va_W).flatten H := hP
            have hD : va_D _ ([w6 cA a (s6_isFault (s6_place q17.2 (p6_place r2.2)) 1)] : List va_W).flatten := hD
            refine lv_iload hx hb dX6_number_170 (lv_at hl 4 rfl) ?_
            have h := Option.some.inj h
            subst h
            exact CT.iret Z hP hD hS dX6_number_172
      · rw [if_pos hc16] at h
        refine lv_iconst (v := 1) hx hb dX6_number_47 (by decide) ?_
        refine lv_goto (tgt := 52) hx hb dX6_number_48 (by decide) ?_
        refine va_put (D := D) (ci := 6) (v := .int 1) (ty := .boolean) (C := RX6) (T := TX6) (N := 19) hx hb hts in_X6_number_X6 tyX6 tyX6_ok nmX6 hown hK hP hD hS 0 rfl rfl 5 (by decide) (hts _ lk_X6_number_133) (fun _ h9 => h9) rfl (tyX6_ok 5 (by decide)) (nar_bool (by decide)) (fit_bool (by decide)) (Nat.le_of_ble_eq_true rfl) dX6_number_52 (fun H locs hP hD hS => ?_)
        have hP : va_P D vwCl ([w6 cA a (s6_isFault r2.2 1)] : List va_W).flatten H := hP
        have hD : va_D _ ([w6 cA a (s6_isFault r2.2 1)] : List va_W).flatten := hD
        obtain ⟨q21, hq21, h⟩ := bind_inv h
        refine t_X6_number_55 Z x1 x2 (p6_place r2.2) FU _ _ _ hq21 _ _ _ hP hD hS (lv_sub hl [3, 4, 5, 1, 0] rfl) (fun H locs ls hP hD hS hl => ?_)
        refine lv_aload_n hx hb dX6_number_139 rfl (lv_at hl 0 rfl) ?_
        refine va_get (D := D) (ci := 6) (v := .int (p6_isFault q21.2)) (C := RX6) (T := TX6) (N := 19) hx hb hts in_X6_number_X6 hown hK hP 0 rfl rfl 5 (by decide) (hts _ lk_X6_number_133) (fun _ h9 => h9) rfl dX6_number_140 ?_
        refine lv_if_ne (tgt := 170) hx hb dX6_number_143 (by decide) (fun hc22 => ?_) (fun hc22 => ?_)
        · rw [if_neg hc22] at h
          refine lv_iload hx hb dX6_number_170 (lv_at hl 4 rfl) ?_
          have h := Option.some.inj h
          subst h
          exact CT.iret Z hP hD hS dX6_number_172
        · rw [if_pos hc22] at h
          refine lv_iload hx hb dX6_number_146 (lv_at hl 4 rfl) ?_
          refine lv_i2l (v := q21.1.toInt64) hx hb dX6_number_148 rfl ?_
          refine lv_iload_n hx hb dX6_number_149 rfl (lv_at hl 1 rfl) ?_
          refine lv_i2l (v := x1.toInt64) hx hb dX6_number_150 rfl ?_
          refine lv_iload_n hx hb dX6_number_151 rfl (lv_at hl 2 rfl) ?_
          refine lv_i2l (v := x2.toInt64) hx hb dX6_number_152 rfl ?_
          obtain ⟨r23, hr23, h⟩ := bind_inv h
          refine kS (rest := []) (st1 := [.int r23]) (cr := [w6 cA a q21.2]) (cs' := [w6 cA a q21.2]) Z (c_X6_in l D cA q21.1.toInt64 x1.toInt64 x2.toInt64 r23 hr23) 3 gX6_number_X6_in rfl hdX6_in ⟨rfl, rfl⟩ ⟨Nat.le_of_ble_eq_true rfl, Nat.le_of_ble_eq_true rfl⟩ ⟨Nat.zero_le _, Nat.zero_le _⟩ hP hD hS hl.1 rfl rfl rfl (Nat.le_of_ble_eq_true rfl) [] [0] [0] rfl rfl rfl rfl rfl dX6_number_153 (fun H locs hP hD hS => ?_)
          refine lv_if_ne (tgt := 170) hx hb dX6_number_156 (by decide) (fun hc24 => ?_) (fun hc24 => ?_)
          · rw [if_neg hc24] at h
            refine lv_iload hx hb dX6_number_170 (lv_at hl 4 rfl) ?_
            have h := Option.some.inj h
            subst h
            exact CT.iret Z hP hD hS dX6_number_172
          · rw [if_pos hc24] at h
            refine lv_aload_n hx hb dX6_number_159 rfl (lv_at hl 0 rfl) ?_
            refine lv_iconst (v := 1) hx hb dX6_number_160 (by decide) ?_
            refine va_put (D := D) (ci := 6) (v := .int 1) (ty := .boolean) (C := RX6) (T := TX6) (N := 19) hx hb hts in_X6_number_X6 tyX6 tyX6_ok nmX6 hown hK hP hD hS 0 rfl rfl 5 (by decide) (hts _ lk_X6_number_133) (fun _ h9 => h9) rfl (tyX6_ok 5 (by decide)) (nar_bool (by decide)) (fit_bool (by decide)) (Nat.le_of_ble_eq_true rfl) dX6_number_161 (fun H locs hP hD hS => ?_)
            have hP : va_P D vwCl ([w6 cA a (s6_isFault q21.2 1)] : List va_W).flatten H := hP
            have hD : va_D _ ([w6 cA a (s6_isFault q21.2 1)] : List va_W).flatten := hD
            refine lv_aload_n hx hb dX6_number_164 rfl (lv_at hl 0 rfl) ?_
            refine lv_iload hx hb dX6_number_165 (lv_at hl 3 rfl) ?_
            refine va_put (D := D) (ci := 6) (v := .int (p6_place r2.2)) (ty := .int) (C := RX6) (T := TX6) (N := 19) hx hb hts in_X6_number_X6 tyX6 tyX6_ok nmX6 hown hK hP hD hS 0 rfl rfl 4 (by decide) (hts _ lk_X6_number_130) (fun _ h9 => h9) rfl (tyX6_ok 4 (by decide)) rfl rfl (Nat.le_of_ble_eq_true rfl) dX6_number_167 (fun H locs hP hD hS => ?_)
            have hP : va_P D vwCl ([w6 cA a (s6_isFault (s6_place q21.2 (p6_place r2.2)) 1)] : List va_W).flatten H := hP
            have hD : va_D _ ([w6 cA a (s6_isFault (s6_place q21.2 (p6_place r2.2)) 1)] : List va_W).flatten := hD
            refine lv_iload hx hb dX6_number_170 (lv_at hl 4 rfl) ?_
            have h := Option.some.inj h
            subst h
            exact CT.iret Z hP hD hS dX6_number_172
  · rw [if_neg hc1] at h
    refine lv_iconst (v := 0) hx hb dX6_number_7 (by decide) ?_
    refine lv_goto (tgt := 15) hx hb dX6_number_8 (by decide) ?_
    refine lv_istore_n (lv' := [(3, .int 0), (0, .ref (a 0)), (1, .int x1), (2, .int x2)]) hx hb dX6_number_15 rfl hl (by decide) rfl (fun ls hl => ?_)
    refine lv_aload_n hx hb dX6_number_16 rfl (lv_at hl 1 rfl) ?_
    refine va_get (D := D) (ci := 6) (v := .int (p6_place σ)) (C := RX6) (T := TX6) (N := 19) hx hb hts in_X6_number_X6 hown hK hP 0 rfl rfl 4 (by decide) (hts _ lk_X6_number_130) (fun _ h9 => h9) rfl dX6_number_17 ?_
    refine lv_istore (lv' := [(4, .int (p6_place σ)), (3, .int 0), (0, .ref (a 0)), (1, .int x1), (2, .int x2)]) hx hb dX6_number_20 hl (by decide) rfl (fun ls hl => ?_)
    refine lv_iconst (v := 0) hx hb dX6_number_22 (by decide) ?_
    refine lv_istore (lv' := [(5, .int 0), (4, .int (p6_place σ)), (3, .int 0), (0, .ref (a 0)), (1, .int x1), (2, .int x2)]) hx hb dX6_number_23 hl (by decide) rfl (fun ls hl => ?_)
    refine lv_aload_n hx hb dX6_number_25 rfl (lv_at hl 3 rfl) ?_
    refine lv_aload_n hx hb dX6_number_26 rfl (lv_at hl 3 rfl) ?_
    refine va_get (D := D) (ci := 6) (v := .int (p6_isFault σ)) (C := RX6) (T := TX6) (N := 19) hx hb hts in_X6_number_X6 hown hK hP 0 rfl rfl 5 (by decide) (hts _ lk_X6_number_133) (fun _ h9 => h9) rfl dX6_number_27 ?_
    refine lv_if_ne (tgt := 47) hx hb dX6_number_30 (by decide) (fun hc25 => ?_) (fun hc25 => ?_)
    · rw [if_neg hc25] at h
      refine lv_iconst (v := 1) hx hb dX6_number_47 (by decide) ?_
      refine lv_goto (tgt := 52) hx hb dX6_number_48 (by decide) ?_
      refine va_put (D := D) (ci := 6) (v := .int 1) (ty := .boolean) (C := RX6) (T := TX6) (N := 19) hx hb hts in_X6_number_X6 tyX6 tyX6_ok nmX6 hown hK hP hD hS 0 rfl rfl 5 (by decide) (hts _ lk_X6_number_133) (fun _ h9 => h9) rfl (tyX6_ok 5 (by decide)) (nar_bool (by decide)) (fit_bool (by decide)) (Nat.le_of_ble_eq_true rfl) dX6_number_52 (fun H locs hP hD hS => ?_)
      have hP : va_P D vwCl ([w6 cA a (s6_isFault σ 1)] : List va_W).flatten H := hP
      have hD : va_D _ ([w6 cA a (s6_isFault σ 1)] : List va_W).flatten := hD
      obtain ⟨q26, hq26, h⟩ := bind_inv h
      refine t_X6_number_55 Z x1 x2 (p6_place σ) FU _ _ _ hq26 _ _ _ hP hD hS (lv_sub hl [3, 4, 5, 1, 0] rfl) (fun H locs ls hP hD hS hl => ?_)
      refine lv_aload_n hx hb dX6_number_139 rfl (lv_at hl 0 rfl) ?_
      refine va_get (D := D) (ci := 6) (v := .int (p6_isFault q26.2)) (C := RX6) (T := TX6) (N := 19) hx hb hts in_X6_number_X6 hown hK hP 0 rfl rfl 5 (by decide) (hts _ lk_X6_number_133) (fun _ h9 => h9) rfl dX6_number_140 ?_
      refine lv_if_ne (tgt := 170) hx hb dX6_number_143 (by decide) (fun hc27 => ?_) (fun hc27 => ?_)
      · rw [if_neg hc27] at h
        refine lv_iload hx hb dX6_number_170 (lv_at hl 4 rfl) ?_
        have h := Option.some.inj h
        subst h
        exact CT.iret Z hP hD hS dX6_number_172
      · rw [if_pos hc27] at h
        refine lv_iload hx hb dX6_number_146 (lv_at hl 4 rfl) ?_
        refine lv_i2l (v := q26.1.toInt64) hx hb dX6_number_148 rfl ?_
        refine lv_iload_n hx hb dX6_number_149 rfl (lv_at hl 1 rfl) ?_
        refine lv_i2l (v := x1.toInt64) hx hb dX6_number_150 rfl ?_
        refine lv_iload_n hx hb dX6_number_151 rfl (lv_at hl 2 rfl) ?_
        refine lv_i2l (v := x2.toInt64) hx hb dX6_number_152 rfl ?_
        obtain ⟨r28, hr28, h⟩ := bind_inv h
        refine kS (rest := []) (st1 := [.int r28]) (cr := [w6 cA a q26.2]) (cs' := [w6 cA a q26.2]) Z (c_X6_in l D cA q26.1.toInt64 x1.toInt64 x2.toInt64 r28 hr28) 3 gX6_number_X6_in rfl hdX6_in ⟨rfl, rfl⟩ ⟨Nat.le_of_ble_eq_true rfl, Nat.le_of_ble_eq_true rfl⟩ ⟨Nat.zero_le _, Nat.zero_le _⟩ hP hD hS hl.1 rfl rfl rfl (Nat.le_of_ble_eq_true rfl) [] [0] [0] rfl rfl rfl rfl rfl dX6_number_153 (fun H locs hP hD hS => ?_)
        refine lv_if_ne (tgt := 170) hx hb dX6_number_156 (by decide) (fun hc29 => ?_) (fun hc29 => ?_)
        · rw [if_neg hc29] at h
          refine lv_iload hx hb dX6_number_170 (lv_at hl 4 rfl) ?_
          have h := Option.some.inj h
          subst h
          exact CT.iret Z hP hD hS dX6_number_172
        · rw [if_pos hc29] at h
          refine lv_aload_n hx hb dX6_number_159 rfl (lv_at hl 0 rfl) ?_
          refine lv_iconst (v := 1) hx hb dX6_number_160 (by decide) ?_
          refine va_put (D := D) (ci := 6) (v := .int 1) (ty := .boolean) (C := RX6) (T := TX6) (N := 19) hx hb hts in_X6_number_X6 tyX6 tyX6_ok nmX6 hown hK hP hD hS 0 rfl rfl 5 (by decide) (hts _ lk_X6_number_133) (fun _ h9 => h9) rfl (tyX6_ok 5 (by decide)) (nar_bool (by decide)) (fit_bool (by decide)) (Nat.le_of_ble_eq_true rfl) dX6_number_161 (fun H locs hP hD hS => ?_)
          have hP : va_P D vwCl ([w6 cA a (s6_isFault q26.2 1)] : List va_W).flatten H := hP
          have hD : va_D _ ([w6 cA a (s6_isFault q26.2 1)] : List va_W).flatten := hD
          refine lv_aload_n hx hb dX6_number_164 rfl (lv_at hl 0 rfl) ?_
          refine lv_iload hx hb dX6_number_165 (lv_at hl 3 rfl) ?_
          refine va_put (D := D) (ci := 6) (v := .int (p6_place σ)) (ty := .int) (C := RX6) (T := TX6) (N := 19) hx hb hts in_X6_number_X6 tyX6 tyX6_ok nmX6 hown hK hP hD hS 0 rfl rfl 4 (by decide) (hts _ lk_X6_number_130) (fun _ h9 => h9) rfl (tyX6_ok 4 (by decide)) rfl rfl (Nat.le_of_ble_eq_true rfl) dX6_number_167 (fun H locs hP hD hS => ?_)
          have hP : va_P D vwCl ([w6 cA a (s6_isFault (s6_place q26.2 (p6_place σ)) 1)] : List va_W).flatten H := hP
          have hD : va_D _ ([w6 cA a (s6_isFault (s6_place q26.2 (p6_place σ)) 1)] : List va_W).flatten := hD
          refine lv_iload hx hb dX6_number_170 (lv_at hl 4 rfl) ?_
          have h := Option.some.inj h
          subst h
          exact CT.iret Z hP hD hS dX6_number_172
    · rw [if_pos hc25] at h
      refine lv_iload_n hx hb dX6_number_33 rfl (lv_at hl 2 rfl) ?_
      refine lv_i2l (v := (0 : Int32).toInt64) hx hb dX6_number_34 rfl ?_
      refine lv_ldc2 hx hb hown (hts _ ck_X6_number_140) dX6_number_35 ?_
      refine lv_ldc2 hx hb hown (hts _ ck_X6_number_142) dX6_number_38 ?_
      obtain ⟨r30, hr30, h⟩ := bind_inv h
      refine kS (rest := [.ref (a 0)]) (st1 := [.int r30, .ref (a 0)]) (cr := [w6 cA a σ]) (cs' := [w6 cA a σ]) Z (c_X6_in l D cA ((0 : Int32).toInt64) 48 57 r30 hr30) 3 gX6_number_X6_in rfl hdX6_in ⟨rfl, rfl⟩ ⟨Nat.le_of_ble_eq_true rfl, Nat.le_of_ble_eq_true rfl⟩ ⟨Nat.zero_le _, Nat.zero_le _⟩ hP hD hS hl.1 rfl rfl rfl (Nat.le_of_ble_eq_true rfl) [] [0] [0] rfl rfl rfl rfl rfl dX6_number_41 (fun H locs hP hD hS => ?_)
      refine lv_if_ne (tgt := 51) hx hb dX6_number_44 (by decide) (fun hc31 => ?_) (fun hc31 => ?_)
      · rw [if_neg hc31] at h
        refine lv_iconst (v := 0) hx hb dX6_number_51 (by decide) ?_
        refine va_put (D := D) (ci := 6) (v := .int 0) (ty := .boolean) (C := RX6) (T := TX6) (N := 19) hx hb hts in_X6_number_X6 tyX6 tyX6_ok nmX6 hown hK hP hD hS 0 rfl rfl 5 (by decide) (hts _ lk_X6_number_133) (fun _ h9 => h9) rfl (tyX6_ok 5 (by decide)) (nar_bool (by decide)) (fit_bool (by decide)) (Nat.le_of_ble_eq_true rfl) dX6_number_52 (fun H locs hP hD hS => ?_)
        have hP : va_P D vwCl ([w6 cA a (s6_isFault σ 0)] : List va_W).flatten H := hP
        have hD : va_D _ ([w6 cA a (s6_isFault σ 0)] : List va_W).flatten := hD
        obtain ⟨q32, hq32, h⟩ := bind_inv h
        refine t_X6_number_55 Z x1 x2 (p6_place σ) FU _ _ _ hq32 _ _ _ hP hD hS (lv_sub hl [3, 4, 5, 1, 0] rfl) (fun H locs ls hP hD hS hl => ?_)
        refine lv_aload_n hx hb dX6_number_139 rfl (lv_at hl 0 rfl) ?_
        refine va_get (D := D) (ci := 6) (v := .int (p6_isFault q32.2)) (C := RX6) (T := TX6) (N := 19) hx hb hts in_X6_number_X6 hown hK hP 0 rfl rfl 5 (by decide) (hts _ lk_X6_number_133) (fun _ h9 => h9) rfl dX6_number_140 ?_
        refine lv_if_ne (tgt := 170) hx hb dX6_number_143 (by decide) (fun hc33 => ?_) (fun hc33 => ?_)
        · rw [if_neg hc33] at h
          refine lv_iload hx hb dX6_number_170 (lv_at hl 4 rfl) ?_
          have h := Option.some.inj h
          subst h
          exact CT.iret Z hP hD hS dX6_number_172
        · rw [if_pos hc33] at h
          refine lv_iload hx hb dX6_number_146 (lv_at hl 4 rfl) ?_
          refine lv_i2l (v := q32.1.toInt64) hx hb dX6_number_148 rfl ?_
          refine lv_iload_n hx hb dX6_number_149 rfl (lv_at hl 1 rfl) ?_
          refine lv_i2l (v := x1.toInt64) hx hb dX6_number_150 rfl ?_
          refine lv_iload_n hx hb dX6_number_151 rfl (lv_at hl 2 rfl) ?_
          refine lv_i2l (v := x2.toInt64) hx hb dX6_number_152 rfl ?_
          obtain ⟨r34, hr34, h⟩ := bind_inv h
          refine kS (rest := []) (st1 := [.int r34]) (cr := [w6 cA a q32.2]) (cs' := [w6 cA a q32.2]) Z (c_X6_in l D cA q32.1.toInt64 x1.toInt64 x2.toInt64 r34 hr34) 3 gX6_number_X6_in rfl hdX6_in ⟨rfl, rfl⟩ ⟨Nat.le_of_ble_eq_true rfl, Nat.le_of_ble_eq_true rfl⟩ ⟨Nat.zero_le _, Nat.zero_le _⟩ hP hD hS hl.1 rfl rfl rfl (Nat.le_of_ble_eq_true rfl) [] [0] [0] rfl rfl rfl rfl rfl dX6_number_153 (fun H locs hP hD hS => ?_)
          refine lv_if_ne (tgt := 170) hx hb dX6_number_156 (by decide) (fun hc35 => ?_) (fun hc35 => ?_)
          · rw [if_neg hc35] at h
            refine lv_iload hx hb dX6_number_170 (lv_at hl 4 rfl) ?_
            have h := Option.some.inj h
            subst h
            exact CT.iret Z hP hD hS dX6_number_172
          · rw [if_pos hc35] at h
            refine lv_aload_n hx hb dX6_number_159 rfl (lv_at hl 0 rfl) ?_
            refine lv_iconst (v := 1) hx hb dX6_number_160 (by decide) ?_
            refine va_put (D := D) (ci := 6) (v := .int 1) (ty := .boolean) (C := RX6) (T := TX6) (N := 19) hx hb hts in_X6_number_X6 tyX6 tyX6_ok nmX6 hown hK hP hD hS 0 rfl rfl 5 (by decide) (hts _ lk_X6_number_133) (fun _ h9 => h9) rfl (tyX6_ok 5 (by decide)) (nar_bool (by decide)) (fit_bool (by decide)) (Nat.le_of_ble_eq_true rfl) dX6_number_161 (fun H locs hP hD hS => ?_)
            have hP : va_P D vwCl ([w6 cA a (s6_isFault q32.2 1)] : List va_W).flatten H := hP
            have hD : va_D _ ([w6 cA a (s6_isFault q32.2 1)] : List va_W).flatten := hD
            refine lv_aload_n hx hb dX6_number_164 rfl (lv_at hl 0 rfl) ?_
            refine lv_iload hx hb dX6_number_165 (lv_at hl 3 rfl) ?_
            refine va_put (D := D) (ci := 6) (v := .int (p6_place σ)) (ty := .int) (C := RX6) (T := TX6) (N := 19) hx hb hts in_X6_number_X6 tyX6 tyX6_ok nmX6 hown hK hP hD hS 0 rfl rfl 4 (by decide) (hts _ lk_X6_number_130) (fun _ h9 => h9) rfl (tyX6_ok 4 (by decide)) rfl rfl (Nat.le_of_ble_eq_true rfl) dX6_number_167 (fun H locs hP hD hS => ?_)
            have hP : va_P D vwCl ([w6 cA a (s6_isFault (s6_place q32.2 (p6_place σ)) 1)] : List va_W).flatten H := hP
            have hD : va_D _ ([w6 cA a (s6_isFault (s6_place q32.2 (p6_place σ)) 1)] : List va_W).flatten := hD
            refine lv_iload hx hb dX6_number_170 (lv_at hl 4 rfl) ?_
            have h := Option.some.inj h
            subst h
            exact CT.iret Z hP hD hS dX6_number_172
      · rw [if_pos hc31] at h
        refine lv_iconst (v := 1) hx hb dX6_number_47 (by decide) ?_
        refine lv_goto (tgt := 52) hx hb dX6_number_48 (by decide) ?_
        refine va_put (D := D) (ci := 6) (v := .int 1) (ty := .boolean) (C := RX6) (T := TX6) (N := 19) hx hb hts in_X6_number_X6 tyX6 tyX6_ok nmX6 hown hK hP hD hS 0 rfl rfl 5 (by decide) (hts _ lk_X6_number_133) (fun _ h9 => h9) rfl (tyX6_ok 5 (by decide)) (nar_bool (by decide)) (fit_bool (by decide)) (Nat.le_of_ble_eq_true rfl) dX6_number_52 (fun H locs hP hD hS => ?_)
        have hP : va_P D vwCl ([w6 cA a (s6_isFault σ 1)] : List va_W).flatten H := hP
        have hD : va_D _ ([w6 cA a (s6_isFault σ 1)] : List va_W).flatten := hD
        obtain ⟨q36, hq36, h⟩ := bind_inv h
        refine t_X6_number_55 Z x1 x2 (p6_place σ) FU _ _ _ hq36 _ _ _ hP hD hS (lv_sub hl [3, 4, 5, 1, 0] rfl) (fun H locs ls hP hD hS hl => ?_)
        refine lv_aload_n hx hb dX6_number_139 rfl (lv_at hl 0 rfl) ?_
        refine va_get (D := D) (ci := 6) (v := .int (p6_isFault q36.2)) (C := RX6) (T := TX6) (N := 19) hx hb hts in_X6_number_X6 hown hK hP 0 rfl rfl 5 (by decide) (hts _ lk_X6_number_133) (fun _ h9 => h9) rfl dX6_number_140 ?_
        refine lv_if_ne (tgt := 170) hx hb dX6_number_143 (by decide) (fun hc37 => ?_) (fun hc37 => ?_)
        · rw [if_neg hc37] at h
          refine lv_iload hx hb dX6_number_170 (lv_at hl 4 rfl) ?_
          have h := Option.some.inj h
          subst h
          exact CT.iret Z hP hD hS dX6_number_172
        · rw [if_pos hc37] at h
          refine lv_iload hx hb dX6_number_146 (lv_at hl 4 rfl) ?_
          refine lv_i2l (v := q36.1.toInt64) hx hb dX6_number_148 rfl ?_
          refine lv_iload_n hx hb dX6_number_149 rfl (lv_at hl 1 rfl) ?_
          refine lv_i2l (v := x1.toInt64) hx hb dX6_number_150 rfl ?_
          refine lv_iload_n hx hb dX6_number_151 rfl (lv_at hl 2 rfl) ?_
          refine lv_i2l (v := x2.toInt64) hx hb dX6_number_152 rfl ?_
          obtain ⟨r38, hr38, h⟩ := bind_inv h
          refine kS (rest := []) (st1 := [.int r38]) (cr := [w6 cA a q36.2]) (cs' := [w6 cA a q36.2]) Z (c_X6_in l D cA q36.1.toInt64 x1.toInt64 x2.toInt64 r38 hr38) 3 gX6_number_X6_in rfl hdX6_in ⟨rfl, rfl⟩ ⟨Nat.le_of_ble_eq_true rfl, Nat.le_of_ble_eq_true rfl⟩ ⟨Nat.zero_le _, Nat.zero_le _⟩ hP hD hS hl.1 rfl rfl rfl (Nat.le_of_ble_eq_true rfl) [] [0] [0] rfl rfl rfl rfl rfl dX6_number_153 (fun H locs hP hD hS => ?_)
          refine lv_if_ne (tgt := 170) hx hb dX6_number_156 (by decide) (fun hc39 => ?_) (fun hc39 => ?_)
          · rw [if_neg hc39] at h
            refine lv_iload hx hb dX6_number_170 (lv_at hl 4 rfl) ?_
            have h := Option.some.inj h
            subst h
            exact CT.iret Z hP hD hS dX6_number_172
          · rw [if_pos hc39] at h
            refine lv_aload_n hx hb dX6_number_159 rfl (lv_at hl 0 rfl) ?_
            refine lv_iconst (v := 1) hx hb dX6_number_160 (by decide) ?_
            refine va_put (D := D) (ci := 6) (v := .int 1) (ty := .boolean) (C := RX6) (T := TX6) (N := 19) hx hb hts in_X6_number_X6 tyX6 tyX6_ok nmX6 hown hK hP hD hS 0 rfl rfl 5 (by decide) (hts _ lk_X6_number_133) (fun _ h9 => h9) rfl (tyX6_ok 5 (by decide)) (nar_bool (by decide)) (fit_bool (by decide)) (Nat.le_of_ble_eq_true rfl) dX6_number_161 (fun H locs hP hD hS => ?_)
            have hP : va_P D vwCl ([w6 cA a (s6_isFault q36.2 1)] : List va_W).flatten H := hP
            have hD : va_D _ ([w6 cA a (s6_isFault q36.2 1)] : List va_W).flatten := hD
            refine lv_aload_n hx hb dX6_number_164 rfl (lv_at hl 0 rfl) ?_
            refine lv_iload hx hb dX6_number_165 (lv_at hl 3 rfl) ?_
            refine va_put (D := D) (ci := 6) (v := .int (p6_place σ)) (ty := .int) (C := RX6) (T := TX6) (N := 19) hx hb hts in_X6_number_X6 tyX6 tyX6_ok nmX6 hown hK hP hD hS 0 rfl rfl 4 (by decide) (hts _ lk_X6_number_130) (fun _ h9 => h9) rfl (tyX6_ok 4 (by decide)) rfl rfl (Nat.le_of_ble_eq_true rfl) dX6_number_167 (fun H locs hP hD hS => ?_)
            have hP : va_P D vwCl ([w6 cA a (s6_isFault (s6_place q36.2 (p6_place σ)) 1)] : List va_W).flatten H := hP
            have hD : va_D _ ([w6 cA a (s6_isFault (s6_place q36.2 (p6_place σ)) 1)] : List va_W).flatten := hD
            refine lv_iload hx hb dX6_number_170 (lv_at hl 4 rfl) ?_
            have h := Option.some.inj h
            subst h
            exact CT.iret Z hP hD hS dX6_number_172

-- X6.peopleRead
theorem lk_X6_peopleRead_133 : Cond.fieldLink RX6 133 "KeyedFeelingsModel" "isFault" "Z" ∈ wsX6_peopleRead := by decide +kernel
theorem in_X6_peopleRead_X6 : ∀ w ∈ wsX60, w ∈ wsX6_peopleRead := by decide +kernel
theorem lk_X6_peopleRead_19 : Cond.fieldLink RX6 19 "KeyedFeelingsModel" "read" "[I" ∈ wsX6_peopleRead := by decide +kernel
theorem lk_X6_peopleRead_130 : Cond.fieldLink RX6 130 "KeyedFeelingsModel" "place" "I" ∈ wsX6_peopleRead := by decide +kernel
theorem ck_X6_peopleRead_105 : Cond.constantLong RX6 105 5 ∈ wsX6_peopleRead := by decide +kernel
noncomputable def jn_X6_peopleRead_j235 (rec : Int32 → St6 → Option (Int32 × St6)) (x1 : Int32) (x3 : Int32) (x4 : Int32) (x5 : Int32) (x6 : Int32) (σ : St6) : Option (Int32 × St6) := (if (p6_isFault σ) = 0 then (if inB (4 * x1) 24 = true then (if inB ((4 * x1) + 1) 24 = true then (if inB ((4 * x1) + 2) 24 = true then (if inB ((4 * x1) + 3) 24 = true then rec (x1 + 1) (s6_read σ (upd (upd (upd (upd (p6_read σ) ((4 * x1).toNatClampNeg) x3) (((4 * x1) + 1).toNatClampNeg) x4) (((4 * x1) + 2).toNatClampNeg) x5) (((4 * x1) + 3).toNatClampNeg) x6)) else none) else none) else none) else none) else rec (x1 + 1) σ)
noncomputable def jn_X6_peopleRead_j223 (rec : Int32 → St6 → Option (Int32 × St6)) (x1 : Int32) (x3 : Int32) (x4 : Int32) (x5 : Int32) (y0 : Int32) (σ : St6) : Option (Int32 × St6) := ((f_X6_must σ y0).bind (fun r27 => ((f_X6_number r27 1 12).bind (fun r28 => jn_X6_peopleRead_j235 rec x1 x3 x4 x5 r28.1 r28.2))))
noncomputable def jn_X6_peopleRead_j198 (rec : Int32 → St6 → Option (Int32 × St6)) (x1 : Int32) (x3 : Int32) (x4 : Int32) (x5 : Int32) (y0 : Int32) (σ : St6) : Option (Int32 × St6) := ((f_X6_must σ y0).bind (fun r25 => (if (p6_isFault r25) = 0 then ((f_X6_here r25).bind (fun r29 => (if r29.1 = 58 then jn_X6_peopleRead_j223 rec x1 x3 x4 x5 1 r29.2 else jn_X6_peopleRead_j223 rec x1 x3 x4 x5 0 r29.2))) else jn_X6_peopleRead_j223 rec x1 x3 x4 x5 0 r25)))
noncomputable def jn_X6_peopleRead_j119 (rec : Int32 → St6 → Option (Int32 × St6)) (x1 : Int32) (x3 : Int32) (y0 : Int32) (σ : St6) : Option (Int32 × St6) := ((f_X6_must σ y0).bind (fun r12 => ((f_X6_number r12 0 30).bind (fun r13 => (if (p6_isFault r13.2) = 0 then ((f_X6_here r13.2).bind (fun r20 => (if r20.1 = 62 then ((f_X6_here (s6_place r20.2 ((p6_place r20.2) + 1))).bind (fun r22 => ((f_X6_in ((r22.1 - 48).toInt64) 0 5).bind (fun r23 => (if r23 = 0 then jn_X6_peopleRead_j198 rec x1 x3 r13.1 (r22.1 - 48) 0 r22.2 else (if (r22.1 - 48) = x1 then jn_X6_peopleRead_j198 rec x1 x3 r13.1 (r22.1 - 48) 0 r22.2 else jn_X6_peopleRead_j198 rec x1 x3 r13.1 (r22.1 - 48) 1 r22.2)))))) else jn_X6_peopleRead_j235 rec x1 x3 r13.1 (-4) 1 r20.2))) else jn_X6_peopleRead_j235 rec x1 x3 r13.1 (-4) 1 r13.2)))))
noncomputable def jn_X6_peopleRead_j108 (rec : Int32 → St6 → Option (Int32 × St6)) (x1 : Int32) (y0 : Int32) (σ : St6) : Option (Int32 × St6) := (if y0 < 0 then jn_X6_peopleRead_j119 rec x1 y0 0 σ else jn_X6_peopleRead_j119 rec x1 y0 1 σ)
noncomputable def jn_X6_peopleRead_j56 (rec : Int32 → St6 → Option (Int32 × St6)) (x1 : Int32) (y0 : Int32) (σ : St6) : Option (Int32 × St6) := (if y0 = 103 then jn_X6_peopleRead_j108 rec x1 0 σ else (if y0 = 99 then jn_X6_peopleRead_j108 rec x1 1 σ else (if y0 = 116 then jn_X6_peopleRead_j108 rec x1 2 σ else (if y0 = 112 then jn_X6_peopleRead_j108 rec x1 3 σ else (if y0 = 108 then jn_X6_peopleRead_j108 rec x1 4 σ else jn_X6_peopleRead_j108 rec x1 (-1) σ)))))
noncomputable def jn_X6_peopleRead_j41 (rec : Int32 → St6 → Option (Int32 × St6)) (x1 : Int32) (σ : St6) : Option (Int32 × St6) := (if (p6_isFault σ) = 0 then ((f_X6_here σ).bind (fun r5 => jn_X6_peopleRead_j56 rec x1 r5.1 r5.2)) else jn_X6_peopleRead_j56 rec x1 0 σ)
noncomputable def jn_X6_peopleRead_j22 (rec : Int32 → St6 → Option (Int32 × St6)) (x1 : Int32) (σ : St6) : Option (Int32 × St6) := (if x1 ≤ 0 then jn_X6_peopleRead_j41 rec x1 σ else (if 6 ≤ x1 then ((f_X6_must σ 0).bind (fun r33 => jn_X6_peopleRead_j41 rec x1 r33)) else ((f_X6_must σ 1).bind (fun r34 => jn_X6_peopleRead_j41 rec x1 r34))))
noncomputable def lp_X6_peopleRead_2  : Nat → Int32 → St6 → Option (Int32 × St6)
  | 0, _, _ => none
  | n + 1, x1, σ => (if (p6_isFault σ) = 0 then (if x1 = 0 then jn_X6_peopleRead_j22 (lp_X6_peopleRead_2 n) x1 σ else ((f_X6_here σ).bind (fun r35 => (if r35.1 = 44 then jn_X6_peopleRead_j22 (lp_X6_peopleRead_2 n) x1 r35.2 else some (x1, r35.2))))) else some (x1, σ))
noncomputable def f_X6_peopleRead (σ : St6) : Option (Int32 × St6) := ((lp_X6_peopleRead_2  FU 0 σ).bind (fun q37 => some (q37.1, q37.2)))
noncomputable def rmX6_peopleRead : Room := { frames := 2, cells := 0, slots := 0, locals := 50 }
set_option maxHeartbeats 4000000 in
set_option maxRecDepth 100000 in
theorem tj_X6_peopleRead_j235 {p : Program} {l : Launch} {e : Env} {s : State} {m : MethodId} {args : Array Value} {below : List Frame} {meth : Method} {c : Code} {D : va_G} {cA : Nat → ClassId} {A0 : Nat → Prop} {H0 : Heap} {a : Nat → Nat} (Z : Cx p s m args meth c cX6_peopleRead 7 (some .int) wsX6_peopleRead RX6 D cA) {Q : State → Prop} {rec : Int32 → St6 → Option (Int32 × St6)} (ih : ∀ (x1 : Int32) (σ : St6) (q : Int32 × St6), rec x1 σ = some q → ∀ (H : Heap) (locs : List Loc) (ls : Array Slot), va_P D vwCl ([w6 cA a σ] : List va_W).flatten H → va_D A0 ([w6 cA a σ] : List va_W).flatten → va_S A0 H0 H locs → lv_has ls 7 [(0, .ref (a 0)), (1, .int x1)] → (∀ (H : Heap) (locs : List Loc) (ls : Array Slot), va_P D vwCl ([w6 cA a q.2] : List va_W).flatten H → va_D A0 ([w6 cA a q.2] : List va_W).flatten → va_S A0 H0 H locs → lv_has ls 7 [(0, .ref (a 0)), (1, .int q.1)] → W p l e rmX6_peopleRead s m args below meth c H locs 0 0 Q (F0 m 293 ls [])) → W p l e rmX6_peopleRead s m args below meth c H locs 0 0 Q (F0 m 2 ls [])) (x1 : Int32) (x3 : Int32) (x4 : Int32) (x5 : Int32) (x6 : Int32) (σ : St6) (q : Int32 × St6) (h : jn_X6_peopleRead_j235 rec x1 x3 x4 x5 x6 σ = some q) (H : Heap) (locs : List Loc) (ls : Array Slot) (hP : va_P D vwCl ([w6 cA a σ] : List va_W).flatten H) (hD : va_D A0 ([w6 cA a σ] : List va_W).flatten) (hS : va_S A0 H0 H locs) (hl : lv_has ls 7 [(0, .ref (a 0)), (1, .int x1), (3, .int x3), (4, .int x4), (5, .int x5), (6, .int x6)]) (kk : (∀ (H : Heap) (locs : List Loc) (ls : Array Slot), va_P D vwCl ([w6 cA a q.2] : List va_W).flatten H → va_D A0 ([w6 cA a q.2] : List va_W).flatten → va_S A0 H0 H locs → lv_has ls 7 [(0, .ref (a 0)), (1, .int q.1)] → W p l e rmX6_peopleRead s m args below meth c H locs 0 0 Q (F0 m 293 ls []))) : W p l e rmX6_peopleRead s m args below meth c H locs 0 0 Q (F0 m 235 ls []) := by
  obtain ⟨hx, hb, hml, hown, hts, hr, hlk, hKK⟩ := id Z
  have hK := hKK.1
  rw [jn_X6_peopleRead_j235] at h
  refine lv_aload_n hx hb dX6_peopleRead_235 rfl (lv_at hl 0 rfl) ?_
  refine va_get (D := D) (ci := 6) (v := .int (p6_isFault σ)) (C := RX6) (T := TX6) (N := 19) hx hb hts in_X6_peopleRead_X6 hown hK hP 0 rfl rfl 5 (by decide) (hts _ lk_X6_peopleRead_133) (fun _ h9 => h9) rfl dX6_peopleRead_236 ?_
  refine lv_if_ne (tgt := 287) hx hb dX6_peopleRead_239 (by decide) (fun hc15 => ?_) (fun hc15 => ?_)
  · rw [if_neg hc15] at h
    refine lv_iinc (v := x1 + 1) (lv' := [(1, .int (x1 + 1)), (0, .ref (a 0)), (3, .int x3), (4, .int x4), (5, .int x5), (6, .int x6)]) hx hb dX6_peopleRead_287 hl (k := 1) rfl rfl (by decide) rfl (fun ls hl => ?_)
    refine lv_goto (tgt := 2) hx hb dX6_peopleRead_290 (by decide) ?_
    exact ih _ _ _ h _ _ _ hP hD hS (lv_sub hl [1, 0] rfl) kk
  · rw [if_pos hc15] at h
    refine lv_aload_n hx hb dX6_peopleRead_242 rfl (lv_at hl 0 rfl) ?_
    refine va_get (D := D) (ci := 6) (v := .ref (a 4)) (C := RX6) (T := TX6) (N := 19) hx hb hts in_X6_peopleRead_X6 hown hK hP 0 rfl rfl 6 (by decide) (hts _ lk_X6_peopleRead_19) (fun _ h9 => h9) rfl dX6_peopleRead_243 ?_
    refine lv_iconst (v := 4) hx hb dX6_peopleRead_246 (by decide) ?_
    refine lv_iload_n hx hb dX6_peopleRead_247 rfl (lv_at hl 1 rfl) ?_
    refine lv_imul hx hb dX6_peopleRead_248 ?_
    refine lv_iload_n hx hb dX6_peopleRead_249 rfl (lv_at hl 2 rfl) ?_
    obtain ⟨hg16, h⟩ := if_inv h
    refine va_iast hx hb hK hP hD hS 4 0 rfl rfl (inB_in hg16) dX6_peopleRead_250 (fun H locs hP hD hS => ?_)
    have hP : va_P D vwCl ([w6 cA a (s6_read σ (upd (p6_read σ) ((4 * x1).toNatClampNeg) x3))] : List va_W).flatten H := hP
    have hD : va_D _ ([w6 cA a (s6_read σ (upd (p6_read σ) ((4 * x1).toNatClampNeg) x3))] : List va_W).flatten := hD
    refine lv_aload_n hx hb dX6_peopleRead_251 rfl (lv_at hl 0 rfl) ?_
    refine va_get (D := D) (ci := 6) (v := .ref (a 4)) (C := RX6) (T := TX6) (N := 19) hx hb hts in_X6_peopleRead_X6 hown hK hP 0 rfl rfl 6 (by decide) (hts _ lk_X6_peopleRead_19) (fun _ h9 => h9) rfl dX6_peopleRead_252 ?_
    refine lv_iconst (v := 4) hx hb dX6_peopleRead_255 (by decide) ?_
    refine lv_iload_n hx hb dX6_peopleRead_256 rfl (lv_at hl 1 rfl) ?_
    refine lv_imul hx hb dX6_peopleRead_257 ?_
    refine lv_iconst (v := 1) hx hb dX6_peopleRead_258 (by decide) ?_
    refine lv_iadd hx hb dX6_peopleRead_259 ?_
    refine lv_iload hx hb dX6_peopleRead_260 (lv_at hl 3 rfl) ?_
    obtain ⟨hg17, h⟩ := if_inv h
    refine va_iast hx hb hK hP hD hS 4 0 rfl rfl (inB_in hg17) dX6_peopleRead_262 (fun H locs hP hD hS => ?_)
    have hP : va_P D vwCl ([w6 cA a (s6_read σ (upd (upd (p6_read σ) ((4 * x1).toNatClampNeg) x3) (((4 * x1) + 1).toNatClampNeg) x4))] : List va_W).flatten H := hP
    have hD : va_D _ ([w6 cA a (s6_read σ (upd (upd (p6_read σ) ((4 * x1).toNatClampNeg) x3) (((4 * x1) + 1).toNatClampNeg) x4))] : List va_W).flatten := hD
    refine lv_aload_n hx hb dX6_peopleRead_263 rfl (lv_at hl 0 rfl) ?_
    refine va_get (D := D) (ci := 6) (v := .ref (a 4)) (C := RX6) (T := TX6) (N := 19) hx hb hts in_X6_peopleRead_X6 hown hK hP 0 rfl rfl 6 (by decide) (hts _ lk_X6_peopleRead_19) (fun _ h9 => h9) rfl dX6_peopleRead_264 ?_
    refine lv_iconst (v := 4) hx hb dX6_peopleRead_267 (by decide) ?_
    refine lv_iload_n hx hb dX6_peopleRead_268 rfl (lv_at hl 1 rfl) ?_
    refine lv_imul hx hb dX6_peopleRead_269 ?_
    refine lv_iconst (v := 2) hx hb dX6_peopleRead_270 (by decide) ?_
    refine lv_iadd hx hb dX6_peopleRead_271 ?_
    refine lv_iload hx hb dX6_peopleRead_272 (lv_at hl 4 rfl) ?_
    obtain ⟨hg18, h⟩ := if_inv h
    refine va_iast hx hb hK hP hD hS 4 0 rfl rfl (inB_in hg18) dX6_peopleRead_274 (fun H locs hP hD hS => ?_)
    have hP : va_P D vwCl ([w6 cA a (s6_read σ (upd (upd (upd (p6_read σ) ((4 * x1).toNatClampNeg) x3) (((4 * x1) + 1).toNatClampNeg) x4) (((4 * x1) + 2).toNatClampNeg) x5))] : List va_W).flatten H := hP
    have hD : va_D _ ([w6 cA a (s6_read σ (upd (upd (upd (p6_read σ) ((4 * x1).toNatClampNeg) x3) (((4 * x1) + 1).toNatClampNeg) x4) (((4 * x1) + 2).toNatClampNeg) x5))] : List va_W).flatten := hD
    refine lv_aload_n hx hb dX6_peopleRead_275 rfl (lv_at hl 0 rfl) ?_
    refine va_get (D := D) (ci := 6) (v := .ref (a 4)) (C := RX6) (T := TX6) (N := 19) hx hb hts in_X6_peopleRead_X6 hown hK hP 0 rfl rfl 6 (by decide) (hts _ lk_X6_peopleRead_19) (fun _ h9 => h9) rfl dX6_peopleRead_276 ?_
    refine lv_iconst (v := 4) hx hb dX6_peopleRead_279 (by decide) ?_
    refine lv_iload_n hx hb dX6_peopleRead_280 rfl (lv_at hl 1 rfl) ?_
    refine lv_imul hx hb dX6_peopleRead_281 ?_
    refine lv_iconst (v := 3) hx hb dX6_peopleRead_282 (by decide) ?_
    refine lv_iadd hx hb dX6_peopleRead_283 ?_
    refine lv_iload hx hb dX6_peopleRead_284 (lv_at hl 5 rfl) ?_
    obtain ⟨hg19, h⟩ := if_inv h
    refine va_iast hx hb hK hP hD hS 4 0 rfl rfl (inB_in hg19) dX6_peopleRead_286 (fun H locs hP hD hS => ?_)
    have hP : va_P D vwCl ([w6 cA a (s6_read σ (upd (upd (upd (upd (p6_read σ) ((4 * x1).toNatClampNeg) x3) (((4 * x1) + 1).toNatClampNeg) x4) (((4 * x1) + 2).toNatClampNeg) x5) (((4 * x1) + 3).toNatClampNeg) x6))] : List va_W).flatten H := hP
    have hD : va_D _ ([w6 cA a (s6_read σ (upd (upd (upd (upd (p6_read σ) ((4 * x1).toNatClampNeg) x3) (((4 * x1) + 1).toNatClampNeg) x4) (((4 * x1) + 2).toNatClampNeg) x5) (((4 * x1) + 3).toNatClampNeg) x6))] : List va_W).flatten := hD
    refine lv_iinc (v := x1 + 1) (lv' := [(1, .int (x1 + 1)), (0, .ref (a 0)), (3, .int x3), (4, .int x4), (5, .int x5), (6, .int x6)]) hx hb dX6_peopleRead_287 hl (k := 1) rfl rfl (by decide) rfl (fun ls hl => ?_)
    refine lv_goto (tgt := 2) hx hb dX6_peopleRead_290 (by decide) ?_
    exact ih _ _ _ h _ _ _ hP hD hS (lv_sub hl [1, 0] rfl) kk
set_option maxHeartbeats 4000000 in
set_option maxRecDepth 100000 in
theorem tj_X6_peopleRead_j223 {p : Program} {l : Launch} {e : Env} {s : State} {m : MethodId} {args : Array Value} {below : List Frame} {meth : Method} {c : Code} {D : va_G} {cA : Nat → ClassId} {A0 : Nat → Prop} {H0 : Heap} {a : Nat → Nat} (Z : Cx p s m args meth c cX6_peopleRead 7 (some .int) wsX6_peopleRead RX6 D cA) {Q : State → Prop} {rec : Int32 → St6 → Option (Int32 × St6)} (ih : ∀ (x1 : Int32) (σ : St6) (q : Int32 × St6), rec x1 σ = some q → ∀ (H : Heap) (locs : List Loc) (ls : Array Slot), va_P D vwCl ([w6 cA a σ] : List va_W).flatten H → va_D A0 ([w6 cA a σ] : List va_W).flatten → va_S A0 H0 H locs → lv_has ls 7 [(0, .ref (a 0)), (1, .int x1)] → (∀ (H : Heap) (locs : List Loc) (ls : Array Slot), va_P D vwCl ([w6 cA a q.2] : List va_W).flatten H → va_D A0 ([w6 cA a q.2] : List va_W).flatten → va_S A0 H0 H locs → lv_has ls 7 [(0, .ref (a 0)), (1, .int q.1)] → W p l e rmX6_peopleRead s m args below meth c H locs 0 0 Q (F0 m 293 ls [])) → W p l e rmX6_peopleRead s m args below meth c H locs 0 0 Q (F0 m 2 ls [])) (x1 : Int32) (x3 : Int32) (x4 : Int32) (x5 : Int32) (y0 : Int32) (σ : St6) (q : Int32 × St6) (h : jn_X6_peopleRead_j223 rec x1 x3 x4 x5 y0 σ = some q) (H : Heap) (locs : List Loc) (ls : Array Slot) (hP : va_P D vwCl ([w6 cA a σ] : List va_W).flatten H) (hD : va_D A0 ([w6 cA a σ] : List va_W).flatten) (hS : va_S A0 H0 H locs) (hl : lv_has ls 7 [(0, .ref (a 0)), (1, .int x1), (3, .int x3), (4, .int x4), (5, .int x5)]) (kk : (∀ (H : Heap) (locs : List Loc) (ls : Array Slot), va_P D vwCl ([w6 cA a q.2] : List va_W).flatten H → va_D A0 ([w6 cA a q.2] : List va_W).flatten → va_S A0 H0 H locs → lv_has ls 7 [(0, .ref (a 0)), (1, .int q.1)] → W p l e rmX6_peopleRead s m args below meth c H locs 0 0 Q (F0 m 293 ls []))) : W p l e rmX6_peopleRead s m args below meth c H locs 0 0 Q (F0 m 223 ls [.int y0, .ref (a 0)]) := by
  obtain ⟨hx, hb, hml, hown, hts, hr, hlk, hKK⟩ := id Z
  have hK := hKK.1
  rw [jn_X6_peopleRead_j223] at h
  obtain ⟨r27, hr27, h⟩ := bind_inv h
  refine kV (rest := []) (st1 := []) (cr := []) (cs' := [w6 cA a r27]) Z (c_X6_must l D cA a σ y0 r27 hr27) 1 gX6_peopleRead_X6_must rfl hdX6_must ⟨rfl, rfl⟩ ⟨Nat.le_of_ble_eq_true rfl, Nat.le_of_ble_eq_true rfl⟩ ⟨Nat.zero_le _, Nat.zero_le _⟩ hP hD hS hl.1 rfl rfl rfl (Nat.le_of_ble_eq_true rfl) 6 rfl rfl rfl [0] [] [0] rfl rfl rfl rfl rfl dX6_peopleRead_223 (fun H locs hP hD hS => ?_)
  refine lv_aload_n hx hb dX6_peopleRead_226 rfl (lv_at hl 0 rfl) ?_
  refine lv_iconst (v := 1) hx hb dX6_peopleRead_227 (by decide) ?_
  refine lv_bipush (v := 12) hx hb dX6_peopleRead_228 (by decide) ?_
  obtain ⟨r28, hr28, h⟩ := bind_inv h
  refine kV (rest := []) (st1 := [.int r28.1]) (cr := []) (cs' := [w6 cA a r28.2]) Z (c_X6_number l D cA a r27 1 12 r28 hr28) 2 gX6_peopleRead_X6_number rfl hdX6_number ⟨rfl, rfl⟩ ⟨Nat.le_of_ble_eq_true rfl, Nat.le_of_ble_eq_true rfl⟩ ⟨Nat.zero_le _, Nat.zero_le _⟩ hP hD hS hl.1 rfl rfl rfl (Nat.le_of_ble_eq_true rfl) 6 rfl rfl rfl [0] [] [0] rfl rfl rfl rfl rfl dX6_peopleRead_230 (fun H locs hP hD hS => ?_)
  refine lv_istore (lv' := [(6, .int r28.1), (0, .ref (a 0)), (1, .int x1), (3, .int x3), (4, .int x4), (5, .int x5)]) hx hb dX6_peopleRead_233 hl (by decide) rfl (fun ls hl => ?_)
  exact tj_X6_peopleRead_j235 Z ih x1 x3 x4 x5 r28.1 r28.2 _ h _ _ _ hP hD hS (lv_sub hl [1, 2, 3, 4, 5, 0] rfl) kk
set_option maxHeartbeats 4000000 in
set_option maxRecDepth 100000 in
theorem tj_X6_peopleRead_j198 {p : Program} {l : Launch} {e : Env} {s : State} {m : MethodId} {args : Array Value} {below : List Frame} {meth : Method} {c : Code} {D : va_G} {cA : Nat → ClassId} {A0 : Nat → Prop} {H0 : Heap} {a : Nat → Nat} (Z : Cx p s m args meth c cX6_peopleRead 7 (some .int) wsX6_peopleRead RX6 D cA) {Q : State → Prop} {rec : Int32 → St6 → Option (Int32 × St6)} (ih : ∀ (x1 : Int32) (σ : St6) (q : Int32 × St6), rec x1 σ = some q → ∀ (H : Heap) (locs : List Loc) (ls : Array Slot), va_P D vwCl ([w6 cA a σ] : List va_W).flatten H → va_D A0 ([w6 cA a σ] : List va_W).flatten → va_S A0 H0 H locs → lv_has ls 7 [(0, .ref (a 0)), (1, .int x1)] → (∀ (H : Heap) (locs : List Loc) (ls : Array Slot), va_P D vwCl ([w6 cA a q.2] : List va_W).flatten H → va_D A0 ([w6 cA a q.2] : List va_W).flatten → va_S A0 H0 H locs → lv_has ls 7 [(0, .ref (a 0)), (1, .int q.1)] → W p l e rmX6_peopleRead s m args below meth c H locs 0 0 Q (F0 m 293 ls [])) → W p l e rmX6_peopleRead s m args below meth c H locs 0 0 Q (F0 m 2 ls [])) (x1 : Int32) (x3 : Int32) (x4 : Int32) (x5 : Int32) (y0 : Int32) (σ : St6) (q : Int32 × St6) (h : jn_X6_peopleRead_j198 rec x1 x3 x4 x5 y0 σ = some q) (H : Heap) (locs : List Loc) (ls : Array Slot) (hP : va_P D vwCl ([w6 cA a σ] : List va_W).flatten H) (hD : va_D A0 ([w6 cA a σ] : List va_W).flatten) (hS : va_S A0 H0 H locs) (hl : lv_has ls 7 [(0, .ref (a 0)), (1, .int x1), (3, .int x3), (4, .int x4), (5, .int x5)]) (kk : (∀ (H : Heap) (locs : List Loc) (ls : Array Slot), va_P D vwCl ([w6 cA a q.2] : List va_W).flatten H → va_D A0 ([w6 cA a q.2] : List va_W).flatten → va_S A0 H0 H locs → lv_has ls 7 [(0, .ref (a 0)), (1, .int q.1)] → W p l e rmX6_peopleRead s m args below meth c H locs 0 0 Q (F0 m 293 ls []))) : W p l e rmX6_peopleRead s m args below meth c H locs 0 0 Q (F0 m 198 ls [.int y0, .ref (a 0)]) := by
  obtain ⟨hx, hb, hml, hown, hts, hr, hlk, hKK⟩ := id Z
  have hK := hKK.1
  rw [jn_X6_peopleRead_j198] at h
  obtain ⟨r25, hr25, h⟩ := bind_inv h
  refine kV (rest := []) (st1 := []) (cr := []) (cs' := [w6 cA a r25]) Z (c_X6_must l D cA a σ y0 r25 hr25) 1 gX6_peopleRead_X6_must rfl hdX6_must ⟨rfl, rfl⟩ ⟨Nat.le_of_ble_eq_true rfl, Nat.le_of_ble_eq_true rfl⟩ ⟨Nat.zero_le _, Nat.zero_le _⟩ hP hD hS hl.1 rfl rfl rfl (Nat.le_of_ble_eq_true rfl) 6 rfl rfl rfl [0] [] [0] rfl rfl rfl rfl rfl dX6_peopleRead_198 (fun H locs hP hD hS => ?_)
  refine lv_aload_n hx hb dX6_peopleRead_201 rfl (lv_at hl 0 rfl) ?_
  refine lv_aload_n hx hb dX6_peopleRead_202 rfl (lv_at hl 0 rfl) ?_
  refine va_get (D := D) (ci := 6) (v := .int (p6_isFault r25)) (C := RX6) (T := TX6) (N := 19) hx hb hts in_X6_peopleRead_X6 hown hK hP 0 rfl rfl 5 (by decide) (hts _ lk_X6_peopleRead_133) (fun _ h9 => h9) rfl dX6_peopleRead_203 ?_
  refine lv_if_ne (tgt := 222) hx hb dX6_peopleRead_206 (by decide) (fun hc26 => ?_) (fun hc26 => ?_)
  · rw [if_neg hc26] at h
    refine lv_iconst (v := 0) hx hb dX6_peopleRead_222 (by decide) ?_
    exact tj_X6_peopleRead_j223 Z ih x1 x3 x4 x5 0 r25 _ h _ _ _ hP hD hS (lv_sub hl [0, 1, 2, 3, 4] rfl) kk
  · rw [if_pos hc26] at h
    refine lv_aload_n hx hb dX6_peopleRead_209 rfl (lv_at hl 0 rfl) ?_
    obtain ⟨r29, hr29, h⟩ := bind_inv h
    refine kV (rest := [.ref (a 0)]) (st1 := [.int r29.1, .ref (a 0)]) (cr := []) (cs' := [w6 cA a r29.2]) Z (c_X6_here l D cA a r25 r29 hr29) 0 gX6_peopleRead_X6_here rfl hdX6_here ⟨rfl, rfl⟩ ⟨Nat.le_of_ble_eq_true rfl, Nat.le_of_ble_eq_true rfl⟩ ⟨Nat.zero_le _, Nat.zero_le _⟩ hP hD hS hl.1 rfl rfl rfl (Nat.le_of_ble_eq_true rfl) 6 rfl rfl rfl [0] [] [0] rfl rfl rfl rfl rfl dX6_peopleRead_210 (fun H locs hP hD hS => ?_)
    refine lv_bipush (v := 58) hx hb dX6_peopleRead_213 (by decide) ?_
    refine lv_icmp_ne (tgt := 222) hx hb dX6_peopleRead_215 (by decide) (fun hc30 => ?_) (fun hc30 => ?_)
    · rw [if_neg hc30] at h
      refine lv_iconst (v := 0) hx hb dX6_peopleRead_222 (by decide) ?_
      exact tj_X6_peopleRead_j223 Z ih x1 x3 x4 x5 0 r29.2 _ h _ _ _ hP hD hS (lv_sub hl [0, 1, 2, 3, 4] rfl) kk
    · rw [if_pos hc30] at h
      refine lv_iconst (v := 1) hx hb dX6_peopleRead_218 (by decide) ?_
      refine lv_goto (tgt := 223) hx hb dX6_peopleRead_219 (by decide) ?_
      exact tj_X6_peopleRead_j223 Z ih x1 x3 x4 x5 1 r29.2 _ h _ _ _ hP hD hS (lv_sub hl [0, 1, 2, 3, 4] rfl) kk
set_option maxHeartbeats 4000000 in
set_option maxRecDepth 100000 in
theorem tj_X6_peopleRead_j119 {p : Program} {l : Launch} {e : Env} {s : State} {m : MethodId} {args : Array Value} {below : List Frame} {meth : Method} {c : Code} {D : va_G} {cA : Nat → ClassId} {A0 : Nat → Prop} {H0 : Heap} {a : Nat → Nat} (Z : Cx p s m args meth c cX6_peopleRead 7 (some .int) wsX6_peopleRead RX6 D cA) {Q : State → Prop} {rec : Int32 → St6 → Option (Int32 × St6)} (ih : ∀ (x1 : Int32) (σ : St6) (q : Int32 × St6), rec x1 σ = some q → ∀ (H : Heap) (locs : List Loc) (ls : Array Slot), va_P D vwCl ([w6 cA a σ] : List va_W).flatten H → va_D A0 ([w6 cA a σ] : List va_W).flatten → va_S A0 H0 H locs → lv_has ls 7 [(0, .ref (a 0)), (1, .int x1)] → (∀ (H : Heap) (locs : List Loc) (ls : Array Slot), va_P D vwCl ([w6 cA a q.2] : List va_W).flatten H → va_D A0 ([w6 cA a q.2] : List va_W).flatten → va_S A0 H0 H locs → lv_has ls 7 [(0, .ref (a 0)), (1, .int q.1)] → W p l e rmX6_peopleRead s m args below meth c H locs 0 0 Q (F0 m 293 ls [])) → W p l e rmX6_peopleRead s m args below meth c H locs 0 0 Q (F0 m 2 ls [])) (x1 : Int32) (x3 : Int32) (y0 : Int32) (σ : St6) (q : Int32 × St6) (h : jn_X6_peopleRead_j119 rec x1 x3 y0 σ = some q) (H : Heap) (locs : List Loc) (ls : Array Slot) (hP : va_P D vwCl ([w6 cA a σ] : List va_W).flatten H) (hD : va_D A0 ([w6 cA a σ] : List va_W).flatten) (hS : va_S A0 H0 H locs) (hl : lv_has ls 7 [(0, .ref (a 0)), (1, .int x1), (3, .int x3)]) (kk : (∀ (H : Heap) (locs : List Loc) (ls : Array Slot), va_P D vwCl ([w6 cA a q.2] : List va_W).flatten H → va_D A0 ([w6 cA a q.2] : List va_W).flatten → va_S A0 H0 H locs → lv_has ls 7 [(0, .ref (a 0)), (1, .int q.1)] → W p l e rmX6_peopleRead s m args below meth c H locs 0 0 Q (F0 m 293 ls []))) : W p l e rmX6_peopleRead s m args below meth c H locs 0 0 Q (F0 m 119 ls [.int y0, .ref (a 0)]) := by
  obtain ⟨hx, hb, hml, hown, hts, hr, hlk, hKK⟩ := id Z
  have hK := hKK.1
  rw [jn_X6_peopleRead_j119] at h
  obtain ⟨r12, hr12, h⟩ := bind_inv h
  refine kV (rest := []) (st1 := []) (cr := []) (cs' := [w6 cA a r12]) Z (c_X6_must l D cA a σ y0 r12 hr12) 1 gX6_peopleRead_X6_must rfl hdX6_must ⟨rfl, rfl⟩ ⟨Nat.le_of_ble_eq_true rfl, Nat.le_of_ble_eq_true rfl⟩ ⟨Nat.zero_le _, Nat.zero_le _⟩ hP hD hS hl.1 rfl rfl rfl (Nat.le_of_ble_eq_true rfl) 6 rfl rfl rfl [0] [] [0] rfl rfl rfl rfl rfl dX6_peopleRead_119 (fun H locs hP hD hS => ?_)
  refine lv_aload_n hx hb dX6_peopleRead_122 rfl (lv_at hl 0 rfl) ?_
  refine lv_iconst (v := 0) hx hb dX6_peopleRead_123 (by decide) ?_
  refine lv_bipush (v := 30) hx hb dX6_peopleRead_124 (by decide) ?_
  obtain ⟨r13, hr13, h⟩ := bind_inv h
  refine kV (rest := []) (st1 := [.int r13.1]) (cr := []) (cs' := [w6 cA a r13.2]) Z (c_X6_number l D cA a r12 0 30 r13 hr13) 2 gX6_peopleRead_X6_number rfl hdX6_number ⟨rfl, rfl⟩ ⟨Nat.le_of_ble_eq_true rfl, Nat.le_of_ble_eq_true rfl⟩ ⟨Nat.zero_le _, Nat.zero_le _⟩ hP hD hS hl.1 rfl rfl rfl (Nat.le_of_ble_eq_true rfl) 6 rfl rfl rfl [0] [] [0] rfl rfl rfl rfl rfl dX6_peopleRead_126 (fun H locs hP hD hS => ?_)
  refine lv_istore (lv' := [(4, .int r13.1), (0, .ref (a 0)), (1, .int x1), (3, .int x3)]) hx hb dX6_peopleRead_129 hl (by decide) rfl (fun ls hl => ?_)
  refine lv_bipush (v := (-4)) hx hb dX6_peopleRead_131 (by decide) ?_
  refine lv_istore (lv' := [(5, .int (-4)), (4, .int r13.1), (0, .ref (a 0)), (1, .int x1), (3, .int x3)]) hx hb dX6_peopleRead_133 hl (by decide) rfl (fun ls hl => ?_)
  refine lv_iconst (v := 1) hx hb dX6_peopleRead_135 (by decide) ?_
  refine lv_istore (lv' := [(6, .int 1), (5, .int (-4)), (4, .int r13.1), (0, .ref (a 0)), (1, .int x1), (3, .int x3)]) hx hb dX6_peopleRead_136 hl (by decide) rfl (fun ls hl => ?_)
  refine lv_aload_n hx hb dX6_peopleRead_138 rfl (lv_at hl 3 rfl) ?_
  refine va_get (D := D) (ci := 6) (v := .int (p6_isFault r13.2)) (C := RX6) (T := TX6) (N := 19) hx hb hts in_X6_peopleRead_X6 hown hK hP 0 rfl rfl 5 (by decide) (hts _ lk_X6_peopleRead_133) (fun _ h9 => h9) rfl dX6_peopleRead_139 ?_
  refine lv_if_ne (tgt := 235) hx hb dX6_peopleRead_142 (by decide) (fun hc14 => ?_) (fun hc14 => ?_)
  · rw [if_neg hc14] at h
    exact tj_X6_peopleRead_j235 Z ih x1 x3 r13.1 (-4) 1 r13.2 _ h _ _ _ hP hD hS (lv_sub hl [3, 4, 5, 2, 1, 0] rfl) kk
  · rw [if_pos hc14] at h
    refine lv_aload_n hx hb dX6_peopleRead_145 rfl (lv_at hl 3 rfl) ?_
    obtain ⟨r20, hr20, h⟩ := bind_inv h
    refine kV (rest := []) (st1 := [.int r20.1]) (cr := []) (cs' := [w6 cA a r20.2]) Z (c_X6_here l D cA a r13.2 r20 hr20) 0 gX6_peopleRead_X6_here rfl hdX6_here ⟨rfl, rfl⟩ ⟨Nat.le_of_ble_eq_true rfl, Nat.le_of_ble_eq_true rfl⟩ ⟨Nat.zero_le _, Nat.zero_le _⟩ hP hD hS hl.1 rfl rfl rfl (Nat.le_of_ble_eq_true rfl) 6 rfl rfl rfl [0] [] [0] rfl rfl rfl rfl rfl dX6_peopleRead_146 (fun H locs hP hD hS => ?_)
    refine lv_bipush (v := 62) hx hb dX6_peopleRead_149 (by decide) ?_
    refine lv_icmp_ne (tgt := 235) hx hb dX6_peopleRead_151 (by decide) (fun hc21 => ?_) (fun hc21 => ?_)
    · rw [if_neg hc21] at h
      exact tj_X6_peopleRead_j235 Z ih x1 x3 r13.1 (-4) 1 r20.2 _ h _ _ _ hP hD hS (lv_sub hl [3, 4, 5, 2, 1, 0] rfl) kk
    · rw [if_pos hc21] at h
      refine lv_aload_n hx hb dX6_peopleRead_154 rfl (lv_at hl 3 rfl) ?_
      refine lv_dup hx hb dX6_peopleRead_155 rfl ?_
      refine va_get (D := D) (ci := 6) (v := .int (p6_place r20.2)) (C := RX6) (T := TX6) (N := 19) hx hb hts in_X6_peopleRead_X6 hown hK hP 0 rfl rfl 4 (by decide) (hts _ lk_X6_peopleRead_130) (fun _ h9 => h9) rfl dX6_peopleRead_156 ?_
      refine lv_iconst (v := 1) hx hb dX6_peopleRead_159 (by decide) ?_
      refine lv_iadd hx hb dX6_peopleRead_160 ?_
      refine va_put (D := D) (ci := 6) (v := .int ((p6_place r20.2) + 1)) (ty := .int) (C := RX6) (T := TX6) (N := 19) hx hb hts in_X6_peopleRead_X6 tyX6 tyX6_ok nmX6 hown hK hP hD hS 0 rfl rfl 4 (by decide) (hts _ lk_X6_peopleRead_130) (fun _ h9 => h9) rfl (tyX6_ok 4 (by decide)) rfl rfl (Nat.le_of_ble_eq_true rfl) dX6_peopleRead_161 (fun H locs hP hD hS => ?_)
      have hP : va_P D vwCl ([w6 cA a (s6_place r20.2 ((p6_place r20.2) + 1))] : List va_W).flatten H := hP
      have hD : va_D _ ([w6 cA a (s6_place r20.2 ((p6_place r20.2) + 1))] : List va_W).flatten := hD
      refine lv_aload_n hx hb dX6_peopleRead_164 rfl (lv_at hl 3 rfl) ?_
      obtain ⟨r22, hr22, h⟩ := bind_inv h
      refine kV (rest := []) (st1 := [.int r22.1]) (cr := []) (cs' := [w6 cA a r22.2]) Z (c_X6_here l D cA a (s6_place r20.2 ((p6_place r20.2) + 1)) r22 hr22) 0 gX6_peopleRead_X6_here rfl hdX6_here ⟨rfl, rfl⟩ ⟨Nat.le_of_ble_eq_true rfl, Nat.le_of_ble_eq_true rfl⟩ ⟨Nat.zero_le _, Nat.zero_le _⟩ hP hD hS hl.1 rfl rfl rfl (Nat.le_of_ble_eq_true rfl) 6 rfl rfl rfl [0] [] [0] rfl rfl rfl rfl rfl dX6_peopleRead_165 (fun H locs hP hD hS => ?_)
      refine lv_bipush (v := 48) hx hb dX6_peopleRead_168 (by decide) ?_
      refine lv_isub hx hb dX6_peopleRead_170 ?_
      refine lv_istore (lv' := [(5, .int (r22.1 - 48)), (6, .int 1), (4, .int r13.1), (0, .ref (a 0)), (1, .int x1), (3, .int x3)]) hx hb dX6_peopleRead_171 hl (by decide) rfl (fun ls hl => ?_)
      refine lv_aload_n hx hb dX6_peopleRead_173 rfl (lv_at hl 3 rfl) ?_
      refine lv_iload hx hb dX6_peopleRead_174 (lv_at hl 0 rfl) ?_
      refine lv_i2l (v := (r22.1 - 48).toInt64) hx hb dX6_peopleRead_176 rfl ?_
      refine lv_lconst (v := 0) hx hb dX6_peopleRead_177 (by decide) ?_
      refine lv_ldc2 hx hb hown (hts _ ck_X6_peopleRead_105) dX6_peopleRead_178 ?_
      obtain ⟨r23, hr23, h⟩ := bind_inv h
      refine kS (rest := [.ref (a 0)]) (st1 := [.int r23, .ref (a 0)]) (cr := [w6 cA a r22.2]) (cs' := [w6 cA a r22.2]) Z (c_X6_in l D cA ((r22.1 - 48).toInt64) 0 5 r23 hr23) 3 gX6_peopleRead_X6_in rfl hdX6_in ⟨rfl, rfl⟩ ⟨Nat.le_of_ble_eq_true rfl, Nat.le_of_ble_eq_true rfl⟩ ⟨Nat.zero_le _, Nat.zero_le _⟩ hP hD hS hl.1 rfl rfl rfl (Nat.le_of_ble_eq_true rfl) [] [0] [0] rfl rfl rfl rfl rfl dX6_peopleRead_181 (fun H locs hP hD hS => ?_)
      refine lv_if_eq (tgt := 197) hx hb dX6_peopleRead_184 (by decide) (fun hc24 => ?_) (fun hc24 => ?_)
      · rw [if_pos hc24] at h
        refine lv_iconst (v := 0) hx hb dX6_peopleRead_197 (by decide) ?_
        exact tj_X6_peopleRead_j198 Z ih x1 x3 r13.1 (r22.1 - 48) 0 r22.2 _ h _ _ _ hP hD hS (lv_sub hl [3, 4, 5, 2, 0] rfl) kk
      · rw [if_neg hc24] at h
        refine lv_iload hx hb dX6_peopleRead_187 (lv_at hl 0 rfl) ?_
        refine lv_iload_n hx hb dX6_peopleRead_189 rfl (lv_at hl 4 rfl) ?_
        refine lv_icmp_eq (tgt := 197) hx hb dX6_peopleRead_190 (by decide) (fun hc31 => ?_) (fun hc31 => ?_)
        · rw [if_pos hc31] at h
          refine lv_iconst (v := 0) hx hb dX6_peopleRead_197 (by decide) ?_
          exact tj_X6_peopleRead_j198 Z ih x1 x3 r13.1 (r22.1 - 48) 0 r22.2 _ h _ _ _ hP hD hS (lv_sub hl [3, 4, 5, 2, 0] rfl) kk
        · rw [if_neg hc31] at h
          refine lv_iconst (v := 1) hx hb dX6_peopleRead_193 (by decide) ?_
          refine lv_goto (tgt := 198) hx hb dX6_peopleRead_194 (by decide) ?_
          exact tj_X6_peopleRead_j198 Z ih x1 x3 r13.1 (r22.1 - 48) 1 r22.2 _ h _ _ _ hP hD hS (lv_sub hl [3, 4, 5, 2, 0] rfl) kk
set_option maxHeartbeats 4000000 in
set_option maxRecDepth 100000 in
theorem tj_X6_peopleRead_j108 {p : Program} {l : Launch} {e : Env} {s : State} {m : MethodId} {args : Array Value} {below : List Frame} {meth : Method} {c : Code} {D : va_G} {cA : Nat → ClassId} {A0 : Nat → Prop} {H0 : Heap} {a : Nat → Nat} (Z : Cx p s m args meth c cX6_peopleRead 7 (some .int) wsX6_peopleRead RX6 D cA) {Q : State → Prop} {rec : Int32 → St6 → Option (Int32 × St6)} (ih : ∀ (x1 : Int32) (σ : St6) (q : Int32 × St6), rec x1 σ = some q → ∀ (H : Heap) (locs : List Loc) (ls : Array Slot), va_P D vwCl ([w6 cA a σ] : List va_W).flatten H → va_D A0 ([w6 cA a σ] : List va_W).flatten → va_S A0 H0 H locs → lv_has ls 7 [(0, .ref (a 0)), (1, .int x1)] → (∀ (H : Heap) (locs : List Loc) (ls : Array Slot), va_P D vwCl ([w6 cA a q.2] : List va_W).flatten H → va_D A0 ([w6 cA a q.2] : List va_W).flatten → va_S A0 H0 H locs → lv_has ls 7 [(0, .ref (a 0)), (1, .int q.1)] → W p l e rmX6_peopleRead s m args below meth c H locs 0 0 Q (F0 m 293 ls [])) → W p l e rmX6_peopleRead s m args below meth c H locs 0 0 Q (F0 m 2 ls [])) (x1 : Int32) (y0 : Int32) (σ : St6) (q : Int32 × St6) (h : jn_X6_peopleRead_j108 rec x1 y0 σ = some q) (H : Heap) (locs : List Loc) (ls : Array Slot) (hP : va_P D vwCl ([w6 cA a σ] : List va_W).flatten H) (hD : va_D A0 ([w6 cA a σ] : List va_W).flatten) (hS : va_S A0 H0 H locs) (hl : lv_has ls 7 [(0, .ref (a 0)), (1, .int x1)]) (kk : (∀ (H : Heap) (locs : List Loc) (ls : Array Slot), va_P D vwCl ([w6 cA a q.2] : List va_W).flatten H → va_D A0 ([w6 cA a q.2] : List va_W).flatten → va_S A0 H0 H locs → lv_has ls 7 [(0, .ref (a 0)), (1, .int q.1)] → W p l e rmX6_peopleRead s m args below meth c H locs 0 0 Q (F0 m 293 ls []))) : W p l e rmX6_peopleRead s m args below meth c H locs 0 0 Q (F0 m 108 ls [.int y0]) := by
  obtain ⟨hx, hb, hml, hown, hts, hr, hlk, hKK⟩ := id Z
  have hK := hKK.1
  rw [jn_X6_peopleRead_j108] at h
  refine lv_istore_n (lv' := [(3, .int y0), (0, .ref (a 0)), (1, .int x1)]) hx hb dX6_peopleRead_108 rfl hl (by decide) rfl (fun ls hl => ?_)
  refine lv_aload_n hx hb dX6_peopleRead_109 rfl (lv_at hl 1 rfl) ?_
  refine lv_iload_n hx hb dX6_peopleRead_110 rfl (lv_at hl 0 rfl) ?_
  refine lv_if_lt (tgt := 118) hx hb dX6_peopleRead_111 (by decide) (fun hc11 => ?_) (fun hc11 => ?_)
  · rw [if_pos hc11] at h
    refine lv_iconst (v := 0) hx hb dX6_peopleRead_118 (by decide) ?_
    exact tj_X6_peopleRead_j119 Z ih x1 y0 0 σ _ h _ _ _ hP hD hS (lv_sub hl [1, 2, 0] rfl) kk
  · rw [if_neg hc11] at h
    refine lv_iconst (v := 1) hx hb dX6_peopleRead_114 (by decide) ?_
    refine lv_goto (tgt := 119) hx hb dX6_peopleRead_115 (by decide) ?_
    exact tj_X6_peopleRead_j119 Z ih x1 y0 1 σ _ h _ _ _ hP hD hS (lv_sub hl [1, 2, 0] rfl) kk
set_option maxHeartbeats 4000000 in
set_option maxRecDepth 100000 in
theorem tj_X6_peopleRead_j56 {p : Program} {l : Launch} {e : Env} {s : State} {m : MethodId} {args : Array Value} {below : List Frame} {meth : Method} {c : Code} {D : va_G} {cA : Nat → ClassId} {A0 : Nat → Prop} {H0 : Heap} {a : Nat → Nat} (Z : Cx p s m args meth c cX6_peopleRead 7 (some .int) wsX6_peopleRead RX6 D cA) {Q : State → Prop} {rec : Int32 → St6 → Option (Int32 × St6)} (ih : ∀ (x1 : Int32) (σ : St6) (q : Int32 × St6), rec x1 σ = some q → ∀ (H : Heap) (locs : List Loc) (ls : Array Slot), va_P D vwCl ([w6 cA a σ] : List va_W).flatten H → va_D A0 ([w6 cA a σ] : List va_W).flatten → va_S A0 H0 H locs → lv_has ls 7 [(0, .ref (a 0)), (1, .int x1)] → (∀ (H : Heap) (locs : List Loc) (ls : Array Slot), va_P D vwCl ([w6 cA a q.2] : List va_W).flatten H → va_D A0 ([w6 cA a q.2] : List va_W).flatten → va_S A0 H0 H locs → lv_has ls 7 [(0, .ref (a 0)), (1, .int q.1)] → W p l e rmX6_peopleRead s m args below meth c H locs 0 0 Q (F0 m 293 ls [])) → W p l e rmX6_peopleRead s m args below meth c H locs 0 0 Q (F0 m 2 ls [])) (x1 : Int32) (y0 : Int32) (σ : St6) (q : Int32 × St6) (h : jn_X6_peopleRead_j56 rec x1 y0 σ = some q) (H : Heap) (locs : List Loc) (ls : Array Slot) (hP : va_P D vwCl ([w6 cA a σ] : List va_W).flatten H) (hD : va_D A0 ([w6 cA a σ] : List va_W).flatten) (hS : va_S A0 H0 H locs) (hl : lv_has ls 7 [(0, .ref (a 0)), (1, .int x1)]) (kk : (∀ (H : Heap) (locs : List Loc) (ls : Array Slot), va_P D vwCl ([w6 cA a q.2] : List va_W).flatten H → va_D A0 ([w6 cA a q.2] : List va_W).flatten → va_S A0 H0 H locs → lv_has ls 7 [(0, .ref (a 0)), (1, .int q.1)] → W p l e rmX6_peopleRead s m args below meth c H locs 0 0 Q (F0 m 293 ls []))) : W p l e rmX6_peopleRead s m args below meth c H locs 0 0 Q (F0 m 56 ls [.int y0]) := by
  obtain ⟨hx, hb, hml, hown, hts, hr, hlk, hKK⟩ := id Z
  have hK := hKK.1
  rw [jn_X6_peopleRead_j56] at h
  refine lv_istore_n (lv' := [(2, .int y0), (0, .ref (a 0)), (1, .int x1)]) hx hb dX6_peopleRead_56 rfl hl (by decide) rfl (fun ls hl => ?_)
  refine lv_iload_n hx hb dX6_peopleRead_57 rfl (lv_at hl 0 rfl) ?_
  refine lv_bipush (v := 103) hx hb dX6_peopleRead_58 (by decide) ?_
  refine lv_icmp_ne (tgt := 67) hx hb dX6_peopleRead_60 (by decide) (fun hc6 => ?_) (fun hc6 => ?_)
  · rw [if_neg hc6] at h
    refine lv_iload_n hx hb dX6_peopleRead_67 rfl (lv_at hl 0 rfl) ?_
    refine lv_bipush (v := 99) hx hb dX6_peopleRead_68 (by decide) ?_
    refine lv_icmp_ne (tgt := 77) hx hb dX6_peopleRead_70 (by decide) (fun hc7 => ?_) (fun hc7 => ?_)
    · rw [if_neg hc7] at h
      refine lv_iload_n hx hb dX6_peopleRead_77 rfl (lv_at hl 0 rfl) ?_
      refine lv_bipush (v := 116) hx hb dX6_peopleRead_78 (by decide) ?_
      refine lv_icmp_ne (tgt := 87) hx hb dX6_peopleRead_80 (by decide) (fun hc8 => ?_) (fun hc8 => ?_)
      · rw [if_neg hc8] at h
        refine lv_iload_n hx hb dX6_peopleRead_87 rfl (lv_at hl 0 rfl) ?_
        refine lv_bipush (v := 112) hx hb dX6_peopleRead_88 (by decide) ?_
        refine lv_icmp_ne (tgt := 97) hx hb dX6_peopleRead_90 (by decide) (fun hc9 => ?_) (fun hc9 => ?_)
        · rw [if_neg hc9] at h
          refine lv_iload_n hx hb dX6_peopleRead_97 rfl (lv_at hl 0 rfl) ?_
          refine lv_bipush (v := 108) hx hb dX6_peopleRead_98 (by decide) ?_
          refine lv_icmp_ne (tgt := 107) hx hb dX6_peopleRead_100 (by decide) (fun hc10 => ?_) (fun hc10 => ?_)
          · rw [if_neg hc10] at h
            refine lv_iconst (v := (-1)) hx hb dX6_peopleRead_107 (by decide) ?_
            exact tj_X6_peopleRead_j108 Z ih x1 (-1) σ _ h _ _ _ hP hD hS (lv_sub hl [1, 2] rfl) kk
          · rw [if_pos hc10] at h
            refine lv_iconst (v := 4) hx hb dX6_peopleRead_103 (by decide) ?_
            refine lv_goto (tgt := 108) hx hb dX6_peopleRead_104 (by decide) ?_
            exact tj_X6_peopleRead_j108 Z ih x1 4 σ _ h _ _ _ hP hD hS (lv_sub hl [1, 2] rfl) kk
        · rw [if_pos hc9] at h
          refine lv_iconst (v := 3) hx hb dX6_peopleRead_93 (by decide) ?_
          refine lv_goto (tgt := 108) hx hb dX6_peopleRead_94 (by decide) ?_
          exact tj_X6_peopleRead_j108 Z ih x1 3 σ _ h _ _ _ hP hD hS (lv_sub hl [1, 2] rfl) kk
      · rw [if_pos hc8] at h
        refine lv_iconst (v := 2) hx hb dX6_peopleRead_83 (by decide) ?_
        refine lv_goto (tgt := 108) hx hb dX6_peopleRead_84 (by decide) ?_
        exact tj_X6_peopleRead_j108 Z ih x1 2 σ _ h _ _ _ hP hD hS (lv_sub hl [1, 2] rfl) kk
    · rw [if_pos hc7] at h
      refine lv_iconst (v := 1) hx hb dX6_peopleRead_73 (by decide) ?_
      refine lv_goto (tgt := 108) hx hb dX6_peopleRead_74 (by decide) ?_
      exact tj_X6_peopleRead_j108 Z ih x1 1 σ _ h _ _ _ hP hD hS (lv_sub hl [1, 2] rfl) kk
  · rw [if_pos hc6] at h
    refine lv_iconst (v := 0) hx hb dX6_peopleRead_63 (by decide) ?_
    refine lv_goto (tgt := 108) hx hb dX6_peopleRead_64 (by decide) ?_
    exact tj_X6_peopleRead_j108 Z ih x1 0 σ _ h _ _ _ hP hD hS (lv_sub hl [1, 2] rfl) kk
set_option maxHeartbeats 4000000 in
set_option maxRecDepth 100000 in
theorem tj_X6_peopleRead_j41 {p : Program} {l : Launch} {e : Env} {s : State} {m : MethodId} {args : Array Value} {below : List Frame} {meth : Method} {c : Code} {D : va_G} {cA : Nat → ClassId} {A0 : Nat → Prop} {H0 : Heap} {a : Nat → Nat} (Z : Cx p s m args meth c cX6_peopleRead 7 (some .int) wsX6_peopleRead RX6 D cA) {Q : State → Prop} {rec : Int32 → St6 → Option (Int32 × St6)} (ih : ∀ (x1 : Int32) (σ : St6) (q : Int32 × St6), rec x1 σ = some q → ∀ (H : Heap) (locs : List Loc) (ls : Array Slot), va_P D vwCl ([w6 cA a σ] : List va_W).flatten H → va_D A0 ([w6 cA a σ] : List va_W).flatten → va_S A0 H0 H locs → lv_has ls 7 [(0, .ref (a 0)), (1, .int x1)] → (∀ (H : Heap) (locs : List Loc) (ls : Array Slot), va_P D vwCl ([w6 cA a q.2] : List va_W).flatten H → va_D A0 ([w6 cA a q.2] : List va_W).flatten → va_S A0 H0 H locs → lv_has ls 7 [(0, .ref (a 0)), (1, .int q.1)] → W p l e rmX6_peopleRead s m args below meth c H locs 0 0 Q (F0 m 293 ls [])) → W p l e rmX6_peopleRead s m args below meth c H locs 0 0 Q (F0 m 2 ls [])) (x1 : Int32) (σ : St6) (q : Int32 × St6) (h : jn_X6_peopleRead_j41 rec x1 σ = some q) (H : Heap) (locs : List Loc) (ls : Array Slot) (hP : va_P D vwCl ([w6 cA a σ] : List va_W).flatten H) (hD : va_D A0 ([w6 cA a σ] : List va_W).flatten) (hS : va_S A0 H0 H locs) (hl : lv_has ls 7 [(0, .ref (a 0)), (1, .int x1)]) (kk : (∀ (H : Heap) (locs : List Loc) (ls : Array Slot), va_P D vwCl ([w6 cA a q.2] : List va_W).flatten H → va_D A0 ([w6 cA a q.2] : List va_W).flatten → va_S A0 H0 H locs → lv_has ls 7 [(0, .ref (a 0)), (1, .int q.1)] → W p l e rmX6_peopleRead s m args below meth c H locs 0 0 Q (F0 m 293 ls []))) : W p l e rmX6_peopleRead s m args below meth c H locs 0 0 Q (F0 m 41 ls []) := by
  obtain ⟨hx, hb, hml, hown, hts, hr, hlk, hKK⟩ := id Z
  have hK := hKK.1
  rw [jn_X6_peopleRead_j41] at h
  refine lv_aload_n hx hb dX6_peopleRead_41 rfl (lv_at hl 0 rfl) ?_
  refine va_get (D := D) (ci := 6) (v := .int (p6_isFault σ)) (C := RX6) (T := TX6) (N := 19) hx hb hts in_X6_peopleRead_X6 hown hK hP 0 rfl rfl 5 (by decide) (hts _ lk_X6_peopleRead_133) (fun _ h9 => h9) rfl dX6_peopleRead_42 ?_
  refine lv_if_eq (tgt := 52) hx hb dX6_peopleRead_45 (by decide) (fun hc4 => ?_) (fun hc4 => ?_)
  · rw [if_pos hc4] at h
    refine lv_aload_n hx hb dX6_peopleRead_52 rfl (lv_at hl 0 rfl) ?_
    obtain ⟨r5, hr5, h⟩ := bind_inv h
    refine kV (rest := []) (st1 := [.int r5.1]) (cr := []) (cs' := [w6 cA a r5.2]) Z (c_X6_here l D cA a σ r5 hr5) 0 gX6_peopleRead_X6_here rfl hdX6_here ⟨rfl, rfl⟩ ⟨Nat.le_of_ble_eq_true rfl, Nat.le_of_ble_eq_true rfl⟩ ⟨Nat.zero_le _, Nat.zero_le _⟩ hP hD hS hl.1 rfl rfl rfl (Nat.le_of_ble_eq_true rfl) 6 rfl rfl rfl [0] [] [0] rfl rfl rfl rfl rfl dX6_peopleRead_53 (fun H locs hP hD hS => ?_)
    exact tj_X6_peopleRead_j56 Z ih x1 r5.1 r5.2 _ h _ _ _ hP hD hS (lv_sub hl [0, 1] rfl) kk
  · rw [if_neg hc4] at h
    refine lv_iconst (v := 0) hx hb dX6_peopleRead_48 (by decide) ?_
    refine lv_goto (tgt := 56) hx hb dX6_peopleRead_49 (by decide) ?_
    exact tj_X6_peopleRead_j56 Z ih x1 0 σ _ h _ _ _ hP hD hS (lv_sub hl [0, 1] rfl) kk
set_option maxHeartbeats 4000000 in
set_option maxRecDepth 100000 in
theorem tj_X6_peopleRead_j22 {p : Program} {l : Launch} {e : Env} {s : State} {m : MethodId} {args : Array Value} {below : List Frame} {meth : Method} {c : Code} {D : va_G} {cA : Nat → ClassId} {A0 : Nat → Prop} {H0 : Heap} {a : Nat → Nat} (Z : Cx p s m args meth c cX6_peopleRead 7 (some .int) wsX6_peopleRead RX6 D cA) {Q : State → Prop} {rec : Int32 → St6 → Option (Int32 × St6)} (ih : ∀ (x1 : Int32) (σ : St6) (q : Int32 × St6), rec x1 σ = some q → ∀ (H : Heap) (locs : List Loc) (ls : Array Slot), va_P D vwCl ([w6 cA a σ] : List va_W).flatten H → va_D A0 ([w6 cA a σ] : List va_W).flatten → va_S A0 H0 H locs → lv_has ls 7 [(0, .ref (a 0)), (1, .int x1)] → (∀ (H : Heap) (locs : List Loc) (ls : Array Slot), va_P D vwCl ([w6 cA a q.2] : List va_W).flatten H → va_D A0 ([w6 cA a q.2] : List va_W).flatten → va_S A0 H0 H locs → lv_has ls 7 [(0, .ref (a 0)), (1, .int q.1)] → W p l e rmX6_peopleRead s m args below meth c H locs 0 0 Q (F0 m 293 ls [])) → W p l e rmX6_peopleRead s m args below meth c H locs 0 0 Q (F0 m 2 ls [])) (x1 : Int32) (σ : St6) (q : Int32 × St6) (h : jn_X6_peopleRead_j22 rec x1 σ = some q) (H : Heap) (locs : List Loc) (ls : Array Slot) (hP : va_P D vwCl ([w6 cA a σ] : List va_W).flatten H) (hD : va_D A0 ([w6 cA a σ] : List va_W).flatten) (hS : va_S A0 H0 H locs) (hl : lv_has ls 7 [(0, .ref (a 0)), (1, .int x1)]) (kk : (∀ (H : Heap) (locs : List Loc) (ls : Array Slot), va_P D vwCl ([w6 cA a q.2] : List va_W).flatten H → va_D A0 ([w6 cA a q.2] : List va_W).flatten → va_S A0 H0 H locs → lv_has ls 7 [(0, .ref (a 0)), (1, .int q.1)] → W p l e rmX6_peopleRead s m args below meth c H locs 0 0 Q (F0 m 293 ls []))) : W p l e rmX6_peopleRead s m args below meth c H locs 0 0 Q (F0 m 22 ls []) := by
  obtain ⟨hx, hb, hml, hown, hts, hr, hlk, hKK⟩ := id Z
  have hK := hKK.1
  rw [jn_X6_peopleRead_j22] at h
  refine lv_iload_n hx hb dX6_peopleRead_22 rfl (lv_at hl 1 rfl) ?_
  refine lv_if_le (tgt := 41) hx hb dX6_peopleRead_23 (by decide) (fun hc3 => ?_) (fun hc3 => ?_)
  · rw [if_pos hc3] at h
    exact tj_X6_peopleRead_j41 Z ih x1 σ _ h _ _ _ hP hD hS (lv_sub hl [0, 1] rfl) kk
  · rw [if_neg hc3] at h
    refine lv_aload_n hx hb dX6_peopleRead_26 rfl (lv_at hl 0 rfl) ?_
    refine lv_iload_n hx hb dX6_peopleRead_27 rfl (lv_at hl 1 rfl) ?_
    refine lv_bipush (v := 6) hx hb dX6_peopleRead_28 (by decide) ?_
    refine lv_icmp_ge (tgt := 37) hx hb dX6_peopleRead_30 (by decide) (fun hc32 => ?_) (fun hc32 => ?_)
    · rw [if_pos hc32] at h
      refine lv_iconst (v := 0) hx hb dX6_peopleRead_37 (by decide) ?_
      obtain ⟨r33, hr33, h⟩ := bind_inv h
      refine kV (rest := []) (st1 := []) (cr := []) (cs' := [w6 cA a r33]) Z (c_X6_must l D cA a σ 0 r33 hr33) 1 gX6_peopleRead_X6_must rfl hdX6_must ⟨rfl, rfl⟩ ⟨Nat.le_of_ble_eq_true rfl, Nat.le_of_ble_eq_true rfl⟩ ⟨Nat.zero_le _, Nat.zero_le _⟩ hP hD hS hl.1 rfl rfl rfl (Nat.le_of_ble_eq_true rfl) 6 rfl rfl rfl [0] [] [0] rfl rfl rfl rfl rfl dX6_peopleRead_38 (fun H locs hP hD hS => ?_)
      exact tj_X6_peopleRead_j41 Z ih x1 r33 _ h _ _ _ hP hD hS (lv_sub hl [0, 1] rfl) kk
    · rw [if_neg hc32] at h
      refine lv_iconst (v := 1) hx hb dX6_peopleRead_33 (by decide) ?_
      refine lv_goto (tgt := 38) hx hb dX6_peopleRead_34 (by decide) ?_
      obtain ⟨r34, hr34, h⟩ := bind_inv h
      refine kV (rest := []) (st1 := []) (cr := []) (cs' := [w6 cA a r34]) Z (c_X6_must l D cA a σ 1 r34 hr34) 1 gX6_peopleRead_X6_must rfl hdX6_must ⟨rfl, rfl⟩ ⟨Nat.le_of_ble_eq_true rfl, Nat.le_of_ble_eq_true rfl⟩ ⟨Nat.zero_le _, Nat.zero_le _⟩ hP hD hS hl.1 rfl rfl rfl (Nat.le_of_ble_eq_true rfl) 6 rfl rfl rfl [0] [] [0] rfl rfl rfl rfl rfl dX6_peopleRead_38 (fun H locs hP hD hS => ?_)
      exact tj_X6_peopleRead_j41 Z ih x1 r34 _ h _ _ _ hP hD hS (lv_sub hl [0, 1] rfl) kk
set_option maxHeartbeats 4000000 in
set_option maxRecDepth 100000 in
theorem t_X6_peopleRead_2 {p : Program} {l : Launch} {e : Env} {s : State} {m : MethodId} {args : Array Value} {below : List Frame} {meth : Method} {c : Code} {D : va_G} {cA : Nat → ClassId} {A0 : Nat → Prop} {H0 : Heap} {a : Nat → Nat} (Z : Cx p s m args meth c cX6_peopleRead 7 (some .int) wsX6_peopleRead RX6 D cA)  {Q : State → Prop} : ∀ (n : Nat) (x1 : Int32) (σ : St6) (q : Int32 × St6), lp_X6_peopleRead_2  n x1 σ = some q → ∀ (H : Heap) (locs : List Loc) (ls : Array Slot), va_P D vwCl ([w6 cA a σ] : List va_W).flatten H → va_D A0 ([w6 cA a σ] : List va_W).flatten → va_S A0 H0 H locs → lv_has ls 7 [(0, .ref (a 0)), (1, .int x1)] → (∀ (H : Heap) (locs : List Loc) (ls : Array Slot), va_P D vwCl ([w6 cA a q.2] : List va_W).flatten H → va_D A0 ([w6 cA a q.2] : List va_W).flatten → va_S A0 H0 H locs → lv_has ls 7 [(0, .ref (a 0)), (1, .int q.1)] → W p l e rmX6_peopleRead s m args below meth c H locs 0 0 Q (F0 m 293 ls [])) → W p l e rmX6_peopleRead s m args below meth c H locs 0 0 Q (F0 m 2 ls []) := by
  obtain ⟨hx, hb, hml, hown, hts, hr, hlk, hKK⟩ := id Z
  have hK := hKK.1
  intro n
  induction n with
  | zero =>
    intro x1 σ q h
    rw [lp_X6_peopleRead_2] at h
    cases h
  | succ n ih =>
    intro x1 σ q h H locs ls hP hD hS hl kk
    rw [lp_X6_peopleRead_2] at h
    refine lv_aload_n hx hb dX6_peopleRead_2 rfl (lv_at hl 0 rfl) ?_
    refine va_get (D := D) (ci := 6) (v := .int (p6_isFault σ)) (C := RX6) (T := TX6) (N := 19) hx hb hts in_X6_peopleRead_X6 hown hK hP 0 rfl rfl 5 (by decide) (hts _ lk_X6_peopleRead_133) (fun _ h9 => h9) rfl dX6_peopleRead_3 ?_
    refine lv_if_ne (tgt := 293) hx hb dX6_peopleRead_6 (by decide) (fun hc1 => ?_) (fun hc1 => ?_)
    · rw [if_neg hc1] at h
      have h := Option.some.inj h
      subst h
      exact kk _ _ _ hP hD hS (lv_sub hl [0, 1] rfl)
    · rw [if_pos hc1] at h
      refine lv_iload_n hx hb dX6_peopleRead_9 rfl (lv_at hl 1 rfl) ?_
      refine lv_if_eq (tgt := 22) hx hb dX6_peopleRead_10 (by decide) (fun hc2 => ?_) (fun hc2 => ?_)
      · rw [if_pos hc2] at h
        exact tj_X6_peopleRead_j22 Z ih x1 σ _ h _ _ _ hP hD hS (lv_sub hl [0, 1] rfl) kk
      · rw [if_neg hc2] at h
        refine lv_aload_n hx hb dX6_peopleRead_13 rfl (lv_at hl 0 rfl) ?_
        obtain ⟨r35, hr35, h⟩ := bind_inv h
        refine kV (rest := []) (st1 := [.int r35.1]) (cr := []) (cs' := [w6 cA a r35.2]) Z (c_X6_here l D cA a σ r35 hr35) 0 gX6_peopleRead_X6_here rfl hdX6_here ⟨rfl, rfl⟩ ⟨Nat.le_of_ble_eq_true rfl, Nat.le_of_ble_eq_true rfl⟩ ⟨Nat.zero_le _, Nat.zero_le _⟩ hP hD hS hl.1 rfl rfl rfl (Nat.le_of_ble_eq_true rfl) 6 rfl rfl rfl [0] [] [0] rfl rfl rfl rfl rfl dX6_peopleRead_14 (fun H locs hP hD hS => ?_)
        refine lv_bipush (v := 44) hx hb dX6_peopleRead_17 (by decide) ?_
        refine lv_icmp_ne (tgt := 293) hx hb dX6_peopleRead_19 (by decide) (fun hc36 => ?_) (fun hc36 => ?_)
        · rw [if_neg hc36] at h
          have h := Option.some.inj h
          subst h
          exact kk _ _ _ hP hD hS (lv_sub hl [0, 1] rfl)
        · rw [if_pos hc36] at h
          exact tj_X6_peopleRead_j22 Z ih x1 r35.2 _ h _ _ _ hP hD hS (lv_sub hl [0, 1] rfl) kk
set_option maxHeartbeats 4000000 in
set_option maxRecDepth 100000 in
theorem c_X6_peopleRead (l : Launch) (D : va_G) (cA : Nat → ClassId) (a : Nat → Nat) (σ : St6) (res : Int32 × St6) (h : f_X6_peopleRead σ = some res) : CT l D cA yX6_peopleRead wsX6_peopleRead rmX6_peopleRead [.ref (a 0)] [w6 cA a σ] [w6 cA a res.2] (some (.int res.1)) := by
  refine CT.start (cc := cX6_peopleRead) (maxL := 7) (ret := (some .int)) (by decide) rfl (Nat.le_of_ble_eq_true rfl) ?_
  intro p e s m below meth c Z hP hD hS ls hl
  have Z : Cx p s m _ meth c cX6_peopleRead 7 (some .int) wsX6_peopleRead RX6 D cA := Z
  have hl : lv_has ls 7 [(0, .ref (a 0))] := hl
  obtain ⟨hx, hb, hml, hown, hts, hr, hlk, hKK⟩ := id Z
  have hK := hKK.1
  rw [f_X6_peopleRead] at h
  refine lv_iconst (v := 0) hx hb dX6_peopleRead_0 (by decide) ?_
  refine lv_istore_n (lv' := [(1, .int 0), (0, .ref (a 0))]) hx hb dX6_peopleRead_1 rfl hl (by decide) rfl (fun ls hl => ?_)
  obtain ⟨q37, hq37, h⟩ := bind_inv h
  refine t_X6_peopleRead_2 Z  FU _ _ _ hq37 _ _ _ hP hD hS (lv_sub hl [1, 0] rfl) (fun H locs ls hP hD hS hl => ?_)
  refine lv_iload_n hx hb dX6_peopleRead_293 rfl (lv_at hl 1 rfl) ?_
  have h := Option.some.inj h
  subst h
  exact CT.iret Z hP hD hS dX6_peopleRead_294

