-- X5.chain
theorem lk_X5_chain_10 : Cond.fieldLink RX5 10 "KeyedFeelings" "now" "LKeyedFeelings$People;" ∈ wsX5_chain := by decide +kernel
theorem in_X5_chain_X5 : ∀ w ∈ wsX50, w ∈ wsX5_chain := by decide +kernel
theorem n1_X5_chain_X2 : Cond.initialized RX2 ∈ wsX5_chain := by decide +kernel
theorem n2_X5_chain_X2_has : Cond.instanceMethod yX2_has ∈ wsX5_chain := by decide +kernel
theorem n3_X5_chain_X2_has : Cond.selects RX2 yX2_has yX2_has ∈ wsX5_chain := by decide +kernel
theorem n2_X5_chain_X2_heads : Cond.instanceMethod yX2_heads ∈ wsX5_chain := by decide +kernel
theorem n3_X5_chain_X2_heads : Cond.selects RX2 yX2_heads yX2_heads ∈ wsX5_chain := by decide +kernel
theorem n2_X5_chain_X2_behind : Cond.instanceMethod yX2_behind ∈ wsX5_chain := by decide +kernel
theorem n3_X5_chain_X2_behind : Cond.selects RX2 yX2_behind yX2_behind ∈ wsX5_chain := by decide +kernel
noncomputable def f_X5_chain (κ : St5) (nw : St2) (x1 : Int32) (x2 : Int32) : Option (Int32) := ((f_X2_has nw x1).bind (fun r1 => (if r1 = 0 then some (-1) else (if x2 < 0 then some (-1) else (if x2 ≤ 1 then (if x2 = 0 then ((f_X2_behind nw x1).bind (fun r7 => some r7)) else ((f_X2_heads nw x1).bind (fun r6 => some r6))) else some (-1))))))
noncomputable def rmX5_chain : Room := { frames := 3, cells := 0, slots := 0, locals := 69 }
set_option maxHeartbeats 4000000 in
set_option maxRecDepth 100000 in
theorem c_X5_chain (l : Launch) (D : va_G) (cA : Nat → ClassId) (o : Nat → Nat → Nat) (κ : St5) (nw : St2) (x1 : Int32) (x2 : Int32) (res : Int32) (h : f_X5_chain κ nw x1 x2 = some res) : CT l D cA yX5_chain wsX5_chain rmX5_chain [.ref (o 0 0), .int x1, .int x2] [w5 cA o κ, w2 cA (o 1) nw] [w5 cA o κ, w2 cA (o 1) nw] (some (.int res)) := by
  refine CT.start (cc := cX5_chain) (maxL := 3) (ret := (some .int)) (by decide) rfl (Nat.le_of_ble_eq_true rfl) ?_
  intro p e s m below meth c Z hP hD hS ls hl
  have Z : Cx p s m _ meth c cX5_chain 3 (some .int) wsX5_chain RX5 D cA := Z
  have hl : lv_has ls 3 [(0, .ref (o 0 0)), (1, .int x1), (2, .int x2)] := hl
  obtain ⟨hx, hb, hml, hown, hts, hr, hlk, hKK⟩ := id Z
  have hK := hKK.1
  rw [f_X5_chain] at h
  refine lv_aload_n hx hb dX5_chain_0 rfl (lv_at hl 0 rfl) ?_
  refine va_get (D := D) (ci := 5) (v := .ref (o 1 0)) (C := RX5) (T := TX5) (N := 9) hx hb hts in_X5_chain_X5 hown hK hP 0 rfl rfl 0 (by decide) (hts _ lk_X5_chain_10) (fun _ h9 => h9) rfl dX5_chain_1 ?_
  refine lv_iload_n hx hb dX5_chain_4 rfl (lv_at hl 1 rfl) ?_
  obtain ⟨r1, hr1, h⟩ := bind_inv h
  refine kVN (rest := []) (st1 := [.int r1]) (cr := [w5 cA o κ]) (cs' := [w5 cA o κ, w2 cA (o 1) nw]) Z (c_X2_has l D cA (o 1) nw x1 r1 hr1) 1 gX5_chain_X2_has_n68 rfl hdX2_has nk_X5_68 n1_X5_chain_X2 n2_X5_chain_X2_has n3_X5_chain_X2_has ⟨rfl, rfl⟩ ⟨Nat.le_of_ble_eq_true rfl, Nat.le_of_ble_eq_true rfl⟩ ⟨Nat.zero_le _, Nat.zero_le _⟩ hP hD hS hl.1 rfl rfl rfl (Nat.le_of_ble_eq_true rfl) 2 rfl rfl rfl [1] [0] [0, 1] rfl rfl rfl rfl rfl dX5_chain_5 (fun H locs hP hD hS => ?_)
  refine lv_if_eq (tgt := 20) hx hb dX5_chain_8 (by decide) (fun hc2 => ?_) (fun hc2 => ?_)
  · rw [if_pos hc2] at h
    refine lv_iconst (v := (-1)) hx hb dX5_chain_20 (by decide) ?_
    have h := Option.some.inj h
    subst h
    exact CT.iret Z hP hD hS dX5_chain_21
  · rw [if_neg hc2] at h
    refine lv_iload_n hx hb dX5_chain_11 rfl (lv_at hl 2 rfl) ?_
    refine lv_if_lt (tgt := 20) hx hb dX5_chain_12 (by decide) (fun hc3 => ?_) (fun hc3 => ?_)
    · rw [if_pos hc3] at h
      refine lv_iconst (v := (-1)) hx hb dX5_chain_20 (by decide) ?_
      have h := Option.some.inj h
      subst h
      exact CT.iret Z hP hD hS dX5_chain_21
    · rw [if_neg hc3] at h
      refine lv_iload_n hx hb dX5_chain_15 rfl (lv_at hl 2 rfl) ?_
      refine lv_iconst (v := 1) hx hb dX5_chain_16 (by decide) ?_
      refine lv_icmp_le (tgt := 22) hx hb dX5_chain_17 (by decide) (fun hc4 => ?_) (fun hc4 => ?_)
      · rw [if_pos hc4] at h
        refine lv_iload_n hx hb dX5_chain_22 rfl (lv_at hl 2 rfl) ?_
        refine lv_if_ne (tgt := 37) hx hb dX5_chain_23 (by decide) (fun hc5 => ?_) (fun hc5 => ?_)
        · rw [if_neg hc5] at h
          refine lv_aload_n hx hb dX5_chain_37 rfl (lv_at hl 0 rfl) ?_
          refine va_get (D := D) (ci := 5) (v := .ref (o 1 0)) (C := RX5) (T := TX5) (N := 9) hx hb hts in_X5_chain_X5 hown hK hP 0 rfl rfl 0 (by decide) (hts _ lk_X5_chain_10) (fun _ h9 => h9) rfl dX5_chain_38 ?_
          refine lv_iload_n hx hb dX5_chain_41 rfl (lv_at hl 1 rfl) ?_
          obtain ⟨r6, hr6, h⟩ := bind_inv h
          refine kVN (rest := []) (st1 := [.int r6]) (cr := [w5 cA o κ]) (cs' := [w5 cA o κ, w2 cA (o 1) nw]) Z (c_X2_heads l D cA (o 1) nw x1 r6 hr6) 1 gX5_chain_X2_heads_n168 rfl hdX2_heads nk_X5_168 n1_X5_chain_X2 n2_X5_chain_X2_heads n3_X5_chain_X2_heads ⟨rfl, rfl⟩ ⟨Nat.le_of_ble_eq_true rfl, Nat.le_of_ble_eq_true rfl⟩ ⟨Nat.zero_le _, Nat.zero_le _⟩ hP hD hS hl.1 rfl rfl rfl (Nat.le_of_ble_eq_true rfl) 2 rfl rfl rfl [1] [0] [0, 1] rfl rfl rfl rfl rfl dX5_chain_42 (fun H locs hP hD hS => ?_)
          have h := Option.some.inj h
          subst h
          exact CT.iret Z hP hD hS dX5_chain_45
        · rw [if_pos hc5] at h
          refine lv_aload_n hx hb dX5_chain_26 rfl (lv_at hl 0 rfl) ?_
          refine va_get (D := D) (ci := 5) (v := .ref (o 1 0)) (C := RX5) (T := TX5) (N := 9) hx hb hts in_X5_chain_X5 hown hK hP 0 rfl rfl 0 (by decide) (hts _ lk_X5_chain_10) (fun _ h9 => h9) rfl dX5_chain_27 ?_
          refine lv_iload_n hx hb dX5_chain_30 rfl (lv_at hl 1 rfl) ?_
          obtain ⟨r7, hr7, h⟩ := bind_inv h
          refine kVN (rest := []) (st1 := [.int r7]) (cr := [w5 cA o κ]) (cs' := [w5 cA o κ, w2 cA (o 1) nw]) Z (c_X2_behind l D cA (o 1) nw x1 r7 hr7) 1 gX5_chain_X2_behind_n165 rfl hdX2_behind nk_X5_165 n1_X5_chain_X2 n2_X5_chain_X2_behind n3_X5_chain_X2_behind ⟨rfl, rfl⟩ ⟨Nat.le_of_ble_eq_true rfl, Nat.le_of_ble_eq_true rfl⟩ ⟨Nat.zero_le _, Nat.zero_le _⟩ hP hD hS hl.1 rfl rfl rfl (Nat.le_of_ble_eq_true rfl) 2 rfl rfl rfl [1] [0] [0, 1] rfl rfl rfl rfl rfl dX5_chain_31 (fun H locs hP hD hS => ?_)
          refine lv_goto (tgt := 45) hx hb dX5_chain_34 (by decide) ?_
          have h := Option.some.inj h
          subst h
          exact CT.iret Z hP hD hS dX5_chain_45
      · rw [if_neg hc4] at h
        refine lv_iconst (v := (-1)) hx hb dX5_chain_20 (by decide) ?_
        have h := Option.some.inj h
        subst h
        exact CT.iret Z hP hD hS dX5_chain_21

-- X5.isAdvised
noncomputable def f_X5_isAdvised (x0 : Int32) : Option (Int32) := (if x0 < 1 then some 0 else (if 40 < x0 then some 0 else some 1))
noncomputable def rmX5_isAdvised : Room := { frames := 0, cells := 0, slots := 0, locals := 0 }
set_option maxHeartbeats 4000000 in
set_option maxRecDepth 100000 in
theorem c_X5_isAdvised (l : Launch) (D : va_G) (cA : Nat → ClassId)  (x0 : Int32) (res : Int32) (h : f_X5_isAdvised x0 = some res) : CT l D cA yX5_isAdvised wsX5_isAdvised rmX5_isAdvised [.int x0] [] [] (some (.int res)) := by
  refine CT.start (cc := cX5_isAdvised) (maxL := 1) (ret := (some .boolean)) (by decide) rfl (Nat.le_of_ble_eq_true rfl) ?_
  intro p e s m below meth c Z hP hD hS ls hl
  have Z : Cx p s m _ meth c cX5_isAdvised 1 (some .boolean) wsX5_isAdvised RX5 D cA := Z
  have hl : lv_has ls 1 [(0, .int x0)] := hl
  obtain ⟨hx, hb, hml, hown, hts, hr, hlk, hKK⟩ := id Z
  have hK := hKK.1
  rw [f_X5_isAdvised] at h
  refine lv_iload_n hx hb dX5_isAdvised_0 rfl (lv_at hl 0 rfl) ?_
  refine lv_iconst (v := 1) hx hb dX5_isAdvised_1 (by decide) ?_
  refine lv_icmp_lt (tgt := 15) hx hb dX5_isAdvised_2 (by decide) (fun hc1 => ?_) (fun hc1 => ?_)
  · rw [if_pos hc1] at h
    refine lv_iconst (v := 0) hx hb dX5_isAdvised_15 (by decide) ?_
    have h := Option.some.inj h
    subst h
    exact CT.zret Z (nar_bool (Or.inl rfl)) hP hD hS dX5_isAdvised_16
  · rw [if_neg hc1] at h
    refine lv_iload_n hx hb dX5_isAdvised_5 rfl (lv_at hl 0 rfl) ?_
    refine lv_bipush (v := 40) hx hb dX5_isAdvised_6 (by decide) ?_
    refine lv_icmp_gt (tgt := 15) hx hb dX5_isAdvised_8 (by decide) (fun hc2 => ?_) (fun hc2 => ?_)
    · rw [if_pos hc2] at h
      refine lv_iconst (v := 0) hx hb dX5_isAdvised_15 (by decide) ?_
      have h := Option.some.inj h
      subst h
      exact CT.zret Z (nar_bool (Or.inl rfl)) hP hD hS dX5_isAdvised_16
    · rw [if_neg hc2] at h
      refine lv_iconst (v := 1) hx hb dX5_isAdvised_11 (by decide) ?_
      refine lv_goto (tgt := 16) hx hb dX5_isAdvised_12 (by decide) ?_
      have h := Option.some.inj h
      subst h
      exact CT.zret Z (nar_bool (Or.inr rfl)) hP hD hS dX5_isAdvised_16

-- X5.lends
theorem lk_X5_lends_10 : Cond.fieldLink RX5 10 "KeyedFeelings" "now" "LKeyedFeelings$People;" ∈ wsX5_lends := by decide +kernel
theorem in_X5_lends_X5 : ∀ w ∈ wsX50, w ∈ wsX5_lends := by decide +kernel
theorem in_X5_lends_X2 : ∀ w ∈ wsX20, w ∈ wsX5_lends := by decide +kernel
theorem lk_X5_lends_33 : Cond.fieldLink RX5 33 "KeyedFeelings" "trial" "LKeyedFeelings$People;" ∈ wsX5_lends := by decide +kernel
theorem n1_X5_lends_X2 : Cond.initialized RX2 ∈ wsX5_lends := by decide +kernel
theorem n2_X5_lends_X2_become : Cond.instanceMethod yX2_become ∈ wsX5_lends := by decide +kernel
theorem n3_X5_lends_X2_become : Cond.selects RX2 yX2_become yX2_become ∈ wsX5_lends := by decide +kernel
theorem n2_X5_lends_X2_addTurns : Cond.instanceMethod yX2_addTurns ∈ wsX5_lends := by decide +kernel
theorem n3_X5_lends_X2_addTurns : Cond.selects RX2 yX2_addTurns yX2_addTurns ∈ wsX5_lends := by decide +kernel
theorem n2_X5_lends_X2_passHours : Cond.instanceMethod yX2_passHours ∈ wsX5_lends := by decide +kernel
theorem n3_X5_lends_X2_passHours : Cond.selects RX2 yX2_passHours yX2_passHours ∈ wsX5_lends := by decide +kernel
theorem n2_X5_lends_X2_stopped : Cond.instanceMethod yX2_stopped ∈ wsX5_lends := by decide +kernel
theorem n3_X5_lends_X2_stopped : Cond.selects RX2 yX2_stopped yX2_stopped ∈ wsX5_lends := by decide +kernel
noncomputable def lp_X5_lends_40 (κ : St5) (nw : St2) (x1 : Int32) (x2 : Int32) (x3 : Int32) : Nat → Int32 → Int32 → Int32 → St2 → Option (Int32 × Int32 × Int32 × St2)
  | 0, _, _, _, _ => none
  | n + 1, x4, x5, x6, tr => (if (p2_size nw) ≤ x6 then some (x4, x5, x6, tr) else ((f_X2_addTurns nw x6 x2).bind (fun r9 => ((f_X2_passHours r9 x1).bind (fun r10 => ((f_X2_stopped r10).bind (fun r11 => ((f_J6_bitCount_0f7a4 r11).bind (fun r12 => (if x5 ≤ r12 then lp_X5_lends_40 κ nw x1 x2 x3 n x4 x5 (x6 + 1) r10 else lp_X5_lends_40 κ nw x1 x2 x3 n x6 r12 (x6 + 1) r10))))))))))
noncomputable def f_X5_lends (κ : St5) (nw : St2) (tr : St2) (x1 : Int32) (x2 : Int32) (x3 : Int32) : Option (Int32 × St2) := ((f_X5_isAdvised x1).bind (fun r1 => (if r1 = 0 then some ((-1), tr) else (if x2 < 1 then some ((-1), tr) else (if 30 < x2 then some ((-1), tr) else (if x3 < 0 then some ((-1), tr) else (if x3 ≤ 1 then ((lp_X5_lends_40 κ nw x1 x2 x3 FU (-4) 7 0 tr).bind (fun q14 => (if x3 = 0 then some (q14.1, q14.2.2.2) else (if q14.1 = (-4) then some (q14.1, q14.2.2.2) else some (q14.2.1, q14.2.2.2))))) else some ((-1), tr))))))))
noncomputable def rmX5_lends : Room := { frames := 5, cells := 0, slots := 0, locals := 109 }
set_option maxHeartbeats 4000000 in
set_option maxRecDepth 100000 in
theorem t_X5_lends_40 {p : Program} {l : Launch} {e : Env} {s : State} {m : MethodId} {args : Array Value} {below : List Frame} {meth : Method} {c : Code} {D : va_G} {cA : Nat → ClassId} {A0 : Nat → Prop} {H0 : Heap} {o : Nat → Nat → Nat} (Z : Cx p s m args meth c cX5_lends 8 (some .int) wsX5_lends RX5 D cA) (κ : St5) (nw : St2) (x1 : Int32) (x2 : Int32) (x3 : Int32) {Q : State → Prop} : ∀ (n : Nat) (x4 : Int32) (x5 : Int32) (x6 : Int32) (tr : St2) (q : Int32 × Int32 × Int32 × St2), lp_X5_lends_40 κ nw x1 x2 x3 n x4 x5 x6 tr = some q → ∀ (H : Heap) (locs : List Loc) (ls : Array Slot), va_P D vwCl ([w5 cA o κ, w2 cA (o 1) nw, w2 cA (o 5) tr] : List va_W).flatten H → va_D A0 ([w5 cA o κ, w2 cA (o 1) nw, w2 cA (o 5) tr] : List va_W).flatten → va_S A0 H0 H locs → lv_has ls 8 [(0, .ref (o 0 0)), (1, .int x1), (2, .int x2), (3, .int x3), (4, .int x4), (5, .int x5), (6, .int x6)] → (∀ (H : Heap) (locs : List Loc) (ls : Array Slot), va_P D vwCl ([w5 cA o κ, w2 cA (o 1) nw, w2 cA (o 5) q.2.2.2] : List va_W).flatten H → va_D A0 ([w5 cA o κ, w2 cA (o 1) nw, w2 cA (o 5) q.2.2.2] : List va_W).flatten → va_S A0 H0 H locs → lv_has ls 8 [(0, .ref (o 0 0)), (1, .int x1), (2, .int x2), (3, .int x3), (4, .int q.1), (5, .int q.2.1), (6, .int q.2.2.1)] → W p l e rmX5_lends s m args below meth c H locs 0 0 Q (F0 m 114 ls [])) → W p l e rmX5_lends s m args below meth c H locs 0 0 Q (F0 m 40 ls []) := by
  obtain ⟨hx, hb, hml, hown, hts, hr, hlk, hKK⟩ := id Z
  have hK := hKK.1
  intro n
  induction n with
  | zero =>
    intro x4 x5 x6 tr q h
    rw [lp_X5_lends_40] at h
    cases h
  | succ n ih =>
    intro x4 x5 x6 tr q h H locs ls hP hD hS hl kk
    rw [lp_X5_lends_40] at h
    refine lv_iload hx hb dX5_lends_40 (lv_at hl 6 rfl) ?_
    refine lv_aload_n hx hb dX5_lends_42 rfl (lv_at hl 0 rfl) ?_
    refine va_get (D := D) (ci := 5) (v := .ref (o 1 0)) (C := RX5) (T := TX5) (N := 9) hx hb hts in_X5_lends_X5 hown hK hP 0 rfl rfl 0 (by decide) (hts _ lk_X5_lends_10) (fun _ h9 => h9) rfl dX5_lends_43 ?_
    refine va_getN (D := D) (ci := 2) (v := .int (p2_size nw)) (C := RX2) (T := TX2) (N := 7) hx hb hts in_X5_lends_X2 hown hK hP 1 rfl rfl 0 (by decide) (nest_use rfl (hKK.2 _ nk_X5_57)) (fun _ h9 => h9) rfl dX5_lends_46 ?_
    refine lv_icmp_ge (tgt := 114) hx hb dX5_lends_49 (by decide) (fun hc7 => ?_) (fun hc7 => ?_)
    · rw [if_pos hc7] at h
      have h := Option.some.inj h
      subst h
      exact kk _ _ _ hP hD hS (lv_sub hl [0, 1, 2, 3, 4, 5, 6] rfl)
    · rw [if_neg hc7] at h
      refine lv_aload_n hx hb dX5_lends_52 rfl (lv_at hl 0 rfl) ?_
      refine va_get (D := D) (ci := 5) (v := .ref (o 5 0)) (C := RX5) (T := TX5) (N := 9) hx hb hts in_X5_lends_X5 hown hK hP 0 rfl rfl 5 (by decide) (hts _ lk_X5_lends_33) (fun _ h9 => h9) rfl dX5_lends_53 ?_
      refine lv_aload_n hx hb dX5_lends_56 rfl (lv_at hl 0 rfl) ?_
      refine va_get (D := D) (ci := 5) (v := .ref (o 1 0)) (C := RX5) (T := TX5) (N := 9) hx hb hts in_X5_lends_X5 hown hK hP 0 rfl rfl 0 (by decide) (hts _ lk_X5_lends_10) (fun _ h9 => h9) rfl dX5_lends_57 ?_
      refine kVN (rest := []) (st1 := []) (cr := [w5 cA o κ]) (cs' := [w5 cA o κ, w2 cA (o 1) nw, w2 cA (o 5) nw]) Z (c_become l D cA (o 5) (o 1) tr nw ) 1 gX5_lends_X2_become_n115 rfl hdX2_become nk_X5_115 n1_X5_lends_X2 n2_X5_lends_X2_become n3_X5_lends_X2_become ⟨rfl, rfl⟩ ⟨Nat.le_of_ble_eq_true rfl, Nat.le_of_ble_eq_true rfl⟩ ⟨Nat.zero_le _, Nat.zero_le _⟩ hP hD hS hl.1 rfl rfl rfl (Nat.le_of_ble_eq_true rfl) 2 rfl rfl rfl [2, 1] [0] [0, 2, 1] rfl rfl rfl rfl rfl dX5_lends_60 (fun H locs hP hD hS => ?_)
      refine lv_aload_n hx hb dX5_lends_63 rfl (lv_at hl 0 rfl) ?_
      refine va_get (D := D) (ci := 5) (v := .ref (o 5 0)) (C := RX5) (T := TX5) (N := 9) hx hb hts in_X5_lends_X5 hown hK hP 0 rfl rfl 5 (by decide) (hts _ lk_X5_lends_33) (fun _ h9 => h9) rfl dX5_lends_64 ?_
      refine lv_iload hx hb dX5_lends_67 (lv_at hl 6 rfl) ?_
      refine lv_iload_n hx hb dX5_lends_69 rfl (lv_at hl 2 rfl) ?_
      obtain ⟨r9, hr9, h⟩ := bind_inv h
      refine kVN (rest := []) (st1 := []) (cr := [w5 cA o κ, w2 cA (o 1) nw]) (cs' := [w5 cA o κ, w2 cA (o 1) nw, w2 cA (o 5) r9]) Z (c_X2_addTurns l D cA (o 5) nw x6 x2 r9 hr9) 2 gX5_lends_X2_addTurns_n142 rfl hdX2_addTurns nk_X5_142 n1_X5_lends_X2 n2_X5_lends_X2_addTurns n3_X5_lends_X2_addTurns ⟨rfl, rfl⟩ ⟨Nat.le_of_ble_eq_true rfl, Nat.le_of_ble_eq_true rfl⟩ ⟨Nat.zero_le _, Nat.zero_le _⟩ hP hD hS hl.1 rfl rfl rfl (Nat.le_of_ble_eq_true rfl) 2 rfl rfl rfl [2] [0, 1] [0, 1, 2] rfl rfl rfl rfl rfl dX5_lends_70 (fun H locs hP hD hS => ?_)
      refine lv_aload_n hx hb dX5_lends_73 rfl (lv_at hl 0 rfl) ?_
      refine va_get (D := D) (ci := 5) (v := .ref (o 5 0)) (C := RX5) (T := TX5) (N := 9) hx hb hts in_X5_lends_X5 hown hK hP 0 rfl rfl 5 (by decide) (hts _ lk_X5_lends_33) (fun _ h9 => h9) rfl dX5_lends_74 ?_
      refine lv_iload_n hx hb dX5_lends_77 rfl (lv_at hl 1 rfl) ?_
      obtain ⟨r10, hr10, h⟩ := bind_inv h
      refine kVN (rest := []) (st1 := []) (cr := [w5 cA o κ, w2 cA (o 1) nw]) (cs' := [w5 cA o κ, w2 cA (o 1) nw, w2 cA (o 5) r10]) Z (c_X2_passHours l D cA (o 5) r9 x1 r10 hr10) 1 gX5_lends_X2_passHours_n155 rfl hdX2_passHours nk_X5_155 n1_X5_lends_X2 n2_X5_lends_X2_passHours n3_X5_lends_X2_passHours ⟨rfl, rfl⟩ ⟨Nat.le_of_ble_eq_true rfl, Nat.le_of_ble_eq_true rfl⟩ ⟨Nat.zero_le _, Nat.zero_le _⟩ hP hD hS hl.1 rfl rfl rfl (Nat.le_of_ble_eq_true rfl) 2 rfl rfl rfl [2] [0, 1] [0, 1, 2] rfl rfl rfl rfl rfl dX5_lends_78 (fun H locs hP hD hS => ?_)
      refine lv_aload_n hx hb dX5_lends_81 rfl (lv_at hl 0 rfl) ?_
      refine va_get (D := D) (ci := 5) (v := .ref (o 5 0)) (C := RX5) (T := TX5) (N := 9) hx hb hts in_X5_lends_X5 hown hK hP 0 rfl rfl 5 (by decide) (hts _ lk_X5_lends_33) (fun _ h9 => h9) rfl dX5_lends_82 ?_
      obtain ⟨r11, hr11, h⟩ := bind_inv h
      refine kVN (rest := []) (st1 := [.int r11]) (cr := [w5 cA o κ, w2 cA (o 1) nw]) (cs' := [w5 cA o κ, w2 cA (o 1) nw, w2 cA (o 5) r10]) Z (c_X2_stopped l D cA (o 5) r10 r11 hr11) 0 gX5_lends_X2_stopped_n85 rfl hdX2_stopped nk_X5_85 n1_X5_lends_X2 n2_X5_lends_X2_stopped n3_X5_lends_X2_stopped ⟨rfl, rfl⟩ ⟨Nat.le_of_ble_eq_true rfl, Nat.le_of_ble_eq_true rfl⟩ ⟨Nat.zero_le _, Nat.zero_le _⟩ hP hD hS hl.1 rfl rfl rfl (Nat.le_of_ble_eq_true rfl) 2 rfl rfl rfl [2] [0, 1] [0, 1, 2] rfl rfl rfl rfl rfl dX5_lends_85 (fun H locs hP hD hS => ?_)
      obtain ⟨r12, hr12, h⟩ := bind_inv h
      refine kS (rest := []) (st1 := [.int r12]) (cr := [w5 cA o κ, w2 cA (o 1) nw, w2 cA (o 5) r10]) (cs' := [w5 cA o κ, w2 cA (o 1) nw, w2 cA (o 5) r10]) Z (c_J6_bitCount_0f7a4 l D cA r11 r12 hr12) 1 gX5_lends_J6_bitCount_0f7a4 rfl hdJ6_bitCount_0f7a4 ⟨rfl, rfl⟩ ⟨Nat.le_of_ble_eq_true rfl, Nat.le_of_ble_eq_true rfl⟩ ⟨Nat.zero_le _, Nat.zero_le _⟩ hP hD hS hl.1 rfl rfl rfl (Nat.le_of_ble_eq_true rfl) [] [0, 1, 2] [0, 1, 2] rfl rfl rfl rfl rfl dX5_lends_88 (fun H locs hP hD hS => ?_)
      refine lv_istore (lv' := [(7, .int r12), (0, .ref (o 0 0)), (1, .int x1), (2, .int x2), (3, .int x3), (4, .int x4), (5, .int x5), (6, .int x6)]) hx hb dX5_lends_91 hl (by decide) rfl (fun ls hl => ?_)
      refine lv_iload hx hb dX5_lends_93 (lv_at hl 0 rfl) ?_
      refine lv_iload hx hb dX5_lends_95 (lv_at hl 6 rfl) ?_
      refine lv_icmp_ge (tgt := 108) hx hb dX5_lends_97 (by decide) (fun hc13 => ?_) (fun hc13 => ?_)
      · rw [if_pos hc13] at h
        refine lv_iinc (v := x6 + 1) (lv' := [(6, .int (x6 + 1)), (7, .int r12), (0, .ref (o 0 0)), (1, .int x1), (2, .int x2), (3, .int x3), (4, .int x4), (5, .int x5)]) hx hb dX5_lends_108 hl (k := 7) rfl rfl (by decide) rfl (fun ls hl => ?_)
        refine lv_goto (tgt := 40) hx hb dX5_lends_111 (by decide) ?_
        exact ih _ _ _ _ _ h _ _ _ hP hD hS (lv_sub hl [2, 3, 4, 5, 6, 7, 0] rfl) kk
      · rw [if_neg hc13] at h
        refine lv_iload hx hb dX5_lends_100 (lv_at hl 0 rfl) ?_
        refine lv_istore (lv' := [(5, .int r12), (7, .int r12), (0, .ref (o 0 0)), (1, .int x1), (2, .int x2), (3, .int x3), (4, .int x4), (6, .int x6)]) hx hb dX5_lends_102 hl (by decide) rfl (fun ls hl => ?_)
        refine lv_iload hx hb dX5_lends_104 (lv_at hl 7 rfl) ?_
        refine lv_istore (lv' := [(4, .int x6), (5, .int r12), (7, .int r12), (0, .ref (o 0 0)), (1, .int x1), (2, .int x2), (3, .int x3), (6, .int x6)]) hx hb dX5_lends_106 hl (by decide) rfl (fun ls hl => ?_)
        refine lv_iinc (v := x6 + 1) (lv' := [(6, .int (x6 + 1)), (4, .int x6), (5, .int r12), (7, .int r12), (0, .ref (o 0 0)), (1, .int x1), (2, .int x2), (3, .int x3)]) hx hb dX5_lends_108 hl (k := 7) rfl rfl (by decide) rfl (fun ls hl => ?_)
        refine lv_goto (tgt := 40) hx hb dX5_lends_111 (by decide) ?_
        exact ih _ _ _ _ _ h _ _ _ hP hD hS (lv_sub hl [4, 5, 6, 7, 1, 2, 0] rfl) kk
set_option maxHeartbeats 4000000 in
set_option maxRecDepth 100000 in
theorem c_X5_lends (l : Launch) (D : va_G) (cA : Nat → ClassId) (o : Nat → Nat → Nat) (κ : St5) (nw : St2) (tr : St2) (x1 : Int32) (x2 : Int32) (x3 : Int32) (res : Int32 × St2) (h : f_X5_lends κ nw tr x1 x2 x3 = some res) : CT l D cA yX5_lends wsX5_lends rmX5_lends [.ref (o 0 0), .int x1, .int x2, .int x3] [w5 cA o κ, w2 cA (o 1) nw, w2 cA (o 5) tr] [w5 cA o κ, w2 cA (o 1) nw, w2 cA (o 5) res.2] (some (.int res.1)) := by
  refine CT.start (cc := cX5_lends) (maxL := 8) (ret := (some .int)) (by decide) rfl (Nat.le_of_ble_eq_true rfl) ?_
  intro p e s m below meth c Z hP hD hS ls hl
  have Z : Cx p s m _ meth c cX5_lends 8 (some .int) wsX5_lends RX5 D cA := Z
  have hl : lv_has ls 8 [(0, .ref (o 0 0)), (1, .int x1), (2, .int x2), (3, .int x3)] := hl
  obtain ⟨hx, hb, hml, hown, hts, hr, hlk, hKK⟩ := id Z
  have hK := hKK.1
  rw [f_X5_lends] at h
  refine lv_iload_n hx hb dX5_lends_0 rfl (lv_at hl 1 rfl) ?_
  obtain ⟨r1, hr1, h⟩ := bind_inv h
  refine kS (rest := []) (st1 := [.int r1]) (cr := [w5 cA o κ, w2 cA (o 1) nw, w2 cA (o 5) tr]) (cs' := [w5 cA o κ, w2 cA (o 1) nw, w2 cA (o 5) tr]) Z (c_X5_isAdvised l D cA x1 r1 hr1) 1 gX5_lends_X5_isAdvised rfl hdX5_isAdvised ⟨rfl, rfl⟩ ⟨Nat.le_of_ble_eq_true rfl, Nat.le_of_ble_eq_true rfl⟩ ⟨Nat.zero_le _, Nat.zero_le _⟩ hP hD hS hl.1 rfl rfl rfl (Nat.le_of_ble_eq_true rfl) [] [0, 1, 2] [0, 1, 2] rfl rfl rfl rfl rfl dX5_lends_1 (fun H locs hP hD hS => ?_)
  refine lv_if_eq (tgt := 27) hx hb dX5_lends_4 (by decide) (fun hc2 => ?_) (fun hc2 => ?_)
  · rw [if_pos hc2] at h
    refine lv_iconst (v := (-1)) hx hb dX5_lends_27 (by decide) ?_
    have h := Option.some.inj h
    subst h
    exact CT.iret Z hP hD hS dX5_lends_28
  · rw [if_neg hc2] at h
    refine lv_iload_n hx hb dX5_lends_7 rfl (lv_at hl 2 rfl) ?_
    refine lv_iconst (v := 1) hx hb dX5_lends_8 (by decide) ?_
    refine lv_icmp_lt (tgt := 27) hx hb dX5_lends_9 (by decide) (fun hc3 => ?_) (fun hc3 => ?_)
    · rw [if_pos hc3] at h
      refine lv_iconst (v := (-1)) hx hb dX5_lends_27 (by decide) ?_
      have h := Option.some.inj h
      subst h
      exact CT.iret Z hP hD hS dX5_lends_28
    · rw [if_neg hc3] at h
      refine lv_iload_n hx hb dX5_lends_12 rfl (lv_at hl 2 rfl) ?_
      refine lv_bipush (v := 30) hx hb dX5_lends_13 (by decide) ?_
      refine lv_icmp_gt (tgt := 27) hx hb dX5_lends_15 (by decide) (fun hc4 => ?_) (fun hc4 => ?_)
      · rw [if_pos hc4] at h
        refine lv_iconst (v := (-1)) hx hb dX5_lends_27 (by decide) ?_
        have h := Option.some.inj h
        subst h
        exact CT.iret Z hP hD hS dX5_lends_28
      · rw [if_neg hc4] at h
        refine lv_iload_n hx hb dX5_lends_18 rfl (lv_at hl 3 rfl) ?_
        refine lv_if_lt (tgt := 27) hx hb dX5_lends_19 (by decide) (fun hc5 => ?_) (fun hc5 => ?_)
        · rw [if_pos hc5] at h
          refine lv_iconst (v := (-1)) hx hb dX5_lends_27 (by decide) ?_
          have h := Option.some.inj h
          subst h
          exact CT.iret Z hP hD hS dX5_lends_28
        · rw [if_neg hc5] at h
          refine lv_iload_n hx hb dX5_lends_22 rfl (lv_at hl 3 rfl) ?_
          refine lv_iconst (v := 1) hx hb dX5_lends_23 (by decide) ?_
          refine lv_icmp_le (tgt := 29) hx hb dX5_lends_24 (by decide) (fun hc6 => ?_) (fun hc6 => ?_)
          · rw [if_pos hc6] at h
            refine lv_bipush (v := (-4)) hx hb dX5_lends_29 (by decide) ?_
            refine lv_istore (lv' := [(4, .int (-4)), (0, .ref (o 0 0)), (1, .int x1), (2, .int x2), (3, .int x3)]) hx hb dX5_lends_31 hl (by decide) rfl (fun ls hl => ?_)
            refine lv_bipush (v := 7) hx hb dX5_lends_33 (by decide) ?_
            refine lv_istore (lv' := [(5, .int 7), (4, .int (-4)), (0, .ref (o 0 0)), (1, .int x1), (2, .int x2), (3, .int x3)]) hx hb dX5_lends_35 hl (by decide) rfl (fun ls hl => ?_)
            refine lv_iconst (v := 0) hx hb dX5_lends_37 (by decide) ?_
            refine lv_istore (lv' := [(6, .int 0), (5, .int 7), (4, .int (-4)), (0, .ref (o 0 0)), (1, .int x1), (2, .int x2), (3, .int x3)]) hx hb dX5_lends_38 hl (by decide) rfl (fun ls hl => ?_)
            obtain ⟨q14, hq14, h⟩ := bind_inv h
            refine t_X5_lends_40 Z κ nw x1 x2 x3 FU _ _ _ _ _ hq14 _ _ _ hP hD hS (lv_sub hl [3, 4, 5, 6, 2, 1, 0] rfl) (fun H locs ls hP hD hS hl => ?_)
            refine lv_iload_n hx hb dX5_lends_114 rfl (lv_at hl 3 rfl) ?_
            refine lv_if_eq (tgt := 125) hx hb dX5_lends_115 (by decide) (fun hc15 => ?_) (fun hc15 => ?_)
            · rw [if_pos hc15] at h
              refine lv_iload hx hb dX5_lends_125 (lv_at hl 4 rfl) ?_
              refine lv_goto (tgt := 132) hx hb dX5_lends_127 (by decide) ?_
              have h := Option.some.inj h
              subst h
              exact CT.iret Z hP hD hS dX5_lends_132
            · rw [if_neg hc15] at h
              refine lv_iload hx hb dX5_lends_118 (lv_at hl 4 rfl) ?_
              refine lv_bipush (v := (-4)) hx hb dX5_lends_120 (by decide) ?_
              refine lv_icmp_ne (tgt := 130) hx hb dX5_lends_122 (by decide) (fun hc16 => ?_) (fun hc16 => ?_)
              · rw [if_neg hc16] at h
                refine lv_iload hx hb dX5_lends_130 (lv_at hl 5 rfl) ?_
                have h := Option.some.inj h
                subst h
                exact CT.iret Z hP hD hS dX5_lends_132
              · rw [if_pos hc16] at h
                refine lv_iload hx hb dX5_lends_125 (lv_at hl 4 rfl) ?_
                refine lv_goto (tgt := 132) hx hb dX5_lends_127 (by decide) ?_
                have h := Option.some.inj h
                subst h
                exact CT.iret Z hP hD hS dX5_lends_132
          · rw [if_neg hc6] at h
            refine lv_iconst (v := (-1)) hx hb dX5_lends_27 (by decide) ?_
            have h := Option.some.inj h
            subst h
            exact CT.iret Z hP hD hS dX5_lends_28

-- X5.stoppedIfTold
theorem lk_X5_stoppedIfTold_33 : Cond.fieldLink RX5 33 "KeyedFeelings" "trial" "LKeyedFeelings$People;" ∈ wsX5_stoppedIfTold := by decide +kernel
theorem in_X5_stoppedIfTold_X5 : ∀ w ∈ wsX50, w ∈ wsX5_stoppedIfTold := by decide +kernel
theorem lk_X5_stoppedIfTold_10 : Cond.fieldLink RX5 10 "KeyedFeelings" "now" "LKeyedFeelings$People;" ∈ wsX5_stoppedIfTold := by decide +kernel
theorem n1_X5_stoppedIfTold_X2 : Cond.initialized RX2 ∈ wsX5_stoppedIfTold := by decide +kernel
theorem n2_X5_stoppedIfTold_X2_become : Cond.instanceMethod yX2_become ∈ wsX5_stoppedIfTold := by decide +kernel
theorem n3_X5_stoppedIfTold_X2_become : Cond.selects RX2 yX2_become yX2_become ∈ wsX5_stoppedIfTold := by decide +kernel
theorem in_X5_stoppedIfTold_X2 : ∀ w ∈ wsX20, w ∈ wsX5_stoppedIfTold := by decide +kernel
theorem n2_X5_stoppedIfTold_X2_passHours : Cond.instanceMethod yX2_passHours ∈ wsX5_stoppedIfTold := by decide +kernel
theorem n3_X5_stoppedIfTold_X2_passHours : Cond.selects RX2 yX2_passHours yX2_passHours ∈ wsX5_stoppedIfTold := by decide +kernel
theorem n2_X5_stoppedIfTold_X2_stopped : Cond.instanceMethod yX2_stopped ∈ wsX5_stoppedIfTold := by decide +kernel
theorem n3_X5_stoppedIfTold_X2_stopped : Cond.selects RX2 yX2_stopped yX2_stopped ∈ wsX5_stoppedIfTold := by decide +kernel
noncomputable def f_X5_stoppedIfTold (κ : St5) (nw : St2) (tr : St2) (x1 : Int32) (x2 : Int32) (x3 : Int32) : Option (Int32 × St2) := (if inB x1 6 = true then ((f_X2_passHours (s2_winds nw (upd (p2_winds nw) x1.toNatClampNeg x2)) x3).bind (fun r3 => ((f_X2_stopped r3).bind (fun r4 => ((f_J6_bitCount_0f7a4 r4).bind (fun r5 => some (r5, r3))))))) else none)
noncomputable def rmX5_stoppedIfTold : Room := { frames := 5, cells := 0, slots := 0, locals := 109 }
set_option maxHeartbeats 4000000 in
set_option maxRecDepth 100000 in
theorem c_X5_stoppedIfTold (l : Launch) (D : va_G) (cA : Nat → ClassId) (o : Nat → Nat → Nat) (κ : St5) (nw : St2) (tr : St2) (x1 : Int32) (x2 : Int32) (x3 : Int32) (res : Int32 × St2) (h : f_X5_stoppedIfTold κ nw tr x1 x2 x3 = some res) : CT l D cA yX5_stoppedIfTold wsX5_stoppedIfTold rmX5_stoppedIfTold [.ref (o 0 0), .int x1, .int x2, .int x3] [w5 cA o κ, w2 cA (o 1) nw, w2 cA (o 5) tr] [w5 cA o κ, w2 cA (o 1) nw, w2 cA (o 5) res.2] (some (.int res.1)) := by
  refine CT.start (cc := cX5_stoppedIfTold) (maxL := 4) (ret := (some .int)) (by decide) rfl (Nat.le_of_ble_eq_true rfl) ?_
  intro p e s m below meth c Z hP hD hS ls hl
  have Z : Cx p s m _ meth c cX5_stoppedIfTold 4 (some .int) wsX5_stoppedIfTold RX5 D cA := Z
  have hl : lv_has ls 4 [(0, .ref (o 0 0)), (1, .int x1), (2, .int x2), (3, .int x3)] := hl
  obtain ⟨hx, hb, hml, hown, hts, hr, hlk, hKK⟩ := id Z
  have hK := hKK.1
  rw [f_X5_stoppedIfTold] at h
  refine lv_aload_n hx hb dX5_stoppedIfTold_0 rfl (lv_at hl 0 rfl) ?_
  refine va_get (D := D) (ci := 5) (v := .ref (o 5 0)) (C := RX5) (T := TX5) (N := 9) hx hb hts in_X5_stoppedIfTold_X5 hown hK hP 0 rfl rfl 5 (by decide) (hts _ lk_X5_stoppedIfTold_33) (fun _ h9 => h9) rfl dX5_stoppedIfTold_1 ?_
  refine lv_aload_n hx hb dX5_stoppedIfTold_4 rfl (lv_at hl 0 rfl) ?_
  refine va_get (D := D) (ci := 5) (v := .ref (o 1 0)) (C := RX5) (T := TX5) (N := 9) hx hb hts in_X5_stoppedIfTold_X5 hown hK hP 0 rfl rfl 0 (by decide) (hts _ lk_X5_stoppedIfTold_10) (fun _ h9 => h9) rfl dX5_stoppedIfTold_5 ?_
  refine kVN (rest := []) (st1 := []) (cr := [w5 cA o κ]) (cs' := [w5 cA o κ, w2 cA (o 1) nw, w2 cA (o 5) nw]) Z (c_become l D cA (o 5) (o 1) tr nw ) 1 gX5_stoppedIfTold_X2_become_n115 rfl hdX2_become nk_X5_115 n1_X5_stoppedIfTold_X2 n2_X5_stoppedIfTold_X2_become n3_X5_stoppedIfTold_X2_become ⟨rfl, rfl⟩ ⟨Nat.le_of_ble_eq_true rfl, Nat.le_of_ble_eq_true rfl⟩ ⟨Nat.zero_le _, Nat.zero_le _⟩ hP hD hS hl.1 rfl rfl rfl (Nat.le_of_ble_eq_true rfl) 2 rfl rfl rfl [2, 1] [0] [0, 2, 1] rfl rfl rfl rfl rfl dX5_stoppedIfTold_8 (fun H locs hP hD hS => ?_)
  refine lv_aload_n hx hb dX5_stoppedIfTold_11 rfl (lv_at hl 0 rfl) ?_
  refine va_get (D := D) (ci := 5) (v := .ref (o 5 0)) (C := RX5) (T := TX5) (N := 9) hx hb hts in_X5_stoppedIfTold_X5 hown hK hP 0 rfl rfl 5 (by decide) (hts _ lk_X5_stoppedIfTold_33) (fun _ h9 => h9) rfl dX5_stoppedIfTold_12 ?_
  refine va_getN (D := D) (ci := 2) (v := .ref (o 5 3)) (C := RX2) (T := TX2) (N := 7) hx hb hts in_X5_stoppedIfTold_X2 hown hK hP 6 rfl rfl 3 (by decide) (nest_use rfl (hKK.2 _ nk_X5_79)) (fun _ h9 => h9) rfl dX5_stoppedIfTold_15 ?_
  refine lv_iload_n hx hb dX5_stoppedIfTold_18 rfl (lv_at hl 1 rfl) ?_
  refine lv_iload_n hx hb dX5_stoppedIfTold_19 rfl (lv_at hl 2 rfl) ?_
  obtain ⟨hg2, h⟩ := if_inv h
  refine va_iast hx hb hK hP hD hS 9 0 rfl rfl (inB_in hg2) dX5_stoppedIfTold_20 (fun H locs hP hD hS => ?_)
  have hP : va_P D vwCl ([w5 cA o κ, w2 cA (o 1) nw, w2 cA (o 5) (s2_winds nw (upd (p2_winds nw) x1.toNatClampNeg x2))] : List va_W).flatten H := hP
  have hD : va_D _ ([w5 cA o κ, w2 cA (o 1) nw, w2 cA (o 5) (s2_winds nw (upd (p2_winds nw) x1.toNatClampNeg x2))] : List va_W).flatten := hD
  refine lv_aload_n hx hb dX5_stoppedIfTold_21 rfl (lv_at hl 0 rfl) ?_
  refine va_get (D := D) (ci := 5) (v := .ref (o 5 0)) (C := RX5) (T := TX5) (N := 9) hx hb hts in_X5_stoppedIfTold_X5 hown hK hP 0 rfl rfl 5 (by decide) (hts _ lk_X5_stoppedIfTold_33) (fun _ h9 => h9) rfl dX5_stoppedIfTold_22 ?_
  refine lv_iload_n hx hb dX5_stoppedIfTold_25 rfl (lv_at hl 3 rfl) ?_
  obtain ⟨r3, hr3, h⟩ := bind_inv h
  refine kVN (rest := []) (st1 := []) (cr := [w5 cA o κ, w2 cA (o 1) nw]) (cs' := [w5 cA o κ, w2 cA (o 1) nw, w2 cA (o 5) r3]) Z (c_X2_passHours l D cA (o 5) (s2_winds nw (upd (p2_winds nw) x1.toNatClampNeg x2)) x3 r3 hr3) 1 gX5_stoppedIfTold_X2_passHours_n155 rfl hdX2_passHours nk_X5_155 n1_X5_stoppedIfTold_X2 n2_X5_stoppedIfTold_X2_passHours n3_X5_stoppedIfTold_X2_passHours ⟨rfl, rfl⟩ ⟨Nat.le_of_ble_eq_true rfl, Nat.le_of_ble_eq_true rfl⟩ ⟨Nat.zero_le _, Nat.zero_le _⟩ hP hD hS hl.1 rfl rfl rfl (Nat.le_of_ble_eq_true rfl) 2 rfl rfl rfl [2] [0, 1] [0, 1, 2] rfl rfl rfl rfl rfl dX5_stoppedIfTold_26 (fun H locs hP hD hS => ?_)
  refine lv_aload_n hx hb dX5_stoppedIfTold_29 rfl (lv_at hl 0 rfl) ?_
  refine va_get (D := D) (ci := 5) (v := .ref (o 5 0)) (C := RX5) (T := TX5) (N := 9) hx hb hts in_X5_stoppedIfTold_X5 hown hK hP 0 rfl rfl 5 (by decide) (hts _ lk_X5_stoppedIfTold_33) (fun _ h9 => h9) rfl dX5_stoppedIfTold_30 ?_
  obtain ⟨r4, hr4, h⟩ := bind_inv h
  refine kVN (rest := []) (st1 := [.int r4]) (cr := [w5 cA o κ, w2 cA (o 1) nw]) (cs' := [w5 cA o κ, w2 cA (o 1) nw, w2 cA (o 5) r3]) Z (c_X2_stopped l D cA (o 5) r3 r4 hr4) 0 gX5_stoppedIfTold_X2_stopped_n85 rfl hdX2_stopped nk_X5_85 n1_X5_stoppedIfTold_X2 n2_X5_stoppedIfTold_X2_stopped n3_X5_stoppedIfTold_X2_stopped ⟨rfl, rfl⟩ ⟨Nat.le_of_ble_eq_true rfl, Nat.le_of_ble_eq_true rfl⟩ ⟨Nat.zero_le _, Nat.zero_le _⟩ hP hD hS hl.1 rfl rfl rfl (Nat.le_of_ble_eq_true rfl) 2 rfl rfl rfl [2] [0, 1] [0, 1, 2] rfl rfl rfl rfl rfl dX5_stoppedIfTold_33 (fun H locs hP hD hS => ?_)
  obtain ⟨r5, hr5, h⟩ := bind_inv h
  refine kS (rest := []) (st1 := [.int r5]) (cr := [w5 cA o κ, w2 cA (o 1) nw, w2 cA (o 5) r3]) (cs' := [w5 cA o κ, w2 cA (o 1) nw, w2 cA (o 5) r3]) Z (c_J6_bitCount_0f7a4 l D cA r4 r5 hr5) 1 gX5_stoppedIfTold_J6_bitCount_0f7a4 rfl hdJ6_bitCount_0f7a4 ⟨rfl, rfl⟩ ⟨Nat.le_of_ble_eq_true rfl, Nat.le_of_ble_eq_true rfl⟩ ⟨Nat.zero_le _, Nat.zero_le _⟩ hP hD hS hl.1 rfl rfl rfl (Nat.le_of_ble_eq_true rfl) [] [0, 1, 2] [0, 1, 2] rfl rfl rfl rfl rfl dX5_stoppedIfTold_36 (fun H locs hP hD hS => ?_)
  have h := Option.some.inj h
  subst h
  exact CT.iret Z hP hD hS dX5_stoppedIfTold_39

-- X5.instead
theorem lk_X5_instead_10 : Cond.fieldLink RX5 10 "KeyedFeelings" "now" "LKeyedFeelings$People;" ∈ wsX5_instead := by decide +kernel
theorem in_X5_instead_X5 : ∀ w ∈ wsX50, w ∈ wsX5_instead := by decide +kernel
theorem n1_X5_instead_X2 : Cond.initialized RX2 ∈ wsX5_instead := by decide +kernel
theorem n2_X5_instead_X2_has : Cond.instanceMethod yX2_has ∈ wsX5_instead := by decide +kernel
theorem n3_X5_instead_X2_has : Cond.selects RX2 yX2_has yX2_has ∈ wsX5_instead := by decide +kernel
theorem in_X5_instead_X2 : ∀ w ∈ wsX20, w ∈ wsX5_instead := by decide +kernel
noncomputable def lp_X5_instead_46 (κ : St5) (nw : St2) (x1 : Int32) (x2 : Int32) (x3 : Int32) : Nat → Int32 → Int32 → Int32 → St2 → Option (Int32 × Int32 × Int32 × St2)
  | 0, _, _, _, _ => none
  | n + 1, x4, x5, x6, tr => (if (p2_size nw) ≤ x6 then some (x4, x5, x6, tr) else (if x6 = x1 then (if x5 ≤ x5 then lp_X5_instead_46 κ nw x1 x2 x3 n x4 x5 (x6 + 1) tr else lp_X5_instead_46 κ nw x1 x2 x3 n x6 x5 (x6 + 1) tr) else ((f_X5_stoppedIfTold κ nw tr x1 x6 x2).bind (fun r10 => (if x5 ≤ r10.1 then lp_X5_instead_46 κ nw x1 x2 x3 n x4 x5 (x6 + 1) r10.2 else lp_X5_instead_46 κ nw x1 x2 x3 n x6 r10.1 (x6 + 1) r10.2)))))
noncomputable def f_X5_instead (κ : St5) (nw : St2) (tr : St2) (x1 : Int32) (x2 : Int32) (x3 : Int32) : Option (Int32 × St2) := ((f_X2_has nw x1).bind (fun r1 => (if r1 = 0 then some ((-1), tr) else ((f_X5_isAdvised x2).bind (fun r3 => (if r3 = 0 then some ((-1), tr) else (if x3 < 0 then some ((-1), tr) else (if x3 ≤ 1 then ((f_X5_stoppedIfTold κ nw tr x1 (-4) x2).bind (fun r7 => ((lp_X5_instead_46 κ nw x1 x2 x3 FU (-4) r7.1 0 r7.2).bind (fun q13 => (if x3 = 0 then some (q13.1, q13.2.2.2) else some (q13.2.1, q13.2.2.2)))))) else some ((-1), tr)))))))))
noncomputable def rmX5_instead : Room := { frames := 6, cells := 0, slots := 0, locals := 132 }
set_option maxHeartbeats 4000000 in
set_option maxRecDepth 100000 in
theorem t_X5_instead_46 {p : Program} {l : Launch} {e : Env} {s : State} {m : MethodId} {args : Array Value} {below : List Frame} {meth : Method} {c : Code} {D : va_G} {cA : Nat → ClassId} {A0 : Nat → Prop} {H0 : Heap} {o : Nat → Nat → Nat} (Z : Cx p s m args meth c cX5_instead 8 (some .int) wsX5_instead RX5 D cA) (κ : St5) (nw : St2) (x1 : Int32) (x2 : Int32) (x3 : Int32) {Q : State → Prop} : ∀ (n : Nat) (x4 : Int32) (x5 : Int32) (x6 : Int32) (tr : St2) (q : Int32 × Int32 × Int32 × St2), lp_X5_instead_46 κ nw x1 x2 x3 n x4 x5 x6 tr = some q → ∀ (H : Heap) (locs : List Loc) (ls : Array Slot), va_P D vwCl ([w5 cA o κ, w2 cA (o 1) nw, w2 cA (o 5) tr] : List va_W).flatten H → va_D A0 ([w5 cA o κ, w2 cA (o 1) nw, w2 cA (o 5) tr] : List va_W).flatten → va_S A0 H0 H locs → lv_has ls 8 [(0, .ref (o 0 0)), (1, .int x1), (2, .int x2), (3, .int x3), (4, .int x4), (5, .int x5), (6, .int x6)] → (∀ (H : Heap) (locs : List Loc) (ls : Array Slot), va_P D vwCl ([w5 cA o κ, w2 cA (o 1) nw, w2 cA (o 5) q.2.2.2] : List va_W).flatten H → va_D A0 ([w5 cA o κ, w2 cA (o 1) nw, w2 cA (o 5) q.2.2.2] : List va_W).flatten → va_S A0 H0 H locs → lv_has ls 8 [(0, .ref (o 0 0)), (1, .int x1), (2, .int x2), (3, .int x3), (4, .int q.1), (5, .int q.2.1), (6, .int q.2.2.1)] → W p l e rmX5_instead s m args below meth c H locs 0 0 Q (F0 m 100 ls [])) → W p l e rmX5_instead s m args below meth c H locs 0 0 Q (F0 m 46 ls []) := by
  obtain ⟨hx, hb, hml, hown, hts, hr, hlk, hKK⟩ := id Z
  have hK := hKK.1
  intro n
  induction n with
  | zero =>
    intro x4 x5 x6 tr q h
    rw [lp_X5_instead_46] at h
    cases h
  | succ n ih =>
    intro x4 x5 x6 tr q h H locs ls hP hD hS hl kk
    rw [lp_X5_instead_46] at h
    refine lv_iload hx hb dX5_instead_46 (lv_at hl 6 rfl) ?_
    refine lv_aload_n hx hb dX5_instead_48 rfl (lv_at hl 0 rfl) ?_
    refine va_get (D := D) (ci := 5) (v := .ref (o 1 0)) (C := RX5) (T := TX5) (N := 9) hx hb hts in_X5_instead_X5 hown hK hP 0 rfl rfl 0 (by decide) (hts _ lk_X5_instead_10) (fun _ h9 => h9) rfl dX5_instead_49 ?_
    refine va_getN (D := D) (ci := 2) (v := .int (p2_size nw)) (C := RX2) (T := TX2) (N := 7) hx hb hts in_X5_instead_X2 hown hK hP 1 rfl rfl 0 (by decide) (nest_use rfl (hKK.2 _ nk_X5_57)) (fun _ h9 => h9) rfl dX5_instead_52 ?_
    refine lv_icmp_ge (tgt := 100) hx hb dX5_instead_55 (by decide) (fun hc8 => ?_) (fun hc8 => ?_)
    · rw [if_pos hc8] at h
      have h := Option.some.inj h
      subst h
      exact kk _ _ _ hP hD hS (lv_sub hl [0, 1, 2, 3, 4, 5, 6] rfl)
    · rw [if_neg hc8] at h
      refine lv_iload hx hb dX5_instead_58 (lv_at hl 6 rfl) ?_
      refine lv_iload_n hx hb dX5_instead_60 rfl (lv_at hl 1 rfl) ?_
      refine lv_icmp_ne (tgt := 69) hx hb dX5_instead_61 (by decide) (fun hc9 => ?_) (fun hc9 => ?_)
      · rw [if_neg hc9] at h
        refine lv_aload_n hx hb dX5_instead_69 rfl (lv_at hl 0 rfl) ?_
        refine lv_iload_n hx hb dX5_instead_70 rfl (lv_at hl 1 rfl) ?_
        refine lv_iload hx hb dX5_instead_71 (lv_at hl 6 rfl) ?_
        refine lv_iload_n hx hb dX5_instead_73 rfl (lv_at hl 2 rfl) ?_
        obtain ⟨r10, hr10, h⟩ := bind_inv h
        refine kV (rest := []) (st1 := [.int r10.1]) (cr := []) (cs' := [w5 cA o κ, w2 cA (o 1) nw, w2 cA (o 5) r10.2]) Z (c_X5_stoppedIfTold l D cA o κ nw tr x1 x6 x2 r10 hr10) 3 gX5_instead_X5_stoppedIfTold rfl hdX5_stoppedIfTold ⟨rfl, rfl⟩ ⟨Nat.le_of_ble_eq_true rfl, Nat.le_of_ble_eq_true rfl⟩ ⟨Nat.zero_le _, Nat.zero_le _⟩ hP hD hS hl.1 rfl rfl rfl (Nat.le_of_ble_eq_true rfl) 5 rfl rfl rfl [0, 1, 2] [] [0, 1, 2] rfl rfl rfl rfl rfl dX5_instead_74 (fun H locs hP hD hS => ?_)
        refine lv_istore (lv' := [(7, .int r10.1), (0, .ref (o 0 0)), (1, .int x1), (2, .int x2), (3, .int x3), (4, .int x4), (5, .int x5), (6, .int x6)]) hx hb dX5_instead_77 hl (by decide) rfl (fun ls hl => ?_)
        refine lv_iload hx hb dX5_instead_79 (lv_at hl 0 rfl) ?_
        refine lv_iload hx hb dX5_instead_81 (lv_at hl 6 rfl) ?_
        refine lv_icmp_ge (tgt := 94) hx hb dX5_instead_83 (by decide) (fun hc11 => ?_) (fun hc11 => ?_)
        · rw [if_pos hc11] at h
          refine lv_iinc (v := x6 + 1) (lv' := [(6, .int (x6 + 1)), (7, .int r10.1), (0, .ref (o 0 0)), (1, .int x1), (2, .int x2), (3, .int x3), (4, .int x4), (5, .int x5)]) hx hb dX5_instead_94 hl (k := 7) rfl rfl (by decide) rfl (fun ls hl => ?_)
          refine lv_goto (tgt := 46) hx hb dX5_instead_97 (by decide) ?_
          exact ih _ _ _ _ _ h _ _ _ hP hD hS (lv_sub hl [2, 3, 4, 5, 6, 7, 0] rfl) kk
        · rw [if_neg hc11] at h
          refine lv_iload hx hb dX5_instead_86 (lv_at hl 0 rfl) ?_
          refine lv_istore (lv' := [(5, .int r10.1), (7, .int r10.1), (0, .ref (o 0 0)), (1, .int x1), (2, .int x2), (3, .int x3), (4, .int x4), (6, .int x6)]) hx hb dX5_instead_88 hl (by decide) rfl (fun ls hl => ?_)
          refine lv_iload hx hb dX5_instead_90 (lv_at hl 7 rfl) ?_
          refine lv_istore (lv' := [(4, .int x6), (5, .int r10.1), (7, .int r10.1), (0, .ref (o 0 0)), (1, .int x1), (2, .int x2), (3, .int x3), (6, .int x6)]) hx hb dX5_instead_92 hl (by decide) rfl (fun ls hl => ?_)
          refine lv_iinc (v := x6 + 1) (lv' := [(6, .int (x6 + 1)), (4, .int x6), (5, .int r10.1), (7, .int r10.1), (0, .ref (o 0 0)), (1, .int x1), (2, .int x2), (3, .int x3)]) hx hb dX5_instead_94 hl (k := 7) rfl rfl (by decide) rfl (fun ls hl => ?_)
          refine lv_goto (tgt := 46) hx hb dX5_instead_97 (by decide) ?_
          exact ih _ _ _ _ _ h _ _ _ hP hD hS (lv_sub hl [4, 5, 6, 7, 1, 2, 0] rfl) kk
      · rw [if_pos hc9] at h
        refine lv_iload hx hb dX5_instead_64 (lv_at hl 5 rfl) ?_
        refine lv_goto (tgt := 77) hx hb dX5_instead_66 (by decide) ?_
        refine lv_istore (lv' := [(7, .int x5), (0, .ref (o 0 0)), (1, .int x1), (2, .int x2), (3, .int x3), (4, .int x4), (5, .int x5), (6, .int x6)]) hx hb dX5_instead_77 hl (by decide) rfl (fun ls hl => ?_)
        refine lv_iload hx hb dX5_instead_79 (lv_at hl 0 rfl) ?_
        refine lv_iload hx hb dX5_instead_81 (lv_at hl 6 rfl) ?_
        refine lv_icmp_ge (tgt := 94) hx hb dX5_instead_83 (by decide) (fun hc12 => ?_) (fun hc12 => ?_)
        · rw [if_pos hc12] at h
          refine lv_iinc (v := x6 + 1) (lv' := [(6, .int (x6 + 1)), (7, .int x5), (0, .ref (o 0 0)), (1, .int x1), (2, .int x2), (3, .int x3), (4, .int x4), (5, .int x5)]) hx hb dX5_instead_94 hl (k := 7) rfl rfl (by decide) rfl (fun ls hl => ?_)
          refine lv_goto (tgt := 46) hx hb dX5_instead_97 (by decide) ?_
          exact ih _ _ _ _ _ h _ _ _ hP hD hS (lv_sub hl [2, 3, 4, 5, 6, 7, 0] rfl) kk
        · rw [if_neg hc12] at h
          refine lv_iload hx hb dX5_instead_86 (lv_at hl 0 rfl) ?_
          refine lv_istore (lv' := [(5, .int x5), (7, .int x5), (0, .ref (o 0 0)), (1, .int x1), (2, .int x2), (3, .int x3), (4, .int x4), (6, .int x6)]) hx hb dX5_instead_88 hl (by decide) rfl (fun ls hl => ?_)
          refine lv_iload hx hb dX5_instead_90 (lv_at hl 7 rfl) ?_
          refine lv_istore (lv' := [(4, .int x6), (5, .int x5), (7, .int x5), (0, .ref (o 0 0)), (1, .int x1), (2, .int x2), (3, .int x3), (6, .int x6)]) hx hb dX5_instead_92 hl (by decide) rfl (fun ls hl => ?_)
          refine lv_iinc (v := x6 + 1) (lv' := [(6, .int (x6 + 1)), (4, .int x6), (5, .int x5), (7, .int x5), (0, .ref (o 0 0)), (1, .int x1), (2, .int x2), (3, .int x3)]) hx hb dX5_instead_94 hl (k := 7) rfl rfl (by decide) rfl (fun ls hl => ?_)
          refine lv_goto (tgt := 46) hx hb dX5_instead_97 (by decide) ?_
          exact ih _ _ _ _ _ h _ _ _ hP hD hS (lv_sub hl [4, 5, 6, 7, 1, 2, 0] rfl) kk
set_option maxHeartbeats 4000000 in
set_option maxRecDepth 100000 in
theorem c_X5_instead (l : Launch) (D : va_G) (cA : Nat → ClassId) (o : Nat → Nat → Nat) (κ : St5) (nw : St2) (tr : St2) (x1 : Int32) (x2 : Int32) (x3 : Int32) (res : Int32 × St2) (h : f_X5_instead κ nw tr x1 x2 x3 = some res) : CT l D cA yX5_instead wsX5_instead rmX5_instead [.ref (o 0 0), .int x1, .int x2, .int x3] [w5 cA o κ, w2 cA (o 1) nw, w2 cA (o 5) tr] [w5 cA o κ, w2 cA (o 1) nw, w2 cA (o 5) res.2] (some (.int res.1)) := by
  refine CT.start (cc := cX5_instead) (maxL := 8) (ret := (some .int)) (by decide) rfl (Nat.le_of_ble_eq_true rfl) ?_
  intro p e s m below meth c Z hP hD hS ls hl
  have Z : Cx p s m _ meth c cX5_instead 8 (some .int) wsX5_instead RX5 D cA := Z
  have hl : lv_has ls 8 [(0, .ref (o 0 0)), (1, .int x1), (2, .int x2), (3, .int x3)] := hl
  obtain ⟨hx, hb, hml, hown, hts, hr, hlk, hKK⟩ := id Z
  have hK := hKK.1
  rw [f_X5_instead] at h
  refine lv_aload_n hx hb dX5_instead_0 rfl (lv_at hl 0 rfl) ?_
  refine va_get (D := D) (ci := 5) (v := .ref (o 1 0)) (C := RX5) (T := TX5) (N := 9) hx hb hts in_X5_instead_X5 hown hK hP 0 rfl rfl 0 (by decide) (hts _ lk_X5_instead_10) (fun _ h9 => h9) rfl dX5_instead_1 ?_
  refine lv_iload_n hx hb dX5_instead_4 rfl (lv_at hl 1 rfl) ?_
  obtain ⟨r1, hr1, h⟩ := bind_inv h
  refine kVN (rest := []) (st1 := [.int r1]) (cr := [w5 cA o κ, w2 cA (o 5) tr]) (cs' := [w5 cA o κ, w2 cA (o 1) nw, w2 cA (o 5) tr]) Z (c_X2_has l D cA (o 1) nw x1 r1 hr1) 1 gX5_instead_X2_has_n68 rfl hdX2_has nk_X5_68 n1_X5_instead_X2 n2_X5_instead_X2_has n3_X5_instead_X2_has ⟨rfl, rfl⟩ ⟨Nat.le_of_ble_eq_true rfl, Nat.le_of_ble_eq_true rfl⟩ ⟨Nat.zero_le _, Nat.zero_le _⟩ hP hD hS hl.1 rfl rfl rfl (Nat.le_of_ble_eq_true rfl) 2 rfl rfl rfl [1] [0, 2] [0, 2, 1] rfl rfl rfl rfl rfl dX5_instead_5 (fun H locs hP hD hS => ?_)
  refine lv_if_eq (tgt := 27) hx hb dX5_instead_8 (by decide) (fun hc2 => ?_) (fun hc2 => ?_)
  · rw [if_pos hc2] at h
    refine lv_iconst (v := (-1)) hx hb dX5_instead_27 (by decide) ?_
    have h := Option.some.inj h
    subst h
    exact CT.iret Z hP hD hS dX5_instead_28
  · rw [if_neg hc2] at h
    refine lv_iload_n hx hb dX5_instead_11 rfl (lv_at hl 2 rfl) ?_
    obtain ⟨r3, hr3, h⟩ := bind_inv h
    refine kS (rest := []) (st1 := [.int r3]) (cr := [w5 cA o κ, w2 cA (o 1) nw, w2 cA (o 5) tr]) (cs' := [w5 cA o κ, w2 cA (o 1) nw, w2 cA (o 5) tr]) Z (c_X5_isAdvised l D cA x2 r3 hr3) 1 gX5_instead_X5_isAdvised rfl hdX5_isAdvised ⟨rfl, rfl⟩ ⟨Nat.le_of_ble_eq_true rfl, Nat.le_of_ble_eq_true rfl⟩ ⟨Nat.zero_le _, Nat.zero_le _⟩ hP hD hS hl.1 rfl rfl rfl (Nat.le_of_ble_eq_true rfl) [] [0, 1, 2] [0, 1, 2] rfl rfl rfl rfl rfl dX5_instead_12 (fun H locs hP hD hS => ?_)
    refine lv_if_eq (tgt := 27) hx hb dX5_instead_15 (by decide) (fun hc4 => ?_) (fun hc4 => ?_)
    · rw [if_pos hc4] at h
      refine lv_iconst (v := (-1)) hx hb dX5_instead_27 (by decide) ?_
      have h := Option.some.inj h
      subst h
      exact CT.iret Z hP hD hS dX5_instead_28
    · rw [if_neg hc4] at h
      refine lv_iload_n hx hb dX5_instead_18 rfl (lv_at hl 3 rfl) ?_
      refine lv_if_lt (tgt := 27) hx hb dX5_instead_19 (by decide) (fun hc5 => ?_) (fun hc5 => ?_)
      · rw [if_pos hc5] at h
        refine lv_iconst (v := (-1)) hx hb dX5_instead_27 (by decide) ?_
        have h := Option.some.inj h
        subst h
        exact CT.iret Z hP hD hS dX5_instead_28
      · rw [if_neg hc5] at h
        refine lv_iload_n hx hb dX5_instead_22 rfl (lv_at hl 3 rfl) ?_
        refine lv_iconst (v := 1) hx hb dX5_instead_23 (by decide) ?_
        refine lv_icmp_le (tgt := 29) hx hb dX5_instead_24 (by decide) (fun hc6 => ?_) (fun hc6 => ?_)
        · rw [if_pos hc6] at h
          refine lv_bipush (v := (-4)) hx hb dX5_instead_29 (by decide) ?_
          refine lv_istore (lv' := [(4, .int (-4)), (0, .ref (o 0 0)), (1, .int x1), (2, .int x2), (3, .int x3)]) hx hb dX5_instead_31 hl (by decide) rfl (fun ls hl => ?_)
          refine lv_aload_n hx hb dX5_instead_33 rfl (lv_at hl 1 rfl) ?_
          refine lv_iload_n hx hb dX5_instead_34 rfl (lv_at hl 2 rfl) ?_
          refine lv_bipush (v := (-4)) hx hb dX5_instead_35 (by decide) ?_
          refine lv_iload_n hx hb dX5_instead_37 rfl (lv_at hl 3 rfl) ?_
          obtain ⟨r7, hr7, h⟩ := bind_inv h
          refine kV (rest := []) (st1 := [.int r7.1]) (cr := []) (cs' := [w5 cA o κ, w2 cA (o 1) nw, w2 cA (o 5) r7.2]) Z (c_X5_stoppedIfTold l D cA o κ nw tr x1 (-4) x2 r7 hr7) 3 gX5_instead_X5_stoppedIfTold rfl hdX5_stoppedIfTold ⟨rfl, rfl⟩ ⟨Nat.le_of_ble_eq_true rfl, Nat.le_of_ble_eq_true rfl⟩ ⟨Nat.zero_le _, Nat.zero_le _⟩ hP hD hS hl.1 rfl rfl rfl (Nat.le_of_ble_eq_true rfl) 5 rfl rfl rfl [0, 1, 2] [] [0, 1, 2] rfl rfl rfl rfl rfl dX5_instead_38 (fun H locs hP hD hS => ?_)
          refine lv_istore (lv' := [(5, .int r7.1), (4, .int (-4)), (0, .ref (o 0 0)), (1, .int x1), (2, .int x2), (3, .int x3)]) hx hb dX5_instead_41 hl (by decide) rfl (fun ls hl => ?_)
          refine lv_iconst (v := 0) hx hb dX5_instead_43 (by decide) ?_
          refine lv_istore (lv' := [(6, .int 0), (5, .int r7.1), (4, .int (-4)), (0, .ref (o 0 0)), (1, .int x1), (2, .int x2), (3, .int x3)]) hx hb dX5_instead_44 hl (by decide) rfl (fun ls hl => ?_)
          obtain ⟨q13, hq13, h⟩ := bind_inv h
          refine t_X5_instead_46 Z κ nw x1 x2 x3 FU _ _ _ _ _ hq13 _ _ _ hP hD hS (lv_sub hl [3, 4, 5, 6, 2, 1, 0] rfl) (fun H locs ls hP hD hS hl => ?_)
          refine lv_iload_n hx hb dX5_instead_100 rfl (lv_at hl 3 rfl) ?_
          refine lv_if_ne (tgt := 109) hx hb dX5_instead_101 (by decide) (fun hc14 => ?_) (fun hc14 => ?_)
          · rw [if_neg hc14] at h
            refine lv_iload hx hb dX5_instead_109 (lv_at hl 5 rfl) ?_
            have h := Option.some.inj h
            subst h
            exact CT.iret Z hP hD hS dX5_instead_111
          · rw [if_pos hc14] at h
            refine lv_iload hx hb dX5_instead_104 (lv_at hl 4 rfl) ?_
            refine lv_goto (tgt := 111) hx hb dX5_instead_106 (by decide) ?_
            have h := Option.some.inj h
            subst h
            exact CT.iret Z hP hD hS dX5_instead_111
        · rw [if_neg hc6] at h
          refine lv_iconst (v := (-1)) hx hb dX5_instead_27 (by decide) ?_
          have h := Option.some.inj h
          subst h
          exact CT.iret Z hP hD hS dX5_instead_28

-- X5.needs
theorem lk_X5_needs_10 : Cond.fieldLink RX5 10 "KeyedFeelings" "now" "LKeyedFeelings$People;" ∈ wsX5_needs := by decide +kernel
theorem in_X5_needs_X5 : ∀ w ∈ wsX50, w ∈ wsX5_needs := by decide +kernel
theorem n1_X5_needs_X2 : Cond.initialized RX2 ∈ wsX5_needs := by decide +kernel
theorem n2_X5_needs_X2_has : Cond.instanceMethod yX2_has ∈ wsX5_needs := by decide +kernel
theorem n3_X5_needs_X2_has : Cond.selects RX2 yX2_has yX2_has ∈ wsX5_needs := by decide +kernel
theorem lk_X5_needs_33 : Cond.fieldLink RX5 33 "KeyedFeelings" "trial" "LKeyedFeelings$People;" ∈ wsX5_needs := by decide +kernel
theorem n2_X5_needs_X2_become : Cond.instanceMethod yX2_become ∈ wsX5_needs := by decide +kernel
theorem n3_X5_needs_X2_become : Cond.selects RX2 yX2_become yX2_become ∈ wsX5_needs := by decide +kernel
theorem in_X5_needs_X2 : ∀ w ∈ wsX20, w ∈ wsX5_needs := by decide +kernel
theorem n2_X5_needs_X2_passUntilStopped : Cond.instanceMethod yX2_passUntilStopped ∈ wsX5_needs := by decide +kernel
theorem n3_X5_needs_X2_passUntilStopped : Cond.selects RX2 yX2_passUntilStopped yX2_passUntilStopped ∈ wsX5_needs := by decide +kernel
noncomputable def lp_X5_needs_22 (κ : St5) (nw : St2) (x1 : Int32) (x2 : Int32) : Nat → Int32 → St2 → Option (Int32 × St2)
  | 0, _, _ => none
  | n + 1, x3, tr => (if 30 < x3 then some ((-4), tr) else (if inB x1 6 = true then ((f_X2_passUntilStopped (s2_turns nw (upd (p2_turns nw) x1.toNatClampNeg x3)) (1 <<< (x1 &&& 31)) x2).bind (fun r8 => (if r8.1 = (-4) then some (x3, r8.2) else lp_X5_needs_22 κ nw x1 x2 n (x3 + 1) r8.2))) else none))
noncomputable def f_X5_needs (κ : St5) (nw : St2) (tr : St2) (x1 : Int32) (x2 : Int32) : Option (Int32 × St2) := ((f_X2_has nw x1).bind (fun r1 => (if r1 = 0 then some ((-1), tr) else ((f_X5_isAdvised x2).bind (fun r3 => (if r3 = 0 then some ((-1), tr) else lp_X5_needs_22 κ nw x1 x2 FU 0 tr))))))
noncomputable def rmX5_needs : Room := { frames := 5, cells := 0, slots := 0, locals := 110 }
set_option maxHeartbeats 4000000 in
set_option maxRecDepth 100000 in
theorem t_X5_needs_22 {p : Program} {l : Launch} {e : Env} {s : State} {m : MethodId} {args : Array Value} {below : List Frame} {meth : Method} {c : Code} {D : va_G} {cA : Nat → ClassId} {o : Nat → Nat → Nat} (Z : Cx p s m args meth c cX5_needs 4 (some .int) wsX5_needs RX5 D cA) (κ : St5) (nw : St2) (x1 : Int32) (x2 : Int32) {cs : List va_W} : ∀ (n : Nat) (x3 : Int32) (tr : St2) (q : Int32 × St2), lp_X5_needs_22 κ nw x1 x2 n x3 tr = some q → ∀ (H : Heap) (locs : List Loc) (ls : Array Slot), va_P D vwCl ([w5 cA o κ, w2 cA (o 1) nw, w2 cA (o 5) tr] : List va_W).flatten H → va_D (aIn cs.flatten) ([w5 cA o κ, w2 cA (o 1) nw, w2 cA (o 5) tr] : List va_W).flatten → va_S (aIn cs.flatten) s.heap H locs → lv_has ls 4 [(0, .ref (o 0 0)), (1, .int x1), (2, .int x2), (3, .int x3)] → W p l e rmX5_needs s m args below meth c H locs 0 0 (MQ below (QR D cs [w5 cA o κ, w2 cA (o 1) nw, w2 cA (o 5) q.2] (some (.int q.1))) args s 0 0 (aIn cs.flatten)) (F0 m 22 ls []) := by
  obtain ⟨hx, hb, hml, hown, hts, hr, hlk, hKK⟩ := id Z
  have hK := hKK.1
  intro n
  induction n with
  | zero =>
    intro x3 tr q h
    rw [lp_X5_needs_22] at h
    cases h
  | succ n ih =>
    intro x3 tr q h H locs ls hP hD hS hl 
    rw [lp_X5_needs_22] at h
    refine lv_iload_n hx hb dX5_needs_22 rfl (lv_at hl 3 rfl) ?_
    refine lv_bipush (v := 30) hx hb dX5_needs_23 (by decide) ?_
    refine lv_icmp_gt (tgt := 73) hx hb dX5_needs_25 (by decide) (fun hc5 => ?_) (fun hc5 => ?_)
    · rw [if_pos hc5] at h
      refine lv_bipush (v := (-4)) hx hb dX5_needs_73 (by decide) ?_
      have h := Option.some.inj h
      subst h
      exact CT.iret Z hP hD hS dX5_needs_75
    · rw [if_neg hc5] at h
      refine lv_aload_n hx hb dX5_needs_28 rfl (lv_at hl 0 rfl) ?_
      refine va_get (D := D) (ci := 5) (v := .ref (o 5 0)) (C := RX5) (T := TX5) (N := 9) hx hb hts in_X5_needs_X5 hown hK hP 0 rfl rfl 5 (by decide) (hts _ lk_X5_needs_33) (fun _ h9 => h9) rfl dX5_needs_29 ?_
      refine lv_aload_n hx hb dX5_needs_32 rfl (lv_at hl 0 rfl) ?_
      refine va_get (D := D) (ci := 5) (v := .ref (o 1 0)) (C := RX5) (T := TX5) (N := 9) hx hb hts in_X5_needs_X5 hown hK hP 0 rfl rfl 0 (by decide) (hts _ lk_X5_needs_10) (fun _ h9 => h9) rfl dX5_needs_33 ?_
      refine kVN (rest := []) (st1 := []) (cr := [w5 cA o κ]) (cs' := [w5 cA o κ, w2 cA (o 1) nw, w2 cA (o 5) nw]) Z (c_become l D cA (o 5) (o 1) tr nw ) 1 gX5_needs_X2_become_n115 rfl hdX2_become nk_X5_115 n1_X5_needs_X2 n2_X5_needs_X2_become n3_X5_needs_X2_become ⟨rfl, rfl⟩ ⟨Nat.le_of_ble_eq_true rfl, Nat.le_of_ble_eq_true rfl⟩ ⟨Nat.zero_le _, Nat.zero_le _⟩ hP hD hS hl.1 rfl rfl rfl (Nat.le_of_ble_eq_true rfl) 2 rfl rfl rfl [2, 1] [0] [0, 2, 1] rfl rfl rfl rfl rfl dX5_needs_36 (fun H locs hP hD hS => ?_)
      refine lv_aload_n hx hb dX5_needs_39 rfl (lv_at hl 0 rfl) ?_
      refine va_get (D := D) (ci := 5) (v := .ref (o 5 0)) (C := RX5) (T := TX5) (N := 9) hx hb hts in_X5_needs_X5 hown hK hP 0 rfl rfl 5 (by decide) (hts _ lk_X5_needs_33) (fun _ h9 => h9) rfl dX5_needs_40 ?_
      refine va_getN (D := D) (ci := 2) (v := .ref (o 5 2)) (C := RX2) (T := TX2) (N := 7) hx hb hts in_X5_needs_X2 hown hK hP 6 rfl rfl 2 (by decide) (nest_use rfl (hKK.2 _ nk_X5_76)) (fun _ h9 => h9) rfl dX5_needs_43 ?_
      refine lv_iload_n hx hb dX5_needs_46 rfl (lv_at hl 1 rfl) ?_
      refine lv_iload_n hx hb dX5_needs_47 rfl (lv_at hl 3 rfl) ?_
      obtain ⟨hg7, h⟩ := if_inv h
      refine va_iast hx hb hK hP hD hS 8 0 rfl rfl (inB_in hg7) dX5_needs_48 (fun H locs hP hD hS => ?_)
      have hP : va_P D vwCl ([w5 cA o κ, w2 cA (o 1) nw, w2 cA (o 5) (s2_turns nw (upd (p2_turns nw) x1.toNatClampNeg x3))] : List va_W).flatten H := hP
      have hD : va_D _ ([w5 cA o κ, w2 cA (o 1) nw, w2 cA (o 5) (s2_turns nw (upd (p2_turns nw) x1.toNatClampNeg x3))] : List va_W).flatten := hD
      refine lv_aload_n hx hb dX5_needs_49 rfl (lv_at hl 0 rfl) ?_
      refine va_get (D := D) (ci := 5) (v := .ref (o 5 0)) (C := RX5) (T := TX5) (N := 9) hx hb hts in_X5_needs_X5 hown hK hP 0 rfl rfl 5 (by decide) (hts _ lk_X5_needs_33) (fun _ h9 => h9) rfl dX5_needs_50 ?_
      refine lv_iconst (v := 1) hx hb dX5_needs_53 (by decide) ?_
      refine lv_iload_n hx hb dX5_needs_54 rfl (lv_at hl 1 rfl) ?_
      refine lv_ishl hx hb dX5_needs_55 ?_
      refine lv_iload_n hx hb dX5_needs_56 rfl (lv_at hl 2 rfl) ?_
      obtain ⟨r8, hr8, h⟩ := bind_inv h
      refine kVN (rest := []) (st1 := [.int r8.1]) (cr := [w5 cA o κ, w2 cA (o 1) nw]) (cs' := [w5 cA o κ, w2 cA (o 1) nw, w2 cA (o 5) r8.2]) Z (c_X2_passUntilStopped l D cA (o 5) (s2_turns nw (upd (p2_turns nw) x1.toNatClampNeg x3)) (1 <<< (x1 &&& 31)) x2 r8 hr8) 2 gX5_needs_X2_passUntilStopped_n159 rfl hdX2_passUntilStopped nk_X5_159 n1_X5_needs_X2 n2_X5_needs_X2_passUntilStopped n3_X5_needs_X2_passUntilStopped ⟨rfl, rfl⟩ ⟨Nat.le_of_ble_eq_true rfl, Nat.le_of_ble_eq_true rfl⟩ ⟨Nat.zero_le _, Nat.zero_le _⟩ hP hD hS hl.1 rfl rfl rfl (Nat.le_of_ble_eq_true rfl) 2 rfl rfl rfl [2] [0, 1] [0, 1, 2] rfl rfl rfl rfl rfl dX5_needs_57 (fun H locs hP hD hS => ?_)
      refine lv_bipush (v := (-4)) hx hb dX5_needs_60 (by decide) ?_
      refine lv_icmp_ne (tgt := 67) hx hb dX5_needs_62 (by decide) (fun hc9 => ?_) (fun hc9 => ?_)
      · rw [if_neg hc9] at h
        refine lv_iinc (v := x3 + 1) (lv' := [(3, .int (x3 + 1)), (0, .ref (o 0 0)), (1, .int x1), (2, .int x2)]) hx hb dX5_needs_67 hl (k := 3) rfl rfl (by decide) rfl (fun ls hl => ?_)
        refine lv_goto (tgt := 22) hx hb dX5_needs_70 (by decide) ?_
        exact ih _ _ _ h _ _ _ hP hD hS (lv_sub hl [1, 2, 3, 0] rfl)
      · rw [if_pos hc9] at h
        refine lv_iload_n hx hb dX5_needs_65 rfl (lv_at hl 3 rfl) ?_
        have h := Option.some.inj h
        subst h
        exact CT.iret Z hP hD hS dX5_needs_66
set_option maxHeartbeats 4000000 in
set_option maxRecDepth 100000 in
theorem c_X5_needs (l : Launch) (D : va_G) (cA : Nat → ClassId) (o : Nat → Nat → Nat) (κ : St5) (nw : St2) (tr : St2) (x1 : Int32) (x2 : Int32) (res : Int32 × St2) (h : f_X5_needs κ nw tr x1 x2 = some res) : CT l D cA yX5_needs wsX5_needs rmX5_needs [.ref (o 0 0), .int x1, .int x2] [w5 cA o κ, w2 cA (o 1) nw, w2 cA (o 5) tr] [w5 cA o κ, w2 cA (o 1) nw, w2 cA (o 5) res.2] (some (.int res.1)) := by
  refine CT.start (cc := cX5_needs) (maxL := 4) (ret := (some .int)) (by decide) rfl (Nat.le_of_ble_eq_true rfl) ?_
  intro p e s m below meth c Z hP hD hS ls hl
  have Z : Cx p s m _ meth c cX5_needs 4 (some .int) wsX5_needs RX5 D cA := Z
  have hl : lv_has ls 4 [(0, .ref (o 0 0)), (1, .int x1), (2, .int x2)] := hl
  obtain ⟨hx, hb, hml, hown, hts, hr, hlk, hKK⟩ := id Z
  have hK := hKK.1
  rw [f_X5_needs] at h
  refine lv_aload_n hx hb dX5_needs_0 rfl (lv_at hl 0 rfl) ?_
  refine va_get (D := D) (ci := 5) (v := .ref (o 1 0)) (C := RX5) (T := TX5) (N := 9) hx hb hts in_X5_needs_X5 hown hK hP 0 rfl rfl 0 (by decide) (hts _ lk_X5_needs_10) (fun _ h9 => h9) rfl dX5_needs_1 ?_
  refine lv_iload_n hx hb dX5_needs_4 rfl (lv_at hl 1 rfl) ?_
  obtain ⟨r1, hr1, h⟩ := bind_inv h
  refine kVN (rest := []) (st1 := [.int r1]) (cr := [w5 cA o κ, w2 cA (o 5) tr]) (cs' := [w5 cA o κ, w2 cA (o 1) nw, w2 cA (o 5) tr]) Z (c_X2_has l D cA (o 1) nw x1 r1 hr1) 1 gX5_needs_X2_has_n68 rfl hdX2_has nk_X5_68 n1_X5_needs_X2 n2_X5_needs_X2_has n3_X5_needs_X2_has ⟨rfl, rfl⟩ ⟨Nat.le_of_ble_eq_true rfl, Nat.le_of_ble_eq_true rfl⟩ ⟨Nat.zero_le _, Nat.zero_le _⟩ hP hD hS hl.1 rfl rfl rfl (Nat.le_of_ble_eq_true rfl) 2 rfl rfl rfl [1] [0, 2] [0, 2, 1] rfl rfl rfl rfl rfl dX5_needs_5 (fun H locs hP hD hS => ?_)
  refine lv_if_eq (tgt := 18) hx hb dX5_needs_8 (by decide) (fun hc2 => ?_) (fun hc2 => ?_)
  · rw [if_pos hc2] at h
    refine lv_iconst (v := (-1)) hx hb dX5_needs_18 (by decide) ?_
    have h := Option.some.inj h
    subst h
    exact CT.iret Z hP hD hS dX5_needs_19
  · rw [if_neg hc2] at h
    refine lv_iload_n hx hb dX5_needs_11 rfl (lv_at hl 2 rfl) ?_
    obtain ⟨r3, hr3, h⟩ := bind_inv h
    refine kS (rest := []) (st1 := [.int r3]) (cr := [w5 cA o κ, w2 cA (o 1) nw, w2 cA (o 5) tr]) (cs' := [w5 cA o κ, w2 cA (o 1) nw, w2 cA (o 5) tr]) Z (c_X5_isAdvised l D cA x2 r3 hr3) 1 gX5_needs_X5_isAdvised rfl hdX5_isAdvised ⟨rfl, rfl⟩ ⟨Nat.le_of_ble_eq_true rfl, Nat.le_of_ble_eq_true rfl⟩ ⟨Nat.zero_le _, Nat.zero_le _⟩ hP hD hS hl.1 rfl rfl rfl (Nat.le_of_ble_eq_true rfl) [] [0, 1, 2] [0, 1, 2] rfl rfl rfl rfl rfl dX5_needs_12 (fun H locs hP hD hS => ?_)
    refine lv_if_ne (tgt := 20) hx hb dX5_needs_15 (by decide) (fun hc4 => ?_) (fun hc4 => ?_)
    · rw [if_neg hc4] at h
      refine lv_iconst (v := 0) hx hb dX5_needs_20 (by decide) ?_
      refine lv_istore_n (lv' := [(3, .int 0), (0, .ref (o 0 0)), (1, .int x1), (2, .int x2)]) hx hb dX5_needs_21 rfl hl (by decide) rfl (fun ls hl => ?_)
      exact t_X5_needs_22 Z κ nw x1 x2 FU _ _ _ h _ _ _ hP hD hS (lv_sub hl [1, 2, 3, 0] rfl)
    · rw [if_pos hc4] at h
      refine lv_iconst (v := (-1)) hx hb dX5_needs_18 (by decide) ?_
      have h := Option.some.inj h
      subst h
      exact CT.iret Z hP hD hS dX5_needs_19

-- X5.again
theorem lk_X5_again_33 : Cond.fieldLink RX5 33 "KeyedFeelings" "trial" "LKeyedFeelings$People;" ∈ wsX5_again := by decide +kernel
theorem in_X5_again_X5 : ∀ w ∈ wsX50, w ∈ wsX5_again := by decide +kernel
theorem lk_X5_again_10 : Cond.fieldLink RX5 10 "KeyedFeelings" "now" "LKeyedFeelings$People;" ∈ wsX5_again := by decide +kernel
theorem n1_X5_again_X2 : Cond.initialized RX2 ∈ wsX5_again := by decide +kernel
theorem n2_X5_again_X2_become : Cond.instanceMethod yX2_become ∈ wsX5_again := by decide +kernel
theorem n3_X5_again_X2_become : Cond.selects RX2 yX2_become yX2_become ∈ wsX5_again := by decide +kernel
theorem n2_X5_again_X2_passHours : Cond.instanceMethod yX2_passHours ∈ wsX5_again := by decide +kernel
theorem n3_X5_again_X2_passHours : Cond.selects RX2 yX2_passHours yX2_passHours ∈ wsX5_again := by decide +kernel
theorem n2_X5_again_X2_hasTurnsOf : Cond.instanceMethod yX2_hasTurnsOf ∈ wsX5_again := by decide +kernel
theorem n3_X5_again_X2_hasTurnsOf : Cond.selects RX2 yX2_hasTurnsOf yX2_hasTurnsOf ∈ wsX5_again := by decide +kernel
noncomputable def lp_X5_again_13 (κ : St5) (nw : St2) : Nat → Int32 → St2 → Option (Int32 × St2)
  | 0, _, _ => none
  | n + 1, x1, tr => (if 10 < x1 then some ((-4), tr) else ((f_X2_passHours tr 24).bind (fun r3 => ((f_X2_hasTurnsOf r3 nw).bind (fun r4 => (if r4 = 0 then lp_X5_again_13 κ nw n (x1 + 1) r3 else some (x1 * 24, r3)))))))
noncomputable def f_X5_again (κ : St5) (nw : St2) (tr : St2) : Option (Int32 × St2) := lp_X5_again_13 κ nw FU 1 nw
noncomputable def rmX5_again : Room := { frames := 5, cells := 0, slots := 0, locals := 109 }
set_option maxHeartbeats 4000000 in
set_option maxRecDepth 100000 in
theorem t_X5_again_13 {p : Program} {l : Launch} {e : Env} {s : State} {m : MethodId} {args : Array Value} {below : List Frame} {meth : Method} {c : Code} {D : va_G} {cA : Nat → ClassId} {o : Nat → Nat → Nat} (Z : Cx p s m args meth c cX5_again 2 (some .int) wsX5_again RX5 D cA) (κ : St5) (nw : St2) {cs : List va_W} : ∀ (n : Nat) (x1 : Int32) (tr : St2) (q : Int32 × St2), lp_X5_again_13 κ nw n x1 tr = some q → ∀ (H : Heap) (locs : List Loc) (ls : Array Slot), va_P D vwCl ([w5 cA o κ, w2 cA (o 1) nw, w2 cA (o 5) tr] : List va_W).flatten H → va_D (aIn cs.flatten) ([w5 cA o κ, w2 cA (o 1) nw, w2 cA (o 5) tr] : List va_W).flatten → va_S (aIn cs.flatten) s.heap H locs → lv_has ls 2 [(0, .ref (o 0 0)), (1, .int x1)] → W p l e rmX5_again s m args below meth c H locs 0 0 (MQ below (QR D cs [w5 cA o κ, w2 cA (o 1) nw, w2 cA (o 5) q.2] (some (.int q.1))) args s 0 0 (aIn cs.flatten)) (F0 m 13 ls []) := by
  obtain ⟨hx, hb, hml, hown, hts, hr, hlk, hKK⟩ := id Z
  have hK := hKK.1
  intro n
  induction n with
  | zero =>
    intro x1 tr q h
    rw [lp_X5_again_13] at h
    cases h
  | succ n ih =>
    intro x1 tr q h H locs ls hP hD hS hl 
    rw [lp_X5_again_13] at h
    refine lv_iload_n hx hb dX5_again_13 rfl (lv_at hl 1 rfl) ?_
    refine lv_bipush (v := 10) hx hb dX5_again_14 (by decide) ?_
    refine lv_icmp_gt (tgt := 53) hx hb dX5_again_16 (by decide) (fun hc2 => ?_) (fun hc2 => ?_)
    · rw [if_pos hc2] at h
      refine lv_bipush (v := (-4)) hx hb dX5_again_53 (by decide) ?_
      have h := Option.some.inj h
      subst h
      exact CT.iret Z hP hD hS dX5_again_55
    · rw [if_neg hc2] at h
      refine lv_aload_n hx hb dX5_again_19 rfl (lv_at hl 0 rfl) ?_
      refine va_get (D := D) (ci := 5) (v := .ref (o 5 0)) (C := RX5) (T := TX5) (N := 9) hx hb hts in_X5_again_X5 hown hK hP 0 rfl rfl 5 (by decide) (hts _ lk_X5_again_33) (fun _ h9 => h9) rfl dX5_again_20 ?_
      refine lv_bipush (v := 24) hx hb dX5_again_23 (by decide) ?_
      obtain ⟨r3, hr3, h⟩ := bind_inv h
      refine kVN (rest := []) (st1 := []) (cr := [w5 cA o κ, w2 cA (o 1) nw]) (cs' := [w5 cA o κ, w2 cA (o 1) nw, w2 cA (o 5) r3]) Z (c_X2_passHours l D cA (o 5) tr 24 r3 hr3) 1 gX5_again_X2_passHours_n155 rfl hdX2_passHours nk_X5_155 n1_X5_again_X2 n2_X5_again_X2_passHours n3_X5_again_X2_passHours ⟨rfl, rfl⟩ ⟨Nat.le_of_ble_eq_true rfl, Nat.le_of_ble_eq_true rfl⟩ ⟨Nat.zero_le _, Nat.zero_le _⟩ hP hD hS hl.1 rfl rfl rfl (Nat.le_of_ble_eq_true rfl) 2 rfl rfl rfl [2] [0, 1] [0, 1, 2] rfl rfl rfl rfl rfl dX5_again_25 (fun H locs hP hD hS => ?_)
      refine lv_aload_n hx hb dX5_again_28 rfl (lv_at hl 0 rfl) ?_
      refine va_get (D := D) (ci := 5) (v := .ref (o 5 0)) (C := RX5) (T := TX5) (N := 9) hx hb hts in_X5_again_X5 hown hK hP 0 rfl rfl 5 (by decide) (hts _ lk_X5_again_33) (fun _ h9 => h9) rfl dX5_again_29 ?_
      refine lv_aload_n hx hb dX5_again_32 rfl (lv_at hl 0 rfl) ?_
      refine va_get (D := D) (ci := 5) (v := .ref (o 1 0)) (C := RX5) (T := TX5) (N := 9) hx hb hts in_X5_again_X5 hown hK hP 0 rfl rfl 0 (by decide) (hts _ lk_X5_again_10) (fun _ h9 => h9) rfl dX5_again_33 ?_
      obtain ⟨r4, hr4, h⟩ := bind_inv h
      refine kVN (rest := []) (st1 := [.int r4]) (cr := [w5 cA o κ]) (cs' := [w5 cA o κ, w2 cA (o 1) nw, w2 cA (o 5) r3]) Z (c_X2_hasTurnsOf l D cA (o 5) (o 1) r3 nw r4 hr4) 1 gX5_again_X2_hasTurnsOf_n192 rfl hdX2_hasTurnsOf nk_X5_192 n1_X5_again_X2 n2_X5_again_X2_hasTurnsOf n3_X5_again_X2_hasTurnsOf ⟨rfl, rfl⟩ ⟨Nat.le_of_ble_eq_true rfl, Nat.le_of_ble_eq_true rfl⟩ ⟨Nat.zero_le _, Nat.zero_le _⟩ hP hD hS hl.1 rfl rfl rfl (Nat.le_of_ble_eq_true rfl) 2 rfl rfl rfl [2, 1] [0] [0, 2, 1] rfl rfl rfl rfl rfl dX5_again_36 (fun H locs hP hD hS => ?_)
      refine lv_if_eq (tgt := 47) hx hb dX5_again_39 (by decide) (fun hc5 => ?_) (fun hc5 => ?_)
      · rw [if_pos hc5] at h
        refine lv_iinc (v := x1 + 1) (lv' := [(1, .int (x1 + 1)), (0, .ref (o 0 0))]) hx hb dX5_again_47 hl (k := 1) rfl rfl (by decide) rfl (fun ls hl => ?_)
        refine lv_goto (tgt := 13) hx hb dX5_again_50 (by decide) ?_
        exact ih _ _ _ h _ _ _ hP hD hS (lv_sub hl [1, 0] rfl)
      · rw [if_neg hc5] at h
        refine lv_iload_n hx hb dX5_again_42 rfl (lv_at hl 1 rfl) ?_
        refine lv_bipush (v := 24) hx hb dX5_again_43 (by decide) ?_
        refine lv_imul hx hb dX5_again_45 ?_
        have h := Option.some.inj h
        subst h
        exact CT.iret Z hP hD hS dX5_again_46
set_option maxHeartbeats 4000000 in
set_option maxRecDepth 100000 in
theorem c_X5_again (l : Launch) (D : va_G) (cA : Nat → ClassId) (o : Nat → Nat → Nat) (κ : St5) (nw : St2) (tr : St2) (res : Int32 × St2) (h : f_X5_again κ nw tr = some res) : CT l D cA yX5_again wsX5_again rmX5_again [.ref (o 0 0)] [w5 cA o κ, w2 cA (o 1) nw, w2 cA (o 5) tr] [w5 cA o κ, w2 cA (o 1) nw, w2 cA (o 5) res.2] (some (.int res.1)) := by
  refine CT.start (cc := cX5_again) (maxL := 2) (ret := (some .int)) (by decide) rfl (Nat.le_of_ble_eq_true rfl) ?_
  intro p e s m below meth c Z hP hD hS ls hl
  have Z : Cx p s m _ meth c cX5_again 2 (some .int) wsX5_again RX5 D cA := Z
  have hl : lv_has ls 2 [(0, .ref (o 0 0))] := hl
  obtain ⟨hx, hb, hml, hown, hts, hr, hlk, hKK⟩ := id Z
  have hK := hKK.1
  rw [f_X5_again] at h
  refine lv_aload_n hx hb dX5_again_0 rfl (lv_at hl 0 rfl) ?_
  refine va_get (D := D) (ci := 5) (v := .ref (o 5 0)) (C := RX5) (T := TX5) (N := 9) hx hb hts in_X5_again_X5 hown hK hP 0 rfl rfl 5 (by decide) (hts _ lk_X5_again_33) (fun _ h9 => h9) rfl dX5_again_1 ?_
  refine lv_aload_n hx hb dX5_again_4 rfl (lv_at hl 0 rfl) ?_
  refine va_get (D := D) (ci := 5) (v := .ref (o 1 0)) (C := RX5) (T := TX5) (N := 9) hx hb hts in_X5_again_X5 hown hK hP 0 rfl rfl 0 (by decide) (hts _ lk_X5_again_10) (fun _ h9 => h9) rfl dX5_again_5 ?_
  refine kVN (rest := []) (st1 := []) (cr := [w5 cA o κ]) (cs' := [w5 cA o κ, w2 cA (o 1) nw, w2 cA (o 5) nw]) Z (c_become l D cA (o 5) (o 1) tr nw ) 1 gX5_again_X2_become_n115 rfl hdX2_become nk_X5_115 n1_X5_again_X2 n2_X5_again_X2_become n3_X5_again_X2_become ⟨rfl, rfl⟩ ⟨Nat.le_of_ble_eq_true rfl, Nat.le_of_ble_eq_true rfl⟩ ⟨Nat.zero_le _, Nat.zero_le _⟩ hP hD hS hl.1 rfl rfl rfl (Nat.le_of_ble_eq_true rfl) 2 rfl rfl rfl [2, 1] [0] [0, 2, 1] rfl rfl rfl rfl rfl dX5_again_8 (fun H locs hP hD hS => ?_)
  refine lv_iconst (v := 1) hx hb dX5_again_11 (by decide) ?_
  refine lv_istore_n (lv' := [(1, .int 1), (0, .ref (o 0 0))]) hx hb dX5_again_12 rfl hl (by decide) rfl (fun ls hl => ?_)
  exact t_X5_again_13 Z κ nw FU _ _ _ h _ _ _ hP hD hS (lv_sub hl [1, 0] rfl)

-- X5.power
noncomputable def lp_X5_power_4 (x0 : Int32) (x1 : Int32) : Nat → Int32 → Int32 → Option (Int32 × Int32)
  | 0, _, _ => none
  | n + 1, x2, x3 => (if x1 ≤ x3 then some (x2, x3) else lp_X5_power_4 x0 x1 n (x2 * x0) (x3 + 1))
noncomputable def f_X5_power (x0 : Int32) (x1 : Int32) : Option (Int32) := ((lp_X5_power_4 x0 x1 FU 1 0).bind (fun q2 => some q2.1))
noncomputable def rmX5_power : Room := { frames := 0, cells := 0, slots := 0, locals := 0 }
set_option maxHeartbeats 4000000 in
set_option maxRecDepth 100000 in
theorem t_X5_power_4 {p : Program} {l : Launch} {e : Env} {s : State} {m : MethodId} {args : Array Value} {below : List Frame} {meth : Method} {c : Code} {D : va_G} {cA : Nat → ClassId} {A0 : Nat → Prop} {H0 : Heap}  (Z : Cx p s m args meth c cX5_power 4 (some .int) wsX5_power RX5 D cA) (x0 : Int32) (x1 : Int32) {Q : State → Prop} : ∀ (n : Nat) (x2 : Int32) (x3 : Int32) (q : Int32 × Int32), lp_X5_power_4 x0 x1 n x2 x3 = some q → ∀ (H : Heap) (locs : List Loc) (ls : Array Slot), va_P D vwCl ([] : List va_W).flatten H → va_D A0 ([] : List va_W).flatten → va_S A0 H0 H locs → lv_has ls 4 [(0, .int x0), (1, .int x1), (2, .int x2), (3, .int x3)] → (∀ (H : Heap) (locs : List Loc) (ls : Array Slot), va_P D vwCl ([] : List va_W).flatten H → va_D A0 ([] : List va_W).flatten → va_S A0 H0 H locs → lv_has ls 4 [(0, .int x0), (1, .int x1), (2, .int q.1), (3, .int q.2)] → W p l e rmX5_power s m args below meth c H locs 0 0 Q (F0 m 19 ls [])) → W p l e rmX5_power s m args below meth c H locs 0 0 Q (F0 m 4 ls []) := by
  obtain ⟨hx, hb, hml, hown, hts, hr, hlk, hKK⟩ := id Z
  have hK := hKK.1
  intro n
  induction n with
  | zero =>
    intro x2 x3 q h
    rw [lp_X5_power_4] at h
    cases h
  | succ n ih =>
    intro x2 x3 q h H locs ls hP hD hS hl kk
    rw [lp_X5_power_4] at h
    refine lv_iload_n hx hb dX5_power_4 rfl (lv_at hl 3 rfl) ?_
    refine lv_iload_n hx hb dX5_power_5 rfl (lv_at hl 1 rfl) ?_
    refine lv_icmp_ge (tgt := 19) hx hb dX5_power_6 (by decide) (fun hc1 => ?_) (fun hc1 => ?_)
    · rw [if_pos hc1] at h
      have h := Option.some.inj h
      subst h
      exact kk _ _ _ hP hD hS (lv_sub hl [0, 1, 2, 3] rfl)
    · rw [if_neg hc1] at h
      refine lv_iload_n hx hb dX5_power_9 rfl (lv_at hl 2 rfl) ?_
      refine lv_iload_n hx hb dX5_power_10 rfl (lv_at hl 0 rfl) ?_
      refine lv_imul hx hb dX5_power_11 ?_
      refine lv_istore_n (lv' := [(2, .int (x2 * x0)), (0, .int x0), (1, .int x1), (3, .int x3)]) hx hb dX5_power_12 rfl hl (by decide) rfl (fun ls hl => ?_)
      refine lv_iinc (v := x3 + 1) (lv' := [(3, .int (x3 + 1)), (2, .int (x2 * x0)), (0, .int x0), (1, .int x1)]) hx hb dX5_power_13 hl (k := 3) rfl rfl (by decide) rfl (fun ls hl => ?_)
      refine lv_goto (tgt := 4) hx hb dX5_power_16 (by decide) ?_
      exact ih _ _ _ h _ _ _ hP hD hS (lv_sub hl [2, 3, 1, 0] rfl) kk
set_option maxHeartbeats 4000000 in
set_option maxRecDepth 100000 in
theorem c_X5_power (l : Launch) (D : va_G) (cA : Nat → ClassId)  (x0 : Int32) (x1 : Int32) (res : Int32) (h : f_X5_power x0 x1 = some res) : CT l D cA yX5_power wsX5_power rmX5_power [.int x0, .int x1] [] [] (some (.int res)) := by
  refine CT.start (cc := cX5_power) (maxL := 4) (ret := (some .int)) (by decide) rfl (Nat.le_of_ble_eq_true rfl) ?_
  intro p e s m below meth c Z hP hD hS ls hl
  have Z : Cx p s m _ meth c cX5_power 4 (some .int) wsX5_power RX5 D cA := Z
  have hl : lv_has ls 4 [(0, .int x0), (1, .int x1)] := hl
  obtain ⟨hx, hb, hml, hown, hts, hr, hlk, hKK⟩ := id Z
  have hK := hKK.1
  rw [f_X5_power] at h
  refine lv_iconst (v := 1) hx hb dX5_power_0 (by decide) ?_
  refine lv_istore_n (lv' := [(2, .int 1), (0, .int x0), (1, .int x1)]) hx hb dX5_power_1 rfl hl (by decide) rfl (fun ls hl => ?_)
  refine lv_iconst (v := 0) hx hb dX5_power_2 (by decide) ?_
  refine lv_istore_n (lv' := [(3, .int 0), (2, .int 1), (0, .int x0), (1, .int x1)]) hx hb dX5_power_3 rfl hl (by decide) rfl (fun ls hl => ?_)
  obtain ⟨q2, hq2, h⟩ := bind_inv h
  refine t_X5_power_4 Z x0 x1 FU _ _ _ hq2 _ _ _ hP hD hS (lv_sub hl [2, 3, 1, 0] rfl) (fun H locs ls hP hD hS hl => ?_)
  refine lv_iload_n hx hb dX5_power_19 rfl (lv_at hl 2 rfl) ?_
  have h := Option.some.inj h
  subst h
  exact CT.iret Z hP hD hS dX5_power_20

-- X5.waysToForget
noncomputable def f_X5_waysToForget (x0 : Int32) (x1 : Int32) (x2 : Int32) : Option (Int32) := ((f_J6_bitCount_0f7a4 x1).bind (fun r1 => ((f_X5_power x2 r1).bind (fun r2 => ((f_J6_bitCount_0f7a4 x0).bind (fun r3 => ((f_X5_power (10 - x2) (r3 - r1)).bind (fun r4 => some (r2 * r4)))))))))
noncomputable def rmX5_waysToForget : Room := { frames := 1, cells := 0, slots := 0, locals := 23 }
set_option maxHeartbeats 4000000 in
set_option maxRecDepth 100000 in
theorem c_X5_waysToForget (l : Launch) (D : va_G) (cA : Nat → ClassId)  (x0 : Int32) (x1 : Int32) (x2 : Int32) (res : Int32) (h : f_X5_waysToForget x0 x1 x2 = some res) : CT l D cA yX5_waysToForget wsX5_waysToForget rmX5_waysToForget [.int x0, .int x1, .int x2] [] [] (some (.int res)) := by
  refine CT.start (cc := cX5_waysToForget) (maxL := 4) (ret := (some .int)) (by decide) rfl (Nat.le_of_ble_eq_true rfl) ?_
  intro p e s m below meth c Z hP hD hS ls hl
  have Z : Cx p s m _ meth c cX5_waysToForget 4 (some .int) wsX5_waysToForget RX5 D cA := Z
  have hl : lv_has ls 4 [(0, .int x0), (1, .int x1), (2, .int x2)] := hl
  obtain ⟨hx, hb, hml, hown, hts, hr, hlk, hKK⟩ := id Z
  have hK := hKK.1
  rw [f_X5_waysToForget] at h
  refine lv_iload_n hx hb dX5_waysToForget_0 rfl (lv_at hl 1 rfl) ?_
  obtain ⟨r1, hr1, h⟩ := bind_inv h
  refine kS (rest := []) (st1 := [.int r1]) (cr := []) (cs' := []) Z (c_J6_bitCount_0f7a4 l D cA x1 r1 hr1) 1 gX5_waysToForget_J6_bitCount_0f7a4 rfl hdJ6_bitCount_0f7a4 ⟨rfl, rfl⟩ ⟨Nat.le_of_ble_eq_true rfl, Nat.le_of_ble_eq_true rfl⟩ ⟨Nat.zero_le _, Nat.zero_le _⟩ hP hD hS hl.1 rfl rfl rfl (Nat.le_of_ble_eq_true rfl) [] [] [] rfl rfl rfl rfl rfl dX5_waysToForget_1 (fun H locs hP hD hS => ?_)
  refine lv_istore_n (lv' := [(3, .int r1), (0, .int x0), (1, .int x1), (2, .int x2)]) hx hb dX5_waysToForget_4 rfl hl (by decide) rfl (fun ls hl => ?_)
  refine lv_iload_n hx hb dX5_waysToForget_5 rfl (lv_at hl 3 rfl) ?_
  refine lv_iload_n hx hb dX5_waysToForget_6 rfl (lv_at hl 0 rfl) ?_
  obtain ⟨r2, hr2, h⟩ := bind_inv h
  refine kS (rest := []) (st1 := [.int r2]) (cr := []) (cs' := []) Z (c_X5_power l D cA x2 r1 r2 hr2) 2 gX5_waysToForget_X5_power rfl hdX5_power ⟨rfl, rfl⟩ ⟨Nat.le_of_ble_eq_true rfl, Nat.le_of_ble_eq_true rfl⟩ ⟨Nat.zero_le _, Nat.zero_le _⟩ hP hD hS hl.1 rfl rfl rfl (Nat.le_of_ble_eq_true rfl) [] [] [] rfl rfl rfl rfl rfl dX5_waysToForget_7 (fun H locs hP hD hS => ?_)
  refine lv_bipush (v := 10) hx hb dX5_waysToForget_10 (by decide) ?_
  refine lv_iload_n hx hb dX5_waysToForget_12 rfl (lv_at hl 3 rfl) ?_
  refine lv_isub hx hb dX5_waysToForget_13 ?_
  refine lv_iload_n hx hb dX5_waysToForget_14 rfl (lv_at hl 1 rfl) ?_
  obtain ⟨r3, hr3, h⟩ := bind_inv h
  refine kS (rest := [.int (10 - x2), .int r2]) (st1 := [.int r3, .int (10 - x2), .int r2]) (cr := []) (cs' := []) Z (c_J6_bitCount_0f7a4 l D cA x0 r3 hr3) 1 gX5_waysToForget_J6_bitCount_0f7a4 rfl hdJ6_bitCount_0f7a4 ⟨rfl, rfl⟩ ⟨Nat.le_of_ble_eq_true rfl, Nat.le_of_ble_eq_true rfl⟩ ⟨Nat.zero_le _, Nat.zero_le _⟩ hP hD hS hl.1 rfl rfl rfl (Nat.le_of_ble_eq_true rfl) [] [] [] rfl rfl rfl rfl rfl dX5_waysToForget_15 (fun H locs hP hD hS => ?_)
  refine lv_iload_n hx hb dX5_waysToForget_18 rfl (lv_at hl 0 rfl) ?_
  refine lv_isub hx hb dX5_waysToForget_19 ?_
  obtain ⟨r4, hr4, h⟩ := bind_inv h
  refine kS (rest := [.int r2]) (st1 := [.int r4, .int r2]) (cr := []) (cs' := []) Z (c_X5_power l D cA (10 - x2) (r3 - r1) r4 hr4) 2 gX5_waysToForget_X5_power rfl hdX5_power ⟨rfl, rfl⟩ ⟨Nat.le_of_ble_eq_true rfl, Nat.le_of_ble_eq_true rfl⟩ ⟨Nat.zero_le _, Nat.zero_le _⟩ hP hD hS hl.1 rfl rfl rfl (Nat.le_of_ble_eq_true rfl) [] [] [] rfl rfl rfl rfl rfl dX5_waysToForget_20 (fun H locs hP hD hS => ?_)
  refine lv_imul hx hb dX5_waysToForget_23 ?_
  have h := Option.some.inj h
  subst h
  exact CT.iret Z hP hD hS dX5_waysToForget_24

-- X5.greatestDivisor
noncomputable def lp_X5_greatestDivisor_7  : Nat → Int32 → Int32 → Int32 → Option (Int32 × Int32 × Int32)
  | 0, _, _, _ => none
  | n + 1, x2, x3, x4 => (if 100 ≤ x4 then some (x2, x3, x4) else (if x3 ≤ 0 then some (x2, x3, x4) else (if ¬ x3 = 0 then lp_X5_greatestDivisor_7  n x3 (x2 - x2 / x3 * x3) (x4 + 1) else none)))
noncomputable def f_X5_greatestDivisor (x0 : Int32) (x1 : Int32) : Option (Int32) := ((lp_X5_greatestDivisor_7  FU x0 x1 0).bind (fun q4 => some q4.1))
noncomputable def rmX5_greatestDivisor : Room := { frames := 0, cells := 0, slots := 0, locals := 0 }
set_option maxHeartbeats 4000000 in
set_option maxRecDepth 100000 in
theorem t_X5_greatestDivisor_7 {p : Program} {l : Launch} {e : Env} {s : State} {m : MethodId} {args : Array Value} {below : List Frame} {meth : Method} {c : Code} {D : va_G} {cA : Nat → ClassId} {A0 : Nat → Prop} {H0 : Heap}  (Z : Cx p s m args meth c cX5_greatestDivisor 6 (some .int) wsX5_greatestDivisor RX5 D cA)  {Q : State → Prop} : ∀ (n : Nat) (x2 : Int32) (x3 : Int32) (x4 : Int32) (q : Int32 × Int32 × Int32), lp_X5_greatestDivisor_7  n x2 x3 x4 = some q → ∀ (H : Heap) (locs : List Loc) (ls : Array Slot), va_P D vwCl ([] : List va_W).flatten H → va_D A0 ([] : List va_W).flatten → va_S A0 H0 H locs → lv_has ls 6 [(2, .int x2), (3, .int x3), (4, .int x4)] → (∀ (H : Heap) (locs : List Loc) (ls : Array Slot), va_P D vwCl ([] : List va_W).flatten H → va_D A0 ([] : List va_W).flatten → va_S A0 H0 H locs → lv_has ls 6 [(2, .int q.1), (3, .int q.2.1), (4, .int q.2.2)] → W p l e rmX5_greatestDivisor s m args below meth c H locs 0 0 Q (F0 m 34 ls [])) → W p l e rmX5_greatestDivisor s m args below meth c H locs 0 0 Q (F0 m 7 ls []) := by
  obtain ⟨hx, hb, hml, hown, hts, hr, hlk, hKK⟩ := id Z
  have hK := hKK.1
  intro n
  induction n with
  | zero =>
    intro x2 x3 x4 q h
    rw [lp_X5_greatestDivisor_7] at h
    cases h
  | succ n ih =>
    intro x2 x3 x4 q h H locs ls hP hD hS hl kk
    rw [lp_X5_greatestDivisor_7] at h
    refine lv_iload hx hb dX5_greatestDivisor_7 (lv_at hl 2 rfl) ?_
    refine lv_bipush (v := 100) hx hb dX5_greatestDivisor_9 (by decide) ?_
    refine lv_icmp_ge (tgt := 34) hx hb dX5_greatestDivisor_11 (by decide) (fun hc1 => ?_) (fun hc1 => ?_)
    · rw [if_pos hc1] at h
      have h := Option.some.inj h
      subst h
      exact kk _ _ _ hP hD hS (lv_sub hl [0, 1, 2] rfl)
    · rw [if_neg hc1] at h
      refine lv_iload_n hx hb dX5_greatestDivisor_14 rfl (lv_at hl 1 rfl) ?_
      refine lv_if_le (tgt := 34) hx hb dX5_greatestDivisor_15 (by decide) (fun hc2 => ?_) (fun hc2 => ?_)
      · rw [if_pos hc2] at h
        have h := Option.some.inj h
        subst h
        exact kk _ _ _ hP hD hS (lv_sub hl [0, 1, 2] rfl)
      · rw [if_neg hc2] at h
        refine lv_iload_n hx hb dX5_greatestDivisor_18 rfl (lv_at hl 0 rfl) ?_
        refine lv_iload_n hx hb dX5_greatestDivisor_19 rfl (lv_at hl 1 rfl) ?_
        obtain ⟨hg3, h⟩ := if_inv h
        refine lv_irem hx hb dX5_greatestDivisor_20 hg3 ?_
        refine lv_istore (lv' := [(5, .int (x2 - x2 / x3 * x3)), (2, .int x2), (3, .int x3), (4, .int x4)]) hx hb dX5_greatestDivisor_21 hl (by decide) rfl (fun ls hl => ?_)
        refine lv_iload_n hx hb dX5_greatestDivisor_23 rfl (lv_at hl 2 rfl) ?_
        refine lv_istore_n (lv' := [(2, .int x3), (5, .int (x2 - x2 / x3 * x3)), (3, .int x3), (4, .int x4)]) hx hb dX5_greatestDivisor_24 rfl hl (by decide) rfl (fun ls hl => ?_)
        refine lv_iload hx hb dX5_greatestDivisor_25 (lv_at hl 1 rfl) ?_
        refine lv_istore_n (lv' := [(3, .int (x2 - x2 / x3 * x3)), (2, .int x3), (5, .int (x2 - x2 / x3 * x3)), (4, .int x4)]) hx hb dX5_greatestDivisor_27 rfl hl (by decide) rfl (fun ls hl => ?_)
        refine lv_iinc (v := x4 + 1) (lv' := [(4, .int (x4 + 1)), (3, .int (x2 - x2 / x3 * x3)), (2, .int x3), (5, .int (x2 - x2 / x3 * x3))]) hx hb dX5_greatestDivisor_28 hl (k := 3) rfl rfl (by decide) rfl (fun ls hl => ?_)
        refine lv_goto (tgt := 7) hx hb dX5_greatestDivisor_31 (by decide) ?_
        exact ih _ _ _ _ h _ _ _ hP hD hS (lv_sub hl [2, 1, 0] rfl) kk
set_option maxHeartbeats 4000000 in
set_option maxRecDepth 100000 in
theorem c_X5_greatestDivisor (l : Launch) (D : va_G) (cA : Nat → ClassId)  (x0 : Int32) (x1 : Int32) (res : Int32) (h : f_X5_greatestDivisor x0 x1 = some res) : CT l D cA yX5_greatestDivisor wsX5_greatestDivisor rmX5_greatestDivisor [.int x0, .int x1] [] [] (some (.int res)) := by
  refine CT.start (cc := cX5_greatestDivisor) (maxL := 6) (ret := (some .int)) (by decide) rfl (Nat.le_of_ble_eq_true rfl) ?_
  intro p e s m below meth c Z hP hD hS ls hl
  have Z : Cx p s m _ meth c cX5_greatestDivisor 6 (some .int) wsX5_greatestDivisor RX5 D cA := Z
  have hl : lv_has ls 6 [(0, .int x0), (1, .int x1)] := hl
  obtain ⟨hx, hb, hml, hown, hts, hr, hlk, hKK⟩ := id Z
  have hK := hKK.1
  rw [f_X5_greatestDivisor] at h
  refine lv_iload_n hx hb dX5_greatestDivisor_0 rfl (lv_at hl 0 rfl) ?_
  refine lv_istore_n (lv' := [(2, .int x0), (0, .int x0), (1, .int x1)]) hx hb dX5_greatestDivisor_1 rfl hl (by decide) rfl (fun ls hl => ?_)
  refine lv_iload_n hx hb dX5_greatestDivisor_2 rfl (lv_at hl 2 rfl) ?_
  refine lv_istore_n (lv' := [(3, .int x1), (2, .int x0), (0, .int x0), (1, .int x1)]) hx hb dX5_greatestDivisor_3 rfl hl (by decide) rfl (fun ls hl => ?_)
  refine lv_iconst (v := 0) hx hb dX5_greatestDivisor_4 (by decide) ?_
  refine lv_istore (lv' := [(4, .int 0), (3, .int x1), (2, .int x0), (0, .int x0), (1, .int x1)]) hx hb dX5_greatestDivisor_5 hl (by decide) rfl (fun ls hl => ?_)
  obtain ⟨q4, hq4, h⟩ := bind_inv h
  refine t_X5_greatestDivisor_7 Z  FU _ _ _ _ hq4 _ _ _ hP hD hS (lv_sub hl [2, 1, 0] rfl) (fun H locs ls hP hD hS hl => ?_)
  refine lv_iload_n hx hb dX5_greatestDivisor_34 rfl (lv_at hl 0 rfl) ?_
  have h := Option.some.inj h
  subst h
  exact CT.iret Z hP hD hS dX5_greatestDivisor_35

-- X5.forget
theorem lk_X5_forget_10 : Cond.fieldLink RX5 10 "KeyedFeelings" "now" "LKeyedFeelings$People;" ∈ wsX5_forget := by decide +kernel
theorem in_X5_forget_X5 : ∀ w ∈ wsX50, w ∈ wsX5_forget := by decide +kernel
theorem n1_X5_forget_X2 : Cond.initialized RX2 ∈ wsX5_forget := by decide +kernel
theorem n2_X5_forget_X2_has : Cond.instanceMethod yX2_has ∈ wsX5_forget := by decide +kernel
theorem n3_X5_forget_X2_has : Cond.selects RX2 yX2_has yX2_has ∈ wsX5_forget := by decide +kernel
theorem n2_X5_forget_X2_isWindingHour : Cond.instanceMethod yX2_isWindingHour ∈ wsX5_forget := by decide +kernel
theorem n3_X5_forget_X2_isWindingHour : Cond.selects RX2 yX2_isWindingHour yX2_isWindingHour ∈ wsX5_forget := by decide +kernel
theorem lk_X5_forget_33 : Cond.fieldLink RX5 33 "KeyedFeelings" "trial" "LKeyedFeelings$People;" ∈ wsX5_forget := by decide +kernel
theorem n2_X5_forget_X2_become : Cond.instanceMethod yX2_become ∈ wsX5_forget := by decide +kernel
theorem n3_X5_forget_X2_become : Cond.selects RX2 yX2_become yX2_become ∈ wsX5_forget := by decide +kernel
theorem n2_X5_forget_X2_wind : Cond.instanceMethod yX2_wind ∈ wsX5_forget := by decide +kernel
theorem n3_X5_forget_X2_wind : Cond.selects RX2 yX2_wind yX2_wind ∈ wsX5_forget := by decide +kernel
theorem n2_X5_forget_X2_run : Cond.instanceMethod yX2_run ∈ wsX5_forget := by decide +kernel
theorem n3_X5_forget_X2_run : Cond.selects RX2 yX2_run yX2_run ∈ wsX5_forget := by decide +kernel
theorem n2_X5_forget_X2_isStopped : Cond.instanceMethod yX2_isStopped ∈ wsX5_forget := by decide +kernel
theorem n3_X5_forget_X2_isStopped : Cond.selects RX2 yX2_isStopped yX2_isStopped ∈ wsX5_forget := by decide +kernel
theorem jm_X5_forget_max_216 : Cond.methodLink RX5 216 Lib.Math.max.name ∈ wsX5_forget := by decide +kernel
theorem js_X5_forget_max : Cond.static Lib.Math.max.name ∈ wsX5_forget := by decide +kernel
theorem ji_X5_forget : Cond.initialized "java/lang/Math" ∈ wsX5_forget := by decide +kernel
theorem jc_X5_forget_max : Cond.code Lib.Math.max.name Lib.Math.max.code 2 (some .int) ∈ wsX5_forget := by decide +kernel
theorem n2_X5_forget_X2_winders : Cond.instanceMethod yX2_winders ∈ wsX5_forget := by decide +kernel
theorem n3_X5_forget_X2_winders : Cond.selects RX2 yX2_winders yX2_winders ∈ wsX5_forget := by decide +kernel
noncomputable def lp_X5_forget_61 (κ : St5) (nw : St2) (x1 : Int32) (x2 : Int32) (x3 : Int32) (x4 : Int32) : Nat → Int32 → Int32 → St2 → Option (Int32 × Int32 × St2)
  | 0, _, _, _ => none
  | n + 1, x5, x6, tr => (if x4 < x6 then some (x5, x6, tr) else (if (x6 &&& x4) = x6 then ((f_X2_wind nw (x4 &&& (x6 ^^^ (-1)))).bind (fun r12 => ((f_X2_run r12).bind (fun r13 => ((f_X2_isStopped r13 x1).bind (fun r14 => (if r14 = 0 then lp_X5_forget_61 κ nw x1 x2 x3 x4 n (x5 + 0) (x6 + 1) r13 else ((f_X5_waysToForget x4 x6 x2).bind (fun r16 => lp_X5_forget_61 κ nw x1 x2 x3 x4 n (x5 + r16) (x6 + 1) r13))))))))) else lp_X5_forget_61 κ nw x1 x2 x3 x4 n x5 (x6 + 1) tr))
noncomputable def f_X5_forget (κ : St5) (nw : St2) (tr : St2) (x1 : Int32) (x2 : Int32) (x3 : Int32) : Option (Int32 × St2) := ((f_X2_has nw x1).bind (fun r1 => (if r1 = 0 then some ((-1), tr) else (if x2 < 0 then some ((-1), tr) else (if 10 < x2 then some ((-1), tr) else (if x3 < 0 then some ((-1), tr) else (if x3 ≤ 1 then ((f_X2_isWindingHour nw).bind (fun r7 => (if r7 = 0 then ((lp_X5_forget_61 κ nw x1 x2 x3 0 FU 0 0 tr).bind (fun q17 => ((f_J6_bitCount_0f7a4 0).bind (fun r18 => ((f_X5_power 10 r18).bind (fun r19 => ((f_X5_greatestDivisor q17.1 r19).bind (fun r20 => (if x3 = 0 then (if ¬ (if r20 < 1 then 1 else r20) = 0 then some (q17.1 / (if r20 < 1 then 1 else r20), q17.2.2) else none) else (if ¬ (if r20 < 1 then 1 else r20) = 0 then some (r19 / (if r20 < 1 then 1 else r20), q17.2.2) else none)))))))))) else ((f_X2_winders nw).bind (fun r24 => ((lp_X5_forget_61 κ nw x1 x2 x3 r24 FU 0 0 tr).bind (fun q25 => ((f_J6_bitCount_0f7a4 r24).bind (fun r26 => ((f_X5_power 10 r26).bind (fun r27 => ((f_X5_greatestDivisor q25.1 r27).bind (fun r28 => (if x3 = 0 then (if ¬ (if r28 < 1 then 1 else r28) = 0 then some (q25.1 / (if r28 < 1 then 1 else r28), q25.2.2) else none) else (if ¬ (if r28 < 1 then 1 else r28) = 0 then some (r27 / (if r28 < 1 then 1 else r28), q25.2.2) else none))))))))))))))) else some ((-1), tr))))))))
noncomputable def rmX5_forget : Room := { frames := 3, cells := 0, slots := 0, locals := 67 }
set_option maxHeartbeats 4000000 in
set_option maxRecDepth 100000 in
theorem t_X5_forget_61 {p : Program} {l : Launch} {e : Env} {s : State} {m : MethodId} {args : Array Value} {below : List Frame} {meth : Method} {c : Code} {D : va_G} {cA : Nat → ClassId} {A0 : Nat → Prop} {H0 : Heap} {o : Nat → Nat → Nat} (Z : Cx p s m args meth c cX5_forget 8 (some .int) wsX5_forget RX5 D cA) (κ : St5) (nw : St2) (x1 : Int32) (x2 : Int32) (x3 : Int32) (x4 : Int32) {Q : State → Prop} : ∀ (n : Nat) (x5 : Int32) (x6 : Int32) (tr : St2) (q : Int32 × Int32 × St2), lp_X5_forget_61 κ nw x1 x2 x3 x4 n x5 x6 tr = some q → ∀ (H : Heap) (locs : List Loc) (ls : Array Slot), va_P D vwCl ([w5 cA o κ, w2 cA (o 1) nw, w2 cA (o 5) tr] : List va_W).flatten H → va_D A0 ([w5 cA o κ, w2 cA (o 1) nw, w2 cA (o 5) tr] : List va_W).flatten → va_S A0 H0 H locs → lv_has ls 8 [(0, .ref (o 0 0)), (1, .int x1), (2, .int x2), (3, .int x3), (4, .int x4), (5, .int x5), (6, .int x6)] → (∀ (H : Heap) (locs : List Loc) (ls : Array Slot), va_P D vwCl ([w5 cA o κ, w2 cA (o 1) nw, w2 cA (o 5) q.2.2] : List va_W).flatten H → va_D A0 ([w5 cA o κ, w2 cA (o 1) nw, w2 cA (o 5) q.2.2] : List va_W).flatten → va_S A0 H0 H locs → lv_has ls 8 [(0, .ref (o 0 0)), (1, .int x1), (2, .int x2), (3, .int x3), (4, .int x4), (5, .int q.1), (6, .int q.2.1)] → W p l e rmX5_forget s m args below meth c H locs 0 0 Q (F0 m 144 ls [])) → W p l e rmX5_forget s m args below meth c H locs 0 0 Q (F0 m 61 ls []) := by
  obtain ⟨hx, hb, hml, hown, hts, hr, hlk, hKK⟩ := id Z
  have hK := hKK.1
  intro n
  induction n with
  | zero =>
    intro x5 x6 tr q h
    rw [lp_X5_forget_61] at h
    cases h
  | succ n ih =>
    intro x5 x6 tr q h H locs ls hP hD hS hl kk
    rw [lp_X5_forget_61] at h
    refine lv_iload hx hb dX5_forget_61 (lv_at hl 6 rfl) ?_
    refine lv_iload hx hb dX5_forget_63 (lv_at hl 4 rfl) ?_
    refine lv_icmp_gt (tgt := 144) hx hb dX5_forget_65 (by decide) (fun hc9 => ?_) (fun hc9 => ?_)
    · rw [if_pos hc9] at h
      have h := Option.some.inj h
      subst h
      exact kk _ _ _ hP hD hS (lv_sub hl [0, 1, 2, 3, 4, 5, 6] rfl)
    · rw [if_neg hc9] at h
      refine lv_iload hx hb dX5_forget_68 (lv_at hl 6 rfl) ?_
      refine lv_iload hx hb dX5_forget_70 (lv_at hl 4 rfl) ?_
      refine lv_iand hx hb dX5_forget_72 ?_
      refine lv_iload hx hb dX5_forget_73 (lv_at hl 6 rfl) ?_
      refine lv_icmp_ne (tgt := 138) hx hb dX5_forget_75 (by decide) (fun hc10 => ?_) (fun hc10 => ?_)
      · rw [if_neg hc10] at h
        refine lv_iinc (v := x6 + 1) (lv' := [(6, .int (x6 + 1)), (0, .ref (o 0 0)), (1, .int x1), (2, .int x2), (3, .int x3), (4, .int x4), (5, .int x5)]) hx hb dX5_forget_138 hl (k := 6) rfl rfl (by decide) rfl (fun ls hl => ?_)
        refine lv_goto (tgt := 61) hx hb dX5_forget_141 (by decide) ?_
        exact ih _ _ _ _ h _ _ _ hP hD hS (lv_sub hl [1, 2, 3, 4, 5, 6, 0] rfl) kk
      · rw [if_pos hc10] at h
        refine lv_aload_n hx hb dX5_forget_78 rfl (lv_at hl 0 rfl) ?_
        refine va_get (D := D) (ci := 5) (v := .ref (o 5 0)) (C := RX5) (T := TX5) (N := 9) hx hb hts in_X5_forget_X5 hown hK hP 0 rfl rfl 5 (by decide) (hts _ lk_X5_forget_33) (fun _ h9 => h9) rfl dX5_forget_79 ?_
        refine lv_aload_n hx hb dX5_forget_82 rfl (lv_at hl 0 rfl) ?_
        refine va_get (D := D) (ci := 5) (v := .ref (o 1 0)) (C := RX5) (T := TX5) (N := 9) hx hb hts in_X5_forget_X5 hown hK hP 0 rfl rfl 0 (by decide) (hts _ lk_X5_forget_10) (fun _ h9 => h9) rfl dX5_forget_83 ?_
        refine kVN (rest := []) (st1 := []) (cr := [w5 cA o κ]) (cs' := [w5 cA o κ, w2 cA (o 1) nw, w2 cA (o 5) nw]) Z (c_become l D cA (o 5) (o 1) tr nw ) 1 gX5_forget_X2_become_n115 rfl hdX2_become nk_X5_115 n1_X5_forget_X2 n2_X5_forget_X2_become n3_X5_forget_X2_become ⟨rfl, rfl⟩ ⟨Nat.le_of_ble_eq_true rfl, Nat.le_of_ble_eq_true rfl⟩ ⟨Nat.zero_le _, Nat.zero_le _⟩ hP hD hS hl.1 rfl rfl rfl (Nat.le_of_ble_eq_true rfl) 2 rfl rfl rfl [2, 1] [0] [0, 2, 1] rfl rfl rfl rfl rfl dX5_forget_86 (fun H locs hP hD hS => ?_)
        refine lv_aload_n hx hb dX5_forget_89 rfl (lv_at hl 0 rfl) ?_
        refine va_get (D := D) (ci := 5) (v := .ref (o 5 0)) (C := RX5) (T := TX5) (N := 9) hx hb hts in_X5_forget_X5 hown hK hP 0 rfl rfl 5 (by decide) (hts _ lk_X5_forget_33) (fun _ h9 => h9) rfl dX5_forget_90 ?_
        refine lv_iload hx hb dX5_forget_93 (lv_at hl 4 rfl) ?_
        refine lv_iload hx hb dX5_forget_95 (lv_at hl 6 rfl) ?_
        refine lv_iconst (v := (-1)) hx hb dX5_forget_97 (by decide) ?_
        refine lv_ixor hx hb dX5_forget_98 ?_
        refine lv_iand hx hb dX5_forget_99 ?_
        obtain ⟨r12, hr12, h⟩ := bind_inv h
        refine kVN (rest := []) (st1 := []) (cr := [w5 cA o κ, w2 cA (o 1) nw]) (cs' := [w5 cA o κ, w2 cA (o 1) nw, w2 cA (o 5) r12]) Z (c_X2_wind l D cA (o 5) nw (x4 &&& (x6 ^^^ (-1))) r12 hr12) 1 gX5_forget_X2_wind_n198 rfl hdX2_wind nk_X5_198 n1_X5_forget_X2 n2_X5_forget_X2_wind n3_X5_forget_X2_wind ⟨rfl, rfl⟩ ⟨Nat.le_of_ble_eq_true rfl, Nat.le_of_ble_eq_true rfl⟩ ⟨Nat.zero_le _, Nat.zero_le _⟩ hP hD hS hl.1 rfl rfl rfl (Nat.le_of_ble_eq_true rfl) 2 rfl rfl rfl [2] [0, 1] [0, 1, 2] rfl rfl rfl rfl rfl dX5_forget_100 (fun H locs hP hD hS => ?_)
        refine lv_aload_n hx hb dX5_forget_103 rfl (lv_at hl 0 rfl) ?_
        refine va_get (D := D) (ci := 5) (v := .ref (o 5 0)) (C := RX5) (T := TX5) (N := 9) hx hb hts in_X5_forget_X5 hown hK hP 0 rfl rfl 5 (by decide) (hts _ lk_X5_forget_33) (fun _ h9 => h9) rfl dX5_forget_104 ?_
        obtain ⟨r13, hr13, h⟩ := bind_inv h
        refine kVN (rest := []) (st1 := []) (cr := [w5 cA o κ, w2 cA (o 1) nw]) (cs' := [w5 cA o κ, w2 cA (o 1) nw, w2 cA (o 5) r13]) Z (c_X2_run l D cA (o 5) r12 r13 hr13) 0 gX5_forget_X2_run_n201 rfl hdX2_run nk_X5_201 n1_X5_forget_X2 n2_X5_forget_X2_run n3_X5_forget_X2_run ⟨rfl, rfl⟩ ⟨Nat.le_of_ble_eq_true rfl, Nat.le_of_ble_eq_true rfl⟩ ⟨Nat.zero_le _, Nat.zero_le _⟩ hP hD hS hl.1 rfl rfl rfl (Nat.le_of_ble_eq_true rfl) 2 rfl rfl rfl [2] [0, 1] [0, 1, 2] rfl rfl rfl rfl rfl dX5_forget_107 (fun H locs hP hD hS => ?_)
        refine lv_iload hx hb dX5_forget_110 (lv_at hl 5 rfl) ?_
        refine lv_aload_n hx hb dX5_forget_112 rfl (lv_at hl 0 rfl) ?_
        refine va_get (D := D) (ci := 5) (v := .ref (o 5 0)) (C := RX5) (T := TX5) (N := 9) hx hb hts in_X5_forget_X5 hown hK hP 0 rfl rfl 5 (by decide) (hts _ lk_X5_forget_33) (fun _ h9 => h9) rfl dX5_forget_113 ?_
        refine lv_iload_n hx hb dX5_forget_116 rfl (lv_at hl 1 rfl) ?_
        obtain ⟨r14, hr14, h⟩ := bind_inv h
        refine kVN (rest := [.int x5]) (st1 := [.int r14, .int x5]) (cr := [w5 cA o κ, w2 cA (o 1) nw]) (cs' := [w5 cA o κ, w2 cA (o 1) nw, w2 cA (o 5) r13]) Z (c_X2_isStopped l D cA (o 5) r13 x1 r14 hr14) 1 gX5_forget_X2_isStopped_n204 rfl hdX2_isStopped nk_X5_204 n1_X5_forget_X2 n2_X5_forget_X2_isStopped n3_X5_forget_X2_isStopped ⟨rfl, rfl⟩ ⟨Nat.le_of_ble_eq_true rfl, Nat.le_of_ble_eq_true rfl⟩ ⟨Nat.zero_le _, Nat.zero_le _⟩ hP hD hS hl.1 rfl rfl rfl (Nat.le_of_ble_eq_true rfl) 2 rfl rfl rfl [2] [0, 1] [0, 1, 2] rfl rfl rfl rfl rfl dX5_forget_117 (fun H locs hP hD hS => ?_)
        refine lv_if_eq (tgt := 134) hx hb dX5_forget_120 (by decide) (fun hc15 => ?_) (fun hc15 => ?_)
        · rw [if_pos hc15] at h
          refine lv_iconst (v := 0) hx hb dX5_forget_134 (by decide) ?_
          refine lv_iadd hx hb dX5_forget_135 ?_
          refine lv_istore (lv' := [(5, .int (x5 + 0)), (0, .ref (o 0 0)), (1, .int x1), (2, .int x2), (3, .int x3), (4, .int x4), (6, .int x6)]) hx hb dX5_forget_136 hl (by decide) rfl (fun ls hl => ?_)
          refine lv_iinc (v := x6 + 1) (lv' := [(6, .int (x6 + 1)), (5, .int (x5 + 0)), (0, .ref (o 0 0)), (1, .int x1), (2, .int x2), (3, .int x3), (4, .int x4)]) hx hb dX5_forget_138 hl (k := 6) rfl rfl (by decide) rfl (fun ls hl => ?_)
          refine lv_goto (tgt := 61) hx hb dX5_forget_141 (by decide) ?_
          exact ih _ _ _ _ h _ _ _ hP hD hS (lv_sub hl [2, 3, 4, 5, 6, 1, 0] rfl) kk
        · rw [if_neg hc15] at h
          refine lv_iload hx hb dX5_forget_123 (lv_at hl 4 rfl) ?_
          refine lv_iload hx hb dX5_forget_125 (lv_at hl 6 rfl) ?_
          refine lv_iload_n hx hb dX5_forget_127 rfl (lv_at hl 2 rfl) ?_
          obtain ⟨r16, hr16, h⟩ := bind_inv h
          refine kS (rest := [.int x5]) (st1 := [.int r16, .int x5]) (cr := [w5 cA o κ, w2 cA (o 1) nw, w2 cA (o 5) r13]) (cs' := [w5 cA o κ, w2 cA (o 1) nw, w2 cA (o 5) r13]) Z (c_X5_waysToForget l D cA x4 x6 x2 r16 hr16) 3 gX5_forget_X5_waysToForget rfl hdX5_waysToForget ⟨rfl, rfl⟩ ⟨Nat.le_of_ble_eq_true rfl, Nat.le_of_ble_eq_true rfl⟩ ⟨Nat.zero_le _, Nat.zero_le _⟩ hP hD hS hl.1 rfl rfl rfl (Nat.le_of_ble_eq_true rfl) [] [0, 1, 2] [0, 1, 2] rfl rfl rfl rfl rfl dX5_forget_128 (fun H locs hP hD hS => ?_)
          refine lv_goto (tgt := 135) hx hb dX5_forget_131 (by decide) ?_
          refine lv_iadd hx hb dX5_forget_135 ?_
          refine lv_istore (lv' := [(5, .int (x5 + r16)), (0, .ref (o 0 0)), (1, .int x1), (2, .int x2), (3, .int x3), (4, .int x4), (6, .int x6)]) hx hb dX5_forget_136 hl (by decide) rfl (fun ls hl => ?_)
          refine lv_iinc (v := x6 + 1) (lv' := [(6, .int (x6 + 1)), (5, .int (x5 + r16)), (0, .ref (o 0 0)), (1, .int x1), (2, .int x2), (3, .int x3), (4, .int x4)]) hx hb dX5_forget_138 hl (k := 6) rfl rfl (by decide) rfl (fun ls hl => ?_)
          refine lv_goto (tgt := 61) hx hb dX5_forget_141 (by decide) ?_
          exact ih _ _ _ _ h _ _ _ hP hD hS (lv_sub hl [2, 3, 4, 5, 6, 1, 0] rfl) kk
set_option maxHeartbeats 4000000 in
set_option maxRecDepth 100000 in
theorem c_X5_forget (l : Launch) (D : va_G) (cA : Nat → ClassId) (o : Nat → Nat → Nat) (κ : St5) (nw : St2) (tr : St2) (x1 : Int32) (x2 : Int32) (x3 : Int32) (res : Int32 × St2) (h : f_X5_forget κ nw tr x1 x2 x3 = some res) : CT l D cA yX5_forget wsX5_forget rmX5_forget [.ref (o 0 0), .int x1, .int x2, .int x3] [w5 cA o κ, w2 cA (o 1) nw, w2 cA (o 5) tr] [w5 cA o κ, w2 cA (o 1) nw, w2 cA (o 5) res.2] (some (.int res.1)) := by
  refine CT.start (cc := cX5_forget) (maxL := 8) (ret := (some .int)) (by decide) rfl (Nat.le_of_ble_eq_true rfl) ?_
  intro p e s m below meth c Z hP hD hS ls hl
  have Z : Cx p s m _ meth c cX5_forget 8 (some .int) wsX5_forget RX5 D cA := Z
  have hl : lv_has ls 8 [(0, .ref (o 0 0)), (1, .int x1), (2, .int x2), (3, .int x3)] := hl
  obtain ⟨hx, hb, hml, hown, hts, hr, hlk, hKK⟩ := id Z
  have hK := hKK.1
  rw [f_X5_forget] at h
  refine lv_aload_n hx hb dX5_forget_0 rfl (lv_at hl 0 rfl) ?_
  refine va_get (D := D) (ci := 5) (v := .ref (o 1 0)) (C := RX5) (T := TX5) (N := 9) hx hb hts in_X5_forget_X5 hown hK hP 0 rfl rfl 0 (by decide) (hts _ lk_X5_forget_10) (fun _ h9 => h9) rfl dX5_forget_1 ?_
  refine lv_iload_n hx hb dX5_forget_4 rfl (lv_at hl 1 rfl) ?_
  obtain ⟨r1, hr1, h⟩ := bind_inv h
  refine kVN (rest := []) (st1 := [.int r1]) (cr := [w5 cA o κ, w2 cA (o 5) tr]) (cs' := [w5 cA o κ, w2 cA (o 1) nw, w2 cA (o 5) tr]) Z (c_X2_has l D cA (o 1) nw x1 r1 hr1) 1 gX5_forget_X2_has_n68 rfl hdX2_has nk_X5_68 n1_X5_forget_X2 n2_X5_forget_X2_has n3_X5_forget_X2_has ⟨rfl, rfl⟩ ⟨Nat.le_of_ble_eq_true rfl, Nat.le_of_ble_eq_true rfl⟩ ⟨Nat.zero_le _, Nat.zero_le _⟩ hP hD hS hl.1 rfl rfl rfl (Nat.le_of_ble_eq_true rfl) 2 rfl rfl rfl [1] [0, 2] [0, 2, 1] rfl rfl rfl rfl rfl dX5_forget_5 (fun H locs hP hD hS => ?_)
  refine lv_if_eq (tgt := 30) hx hb dX5_forget_8 (by decide) (fun hc2 => ?_) (fun hc2 => ?_)
  · rw [if_pos hc2] at h
    refine lv_iconst (v := (-1)) hx hb dX5_forget_30 (by decide) ?_
    have h := Option.some.inj h
    subst h
    exact CT.iret Z hP hD hS dX5_forget_31
  · rw [if_neg hc2] at h
    refine lv_iload_n hx hb dX5_forget_11 rfl (lv_at hl 2 rfl) ?_
    refine lv_if_lt (tgt := 30) hx hb dX5_forget_12 (by decide) (fun hc3 => ?_) (fun hc3 => ?_)
    · rw [if_pos hc3] at h
      refine lv_iconst (v := (-1)) hx hb dX5_forget_30 (by decide) ?_
      have h := Option.some.inj h
      subst h
      exact CT.iret Z hP hD hS dX5_forget_31
    · rw [if_neg hc3] at h
      refine lv_iload_n hx hb dX5_forget_15 rfl (lv_at hl 2 rfl) ?_
      refine lv_bipush (v := 10) hx hb dX5_forget_16 (by decide) ?_
      refine lv_icmp_gt (tgt := 30) hx hb dX5_forget_18 (by decide) (fun hc4 => ?_) (fun hc4 => ?_)
      · rw [if_pos hc4] at h
        refine lv_iconst (v := (-1)) hx hb dX5_forget_30 (by decide) ?_
        have h := Option.some.inj h
        subst h
        exact CT.iret Z hP hD hS dX5_forget_31
      · rw [if_neg hc4] at h
        refine lv_iload_n hx hb dX5_forget_21 rfl (lv_at hl 3 rfl) ?_
        refine lv_if_lt (tgt := 30) hx hb dX5_forget_22 (by decide) (fun hc5 => ?_) (fun hc5 => ?_)
        · rw [if_pos hc5] at h
          refine lv_iconst (v := (-1)) hx hb dX5_forget_30 (by decide) ?_
          have h := Option.some.inj h
          subst h
          exact CT.iret Z hP hD hS dX5_forget_31
        · rw [if_neg hc5] at h
          refine lv_iload_n hx hb dX5_forget_25 rfl (lv_at hl 3 rfl) ?_
          refine lv_iconst (v := 1) hx hb dX5_forget_26 (by decide) ?_
          refine lv_icmp_le (tgt := 32) hx hb dX5_forget_27 (by decide) (fun hc6 => ?_) (fun hc6 => ?_)
          · rw [if_pos hc6] at h
            refine lv_aload_n hx hb dX5_forget_32 rfl (lv_at hl 0 rfl) ?_
            refine va_get (D := D) (ci := 5) (v := .ref (o 1 0)) (C := RX5) (T := TX5) (N := 9) hx hb hts in_X5_forget_X5 hown hK hP 0 rfl rfl 0 (by decide) (hts _ lk_X5_forget_10) (fun _ h9 => h9) rfl dX5_forget_33 ?_
            obtain ⟨r7, hr7, h⟩ := bind_inv h
            refine kVN (rest := []) (st1 := [.int r7]) (cr := [w5 cA o κ, w2 cA (o 5) tr]) (cs' := [w5 cA o κ, w2 cA (o 1) nw, w2 cA (o 5) tr]) Z (c_X2_isWindingHour l D cA (o 1) nw r7 hr7) 0 gX5_forget_X2_isWindingHour_n131 rfl hdX2_isWindingHour nk_X5_131 n1_X5_forget_X2 n2_X5_forget_X2_isWindingHour n3_X5_forget_X2_isWindingHour ⟨rfl, rfl⟩ ⟨Nat.le_of_ble_eq_true rfl, Nat.le_of_ble_eq_true rfl⟩ ⟨Nat.zero_le _, Nat.zero_le _⟩ hP hD hS hl.1 rfl rfl rfl (Nat.le_of_ble_eq_true rfl) 2 rfl rfl rfl [1] [0, 2] [0, 2, 1] rfl rfl rfl rfl rfl dX5_forget_36 (fun H locs hP hD hS => ?_)
            refine lv_if_eq (tgt := 52) hx hb dX5_forget_39 (by decide) (fun hc8 => ?_) (fun hc8 => ?_)
            · rw [if_pos hc8] at h
              refine lv_iconst (v := 0) hx hb dX5_forget_52 (by decide) ?_
              refine lv_istore (lv' := [(4, .int 0), (0, .ref (o 0 0)), (1, .int x1), (2, .int x2), (3, .int x3)]) hx hb dX5_forget_53 hl (by decide) rfl (fun ls hl => ?_)
              refine lv_iconst (v := 0) hx hb dX5_forget_55 (by decide) ?_
              refine lv_istore (lv' := [(5, .int 0), (4, .int 0), (0, .ref (o 0 0)), (1, .int x1), (2, .int x2), (3, .int x3)]) hx hb dX5_forget_56 hl (by decide) rfl (fun ls hl => ?_)
              refine lv_iconst (v := 0) hx hb dX5_forget_58 (by decide) ?_
              refine lv_istore (lv' := [(6, .int 0), (5, .int 0), (4, .int 0), (0, .ref (o 0 0)), (1, .int x1), (2, .int x2), (3, .int x3)]) hx hb dX5_forget_59 hl (by decide) rfl (fun ls hl => ?_)
              obtain ⟨q17, hq17, h⟩ := bind_inv h
              refine t_X5_forget_61 Z κ nw x1 x2 x3 0 FU _ _ _ _ hq17 _ _ _ hP hD hS (lv_sub hl [3, 4, 5, 6, 2, 1, 0] rfl) (fun H locs ls hP hD hS hl => ?_)
              refine lv_bipush (v := 10) hx hb dX5_forget_144 (by decide) ?_
              refine lv_iload hx hb dX5_forget_146 (lv_at hl 4 rfl) ?_
              obtain ⟨r18, hr18, h⟩ := bind_inv h
              refine kS (rest := [.int 10]) (st1 := [.int r18, .int 10]) (cr := [w5 cA o κ, w2 cA (o 1) nw, w2 cA (o 5) q17.2.2]) (cs' := [w5 cA o κ, w2 cA (o 1) nw, w2 cA (o 5) q17.2.2]) Z (c_J6_bitCount_0f7a4 l D cA 0 r18 hr18) 1 gX5_forget_J6_bitCount_0f7a4 rfl hdJ6_bitCount_0f7a4 ⟨rfl, rfl⟩ ⟨Nat.le_of_ble_eq_true rfl, Nat.le_of_ble_eq_true rfl⟩ ⟨Nat.zero_le _, Nat.zero_le _⟩ hP hD hS hl.1 rfl rfl rfl (Nat.le_of_ble_eq_true rfl) [] [0, 1, 2] [0, 1, 2] rfl rfl rfl rfl rfl dX5_forget_148 (fun H locs hP hD hS => ?_)
              obtain ⟨r19, hr19, h⟩ := bind_inv h
              refine kS (rest := []) (st1 := [.int r19]) (cr := [w5 cA o κ, w2 cA (o 1) nw, w2 cA (o 5) q17.2.2]) (cs' := [w5 cA o κ, w2 cA (o 1) nw, w2 cA (o 5) q17.2.2]) Z (c_X5_power l D cA 10 r18 r19 hr19) 2 gX5_forget_X5_power rfl hdX5_power ⟨rfl, rfl⟩ ⟨Nat.le_of_ble_eq_true rfl, Nat.le_of_ble_eq_true rfl⟩ ⟨Nat.zero_le _, Nat.zero_le _⟩ hP hD hS hl.1 rfl rfl rfl (Nat.le_of_ble_eq_true rfl) [] [0, 1, 2] [0, 1, 2] rfl rfl rfl rfl rfl dX5_forget_151 (fun H locs hP hD hS => ?_)
              refine lv_istore (lv' := [(6, .int r19), (0, .ref (o 0 0)), (1, .int x1), (2, .int x2), (3, .int x3), (4, .int 0), (5, .int q17.1)]) hx hb dX5_forget_154 hl (by decide) rfl (fun ls hl => ?_)
              refine lv_iload hx hb dX5_forget_156 (lv_at hl 6 rfl) ?_
              refine lv_iload hx hb dX5_forget_158 (lv_at hl 0 rfl) ?_
              obtain ⟨r20, hr20, h⟩ := bind_inv h
              refine kS (rest := []) (st1 := [.int r20]) (cr := [w5 cA o κ, w2 cA (o 1) nw, w2 cA (o 5) q17.2.2]) (cs' := [w5 cA o κ, w2 cA (o 1) nw, w2 cA (o 5) q17.2.2]) Z (c_X5_greatestDivisor l D cA q17.1 r19 r20 hr20) 2 gX5_forget_X5_greatestDivisor rfl hdX5_greatestDivisor ⟨rfl, rfl⟩ ⟨Nat.le_of_ble_eq_true rfl, Nat.le_of_ble_eq_true rfl⟩ ⟨Nat.zero_le _, Nat.zero_le _⟩ hP hD hS hl.1 rfl rfl rfl (Nat.le_of_ble_eq_true rfl) [] [0, 1, 2] [0, 1, 2] rfl rfl rfl rfl rfl dX5_forget_160 (fun H locs hP hD hS => ?_)
              refine lv_istore (lv' := [(7, .int r20), (6, .int r19), (0, .ref (o 0 0)), (1, .int x1), (2, .int x2), (3, .int x3), (4, .int 0), (5, .int q17.1)]) hx hb dX5_forget_163 hl (by decide) rfl (fun ls hl => ?_)
              refine lv_iload_n hx hb dX5_forget_165 rfl (lv_at hl 5 rfl) ?_
              refine lv_if_ne (tgt := 174) hx hb dX5_forget_166 (by decide) (fun hc21 => ?_) (fun hc21 => ?_)
              · rw [if_neg hc21] at h
                refine lv_iload hx hb dX5_forget_174 (lv_at hl 1 rfl) ?_
                refine lv_iload hx hb dX5_forget_176 (lv_at hl 0 rfl) ?_
                refine lv_iconst (v := 1) hx hb dX5_forget_178 (by decide) ?_
                refine va_mmax hx hb (hml.trans hl.1.symm) hown (hts _ jm_X5_forget_max_216) (hts _ js_X5_forget_max) (hts _ ji_X5_forget) (hts _ jc_X5_forget_max) (Nat.le_of_ble_eq_true rfl) (Nat.le_of_ble_eq_true rfl) (Nat.zero_le _) (Nat.zero_le _) dX5_forget_179 ?_
                obtain ⟨hg22, h⟩ := if_inv h
                refine lv_idiv hx hb dX5_forget_182 hg22 ?_
                have h := Option.some.inj h
                subst h
                exact CT.iret Z hP hD hS dX5_forget_183
              · rw [if_pos hc21] at h
                refine lv_iload hx hb dX5_forget_169 (lv_at hl 7 rfl) ?_
                refine lv_goto (tgt := 176) hx hb dX5_forget_171 (by decide) ?_
                refine lv_iload hx hb dX5_forget_176 (lv_at hl 0 rfl) ?_
                refine lv_iconst (v := 1) hx hb dX5_forget_178 (by decide) ?_
                refine va_mmax hx hb (hml.trans hl.1.symm) hown (hts _ jm_X5_forget_max_216) (hts _ js_X5_forget_max) (hts _ ji_X5_forget) (hts _ jc_X5_forget_max) (Nat.le_of_ble_eq_true rfl) (Nat.le_of_ble_eq_true rfl) (Nat.zero_le _) (Nat.zero_le _) dX5_forget_179 ?_
                obtain ⟨hg23, h⟩ := if_inv h
                refine lv_idiv hx hb dX5_forget_182 hg23 ?_
                have h := Option.some.inj h
                subst h
                exact CT.iret Z hP hD hS dX5_forget_183
            · rw [if_neg hc8] at h
              refine lv_aload_n hx hb dX5_forget_42 rfl (lv_at hl 0 rfl) ?_
              refine va_get (D := D) (ci := 5) (v := .ref (o 1 0)) (C := RX5) (T := TX5) (N := 9) hx hb hts in_X5_forget_X5 hown hK hP 0 rfl rfl 0 (by decide) (hts _ lk_X5_forget_10) (fun _ h9 => h9) rfl dX5_forget_43 ?_
              obtain ⟨r24, hr24, h⟩ := bind_inv h
              refine kVN (rest := []) (st1 := [.int r24]) (cr := [w5 cA o κ, w2 cA (o 5) tr]) (cs' := [w5 cA o κ, w2 cA (o 1) nw, w2 cA (o 5) tr]) Z (c_X2_winders l D cA (o 1) nw r24 hr24) 0 gX5_forget_X2_winders_n195 rfl hdX2_winders nk_X5_195 n1_X5_forget_X2 n2_X5_forget_X2_winders n3_X5_forget_X2_winders ⟨rfl, rfl⟩ ⟨Nat.le_of_ble_eq_true rfl, Nat.le_of_ble_eq_true rfl⟩ ⟨Nat.zero_le _, Nat.zero_le _⟩ hP hD hS hl.1 rfl rfl rfl (Nat.le_of_ble_eq_true rfl) 2 rfl rfl rfl [1] [0, 2] [0, 2, 1] rfl rfl rfl rfl rfl dX5_forget_46 (fun H locs hP hD hS => ?_)
              refine lv_goto (tgt := 53) hx hb dX5_forget_49 (by decide) ?_
              refine lv_istore (lv' := [(4, .int r24), (0, .ref (o 0 0)), (1, .int x1), (2, .int x2), (3, .int x3)]) hx hb dX5_forget_53 hl (by decide) rfl (fun ls hl => ?_)
              refine lv_iconst (v := 0) hx hb dX5_forget_55 (by decide) ?_
              refine lv_istore (lv' := [(5, .int 0), (4, .int r24), (0, .ref (o 0 0)), (1, .int x1), (2, .int x2), (3, .int x3)]) hx hb dX5_forget_56 hl (by decide) rfl (fun ls hl => ?_)
              refine lv_iconst (v := 0) hx hb dX5_forget_58 (by decide) ?_
              refine lv_istore (lv' := [(6, .int 0), (5, .int 0), (4, .int r24), (0, .ref (o 0 0)), (1, .int x1), (2, .int x2), (3, .int x3)]) hx hb dX5_forget_59 hl (by decide) rfl (fun ls hl => ?_)
              obtain ⟨q25, hq25, h⟩ := bind_inv h
              refine t_X5_forget_61 Z κ nw x1 x2 x3 r24 FU _ _ _ _ hq25 _ _ _ hP hD hS (lv_sub hl [3, 4, 5, 6, 2, 1, 0] rfl) (fun H locs ls hP hD hS hl => ?_)
              refine lv_bipush (v := 10) hx hb dX5_forget_144 (by decide) ?_
              refine lv_iload hx hb dX5_forget_146 (lv_at hl 4 rfl) ?_
              obtain ⟨r26, hr26, h⟩ := bind_inv h
              refine kS (rest := [.int 10]) (st1 := [.int r26, .int 10]) (cr := [w5 cA o κ, w2 cA (o 1) nw, w2 cA (o 5) q25.2.2]) (cs' := [w5 cA o κ, w2 cA (o 1) nw, w2 cA (o 5) q25.2.2]) Z (c_J6_bitCount_0f7a4 l D cA r24 r26 hr26) 1 gX5_forget_J6_bitCount_0f7a4 rfl hdJ6_bitCount_0f7a4 ⟨rfl, rfl⟩ ⟨Nat.le_of_ble_eq_true rfl, Nat.le_of_ble_eq_true rfl⟩ ⟨Nat.zero_le _, Nat.zero_le _⟩ hP hD hS hl.1 rfl rfl rfl (Nat.le_of_ble_eq_true rfl) [] [0, 1, 2] [0, 1, 2] rfl rfl rfl rfl rfl dX5_forget_148 (fun H locs hP hD hS => ?_)
              obtain ⟨r27, hr27, h⟩ := bind_inv h
              refine kS (rest := []) (st1 := [.int r27]) (cr := [w5 cA o κ, w2 cA (o 1) nw, w2 cA (o 5) q25.2.2]) (cs' := [w5 cA o κ, w2 cA (o 1) nw, w2 cA (o 5) q25.2.2]) Z (c_X5_power l D cA 10 r26 r27 hr27) 2 gX5_forget_X5_power rfl hdX5_power ⟨rfl, rfl⟩ ⟨Nat.le_of_ble_eq_true rfl, Nat.le_of_ble_eq_true rfl⟩ ⟨Nat.zero_le _, Nat.zero_le _⟩ hP hD hS hl.1 rfl rfl rfl (Nat.le_of_ble_eq_true rfl) [] [0, 1, 2] [0, 1, 2] rfl rfl rfl rfl rfl dX5_forget_151 (fun H locs hP hD hS => ?_)
              refine lv_istore (lv' := [(6, .int r27), (0, .ref (o 0 0)), (1, .int x1), (2, .int x2), (3, .int x3), (4, .int r24), (5, .int q25.1)]) hx hb dX5_forget_154 hl (by decide) rfl (fun ls hl => ?_)
              refine lv_iload hx hb dX5_forget_156 (lv_at hl 6 rfl) ?_
              refine lv_iload hx hb dX5_forget_158 (lv_at hl 0 rfl) ?_
              obtain ⟨r28, hr28, h⟩ := bind_inv h
              refine kS (rest := []) (st1 := [.int r28]) (cr := [w5 cA o κ, w2 cA (o 1) nw, w2 cA (o 5) q25.2.2]) (cs' := [w5 cA o κ, w2 cA (o 1) nw, w2 cA (o 5) q25.2.2]) Z (c_X5_greatestDivisor l D cA q25.1 r27 r28 hr28) 2 gX5_forget_X5_greatestDivisor rfl hdX5_greatestDivisor ⟨rfl, rfl⟩ ⟨Nat.le_of_ble_eq_true rfl, Nat.le_of_ble_eq_true rfl⟩ ⟨Nat.zero_le _, Nat.zero_le _⟩ hP hD hS hl.1 rfl rfl rfl (Nat.le_of_ble_eq_true rfl) [] [0, 1, 2] [0, 1, 2] rfl rfl rfl rfl rfl dX5_forget_160 (fun H locs hP hD hS => ?_)
              refine lv_istore (lv' := [(7, .int r28), (6, .int r27), (0, .ref (o 0 0)), (1, .int x1), (2, .int x2), (3, .int x3), (4, .int r24), (5, .int q25.1)]) hx hb dX5_forget_163 hl (by decide) rfl (fun ls hl => ?_)
              refine lv_iload_n hx hb dX5_forget_165 rfl (lv_at hl 5 rfl) ?_
              refine lv_if_ne (tgt := 174) hx hb dX5_forget_166 (by decide) (fun hc29 => ?_) (fun hc29 => ?_)
              · rw [if_neg hc29] at h
                refine lv_iload hx hb dX5_forget_174 (lv_at hl 1 rfl) ?_
                refine lv_iload hx hb dX5_forget_176 (lv_at hl 0 rfl) ?_
                refine lv_iconst (v := 1) hx hb dX5_forget_178 (by decide) ?_
                refine va_mmax hx hb (hml.trans hl.1.symm) hown (hts _ jm_X5_forget_max_216) (hts _ js_X5_forget_max) (hts _ ji_X5_forget) (hts _ jc_X5_forget_max) (Nat.le_of_ble_eq_true rfl) (Nat.le_of_ble_eq_true rfl) (Nat.zero_le _) (Nat.zero_le _) dX5_forget_179 ?_
                obtain ⟨hg30, h⟩ := if_inv h
                refine lv_idiv hx hb dX5_forget_182 hg30 ?_
                have h := Option.some.inj h
                subst h
                exact CT.iret Z hP hD hS dX5_forget_183
              · rw [if_pos hc29] at h
                refine lv_iload hx hb dX5_forget_169 (lv_at hl 7 rfl) ?_
                refine lv_goto (tgt := 176) hx hb dX5_forget_171 (by decide) ?_
                refine lv_iload hx hb dX5_forget_176 (lv_at hl 0 rfl) ?_
                refine lv_iconst (v := 1) hx hb dX5_forget_178 (by decide) ?_
                refine va_mmax hx hb (hml.trans hl.1.symm) hown (hts _ jm_X5_forget_max_216) (hts _ js_X5_forget_max) (hts _ ji_X5_forget) (hts _ jc_X5_forget_max) (Nat.le_of_ble_eq_true rfl) (Nat.le_of_ble_eq_true rfl) (Nat.zero_le _) (Nat.zero_le _) dX5_forget_179 ?_
                obtain ⟨hg31, h⟩ := if_inv h
                refine lv_idiv hx hb dX5_forget_182 hg31 ?_
                have h := Option.some.inj h
                subst h
                exact CT.iret Z hP hD hS dX5_forget_183
          · rw [if_neg hc6] at h
            refine lv_iconst (v := (-1)) hx hb dX5_forget_30 (by decide) ?_
            have h := Option.some.inj h
            subst h
            exact CT.iret Z hP hD hS dX5_forget_31

-- X5.image
theorem lk_X5_image_23 : Cond.fieldLink RX5 23 "KeyedFeelings" "keptNow" "LKeyedFeelings$People;" ∈ wsX5_image := by decide +kernel
theorem in_X5_image_X5 : ∀ w ∈ wsX50, w ∈ wsX5_image := by decide +kernel
theorem lk_X5_image_10 : Cond.fieldLink RX5 10 "KeyedFeelings" "now" "LKeyedFeelings$People;" ∈ wsX5_image := by decide +kernel
theorem n1_X5_image_X2 : Cond.initialized RX2 ∈ wsX5_image := by decide +kernel
theorem n2_X5_image_X2_become : Cond.instanceMethod yX2_become ∈ wsX5_image := by decide +kernel
theorem n3_X5_image_X2_become : Cond.selects RX2 yX2_become yX2_become ∈ wsX5_image := by decide +kernel
theorem lk_X5_image_26 : Cond.fieldLink RX5 26 "KeyedFeelings" "keptPast" "LKeyedFeelings$Past;" ∈ wsX5_image := by decide +kernel
theorem lk_X5_image_19 : Cond.fieldLink RX5 19 "KeyedFeelings" "past" "LKeyedFeelings$Past;" ∈ wsX5_image := by decide +kernel
theorem n1_X5_image_X1 : Cond.initialized RX1 ∈ wsX5_image := by decide +kernel
theorem n2_X5_image_X1_become : Cond.instanceMethod yX1_become ∈ wsX5_image := by decide +kernel
theorem n3_X5_image_X1_become : Cond.selects RX1 yX1_become yX1_become ∈ wsX5_image := by decide +kernel
theorem lk_X5_image_29 : Cond.fieldLink RX5 29 "KeyedFeelings" "isKept" "Z" ∈ wsX5_image := by decide +kernel
noncomputable def f_X5_image (κ : St5) (nw : St2) (ps : St1) (kn : St2) (kp : St1) : Option (Int32 × St5 × St2 × St1) := some (1, (s5_isKept κ 1), nw, ps)
noncomputable def rmX5_image : Room := { frames := 2, cells := 0, slots := 0, locals := 44 }
set_option maxHeartbeats 4000000 in
set_option maxRecDepth 100000 in
theorem c_X5_image (l : Launch) (D : va_G) (cA : Nat → ClassId) (o : Nat → Nat → Nat) (κ : St5) (nw : St2) (ps : St1) (kn : St2) (kp : St1) (res : Int32 × St5 × St2 × St1) (h : f_X5_image κ nw ps kn kp = some res) : CT l D cA yX5_image wsX5_image rmX5_image [.ref (o 0 0)] [w5 cA o κ, w2 cA (o 1) nw, w1 cA (fun i => o (20 + i)) ps, w2 cA (o 3) kn, w1 cA (fun i => o (30 + i)) kp] [w5 cA o res.2.1, w2 cA (o 1) nw, w1 cA (fun i => o (20 + i)) ps, w2 cA (o 3) res.2.2.1, w1 cA (fun i => o (30 + i)) res.2.2.2] (some (.int res.1)) := by
  refine CT.start (cc := cX5_image) (maxL := 1) (ret := (some .int)) (by decide) rfl (Nat.le_of_ble_eq_true rfl) ?_
  intro p e s m below meth c Z hP hD hS ls hl
  have Z : Cx p s m _ meth c cX5_image 1 (some .int) wsX5_image RX5 D cA := Z
  have hl : lv_has ls 1 [(0, .ref (o 0 0))] := hl
  obtain ⟨hx, hb, hml, hown, hts, hr, hlk, hKK⟩ := id Z
  have hK := hKK.1
  rw [f_X5_image] at h
  refine lv_aload_n hx hb dX5_image_0 rfl (lv_at hl 0 rfl) ?_
  refine va_get (D := D) (ci := 5) (v := .ref (o 3 0)) (C := RX5) (T := TX5) (N := 9) hx hb hts in_X5_image_X5 hown hK hP 0 rfl rfl 2 (by decide) (hts _ lk_X5_image_23) (fun _ h9 => h9) rfl dX5_image_1 ?_
  refine lv_aload_n hx hb dX5_image_4 rfl (lv_at hl 0 rfl) ?_
  refine va_get (D := D) (ci := 5) (v := .ref (o 1 0)) (C := RX5) (T := TX5) (N := 9) hx hb hts in_X5_image_X5 hown hK hP 0 rfl rfl 0 (by decide) (hts _ lk_X5_image_10) (fun _ h9 => h9) rfl dX5_image_5 ?_
  refine kVN (rest := []) (st1 := []) (cr := [w5 cA o κ, w1 cA (fun i => o (20 + i)) ps, w1 cA (fun i => o (30 + i)) kp]) (cs' := [w5 cA o κ, w2 cA (o 1) nw, w1 cA (fun i => o (20 + i)) ps, w2 cA (o 3) nw, w1 cA (fun i => o (30 + i)) kp]) Z (c_become l D cA (o 3) (o 1) kn nw ) 1 gX5_image_X2_become_n115 rfl hdX2_become nk_X5_115 n1_X5_image_X2 n2_X5_image_X2_become n3_X5_image_X2_become ⟨rfl, rfl⟩ ⟨Nat.le_of_ble_eq_true rfl, Nat.le_of_ble_eq_true rfl⟩ ⟨Nat.zero_le _, Nat.zero_le _⟩ hP hD hS hl.1 rfl rfl rfl (Nat.le_of_ble_eq_true rfl) 2 rfl rfl rfl [3, 1] [0, 2, 4] [0, 4, 1, 3, 2] rfl rfl rfl rfl rfl dX5_image_8 (fun H locs hP hD hS => ?_)
  refine lv_aload_n hx hb dX5_image_11 rfl (lv_at hl 0 rfl) ?_
  refine va_get (D := D) (ci := 5) (v := .ref (o 30 0)) (C := RX5) (T := TX5) (N := 9) hx hb hts in_X5_image_X5 hown hK hP 0 rfl rfl 3 (by decide) (hts _ lk_X5_image_26) (fun _ h9 => h9) rfl dX5_image_12 ?_
  refine lv_aload_n hx hb dX5_image_15 rfl (lv_at hl 0 rfl) ?_
  refine va_get (D := D) (ci := 5) (v := .ref (o 20 0)) (C := RX5) (T := TX5) (N := 9) hx hb hts in_X5_image_X5 hown hK hP 0 rfl rfl 1 (by decide) (hts _ lk_X5_image_19) (fun _ h9 => h9) rfl dX5_image_16 ?_
  refine kVN (rest := []) (st1 := []) (cr := [w5 cA o κ, w2 cA (o 1) nw, w2 cA (o 3) nw]) (cs' := [w5 cA o κ, w2 cA (o 1) nw, w1 cA (fun i => o (20 + i)) ps, w2 cA (o 3) nw, w1 cA (fun i => o (30 + i)) ps]) Z (c_X1_become l D cA (fun i => o (30 + i)) (fun i => o (20 + i)) kp ps ) 1 gX5_image_X1_become_n221 rfl hdX1_become nk_X5_221 n1_X5_image_X1 n2_X5_image_X1_become n3_X5_image_X1_become ⟨rfl, rfl⟩ ⟨Nat.le_of_ble_eq_true rfl, Nat.le_of_ble_eq_true rfl⟩ ⟨Nat.zero_le _, Nat.zero_le _⟩ hP hD hS hl.1 rfl rfl rfl (Nat.le_of_ble_eq_true rfl) 1 rfl rfl rfl [4, 2] [0, 1, 3] [0, 1, 4, 2, 3] rfl rfl rfl rfl rfl dX5_image_19 (fun H locs hP hD hS => ?_)
  refine lv_aload_n hx hb dX5_image_22 rfl (lv_at hl 0 rfl) ?_
  refine lv_iconst (v := 1) hx hb dX5_image_23 (by decide) ?_
  refine va_put (D := D) (ci := 5) (v := .int 1) (ty := .boolean) (C := RX5) (T := TX5) (N := 9) hx hb hts in_X5_image_X5 tyX5 tyX5_ok nmX5 hown hK hP hD hS 0 rfl rfl 4 (by decide) (hts _ lk_X5_image_29) (fun _ h9 => h9) rfl (tyX5_ok 4 (by decide)) (nar_bool (by decide)) (fit_bool (by decide)) (Nat.le_of_ble_eq_true rfl) dX5_image_24 (fun H locs hP hD hS => ?_)
  have hP : va_P D vwCl ([w5 cA o (s5_isKept κ 1), w2 cA (o 1) nw, w1 cA (fun i => o (20 + i)) ps, w2 cA (o 3) nw, w1 cA (fun i => o (30 + i)) ps] : List va_W).flatten H := hP
  have hD : va_D _ ([w5 cA o (s5_isKept κ 1), w2 cA (o 1) nw, w1 cA (fun i => o (20 + i)) ps, w2 cA (o 3) nw, w1 cA (fun i => o (30 + i)) ps] : List va_W).flatten := hD
  refine lv_iconst (v := 1) hx hb dX5_image_27 (by decide) ?_
  have h := Option.some.inj h
  subst h
  exact CT.iret Z hP hD hS dX5_image_28

-- X5.restore
theorem lk_X5_restore_29 : Cond.fieldLink RX5 29 "KeyedFeelings" "isKept" "Z" ∈ wsX5_restore := by decide +kernel
theorem in_X5_restore_X5 : ∀ w ∈ wsX50, w ∈ wsX5_restore := by decide +kernel
theorem lk_X5_restore_10 : Cond.fieldLink RX5 10 "KeyedFeelings" "now" "LKeyedFeelings$People;" ∈ wsX5_restore := by decide +kernel
theorem lk_X5_restore_23 : Cond.fieldLink RX5 23 "KeyedFeelings" "keptNow" "LKeyedFeelings$People;" ∈ wsX5_restore := by decide +kernel
theorem n1_X5_restore_X2 : Cond.initialized RX2 ∈ wsX5_restore := by decide +kernel
theorem n2_X5_restore_X2_become : Cond.instanceMethod yX2_become ∈ wsX5_restore := by decide +kernel
theorem n3_X5_restore_X2_become : Cond.selects RX2 yX2_become yX2_become ∈ wsX5_restore := by decide +kernel
theorem lk_X5_restore_19 : Cond.fieldLink RX5 19 "KeyedFeelings" "past" "LKeyedFeelings$Past;" ∈ wsX5_restore := by decide +kernel
theorem lk_X5_restore_26 : Cond.fieldLink RX5 26 "KeyedFeelings" "keptPast" "LKeyedFeelings$Past;" ∈ wsX5_restore := by decide +kernel
theorem n1_X5_restore_X1 : Cond.initialized RX1 ∈ wsX5_restore := by decide +kernel
theorem n2_X5_restore_X1_become : Cond.instanceMethod yX1_become ∈ wsX5_restore := by decide +kernel
theorem n3_X5_restore_X1_become : Cond.selects RX1 yX1_become yX1_become ∈ wsX5_restore := by decide +kernel
noncomputable def f_X5_restore (κ : St5) (nw : St2) (ps : St1) (kn : St2) (kp : St1) : Option (Int32 × St2 × St1) := (if (p5_isKept κ) = 0 then some ((-4), nw, ps) else some (1, kn, kp))
noncomputable def rmX5_restore : Room := { frames := 2, cells := 0, slots := 0, locals := 44 }
set_option maxHeartbeats 4000000 in
set_option maxRecDepth 100000 in
theorem c_X5_restore (l : Launch) (D : va_G) (cA : Nat → ClassId) (o : Nat → Nat → Nat) (κ : St5) (nw : St2) (ps : St1) (kn : St2) (kp : St1) (res : Int32 × St2 × St1) (h : f_X5_restore κ nw ps kn kp = some res) : CT l D cA yX5_restore wsX5_restore rmX5_restore [.ref (o 0 0)] [w5 cA o κ, w2 cA (o 1) nw, w1 cA (fun i => o (20 + i)) ps, w2 cA (o 3) kn, w1 cA (fun i => o (30 + i)) kp] [w5 cA o κ, w2 cA (o 1) res.2.1, w1 cA (fun i => o (20 + i)) res.2.2, w2 cA (o 3) kn, w1 cA (fun i => o (30 + i)) kp] (some (.int res.1)) := by
  refine CT.start (cc := cX5_restore) (maxL := 1) (ret := (some .int)) (by decide) rfl (Nat.le_of_ble_eq_true rfl) ?_
  intro p e s m below meth c Z hP hD hS ls hl
  have Z : Cx p s m _ meth c cX5_restore 1 (some .int) wsX5_restore RX5 D cA := Z
  have hl : lv_has ls 1 [(0, .ref (o 0 0))] := hl
  obtain ⟨hx, hb, hml, hown, hts, hr, hlk, hKK⟩ := id Z
  have hK := hKK.1
  rw [f_X5_restore] at h
  refine lv_aload_n hx hb dX5_restore_0 rfl (lv_at hl 0 rfl) ?_
  refine va_get (D := D) (ci := 5) (v := .int (p5_isKept κ)) (C := RX5) (T := TX5) (N := 9) hx hb hts in_X5_restore_X5 hown hK hP 0 rfl rfl 4 (by decide) (hts _ lk_X5_restore_29) (fun _ h9 => h9) rfl dX5_restore_1 ?_
  refine lv_if_ne (tgt := 10) hx hb dX5_restore_4 (by decide) (fun hc1 => ?_) (fun hc1 => ?_)
  · rw [if_neg hc1] at h
    refine lv_aload_n hx hb dX5_restore_10 rfl (lv_at hl 0 rfl) ?_
    refine va_get (D := D) (ci := 5) (v := .ref (o 1 0)) (C := RX5) (T := TX5) (N := 9) hx hb hts in_X5_restore_X5 hown hK hP 0 rfl rfl 0 (by decide) (hts _ lk_X5_restore_10) (fun _ h9 => h9) rfl dX5_restore_11 ?_
    refine lv_aload_n hx hb dX5_restore_14 rfl (lv_at hl 0 rfl) ?_
    refine va_get (D := D) (ci := 5) (v := .ref (o 3 0)) (C := RX5) (T := TX5) (N := 9) hx hb hts in_X5_restore_X5 hown hK hP 0 rfl rfl 2 (by decide) (hts _ lk_X5_restore_23) (fun _ h9 => h9) rfl dX5_restore_15 ?_
    refine kVN (rest := []) (st1 := []) (cr := [w5 cA o κ, w1 cA (fun i => o (20 + i)) ps, w1 cA (fun i => o (30 + i)) kp]) (cs' := [w5 cA o κ, w2 cA (o 1) kn, w1 cA (fun i => o (20 + i)) ps, w2 cA (o 3) kn, w1 cA (fun i => o (30 + i)) kp]) Z (c_become l D cA (o 1) (o 3) nw kn ) 1 gX5_restore_X2_become_n115 rfl hdX2_become nk_X5_115 n1_X5_restore_X2 n2_X5_restore_X2_become n3_X5_restore_X2_become ⟨rfl, rfl⟩ ⟨Nat.le_of_ble_eq_true rfl, Nat.le_of_ble_eq_true rfl⟩ ⟨Nat.zero_le _, Nat.zero_le _⟩ hP hD hS hl.1 rfl rfl rfl (Nat.le_of_ble_eq_true rfl) 2 rfl rfl rfl [1, 3] [0, 2, 4] [0, 3, 1, 4, 2] rfl rfl rfl rfl rfl dX5_restore_18 (fun H locs hP hD hS => ?_)
    refine lv_aload_n hx hb dX5_restore_21 rfl (lv_at hl 0 rfl) ?_
    refine va_get (D := D) (ci := 5) (v := .ref (o 20 0)) (C := RX5) (T := TX5) (N := 9) hx hb hts in_X5_restore_X5 hown hK hP 0 rfl rfl 1 (by decide) (hts _ lk_X5_restore_19) (fun _ h9 => h9) rfl dX5_restore_22 ?_
    refine lv_aload_n hx hb dX5_restore_25 rfl (lv_at hl 0 rfl) ?_
    refine va_get (D := D) (ci := 5) (v := .ref (o 30 0)) (C := RX5) (T := TX5) (N := 9) hx hb hts in_X5_restore_X5 hown hK hP 0 rfl rfl 3 (by decide) (hts _ lk_X5_restore_26) (fun _ h9 => h9) rfl dX5_restore_26 ?_
    refine kVN (rest := []) (st1 := []) (cr := [w5 cA o κ, w2 cA (o 1) kn, w2 cA (o 3) kn]) (cs' := [w5 cA o κ, w2 cA (o 1) kn, w1 cA (fun i => o (20 + i)) kp, w2 cA (o 3) kn, w1 cA (fun i => o (30 + i)) kp]) Z (c_X1_become l D cA (fun i => o (20 + i)) (fun i => o (30 + i)) ps kp ) 1 gX5_restore_X1_become_n221 rfl hdX1_become nk_X5_221 n1_X5_restore_X1 n2_X5_restore_X1_become n3_X5_restore_X1_become ⟨rfl, rfl⟩ ⟨Nat.le_of_ble_eq_true rfl, Nat.le_of_ble_eq_true rfl⟩ ⟨Nat.zero_le _, Nat.zero_le _⟩ hP hD hS hl.1 rfl rfl rfl (Nat.le_of_ble_eq_true rfl) 1 rfl rfl rfl [2, 4] [0, 1, 3] [0, 1, 3, 2, 4] rfl rfl rfl rfl rfl dX5_restore_29 (fun H locs hP hD hS => ?_)
    refine lv_iconst (v := 1) hx hb dX5_restore_32 (by decide) ?_
    have h := Option.some.inj h
    subst h
    exact CT.iret Z hP hD hS dX5_restore_33
  · rw [if_pos hc1] at h
    refine lv_bipush (v := (-4)) hx hb dX5_restore_7 (by decide) ?_
    have h := Option.some.inj h
    subst h
    exact CT.iret Z hP hD hS dX5_restore_9

