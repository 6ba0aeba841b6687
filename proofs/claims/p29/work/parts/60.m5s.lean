-- X5.suppose
theorem lk_X5_suppose_33 : Cond.fieldLink RX5 33 "KeyedFeelings" "trial" "LKeyedFeelings$People;" ∈ wsX5_suppose := by decide +kernel
theorem in_X5_suppose_X5 : ∀ w ∈ wsX50, w ∈ wsX5_suppose := by decide +kernel
theorem n1_X5_suppose_X2 : Cond.initialized RX2 ∈ wsX5_suppose := by decide +kernel
theorem n2_X5_suppose_X2_has : Cond.instanceMethod yX2_has ∈ wsX5_suppose := by decide +kernel
theorem n3_X5_suppose_X2_has : Cond.selects RX2 yX2_has yX2_has ∈ wsX5_suppose := by decide +kernel
theorem in_X5_suppose_X2 : ∀ w ∈ wsX20, w ∈ wsX5_suppose := by decide +kernel
noncomputable def f_X5_suppose (κ : St5) (tr : St2) (x1 : Int32) (x2 : Int32) (x3 : Int32) : Option (St2) := (if x2 = 0 then (if inB x1 6 = true then some (s2_kinds tr (upd (p2_kinds tr) x1.toNatClampNeg x3)) else none) else (if x2 = 1 then (if inB x1 6 = true then some (s2_turns tr (upd (p2_turns tr) x1.toNatClampNeg x3)) else none) else ((f_X2_has tr (x2 - 2)).bind (fun r3 => (if r3 = 0 then some tr else (if inB (x2 - 2) 6 = true then some (s2_keys tr (upd (p2_keys tr) ((x2 - 2).toNatClampNeg) x3)) else none))))))
noncomputable def rmX5_suppose : Room := { frames := 1, cells := 0, slots := 0, locals := 21 }
set_option maxHeartbeats 4000000 in
set_option maxRecDepth 100000 in
theorem c_X5_suppose (l : Launch) (D : va_G) (cA : Nat → ClassId) (o : Nat → Nat → Nat) (κ : St5) (tr : St2) (x1 : Int32) (x2 : Int32) (x3 : Int32) (res : St2) (h : f_X5_suppose κ tr x1 x2 x3 = some res) : CT l D cA yX5_suppose wsX5_suppose rmX5_suppose [.ref (o 0 0), .int x1, .int x2, .int x3] [w5 cA o κ, w2 cA (o 5) tr] [w5 cA o κ, w2 cA (o 5) res] none := by
  refine CT.start (cc := cX5_suppose) (maxL := 4) (ret := none) (by decide) rfl (Nat.le_of_ble_eq_true rfl) ?_
  intro p e s m below meth c Z hP hD hS ls hl
  have Z : Cx p s m _ meth c cX5_suppose 4 none wsX5_suppose RX5 D cA := Z
  have hl : lv_has ls 4 [(0, .ref (o 0 0)), (1, .int x1), (2, .int x2), (3, .int x3)] := hl
  obtain ⟨hx, hb, hml, hown, hts, hr, hlk, hKK⟩ := id Z
  have hK := hKK.1
  rw [f_X5_suppose] at h
  refine lv_iload_n hx hb dX5_suppose_0 rfl (lv_at hl 2 rfl) ?_
  refine lv_if_ne (tgt := 17) hx hb dX5_suppose_1 (by decide) (fun hc1 => ?_) (fun hc1 => ?_)
  · rw [if_neg hc1] at h
    refine lv_iload_n hx hb dX5_suppose_17 rfl (lv_at hl 2 rfl) ?_
    refine lv_iconst (v := 1) hx hb dX5_suppose_18 (by decide) ?_
    refine lv_icmp_ne (tgt := 35) hx hb dX5_suppose_19 (by decide) (fun hc2 => ?_) (fun hc2 => ?_)
    · rw [if_neg hc2] at h
      refine lv_aload_n hx hb dX5_suppose_35 rfl (lv_at hl 0 rfl) ?_
      refine va_get (D := D) (ci := 5) (v := .ref (o 5 0)) (C := RX5) (T := TX5) (N := 9) hx hb hts in_X5_suppose_X5 hown hK hP 0 rfl rfl 5 (by decide) (hts _ lk_X5_suppose_33) (fun _ h9 => h9) rfl dX5_suppose_36 ?_
      refine lv_iload_n hx hb dX5_suppose_39 rfl (lv_at hl 2 rfl) ?_
      refine lv_iconst (v := 2) hx hb dX5_suppose_40 (by decide) ?_
      refine lv_isub hx hb dX5_suppose_41 ?_
      obtain ⟨r3, hr3, h⟩ := bind_inv h
      refine kVN (rest := []) (st1 := [.int r3]) (cr := [w5 cA o κ]) (cs' := [w5 cA o κ, w2 cA (o 5) tr]) Z (c_X2_has l D cA (o 5) tr (x2 - 2) r3 hr3) 1 gX5_suppose_X2_has_n68 rfl hdX2_has nk_X5_68 n1_X5_suppose_X2 n2_X5_suppose_X2_has n3_X5_suppose_X2_has ⟨rfl, rfl⟩ ⟨Nat.le_of_ble_eq_true rfl, Nat.le_of_ble_eq_true rfl⟩ ⟨Nat.zero_le _, Nat.zero_le _⟩ hP hD hS hl.1 rfl rfl rfl (Nat.le_of_ble_eq_true rfl) 2 rfl rfl rfl [1] [0] [0, 1] rfl rfl rfl rfl rfl dX5_suppose_42 (fun H locs hP hD hS => ?_)
      refine lv_if_eq (tgt := 60) hx hb dX5_suppose_45 (by decide) (fun hc4 => ?_) (fun hc4 => ?_)
      · rw [if_pos hc4] at h
        have h := Option.some.inj h
        subst h
        exact CT.vret Z hP hD hS dX5_suppose_60
      · rw [if_neg hc4] at h
        refine lv_aload_n hx hb dX5_suppose_48 rfl (lv_at hl 0 rfl) ?_
        refine va_get (D := D) (ci := 5) (v := .ref (o 5 0)) (C := RX5) (T := TX5) (N := 9) hx hb hts in_X5_suppose_X5 hown hK hP 0 rfl rfl 5 (by decide) (hts _ lk_X5_suppose_33) (fun _ h9 => h9) rfl dX5_suppose_49 ?_
        refine va_getN (D := D) (ci := 2) (v := .ref (o 5 4)) (C := RX2) (T := TX2) (N := 7) hx hb hts in_X5_suppose_X2 hown hK hP 1 rfl rfl 4 (by decide) (nest_use rfl (hKK.2 _ nk_X5_82)) (fun _ h9 => h9) rfl dX5_suppose_52 ?_
        refine lv_iload_n hx hb dX5_suppose_55 rfl (lv_at hl 2 rfl) ?_
        refine lv_iconst (v := 2) hx hb dX5_suppose_56 (by decide) ?_
        refine lv_isub hx hb dX5_suppose_57 ?_
        refine lv_iload_n hx hb dX5_suppose_58 rfl (lv_at hl 3 rfl) ?_
        obtain ⟨hg5, h⟩ := if_inv h
        refine va_iast hx hb hK hP hD hS 5 0 rfl rfl (inB_in hg5) dX5_suppose_59 (fun H locs hP hD hS => ?_)
        have hP : va_P D vwCl ([w5 cA o κ, w2 cA (o 5) (s2_keys tr (upd (p2_keys tr) ((x2 - 2).toNatClampNeg) x3))] : List va_W).flatten H := hP
        have hD : va_D _ ([w5 cA o κ, w2 cA (o 5) (s2_keys tr (upd (p2_keys tr) ((x2 - 2).toNatClampNeg) x3))] : List va_W).flatten := hD
        have h := Option.some.inj h
        subst h
        exact CT.vret Z hP hD hS dX5_suppose_60
    · rw [if_pos hc2] at h
      refine lv_aload_n hx hb dX5_suppose_22 rfl (lv_at hl 0 rfl) ?_
      refine va_get (D := D) (ci := 5) (v := .ref (o 5 0)) (C := RX5) (T := TX5) (N := 9) hx hb hts in_X5_suppose_X5 hown hK hP 0 rfl rfl 5 (by decide) (hts _ lk_X5_suppose_33) (fun _ h9 => h9) rfl dX5_suppose_23 ?_
      refine va_getN (D := D) (ci := 2) (v := .ref (o 5 2)) (C := RX2) (T := TX2) (N := 7) hx hb hts in_X5_suppose_X2 hown hK hP 1 rfl rfl 2 (by decide) (nest_use rfl (hKK.2 _ nk_X5_76)) (fun _ h9 => h9) rfl dX5_suppose_26 ?_
      refine lv_iload_n hx hb dX5_suppose_29 rfl (lv_at hl 1 rfl) ?_
      refine lv_iload_n hx hb dX5_suppose_30 rfl (lv_at hl 3 rfl) ?_
      obtain ⟨hg6, h⟩ := if_inv h
      refine va_iast hx hb hK hP hD hS 3 0 rfl rfl (inB_in hg6) dX5_suppose_31 (fun H locs hP hD hS => ?_)
      have hP : va_P D vwCl ([w5 cA o κ, w2 cA (o 5) (s2_turns tr (upd (p2_turns tr) x1.toNatClampNeg x3))] : List va_W).flatten H := hP
      have hD : va_D _ ([w5 cA o κ, w2 cA (o 5) (s2_turns tr (upd (p2_turns tr) x1.toNatClampNeg x3))] : List va_W).flatten := hD
      refine lv_goto (tgt := 60) hx hb dX5_suppose_32 (by decide) ?_
      have h := Option.some.inj h
      subst h
      exact CT.vret Z hP hD hS dX5_suppose_60
  · rw [if_pos hc1] at h
    refine lv_aload_n hx hb dX5_suppose_4 rfl (lv_at hl 0 rfl) ?_
    refine va_get (D := D) (ci := 5) (v := .ref (o 5 0)) (C := RX5) (T := TX5) (N := 9) hx hb hts in_X5_suppose_X5 hown hK hP 0 rfl rfl 5 (by decide) (hts _ lk_X5_suppose_33) (fun _ h9 => h9) rfl dX5_suppose_5 ?_
    refine va_getN (D := D) (ci := 2) (v := .ref (o 5 1)) (C := RX2) (T := TX2) (N := 7) hx hb hts in_X5_suppose_X2 hown hK hP 1 rfl rfl 1 (by decide) (nest_use rfl (hKK.2 _ nk_X5_72)) (fun _ h9 => h9) rfl dX5_suppose_8 ?_
    refine lv_iload_n hx hb dX5_suppose_11 rfl (lv_at hl 1 rfl) ?_
    refine lv_iload_n hx hb dX5_suppose_12 rfl (lv_at hl 3 rfl) ?_
    obtain ⟨hg7, h⟩ := if_inv h
    refine va_iast hx hb hK hP hD hS 2 0 rfl rfl (inB_in hg7) dX5_suppose_13 (fun H locs hP hD hS => ?_)
    have hP : va_P D vwCl ([w5 cA o κ, w2 cA (o 5) (s2_kinds tr (upd (p2_kinds tr) x1.toNatClampNeg x3))] : List va_W).flatten H := hP
    have hD : va_D _ ([w5 cA o κ, w2 cA (o 5) (s2_kinds tr (upd (p2_kinds tr) x1.toNatClampNeg x3))] : List va_W).flatten := hD
    refine lv_goto (tgt := 60) hx hb dX5_suppose_14 (by decide) ?_
    have h := Option.some.inj h
    subst h
    exact CT.vret Z hP hD hS dX5_suppose_60

-- X5.trialRunsAs
theorem lk_X5_trialRunsAs_33 : Cond.fieldLink RX5 33 "KeyedFeelings" "trial" "LKeyedFeelings$People;" ∈ wsX5_trialRunsAs := by decide +kernel
theorem in_X5_trialRunsAs_X5 : ∀ w ∈ wsX50, w ∈ wsX5_trialRunsAs := by decide +kernel
theorem n1_X5_trialRunsAs_X2 : Cond.initialized RX2 ∈ wsX5_trialRunsAs := by decide +kernel
theorem n2_X5_trialRunsAs_X2_passHour : Cond.instanceMethod yX2_passHour ∈ wsX5_trialRunsAs := by decide +kernel
theorem n3_X5_trialRunsAs_X2_passHour : Cond.selects RX2 yX2_passHour yX2_passHour ∈ wsX5_trialRunsAs := by decide +kernel
theorem in_X5_trialRunsAs_X3 : ∀ w ∈ wsX30, w ∈ wsX5_trialRunsAs := by decide +kernel
theorem in_X5_trialRunsAs_X2 : ∀ w ∈ wsX20, w ∈ wsX5_trialRunsAs := by decide +kernel
noncomputable def lp_X5_trialRunsAs_3 (κ : St5) (sh : St3) (x1 : Int32) (x3 : Int32) (x4 : Int32) : Nat → Int32 → St2 → Option (Int32 × St2)
  | 0, _, _ => none
  | n + 1, x5, tr => (if x4 ≤ x5 then some (1, tr) else ((f_X2_passHour tr).bind (fun r2 => (if inB (x3 + x5) 24 = true then (if inB x1 6 = true then (if (lg_cmp ((p3_items sh) (x3 + x5).toNatClampNeg) (((p2_turns r2) x1.toNatClampNeg).toInt64)) = 0 then lp_X5_trialRunsAs_3 κ sh x1 x3 x4 n (x5 + 1) r2 else some (0, r2)) else none) else none))))
noncomputable def f_X5_trialRunsAs (κ : St5) (tr : St2) (sh : St3) (x1 : Int32) (x3 : Int32) (x4 : Int32) : Option (Int32 × St2) := lp_X5_trialRunsAs_3 κ sh x1 x3 x4 FU 0 tr
noncomputable def rmX5_trialRunsAs : Room := { frames := 4, cells := 0, slots := 0, locals := 87 }
set_option maxHeartbeats 4000000 in
set_option maxRecDepth 100000 in
theorem t_X5_trialRunsAs_3 {p : Program} {l : Launch} {e : Env} {s : State} {m : MethodId} {args : Array Value} {below : List Frame} {meth : Method} {c : Code} {D : va_G} {cA : Nat → ClassId} {o : Nat → Nat → Nat} {g : Nat → Nat} (Z : Cx p s m args meth c cX5_trialRunsAs 6 (some .boolean) wsX5_trialRunsAs RX5 D cA) (κ : St5) (sh : St3) (x1 : Int32) (x3 : Int32) (x4 : Int32) {cs : List va_W} : ∀ (n : Nat) (x5 : Int32) (tr : St2) (q : Int32 × St2), lp_X5_trialRunsAs_3 κ sh x1 x3 x4 n x5 tr = some q → ∀ (H : Heap) (locs : List Loc) (ls : Array Slot), va_P D vwCl ([w5 cA o κ, w2 cA (o 5) tr, w3 cA g sh] : List va_W).flatten H → va_D (aIn cs.flatten) ([w5 cA o κ, w2 cA (o 5) tr, w3 cA g sh] : List va_W).flatten → va_S (aIn cs.flatten) s.heap H locs → lv_has ls 6 [(0, .ref (o 0 0)), (1, .int x1), (2, .ref (g 0)), (3, .int x3), (4, .int x4), (5, .int x5)] → W p l e rmX5_trialRunsAs s m args below meth c H locs 0 0 (MQ below (QR D cs [w5 cA o κ, w2 cA (o 5) q.2, w3 cA g sh] (some (.int q.1))) args s 0 0 (aIn cs.flatten)) (F0 m 3 ls []) := by
  obtain ⟨hx, hb, hml, hown, hts, hr, hlk, hKK⟩ := id Z
  have hK := hKK.1
  intro n
  induction n with
  | zero =>
    intro x5 tr q h
    rw [lp_X5_trialRunsAs_3] at h
    cases h
  | succ n ih =>
    intro x5 tr q h H locs ls hP hD hS hl 
    rw [lp_X5_trialRunsAs_3] at h
    refine lv_iload hx hb dX5_trialRunsAs_3 (lv_at hl 5 rfl) ?_
    refine lv_iload hx hb dX5_trialRunsAs_5 (lv_at hl 4 rfl) ?_
    refine lv_icmp_ge (tgt := 48) hx hb dX5_trialRunsAs_7 (by decide) (fun hc1 => ?_) (fun hc1 => ?_)
    · rw [if_pos hc1] at h
      refine lv_iconst (v := 1) hx hb dX5_trialRunsAs_48 (by decide) ?_
      have h := Option.some.inj h
      subst h
      exact CT.zret Z (nar_bool (Or.inr rfl)) hP hD hS dX5_trialRunsAs_49
    · rw [if_neg hc1] at h
      refine lv_aload_n hx hb dX5_trialRunsAs_10 rfl (lv_at hl 0 rfl) ?_
      refine va_get (D := D) (ci := 5) (v := .ref (o 5 0)) (C := RX5) (T := TX5) (N := 9) hx hb hts in_X5_trialRunsAs_X5 hown hK hP 0 rfl rfl 5 (by decide) (hts _ lk_X5_trialRunsAs_33) (fun _ h9 => h9) rfl dX5_trialRunsAs_11 ?_
      obtain ⟨r2, hr2, h⟩ := bind_inv h
      refine kVN (rest := []) (st1 := []) (cr := [w5 cA o κ, w3 cA g sh]) (cs' := [w5 cA o κ, w2 cA (o 5) r2, w3 cA g sh]) Z (c_X2_passHour l D cA (o 5) tr r2 hr2) 0 gX5_trialRunsAs_X2_passHour_n152 rfl hdX2_passHour nk_X5_152 n1_X5_trialRunsAs_X2 n2_X5_trialRunsAs_X2_passHour n3_X5_trialRunsAs_X2_passHour ⟨rfl, rfl⟩ ⟨Nat.le_of_ble_eq_true rfl, Nat.le_of_ble_eq_true rfl⟩ ⟨Nat.zero_le _, Nat.zero_le _⟩ hP hD hS hl.1 rfl rfl rfl (Nat.le_of_ble_eq_true rfl) 2 rfl rfl rfl [1] [0, 2] [0, 2, 1] rfl rfl rfl rfl rfl dX5_trialRunsAs_14 (fun H locs hP hD hS => ?_)
      refine lv_aload_n hx hb dX5_trialRunsAs_17 rfl (lv_at hl 2 rfl) ?_
      refine va_getN (D := D) (ci := 3) (v := .ref (g 1)) (C := RX3) (T := TX3) (N := 3) hx hb hts in_X5_trialRunsAs_X3 hown hK hP 6 rfl rfl 2 (by decide) (nest_use rfl (hKK.2 _ nk_X5_258)) (fun _ h9 => h9) rfl dX5_trialRunsAs_18 ?_
      refine lv_iload_n hx hb dX5_trialRunsAs_21 rfl (lv_at hl 3 rfl) ?_
      refine lv_iload hx hb dX5_trialRunsAs_22 (lv_at hl 5 rfl) ?_
      refine lv_iadd hx hb dX5_trialRunsAs_24 ?_
      obtain ⟨hg3, h⟩ := if_inv h
      refine va_lald hx hb hK hP 7 1 rfl rfl (inB_in hg3) dX5_trialRunsAs_25 ?_
      refine lv_aload_n hx hb dX5_trialRunsAs_26 rfl (lv_at hl 0 rfl) ?_
      refine va_get (D := D) (ci := 5) (v := .ref (o 5 0)) (C := RX5) (T := TX5) (N := 9) hx hb hts in_X5_trialRunsAs_X5 hown hK hP 0 rfl rfl 5 (by decide) (hts _ lk_X5_trialRunsAs_33) (fun _ h9 => h9) rfl dX5_trialRunsAs_27 ?_
      refine va_getN (D := D) (ci := 2) (v := .ref (o 5 2)) (C := RX2) (T := TX2) (N := 7) hx hb hts in_X5_trialRunsAs_X2 hown hK hP 1 rfl rfl 2 (by decide) (nest_use rfl (hKK.2 _ nk_X5_76)) (fun _ h9 => h9) rfl dX5_trialRunsAs_30 ?_
      refine lv_iload_n hx hb dX5_trialRunsAs_33 rfl (lv_at hl 1 rfl) ?_
      obtain ⟨hg4, h⟩ := if_inv h
      refine va_iald hx hb hK hP 3 0 rfl rfl (inB_in hg4) dX5_trialRunsAs_34 ?_
      refine lv_i2l (v := ((p2_turns r2) x1.toNatClampNeg).toInt64) hx hb dX5_trialRunsAs_35 rfl ?_
      refine W.lcmp hx hb dX5_trialRunsAs_36 ?_
      refine lv_if_eq (tgt := 42) hx hb dX5_trialRunsAs_37 (by decide) (fun hc5 => ?_) (fun hc5 => ?_)
      · rw [if_pos hc5] at h
        refine lv_iinc (v := x5 + 1) (lv' := [(5, .int (x5 + 1)), (0, .ref (o 0 0)), (1, .int x1), (2, .ref (g 0)), (3, .int x3), (4, .int x4)]) hx hb dX5_trialRunsAs_42 hl (k := 5) rfl rfl (by decide) rfl (fun ls hl => ?_)
        refine lv_goto (tgt := 3) hx hb dX5_trialRunsAs_45 (by decide) ?_
        exact ih _ _ _ h _ _ _ hP hD hS (lv_sub hl [1, 2, 3, 4, 5, 0] rfl)
      · rw [if_neg hc5] at h
        refine lv_iconst (v := 0) hx hb dX5_trialRunsAs_40 (by decide) ?_
        have h := Option.some.inj h
        subst h
        exact CT.zret Z (nar_bool (Or.inl rfl)) hP hD hS dX5_trialRunsAs_41
set_option maxHeartbeats 4000000 in
set_option maxRecDepth 100000 in
theorem c_X5_trialRunsAs (l : Launch) (D : va_G) (cA : Nat → ClassId) (o : Nat → Nat → Nat) (g : Nat → Nat) (κ : St5) (tr : St2) (sh : St3) (x1 : Int32) (x3 : Int32) (x4 : Int32) (res : Int32 × St2) (h : f_X5_trialRunsAs κ tr sh x1 x3 x4 = some res) : CT l D cA yX5_trialRunsAs wsX5_trialRunsAs rmX5_trialRunsAs [.ref (o 0 0), .int x1, .ref (g 0), .int x3, .int x4] [w5 cA o κ, w2 cA (o 5) tr, w3 cA g sh] [w5 cA o κ, w2 cA (o 5) res.2, w3 cA g sh] (some (.int res.1)) := by
  refine CT.start (cc := cX5_trialRunsAs) (maxL := 6) (ret := (some .boolean)) (by decide) rfl (Nat.le_of_ble_eq_true rfl) ?_
  intro p e s m below meth c Z hP hD hS ls hl
  have Z : Cx p s m _ meth c cX5_trialRunsAs 6 (some .boolean) wsX5_trialRunsAs RX5 D cA := Z
  have hl : lv_has ls 6 [(0, .ref (o 0 0)), (1, .int x1), (2, .ref (g 0)), (3, .int x3), (4, .int x4)] := hl
  obtain ⟨hx, hb, hml, hown, hts, hr, hlk, hKK⟩ := id Z
  have hK := hKK.1
  rw [f_X5_trialRunsAs] at h
  refine lv_iconst (v := 0) hx hb dX5_trialRunsAs_0 (by decide) ?_
  refine lv_istore (lv' := [(5, .int 0), (0, .ref (o 0 0)), (1, .int x1), (2, .ref (g 0)), (3, .int x3), (4, .int x4)]) hx hb dX5_trialRunsAs_1 hl (by decide) rfl (fun ls hl => ?_)
  exact t_X5_trialRunsAs_3 Z κ sh x1 x3 x4 FU _ _ _ h _ _ _ hP hD hS (lv_sub hl [1, 2, 3, 4, 5, 0] rfl)

-- X5.guessesHeard
theorem lk_X5_guessesHeard_33 : Cond.fieldLink RX5 33 "KeyedFeelings" "trial" "LKeyedFeelings$People;" ∈ wsX5_guessesHeard := by decide +kernel
theorem in_X5_guessesHeard_X5 : ∀ w ∈ wsX50, w ∈ wsX5_guessesHeard := by decide +kernel
theorem lk_X5_guessesHeard_10 : Cond.fieldLink RX5 10 "KeyedFeelings" "now" "LKeyedFeelings$People;" ∈ wsX5_guessesHeard := by decide +kernel
theorem n1_X5_guessesHeard_X2 : Cond.initialized RX2 ∈ wsX5_guessesHeard := by decide +kernel
theorem n2_X5_guessesHeard_X2_become : Cond.instanceMethod yX2_become ∈ wsX5_guessesHeard := by decide +kernel
theorem n3_X5_guessesHeard_X2_become : Cond.selects RX2 yX2_become yX2_become ∈ wsX5_guessesHeard := by decide +kernel
noncomputable def lp_X5_guessesHeard_41 (κ : St5) (nw : St2) (sh : St3) (x1 : Int32) (x2 : Int32) (x4 : Int32) (x5 : Int32) (x7 : Int32) : Nat → Int32 → Int32 → St2 → Option (Int32 × Int32 × St2)
  | 0, _, _, _ => none
  | n + 1, x8, x9, tr => (if x7 < x9 then some (x8, x9, tr) else ((f_X5_suppose κ nw x1 x2 x9).bind (fun r6 => ((f_X5_trialRunsAs κ r6 sh x1 x4 x5).bind (fun r7 => (if r7.1 = 0 then lp_X5_guessesHeard_41 κ nw sh x1 x2 x4 x5 x7 n x8 (x9 + 1) r7.2 else lp_X5_guessesHeard_41 κ nw sh x1 x2 x4 x5 x7 n (x8 ||| (1 <<< (x9 &&& 31))) (x9 + 1) r7.2))))))
noncomputable def f_X5_guessesHeard (κ : St5) (nw : St2) (tr : St2) (sh : St3) (x1 : Int32) (x2 : Int32) (x4 : Int32) (x5 : Int32) : Option (Int32 × St2) := (if x2 < 2 then (if x2 = 0 then ((lp_X5_guessesHeard_41 κ nw sh x1 x2 x4 x5 4 FU 0 0 tr).bind (fun q11 => some (q11.1, q11.2.2))) else (if x2 = 1 then ((lp_X5_guessesHeard_41 κ nw sh x1 x2 x4 x5 30 FU 0 0 tr).bind (fun q10 => some (q10.1, q10.2.2))) else ((lp_X5_guessesHeard_41 κ nw sh x1 x2 x4 x5 12 FU 0 0 tr).bind (fun q9 => some (q9.1, q9.2.2))))) else (if x2 = 0 then ((lp_X5_guessesHeard_41 κ nw sh x1 x2 x4 x5 4 FU 0 1 tr).bind (fun q16 => some (q16.1, q16.2.2))) else (if x2 = 1 then ((lp_X5_guessesHeard_41 κ nw sh x1 x2 x4 x5 30 FU 0 1 tr).bind (fun q15 => some (q15.1, q15.2.2))) else ((lp_X5_guessesHeard_41 κ nw sh x1 x2 x4 x5 12 FU 0 1 tr).bind (fun q14 => some (q14.1, q14.2.2))))))
noncomputable def rmX5_guessesHeard : Room := { frames := 5, cells := 0, slots := 0, locals := 112 }
set_option maxHeartbeats 4000000 in
set_option maxRecDepth 100000 in
theorem t_X5_guessesHeard_41 {p : Program} {l : Launch} {e : Env} {s : State} {m : MethodId} {args : Array Value} {below : List Frame} {meth : Method} {c : Code} {D : va_G} {cA : Nat → ClassId} {A0 : Nat → Prop} {H0 : Heap} {o : Nat → Nat → Nat} {g : Nat → Nat} (Z : Cx p s m args meth c cX5_guessesHeard 10 (some .int) wsX5_guessesHeard RX5 D cA) (κ : St5) (nw : St2) (sh : St3) (x1 : Int32) (x2 : Int32) (x4 : Int32) (x5 : Int32) (x7 : Int32) {Q : State → Prop} : ∀ (n : Nat) (x8 : Int32) (x9 : Int32) (tr : St2) (q : Int32 × Int32 × St2), lp_X5_guessesHeard_41 κ nw sh x1 x2 x4 x5 x7 n x8 x9 tr = some q → ∀ (H : Heap) (locs : List Loc) (ls : Array Slot), va_P D vwCl ([w5 cA o κ, w2 cA (o 1) nw, w2 cA (o 5) tr, w3 cA g sh] : List va_W).flatten H → va_D A0 ([w5 cA o κ, w2 cA (o 1) nw, w2 cA (o 5) tr, w3 cA g sh] : List va_W).flatten → va_S A0 H0 H locs → lv_has ls 10 [(0, .ref (o 0 0)), (1, .int x1), (2, .int x2), (3, .ref (g 0)), (4, .int x4), (5, .int x5), (7, .int x7), (8, .int x8), (9, .int x9)] → (∀ (H : Heap) (locs : List Loc) (ls : Array Slot), va_P D vwCl ([w5 cA o κ, w2 cA (o 1) nw, w2 cA (o 5) q.2.2, w3 cA g sh] : List va_W).flatten H → va_D A0 ([w5 cA o κ, w2 cA (o 1) nw, w2 cA (o 5) q.2.2, w3 cA g sh] : List va_W).flatten → va_S A0 H0 H locs → lv_has ls 10 [(0, .ref (o 0 0)), (1, .int x1), (2, .int x2), (3, .ref (g 0)), (4, .int x4), (5, .int x5), (7, .int x7), (8, .int q.1), (9, .int q.2.1)] → W p l e rmX5_guessesHeard s m args below meth c H locs 0 0 Q (F0 m 95 ls [])) → W p l e rmX5_guessesHeard s m args below meth c H locs 0 0 Q (F0 m 41 ls []) := by
  obtain ⟨hx, hb, hml, hown, hts, hr, hlk, hKK⟩ := id Z
  have hK := hKK.1
  intro n
  induction n with
  | zero =>
    intro x8 x9 tr q h
    rw [lp_X5_guessesHeard_41] at h
    cases h
  | succ n ih =>
    intro x8 x9 tr q h H locs ls hP hD hS hl kk
    rw [lp_X5_guessesHeard_41] at h
    refine lv_iload hx hb dX5_guessesHeard_41 (lv_at hl 8 rfl) ?_
    refine lv_iload hx hb dX5_guessesHeard_43 (lv_at hl 6 rfl) ?_
    refine lv_icmp_gt (tgt := 95) hx hb dX5_guessesHeard_45 (by decide) (fun hc4 => ?_) (fun hc4 => ?_)
    · rw [if_pos hc4] at h
      have h := Option.some.inj h
      subst h
      exact kk _ _ _ hP hD hS (lv_sub hl [0, 1, 2, 3, 4, 5, 6, 7, 8] rfl)
    · rw [if_neg hc4] at h
      refine lv_aload_n hx hb dX5_guessesHeard_48 rfl (lv_at hl 0 rfl) ?_
      refine va_get (D := D) (ci := 5) (v := .ref (o 5 0)) (C := RX5) (T := TX5) (N := 9) hx hb hts in_X5_guessesHeard_X5 hown hK hP 0 rfl rfl 5 (by decide) (hts _ lk_X5_guessesHeard_33) (fun _ h9 => h9) rfl dX5_guessesHeard_49 ?_
      refine lv_aload_n hx hb dX5_guessesHeard_52 rfl (lv_at hl 0 rfl) ?_
      refine va_get (D := D) (ci := 5) (v := .ref (o 1 0)) (C := RX5) (T := TX5) (N := 9) hx hb hts in_X5_guessesHeard_X5 hown hK hP 0 rfl rfl 0 (by decide) (hts _ lk_X5_guessesHeard_10) (fun _ h9 => h9) rfl dX5_guessesHeard_53 ?_
      refine kVN (rest := []) (st1 := []) (cr := [w5 cA o κ, w3 cA g sh]) (cs' := [w5 cA o κ, w2 cA (o 1) nw, w2 cA (o 5) nw, w3 cA g sh]) Z (c_become l D cA (o 5) (o 1) tr nw ) 1 gX5_guessesHeard_X2_become_n115 rfl hdX2_become nk_X5_115 n1_X5_guessesHeard_X2 n2_X5_guessesHeard_X2_become n3_X5_guessesHeard_X2_become ⟨rfl, rfl⟩ ⟨Nat.le_of_ble_eq_true rfl, Nat.le_of_ble_eq_true rfl⟩ ⟨Nat.zero_le _, Nat.zero_le _⟩ hP hD hS hl.1 rfl rfl rfl (Nat.le_of_ble_eq_true rfl) 2 rfl rfl rfl [2, 1] [0, 3] [0, 3, 2, 1] rfl rfl rfl rfl rfl dX5_guessesHeard_56 (fun H locs hP hD hS => ?_)
      refine lv_aload_n hx hb dX5_guessesHeard_59 rfl (lv_at hl 0 rfl) ?_
      refine lv_iload_n hx hb dX5_guessesHeard_60 rfl (lv_at hl 1 rfl) ?_
      refine lv_iload_n hx hb dX5_guessesHeard_61 rfl (lv_at hl 2 rfl) ?_
      refine lv_iload hx hb dX5_guessesHeard_62 (lv_at hl 8 rfl) ?_
      obtain ⟨r6, hr6, h⟩ := bind_inv h
      refine kV (rest := []) (st1 := []) (cr := [w2 cA (o 1) nw, w3 cA g sh]) (cs' := [w5 cA o κ, w2 cA (o 1) nw, w2 cA (o 5) r6, w3 cA g sh]) Z (c_X5_suppose l D cA o κ nw x1 x2 x9 r6 hr6) 3 gX5_guessesHeard_X5_suppose rfl hdX5_suppose ⟨rfl, rfl⟩ ⟨Nat.le_of_ble_eq_true rfl, Nat.le_of_ble_eq_true rfl⟩ ⟨Nat.zero_le _, Nat.zero_le _⟩ hP hD hS hl.1 rfl rfl rfl (Nat.le_of_ble_eq_true rfl) 5 rfl rfl rfl [0, 2] [1, 3] [2, 0, 3, 1] rfl rfl rfl rfl rfl dX5_guessesHeard_64 (fun H locs hP hD hS => ?_)
      refine lv_aload_n hx hb dX5_guessesHeard_67 rfl (lv_at hl 0 rfl) ?_
      refine lv_iload_n hx hb dX5_guessesHeard_68 rfl (lv_at hl 1 rfl) ?_
      refine lv_aload_n hx hb dX5_guessesHeard_69 rfl (lv_at hl 3 rfl) ?_
      refine lv_iload hx hb dX5_guessesHeard_70 (lv_at hl 4 rfl) ?_
      refine lv_iload hx hb dX5_guessesHeard_72 (lv_at hl 5 rfl) ?_
      obtain ⟨r7, hr7, h⟩ := bind_inv h
      refine kV (rest := []) (st1 := [.int r7.1]) (cr := [w2 cA (o 1) nw]) (cs' := [w5 cA o κ, w2 cA (o 1) nw, w2 cA (o 5) r7.2, w3 cA g sh]) Z (c_X5_trialRunsAs l D cA o g κ r6 sh x1 x4 x5 r7 hr7) 4 gX5_guessesHeard_X5_trialRunsAs rfl hdX5_trialRunsAs ⟨rfl, rfl⟩ ⟨Nat.le_of_ble_eq_true rfl, Nat.le_of_ble_eq_true rfl⟩ ⟨Nat.zero_le _, Nat.zero_le _⟩ hP hD hS hl.1 rfl rfl rfl (Nat.le_of_ble_eq_true rfl) 5 rfl rfl rfl [0, 2, 3] [1] [1, 0, 2, 3] rfl rfl rfl rfl rfl dX5_guessesHeard_74 (fun H locs hP hD hS => ?_)
      refine lv_if_eq (tgt := 89) hx hb dX5_guessesHeard_77 (by decide) (fun hc8 => ?_) (fun hc8 => ?_)
      · rw [if_pos hc8] at h
        refine lv_iinc (v := x9 + 1) (lv' := [(9, .int (x9 + 1)), (0, .ref (o 0 0)), (1, .int x1), (2, .int x2), (3, .ref (g 0)), (4, .int x4), (5, .int x5), (7, .int x7), (8, .int x8)]) hx hb dX5_guessesHeard_89 hl (k := 8) rfl rfl (by decide) rfl (fun ls hl => ?_)
        refine lv_goto (tgt := 41) hx hb dX5_guessesHeard_92 (by decide) ?_
        exact ih _ _ _ _ h _ _ _ hP hD hS (lv_sub hl [1, 2, 3, 4, 5, 6, 7, 8, 0] rfl) kk
      · rw [if_neg hc8] at h
        refine lv_iload hx hb dX5_guessesHeard_80 (lv_at hl 7 rfl) ?_
        refine lv_iconst (v := 1) hx hb dX5_guessesHeard_82 (by decide) ?_
        refine lv_iload hx hb dX5_guessesHeard_83 (lv_at hl 8 rfl) ?_
        refine lv_ishl hx hb dX5_guessesHeard_85 ?_
        refine lv_ior hx hb dX5_guessesHeard_86 ?_
        refine lv_istore (lv' := [(8, .int (x8 ||| (1 <<< (x9 &&& 31)))), (0, .ref (o 0 0)), (1, .int x1), (2, .int x2), (3, .ref (g 0)), (4, .int x4), (5, .int x5), (7, .int x7), (9, .int x9)]) hx hb dX5_guessesHeard_87 hl (by decide) rfl (fun ls hl => ?_)
        refine lv_iinc (v := x9 + 1) (lv' := [(9, .int (x9 + 1)), (8, .int (x8 ||| (1 <<< (x9 &&& 31)))), (0, .ref (o 0 0)), (1, .int x1), (2, .int x2), (3, .ref (g 0)), (4, .int x4), (5, .int x5), (7, .int x7)]) hx hb dX5_guessesHeard_89 hl (k := 8) rfl rfl (by decide) rfl (fun ls hl => ?_)
        refine lv_goto (tgt := 41) hx hb dX5_guessesHeard_92 (by decide) ?_
        exact ih _ _ _ _ h _ _ _ hP hD hS (lv_sub hl [2, 3, 4, 5, 6, 7, 8, 1, 0] rfl) kk
set_option maxHeartbeats 4000000 in
set_option maxRecDepth 100000 in
theorem c_X5_guessesHeard (l : Launch) (D : va_G) (cA : Nat → ClassId) (o : Nat → Nat → Nat) (g : Nat → Nat) (κ : St5) (nw : St2) (tr : St2) (sh : St3) (x1 : Int32) (x2 : Int32) (x4 : Int32) (x5 : Int32) (res : Int32 × St2) (h : f_X5_guessesHeard κ nw tr sh x1 x2 x4 x5 = some res) : CT l D cA yX5_guessesHeard wsX5_guessesHeard rmX5_guessesHeard [.ref (o 0 0), .int x1, .int x2, .ref (g 0), .int x4, .int x5] [w5 cA o κ, w2 cA (o 1) nw, w2 cA (o 5) tr, w3 cA g sh] [w5 cA o κ, w2 cA (o 1) nw, w2 cA (o 5) res.2, w3 cA g sh] (some (.int res.1)) := by
  refine CT.start (cc := cX5_guessesHeard) (maxL := 10) (ret := (some .int)) (by decide) rfl (Nat.le_of_ble_eq_true rfl) ?_
  intro p e s m below meth c Z hP hD hS ls hl
  have Z : Cx p s m _ meth c cX5_guessesHeard 10 (some .int) wsX5_guessesHeard RX5 D cA := Z
  have hl : lv_has ls 10 [(0, .ref (o 0 0)), (1, .int x1), (2, .int x2), (3, .ref (g 0)), (4, .int x4), (5, .int x5)] := hl
  obtain ⟨hx, hb, hml, hown, hts, hr, hlk, hKK⟩ := id Z
  have hK := hKK.1
  rw [f_X5_guessesHeard] at h
  refine lv_iload_n hx hb dX5_guessesHeard_0 rfl (lv_at hl 2 rfl) ?_
  refine lv_iconst (v := 2) hx hb dX5_guessesHeard_1 (by decide) ?_
  refine lv_icmp_lt (tgt := 9) hx hb dX5_guessesHeard_2 (by decide) (fun hc1 => ?_) (fun hc1 => ?_)
  · rw [if_pos hc1] at h
    refine lv_iconst (v := 0) hx hb dX5_guessesHeard_9 (by decide) ?_
    refine lv_istore (lv' := [(6, .int 0), (0, .ref (o 0 0)), (1, .int x1), (2, .int x2), (3, .ref (g 0)), (4, .int x4), (5, .int x5)]) hx hb dX5_guessesHeard_10 hl (by decide) rfl (fun ls hl => ?_)
    refine lv_iload_n hx hb dX5_guessesHeard_12 rfl (lv_at hl 3 rfl) ?_
    refine lv_if_ne (tgt := 20) hx hb dX5_guessesHeard_13 (by decide) (fun hc2 => ?_) (fun hc2 => ?_)
    · rw [if_neg hc2] at h
      refine lv_iload_n hx hb dX5_guessesHeard_20 rfl (lv_at hl 3 rfl) ?_
      refine lv_iconst (v := 1) hx hb dX5_guessesHeard_21 (by decide) ?_
      refine lv_icmp_ne (tgt := 30) hx hb dX5_guessesHeard_22 (by decide) (fun hc3 => ?_) (fun hc3 => ?_)
      · rw [if_neg hc3] at h
        refine lv_bipush (v := 12) hx hb dX5_guessesHeard_30 (by decide) ?_
        refine lv_istore (lv' := [(7, .int 12), (6, .int 0), (0, .ref (o 0 0)), (1, .int x1), (2, .int x2), (3, .ref (g 0)), (4, .int x4), (5, .int x5)]) hx hb dX5_guessesHeard_32 hl (by decide) rfl (fun ls hl => ?_)
        refine lv_iconst (v := 0) hx hb dX5_guessesHeard_34 (by decide) ?_
        refine lv_istore (lv' := [(8, .int 0), (7, .int 12), (6, .int 0), (0, .ref (o 0 0)), (1, .int x1), (2, .int x2), (3, .ref (g 0)), (4, .int x4), (5, .int x5)]) hx hb dX5_guessesHeard_35 hl (by decide) rfl (fun ls hl => ?_)
        refine lv_iload hx hb dX5_guessesHeard_37 (lv_at hl 2 rfl) ?_
        refine lv_istore (lv' := [(9, .int 0), (8, .int 0), (7, .int 12), (6, .int 0), (0, .ref (o 0 0)), (1, .int x1), (2, .int x2), (3, .ref (g 0)), (4, .int x4), (5, .int x5)]) hx hb dX5_guessesHeard_39 hl (by decide) rfl (fun ls hl => ?_)
        obtain ⟨q9, hq9, h⟩ := bind_inv h
        refine t_X5_guessesHeard_41 Z κ nw sh x1 x2 x4 x5 12 FU _ _ _ _ hq9 _ _ _ hP hD hS (lv_sub hl [4, 5, 6, 7, 8, 9, 2, 1, 0] rfl) (fun H locs ls hP hD hS hl => ?_)
        refine lv_iload hx hb dX5_guessesHeard_95 (lv_at hl 7 rfl) ?_
        have h := Option.some.inj h
        subst h
        exact CT.iret Z hP hD hS dX5_guessesHeard_97
      · rw [if_pos hc3] at h
        refine lv_bipush (v := 30) hx hb dX5_guessesHeard_25 (by decide) ?_
        refine lv_goto (tgt := 32) hx hb dX5_guessesHeard_27 (by decide) ?_
        refine lv_istore (lv' := [(7, .int 30), (6, .int 0), (0, .ref (o 0 0)), (1, .int x1), (2, .int x2), (3, .ref (g 0)), (4, .int x4), (5, .int x5)]) hx hb dX5_guessesHeard_32 hl (by decide) rfl (fun ls hl => ?_)
        refine lv_iconst (v := 0) hx hb dX5_guessesHeard_34 (by decide) ?_
        refine lv_istore (lv' := [(8, .int 0), (7, .int 30), (6, .int 0), (0, .ref (o 0 0)), (1, .int x1), (2, .int x2), (3, .ref (g 0)), (4, .int x4), (5, .int x5)]) hx hb dX5_guessesHeard_35 hl (by decide) rfl (fun ls hl => ?_)
        refine lv_iload hx hb dX5_guessesHeard_37 (lv_at hl 2 rfl) ?_
        refine lv_istore (lv' := [(9, .int 0), (8, .int 0), (7, .int 30), (6, .int 0), (0, .ref (o 0 0)), (1, .int x1), (2, .int x2), (3, .ref (g 0)), (4, .int x4), (5, .int x5)]) hx hb dX5_guessesHeard_39 hl (by decide) rfl (fun ls hl => ?_)
        obtain ⟨q10, hq10, h⟩ := bind_inv h
        refine t_X5_guessesHeard_41 Z κ nw sh x1 x2 x4 x5 30 FU _ _ _ _ hq10 _ _ _ hP hD hS (lv_sub hl [4, 5, 6, 7, 8, 9, 2, 1, 0] rfl) (fun H locs ls hP hD hS hl => ?_)
        refine lv_iload hx hb dX5_guessesHeard_95 (lv_at hl 7 rfl) ?_
        have h := Option.some.inj h
        subst h
        exact CT.iret Z hP hD hS dX5_guessesHeard_97
    · rw [if_pos hc2] at h
      refine lv_iconst (v := 4) hx hb dX5_guessesHeard_16 (by decide) ?_
      refine lv_goto (tgt := 32) hx hb dX5_guessesHeard_17 (by decide) ?_
      refine lv_istore (lv' := [(7, .int 4), (6, .int 0), (0, .ref (o 0 0)), (1, .int x1), (2, .int x2), (3, .ref (g 0)), (4, .int x4), (5, .int x5)]) hx hb dX5_guessesHeard_32 hl (by decide) rfl (fun ls hl => ?_)
      refine lv_iconst (v := 0) hx hb dX5_guessesHeard_34 (by decide) ?_
      refine lv_istore (lv' := [(8, .int 0), (7, .int 4), (6, .int 0), (0, .ref (o 0 0)), (1, .int x1), (2, .int x2), (3, .ref (g 0)), (4, .int x4), (5, .int x5)]) hx hb dX5_guessesHeard_35 hl (by decide) rfl (fun ls hl => ?_)
      refine lv_iload hx hb dX5_guessesHeard_37 (lv_at hl 2 rfl) ?_
      refine lv_istore (lv' := [(9, .int 0), (8, .int 0), (7, .int 4), (6, .int 0), (0, .ref (o 0 0)), (1, .int x1), (2, .int x2), (3, .ref (g 0)), (4, .int x4), (5, .int x5)]) hx hb dX5_guessesHeard_39 hl (by decide) rfl (fun ls hl => ?_)
      obtain ⟨q11, hq11, h⟩ := bind_inv h
      refine t_X5_guessesHeard_41 Z κ nw sh x1 x2 x4 x5 4 FU _ _ _ _ hq11 _ _ _ hP hD hS (lv_sub hl [4, 5, 6, 7, 8, 9, 2, 1, 0] rfl) (fun H locs ls hP hD hS hl => ?_)
      refine lv_iload hx hb dX5_guessesHeard_95 (lv_at hl 7 rfl) ?_
      have h := Option.some.inj h
      subst h
      exact CT.iret Z hP hD hS dX5_guessesHeard_97
  · rw [if_neg hc1] at h
    refine lv_iconst (v := 1) hx hb dX5_guessesHeard_5 (by decide) ?_
    refine lv_goto (tgt := 10) hx hb dX5_guessesHeard_6 (by decide) ?_
    refine lv_istore (lv' := [(6, .int 1), (0, .ref (o 0 0)), (1, .int x1), (2, .int x2), (3, .ref (g 0)), (4, .int x4), (5, .int x5)]) hx hb dX5_guessesHeard_10 hl (by decide) rfl (fun ls hl => ?_)
    refine lv_iload_n hx hb dX5_guessesHeard_12 rfl (lv_at hl 3 rfl) ?_
    refine lv_if_ne (tgt := 20) hx hb dX5_guessesHeard_13 (by decide) (fun hc12 => ?_) (fun hc12 => ?_)
    · rw [if_neg hc12] at h
      refine lv_iload_n hx hb dX5_guessesHeard_20 rfl (lv_at hl 3 rfl) ?_
      refine lv_iconst (v := 1) hx hb dX5_guessesHeard_21 (by decide) ?_
      refine lv_icmp_ne (tgt := 30) hx hb dX5_guessesHeard_22 (by decide) (fun hc13 => ?_) (fun hc13 => ?_)
      · rw [if_neg hc13] at h
        refine lv_bipush (v := 12) hx hb dX5_guessesHeard_30 (by decide) ?_
        refine lv_istore (lv' := [(7, .int 12), (6, .int 1), (0, .ref (o 0 0)), (1, .int x1), (2, .int x2), (3, .ref (g 0)), (4, .int x4), (5, .int x5)]) hx hb dX5_guessesHeard_32 hl (by decide) rfl (fun ls hl => ?_)
        refine lv_iconst (v := 0) hx hb dX5_guessesHeard_34 (by decide) ?_
        refine lv_istore (lv' := [(8, .int 0), (7, .int 12), (6, .int 1), (0, .ref (o 0 0)), (1, .int x1), (2, .int x2), (3, .ref (g 0)), (4, .int x4), (5, .int x5)]) hx hb dX5_guessesHeard_35 hl (by decide) rfl (fun ls hl => ?_)
        refine lv_iload hx hb dX5_guessesHeard_37 (lv_at hl 2 rfl) ?_
        refine lv_istore (lv' := [(9, .int 1), (8, .int 0), (7, .int 12), (6, .int 1), (0, .ref (o 0 0)), (1, .int x1), (2, .int x2), (3, .ref (g 0)), (4, .int x4), (5, .int x5)]) hx hb dX5_guessesHeard_39 hl (by decide) rfl (fun ls hl => ?_)
        obtain ⟨q14, hq14, h⟩ := bind_inv h
        refine t_X5_guessesHeard_41 Z κ nw sh x1 x2 x4 x5 12 FU _ _ _ _ hq14 _ _ _ hP hD hS (lv_sub hl [4, 5, 6, 7, 8, 9, 2, 1, 0] rfl) (fun H locs ls hP hD hS hl => ?_)
        refine lv_iload hx hb dX5_guessesHeard_95 (lv_at hl 7 rfl) ?_
        have h := Option.some.inj h
        subst h
        exact CT.iret Z hP hD hS dX5_guessesHeard_97
      · rw [if_pos hc13] at h
        refine lv_bipush (v := 30) hx hb dX5_guessesHeard_25 (by decide) ?_
        refine lv_goto (tgt := 32) hx hb dX5_guessesHeard_27 (by decide) ?_
        refine lv_istore (lv' := [(7, .int 30), (6, .int 1), (0, .ref (o 0 0)), (1, .int x1), (2, .int x2), (3, .ref (g 0)), (4, .int x4), (5, .int x5)]) hx hb dX5_guessesHeard_32 hl (by decide) rfl (fun ls hl => ?_)
        refine lv_iconst (v := 0) hx hb dX5_guessesHeard_34 (by decide) ?_
        refine lv_istore (lv' := [(8, .int 0), (7, .int 30), (6, .int 1), (0, .ref (o 0 0)), (1, .int x1), (2, .int x2), (3, .ref (g 0)), (4, .int x4), (5, .int x5)]) hx hb dX5_guessesHeard_35 hl (by decide) rfl (fun ls hl => ?_)
        refine lv_iload hx hb dX5_guessesHeard_37 (lv_at hl 2 rfl) ?_
        refine lv_istore (lv' := [(9, .int 1), (8, .int 0), (7, .int 30), (6, .int 1), (0, .ref (o 0 0)), (1, .int x1), (2, .int x2), (3, .ref (g 0)), (4, .int x4), (5, .int x5)]) hx hb dX5_guessesHeard_39 hl (by decide) rfl (fun ls hl => ?_)
        obtain ⟨q15, hq15, h⟩ := bind_inv h
        refine t_X5_guessesHeard_41 Z κ nw sh x1 x2 x4 x5 30 FU _ _ _ _ hq15 _ _ _ hP hD hS (lv_sub hl [4, 5, 6, 7, 8, 9, 2, 1, 0] rfl) (fun H locs ls hP hD hS hl => ?_)
        refine lv_iload hx hb dX5_guessesHeard_95 (lv_at hl 7 rfl) ?_
        have h := Option.some.inj h
        subst h
        exact CT.iret Z hP hD hS dX5_guessesHeard_97
    · rw [if_pos hc12] at h
      refine lv_iconst (v := 4) hx hb dX5_guessesHeard_16 (by decide) ?_
      refine lv_goto (tgt := 32) hx hb dX5_guessesHeard_17 (by decide) ?_
      refine lv_istore (lv' := [(7, .int 4), (6, .int 1), (0, .ref (o 0 0)), (1, .int x1), (2, .int x2), (3, .ref (g 0)), (4, .int x4), (5, .int x5)]) hx hb dX5_guessesHeard_32 hl (by decide) rfl (fun ls hl => ?_)
      refine lv_iconst (v := 0) hx hb dX5_guessesHeard_34 (by decide) ?_
      refine lv_istore (lv' := [(8, .int 0), (7, .int 4), (6, .int 1), (0, .ref (o 0 0)), (1, .int x1), (2, .int x2), (3, .ref (g 0)), (4, .int x4), (5, .int x5)]) hx hb dX5_guessesHeard_35 hl (by decide) rfl (fun ls hl => ?_)
      refine lv_iload hx hb dX5_guessesHeard_37 (lv_at hl 2 rfl) ?_
      refine lv_istore (lv' := [(9, .int 1), (8, .int 0), (7, .int 4), (6, .int 1), (0, .ref (o 0 0)), (1, .int x1), (2, .int x2), (3, .ref (g 0)), (4, .int x4), (5, .int x5)]) hx hb dX5_guessesHeard_39 hl (by decide) rfl (fun ls hl => ?_)
      obtain ⟨q16, hq16, h⟩ := bind_inv h
      refine t_X5_guessesHeard_41 Z κ nw sh x1 x2 x4 x5 4 FU _ _ _ _ hq16 _ _ _ hP hD hS (lv_sub hl [4, 5, 6, 7, 8, 9, 2, 1, 0] rfl) (fun H locs ls hP hD hS hl => ?_)
      refine lv_iload hx hb dX5_guessesHeard_95 (lv_at hl 7 rfl) ?_
      have h := Option.some.inj h
      subst h
      exact CT.iret Z hP hD hS dX5_guessesHeard_97

-- X5.heard
theorem lk_X5_heard_10 : Cond.fieldLink RX5 10 "KeyedFeelings" "now" "LKeyedFeelings$People;" ∈ wsX5_heard := by decide +kernel
theorem in_X5_heard_X5 : ∀ w ∈ wsX50, w ∈ wsX5_heard := by decide +kernel
theorem n1_X5_heard_X2 : Cond.initialized RX2 ∈ wsX5_heard := by decide +kernel
theorem n2_X5_heard_X2_has : Cond.instanceMethod yX2_has ∈ wsX5_heard := by decide +kernel
theorem n3_X5_heard_X2_has : Cond.selects RX2 yX2_has yX2_has ∈ wsX5_heard := by decide +kernel
theorem in_X5_heard_X2 : ∀ w ∈ wsX20, w ∈ wsX5_heard := by decide +kernel
theorem lk_X5_heard_52 : Cond.fieldLink RX5 52 "KeyedFeelings" "sheets" "[LKeyedFeelings$Sheet;" ∈ wsX5_heard := by decide +kernel
theorem n1_X5_heard_X3 : Cond.initialized RX3 ∈ wsX5_heard := by decide +kernel
theorem n2_X5_heard_X3_refusal : Cond.instanceMethod yX3_refusal ∈ wsX5_heard := by decide +kernel
theorem n3_X5_heard_X3_refusal : Cond.selects RX3 yX3_refusal yX3_refusal ∈ wsX5_heard := by decide +kernel
noncomputable def f_X5_heard (κ : St5) (nw : St2) (tr : St2) (us : StS) (sh : St3) (x1 : Int32) (x2 : Int32) (x3 : Int32) (x4 : Int32) (x5 : Int32) (x6 : Int32) : Option (Int32 × St2) := ((f_X2_has nw x1).bind (fun r1 => (if r1 = 0 then some ((-1), tr) else ((f_X5_isSheet x2).bind (fun r3 => (if r3 = 0 then some ((-1), tr) else ((f_X5_isLane x3).bind (fun r5 => (if r5 = 0 then some ((-1), tr) else (if x5 < 1 then some ((-1), tr) else (if x5 ≤ 8 then (if x6 < 0 then some ((-1), tr) else (if x6 < (2 + (p2_size nw)) then (if inB x2 4 = true then ((f_X3_refusal sh x3 x4 x5).bind (fun r12 => (if r12 = 0 then (if inB x2 4 = true then ((f_X5_guessesHeard κ nw tr sh x1 x6 x4 x5).bind (fun r15 => some (r15.1, r15.2))) else none) else some (r12, tr)))) else none) else some ((-1), tr))) else some ((-1), tr))))))))))))
noncomputable def rmX5_heard : Room := { frames := 6, cells := 0, slots := 0, locals := 141 }
set_option maxHeartbeats 4000000 in
set_option maxRecDepth 100000 in
theorem c_X5_heard (l : Launch) (D : va_G) (cA : Nat → ClassId) (o : Nat → Nat → Nat) (j : Nat) (κ : St5) (nw : St2) (tr : St2) (us : StS) (sh : St3) (x1 : Int32) (x2 : Int32) (x3 : Int32) (x4 : Int32) (x5 : Int32) (x6 : Int32) (hj : inB x2 4 = true → x2.toNatClampNeg = j) (res : Int32 × St2) (h : f_X5_heard κ nw tr us sh x1 x2 x3 x4 x5 x6 = some res) : CT l D cA yX5_heard wsX5_heard rmX5_heard [.ref (o 0 0), .int x1, .int x2, .int x3, .int x4, .int x5, .int x6] [w5 cA o κ, w2 cA (o 1) nw, w2 cA (o 5) tr, wS cA o us, w3 cA (o (9 + j)) sh] [w5 cA o κ, w2 cA (o 1) nw, w2 cA (o 5) res.2, wS cA o us, w3 cA (o (9 + j)) sh] (some (.int res.1)) := by
  refine CT.start (cc := cX5_heard) (maxL := 8) (ret := (some .int)) (by decide) rfl (Nat.le_of_ble_eq_true rfl) ?_
  intro p e s m below meth c Z hP hD hS ls hl
  have Z : Cx p s m _ meth c cX5_heard 8 (some .int) wsX5_heard RX5 D cA := Z
  have hl : lv_has ls 8 [(0, .ref (o 0 0)), (1, .int x1), (2, .int x2), (3, .int x3), (4, .int x4), (5, .int x5), (6, .int x6)] := hl
  obtain ⟨hx, hb, hml, hown, hts, hr, hlk, hKK⟩ := id Z
  have hK := hKK.1
  rw [f_X5_heard] at h
  refine lv_aload_n hx hb dX5_heard_0 rfl (lv_at hl 0 rfl) ?_
  refine va_get (D := D) (ci := 5) (v := .ref (o 1 0)) (C := RX5) (T := TX5) (N := 9) hx hb hts in_X5_heard_X5 hown hK hP 0 rfl rfl 0 (by decide) (hts _ lk_X5_heard_10) (fun _ h9 => h9) rfl dX5_heard_1 ?_
  refine lv_iload_n hx hb dX5_heard_4 rfl (lv_at hl 1 rfl) ?_
  obtain ⟨r1, hr1, h⟩ := bind_inv h
  refine kVN (rest := []) (st1 := [.int r1]) (cr := [w5 cA o κ, w2 cA (o 5) tr, wS cA o us, w3 cA (o (9 + j)) sh]) (cs' := [w5 cA o κ, w2 cA (o 1) nw, w2 cA (o 5) tr, wS cA o us, w3 cA (o (9 + j)) sh]) Z (c_X2_has l D cA (o 1) nw x1 r1 hr1) 1 gX5_heard_X2_has_n68 rfl hdX2_has nk_X5_68 n1_X5_heard_X2 n2_X5_heard_X2_has n3_X5_heard_X2_has ⟨rfl, rfl⟩ ⟨Nat.le_of_ble_eq_true rfl, Nat.le_of_ble_eq_true rfl⟩ ⟨Nat.zero_le _, Nat.zero_le _⟩ hP hD hS hl.1 rfl rfl rfl (Nat.le_of_ble_eq_true rfl) 2 rfl rfl rfl [1] [0, 2, 3, 4] [0, 4, 1, 2, 3] rfl rfl rfl rfl rfl dX5_heard_5 (fun H locs hP hD hS => ?_)
  refine lv_if_eq (tgt := 38) hx hb dX5_heard_8 (by decide) (fun hc2 => ?_) (fun hc2 => ?_)
  · rw [if_pos hc2] at h
    refine lv_iconst (v := (-1)) hx hb dX5_heard_38 (by decide) ?_
    have h := Option.some.inj h
    subst h
    exact CT.iret Z hP hD hS dX5_heard_39
  · rw [if_neg hc2] at h
    refine lv_iload_n hx hb dX5_heard_11 rfl (lv_at hl 2 rfl) ?_
    obtain ⟨r3, hr3, h⟩ := bind_inv h
    refine kS (rest := []) (st1 := [.int r3]) (cr := [w5 cA o κ, w2 cA (o 1) nw, w2 cA (o 5) tr, wS cA o us, w3 cA (o (9 + j)) sh]) (cs' := [w5 cA o κ, w2 cA (o 1) nw, w2 cA (o 5) tr, wS cA o us, w3 cA (o (9 + j)) sh]) Z (c_X5_isSheet l D cA x2 r3 hr3) 1 gX5_heard_X5_isSheet rfl hdX5_isSheet ⟨rfl, rfl⟩ ⟨Nat.le_of_ble_eq_true rfl, Nat.le_of_ble_eq_true rfl⟩ ⟨Nat.zero_le _, Nat.zero_le _⟩ hP hD hS hl.1 rfl rfl rfl (Nat.le_of_ble_eq_true rfl) [] [0, 1, 2, 3, 4] [0, 1, 2, 3, 4] rfl rfl rfl rfl rfl dX5_heard_12 (fun H locs hP hD hS => ?_)
    refine lv_if_eq (tgt := 38) hx hb dX5_heard_15 (by decide) (fun hc4 => ?_) (fun hc4 => ?_)
    · rw [if_pos hc4] at h
      refine lv_iconst (v := (-1)) hx hb dX5_heard_38 (by decide) ?_
      have h := Option.some.inj h
      subst h
      exact CT.iret Z hP hD hS dX5_heard_39
    · rw [if_neg hc4] at h
      refine lv_iload_n hx hb dX5_heard_18 rfl (lv_at hl 3 rfl) ?_
      obtain ⟨r5, hr5, h⟩ := bind_inv h
      refine kS (rest := []) (st1 := [.int r5]) (cr := [w5 cA o κ, w2 cA (o 1) nw, w2 cA (o 5) tr, wS cA o us, w3 cA (o (9 + j)) sh]) (cs' := [w5 cA o κ, w2 cA (o 1) nw, w2 cA (o 5) tr, wS cA o us, w3 cA (o (9 + j)) sh]) Z (c_X5_isLane l D cA x3 r5 hr5) 1 gX5_heard_X5_isLane rfl hdX5_isLane ⟨rfl, rfl⟩ ⟨Nat.le_of_ble_eq_true rfl, Nat.le_of_ble_eq_true rfl⟩ ⟨Nat.zero_le _, Nat.zero_le _⟩ hP hD hS hl.1 rfl rfl rfl (Nat.le_of_ble_eq_true rfl) [] [0, 1, 2, 3, 4] [0, 1, 2, 3, 4] rfl rfl rfl rfl rfl dX5_heard_19 (fun H locs hP hD hS => ?_)
      refine lv_if_eq (tgt := 38) hx hb dX5_heard_22 (by decide) (fun hc6 => ?_) (fun hc6 => ?_)
      · rw [if_pos hc6] at h
        refine lv_iconst (v := (-1)) hx hb dX5_heard_38 (by decide) ?_
        have h := Option.some.inj h
        subst h
        exact CT.iret Z hP hD hS dX5_heard_39
      · rw [if_neg hc6] at h
        refine lv_iload hx hb dX5_heard_25 (lv_at hl 5 rfl) ?_
        refine lv_iconst (v := 1) hx hb dX5_heard_27 (by decide) ?_
        refine lv_icmp_lt (tgt := 38) hx hb dX5_heard_28 (by decide) (fun hc7 => ?_) (fun hc7 => ?_)
        · rw [if_pos hc7] at h
          refine lv_iconst (v := (-1)) hx hb dX5_heard_38 (by decide) ?_
          have h := Option.some.inj h
          subst h
          exact CT.iret Z hP hD hS dX5_heard_39
        · rw [if_neg hc7] at h
          refine lv_iload hx hb dX5_heard_31 (lv_at hl 5 rfl) ?_
          refine lv_bipush (v := 8) hx hb dX5_heard_33 (by decide) ?_
          refine lv_icmp_le (tgt := 40) hx hb dX5_heard_35 (by decide) (fun hc8 => ?_) (fun hc8 => ?_)
          · rw [if_pos hc8] at h
            refine lv_iload hx hb dX5_heard_40 (lv_at hl 6 rfl) ?_
            refine lv_if_lt (tgt := 59) hx hb dX5_heard_42 (by decide) (fun hc9 => ?_) (fun hc9 => ?_)
            · rw [if_pos hc9] at h
              refine lv_iconst (v := (-1)) hx hb dX5_heard_59 (by decide) ?_
              have h := Option.some.inj h
              subst h
              exact CT.iret Z hP hD hS dX5_heard_60
            · rw [if_neg hc9] at h
              refine lv_iload hx hb dX5_heard_45 (lv_at hl 6 rfl) ?_
              refine lv_iconst (v := 2) hx hb dX5_heard_47 (by decide) ?_
              refine lv_aload_n hx hb dX5_heard_48 rfl (lv_at hl 0 rfl) ?_
              refine va_get (D := D) (ci := 5) (v := .ref (o 1 0)) (C := RX5) (T := TX5) (N := 9) hx hb hts in_X5_heard_X5 hown hK hP 0 rfl rfl 0 (by decide) (hts _ lk_X5_heard_10) (fun _ h9 => h9) rfl dX5_heard_49 ?_
              refine va_getN (D := D) (ci := 2) (v := .int (p2_size nw)) (C := RX2) (T := TX2) (N := 7) hx hb hts in_X5_heard_X2 hown hK hP 1 rfl rfl 0 (by decide) (nest_use rfl (hKK.2 _ nk_X5_57)) (fun _ h9 => h9) rfl dX5_heard_52 ?_
              refine lv_iadd hx hb dX5_heard_55 ?_
              refine lv_icmp_lt (tgt := 61) hx hb dX5_heard_56 (by decide) (fun hc10 => ?_) (fun hc10 => ?_)
              · rw [if_pos hc10] at h
                refine lv_aload_n hx hb dX5_heard_61 rfl (lv_at hl 0 rfl) ?_
                refine va_get (D := D) (ci := 5) (v := .ref (o 8 0)) (C := RX5) (T := TX5) (N := 9) hx hb hts in_X5_heard_X5 hown hK hP 0 rfl rfl 8 (by decide) (hts _ lk_X5_heard_52) (fun _ h9 => h9) rfl dX5_heard_62 ?_
                refine lv_iload_n hx hb dX5_heard_65 rfl (lv_at hl 2 rfl) ?_
                obtain ⟨hg11, h⟩ := if_inv h
                refine va_aldq hx hb hK hP 11 3 rfl rfl (inB_in hg11) dX5_heard_66 ?_
                refine lv_eqv (v := .ref (o (9 + j) 0)) (by rw [← hj hg11]; rfl) ?_
                refine lv_iload_n hx hb dX5_heard_67 rfl (lv_at hl 3 rfl) ?_
                refine lv_iload hx hb dX5_heard_68 (lv_at hl 4 rfl) ?_
                refine lv_iload hx hb dX5_heard_70 (lv_at hl 5 rfl) ?_
                obtain ⟨r12, hr12, h⟩ := bind_inv h
                refine kVN (rest := []) (st1 := [.int r12]) (cr := [w5 cA o κ, w2 cA (o 1) nw, w2 cA (o 5) tr, wS cA o us]) (cs' := [w5 cA o κ, w2 cA (o 1) nw, w2 cA (o 5) tr, wS cA o us, w3 cA (o (9 + j)) sh]) Z (c_X3_refusal l D cA (o (9 + j)) sh x3 x4 x5 r12 hr12) 3 gX5_heard_X3_refusal_n230 rfl hdX3_refusal nk_X5_230 n1_X5_heard_X3 n2_X5_heard_X3_refusal n3_X5_heard_X3_refusal ⟨rfl, rfl⟩ ⟨Nat.le_of_ble_eq_true rfl, Nat.le_of_ble_eq_true rfl⟩ ⟨Nat.zero_le _, Nat.zero_le _⟩ hP hD hS hl.1 rfl rfl rfl (Nat.le_of_ble_eq_true rfl) 3 rfl rfl rfl [4] [0, 1, 2, 3] [0, 1, 2, 3, 4] rfl rfl rfl rfl rfl dX5_heard_72 (fun H locs hP hD hS => ?_)
                refine lv_istore (lv' := [(7, .int r12), (0, .ref (o 0 0)), (1, .int x1), (2, .int x2), (3, .int x3), (4, .int x4), (5, .int x5), (6, .int x6)]) hx hb dX5_heard_75 hl (by decide) rfl (fun ls hl => ?_)
                refine lv_iload hx hb dX5_heard_77 (lv_at hl 0 rfl) ?_
                refine lv_if_eq (tgt := 87) hx hb dX5_heard_79 (by decide) (fun hc13 => ?_) (fun hc13 => ?_)
                · rw [if_pos hc13] at h
                  refine lv_aload_n hx hb dX5_heard_87 rfl (lv_at hl 1 rfl) ?_
                  refine lv_iload_n hx hb dX5_heard_88 rfl (lv_at hl 2 rfl) ?_
                  refine lv_iload hx hb dX5_heard_89 (lv_at hl 7 rfl) ?_
                  refine lv_aload_n hx hb dX5_heard_91 rfl (lv_at hl 1 rfl) ?_
                  refine va_get (D := D) (ci := 5) (v := .ref (o 8 0)) (C := RX5) (T := TX5) (N := 9) hx hb hts in_X5_heard_X5 hown hK hP 0 rfl rfl 8 (by decide) (hts _ lk_X5_heard_52) (fun _ h9 => h9) rfl dX5_heard_92 ?_
                  refine lv_iload_n hx hb dX5_heard_95 rfl (lv_at hl 3 rfl) ?_
                  obtain ⟨hg14, h⟩ := if_inv h
                  refine va_aldq hx hb hK hP 11 3 rfl rfl (inB_in hg14) dX5_heard_96 ?_
                  refine lv_eqv (v := .ref (o (9 + j) 0)) (by rw [← hj hg14]; rfl) ?_
                  refine lv_iload hx hb dX5_heard_97 (lv_at hl 5 rfl) ?_
                  refine lv_iload hx hb dX5_heard_99 (lv_at hl 6 rfl) ?_
                  obtain ⟨r15, hr15, h⟩ := bind_inv h
                  refine kV (rest := []) (st1 := [.int r15.1]) (cr := [wS cA o us]) (cs' := [w5 cA o κ, w2 cA (o 1) nw, w2 cA (o 5) r15.2, wS cA o us, w3 cA (o (9 + j)) sh]) Z (c_X5_guessesHeard l D cA o (o (9 + j)) κ nw tr sh x1 x6 x4 x5 r15 hr15) 5 gX5_heard_X5_guessesHeard rfl hdX5_guessesHeard ⟨rfl, rfl⟩ ⟨Nat.le_of_ble_eq_true rfl, Nat.le_of_ble_eq_true rfl⟩ ⟨Nat.zero_le _, Nat.zero_le _⟩ hP hD hS hl.1 rfl rfl rfl (Nat.le_of_ble_eq_true rfl) 5 rfl rfl rfl [0, 1, 2, 4] [3] [1, 2, 3, 0, 4] rfl rfl rfl rfl rfl dX5_heard_101 (fun H locs hP hD hS => ?_)
                  have h := Option.some.inj h
                  subst h
                  exact CT.iret Z hP hD hS dX5_heard_104
                · rw [if_neg hc13] at h
                  refine lv_iload hx hb dX5_heard_82 (lv_at hl 0 rfl) ?_
                  refine lv_goto (tgt := 104) hx hb dX5_heard_84 (by decide) ?_
                  have h := Option.some.inj h
                  subst h
                  exact CT.iret Z hP hD hS dX5_heard_104
              · rw [if_neg hc10] at h
                refine lv_iconst (v := (-1)) hx hb dX5_heard_59 (by decide) ?_
                have h := Option.some.inj h
                subst h
                exact CT.iret Z hP hD hS dX5_heard_60
          · rw [if_neg hc8] at h
            refine lv_iconst (v := (-1)) hx hb dX5_heard_38 (by decide) ?_
            have h := Option.some.inj h
            subst h
            exact CT.iret Z hP hD hS dX5_heard_39

-- X5.film
theorem lk_X5_film_10 : Cond.fieldLink RX5 10 "KeyedFeelings" "now" "LKeyedFeelings$People;" ∈ wsX5_film := by decide +kernel
theorem in_X5_film_X5 : ∀ w ∈ wsX50, w ∈ wsX5_film := by decide +kernel
theorem n1_X5_film_X2 : Cond.initialized RX2 ∈ wsX5_film := by decide +kernel
theorem n2_X5_film_X2_has : Cond.instanceMethod yX2_has ∈ wsX5_film := by decide +kernel
theorem n3_X5_film_X2_has : Cond.selects RX2 yX2_has yX2_has ∈ wsX5_film := by decide +kernel
theorem lk_X5_film_52 : Cond.fieldLink RX5 52 "KeyedFeelings" "sheets" "[LKeyedFeelings$Sheet;" ∈ wsX5_film := by decide +kernel
theorem n1_X5_film_X3 : Cond.initialized RX3 ∈ wsX5_film := by decide +kernel
theorem n2_X5_film_X3_refusal : Cond.instanceMethod yX3_refusal ∈ wsX5_film := by decide +kernel
theorem n3_X5_film_X3_refusal : Cond.selects RX3 yX3_refusal yX3_refusal ∈ wsX5_film := by decide +kernel
theorem lk_X5_film_33 : Cond.fieldLink RX5 33 "KeyedFeelings" "trial" "LKeyedFeelings$People;" ∈ wsX5_film := by decide +kernel
theorem n2_X5_film_X2_become : Cond.instanceMethod yX2_become ∈ wsX5_film := by decide +kernel
theorem n3_X5_film_X2_become : Cond.selects RX2 yX2_become yX2_become ∈ wsX5_film := by decide +kernel
theorem n2_X5_film_X2_passHour : Cond.instanceMethod yX2_passHour ∈ wsX5_film := by decide +kernel
theorem n3_X5_film_X2_passHour : Cond.selects RX2 yX2_passHour yX2_passHour ∈ wsX5_film := by decide +kernel
theorem in_X5_film_X2 : ∀ w ∈ wsX20, w ∈ wsX5_film := by decide +kernel
theorem n2_X5_film_X3_put : Cond.instanceMethod yX3_put ∈ wsX5_film := by decide +kernel
theorem n3_X5_film_X3_put : Cond.selects RX3 yX3_put yX3_put ∈ wsX5_film := by decide +kernel
noncomputable def lp_X5_film_77 (κ : St5) (nw : St2) (us : StS) (x1 : Int32) (x2 : Int32) (x3 : Int32) (x5 : Int32) : Nat → Int32 → St2 → St3 → Option (Int32 × St2 × St3)
  | 0, _, _, _ => none
  | n + 1, x7, tr, sh => (if x2 ≤ x7 then some (x7, tr, sh) else ((f_X2_passHour tr).bind (fun r14 => (if inB x3 4 = true then (if inB x1 6 = true then ((f_X3_put sh (x5 + x7) (((p2_turns r14) x1.toNatClampNeg).toInt64)).bind (fun r17 => lp_X5_film_77 κ nw us x1 x2 x3 x5 n (x7 + 1) r14 r17)) else none) else none))))
noncomputable def f_X5_film (κ : St5) (nw : St2) (tr : St2) (us : StS) (sh : St3) (x1 : Int32) (x2 : Int32) (x3 : Int32) (x4 : Int32) (x5 : Int32) : Option (Int32 × St2 × St3) := ((f_X2_has nw x1).bind (fun r1 => (if r1 = 0 then some ((-1), tr, sh) else (if x2 < 1 then some ((-1), tr, sh) else (if 24 < x2 then some ((-1), tr, sh) else ((f_X5_isSheet x3).bind (fun r5 => (if r5 = 0 then some ((-1), tr, sh) else ((f_X5_isLane x4).bind (fun r7 => (if r7 = 0 then some ((-1), tr, sh) else (if inB x3 4 = true then ((f_X3_refusal sh x4 x5 x2).bind (fun r10 => (if r10 = 0 then ((lp_X5_film_77 κ nw us x1 x2 x3 x5 FU 0 nw sh).bind (fun q18 => some (x2, q18.2.1, q18.2.2))) else some (r10, tr, sh)))) else none))))))))))))
noncomputable def rmX5_film : Room := { frames := 4, cells := 0, slots := 0, locals := 87 }
set_option maxHeartbeats 4000000 in
set_option maxRecDepth 100000 in
theorem t_X5_film_77 {p : Program} {l : Launch} {e : Env} {s : State} {m : MethodId} {args : Array Value} {below : List Frame} {meth : Method} {c : Code} {D : va_G} {cA : Nat → ClassId} {A0 : Nat → Prop} {H0 : Heap} {o : Nat → Nat → Nat} {j : Nat} (Z : Cx p s m args meth c cX5_film 8 (some .int) wsX5_film RX5 D cA) (κ : St5) (nw : St2) (us : StS) (x1 : Int32) (x2 : Int32) (x3 : Int32) (x5 : Int32) (hj : inB x3 4 = true → x3.toNatClampNeg = j) {Q : State → Prop} : ∀ (n : Nat) (x7 : Int32) (tr : St2) (sh : St3) (q : Int32 × St2 × St3), lp_X5_film_77 κ nw us x1 x2 x3 x5 n x7 tr sh = some q → ∀ (H : Heap) (locs : List Loc) (ls : Array Slot), va_P D vwCl ([w5 cA o κ, w2 cA (o 1) nw, w2 cA (o 5) tr, wS cA o us, w3 cA (o (9 + j)) sh] : List va_W).flatten H → va_D A0 ([w5 cA o κ, w2 cA (o 1) nw, w2 cA (o 5) tr, wS cA o us, w3 cA (o (9 + j)) sh] : List va_W).flatten → va_S A0 H0 H locs → lv_has ls 8 [(0, .ref (o 0 0)), (1, .int x1), (2, .int x2), (3, .int x3), (5, .int x5), (7, .int x7)] → (∀ (H : Heap) (locs : List Loc) (ls : Array Slot), va_P D vwCl ([w5 cA o κ, w2 cA (o 1) nw, w2 cA (o 5) q.2.1, wS cA o us, w3 cA (o (9 + j)) q.2.2] : List va_W).flatten H → va_D A0 ([w5 cA o κ, w2 cA (o 1) nw, w2 cA (o 5) q.2.1, wS cA o us, w3 cA (o (9 + j)) q.2.2] : List va_W).flatten → va_S A0 H0 H locs → lv_has ls 8 [(0, .ref (o 0 0)), (1, .int x1), (2, .int x2), (3, .int x3), (5, .int x5), (7, .int q.1)] → W p l e rmX5_film s m args below meth c H locs 0 0 Q (F0 m 120 ls [])) → W p l e rmX5_film s m args below meth c H locs 0 0 Q (F0 m 77 ls []) := by
  obtain ⟨hx, hb, hml, hown, hts, hr, hlk, hKK⟩ := id Z
  have hK := hKK.1
  intro n
  induction n with
  | zero =>
    intro x7 tr sh q h
    rw [lp_X5_film_77] at h
    cases h
  | succ n ih =>
    intro x7 tr sh q h H locs ls hP hD hS hl kk
    rw [lp_X5_film_77] at h
    refine lv_iload hx hb dX5_film_77 (lv_at hl 5 rfl) ?_
    refine lv_iload_n hx hb dX5_film_79 rfl (lv_at hl 2 rfl) ?_
    refine lv_icmp_ge (tgt := 120) hx hb dX5_film_80 (by decide) (fun hc13 => ?_) (fun hc13 => ?_)
    · rw [if_pos hc13] at h
      have h := Option.some.inj h
      subst h
      exact kk _ _ _ hP hD hS (lv_sub hl [0, 1, 2, 3, 4, 5] rfl)
    · rw [if_neg hc13] at h
      refine lv_aload_n hx hb dX5_film_83 rfl (lv_at hl 0 rfl) ?_
      refine va_get (D := D) (ci := 5) (v := .ref (o 5 0)) (C := RX5) (T := TX5) (N := 9) hx hb hts in_X5_film_X5 hown hK hP 0 rfl rfl 5 (by decide) (hts _ lk_X5_film_33) (fun _ h9 => h9) rfl dX5_film_84 ?_
      obtain ⟨r14, hr14, h⟩ := bind_inv h
      refine kVN (rest := []) (st1 := []) (cr := [w5 cA o κ, w2 cA (o 1) nw, wS cA o us, w3 cA (o (9 + j)) sh]) (cs' := [w5 cA o κ, w2 cA (o 1) nw, w2 cA (o 5) r14, wS cA o us, w3 cA (o (9 + j)) sh]) Z (c_X2_passHour l D cA (o 5) tr r14 hr14) 0 gX5_film_X2_passHour_n152 rfl hdX2_passHour nk_X5_152 n1_X5_film_X2 n2_X5_film_X2_passHour n3_X5_film_X2_passHour ⟨rfl, rfl⟩ ⟨Nat.le_of_ble_eq_true rfl, Nat.le_of_ble_eq_true rfl⟩ ⟨Nat.zero_le _, Nat.zero_le _⟩ hP hD hS hl.1 rfl rfl rfl (Nat.le_of_ble_eq_true rfl) 2 rfl rfl rfl [2] [0, 1, 3, 4] [0, 1, 4, 2, 3] rfl rfl rfl rfl rfl dX5_film_87 (fun H locs hP hD hS => ?_)
      refine lv_aload_n hx hb dX5_film_90 rfl (lv_at hl 0 rfl) ?_
      refine va_get (D := D) (ci := 5) (v := .ref (o 8 0)) (C := RX5) (T := TX5) (N := 9) hx hb hts in_X5_film_X5 hown hK hP 0 rfl rfl 8 (by decide) (hts _ lk_X5_film_52) (fun _ h9 => h9) rfl dX5_film_91 ?_
      refine lv_iload_n hx hb dX5_film_94 rfl (lv_at hl 3 rfl) ?_
      obtain ⟨hg15, h⟩ := if_inv h
      refine va_aldq hx hb hK hP 11 3 rfl rfl (inB_in hg15) dX5_film_95 ?_
      refine lv_eqv (v := .ref (o (9 + j) 0)) (by rw [← hj hg15]; rfl) ?_
      refine lv_iload hx hb dX5_film_96 (lv_at hl 4 rfl) ?_
      refine lv_iload hx hb dX5_film_98 (lv_at hl 5 rfl) ?_
      refine lv_iadd hx hb dX5_film_100 ?_
      refine lv_aload_n hx hb dX5_film_101 rfl (lv_at hl 0 rfl) ?_
      refine va_get (D := D) (ci := 5) (v := .ref (o 5 0)) (C := RX5) (T := TX5) (N := 9) hx hb hts in_X5_film_X5 hown hK hP 0 rfl rfl 5 (by decide) (hts _ lk_X5_film_33) (fun _ h9 => h9) rfl dX5_film_102 ?_
      refine va_getN (D := D) (ci := 2) (v := .ref (o 5 2)) (C := RX2) (T := TX2) (N := 7) hx hb hts in_X5_film_X2 hown hK hP 6 rfl rfl 2 (by decide) (nest_use rfl (hKK.2 _ nk_X5_76)) (fun _ h9 => h9) rfl dX5_film_105 ?_
      refine lv_iload_n hx hb dX5_film_108 rfl (lv_at hl 1 rfl) ?_
      obtain ⟨hg16, h⟩ := if_inv h
      refine va_iald hx hb hK hP 8 0 rfl rfl (inB_in hg16) dX5_film_109 ?_
      refine lv_i2l (v := ((p2_turns r14) x1.toNatClampNeg).toInt64) hx hb dX5_film_110 rfl ?_
      obtain ⟨r17, hr17, h⟩ := bind_inv h
      refine kVN (rest := []) (st1 := []) (cr := [w5 cA o κ, w2 cA (o 1) nw, w2 cA (o 5) r14, wS cA o us]) (cs' := [w5 cA o κ, w2 cA (o 1) nw, w2 cA (o 5) r14, wS cA o us, w3 cA (o (9 + j)) r17]) Z (c_X3_put l D cA (o (9 + j)) sh (x5 + x7) (((p2_turns r14) x1.toNatClampNeg).toInt64) r17 hr17) 2 gX5_film_X3_put_n237 rfl hdX3_put nk_X5_237 n1_X5_film_X3 n2_X5_film_X3_put n3_X5_film_X3_put ⟨rfl, rfl⟩ ⟨Nat.le_of_ble_eq_true rfl, Nat.le_of_ble_eq_true rfl⟩ ⟨Nat.zero_le _, Nat.zero_le _⟩ hP hD hS hl.1 rfl rfl rfl (Nat.le_of_ble_eq_true rfl) 3 rfl rfl rfl [4] [0, 1, 2, 3] [0, 1, 2, 3, 4] rfl rfl rfl rfl rfl dX5_film_111 (fun H locs hP hD hS => ?_)
      refine lv_iinc (v := x7 + 1) (lv' := [(7, .int (x7 + 1)), (0, .ref (o 0 0)), (1, .int x1), (2, .int x2), (3, .int x3), (5, .int x5)]) hx hb dX5_film_114 hl (k := 5) rfl rfl (by decide) rfl (fun ls hl => ?_)
      refine lv_goto (tgt := 77) hx hb dX5_film_117 (by decide) ?_
      exact ih _ _ _ _ h _ _ _ hP hD hS (lv_sub hl [1, 2, 3, 4, 5, 0] rfl) kk
set_option maxHeartbeats 4000000 in
set_option maxRecDepth 100000 in
theorem c_X5_film (l : Launch) (D : va_G) (cA : Nat → ClassId) (o : Nat → Nat → Nat) (j : Nat) (κ : St5) (nw : St2) (tr : St2) (us : StS) (sh : St3) (x1 : Int32) (x2 : Int32) (x3 : Int32) (x4 : Int32) (x5 : Int32) (hj : inB x3 4 = true → x3.toNatClampNeg = j) (res : Int32 × St2 × St3) (h : f_X5_film κ nw tr us sh x1 x2 x3 x4 x5 = some res) : CT l D cA yX5_film wsX5_film rmX5_film [.ref (o 0 0), .int x1, .int x2, .int x3, .int x4, .int x5] [w5 cA o κ, w2 cA (o 1) nw, w2 cA (o 5) tr, wS cA o us, w3 cA (o (9 + j)) sh] [w5 cA o κ, w2 cA (o 1) nw, w2 cA (o 5) res.2.1, wS cA o us, w3 cA (o (9 + j)) res.2.2] (some (.int res.1)) := by
  refine CT.start (cc := cX5_film) (maxL := 8) (ret := (some .int)) (by decide) rfl (Nat.le_of_ble_eq_true rfl) ?_
  intro p e s m below meth c Z hP hD hS ls hl
  have Z : Cx p s m _ meth c cX5_film 8 (some .int) wsX5_film RX5 D cA := Z
  have hl : lv_has ls 8 [(0, .ref (o 0 0)), (1, .int x1), (2, .int x2), (3, .int x3), (4, .int x4), (5, .int x5)] := hl
  obtain ⟨hx, hb, hml, hown, hts, hr, hlk, hKK⟩ := id Z
  have hK := hKK.1
  rw [f_X5_film] at h
  refine lv_aload_n hx hb dX5_film_0 rfl (lv_at hl 0 rfl) ?_
  refine va_get (D := D) (ci := 5) (v := .ref (o 1 0)) (C := RX5) (T := TX5) (N := 9) hx hb hts in_X5_film_X5 hown hK hP 0 rfl rfl 0 (by decide) (hts _ lk_X5_film_10) (fun _ h9 => h9) rfl dX5_film_1 ?_
  refine lv_iload_n hx hb dX5_film_4 rfl (lv_at hl 1 rfl) ?_
  obtain ⟨r1, hr1, h⟩ := bind_inv h
  refine kVN (rest := []) (st1 := [.int r1]) (cr := [w5 cA o κ, w2 cA (o 5) tr, wS cA o us, w3 cA (o (9 + j)) sh]) (cs' := [w5 cA o κ, w2 cA (o 1) nw, w2 cA (o 5) tr, wS cA o us, w3 cA (o (9 + j)) sh]) Z (c_X2_has l D cA (o 1) nw x1 r1 hr1) 1 gX5_film_X2_has_n68 rfl hdX2_has nk_X5_68 n1_X5_film_X2 n2_X5_film_X2_has n3_X5_film_X2_has ⟨rfl, rfl⟩ ⟨Nat.le_of_ble_eq_true rfl, Nat.le_of_ble_eq_true rfl⟩ ⟨Nat.zero_le _, Nat.zero_le _⟩ hP hD hS hl.1 rfl rfl rfl (Nat.le_of_ble_eq_true rfl) 2 rfl rfl rfl [1] [0, 2, 3, 4] [0, 4, 1, 2, 3] rfl rfl rfl rfl rfl dX5_film_5 (fun H locs hP hD hS => ?_)
  refine lv_if_eq (tgt := 37) hx hb dX5_film_8 (by decide) (fun hc2 => ?_) (fun hc2 => ?_)
  · rw [if_pos hc2] at h
    refine lv_iconst (v := (-1)) hx hb dX5_film_37 (by decide) ?_
    have h := Option.some.inj h
    subst h
    exact CT.iret Z hP hD hS dX5_film_38
  · rw [if_neg hc2] at h
    refine lv_iload_n hx hb dX5_film_11 rfl (lv_at hl 2 rfl) ?_
    refine lv_iconst (v := 1) hx hb dX5_film_12 (by decide) ?_
    refine lv_icmp_lt (tgt := 37) hx hb dX5_film_13 (by decide) (fun hc3 => ?_) (fun hc3 => ?_)
    · rw [if_pos hc3] at h
      refine lv_iconst (v := (-1)) hx hb dX5_film_37 (by decide) ?_
      have h := Option.some.inj h
      subst h
      exact CT.iret Z hP hD hS dX5_film_38
    · rw [if_neg hc3] at h
      refine lv_iload_n hx hb dX5_film_16 rfl (lv_at hl 2 rfl) ?_
      refine lv_bipush (v := 24) hx hb dX5_film_17 (by decide) ?_
      refine lv_icmp_gt (tgt := 37) hx hb dX5_film_19 (by decide) (fun hc4 => ?_) (fun hc4 => ?_)
      · rw [if_pos hc4] at h
        refine lv_iconst (v := (-1)) hx hb dX5_film_37 (by decide) ?_
        have h := Option.some.inj h
        subst h
        exact CT.iret Z hP hD hS dX5_film_38
      · rw [if_neg hc4] at h
        refine lv_iload_n hx hb dX5_film_22 rfl (lv_at hl 3 rfl) ?_
        obtain ⟨r5, hr5, h⟩ := bind_inv h
        refine kS (rest := []) (st1 := [.int r5]) (cr := [w5 cA o κ, w2 cA (o 1) nw, w2 cA (o 5) tr, wS cA o us, w3 cA (o (9 + j)) sh]) (cs' := [w5 cA o κ, w2 cA (o 1) nw, w2 cA (o 5) tr, wS cA o us, w3 cA (o (9 + j)) sh]) Z (c_X5_isSheet l D cA x3 r5 hr5) 1 gX5_film_X5_isSheet rfl hdX5_isSheet ⟨rfl, rfl⟩ ⟨Nat.le_of_ble_eq_true rfl, Nat.le_of_ble_eq_true rfl⟩ ⟨Nat.zero_le _, Nat.zero_le _⟩ hP hD hS hl.1 rfl rfl rfl (Nat.le_of_ble_eq_true rfl) [] [0, 1, 2, 3, 4] [0, 1, 2, 3, 4] rfl rfl rfl rfl rfl dX5_film_23 (fun H locs hP hD hS => ?_)
        refine lv_if_eq (tgt := 37) hx hb dX5_film_26 (by decide) (fun hc6 => ?_) (fun hc6 => ?_)
        · rw [if_pos hc6] at h
          refine lv_iconst (v := (-1)) hx hb dX5_film_37 (by decide) ?_
          have h := Option.some.inj h
          subst h
          exact CT.iret Z hP hD hS dX5_film_38
        · rw [if_neg hc6] at h
          refine lv_iload hx hb dX5_film_29 (lv_at hl 4 rfl) ?_
          obtain ⟨r7, hr7, h⟩ := bind_inv h
          refine kS (rest := []) (st1 := [.int r7]) (cr := [w5 cA o κ, w2 cA (o 1) nw, w2 cA (o 5) tr, wS cA o us, w3 cA (o (9 + j)) sh]) (cs' := [w5 cA o κ, w2 cA (o 1) nw, w2 cA (o 5) tr, wS cA o us, w3 cA (o (9 + j)) sh]) Z (c_X5_isLane l D cA x4 r7 hr7) 1 gX5_film_X5_isLane rfl hdX5_isLane ⟨rfl, rfl⟩ ⟨Nat.le_of_ble_eq_true rfl, Nat.le_of_ble_eq_true rfl⟩ ⟨Nat.zero_le _, Nat.zero_le _⟩ hP hD hS hl.1 rfl rfl rfl (Nat.le_of_ble_eq_true rfl) [] [0, 1, 2, 3, 4] [0, 1, 2, 3, 4] rfl rfl rfl rfl rfl dX5_film_31 (fun H locs hP hD hS => ?_)
          refine lv_if_ne (tgt := 39) hx hb dX5_film_34 (by decide) (fun hc8 => ?_) (fun hc8 => ?_)
          · rw [if_neg hc8] at h
            refine lv_aload_n hx hb dX5_film_39 rfl (lv_at hl 0 rfl) ?_
            refine va_get (D := D) (ci := 5) (v := .ref (o 8 0)) (C := RX5) (T := TX5) (N := 9) hx hb hts in_X5_film_X5 hown hK hP 0 rfl rfl 8 (by decide) (hts _ lk_X5_film_52) (fun _ h9 => h9) rfl dX5_film_40 ?_
            refine lv_iload_n hx hb dX5_film_43 rfl (lv_at hl 3 rfl) ?_
            obtain ⟨hg9, h⟩ := if_inv h
            refine va_aldq hx hb hK hP 11 3 rfl rfl (inB_in hg9) dX5_film_44 ?_
            refine lv_eqv (v := .ref (o (9 + j) 0)) (by rw [← hj hg9]; rfl) ?_
            refine lv_iload hx hb dX5_film_45 (lv_at hl 4 rfl) ?_
            refine lv_iload hx hb dX5_film_47 (lv_at hl 5 rfl) ?_
            refine lv_iload_n hx hb dX5_film_49 rfl (lv_at hl 2 rfl) ?_
            obtain ⟨r10, hr10, h⟩ := bind_inv h
            refine kVN (rest := []) (st1 := [.int r10]) (cr := [w5 cA o κ, w2 cA (o 1) nw, w2 cA (o 5) tr, wS cA o us]) (cs' := [w5 cA o κ, w2 cA (o 1) nw, w2 cA (o 5) tr, wS cA o us, w3 cA (o (9 + j)) sh]) Z (c_X3_refusal l D cA (o (9 + j)) sh x4 x5 x2 r10 hr10) 3 gX5_film_X3_refusal_n230 rfl hdX3_refusal nk_X5_230 n1_X5_film_X3 n2_X5_film_X3_refusal n3_X5_film_X3_refusal ⟨rfl, rfl⟩ ⟨Nat.le_of_ble_eq_true rfl, Nat.le_of_ble_eq_true rfl⟩ ⟨Nat.zero_le _, Nat.zero_le _⟩ hP hD hS hl.1 rfl rfl rfl (Nat.le_of_ble_eq_true rfl) 3 rfl rfl rfl [4] [0, 1, 2, 3] [0, 1, 2, 3, 4] rfl rfl rfl rfl rfl dX5_film_50 (fun H locs hP hD hS => ?_)
            refine lv_istore (lv' := [(6, .int r10), (0, .ref (o 0 0)), (1, .int x1), (2, .int x2), (3, .int x3), (4, .int x4), (5, .int x5)]) hx hb dX5_film_53 hl (by decide) rfl (fun ls hl => ?_)
            refine lv_iload hx hb dX5_film_55 (lv_at hl 0 rfl) ?_
            refine lv_if_eq (tgt := 63) hx hb dX5_film_57 (by decide) (fun hc11 => ?_) (fun hc11 => ?_)
            · rw [if_pos hc11] at h
              refine lv_aload_n hx hb dX5_film_63 rfl (lv_at hl 1 rfl) ?_
              refine va_get (D := D) (ci := 5) (v := .ref (o 5 0)) (C := RX5) (T := TX5) (N := 9) hx hb hts in_X5_film_X5 hown hK hP 0 rfl rfl 5 (by decide) (hts _ lk_X5_film_33) (fun _ h9 => h9) rfl dX5_film_64 ?_
              refine lv_aload_n hx hb dX5_film_67 rfl (lv_at hl 1 rfl) ?_
              refine va_get (D := D) (ci := 5) (v := .ref (o 1 0)) (C := RX5) (T := TX5) (N := 9) hx hb hts in_X5_film_X5 hown hK hP 0 rfl rfl 0 (by decide) (hts _ lk_X5_film_10) (fun _ h9 => h9) rfl dX5_film_68 ?_
              refine kVN (rest := []) (st1 := []) (cr := [w5 cA o κ, wS cA o us, w3 cA (o (9 + j)) sh]) (cs' := [w5 cA o κ, w2 cA (o 1) nw, w2 cA (o 5) nw, wS cA o us, w3 cA (o (9 + j)) sh]) Z (c_become l D cA (o 5) (o 1) tr nw ) 1 gX5_film_X2_become_n115 rfl hdX2_become nk_X5_115 n1_X5_film_X2 n2_X5_film_X2_become n3_X5_film_X2_become ⟨rfl, rfl⟩ ⟨Nat.le_of_ble_eq_true rfl, Nat.le_of_ble_eq_true rfl⟩ ⟨Nat.zero_le _, Nat.zero_le _⟩ hP hD hS hl.1 rfl rfl rfl (Nat.le_of_ble_eq_true rfl) 2 rfl rfl rfl [2, 1] [0, 3, 4] [0, 4, 3, 1, 2] rfl rfl rfl rfl rfl dX5_film_71 (fun H locs hP hD hS => ?_)
              refine lv_iconst (v := 0) hx hb dX5_film_74 (by decide) ?_
              refine lv_istore (lv' := [(7, .int 0), (6, .int r10), (0, .ref (o 0 0)), (1, .int x1), (2, .int x2), (3, .int x3), (4, .int x4), (5, .int x5)]) hx hb dX5_film_75 hl (by decide) rfl (fun ls hl => ?_)
              obtain ⟨q18, hq18, h⟩ := bind_inv h
              refine t_X5_film_77 Z κ nw us x1 x2 x3 x5 hj FU _ _ _ _ hq18 _ _ _ hP hD hS (lv_sub hl [2, 3, 4, 5, 7, 0] rfl) (fun H locs ls hP hD hS hl => ?_)
              refine lv_iload_n hx hb dX5_film_120 rfl (lv_at hl 2 rfl) ?_
              have h := Option.some.inj h
              subst h
              exact CT.iret Z hP hD hS dX5_film_121
            · rw [if_neg hc11] at h
              refine lv_iload hx hb dX5_film_60 (lv_at hl 0 rfl) ?_
              have h := Option.some.inj h
              subst h
              exact CT.iret Z hP hD hS dX5_film_62
          · rw [if_pos hc8] at h
            refine lv_iconst (v := (-1)) hx hb dX5_film_37 (by decide) ?_
            have h := Option.some.inj h
            subst h
            exact CT.iret Z hP hD hS dX5_film_38

-- X5.sheet
theorem lk_X5_sheet_52 : Cond.fieldLink RX5 52 "KeyedFeelings" "sheets" "[LKeyedFeelings$Sheet;" ∈ wsX5_sheet := by decide +kernel
theorem in_X5_sheet_X5 : ∀ w ∈ wsX50, w ∈ wsX5_sheet := by decide +kernel
theorem n1_X5_sheet_X3 : Cond.initialized RX3 ∈ wsX5_sheet := by decide +kernel
theorem n2_X5_sheet_X3_begin : Cond.instanceMethod yX3_begin ∈ wsX5_sheet := by decide +kernel
theorem n3_X5_sheet_X3_begin : Cond.selects RX3 yX3_begin yX3_begin ∈ wsX5_sheet := by decide +kernel
noncomputable def f_X5_sheet (κ : St5) (us : StS) (sh : St3) (x1 : Int32) (x2 : Int32) (x3 : Int32) : Option (Int32 × St3) := ((f_X5_isSheet x1).bind (fun r1 => (if r1 = 0 then some ((-1), sh) else ((f_X5_isLane x2).bind (fun r3 => (if r3 = 0 then some ((-1), sh) else (if x3 ≤ 24 then (if 0 ≤ x3 then (if inB x1 4 = true then ((f_X3_begin sh x2 x3).bind (fun r8 => some (x3, r8))) else none) else some ((-14), sh)) else some ((-1), sh))))))))
noncomputable def rmX5_sheet : Room := { frames := 2, cells := 0, slots := 0, locals := 46 }
set_option maxHeartbeats 4000000 in
set_option maxRecDepth 100000 in
theorem c_X5_sheet (l : Launch) (D : va_G) (cA : Nat → ClassId) (o : Nat → Nat → Nat) (j : Nat) (κ : St5) (us : StS) (sh : St3) (x1 : Int32) (x2 : Int32) (x3 : Int32) (hj : inB x1 4 = true → x1.toNatClampNeg = j) (res : Int32 × St3) (h : f_X5_sheet κ us sh x1 x2 x3 = some res) : CT l D cA yX5_sheet wsX5_sheet rmX5_sheet [.ref (o 0 0), .int x1, .int x2, .int x3] [w5 cA o κ, wS cA o us, w3 cA (o (9 + j)) sh] [w5 cA o κ, wS cA o us, w3 cA (o (9 + j)) res.2] (some (.int res.1)) := by
  refine CT.start (cc := cX5_sheet) (maxL := 4) (ret := (some .int)) (by decide) rfl (Nat.le_of_ble_eq_true rfl) ?_
  intro p e s m below meth c Z hP hD hS ls hl
  have Z : Cx p s m _ meth c cX5_sheet 4 (some .int) wsX5_sheet RX5 D cA := Z
  have hl : lv_has ls 4 [(0, .ref (o 0 0)), (1, .int x1), (2, .int x2), (3, .int x3)] := hl
  obtain ⟨hx, hb, hml, hown, hts, hr, hlk, hKK⟩ := id Z
  have hK := hKK.1
  rw [f_X5_sheet] at h
  refine lv_iload_n hx hb dX5_sheet_0 rfl (lv_at hl 1 rfl) ?_
  obtain ⟨r1, hr1, h⟩ := bind_inv h
  refine kS (rest := []) (st1 := [.int r1]) (cr := [w5 cA o κ, wS cA o us, w3 cA (o (9 + j)) sh]) (cs' := [w5 cA o κ, wS cA o us, w3 cA (o (9 + j)) sh]) Z (c_X5_isSheet l D cA x1 r1 hr1) 1 gX5_sheet_X5_isSheet rfl hdX5_isSheet ⟨rfl, rfl⟩ ⟨Nat.le_of_ble_eq_true rfl, Nat.le_of_ble_eq_true rfl⟩ ⟨Nat.zero_le _, Nat.zero_le _⟩ hP hD hS hl.1 rfl rfl rfl (Nat.le_of_ble_eq_true rfl) [] [0, 1, 2] [0, 1, 2] rfl rfl rfl rfl rfl dX5_sheet_1 (fun H locs hP hD hS => ?_)
  refine lv_if_eq (tgt := 20) hx hb dX5_sheet_4 (by decide) (fun hc2 => ?_) (fun hc2 => ?_)
  · rw [if_pos hc2] at h
    refine lv_iconst (v := (-1)) hx hb dX5_sheet_20 (by decide) ?_
    have h := Option.some.inj h
    subst h
    exact CT.iret Z hP hD hS dX5_sheet_21
  · rw [if_neg hc2] at h
    refine lv_iload_n hx hb dX5_sheet_7 rfl (lv_at hl 2 rfl) ?_
    obtain ⟨r3, hr3, h⟩ := bind_inv h
    refine kS (rest := []) (st1 := [.int r3]) (cr := [w5 cA o κ, wS cA o us, w3 cA (o (9 + j)) sh]) (cs' := [w5 cA o κ, wS cA o us, w3 cA (o (9 + j)) sh]) Z (c_X5_isLane l D cA x2 r3 hr3) 1 gX5_sheet_X5_isLane rfl hdX5_isLane ⟨rfl, rfl⟩ ⟨Nat.le_of_ble_eq_true rfl, Nat.le_of_ble_eq_true rfl⟩ ⟨Nat.zero_le _, Nat.zero_le _⟩ hP hD hS hl.1 rfl rfl rfl (Nat.le_of_ble_eq_true rfl) [] [0, 1, 2] [0, 1, 2] rfl rfl rfl rfl rfl dX5_sheet_8 (fun H locs hP hD hS => ?_)
    refine lv_if_eq (tgt := 20) hx hb dX5_sheet_11 (by decide) (fun hc4 => ?_) (fun hc4 => ?_)
    · rw [if_pos hc4] at h
      refine lv_iconst (v := (-1)) hx hb dX5_sheet_20 (by decide) ?_
      have h := Option.some.inj h
      subst h
      exact CT.iret Z hP hD hS dX5_sheet_21
    · rw [if_neg hc4] at h
      refine lv_iload_n hx hb dX5_sheet_14 rfl (lv_at hl 3 rfl) ?_
      refine lv_bipush (v := 24) hx hb dX5_sheet_15 (by decide) ?_
      refine lv_icmp_le (tgt := 22) hx hb dX5_sheet_17 (by decide) (fun hc5 => ?_) (fun hc5 => ?_)
      · rw [if_pos hc5] at h
        refine lv_iload_n hx hb dX5_sheet_22 rfl (lv_at hl 3 rfl) ?_
        refine lv_if_ge (tgt := 29) hx hb dX5_sheet_23 (by decide) (fun hc6 => ?_) (fun hc6 => ?_)
        · rw [if_pos hc6] at h
          refine lv_aload_n hx hb dX5_sheet_29 rfl (lv_at hl 0 rfl) ?_
          refine va_get (D := D) (ci := 5) (v := .ref (o 8 0)) (C := RX5) (T := TX5) (N := 9) hx hb hts in_X5_sheet_X5 hown hK hP 0 rfl rfl 8 (by decide) (hts _ lk_X5_sheet_52) (fun _ h9 => h9) rfl dX5_sheet_30 ?_
          refine lv_iload_n hx hb dX5_sheet_33 rfl (lv_at hl 1 rfl) ?_
          obtain ⟨hg7, h⟩ := if_inv h
          refine va_aldq hx hb hK hP 1 3 rfl rfl (inB_in hg7) dX5_sheet_34 ?_
          refine lv_eqv (v := .ref (o (9 + j) 0)) (by rw [← hj hg7]; rfl) ?_
          refine lv_iload_n hx hb dX5_sheet_35 rfl (lv_at hl 2 rfl) ?_
          refine lv_iload_n hx hb dX5_sheet_36 rfl (lv_at hl 3 rfl) ?_
          obtain ⟨r8, hr8, h⟩ := bind_inv h
          refine kVN (rest := []) (st1 := []) (cr := [w5 cA o κ, wS cA o us]) (cs' := [w5 cA o κ, wS cA o us, w3 cA (o (9 + j)) r8]) Z (c_X3_begin l D cA (o (9 + j)) sh x2 x3 r8 hr8) 2 gX5_sheet_X3_begin_n241 rfl hdX3_begin nk_X5_241 n1_X5_sheet_X3 n2_X5_sheet_X3_begin n3_X5_sheet_X3_begin ⟨rfl, rfl⟩ ⟨Nat.le_of_ble_eq_true rfl, Nat.le_of_ble_eq_true rfl⟩ ⟨Nat.zero_le _, Nat.zero_le _⟩ hP hD hS hl.1 rfl rfl rfl (Nat.le_of_ble_eq_true rfl) 3 rfl rfl rfl [2] [0, 1] [0, 1, 2] rfl rfl rfl rfl rfl dX5_sheet_37 (fun H locs hP hD hS => ?_)
          refine lv_iload_n hx hb dX5_sheet_40 rfl (lv_at hl 3 rfl) ?_
          have h := Option.some.inj h
          subst h
          exact CT.iret Z hP hD hS dX5_sheet_41
        · rw [if_neg hc6] at h
          refine lv_bipush (v := (-14)) hx hb dX5_sheet_26 (by decide) ?_
          have h := Option.some.inj h
          subst h
          exact CT.iret Z hP hD hS dX5_sheet_28
      · rw [if_neg hc5] at h
        refine lv_iconst (v := (-1)) hx hb dX5_sheet_20 (by decide) ?_
        have h := Option.some.inj h
        subst h
        exact CT.iret Z hP hD hS dX5_sheet_21

-- X5.drop
theorem lk_X5_drop_52 : Cond.fieldLink RX5 52 "KeyedFeelings" "sheets" "[LKeyedFeelings$Sheet;" ∈ wsX5_drop := by decide +kernel
theorem in_X5_drop_X5 : ∀ w ∈ wsX50, w ∈ wsX5_drop := by decide +kernel
theorem n1_X5_drop_X3 : Cond.initialized RX3 ∈ wsX5_drop := by decide +kernel
theorem n2_X5_drop_X3_isMissing : Cond.instanceMethod yX3_isMissing ∈ wsX5_drop := by decide +kernel
theorem n3_X5_drop_X3_isMissing : Cond.selects RX3 yX3_isMissing yX3_isMissing ∈ wsX5_drop := by decide +kernel
theorem in_X5_drop_X3 : ∀ w ∈ wsX30, w ∈ wsX5_drop := by decide +kernel
theorem n2_X5_drop_X3_lose : Cond.instanceMethod yX3_lose ∈ wsX5_drop := by decide +kernel
theorem n3_X5_drop_X3_lose : Cond.selects RX3 yX3_lose yX3_lose ∈ wsX5_drop := by decide +kernel
noncomputable def f_X5_drop (κ : St5) (us : StS) (sh : St3) (x1 : Int32) : Option (Int32 × St3) := ((f_X5_isSheet x1).bind (fun r1 => (if r1 = 0 then some ((-1), sh) else (if inB x1 4 = true then ((f_X3_isMissing sh).bind (fun r4 => (if r4 = 0 then (if inB x1 4 = true then (if inB x1 4 = true then ((f_X3_lose sh).bind (fun r8 => some (p3_size sh, r8))) else none) else none) else some ((-11), sh)))) else none))))
noncomputable def rmX5_drop : Room := { frames := 1, cells := 0, slots := 0, locals := 20 }
set_option maxHeartbeats 4000000 in
set_option maxRecDepth 100000 in
theorem c_X5_drop (l : Launch) (D : va_G) (cA : Nat → ClassId) (o : Nat → Nat → Nat) (j : Nat) (κ : St5) (us : StS) (sh : St3) (x1 : Int32) (hj : inB x1 4 = true → x1.toNatClampNeg = j) (res : Int32 × St3) (h : f_X5_drop κ us sh x1 = some res) : CT l D cA yX5_drop wsX5_drop rmX5_drop [.ref (o 0 0), .int x1] [w5 cA o κ, wS cA o us, w3 cA (o (9 + j)) sh] [w5 cA o κ, wS cA o us, w3 cA (o (9 + j)) res.2] (some (.int res.1)) := by
  refine CT.start (cc := cX5_drop) (maxL := 3) (ret := (some .int)) (by decide) rfl (Nat.le_of_ble_eq_true rfl) ?_
  intro p e s m below meth c Z hP hD hS ls hl
  have Z : Cx p s m _ meth c cX5_drop 3 (some .int) wsX5_drop RX5 D cA := Z
  have hl : lv_has ls 3 [(0, .ref (o 0 0)), (1, .int x1)] := hl
  obtain ⟨hx, hb, hml, hown, hts, hr, hlk, hKK⟩ := id Z
  have hK := hKK.1
  rw [f_X5_drop] at h
  refine lv_iload_n hx hb dX5_drop_0 rfl (lv_at hl 1 rfl) ?_
  obtain ⟨r1, hr1, h⟩ := bind_inv h
  refine kS (rest := []) (st1 := [.int r1]) (cr := [w5 cA o κ, wS cA o us, w3 cA (o (9 + j)) sh]) (cs' := [w5 cA o κ, wS cA o us, w3 cA (o (9 + j)) sh]) Z (c_X5_isSheet l D cA x1 r1 hr1) 1 gX5_drop_X5_isSheet rfl hdX5_isSheet ⟨rfl, rfl⟩ ⟨Nat.le_of_ble_eq_true rfl, Nat.le_of_ble_eq_true rfl⟩ ⟨Nat.zero_le _, Nat.zero_le _⟩ hP hD hS hl.1 rfl rfl rfl (Nat.le_of_ble_eq_true rfl) [] [0, 1, 2] [0, 1, 2] rfl rfl rfl rfl rfl dX5_drop_1 (fun H locs hP hD hS => ?_)
  refine lv_if_ne (tgt := 9) hx hb dX5_drop_4 (by decide) (fun hc2 => ?_) (fun hc2 => ?_)
  · rw [if_neg hc2] at h
    refine lv_aload_n hx hb dX5_drop_9 rfl (lv_at hl 0 rfl) ?_
    refine va_get (D := D) (ci := 5) (v := .ref (o 8 0)) (C := RX5) (T := TX5) (N := 9) hx hb hts in_X5_drop_X5 hown hK hP 0 rfl rfl 8 (by decide) (hts _ lk_X5_drop_52) (fun _ h9 => h9) rfl dX5_drop_10 ?_
    refine lv_iload_n hx hb dX5_drop_13 rfl (lv_at hl 1 rfl) ?_
    obtain ⟨hg3, h⟩ := if_inv h
    refine va_aldq hx hb hK hP 1 3 rfl rfl (inB_in hg3) dX5_drop_14 ?_
    refine lv_eqv (v := .ref (o (9 + j) 0)) (by rw [← hj hg3]; rfl) ?_
    obtain ⟨r4, hr4, h⟩ := bind_inv h
    refine kVN (rest := []) (st1 := [.int r4]) (cr := [w5 cA o κ, wS cA o us]) (cs' := [w5 cA o κ, wS cA o us, w3 cA (o (9 + j)) sh]) Z (c_X3_isMissing l D cA (o (9 + j)) sh r4 hr4) 0 gX5_drop_X3_isMissing_n244 rfl hdX3_isMissing nk_X5_244 n1_X5_drop_X3 n2_X5_drop_X3_isMissing n3_X5_drop_X3_isMissing ⟨rfl, rfl⟩ ⟨Nat.le_of_ble_eq_true rfl, Nat.le_of_ble_eq_true rfl⟩ ⟨Nat.zero_le _, Nat.zero_le _⟩ hP hD hS hl.1 rfl rfl rfl (Nat.le_of_ble_eq_true rfl) 3 rfl rfl rfl [2] [0, 1] [0, 1, 2] rfl rfl rfl rfl rfl dX5_drop_15 (fun H locs hP hD hS => ?_)
    refine lv_if_eq (tgt := 24) hx hb dX5_drop_18 (by decide) (fun hc5 => ?_) (fun hc5 => ?_)
    · rw [if_pos hc5] at h
      refine lv_aload_n hx hb dX5_drop_24 rfl (lv_at hl 0 rfl) ?_
      refine va_get (D := D) (ci := 5) (v := .ref (o 8 0)) (C := RX5) (T := TX5) (N := 9) hx hb hts in_X5_drop_X5 hown hK hP 0 rfl rfl 8 (by decide) (hts _ lk_X5_drop_52) (fun _ h9 => h9) rfl dX5_drop_25 ?_
      refine lv_iload_n hx hb dX5_drop_28 rfl (lv_at hl 1 rfl) ?_
      obtain ⟨hg6, h⟩ := if_inv h
      refine va_aldq hx hb hK hP 1 3 rfl rfl (inB_in hg6) dX5_drop_29 ?_
      refine lv_eqv (v := .ref (o (9 + j) 0)) (by rw [← hj hg6]; rfl) ?_
      refine va_getN (D := D) (ci := 3) (v := .int (p3_size sh)) (C := RX3) (T := TX3) (N := 3) hx hb hts in_X5_drop_X3 hown hK hP 2 rfl rfl 1 (by decide) (nest_use rfl (hKK.2 _ nk_X5_247)) (fun _ h9 => h9) rfl dX5_drop_30 ?_
      refine lv_istore_n (lv' := [(2, .int (p3_size sh)), (0, .ref (o 0 0)), (1, .int x1)]) hx hb dX5_drop_33 rfl hl (by decide) rfl (fun ls hl => ?_)
      refine lv_aload_n hx hb dX5_drop_34 rfl (lv_at hl 1 rfl) ?_
      refine va_get (D := D) (ci := 5) (v := .ref (o 8 0)) (C := RX5) (T := TX5) (N := 9) hx hb hts in_X5_drop_X5 hown hK hP 0 rfl rfl 8 (by decide) (hts _ lk_X5_drop_52) (fun _ h9 => h9) rfl dX5_drop_35 ?_
      refine lv_iload_n hx hb dX5_drop_38 rfl (lv_at hl 2 rfl) ?_
      obtain ⟨hg7, h⟩ := if_inv h
      refine va_aldq hx hb hK hP 1 3 rfl rfl (inB_in hg7) dX5_drop_39 ?_
      refine lv_eqv (v := .ref (o (9 + j) 0)) (by rw [← hj hg7]; rfl) ?_
      obtain ⟨r8, hr8, h⟩ := bind_inv h
      refine kVN (rest := []) (st1 := []) (cr := [w5 cA o κ, wS cA o us]) (cs' := [w5 cA o κ, wS cA o us, w3 cA (o (9 + j)) r8]) Z (c_X3_lose l D cA (o (9 + j)) sh r8 hr8) 0 gX5_drop_X3_lose_n248 rfl hdX3_lose nk_X5_248 n1_X5_drop_X3 n2_X5_drop_X3_lose n3_X5_drop_X3_lose ⟨rfl, rfl⟩ ⟨Nat.le_of_ble_eq_true rfl, Nat.le_of_ble_eq_true rfl⟩ ⟨Nat.zero_le _, Nat.zero_le _⟩ hP hD hS hl.1 rfl rfl rfl (Nat.le_of_ble_eq_true rfl) 3 rfl rfl rfl [2] [0, 1] [0, 1, 2] rfl rfl rfl rfl rfl dX5_drop_40 (fun H locs hP hD hS => ?_)
      refine lv_iload_n hx hb dX5_drop_43 rfl (lv_at hl 0 rfl) ?_
      have h := Option.some.inj h
      subst h
      exact CT.iret Z hP hD hS dX5_drop_44
    · rw [if_neg hc5] at h
      refine lv_bipush (v := (-11)) hx hb dX5_drop_21 (by decide) ?_
      have h := Option.some.inj h
      subst h
      exact CT.iret Z hP hD hS dX5_drop_23
  · rw [if_pos hc2] at h
    refine lv_iconst (v := (-1)) hx hb dX5_drop_7 (by decide) ?_
    have h := Option.some.inj h
    subst h
    exact CT.iret Z hP hD hS dX5_drop_8

-- X5.item
theorem lk_X5_item_52 : Cond.fieldLink RX5 52 "KeyedFeelings" "sheets" "[LKeyedFeelings$Sheet;" ∈ wsX5_item := by decide +kernel
theorem in_X5_item_X5 : ∀ w ∈ wsX50, w ∈ wsX5_item := by decide +kernel
theorem n1_X5_item_X3 : Cond.initialized RX3 ∈ wsX5_item := by decide +kernel
theorem n2_X5_item_X3_refusal : Cond.instanceMethod yX3_refusal ∈ wsX5_item := by decide +kernel
theorem n3_X5_item_X3_refusal : Cond.selects RX3 yX3_refusal yX3_refusal ∈ wsX5_item := by decide +kernel
theorem n2_X5_item_X3_put : Cond.instanceMethod yX3_put ∈ wsX5_item := by decide +kernel
theorem n3_X5_item_X3_put : Cond.selects RX3 yX3_put yX3_put ∈ wsX5_item := by decide +kernel
noncomputable def f_X5_item (κ : St5) (us : StS) (sh : St3) (x1 : Int32) (x2 : Int32) (x3 : Int32) (x4 : Int64) : Option (Int32 × St3) := ((f_X5_isSheet x1).bind (fun r1 => (if r1 = 0 then some ((-1), sh) else ((f_X5_isLane x2).bind (fun r3 => (if r3 = 0 then some ((-1), sh) else (if inB x1 4 = true then ((f_X3_refusal sh x2 x3 1).bind (fun r6 => (if r6 = 0 then (if inB x1 4 = true then ((f_X3_put sh x3 x4).bind (fun r9 => some (1, r9))) else none) else some (r6, sh)))) else none)))))))
noncomputable def rmX5_item : Room := { frames := 2, cells := 0, slots := 0, locals := 45 }
set_option maxHeartbeats 4000000 in
set_option maxRecDepth 100000 in
theorem c_X5_item (l : Launch) (D : va_G) (cA : Nat → ClassId) (o : Nat → Nat → Nat) (j : Nat) (κ : St5) (us : StS) (sh : St3) (x1 : Int32) (x2 : Int32) (x3 : Int32) (x4 : Int64) (hj : inB x1 4 = true → x1.toNatClampNeg = j) (res : Int32 × St3) (h : f_X5_item κ us sh x1 x2 x3 x4 = some res) : CT l D cA yX5_item wsX5_item rmX5_item [.ref (o 0 0), .int x1, .int x2, .int x3, .long x4] [w5 cA o κ, wS cA o us, w3 cA (o (9 + j)) sh] [w5 cA o κ, wS cA o us, w3 cA (o (9 + j)) res.2] (some (.int res.1)) := by
  refine CT.start (cc := cX5_item) (maxL := 7) (ret := (some .int)) (by decide) rfl (Nat.le_of_ble_eq_true rfl) ?_
  intro p e s m below meth c Z hP hD hS ls hl
  have Z : Cx p s m _ meth c cX5_item 7 (some .int) wsX5_item RX5 D cA := Z
  have hl : lv_has ls 7 [(0, .ref (o 0 0)), (1, .int x1), (2, .int x2), (3, .int x3), (4, .long x4)] := hl
  obtain ⟨hx, hb, hml, hown, hts, hr, hlk, hKK⟩ := id Z
  have hK := hKK.1
  rw [f_X5_item] at h
  refine lv_iload_n hx hb dX5_item_0 rfl (lv_at hl 1 rfl) ?_
  obtain ⟨r1, hr1, h⟩ := bind_inv h
  refine kS (rest := []) (st1 := [.int r1]) (cr := [w5 cA o κ, wS cA o us, w3 cA (o (9 + j)) sh]) (cs' := [w5 cA o κ, wS cA o us, w3 cA (o (9 + j)) sh]) Z (c_X5_isSheet l D cA x1 r1 hr1) 1 gX5_item_X5_isSheet rfl hdX5_isSheet ⟨rfl, rfl⟩ ⟨Nat.le_of_ble_eq_true rfl, Nat.le_of_ble_eq_true rfl⟩ ⟨Nat.zero_le _, Nat.zero_le _⟩ hP hD hS hl.1 rfl rfl rfl (Nat.le_of_ble_eq_true rfl) [] [0, 1, 2] [0, 1, 2] rfl rfl rfl rfl rfl dX5_item_1 (fun H locs hP hD hS => ?_)
  refine lv_if_eq (tgt := 14) hx hb dX5_item_4 (by decide) (fun hc2 => ?_) (fun hc2 => ?_)
  · rw [if_pos hc2] at h
    refine lv_iconst (v := (-1)) hx hb dX5_item_14 (by decide) ?_
    have h := Option.some.inj h
    subst h
    exact CT.iret Z hP hD hS dX5_item_15
  · rw [if_neg hc2] at h
    refine lv_iload_n hx hb dX5_item_7 rfl (lv_at hl 2 rfl) ?_
    obtain ⟨r3, hr3, h⟩ := bind_inv h
    refine kS (rest := []) (st1 := [.int r3]) (cr := [w5 cA o κ, wS cA o us, w3 cA (o (9 + j)) sh]) (cs' := [w5 cA o κ, wS cA o us, w3 cA (o (9 + j)) sh]) Z (c_X5_isLane l D cA x2 r3 hr3) 1 gX5_item_X5_isLane rfl hdX5_isLane ⟨rfl, rfl⟩ ⟨Nat.le_of_ble_eq_true rfl, Nat.le_of_ble_eq_true rfl⟩ ⟨Nat.zero_le _, Nat.zero_le _⟩ hP hD hS hl.1 rfl rfl rfl (Nat.le_of_ble_eq_true rfl) [] [0, 1, 2] [0, 1, 2] rfl rfl rfl rfl rfl dX5_item_8 (fun H locs hP hD hS => ?_)
    refine lv_if_ne (tgt := 16) hx hb dX5_item_11 (by decide) (fun hc4 => ?_) (fun hc4 => ?_)
    · rw [if_neg hc4] at h
      refine lv_aload_n hx hb dX5_item_16 rfl (lv_at hl 0 rfl) ?_
      refine va_get (D := D) (ci := 5) (v := .ref (o 8 0)) (C := RX5) (T := TX5) (N := 9) hx hb hts in_X5_item_X5 hown hK hP 0 rfl rfl 8 (by decide) (hts _ lk_X5_item_52) (fun _ h9 => h9) rfl dX5_item_17 ?_
      refine lv_iload_n hx hb dX5_item_20 rfl (lv_at hl 1 rfl) ?_
      obtain ⟨hg5, h⟩ := if_inv h
      refine va_aldq hx hb hK hP 1 3 rfl rfl (inB_in hg5) dX5_item_21 ?_
      refine lv_eqv (v := .ref (o (9 + j) 0)) (by rw [← hj hg5]; rfl) ?_
      refine lv_iload_n hx hb dX5_item_22 rfl (lv_at hl 2 rfl) ?_
      refine lv_iload_n hx hb dX5_item_23 rfl (lv_at hl 3 rfl) ?_
      refine lv_iconst (v := 1) hx hb dX5_item_24 (by decide) ?_
      obtain ⟨r6, hr6, h⟩ := bind_inv h
      refine kVN (rest := []) (st1 := [.int r6]) (cr := [w5 cA o κ, wS cA o us]) (cs' := [w5 cA o κ, wS cA o us, w3 cA (o (9 + j)) sh]) Z (c_X3_refusal l D cA (o (9 + j)) sh x2 x3 1 r6 hr6) 3 gX5_item_X3_refusal_n230 rfl hdX3_refusal nk_X5_230 n1_X5_item_X3 n2_X5_item_X3_refusal n3_X5_item_X3_refusal ⟨rfl, rfl⟩ ⟨Nat.le_of_ble_eq_true rfl, Nat.le_of_ble_eq_true rfl⟩ ⟨Nat.zero_le _, Nat.zero_le _⟩ hP hD hS hl.1 rfl rfl rfl (Nat.le_of_ble_eq_true rfl) 3 rfl rfl rfl [2] [0, 1] [0, 1, 2] rfl rfl rfl rfl rfl dX5_item_25 (fun H locs hP hD hS => ?_)
      refine lv_istore (lv' := [(6, .int r6), (0, .ref (o 0 0)), (1, .int x1), (2, .int x2), (3, .int x3), (4, .long x4)]) hx hb dX5_item_28 hl (by decide) rfl (fun ls hl => ?_)
      refine lv_iload hx hb dX5_item_30 (lv_at hl 0 rfl) ?_
      refine lv_if_eq (tgt := 38) hx hb dX5_item_32 (by decide) (fun hc7 => ?_) (fun hc7 => ?_)
      · rw [if_pos hc7] at h
        refine lv_aload_n hx hb dX5_item_38 rfl (lv_at hl 1 rfl) ?_
        refine va_get (D := D) (ci := 5) (v := .ref (o 8 0)) (C := RX5) (T := TX5) (N := 9) hx hb hts in_X5_item_X5 hown hK hP 0 rfl rfl 8 (by decide) (hts _ lk_X5_item_52) (fun _ h9 => h9) rfl dX5_item_39 ?_
        refine lv_iload_n hx hb dX5_item_42 rfl (lv_at hl 2 rfl) ?_
        obtain ⟨hg8, h⟩ := if_inv h
        refine va_aldq hx hb hK hP 1 3 rfl rfl (inB_in hg8) dX5_item_43 ?_
        refine lv_eqv (v := .ref (o (9 + j) 0)) (by rw [← hj hg8]; rfl) ?_
        refine lv_iload_n hx hb dX5_item_44 rfl (lv_at hl 4 rfl) ?_
        refine lv_lload hx hb dX5_item_45 (lv_at hl 5 rfl) ?_
        obtain ⟨r9, hr9, h⟩ := bind_inv h
        refine kVN (rest := []) (st1 := []) (cr := [w5 cA o κ, wS cA o us]) (cs' := [w5 cA o κ, wS cA o us, w3 cA (o (9 + j)) r9]) Z (c_X3_put l D cA (o (9 + j)) sh x3 x4 r9 hr9) 2 gX5_item_X3_put_n237 rfl hdX3_put nk_X5_237 n1_X5_item_X3 n2_X5_item_X3_put n3_X5_item_X3_put ⟨rfl, rfl⟩ ⟨Nat.le_of_ble_eq_true rfl, Nat.le_of_ble_eq_true rfl⟩ ⟨Nat.zero_le _, Nat.zero_le _⟩ hP hD hS hl.1 rfl rfl rfl (Nat.le_of_ble_eq_true rfl) 3 rfl rfl rfl [2] [0, 1] [0, 1, 2] rfl rfl rfl rfl rfl dX5_item_47 (fun H locs hP hD hS => ?_)
        refine lv_iconst (v := 1) hx hb dX5_item_50 (by decide) ?_
        have h := Option.some.inj h
        subst h
        exact CT.iret Z hP hD hS dX5_item_51
      · rw [if_neg hc7] at h
        refine lv_iload hx hb dX5_item_35 (lv_at hl 0 rfl) ?_
        have h := Option.some.inj h
        subst h
        exact CT.iret Z hP hD hS dX5_item_37
    · rw [if_pos hc4] at h
      refine lv_iconst (v := (-1)) hx hb dX5_item_14 (by decide) ?_
      have h := Option.some.inj h
      subst h
      exact CT.iret Z hP hD hS dX5_item_15

-- X5.copy
theorem lk_X5_copy_52 : Cond.fieldLink RX5 52 "KeyedFeelings" "sheets" "[LKeyedFeelings$Sheet;" ∈ wsX5_copy := by decide +kernel
theorem in_X5_copy_X5 : ∀ w ∈ wsX50, w ∈ wsX5_copy := by decide +kernel
theorem n1_X5_copy_X3 : Cond.initialized RX3 ∈ wsX5_copy := by decide +kernel
theorem n2_X5_copy_X3_isMissing : Cond.instanceMethod yX3_isMissing ∈ wsX5_copy := by decide +kernel
theorem n3_X5_copy_X3_isMissing : Cond.selects RX3 yX3_isMissing yX3_isMissing ∈ wsX5_copy := by decide +kernel
theorem in_X5_copy_X3 : ∀ w ∈ wsX30, w ∈ wsX5_copy := by decide +kernel
theorem n2_X5_copy_X3_holds : Cond.instanceMethod yX3_holds ∈ wsX5_copy := by decide +kernel
theorem n3_X5_copy_X3_holds : Cond.selects RX3 yX3_holds yX3_holds ∈ wsX5_copy := by decide +kernel
theorem am_X5_copy : Cond.methodLink RX5 262 arraycopyName ∈ wsX5_copy := by decide +kernel
theorem an_X5_copy : Cond.native arraycopyName ∈ wsX5_copy := by decide +kernel
theorem as_X5_copy : Cond.static arraycopyName ∈ wsX5_copy := by decide +kernel
theorem ai_X5_copy : Cond.initialized "java/lang/System" ∈ wsX5_copy := by decide +kernel
noncomputable def f_X5_copy (κ : St5) (us : StS) (sh : St3) (sh2 : St3) (x1 : Int32) (x2 : Int32) (x3 : Int32) (x4 : Int32) (x5 : Int32) : Option (Int32 × St3) := ((f_X5_isSheet x1).bind (fun r1 => (if r1 = 0 then some ((-1), sh2) else ((f_X5_isSheet x3).bind (fun r3 => (if r3 = 0 then some ((-1), sh2) else (if inB x1 4 = true then (if inB x3 4 = true then ((f_X3_isMissing sh).bind (fun r7 => (if r7 = 0 then ((f_X3_isMissing sh2).bind (fun r9 => (if r9 = 0 then (if (p3_lane sh) = (p3_lane sh2) then ((f_X3_holds sh x2 x5).bind (fun r12 => (if r12 = 0 then some ((-13), sh2) else ((f_X3_holds sh2 x4 x5).bind (fun r14 => (if r14 = 0 then some ((-13), sh2) else (if ¬ x2 < 0 ∧ ¬ x4 < 0 ∧ ¬ x5 < 0 ∧ x2.toNatClampNeg + x5.toNatClampNeg ≤ 24 ∧ x4.toNatClampNeg + x5.toNatClampNeg ≤ 24 then some (x5, (s3_items sh2 (va_cpy (p3_items sh) (p3_items sh2) x2.toNatClampNeg x4.toNatClampNeg x5.toNatClampNeg))) else none))))))) else some ((-12), sh2)) else some ((-11), sh2)))) else some ((-11), sh2)))) else none) else none)))))))
noncomputable def rmX5_copy : Room := { frames := 1, cells := 0, slots := 0, locals := 60 }
set_option maxHeartbeats 4000000 in
set_option maxRecDepth 100000 in
theorem c_X5_copy (l : Launch) (D : va_G) (cA : Nat → ClassId) (o : Nat → Nat → Nat) (j : Nat) (j2 : Nat) (κ : St5) (us : StS) (sh : St3) (sh2 : St3) (x1 : Int32) (x2 : Int32) (x3 : Int32) (x4 : Int32) (x5 : Int32) (hj : inB x1 4 = true → x1.toNatClampNeg = j) (hj2 : inB x3 4 = true → x3.toNatClampNeg = j2) (res : Int32 × St3) (h : f_X5_copy κ us sh sh2 x1 x2 x3 x4 x5 = some res) : CT l D cA yX5_copy wsX5_copy rmX5_copy [.ref (o 0 0), .int x1, .int x2, .int x3, .int x4, .int x5] [w5 cA o κ, wS cA o us, w3 cA (o (9 + j)) sh, w3 cA (o (9 + j2)) sh2] [w5 cA o κ, wS cA o us, w3 cA (o (9 + j)) sh, w3 cA (o (9 + j2)) res.2] (some (.int res.1)) := by
  refine CT.start (cc := cX5_copy) (maxL := 8) (ret := (some .int)) (by decide) rfl (Nat.le_of_ble_eq_true rfl) ?_
  intro p e s m below meth c Z hP hD hS ls hl
  have Z : Cx p s m _ meth c cX5_copy 8 (some .int) wsX5_copy RX5 D cA := Z
  have hl : lv_has ls 8 [(0, .ref (o 0 0)), (1, .int x1), (2, .int x2), (3, .int x3), (4, .int x4), (5, .int x5)] := hl
  obtain ⟨hx, hb, hml, hown, hts, hr, hlk, hKK⟩ := id Z
  have hK := hKK.1
  rw [f_X5_copy] at h
  refine lv_iload_n hx hb dX5_copy_0 rfl (lv_at hl 1 rfl) ?_
  obtain ⟨r1, hr1, h⟩ := bind_inv h
  refine kS (rest := []) (st1 := [.int r1]) (cr := [w5 cA o κ, wS cA o us, w3 cA (o (9 + j)) sh, w3 cA (o (9 + j2)) sh2]) (cs' := [w5 cA o κ, wS cA o us, w3 cA (o (9 + j)) sh, w3 cA (o (9 + j2)) sh2]) Z (c_X5_isSheet l D cA x1 r1 hr1) 1 gX5_copy_X5_isSheet rfl hdX5_isSheet ⟨rfl, rfl⟩ ⟨Nat.le_of_ble_eq_true rfl, Nat.le_of_ble_eq_true rfl⟩ ⟨Nat.zero_le _, Nat.zero_le _⟩ hP hD hS hl.1 rfl rfl rfl (Nat.le_of_ble_eq_true rfl) [] [0, 1, 2, 3] [0, 1, 2, 3] rfl rfl rfl rfl rfl dX5_copy_1 (fun H locs hP hD hS => ?_)
  refine lv_if_eq (tgt := 14) hx hb dX5_copy_4 (by decide) (fun hc2 => ?_) (fun hc2 => ?_)
  · rw [if_pos hc2] at h
    refine lv_iconst (v := (-1)) hx hb dX5_copy_14 (by decide) ?_
    have h := Option.some.inj h
    subst h
    exact CT.iret Z hP hD hS dX5_copy_15
  · rw [if_neg hc2] at h
    refine lv_iload_n hx hb dX5_copy_7 rfl (lv_at hl 3 rfl) ?_
    obtain ⟨r3, hr3, h⟩ := bind_inv h
    refine kS (rest := []) (st1 := [.int r3]) (cr := [w5 cA o κ, wS cA o us, w3 cA (o (9 + j)) sh, w3 cA (o (9 + j2)) sh2]) (cs' := [w5 cA o κ, wS cA o us, w3 cA (o (9 + j)) sh, w3 cA (o (9 + j2)) sh2]) Z (c_X5_isSheet l D cA x3 r3 hr3) 1 gX5_copy_X5_isSheet rfl hdX5_isSheet ⟨rfl, rfl⟩ ⟨Nat.le_of_ble_eq_true rfl, Nat.le_of_ble_eq_true rfl⟩ ⟨Nat.zero_le _, Nat.zero_le _⟩ hP hD hS hl.1 rfl rfl rfl (Nat.le_of_ble_eq_true rfl) [] [0, 1, 2, 3] [0, 1, 2, 3] rfl rfl rfl rfl rfl dX5_copy_8 (fun H locs hP hD hS => ?_)
    refine lv_if_ne (tgt := 16) hx hb dX5_copy_11 (by decide) (fun hc4 => ?_) (fun hc4 => ?_)
    · rw [if_neg hc4] at h
      refine lv_aload_n hx hb dX5_copy_16 rfl (lv_at hl 0 rfl) ?_
      refine va_get (D := D) (ci := 5) (v := .ref (o 8 0)) (C := RX5) (T := TX5) (N := 9) hx hb hts in_X5_copy_X5 hown hK hP 0 rfl rfl 8 (by decide) (hts _ lk_X5_copy_52) (fun _ h9 => h9) rfl dX5_copy_17 ?_
      refine lv_iload_n hx hb dX5_copy_20 rfl (lv_at hl 1 rfl) ?_
      obtain ⟨hg5, h⟩ := if_inv h
      refine va_aldq hx hb hK hP 1 3 rfl rfl (inB_in hg5) dX5_copy_21 ?_
      refine lv_eqv (v := .ref (o (9 + j) 0)) (by rw [← hj hg5]; rfl) ?_
      refine lv_astore (lv' := [(6, .ref (o (9 + j) 0)), (0, .ref (o 0 0)), (1, .int x1), (2, .int x2), (3, .int x3), (4, .int x4), (5, .int x5)]) hx hb dX5_copy_22 hl (by decide) rfl (fun ls hl => ?_)
      refine lv_aload_n hx hb dX5_copy_24 rfl (lv_at hl 1 rfl) ?_
      refine va_get (D := D) (ci := 5) (v := .ref (o 8 0)) (C := RX5) (T := TX5) (N := 9) hx hb hts in_X5_copy_X5 hown hK hP 0 rfl rfl 8 (by decide) (hts _ lk_X5_copy_52) (fun _ h9 => h9) rfl dX5_copy_25 ?_
      refine lv_iload_n hx hb dX5_copy_28 rfl (lv_at hl 4 rfl) ?_
      obtain ⟨hg6, h⟩ := if_inv h
      refine va_aldq hx hb hK hP 1 3 rfl rfl (inB_in hg6) dX5_copy_29 ?_
      refine lv_eqv (v := .ref (o (9 + j2) 0)) (by rw [← hj2 hg6]; rfl) ?_
      refine lv_astore (lv' := [(7, .ref (o (9 + j2) 0)), (6, .ref (o (9 + j) 0)), (0, .ref (o 0 0)), (1, .int x1), (2, .int x2), (3, .int x3), (4, .int x4), (5, .int x5)]) hx hb dX5_copy_30 hl (by decide) rfl (fun ls hl => ?_)
      refine lv_aload hx hb dX5_copy_32 (lv_at hl 1 rfl) ?_
      obtain ⟨r7, hr7, h⟩ := bind_inv h
      refine kVN (rest := []) (st1 := [.int r7]) (cr := [w5 cA o κ, wS cA o us, w3 cA (o (9 + j2)) sh2]) (cs' := [w5 cA o κ, wS cA o us, w3 cA (o (9 + j)) sh, w3 cA (o (9 + j2)) sh2]) Z (c_X3_isMissing l D cA (o (9 + j)) sh r7 hr7) 0 gX5_copy_X3_isMissing_n244 rfl hdX3_isMissing nk_X5_244 n1_X5_copy_X3 n2_X5_copy_X3_isMissing n3_X5_copy_X3_isMissing ⟨rfl, rfl⟩ ⟨Nat.le_of_ble_eq_true rfl, Nat.le_of_ble_eq_true rfl⟩ ⟨Nat.zero_le _, Nat.zero_le _⟩ hP hD hS hl.1 rfl rfl rfl (Nat.le_of_ble_eq_true rfl) 3 rfl rfl rfl [2] [0, 1, 3] [0, 1, 3, 2] rfl rfl rfl rfl rfl dX5_copy_34 (fun H locs hP hD hS => ?_)
      refine lv_if_ne (tgt := 48) hx hb dX5_copy_37 (by decide) (fun hc8 => ?_) (fun hc8 => ?_)
      · rw [if_neg hc8] at h
        refine lv_bipush (v := (-11)) hx hb dX5_copy_48 (by decide) ?_
        have h := Option.some.inj h
        subst h
        exact CT.iret Z hP hD hS dX5_copy_50
      · rw [if_pos hc8] at h
        refine lv_aload hx hb dX5_copy_40 (lv_at hl 0 rfl) ?_
        obtain ⟨r9, hr9, h⟩ := bind_inv h
        refine kVN (rest := []) (st1 := [.int r9]) (cr := [w5 cA o κ, wS cA o us, w3 cA (o (9 + j)) sh]) (cs' := [w5 cA o κ, wS cA o us, w3 cA (o (9 + j)) sh, w3 cA (o (9 + j2)) sh2]) Z (c_X3_isMissing l D cA (o (9 + j2)) sh2 r9 hr9) 0 gX5_copy_X3_isMissing_n244 rfl hdX3_isMissing nk_X5_244 n1_X5_copy_X3 n2_X5_copy_X3_isMissing n3_X5_copy_X3_isMissing ⟨rfl, rfl⟩ ⟨Nat.le_of_ble_eq_true rfl, Nat.le_of_ble_eq_true rfl⟩ ⟨Nat.zero_le _, Nat.zero_le _⟩ hP hD hS hl.1 rfl rfl rfl (Nat.le_of_ble_eq_true rfl) 3 rfl rfl rfl [3] [0, 1, 2] [0, 1, 2, 3] rfl rfl rfl rfl rfl dX5_copy_42 (fun H locs hP hD hS => ?_)
        refine lv_if_eq (tgt := 51) hx hb dX5_copy_45 (by decide) (fun hc10 => ?_) (fun hc10 => ?_)
        · rw [if_pos hc10] at h
          refine lv_aload hx hb dX5_copy_51 (lv_at hl 1 rfl) ?_
          refine va_getN (D := D) (ci := 3) (v := .int (p3_lane sh)) (C := RX3) (T := TX3) (N := 3) hx hb hts in_X5_copy_X3 hown hK hP 2 rfl rfl 0 (by decide) (nest_use rfl (hKK.2 _ nk_X5_251)) (fun _ h9 => h9) rfl dX5_copy_53 ?_
          refine lv_aload hx hb dX5_copy_56 (lv_at hl 0 rfl) ?_
          refine va_getN (D := D) (ci := 3) (v := .int (p3_lane sh2)) (C := RX3) (T := TX3) (N := 3) hx hb hts in_X5_copy_X3 hown hK hP 4 rfl rfl 0 (by decide) (nest_use rfl (hKK.2 _ nk_X5_251)) (fun _ h9 => h9) rfl dX5_copy_58 ?_
          refine lv_icmp_eq (tgt := 67) hx hb dX5_copy_61 (by decide) (fun hc11 => ?_) (fun hc11 => ?_)
          · rw [if_pos hc11] at h
            refine lv_aload hx hb dX5_copy_67 (lv_at hl 1 rfl) ?_
            refine lv_iload_n hx hb dX5_copy_69 rfl (lv_at hl 4 rfl) ?_
            refine lv_iload hx hb dX5_copy_70 (lv_at hl 7 rfl) ?_
            obtain ⟨r12, hr12, h⟩ := bind_inv h
            refine kVN (rest := []) (st1 := [.int r12]) (cr := [w5 cA o κ, wS cA o us, w3 cA (o (9 + j2)) sh2]) (cs' := [w5 cA o κ, wS cA o us, w3 cA (o (9 + j)) sh, w3 cA (o (9 + j2)) sh2]) Z (c_X3_holds l D cA (o (9 + j)) sh x2 x5 r12 hr12) 2 gX5_copy_X3_holds_n254 rfl hdX3_holds nk_X5_254 n1_X5_copy_X3 n2_X5_copy_X3_holds n3_X5_copy_X3_holds ⟨rfl, rfl⟩ ⟨Nat.le_of_ble_eq_true rfl, Nat.le_of_ble_eq_true rfl⟩ ⟨Nat.zero_le _, Nat.zero_le _⟩ hP hD hS hl.1 rfl rfl rfl (Nat.le_of_ble_eq_true rfl) 3 rfl rfl rfl [2] [0, 1, 3] [0, 1, 3, 2] rfl rfl rfl rfl rfl dX5_copy_72 (fun H locs hP hD hS => ?_)
            refine lv_if_eq (tgt := 90) hx hb dX5_copy_75 (by decide) (fun hc13 => ?_) (fun hc13 => ?_)
            · rw [if_pos hc13] at h
              refine lv_bipush (v := (-13)) hx hb dX5_copy_90 (by decide) ?_
              have h := Option.some.inj h
              subst h
              exact CT.iret Z hP hD hS dX5_copy_92
            · rw [if_neg hc13] at h
              refine lv_aload hx hb dX5_copy_78 (lv_at hl 0 rfl) ?_
              refine lv_iload hx hb dX5_copy_80 (lv_at hl 6 rfl) ?_
              refine lv_iload hx hb dX5_copy_82 (lv_at hl 7 rfl) ?_
              obtain ⟨r14, hr14, h⟩ := bind_inv h
              refine kVN (rest := []) (st1 := [.int r14]) (cr := [w5 cA o κ, wS cA o us, w3 cA (o (9 + j)) sh]) (cs' := [w5 cA o κ, wS cA o us, w3 cA (o (9 + j)) sh, w3 cA (o (9 + j2)) sh2]) Z (c_X3_holds l D cA (o (9 + j2)) sh2 x4 x5 r14 hr14) 2 gX5_copy_X3_holds_n254 rfl hdX3_holds nk_X5_254 n1_X5_copy_X3 n2_X5_copy_X3_holds n3_X5_copy_X3_holds ⟨rfl, rfl⟩ ⟨Nat.le_of_ble_eq_true rfl, Nat.le_of_ble_eq_true rfl⟩ ⟨Nat.zero_le _, Nat.zero_le _⟩ hP hD hS hl.1 rfl rfl rfl (Nat.le_of_ble_eq_true rfl) 3 rfl rfl rfl [3] [0, 1, 2] [0, 1, 2, 3] rfl rfl rfl rfl rfl dX5_copy_84 (fun H locs hP hD hS => ?_)
              refine lv_if_ne (tgt := 93) hx hb dX5_copy_87 (by decide) (fun hc15 => ?_) (fun hc15 => ?_)
              · rw [if_neg hc15] at h
                refine lv_aload hx hb dX5_copy_93 (lv_at hl 1 rfl) ?_
                refine va_getN (D := D) (ci := 3) (v := .ref (o (9 + j) 1)) (C := RX3) (T := TX3) (N := 3) hx hb hts in_X5_copy_X3 hown hK hP 2 rfl rfl 2 (by decide) (nest_use rfl (hKK.2 _ nk_X5_258)) (fun _ h9 => h9) rfl dX5_copy_95 ?_
                refine lv_iload_n hx hb dX5_copy_98 rfl (lv_at hl 4 rfl) ?_
                refine lv_aload hx hb dX5_copy_99 (lv_at hl 0 rfl) ?_
                refine va_getN (D := D) (ci := 3) (v := .ref (o (9 + j2) 1)) (C := RX3) (T := TX3) (N := 3) hx hb hts in_X5_copy_X3 hown hK hP 4 rfl rfl 2 (by decide) (nest_use rfl (hKK.2 _ nk_X5_258)) (fun _ h9 => h9) rfl dX5_copy_101 ?_
                refine lv_iload hx hb dX5_copy_104 (lv_at hl 6 rfl) ?_
                refine lv_iload hx hb dX5_copy_106 (lv_at hl 7 rfl) ?_
                obtain ⟨hg16, h⟩ := if_inv h
                refine va_copyl hx hb (hml.trans hl.1.symm) hown (hts _ am_X5_copy) (hts _ an_X5_copy) (hts _ as_X5_copy) (hts _ ai_X5_copy) hK hP hD hS 3 5 1 1 rfl rfl rfl rfl rfl hg16.1 hg16.2.1 hg16.2.2.1 hg16.2.2.2.1 hg16.2.2.2.2 (fun _ _ => rfl) (Nat.le_of_ble_eq_true rfl) (Nat.le_of_ble_eq_true rfl) dX5_copy_108 (fun H locs hP hD hS => ?_)
                have hP : va_P D vwCl ([w5 cA o κ, wS cA o us, w3 cA (o (9 + j)) sh, w3 cA (o (9 + j2)) (s3_items sh2 (va_cpy (p3_items sh) (p3_items sh2) x2.toNatClampNeg x4.toNatClampNeg x5.toNatClampNeg))] : List va_W).flatten H := hP
                have hD : va_D _ ([w5 cA o κ, wS cA o us, w3 cA (o (9 + j)) sh, w3 cA (o (9 + j2)) (s3_items sh2 (va_cpy (p3_items sh) (p3_items sh2) x2.toNatClampNeg x4.toNatClampNeg x5.toNatClampNeg))] : List va_W).flatten := hD
                refine lv_iload hx hb dX5_copy_111 (lv_at hl 7 rfl) ?_
                have h := Option.some.inj h
                subst h
                exact CT.iret Z hP hD hS dX5_copy_113
              · rw [if_pos hc15] at h
                refine lv_bipush (v := (-13)) hx hb dX5_copy_90 (by decide) ?_
                have h := Option.some.inj h
                subst h
                exact CT.iret Z hP hD hS dX5_copy_92
          · rw [if_neg hc11] at h
            refine lv_bipush (v := (-12)) hx hb dX5_copy_64 (by decide) ?_
            have h := Option.some.inj h
            subst h
            exact CT.iret Z hP hD hS dX5_copy_66
        · rw [if_neg hc10] at h
          refine lv_bipush (v := (-11)) hx hb dX5_copy_48 (by decide) ?_
          have h := Option.some.inj h
          subst h
          exact CT.iret Z hP hD hS dX5_copy_50
    · rw [if_pos hc4] at h
      refine lv_iconst (v := (-1)) hx hb dX5_copy_14 (by decide) ?_
      have h := Option.some.inj h
      subst h
      exact CT.iret Z hP hD hS dX5_copy_15

-- X5.copy
noncomputable def f_X5_copyS (κ : St5) (us : StS) (sh : St3) (x1 : Int32) (x2 : Int32) (x3 : Int32) (x4 : Int32) (x5 : Int32) : Option (Int32 × St3) := ((f_X5_isSheet x1).bind (fun r1 => (if r1 = 0 then some ((-1), sh) else ((f_X5_isSheet x3).bind (fun r3 => (if r3 = 0 then some ((-1), sh) else (if inB x1 4 = true then (if inB x3 4 = true then ((f_X3_isMissing sh).bind (fun r7 => (if r7 = 0 then ((f_X3_isMissing sh).bind (fun r9 => (if r9 = 0 then (if (p3_lane sh) = (p3_lane sh) then ((f_X3_holds sh x2 x5).bind (fun r12 => (if r12 = 0 then some ((-13), sh) else ((f_X3_holds sh x4 x5).bind (fun r14 => (if r14 = 0 then some ((-13), sh) else (if ¬ x2 < 0 ∧ ¬ x4 < 0 ∧ ¬ x5 < 0 ∧ x2.toNatClampNeg + x5.toNatClampNeg ≤ 24 ∧ x4.toNatClampNeg + x5.toNatClampNeg ≤ 24 then some (x5, (s3_items sh (va_cpy (p3_items sh) (p3_items sh) x2.toNatClampNeg x4.toNatClampNeg x5.toNatClampNeg))) else none))))))) else some ((-12), sh)) else some ((-11), sh)))) else some ((-11), sh)))) else none) else none)))))))
noncomputable def rmX5_copyS : Room := { frames := 1, cells := 0, slots := 0, locals := 60 }
set_option maxHeartbeats 4000000 in
set_option maxRecDepth 100000 in
theorem c_X5_copyS (l : Launch) (D : va_G) (cA : Nat → ClassId) (o : Nat → Nat → Nat) (j : Nat) (κ : St5) (us : StS) (sh : St3) (x1 : Int32) (x2 : Int32) (x3 : Int32) (x4 : Int32) (x5 : Int32) (hj : inB x1 4 = true → x1.toNatClampNeg = j) (hj2 : inB x3 4 = true → x3.toNatClampNeg = j) (res : Int32 × St3) (h : f_X5_copyS κ us sh x1 x2 x3 x4 x5 = some res) : CT l D cA yX5_copy wsX5_copy rmX5_copyS [.ref (o 0 0), .int x1, .int x2, .int x3, .int x4, .int x5] [w5 cA o κ, wS cA o us, w3 cA (o (9 + j)) sh] [w5 cA o κ, wS cA o us, w3 cA (o (9 + j)) res.2] (some (.int res.1)) := by
  refine CT.start (cc := cX5_copy) (maxL := 8) (ret := (some .int)) (by decide) rfl (Nat.le_of_ble_eq_true rfl) ?_
  intro p e s m below meth c Z hP hD hS ls hl
  have Z : Cx p s m _ meth c cX5_copy 8 (some .int) wsX5_copy RX5 D cA := Z
  have hl : lv_has ls 8 [(0, .ref (o 0 0)), (1, .int x1), (2, .int x2), (3, .int x3), (4, .int x4), (5, .int x5)] := hl
  obtain ⟨hx, hb, hml, hown, hts, hr, hlk, hKK⟩ := id Z
  have hK := hKK.1
  rw [f_X5_copyS] at h
  refine lv_iload_n hx hb dX5_copy_0 rfl (lv_at hl 1 rfl) ?_
  obtain ⟨r1, hr1, h⟩ := bind_inv h
  refine kS (rest := []) (st1 := [.int r1]) (cr := [w5 cA o κ, wS cA o us, w3 cA (o (9 + j)) sh]) (cs' := [w5 cA o κ, wS cA o us, w3 cA (o (9 + j)) sh]) Z (c_X5_isSheet l D cA x1 r1 hr1) 1 gX5_copy_X5_isSheet rfl hdX5_isSheet ⟨rfl, rfl⟩ ⟨Nat.le_of_ble_eq_true rfl, Nat.le_of_ble_eq_true rfl⟩ ⟨Nat.zero_le _, Nat.zero_le _⟩ hP hD hS hl.1 rfl rfl rfl (Nat.le_of_ble_eq_true rfl) [] [0, 1, 2] [0, 1, 2] rfl rfl rfl rfl rfl dX5_copy_1 (fun H locs hP hD hS => ?_)
  refine lv_if_eq (tgt := 14) hx hb dX5_copy_4 (by decide) (fun hc2 => ?_) (fun hc2 => ?_)
  · rw [if_pos hc2] at h
    refine lv_iconst (v := (-1)) hx hb dX5_copy_14 (by decide) ?_
    have h := Option.some.inj h
    subst h
    exact CT.iret Z hP hD hS dX5_copy_15
  · rw [if_neg hc2] at h
    refine lv_iload_n hx hb dX5_copy_7 rfl (lv_at hl 3 rfl) ?_
    obtain ⟨r3, hr3, h⟩ := bind_inv h
    refine kS (rest := []) (st1 := [.int r3]) (cr := [w5 cA o κ, wS cA o us, w3 cA (o (9 + j)) sh]) (cs' := [w5 cA o κ, wS cA o us, w3 cA (o (9 + j)) sh]) Z (c_X5_isSheet l D cA x3 r3 hr3) 1 gX5_copy_X5_isSheet rfl hdX5_isSheet ⟨rfl, rfl⟩ ⟨Nat.le_of_ble_eq_true rfl, Nat.le_of_ble_eq_true rfl⟩ ⟨Nat.zero_le _, Nat.zero_le _⟩ hP hD hS hl.1 rfl rfl rfl (Nat.le_of_ble_eq_true rfl) [] [0, 1, 2] [0, 1, 2] rfl rfl rfl rfl rfl dX5_copy_8 (fun H locs hP hD hS => ?_)
    refine lv_if_ne (tgt := 16) hx hb dX5_copy_11 (by decide) (fun hc4 => ?_) (fun hc4 => ?_)
    · rw [if_neg hc4] at h
      refine lv_aload_n hx hb dX5_copy_16 rfl (lv_at hl 0 rfl) ?_
      refine va_get (D := D) (ci := 5) (v := .ref (o 8 0)) (C := RX5) (T := TX5) (N := 9) hx hb hts in_X5_copy_X5 hown hK hP 0 rfl rfl 8 (by decide) (hts _ lk_X5_copy_52) (fun _ h9 => h9) rfl dX5_copy_17 ?_
      refine lv_iload_n hx hb dX5_copy_20 rfl (lv_at hl 1 rfl) ?_
      obtain ⟨hg5, h⟩ := if_inv h
      refine va_aldq hx hb hK hP 1 3 rfl rfl (inB_in hg5) dX5_copy_21 ?_
      refine lv_eqv (v := .ref (o (9 + j) 0)) (by rw [← hj hg5]; rfl) ?_
      refine lv_astore (lv' := [(6, .ref (o (9 + j) 0)), (0, .ref (o 0 0)), (1, .int x1), (2, .int x2), (3, .int x3), (4, .int x4), (5, .int x5)]) hx hb dX5_copy_22 hl (by decide) rfl (fun ls hl => ?_)
      refine lv_aload_n hx hb dX5_copy_24 rfl (lv_at hl 1 rfl) ?_
      refine va_get (D := D) (ci := 5) (v := .ref (o 8 0)) (C := RX5) (T := TX5) (N := 9) hx hb hts in_X5_copy_X5 hown hK hP 0 rfl rfl 8 (by decide) (hts _ lk_X5_copy_52) (fun _ h9 => h9) rfl dX5_copy_25 ?_
      refine lv_iload_n hx hb dX5_copy_28 rfl (lv_at hl 4 rfl) ?_
      obtain ⟨hg6, h⟩ := if_inv h
      refine va_aldq hx hb hK hP 1 3 rfl rfl (inB_in hg6) dX5_copy_29 ?_
      refine lv_eqv (v := .ref (o (9 + j) 0)) (by rw [← hj2 hg6]; rfl) ?_
      refine lv_astore (lv' := [(7, .ref (o (9 + j) 0)), (6, .ref (o (9 + j) 0)), (0, .ref (o 0 0)), (1, .int x1), (2, .int x2), (3, .int x3), (4, .int x4), (5, .int x5)]) hx hb dX5_copy_30 hl (by decide) rfl (fun ls hl => ?_)
      refine lv_aload hx hb dX5_copy_32 (lv_at hl 1 rfl) ?_
      obtain ⟨r7, hr7, h⟩ := bind_inv h
      refine kVN (rest := []) (st1 := [.int r7]) (cr := [w5 cA o κ, wS cA o us]) (cs' := [w5 cA o κ, wS cA o us, w3 cA (o (9 + j)) sh]) Z (c_X3_isMissing l D cA (o (9 + j)) sh r7 hr7) 0 gX5_copy_X3_isMissing_n244 rfl hdX3_isMissing nk_X5_244 n1_X5_copy_X3 n2_X5_copy_X3_isMissing n3_X5_copy_X3_isMissing ⟨rfl, rfl⟩ ⟨Nat.le_of_ble_eq_true rfl, Nat.le_of_ble_eq_true rfl⟩ ⟨Nat.zero_le _, Nat.zero_le _⟩ hP hD hS hl.1 rfl rfl rfl (Nat.le_of_ble_eq_true rfl) 3 rfl rfl rfl [2] [0, 1] [0, 1, 2] rfl rfl rfl rfl rfl dX5_copy_34 (fun H locs hP hD hS => ?_)
      refine lv_if_ne (tgt := 48) hx hb dX5_copy_37 (by decide) (fun hc8 => ?_) (fun hc8 => ?_)
      · rw [if_neg hc8] at h
        refine lv_bipush (v := (-11)) hx hb dX5_copy_48 (by decide) ?_
        have h := Option.some.inj h
        subst h
        exact CT.iret Z hP hD hS dX5_copy_50
      · rw [if_pos hc8] at h
        refine lv_aload hx hb dX5_copy_40 (lv_at hl 0 rfl) ?_
        obtain ⟨r9, hr9, h⟩ := bind_inv h
        refine kVN (rest := []) (st1 := [.int r9]) (cr := [w5 cA o κ, wS cA o us]) (cs' := [w5 cA o κ, wS cA o us, w3 cA (o (9 + j)) sh]) Z (c_X3_isMissing l D cA (o (9 + j)) sh r9 hr9) 0 gX5_copy_X3_isMissing_n244 rfl hdX3_isMissing nk_X5_244 n1_X5_copy_X3 n2_X5_copy_X3_isMissing n3_X5_copy_X3_isMissing ⟨rfl, rfl⟩ ⟨Nat.le_of_ble_eq_true rfl, Nat.le_of_ble_eq_true rfl⟩ ⟨Nat.zero_le _, Nat.zero_le _⟩ hP hD hS hl.1 rfl rfl rfl (Nat.le_of_ble_eq_true rfl) 3 rfl rfl rfl [2] [0, 1] [0, 1, 2] rfl rfl rfl rfl rfl dX5_copy_42 (fun H locs hP hD hS => ?_)
        refine lv_if_eq (tgt := 51) hx hb dX5_copy_45 (by decide) (fun hc10 => ?_) (fun hc10 => ?_)
        · rw [if_pos hc10] at h
          refine lv_aload hx hb dX5_copy_51 (lv_at hl 1 rfl) ?_
          refine va_getN (D := D) (ci := 3) (v := .int (p3_lane sh)) (C := RX3) (T := TX3) (N := 3) hx hb hts in_X5_copy_X3 hown hK hP 2 rfl rfl 0 (by decide) (nest_use rfl (hKK.2 _ nk_X5_251)) (fun _ h9 => h9) rfl dX5_copy_53 ?_
          refine lv_aload hx hb dX5_copy_56 (lv_at hl 0 rfl) ?_
          refine va_getN (D := D) (ci := 3) (v := .int (p3_lane sh)) (C := RX3) (T := TX3) (N := 3) hx hb hts in_X5_copy_X3 hown hK hP 2 rfl rfl 0 (by decide) (nest_use rfl (hKK.2 _ nk_X5_251)) (fun _ h9 => h9) rfl dX5_copy_58 ?_
          refine lv_icmp_eq (tgt := 67) hx hb dX5_copy_61 (by decide) (fun hc11 => ?_) (fun hc11 => ?_)
          · rw [if_pos hc11] at h
            refine lv_aload hx hb dX5_copy_67 (lv_at hl 1 rfl) ?_
            refine lv_iload_n hx hb dX5_copy_69 rfl (lv_at hl 4 rfl) ?_
            refine lv_iload hx hb dX5_copy_70 (lv_at hl 7 rfl) ?_
            obtain ⟨r12, hr12, h⟩ := bind_inv h
            refine kVN (rest := []) (st1 := [.int r12]) (cr := [w5 cA o κ, wS cA o us]) (cs' := [w5 cA o κ, wS cA o us, w3 cA (o (9 + j)) sh]) Z (c_X3_holds l D cA (o (9 + j)) sh x2 x5 r12 hr12) 2 gX5_copy_X3_holds_n254 rfl hdX3_holds nk_X5_254 n1_X5_copy_X3 n2_X5_copy_X3_holds n3_X5_copy_X3_holds ⟨rfl, rfl⟩ ⟨Nat.le_of_ble_eq_true rfl, Nat.le_of_ble_eq_true rfl⟩ ⟨Nat.zero_le _, Nat.zero_le _⟩ hP hD hS hl.1 rfl rfl rfl (Nat.le_of_ble_eq_true rfl) 3 rfl rfl rfl [2] [0, 1] [0, 1, 2] rfl rfl rfl rfl rfl dX5_copy_72 (fun H locs hP hD hS => ?_)
            refine lv_if_eq (tgt := 90) hx hb dX5_copy_75 (by decide) (fun hc13 => ?_) (fun hc13 => ?_)
            · rw [if_pos hc13] at h
              refine lv_bipush (v := (-13)) hx hb dX5_copy_90 (by decide) ?_
              have h := Option.some.inj h
              subst h
              exact CT.iret Z hP hD hS dX5_copy_92
            · rw [if_neg hc13] at h
              refine lv_aload hx hb dX5_copy_78 (lv_at hl 0 rfl) ?_
              refine lv_iload hx hb dX5_copy_80 (lv_at hl 6 rfl) ?_
              refine lv_iload hx hb dX5_copy_82 (lv_at hl 7 rfl) ?_
              obtain ⟨r14, hr14, h⟩ := bind_inv h
              refine kVN (rest := []) (st1 := [.int r14]) (cr := [w5 cA o κ, wS cA o us]) (cs' := [w5 cA o κ, wS cA o us, w3 cA (o (9 + j)) sh]) Z (c_X3_holds l D cA (o (9 + j)) sh x4 x5 r14 hr14) 2 gX5_copy_X3_holds_n254 rfl hdX3_holds nk_X5_254 n1_X5_copy_X3 n2_X5_copy_X3_holds n3_X5_copy_X3_holds ⟨rfl, rfl⟩ ⟨Nat.le_of_ble_eq_true rfl, Nat.le_of_ble_eq_true rfl⟩ ⟨Nat.zero_le _, Nat.zero_le _⟩ hP hD hS hl.1 rfl rfl rfl (Nat.le_of_ble_eq_true rfl) 3 rfl rfl rfl [2] [0, 1] [0, 1, 2] rfl rfl rfl rfl rfl dX5_copy_84 (fun H locs hP hD hS => ?_)
              refine lv_if_ne (tgt := 93) hx hb dX5_copy_87 (by decide) (fun hc15 => ?_) (fun hc15 => ?_)
              · rw [if_neg hc15] at h
                refine lv_aload hx hb dX5_copy_93 (lv_at hl 1 rfl) ?_
                refine va_getN (D := D) (ci := 3) (v := .ref (o (9 + j) 1)) (C := RX3) (T := TX3) (N := 3) hx hb hts in_X5_copy_X3 hown hK hP 2 rfl rfl 2 (by decide) (nest_use rfl (hKK.2 _ nk_X5_258)) (fun _ h9 => h9) rfl dX5_copy_95 ?_
                refine lv_iload_n hx hb dX5_copy_98 rfl (lv_at hl 4 rfl) ?_
                refine lv_aload hx hb dX5_copy_99 (lv_at hl 0 rfl) ?_
                refine va_getN (D := D) (ci := 3) (v := .ref (o (9 + j) 1)) (C := RX3) (T := TX3) (N := 3) hx hb hts in_X5_copy_X3 hown hK hP 2 rfl rfl 2 (by decide) (nest_use rfl (hKK.2 _ nk_X5_258)) (fun _ h9 => h9) rfl dX5_copy_101 ?_
                refine lv_iload hx hb dX5_copy_104 (lv_at hl 6 rfl) ?_
                refine lv_iload hx hb dX5_copy_106 (lv_at hl 7 rfl) ?_
                obtain ⟨hg16, h⟩ := if_inv h
                refine va_copyl hx hb (hml.trans hl.1.symm) hown (hts _ am_X5_copy) (hts _ an_X5_copy) (hts _ as_X5_copy) (hts _ ai_X5_copy) hK hP hD hS 3 3 1 1 rfl rfl rfl rfl rfl hg16.1 hg16.2.1 hg16.2.2.1 hg16.2.2.2.1 hg16.2.2.2.2 (fun _ _ => rfl) (Nat.le_of_ble_eq_true rfl) (Nat.le_of_ble_eq_true rfl) dX5_copy_108 (fun H locs hP hD hS => ?_)
                have hP : va_P D vwCl ([w5 cA o κ, wS cA o us, w3 cA (o (9 + j)) (s3_items sh (va_cpy (p3_items sh) (p3_items sh) x2.toNatClampNeg x4.toNatClampNeg x5.toNatClampNeg))] : List va_W).flatten H := hP
                have hD : va_D _ ([w5 cA o κ, wS cA o us, w3 cA (o (9 + j)) (s3_items sh (va_cpy (p3_items sh) (p3_items sh) x2.toNatClampNeg x4.toNatClampNeg x5.toNatClampNeg))] : List va_W).flatten := hD
                refine lv_iload hx hb dX5_copy_111 (lv_at hl 7 rfl) ?_
                have h := Option.some.inj h
                subst h
                exact CT.iret Z hP hD hS dX5_copy_113
              · rw [if_pos hc15] at h
                refine lv_bipush (v := (-13)) hx hb dX5_copy_90 (by decide) ?_
                have h := Option.some.inj h
                subst h
                exact CT.iret Z hP hD hS dX5_copy_92
          · rw [if_neg hc11] at h
            refine lv_bipush (v := (-12)) hx hb dX5_copy_64 (by decide) ?_
            have h := Option.some.inj h
            subst h
            exact CT.iret Z hP hD hS dX5_copy_66
        · rw [if_neg hc10] at h
          refine lv_bipush (v := (-11)) hx hb dX5_copy_48 (by decide) ?_
          have h := Option.some.inj h
          subst h
          exact CT.iret Z hP hD hS dX5_copy_50
    · rw [if_pos hc4] at h
      refine lv_iconst (v := (-1)) hx hb dX5_copy_14 (by decide) ?_
      have h := Option.some.inj h
      subst h
      exact CT.iret Z hP hD hS dX5_copy_15

