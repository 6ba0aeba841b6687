-- X6.stoppedBehind
noncomputable def f_X6_stoppedBehind (σ : St6) (x1 : Int32) : Option (Int32 × St6) := ((f_X6_goesOn σ x1).bind (fun r1 => ((f_X6_stopped r1).bind (fun r2 => ((f_X6_backs r1).bind (fun r3 => some (r2, r3)))))))
noncomputable def rmX6_stoppedBehind : Room := { frames := 6, cells := 0, slots := 0, locals := 134 }
set_option maxHeartbeats 4000000 in
set_option maxRecDepth 100000 in
theorem c_X6_stoppedBehind (l : Launch) (D : va_G) (cA : Nat → ClassId) (a : Nat → Nat) (σ : St6) (x1 : Int32) (res : Int32 × St6) (h : f_X6_stoppedBehind σ x1 = some res) : CT l D cA yX6_stoppedBehind wsX6_stoppedBehind rmX6_stoppedBehind [.ref (a 0), .int x1] [w6 cA a σ] [w6 cA a res.2] (some (.int res.1)) := by
  refine CT.start (cc := cX6_stoppedBehind) (maxL := 3) (ret := (some .int)) (by decide) rfl (Nat.le_of_ble_eq_true rfl) ?_
  intro p e s m below meth c Z hP hD hS ls hl
  have Z : Cx p s m _ meth c cX6_stoppedBehind 3 (some .int) wsX6_stoppedBehind RX6 D cA := Z
  have hl : lv_has ls 3 [(0, .ref (a 0)), (1, .int x1)] := hl
  obtain ⟨hx, hb, hml, hown, hts, hr, hlk, hKK⟩ := id Z
  have hK := hKK.1
  rw [f_X6_stoppedBehind] at h
  refine lv_aload_n hx hb dX6_stoppedBehind_0 rfl (lv_at hl 0 rfl) ?_
  refine lv_iload_n hx hb dX6_stoppedBehind_1 rfl (lv_at hl 1 rfl) ?_
  obtain ⟨r1, hr1, h⟩ := bind_inv h
  refine kV (rest := []) (st1 := []) (cr := []) (cs' := [w6 cA a r1]) Z (c_X6_goesOn l D cA a σ x1 r1 hr1) 1 gX6_stoppedBehind_X6_goesOn rfl hdX6_goesOn ⟨rfl, rfl⟩ ⟨Nat.le_of_ble_eq_true rfl, Nat.le_of_ble_eq_true rfl⟩ ⟨Nat.zero_le _, Nat.zero_le _⟩ hP hD hS hl.1 rfl rfl rfl (Nat.le_of_ble_eq_true rfl) 6 rfl rfl rfl [0] [] [0] rfl rfl rfl rfl rfl dX6_stoppedBehind_2 (fun H locs hP hD hS => ?_)
  refine lv_aload_n hx hb dX6_stoppedBehind_5 rfl (lv_at hl 0 rfl) ?_
  obtain ⟨r2, hr2, h⟩ := bind_inv h
  refine kV (rest := []) (st1 := [.int r2]) (cr := []) (cs' := [w6 cA a r1]) Z (c_X6_stopped l D cA a r1 r2 hr2) 0 gX6_stoppedBehind_X6_stopped rfl hdX6_stopped ⟨rfl, rfl⟩ ⟨Nat.le_of_ble_eq_true rfl, Nat.le_of_ble_eq_true rfl⟩ ⟨Nat.zero_le _, Nat.zero_le _⟩ hP hD hS hl.1 rfl rfl rfl (Nat.le_of_ble_eq_true rfl) 6 rfl rfl rfl [0] [] [0] rfl rfl rfl rfl rfl dX6_stoppedBehind_6 (fun H locs hP hD hS => ?_)
  refine lv_istore_n (lv' := [(2, .int r2), (0, .ref (a 0)), (1, .int x1)]) hx hb dX6_stoppedBehind_9 rfl hl (by decide) rfl (fun ls hl => ?_)
  refine lv_aload_n hx hb dX6_stoppedBehind_10 rfl (lv_at hl 1 rfl) ?_
  obtain ⟨r3, hr3, h⟩ := bind_inv h
  refine kV (rest := []) (st1 := []) (cr := []) (cs' := [w6 cA a r3]) Z (c_X6_backs l D cA a r1 r3 hr3) 0 gX6_stoppedBehind_X6_backs rfl hdX6_backs ⟨rfl, rfl⟩ ⟨Nat.le_of_ble_eq_true rfl, Nat.le_of_ble_eq_true rfl⟩ ⟨Nat.zero_le _, Nat.zero_le _⟩ hP hD hS hl.1 rfl rfl rfl (Nat.le_of_ble_eq_true rfl) 6 rfl rfl rfl [0] [] [0] rfl rfl rfl rfl rfl dX6_stoppedBehind_11 (fun H locs hP hD hS => ?_)
  refine lv_iload_n hx hb dX6_stoppedBehind_14 rfl (lv_at hl 0 rfl) ?_
  have h := Option.some.inj h
  subst h
  exact CT.iret Z hP hD hS dX6_stoppedBehind_15

-- X6.then
theorem ck_X6_then_173 : Cond.constantLong RX6 173 80 ∈ wsX6_then := by decide +kernel
noncomputable def f_X6_then (σ : St6) (x1 : Int32) : Option (Int32 × St6) := ((f_X6_in x1.toInt64 0 80).bind (fun r1 => (if r1 = 0 then some ((-1), σ) else ((f_X6_asides σ).bind (fun r3 => ((f_X6_stoppedBehind r3 x1).bind (fun r4 => some (r4.1, r4.2))))))))
noncomputable def rmX6_then : Room := { frames := 7, cells := 0, slots := 0, locals := 156 }
set_option maxHeartbeats 4000000 in
set_option maxRecDepth 100000 in
theorem c_X6_then (l : Launch) (D : va_G) (cA : Nat → ClassId) (a : Nat → Nat) (σ : St6) (x1 : Int32) (res : Int32 × St6) (h : f_X6_then σ x1 = some res) : CT l D cA yX6_then wsX6_then rmX6_then [.ref (a 0), .int x1] [w6 cA a σ] [w6 cA a res.2] (some (.int res.1)) := by
  refine CT.start (cc := cX6_then) (maxL := 2) (ret := (some .int)) (by decide) rfl (Nat.le_of_ble_eq_true rfl) ?_
  intro p e s m below meth c Z hP hD hS ls hl
  have Z : Cx p s m _ meth c cX6_then 2 (some .int) wsX6_then RX6 D cA := Z
  have hl : lv_has ls 2 [(0, .ref (a 0)), (1, .int x1)] := hl
  obtain ⟨hx, hb, hml, hown, hts, hr, hlk, hKK⟩ := id Z
  have hK := hKK.1
  rw [f_X6_then] at h
  refine lv_iload_n hx hb dX6_then_0 rfl (lv_at hl 1 rfl) ?_
  refine lv_i2l (v := x1.toInt64) hx hb dX6_then_1 rfl ?_
  refine lv_lconst (v := 0) hx hb dX6_then_2 (by decide) ?_
  refine lv_ldc2 hx hb hown (hts _ ck_X6_then_173) dX6_then_3 ?_
  obtain ⟨r1, hr1, h⟩ := bind_inv h
  refine kS (rest := []) (st1 := [.int r1]) (cr := [w6 cA a σ]) (cs' := [w6 cA a σ]) Z (c_X6_in l D cA x1.toInt64 0 80 r1 hr1) 3 gX6_then_X6_in rfl hdX6_in ⟨rfl, rfl⟩ ⟨Nat.le_of_ble_eq_true rfl, Nat.le_of_ble_eq_true rfl⟩ ⟨Nat.zero_le _, Nat.zero_le _⟩ hP hD hS hl.1 rfl rfl rfl (Nat.le_of_ble_eq_true rfl) [] [0] [0] rfl rfl rfl rfl rfl dX6_then_6 (fun H locs hP hD hS => ?_)
  refine lv_if_ne (tgt := 14) hx hb dX6_then_9 (by decide) (fun hc2 => ?_) (fun hc2 => ?_)
  · rw [if_neg hc2] at h
    refine lv_aload_n hx hb dX6_then_14 rfl (lv_at hl 0 rfl) ?_
    obtain ⟨r3, hr3, h⟩ := bind_inv h
    refine kV (rest := []) (st1 := []) (cr := []) (cs' := [w6 cA a r3]) Z (c_X6_asides l D cA a σ r3 hr3) 0 gX6_then_X6_asides rfl hdX6_asides ⟨rfl, rfl⟩ ⟨Nat.le_of_ble_eq_true rfl, Nat.le_of_ble_eq_true rfl⟩ ⟨Nat.zero_le _, Nat.zero_le _⟩ hP hD hS hl.1 rfl rfl rfl (Nat.le_of_ble_eq_true rfl) 6 rfl rfl rfl [0] [] [0] rfl rfl rfl rfl rfl dX6_then_15 (fun H locs hP hD hS => ?_)
    refine lv_aload_n hx hb dX6_then_18 rfl (lv_at hl 0 rfl) ?_
    refine lv_iload_n hx hb dX6_then_19 rfl (lv_at hl 1 rfl) ?_
    obtain ⟨r4, hr4, h⟩ := bind_inv h
    refine kV (rest := []) (st1 := [.int r4.1]) (cr := []) (cs' := [w6 cA a r4.2]) Z (c_X6_stoppedBehind l D cA a r3 x1 r4 hr4) 1 gX6_then_X6_stoppedBehind rfl hdX6_stoppedBehind ⟨rfl, rfl⟩ ⟨Nat.le_of_ble_eq_true rfl, Nat.le_of_ble_eq_true rfl⟩ ⟨Nat.zero_le _, Nat.zero_le _⟩ hP hD hS hl.1 rfl rfl rfl (Nat.le_of_ble_eq_true rfl) 6 rfl rfl rfl [0] [] [0] rfl rfl rfl rfl rfl dX6_then_20 (fun H locs hP hD hS => ?_)
    have h := Option.some.inj h
    subst h
    exact CT.iret Z hP hD hS dX6_then_23
  · rw [if_pos hc2] at h
    refine lv_iconst (v := (-1)) hx hb dX6_then_12 (by decide) ?_
    have h := Option.some.inj h
    subst h
    exact CT.iret Z hP hD hS dX6_then_13

-- X6.whenAll
noncomputable def lp_X6_whenAll_6 (x1 : Int32) : Nat → Int32 → St6 → Option (Int32 × St6)
  | 0, _, _ => none
  | n + 1, x2, σ => (if 81 ≤ x2 then some (x2, σ) else ((f_X6_stopped σ).bind (fun r3 => (if (r3 &&& x1) = x1 then some (x2, σ) else ((f_X6_goesBy σ 0).bind (fun r5 => lp_X6_whenAll_6 x1 n (x2 + 1) r5))))))
noncomputable def f_X6_whenAll (σ : St6) (x1 : Int32) : Option (Int32 × St6) := ((f_X6_asides σ).bind (fun r1 => ((lp_X6_whenAll_6 x1 FU 0 r1).bind (fun q6 => ((f_X6_backs q6.2).bind (fun r7 => (if 81 ≤ q6.1 then some ((-4), r7) else some (q6.1, r7))))))))
noncomputable def rmX6_whenAll : Room := { frames := 5, cells := 0, slots := 0, locals := 112 }
set_option maxHeartbeats 4000000 in
set_option maxRecDepth 100000 in
theorem t_X6_whenAll_6 {p : Program} {l : Launch} {e : Env} {s : State} {m : MethodId} {args : Array Value} {below : List Frame} {meth : Method} {c : Code} {D : va_G} {cA : Nat → ClassId} {A0 : Nat → Prop} {H0 : Heap} {a : Nat → Nat} (Z : Cx p s m args meth c cX6_whenAll 3 (some .int) wsX6_whenAll RX6 D cA) (x1 : Int32) {Q : State → Prop} : ∀ (n : Nat) (x2 : Int32) (σ : St6) (q : Int32 × St6), lp_X6_whenAll_6 x1 n x2 σ = some q → ∀ (H : Heap) (locs : List Loc) (ls : Array Slot), va_P D vwCl ([w6 cA a σ] : List va_W).flatten H → va_D A0 ([w6 cA a σ] : List va_W).flatten → va_S A0 H0 H locs → lv_has ls 3 [(0, .ref (a 0)), (1, .int x1), (2, .int x2)] → (∀ (H : Heap) (locs : List Loc) (ls : Array Slot), va_P D vwCl ([w6 cA a q.2] : List va_W).flatten H → va_D A0 ([w6 cA a q.2] : List va_W).flatten → va_S A0 H0 H locs → lv_has ls 3 [(0, .ref (a 0)), (1, .int x1), (2, .int q.1)] → W p l e rmX6_whenAll s m args below meth c H locs 0 0 Q (F0 m 33 ls [])) → W p l e rmX6_whenAll s m args below meth c H locs 0 0 Q (F0 m 6 ls []) := by
  obtain ⟨hx, hb, hml, hown, hts, hr, hlk, hKK⟩ := id Z
  have hK := hKK.1
  intro n
  induction n with
  | zero =>
    intro x2 σ q h
    rw [lp_X6_whenAll_6] at h
    cases h
  | succ n ih =>
    intro x2 σ q h H locs ls hP hD hS hl kk
    rw [lp_X6_whenAll_6] at h
    refine lv_iload_n hx hb dX6_whenAll_6 rfl (lv_at hl 2 rfl) ?_
    refine lv_bipush (v := 81) hx hb dX6_whenAll_7 (by decide) ?_
    refine lv_icmp_ge (tgt := 33) hx hb dX6_whenAll_9 (by decide) (fun hc2 => ?_) (fun hc2 => ?_)
    · rw [if_pos hc2] at h
      have h := Option.some.inj h
      subst h
      exact kk _ _ _ hP hD hS (lv_sub hl [0, 1, 2] rfl)
    · rw [if_neg hc2] at h
      refine lv_aload_n hx hb dX6_whenAll_12 rfl (lv_at hl 0 rfl) ?_
      obtain ⟨r3, hr3, h⟩ := bind_inv h
      refine kV (rest := []) (st1 := [.int r3]) (cr := []) (cs' := [w6 cA a σ]) Z (c_X6_stopped l D cA a σ r3 hr3) 0 gX6_whenAll_X6_stopped rfl hdX6_stopped ⟨rfl, rfl⟩ ⟨Nat.le_of_ble_eq_true rfl, Nat.le_of_ble_eq_true rfl⟩ ⟨Nat.zero_le _, Nat.zero_le _⟩ hP hD hS hl.1 rfl rfl rfl (Nat.le_of_ble_eq_true rfl) 6 rfl rfl rfl [0] [] [0] rfl rfl rfl rfl rfl dX6_whenAll_13 (fun H locs hP hD hS => ?_)
      refine lv_iload_n hx hb dX6_whenAll_16 rfl (lv_at hl 1 rfl) ?_
      refine lv_iand hx hb dX6_whenAll_17 ?_
      refine lv_iload_n hx hb dX6_whenAll_18 rfl (lv_at hl 1 rfl) ?_
      refine lv_icmp_eq (tgt := 33) hx hb dX6_whenAll_19 (by decide) (fun hc4 => ?_) (fun hc4 => ?_)
      · rw [if_pos hc4] at h
        have h := Option.some.inj h
        subst h
        exact kk _ _ _ hP hD hS (lv_sub hl [0, 1, 2] rfl)
      · rw [if_neg hc4] at h
        refine lv_aload_n hx hb dX6_whenAll_22 rfl (lv_at hl 0 rfl) ?_
        refine lv_iconst (v := 0) hx hb dX6_whenAll_23 (by decide) ?_
        obtain ⟨r5, hr5, h⟩ := bind_inv h
        refine kV (rest := []) (st1 := []) (cr := []) (cs' := [w6 cA a r5]) Z (c_X6_goesBy l D cA a σ 0 r5 hr5) 1 gX6_whenAll_X6_goesBy rfl hdX6_goesBy ⟨rfl, rfl⟩ ⟨Nat.le_of_ble_eq_true rfl, Nat.le_of_ble_eq_true rfl⟩ ⟨Nat.zero_le _, Nat.zero_le _⟩ hP hD hS hl.1 rfl rfl rfl (Nat.le_of_ble_eq_true rfl) 6 rfl rfl rfl [0] [] [0] rfl rfl rfl rfl rfl dX6_whenAll_24 (fun H locs hP hD hS => ?_)
        refine lv_iinc (v := x2 + 1) (lv' := [(2, .int (x2 + 1)), (0, .ref (a 0)), (1, .int x1)]) hx hb dX6_whenAll_27 hl (k := 2) rfl rfl (by decide) rfl (fun ls hl => ?_)
        refine lv_goto (tgt := 6) hx hb dX6_whenAll_30 (by decide) ?_
        exact ih _ _ _ h _ _ _ hP hD hS (lv_sub hl [1, 2, 0] rfl) kk
set_option maxHeartbeats 4000000 in
set_option maxRecDepth 100000 in
theorem c_X6_whenAll (l : Launch) (D : va_G) (cA : Nat → ClassId) (a : Nat → Nat) (σ : St6) (x1 : Int32) (res : Int32 × St6) (h : f_X6_whenAll σ x1 = some res) : CT l D cA yX6_whenAll wsX6_whenAll rmX6_whenAll [.ref (a 0), .int x1] [w6 cA a σ] [w6 cA a res.2] (some (.int res.1)) := by
  refine CT.start (cc := cX6_whenAll) (maxL := 3) (ret := (some .int)) (by decide) rfl (Nat.le_of_ble_eq_true rfl) ?_
  intro p e s m below meth c Z hP hD hS ls hl
  have Z : Cx p s m _ meth c cX6_whenAll 3 (some .int) wsX6_whenAll RX6 D cA := Z
  have hl : lv_has ls 3 [(0, .ref (a 0)), (1, .int x1)] := hl
  obtain ⟨hx, hb, hml, hown, hts, hr, hlk, hKK⟩ := id Z
  have hK := hKK.1
  rw [f_X6_whenAll] at h
  refine lv_aload_n hx hb dX6_whenAll_0 rfl (lv_at hl 0 rfl) ?_
  obtain ⟨r1, hr1, h⟩ := bind_inv h
  refine kV (rest := []) (st1 := []) (cr := []) (cs' := [w6 cA a r1]) Z (c_X6_asides l D cA a σ r1 hr1) 0 gX6_whenAll_X6_asides rfl hdX6_asides ⟨rfl, rfl⟩ ⟨Nat.le_of_ble_eq_true rfl, Nat.le_of_ble_eq_true rfl⟩ ⟨Nat.zero_le _, Nat.zero_le _⟩ hP hD hS hl.1 rfl rfl rfl (Nat.le_of_ble_eq_true rfl) 6 rfl rfl rfl [0] [] [0] rfl rfl rfl rfl rfl dX6_whenAll_1 (fun H locs hP hD hS => ?_)
  refine lv_iconst (v := 0) hx hb dX6_whenAll_4 (by decide) ?_
  refine lv_istore_n (lv' := [(2, .int 0), (0, .ref (a 0)), (1, .int x1)]) hx hb dX6_whenAll_5 rfl hl (by decide) rfl (fun ls hl => ?_)
  obtain ⟨q6, hq6, h⟩ := bind_inv h
  refine t_X6_whenAll_6 Z x1 FU _ _ _ hq6 _ _ _ hP hD hS (lv_sub hl [1, 2, 0] rfl) (fun H locs ls hP hD hS hl => ?_)
  refine lv_aload_n hx hb dX6_whenAll_33 rfl (lv_at hl 0 rfl) ?_
  obtain ⟨r7, hr7, h⟩ := bind_inv h
  refine kV (rest := []) (st1 := []) (cr := []) (cs' := [w6 cA a r7]) Z (c_X6_backs l D cA a q6.2 r7 hr7) 0 gX6_whenAll_X6_backs rfl hdX6_backs ⟨rfl, rfl⟩ ⟨Nat.le_of_ble_eq_true rfl, Nat.le_of_ble_eq_true rfl⟩ ⟨Nat.zero_le _, Nat.zero_le _⟩ hP hD hS hl.1 rfl rfl rfl (Nat.le_of_ble_eq_true rfl) 6 rfl rfl rfl [0] [] [0] rfl rfl rfl rfl rfl dX6_whenAll_34 (fun H locs hP hD hS => ?_)
  refine lv_iload_n hx hb dX6_whenAll_37 rfl (lv_at hl 2 rfl) ?_
  refine lv_bipush (v := 81) hx hb dX6_whenAll_38 (by decide) ?_
  refine lv_icmp_ge (tgt := 47) hx hb dX6_whenAll_40 (by decide) (fun hc8 => ?_) (fun hc8 => ?_)
  · rw [if_pos hc8] at h
    refine lv_bipush (v := (-4)) hx hb dX6_whenAll_47 (by decide) ?_
    have h := Option.some.inj h
    subst h
    exact CT.iret Z hP hD hS dX6_whenAll_49
  · rw [if_neg hc8] at h
    refine lv_iload_n hx hb dX6_whenAll_43 rfl (lv_at hl 2 rfl) ?_
    refine lv_goto (tgt := 49) hx hb dX6_whenAll_44 (by decide) ?_
    have h := Option.some.inj h
    subst h
    exact CT.iret Z hP hD hS dX6_whenAll_49

-- X6.stops
noncomputable def f_X6_stops (σ : St6) (x1 : Int32) : Option (Int32 × St6) := ((f_X6_isPerson σ x1).bind (fun r1 => (if r1 = 0 then some ((-1), σ) else ((f_X6_whenAll σ (1 <<< (x1 &&& 31))).bind (fun r3 => some (r3.1, r3.2))))))
noncomputable def rmX6_stops : Room := { frames := 6, cells := 0, slots := 0, locals := 134 }
set_option maxHeartbeats 4000000 in
set_option maxRecDepth 100000 in
theorem c_X6_stops (l : Launch) (D : va_G) (cA : Nat → ClassId) (a : Nat → Nat) (σ : St6) (x1 : Int32) (res : Int32 × St6) (h : f_X6_stops σ x1 = some res) : CT l D cA yX6_stops wsX6_stops rmX6_stops [.ref (a 0), .int x1] [w6 cA a σ] [w6 cA a res.2] (some (.int res.1)) := by
  refine CT.start (cc := cX6_stops) (maxL := 2) (ret := (some .int)) (by decide) rfl (Nat.le_of_ble_eq_true rfl) ?_
  intro p e s m below meth c Z hP hD hS ls hl
  have Z : Cx p s m _ meth c cX6_stops 2 (some .int) wsX6_stops RX6 D cA := Z
  have hl : lv_has ls 2 [(0, .ref (a 0)), (1, .int x1)] := hl
  obtain ⟨hx, hb, hml, hown, hts, hr, hlk, hKK⟩ := id Z
  have hK := hKK.1
  rw [f_X6_stops] at h
  refine lv_aload_n hx hb dX6_stops_0 rfl (lv_at hl 0 rfl) ?_
  refine lv_iload_n hx hb dX6_stops_1 rfl (lv_at hl 1 rfl) ?_
  obtain ⟨r1, hr1, h⟩ := bind_inv h
  refine kV (rest := []) (st1 := [.int r1]) (cr := []) (cs' := [w6 cA a σ]) Z (c_X6_isPerson l D cA a σ x1 r1 hr1) 1 gX6_stops_X6_isPerson rfl hdX6_isPerson ⟨rfl, rfl⟩ ⟨Nat.le_of_ble_eq_true rfl, Nat.le_of_ble_eq_true rfl⟩ ⟨Nat.zero_le _, Nat.zero_le _⟩ hP hD hS hl.1 rfl rfl rfl (Nat.le_of_ble_eq_true rfl) 6 rfl rfl rfl [0] [] [0] rfl rfl rfl rfl rfl dX6_stops_2 (fun H locs hP hD hS => ?_)
  refine lv_if_eq (tgt := 18) hx hb dX6_stops_5 (by decide) (fun hc2 => ?_) (fun hc2 => ?_)
  · rw [if_pos hc2] at h
    refine lv_iconst (v := (-1)) hx hb dX6_stops_18 (by decide) ?_
    have h := Option.some.inj h
    subst h
    exact CT.iret Z hP hD hS dX6_stops_19
  · rw [if_neg hc2] at h
    refine lv_aload_n hx hb dX6_stops_8 rfl (lv_at hl 0 rfl) ?_
    refine lv_iconst (v := 1) hx hb dX6_stops_9 (by decide) ?_
    refine lv_iload_n hx hb dX6_stops_10 rfl (lv_at hl 1 rfl) ?_
    refine lv_ishl hx hb dX6_stops_11 ?_
    obtain ⟨r3, hr3, h⟩ := bind_inv h
    refine kV (rest := []) (st1 := [.int r3.1]) (cr := []) (cs' := [w6 cA a r3.2]) Z (c_X6_whenAll l D cA a σ (1 <<< (x1 &&& 31)) r3 hr3) 1 gX6_stops_X6_whenAll rfl hdX6_whenAll ⟨rfl, rfl⟩ ⟨Nat.le_of_ble_eq_true rfl, Nat.le_of_ble_eq_true rfl⟩ ⟨Nat.zero_le _, Nat.zero_le _⟩ hP hD hS hl.1 rfl rfl rfl (Nat.le_of_ble_eq_true rfl) 6 rfl rfl rfl [0] [] [0] rfl rfl rfl rfl rfl dX6_stops_12 (fun H locs hP hD hS => ?_)
    refine lv_goto (tgt := 19) hx hb dX6_stops_15 (by decide) ?_
    have h := Option.some.inj h
    subst h
    exact CT.iret Z hP hD hS dX6_stops_19

-- X6.all
theorem lk_X6_all_7 : Cond.fieldLink RX6 7 "KeyedFeelingsModel" "now" "[I" ∈ wsX6_all := by decide +kernel
theorem in_X6_all_X6 : ∀ w ∈ wsX60, w ∈ wsX6_all := by decide +kernel
noncomputable def f_X6_all (σ : St6) : Option (Int32 × St6) := ((f_X6_whenAll σ ((1 <<< (((p6_now σ) (0 : Int32).toNatClampNeg) &&& 31)) - 1)).bind (fun r1 => some (r1.1, r1.2)))
noncomputable def rmX6_all : Room := { frames := 6, cells := 0, slots := 0, locals := 134 }
set_option maxHeartbeats 4000000 in
set_option maxRecDepth 100000 in
theorem c_X6_all (l : Launch) (D : va_G) (cA : Nat → ClassId) (a : Nat → Nat) (σ : St6) (res : Int32 × St6) (h : f_X6_all σ = some res) : CT l D cA yX6_all wsX6_all rmX6_all [.ref (a 0)] [w6 cA a σ] [w6 cA a res.2] (some (.int res.1)) := by
  refine CT.start (cc := cX6_all) (maxL := 1) (ret := (some .int)) (by decide) rfl (Nat.le_of_ble_eq_true rfl) ?_
  intro p e s m below meth c Z hP hD hS ls hl
  have Z : Cx p s m _ meth c cX6_all 1 (some .int) wsX6_all RX6 D cA := Z
  have hl : lv_has ls 1 [(0, .ref (a 0))] := hl
  obtain ⟨hx, hb, hml, hown, hts, hr, hlk, hKK⟩ := id Z
  have hK := hKK.1
  rw [f_X6_all] at h
  refine lv_aload_n hx hb dX6_all_0 rfl (lv_at hl 0 rfl) ?_
  refine lv_iconst (v := 1) hx hb dX6_all_1 (by decide) ?_
  refine lv_aload_n hx hb dX6_all_2 rfl (lv_at hl 0 rfl) ?_
  refine va_get (D := D) (ci := 6) (v := .ref (a 1)) (C := RX6) (T := TX6) (N := 19) hx hb hts in_X6_all_X6 hown hK hP 0 rfl rfl 0 (by decide) (hts _ lk_X6_all_7) (fun _ h9 => h9) rfl dX6_all_3 ?_
  refine lv_iconst (v := 0) hx hb dX6_all_6 (by decide) ?_
  refine va_iald hx hb hK hP 1 0 rfl rfl (inB_in (by decide)) dX6_all_7 ?_
  refine lv_ishl hx hb dX6_all_8 ?_
  refine lv_iconst (v := 1) hx hb dX6_all_9 (by decide) ?_
  refine lv_isub hx hb dX6_all_10 ?_
  obtain ⟨r1, hr1, h⟩ := bind_inv h
  refine kV (rest := []) (st1 := [.int r1.1]) (cr := []) (cs' := [w6 cA a r1.2]) Z (c_X6_whenAll l D cA a σ ((1 <<< (((p6_now σ) (0 : Int32).toNatClampNeg) &&& 31)) - 1) r1 hr1) 1 gX6_all_X6_whenAll rfl hdX6_whenAll ⟨rfl, rfl⟩ ⟨Nat.le_of_ble_eq_true rfl, Nat.le_of_ble_eq_true rfl⟩ ⟨Nat.zero_le _, Nat.zero_le _⟩ hP hD hS hl.1 rfl rfl rfl (Nat.le_of_ble_eq_true rfl) 6 rfl rfl rfl [0] [] [0] rfl rfl rfl rfl rfl dX6_all_11 (fun H locs hP hD hS => ?_)
  have h := Option.some.inj h
  subst h
  exact CT.iret Z hP hD hS dX6_all_14

-- X6.ever
noncomputable def lp_X6_ever_11  : Nat → Int32 → Int32 → St6 → Option (Int32 × Int32 × St6)
  | 0, _, _, _ => none
  | n + 1, x1, x2, σ => (if 80 ≤ x2 then some (x1, x2, σ) else ((f_X6_goesBy σ 0).bind (fun r4 => ((f_X6_stopped r4).bind (fun r5 => lp_X6_ever_11  n (x1 ||| r5) (x2 + 1) r4)))))
noncomputable def f_X6_ever (σ : St6) : Option (Int32 × St6) := ((f_X6_asides σ).bind (fun r1 => ((f_X6_stopped r1).bind (fun r2 => ((lp_X6_ever_11  FU r2 0 r1).bind (fun q6 => ((f_X6_backs q6.2.2).bind (fun r7 => some (q6.1, r7)))))))))
noncomputable def rmX6_ever : Room := { frames := 5, cells := 0, slots := 0, locals := 112 }
set_option maxHeartbeats 4000000 in
set_option maxRecDepth 100000 in
theorem t_X6_ever_11 {p : Program} {l : Launch} {e : Env} {s : State} {m : MethodId} {args : Array Value} {below : List Frame} {meth : Method} {c : Code} {D : va_G} {cA : Nat → ClassId} {A0 : Nat → Prop} {H0 : Heap} {a : Nat → Nat} (Z : Cx p s m args meth c cX6_ever 3 (some .int) wsX6_ever RX6 D cA)  {Q : State → Prop} : ∀ (n : Nat) (x1 : Int32) (x2 : Int32) (σ : St6) (q : Int32 × Int32 × St6), lp_X6_ever_11  n x1 x2 σ = some q → ∀ (H : Heap) (locs : List Loc) (ls : Array Slot), va_P D vwCl ([w6 cA a σ] : List va_W).flatten H → va_D A0 ([w6 cA a σ] : List va_W).flatten → va_S A0 H0 H locs → lv_has ls 3 [(0, .ref (a 0)), (1, .int x1), (2, .int x2)] → (∀ (H : Heap) (locs : List Loc) (ls : Array Slot), va_P D vwCl ([w6 cA a q.2.2] : List va_W).flatten H → va_D A0 ([w6 cA a q.2.2] : List va_W).flatten → va_S A0 H0 H locs → lv_has ls 3 [(0, .ref (a 0)), (1, .int q.1), (2, .int q.2.1)] → W p l e rmX6_ever s m args below meth c H locs 0 0 Q (F0 m 35 ls [])) → W p l e rmX6_ever s m args below meth c H locs 0 0 Q (F0 m 11 ls []) := by
  obtain ⟨hx, hb, hml, hown, hts, hr, hlk, hKK⟩ := id Z
  have hK := hKK.1
  intro n
  induction n with
  | zero =>
    intro x1 x2 σ q h
    rw [lp_X6_ever_11] at h
    cases h
  | succ n ih =>
    intro x1 x2 σ q h H locs ls hP hD hS hl kk
    rw [lp_X6_ever_11] at h
    refine lv_iload_n hx hb dX6_ever_11 rfl (lv_at hl 2 rfl) ?_
    refine lv_bipush (v := 80) hx hb dX6_ever_12 (by decide) ?_
    refine lv_icmp_ge (tgt := 35) hx hb dX6_ever_14 (by decide) (fun hc3 => ?_) (fun hc3 => ?_)
    · rw [if_pos hc3] at h
      have h := Option.some.inj h
      subst h
      exact kk _ _ _ hP hD hS (lv_sub hl [0, 1, 2] rfl)
    · rw [if_neg hc3] at h
      refine lv_aload_n hx hb dX6_ever_17 rfl (lv_at hl 0 rfl) ?_
      refine lv_iconst (v := 0) hx hb dX6_ever_18 (by decide) ?_
      obtain ⟨r4, hr4, h⟩ := bind_inv h
      refine kV (rest := []) (st1 := []) (cr := []) (cs' := [w6 cA a r4]) Z (c_X6_goesBy l D cA a σ 0 r4 hr4) 1 gX6_ever_X6_goesBy rfl hdX6_goesBy ⟨rfl, rfl⟩ ⟨Nat.le_of_ble_eq_true rfl, Nat.le_of_ble_eq_true rfl⟩ ⟨Nat.zero_le _, Nat.zero_le _⟩ hP hD hS hl.1 rfl rfl rfl (Nat.le_of_ble_eq_true rfl) 6 rfl rfl rfl [0] [] [0] rfl rfl rfl rfl rfl dX6_ever_19 (fun H locs hP hD hS => ?_)
      refine lv_iload_n hx hb dX6_ever_22 rfl (lv_at hl 1 rfl) ?_
      refine lv_aload_n hx hb dX6_ever_23 rfl (lv_at hl 0 rfl) ?_
      obtain ⟨r5, hr5, h⟩ := bind_inv h
      refine kV (rest := [.int x1]) (st1 := [.int r5, .int x1]) (cr := []) (cs' := [w6 cA a r4]) Z (c_X6_stopped l D cA a r4 r5 hr5) 0 gX6_ever_X6_stopped rfl hdX6_stopped ⟨rfl, rfl⟩ ⟨Nat.le_of_ble_eq_true rfl, Nat.le_of_ble_eq_true rfl⟩ ⟨Nat.zero_le _, Nat.zero_le _⟩ hP hD hS hl.1 rfl rfl rfl (Nat.le_of_ble_eq_true rfl) 6 rfl rfl rfl [0] [] [0] rfl rfl rfl rfl rfl dX6_ever_24 (fun H locs hP hD hS => ?_)
      refine lv_ior hx hb dX6_ever_27 ?_
      refine lv_istore_n (lv' := [(1, .int (x1 ||| r5)), (0, .ref (a 0)), (2, .int x2)]) hx hb dX6_ever_28 rfl hl (by decide) rfl (fun ls hl => ?_)
      refine lv_iinc (v := x2 + 1) (lv' := [(2, .int (x2 + 1)), (1, .int (x1 ||| r5)), (0, .ref (a 0))]) hx hb dX6_ever_29 hl (k := 2) rfl rfl (by decide) rfl (fun ls hl => ?_)
      refine lv_goto (tgt := 11) hx hb dX6_ever_32 (by decide) ?_
      exact ih _ _ _ _ h _ _ _ hP hD hS (lv_sub hl [2, 1, 0] rfl) kk
set_option maxHeartbeats 4000000 in
set_option maxRecDepth 100000 in
theorem c_X6_ever (l : Launch) (D : va_G) (cA : Nat → ClassId) (a : Nat → Nat) (σ : St6) (res : Int32 × St6) (h : f_X6_ever σ = some res) : CT l D cA yX6_ever wsX6_ever rmX6_ever [.ref (a 0)] [w6 cA a σ] [w6 cA a res.2] (some (.int res.1)) := by
  refine CT.start (cc := cX6_ever) (maxL := 3) (ret := (some .int)) (by decide) rfl (Nat.le_of_ble_eq_true rfl) ?_
  intro p e s m below meth c Z hP hD hS ls hl
  have Z : Cx p s m _ meth c cX6_ever 3 (some .int) wsX6_ever RX6 D cA := Z
  have hl : lv_has ls 3 [(0, .ref (a 0))] := hl
  obtain ⟨hx, hb, hml, hown, hts, hr, hlk, hKK⟩ := id Z
  have hK := hKK.1
  rw [f_X6_ever] at h
  refine lv_aload_n hx hb dX6_ever_0 rfl (lv_at hl 0 rfl) ?_
  obtain ⟨r1, hr1, h⟩ := bind_inv h
  refine kV (rest := []) (st1 := []) (cr := []) (cs' := [w6 cA a r1]) Z (c_X6_asides l D cA a σ r1 hr1) 0 gX6_ever_X6_asides rfl hdX6_asides ⟨rfl, rfl⟩ ⟨Nat.le_of_ble_eq_true rfl, Nat.le_of_ble_eq_true rfl⟩ ⟨Nat.zero_le _, Nat.zero_le _⟩ hP hD hS hl.1 rfl rfl rfl (Nat.le_of_ble_eq_true rfl) 6 rfl rfl rfl [0] [] [0] rfl rfl rfl rfl rfl dX6_ever_1 (fun H locs hP hD hS => ?_)
  refine lv_aload_n hx hb dX6_ever_4 rfl (lv_at hl 0 rfl) ?_
  obtain ⟨r2, hr2, h⟩ := bind_inv h
  refine kV (rest := []) (st1 := [.int r2]) (cr := []) (cs' := [w6 cA a r1]) Z (c_X6_stopped l D cA a r1 r2 hr2) 0 gX6_ever_X6_stopped rfl hdX6_stopped ⟨rfl, rfl⟩ ⟨Nat.le_of_ble_eq_true rfl, Nat.le_of_ble_eq_true rfl⟩ ⟨Nat.zero_le _, Nat.zero_le _⟩ hP hD hS hl.1 rfl rfl rfl (Nat.le_of_ble_eq_true rfl) 6 rfl rfl rfl [0] [] [0] rfl rfl rfl rfl rfl dX6_ever_5 (fun H locs hP hD hS => ?_)
  refine lv_istore_n (lv' := [(1, .int r2), (0, .ref (a 0))]) hx hb dX6_ever_8 rfl hl (by decide) rfl (fun ls hl => ?_)
  refine lv_iconst (v := 0) hx hb dX6_ever_9 (by decide) ?_
  refine lv_istore_n (lv' := [(2, .int 0), (1, .int r2), (0, .ref (a 0))]) hx hb dX6_ever_10 rfl hl (by decide) rfl (fun ls hl => ?_)
  obtain ⟨q6, hq6, h⟩ := bind_inv h
  refine t_X6_ever_11 Z  FU _ _ _ _ hq6 _ _ _ hP hD hS (lv_sub hl [2, 1, 0] rfl) (fun H locs ls hP hD hS hl => ?_)
  refine lv_aload_n hx hb dX6_ever_35 rfl (lv_at hl 0 rfl) ?_
  obtain ⟨r7, hr7, h⟩ := bind_inv h
  refine kV (rest := []) (st1 := []) (cr := []) (cs' := [w6 cA a r7]) Z (c_X6_backs l D cA a q6.2.2 r7 hr7) 0 gX6_ever_X6_backs rfl hdX6_backs ⟨rfl, rfl⟩ ⟨Nat.le_of_ble_eq_true rfl, Nat.le_of_ble_eq_true rfl⟩ ⟨Nat.zero_le _, Nat.zero_le _⟩ hP hD hS hl.1 rfl rfl rfl (Nat.le_of_ble_eq_true rfl) 6 rfl rfl rfl [0] [] [0] rfl rfl rfl rfl rfl dX6_ever_36 (fun H locs hP hD hS => ?_)
  refine lv_iload_n hx hb dX6_ever_39 rfl (lv_at hl 1 rfl) ?_
  have h := Option.some.inj h
  subst h
  exact CT.iret Z hP hD hS dX6_ever_40

-- X6.chain
theorem lk_X6_chain_7 : Cond.fieldLink RX6 7 "KeyedFeelingsModel" "now" "[I" ∈ wsX6_chain := by decide +kernel
theorem in_X6_chain_X6 : ∀ w ∈ wsX60, w ∈ wsX6_chain := by decide +kernel
noncomputable def lp_X6_chain_35 (σ : St6) (x1 : Int32) : Nat → Int32 → Int32 → Option (Int32 × Int32)
  | 0, _, _ => none
  | n + 1, x3, x4 => (if ((p6_now σ) (0 : Int32).toNatClampNeg) ≤ x4 then some (x3, x4) else (if x4 = x1 then ((f_X6_windersOf σ x4).bind (fun r9 => (if r9 = 0 then lp_X6_chain_35 σ x1 n (x3 ||| (1 <<< (x4 &&& 31))) (x4 + 1) else lp_X6_chain_35 σ x1 n (x3 ||| 0) (x4 + 1)))) else ((f_X6_behind σ x4).bind (fun r11 => (if ((r11 >>> (x1 &&& 31)) &&& 1) = 1 then ((f_X6_windersOf σ x4).bind (fun r15 => (if r15 = 0 then lp_X6_chain_35 σ x1 n (x3 ||| (1 <<< (x4 &&& 31))) (x4 + 1) else lp_X6_chain_35 σ x1 n (x3 ||| 0) (x4 + 1)))) else lp_X6_chain_35 σ x1 n (x3 ||| 0) (x4 + 1))))))
noncomputable def f_X6_chain (σ : St6) (x1 : Int32) (x2 : Int32) : Option (Int32) := ((f_X6_isPerson σ x1).bind (fun r1 => (if r1 = 0 then some (-1) else ((f_X6_in x2.toInt64 0 1).bind (fun r3 => (if r3 = 0 then some (-1) else (if x2 = 0 then ((f_X6_behind σ x1).bind (fun r18 => some r18)) else ((lp_X6_chain_35 σ x1 FU 0 0).bind (fun q17 => some q17.1)))))))))
noncomputable def rmX6_chain : Room := { frames := 3, cells := 0, slots := 0, locals := 66 }
set_option maxHeartbeats 4000000 in
set_option maxRecDepth 100000 in
theorem t_X6_chain_35 {p : Program} {l : Launch} {e : Env} {s : State} {m : MethodId} {args : Array Value} {below : List Frame} {meth : Method} {c : Code} {D : va_G} {cA : Nat → ClassId} {A0 : Nat → Prop} {H0 : Heap} {a : Nat → Nat} (Z : Cx p s m args meth c cX6_chain 6 (some .int) wsX6_chain RX6 D cA) (σ : St6) (x1 : Int32) {Q : State → Prop} : ∀ (n : Nat) (x3 : Int32) (x4 : Int32) (q : Int32 × Int32), lp_X6_chain_35 σ x1 n x3 x4 = some q → ∀ (H : Heap) (locs : List Loc) (ls : Array Slot), va_P D vwCl ([w6 cA a σ] : List va_W).flatten H → va_D A0 ([w6 cA a σ] : List va_W).flatten → va_S A0 H0 H locs → lv_has ls 6 [(0, .ref (a 0)), (1, .int x1), (3, .int x3), (4, .int x4)] → (∀ (H : Heap) (locs : List Loc) (ls : Array Slot), va_P D vwCl ([w6 cA a σ] : List va_W).flatten H → va_D A0 ([w6 cA a σ] : List va_W).flatten → va_S A0 H0 H locs → lv_has ls 6 [(0, .ref (a 0)), (1, .int x1), (3, .int q.1), (4, .int q.2)] → W p l e rmX6_chain s m args below meth c H locs 0 0 Q (F0 m 104 ls [])) → W p l e rmX6_chain s m args below meth c H locs 0 0 Q (F0 m 35 ls []) := by
  obtain ⟨hx, hb, hml, hown, hts, hr, hlk, hKK⟩ := id Z
  have hK := hKK.1
  intro n
  induction n with
  | zero =>
    intro x3 x4 q h
    rw [lp_X6_chain_35] at h
    cases h
  | succ n ih =>
    intro x3 x4 q h H locs ls hP hD hS hl kk
    rw [lp_X6_chain_35] at h
    refine lv_iload hx hb dX6_chain_35 (lv_at hl 3 rfl) ?_
    refine lv_aload_n hx hb dX6_chain_37 rfl (lv_at hl 0 rfl) ?_
    refine va_get (D := D) (ci := 6) (v := .ref (a 1)) (C := RX6) (T := TX6) (N := 19) hx hb hts in_X6_chain_X6 hown hK hP 0 rfl rfl 0 (by decide) (hts _ lk_X6_chain_7) (fun _ h9 => h9) rfl dX6_chain_38 ?_
    refine lv_iconst (v := 0) hx hb dX6_chain_41 (by decide) ?_
    refine va_iald hx hb hK hP 1 0 rfl rfl (inB_in (by decide)) dX6_chain_42 ?_
    refine lv_icmp_ge (tgt := 104) hx hb dX6_chain_43 (by decide) (fun hc6 => ?_) (fun hc6 => ?_)
    · rw [if_pos hc6] at h
      have h := Option.some.inj h
      subst h
      exact kk _ _ _ hP hD hS (lv_sub hl [0, 1, 2, 3] rfl)
    · rw [if_neg hc6] at h
      refine lv_iload hx hb dX6_chain_46 (lv_at hl 3 rfl) ?_
      refine lv_iload_n hx hb dX6_chain_48 rfl (lv_at hl 1 rfl) ?_
      refine lv_icmp_eq (tgt := 66) hx hb dX6_chain_49 (by decide) (fun hc7 => ?_) (fun hc7 => ?_)
      · rw [if_pos hc7] at h
        refine lv_iconst (v := 1) hx hb dX6_chain_66 (by decide) ?_
        refine lv_goto (tgt := 71) hx hb dX6_chain_67 (by decide) ?_
        refine lv_istore (lv' := [(5, .int 1), (0, .ref (a 0)), (1, .int x1), (3, .int x3), (4, .int x4)]) hx hb dX6_chain_71 hl (by decide) rfl (fun ls hl => ?_)
        refine lv_iload_n hx hb dX6_chain_73 rfl (lv_at hl 3 rfl) ?_
        refine lv_iload hx hb dX6_chain_74 (lv_at hl 0 rfl) ?_
        refine lv_if_eq (tgt := 95) hx hb dX6_chain_76 (by decide) (fun hc8 => ?_) (fun hc8 => ?_)
        · exact absurd hc8 (by decide)
        · refine lv_aload_n hx hb dX6_chain_79 rfl (lv_at hl 1 rfl) ?_
          refine lv_iload hx hb dX6_chain_80 (lv_at hl 4 rfl) ?_
          obtain ⟨r9, hr9, h⟩ := bind_inv h
          refine kV (rest := [.int x3]) (st1 := [.int r9, .int x3]) (cr := []) (cs' := [w6 cA a σ]) Z (c_X6_windersOf l D cA a σ x4 r9 hr9) 1 gX6_chain_X6_windersOf rfl hdX6_windersOf ⟨rfl, rfl⟩ ⟨Nat.le_of_ble_eq_true rfl, Nat.le_of_ble_eq_true rfl⟩ ⟨Nat.zero_le _, Nat.zero_le _⟩ hP hD hS hl.1 rfl rfl rfl (Nat.le_of_ble_eq_true rfl) 6 rfl rfl rfl [0] [] [0] rfl rfl rfl rfl rfl dX6_chain_82 (fun H locs hP hD hS => ?_)
          refine lv_if_ne (tgt := 95) hx hb dX6_chain_85 (by decide) (fun hc10 => ?_) (fun hc10 => ?_)
          · rw [if_neg hc10] at h
            refine lv_iconst (v := 0) hx hb dX6_chain_95 (by decide) ?_
            refine lv_ior hx hb dX6_chain_96 ?_
            refine lv_istore_n (lv' := [(3, .int (x3 ||| 0)), (5, .int 1), (0, .ref (a 0)), (1, .int x1), (4, .int x4)]) hx hb dX6_chain_97 rfl hl (by decide) rfl (fun ls hl => ?_)
            refine lv_iinc (v := x4 + 1) (lv' := [(4, .int (x4 + 1)), (3, .int (x3 ||| 0)), (5, .int 1), (0, .ref (a 0)), (1, .int x1)]) hx hb dX6_chain_98 hl (k := 4) rfl rfl (by decide) rfl (fun ls hl => ?_)
            refine lv_goto (tgt := 35) hx hb dX6_chain_101 (by decide) ?_
            exact ih _ _ _ h _ _ _ hP hD hS (lv_sub hl [3, 4, 1, 0] rfl) kk
          · rw [if_pos hc10] at h
            refine lv_iconst (v := 1) hx hb dX6_chain_88 (by decide) ?_
            refine lv_iload hx hb dX6_chain_89 (lv_at hl 4 rfl) ?_
            refine lv_ishl hx hb dX6_chain_91 ?_
            refine lv_goto (tgt := 96) hx hb dX6_chain_92 (by decide) ?_
            refine lv_ior hx hb dX6_chain_96 ?_
            refine lv_istore_n (lv' := [(3, .int (x3 ||| (1 <<< (x4 &&& 31)))), (5, .int 1), (0, .ref (a 0)), (1, .int x1), (4, .int x4)]) hx hb dX6_chain_97 rfl hl (by decide) rfl (fun ls hl => ?_)
            refine lv_iinc (v := x4 + 1) (lv' := [(4, .int (x4 + 1)), (3, .int (x3 ||| (1 <<< (x4 &&& 31)))), (5, .int 1), (0, .ref (a 0)), (1, .int x1)]) hx hb dX6_chain_98 hl (k := 4) rfl rfl (by decide) rfl (fun ls hl => ?_)
            refine lv_goto (tgt := 35) hx hb dX6_chain_101 (by decide) ?_
            exact ih _ _ _ h _ _ _ hP hD hS (lv_sub hl [3, 4, 1, 0] rfl) kk
      · rw [if_neg hc7] at h
        refine lv_aload_n hx hb dX6_chain_52 rfl (lv_at hl 0 rfl) ?_
        refine lv_iload hx hb dX6_chain_53 (lv_at hl 3 rfl) ?_
        obtain ⟨r11, hr11, h⟩ := bind_inv h
        refine kV (rest := []) (st1 := [.int r11]) (cr := []) (cs' := [w6 cA a σ]) Z (c_X6_behind l D cA a σ x4 r11 hr11) 1 gX6_chain_X6_behind rfl hdX6_behind ⟨rfl, rfl⟩ ⟨Nat.le_of_ble_eq_true rfl, Nat.le_of_ble_eq_true rfl⟩ ⟨Nat.zero_le _, Nat.zero_le _⟩ hP hD hS hl.1 rfl rfl rfl (Nat.le_of_ble_eq_true rfl) 6 rfl rfl rfl [0] [] [0] rfl rfl rfl rfl rfl dX6_chain_55 (fun H locs hP hD hS => ?_)
        refine lv_iload_n hx hb dX6_chain_58 rfl (lv_at hl 1 rfl) ?_
        refine lv_ishr hx hb dX6_chain_59 ?_
        refine lv_iconst (v := 1) hx hb dX6_chain_60 (by decide) ?_
        refine lv_iand hx hb dX6_chain_61 ?_
        refine lv_iconst (v := 1) hx hb dX6_chain_62 (by decide) ?_
        refine lv_icmp_ne (tgt := 70) hx hb dX6_chain_63 (by decide) (fun hc12 => ?_) (fun hc12 => ?_)
        · rw [if_neg hc12] at h
          refine lv_iconst (v := 0) hx hb dX6_chain_70 (by decide) ?_
          refine lv_istore (lv' := [(5, .int 0), (0, .ref (a 0)), (1, .int x1), (3, .int x3), (4, .int x4)]) hx hb dX6_chain_71 hl (by decide) rfl (fun ls hl => ?_)
          refine lv_iload_n hx hb dX6_chain_73 rfl (lv_at hl 3 rfl) ?_
          refine lv_iload hx hb dX6_chain_74 (lv_at hl 0 rfl) ?_
          refine lv_if_eq (tgt := 95) hx hb dX6_chain_76 (by decide) (fun hc13 => ?_) (fun hc13 => ?_)
          · refine lv_iconst (v := 0) hx hb dX6_chain_95 (by decide) ?_
            refine lv_ior hx hb dX6_chain_96 ?_
            refine lv_istore_n (lv' := [(3, .int (x3 ||| 0)), (5, .int 0), (0, .ref (a 0)), (1, .int x1), (4, .int x4)]) hx hb dX6_chain_97 rfl hl (by decide) rfl (fun ls hl => ?_)
            refine lv_iinc (v := x4 + 1) (lv' := [(4, .int (x4 + 1)), (3, .int (x3 ||| 0)), (5, .int 0), (0, .ref (a 0)), (1, .int x1)]) hx hb dX6_chain_98 hl (k := 4) rfl rfl (by decide) rfl (fun ls hl => ?_)
            refine lv_goto (tgt := 35) hx hb dX6_chain_101 (by decide) ?_
            exact ih _ _ _ h _ _ _ hP hD hS (lv_sub hl [3, 4, 1, 0] rfl) kk
          · exact absurd hc13 (by decide)
        · rw [if_pos hc12] at h
          refine lv_iconst (v := 1) hx hb dX6_chain_66 (by decide) ?_
          refine lv_goto (tgt := 71) hx hb dX6_chain_67 (by decide) ?_
          refine lv_istore (lv' := [(5, .int 1), (0, .ref (a 0)), (1, .int x1), (3, .int x3), (4, .int x4)]) hx hb dX6_chain_71 hl (by decide) rfl (fun ls hl => ?_)
          refine lv_iload_n hx hb dX6_chain_73 rfl (lv_at hl 3 rfl) ?_
          refine lv_iload hx hb dX6_chain_74 (lv_at hl 0 rfl) ?_
          refine lv_if_eq (tgt := 95) hx hb dX6_chain_76 (by decide) (fun hc14 => ?_) (fun hc14 => ?_)
          · exact absurd hc14 (by decide)
          · refine lv_aload_n hx hb dX6_chain_79 rfl (lv_at hl 1 rfl) ?_
            refine lv_iload hx hb dX6_chain_80 (lv_at hl 4 rfl) ?_
            obtain ⟨r15, hr15, h⟩ := bind_inv h
            refine kV (rest := [.int x3]) (st1 := [.int r15, .int x3]) (cr := []) (cs' := [w6 cA a σ]) Z (c_X6_windersOf l D cA a σ x4 r15 hr15) 1 gX6_chain_X6_windersOf rfl hdX6_windersOf ⟨rfl, rfl⟩ ⟨Nat.le_of_ble_eq_true rfl, Nat.le_of_ble_eq_true rfl⟩ ⟨Nat.zero_le _, Nat.zero_le _⟩ hP hD hS hl.1 rfl rfl rfl (Nat.le_of_ble_eq_true rfl) 6 rfl rfl rfl [0] [] [0] rfl rfl rfl rfl rfl dX6_chain_82 (fun H locs hP hD hS => ?_)
            refine lv_if_ne (tgt := 95) hx hb dX6_chain_85 (by decide) (fun hc16 => ?_) (fun hc16 => ?_)
            · rw [if_neg hc16] at h
              refine lv_iconst (v := 0) hx hb dX6_chain_95 (by decide) ?_
              refine lv_ior hx hb dX6_chain_96 ?_
              refine lv_istore_n (lv' := [(3, .int (x3 ||| 0)), (5, .int 1), (0, .ref (a 0)), (1, .int x1), (4, .int x4)]) hx hb dX6_chain_97 rfl hl (by decide) rfl (fun ls hl => ?_)
              refine lv_iinc (v := x4 + 1) (lv' := [(4, .int (x4 + 1)), (3, .int (x3 ||| 0)), (5, .int 1), (0, .ref (a 0)), (1, .int x1)]) hx hb dX6_chain_98 hl (k := 4) rfl rfl (by decide) rfl (fun ls hl => ?_)
              refine lv_goto (tgt := 35) hx hb dX6_chain_101 (by decide) ?_
              exact ih _ _ _ h _ _ _ hP hD hS (lv_sub hl [3, 4, 1, 0] rfl) kk
            · rw [if_pos hc16] at h
              refine lv_iconst (v := 1) hx hb dX6_chain_88 (by decide) ?_
              refine lv_iload hx hb dX6_chain_89 (lv_at hl 4 rfl) ?_
              refine lv_ishl hx hb dX6_chain_91 ?_
              refine lv_goto (tgt := 96) hx hb dX6_chain_92 (by decide) ?_
              refine lv_ior hx hb dX6_chain_96 ?_
              refine lv_istore_n (lv' := [(3, .int (x3 ||| (1 <<< (x4 &&& 31)))), (5, .int 1), (0, .ref (a 0)), (1, .int x1), (4, .int x4)]) hx hb dX6_chain_97 rfl hl (by decide) rfl (fun ls hl => ?_)
              refine lv_iinc (v := x4 + 1) (lv' := [(4, .int (x4 + 1)), (3, .int (x3 ||| (1 <<< (x4 &&& 31)))), (5, .int 1), (0, .ref (a 0)), (1, .int x1)]) hx hb dX6_chain_98 hl (k := 4) rfl rfl (by decide) rfl (fun ls hl => ?_)
              refine lv_goto (tgt := 35) hx hb dX6_chain_101 (by decide) ?_
              exact ih _ _ _ h _ _ _ hP hD hS (lv_sub hl [3, 4, 1, 0] rfl) kk
set_option maxHeartbeats 4000000 in
set_option maxRecDepth 100000 in
theorem c_X6_chain (l : Launch) (D : va_G) (cA : Nat → ClassId) (a : Nat → Nat) (σ : St6) (x1 : Int32) (x2 : Int32) (res : Int32) (h : f_X6_chain σ x1 x2 = some res) : CT l D cA yX6_chain wsX6_chain rmX6_chain [.ref (a 0), .int x1, .int x2] [w6 cA a σ] [w6 cA a σ] (some (.int res)) := by
  refine CT.start (cc := cX6_chain) (maxL := 6) (ret := (some .int)) (by decide) rfl (Nat.le_of_ble_eq_true rfl) ?_
  intro p e s m below meth c Z hP hD hS ls hl
  have Z : Cx p s m _ meth c cX6_chain 6 (some .int) wsX6_chain RX6 D cA := Z
  have hl : lv_has ls 6 [(0, .ref (a 0)), (1, .int x1), (2, .int x2)] := hl
  obtain ⟨hx, hb, hml, hown, hts, hr, hlk, hKK⟩ := id Z
  have hK := hKK.1
  rw [f_X6_chain] at h
  refine lv_aload_n hx hb dX6_chain_0 rfl (lv_at hl 0 rfl) ?_
  refine lv_iload_n hx hb dX6_chain_1 rfl (lv_at hl 1 rfl) ?_
  obtain ⟨r1, hr1, h⟩ := bind_inv h
  refine kV (rest := []) (st1 := [.int r1]) (cr := []) (cs' := [w6 cA a σ]) Z (c_X6_isPerson l D cA a σ x1 r1 hr1) 1 gX6_chain_X6_isPerson rfl hdX6_isPerson ⟨rfl, rfl⟩ ⟨Nat.le_of_ble_eq_true rfl, Nat.le_of_ble_eq_true rfl⟩ ⟨Nat.zero_le _, Nat.zero_le _⟩ hP hD hS hl.1 rfl rfl rfl (Nat.le_of_ble_eq_true rfl) 6 rfl rfl rfl [0] [] [0] rfl rfl rfl rfl rfl dX6_chain_2 (fun H locs hP hD hS => ?_)
  refine lv_if_eq (tgt := 18) hx hb dX6_chain_5 (by decide) (fun hc2 => ?_) (fun hc2 => ?_)
  · rw [if_pos hc2] at h
    refine lv_iconst (v := (-1)) hx hb dX6_chain_18 (by decide) ?_
    have h := Option.some.inj h
    subst h
    exact CT.iret Z hP hD hS dX6_chain_19
  · rw [if_neg hc2] at h
    refine lv_iload_n hx hb dX6_chain_8 rfl (lv_at hl 2 rfl) ?_
    refine lv_i2l (v := x2.toInt64) hx hb dX6_chain_9 rfl ?_
    refine lv_lconst (v := 0) hx hb dX6_chain_10 (by decide) ?_
    refine lv_lconst (v := 1) hx hb dX6_chain_11 (by decide) ?_
    obtain ⟨r3, hr3, h⟩ := bind_inv h
    refine kS (rest := []) (st1 := [.int r3]) (cr := [w6 cA a σ]) (cs' := [w6 cA a σ]) Z (c_X6_in l D cA x2.toInt64 0 1 r3 hr3) 3 gX6_chain_X6_in rfl hdX6_in ⟨rfl, rfl⟩ ⟨Nat.le_of_ble_eq_true rfl, Nat.le_of_ble_eq_true rfl⟩ ⟨Nat.zero_le _, Nat.zero_le _⟩ hP hD hS hl.1 rfl rfl rfl (Nat.le_of_ble_eq_true rfl) [] [0] [0] rfl rfl rfl rfl rfl dX6_chain_12 (fun H locs hP hD hS => ?_)
    refine lv_if_ne (tgt := 20) hx hb dX6_chain_15 (by decide) (fun hc4 => ?_) (fun hc4 => ?_)
    · rw [if_neg hc4] at h
      refine lv_iload_n hx hb dX6_chain_20 rfl (lv_at hl 2 rfl) ?_
      refine lv_if_ne (tgt := 30) hx hb dX6_chain_21 (by decide) (fun hc5 => ?_) (fun hc5 => ?_)
      · rw [if_neg hc5] at h
        refine lv_iconst (v := 0) hx hb dX6_chain_30 (by decide) ?_
        refine lv_istore_n (lv' := [(3, .int 0), (0, .ref (a 0)), (1, .int x1), (2, .int x2)]) hx hb dX6_chain_31 rfl hl (by decide) rfl (fun ls hl => ?_)
        refine lv_iconst (v := 0) hx hb dX6_chain_32 (by decide) ?_
        refine lv_istore (lv' := [(4, .int 0), (3, .int 0), (0, .ref (a 0)), (1, .int x1), (2, .int x2)]) hx hb dX6_chain_33 hl (by decide) rfl (fun ls hl => ?_)
        obtain ⟨q17, hq17, h⟩ := bind_inv h
        refine t_X6_chain_35 Z σ x1 FU _ _ _ hq17 _ _ _ hP hD hS (lv_sub hl [2, 3, 1, 0] rfl) (fun H locs ls hP hD hS hl => ?_)
        refine lv_iload_n hx hb dX6_chain_104 rfl (lv_at hl 2 rfl) ?_
        have h := Option.some.inj h
        subst h
        exact CT.iret Z hP hD hS dX6_chain_105
      · rw [if_pos hc5] at h
        refine lv_aload_n hx hb dX6_chain_24 rfl (lv_at hl 0 rfl) ?_
        refine lv_iload_n hx hb dX6_chain_25 rfl (lv_at hl 1 rfl) ?_
        obtain ⟨r18, hr18, h⟩ := bind_inv h
        refine kV (rest := []) (st1 := [.int r18]) (cr := []) (cs' := [w6 cA a σ]) Z (c_X6_behind l D cA a σ x1 r18 hr18) 1 gX6_chain_X6_behind rfl hdX6_behind ⟨rfl, rfl⟩ ⟨Nat.le_of_ble_eq_true rfl, Nat.le_of_ble_eq_true rfl⟩ ⟨Nat.zero_le _, Nat.zero_le _⟩ hP hD hS hl.1 rfl rfl rfl (Nat.le_of_ble_eq_true rfl) 6 rfl rfl rfl [0] [] [0] rfl rfl rfl rfl rfl dX6_chain_26 (fun H locs hP hD hS => ?_)
        have h := Option.some.inj h
        subst h
        exact CT.iret Z hP hD hS dX6_chain_29
    · rw [if_pos hc4] at h
      refine lv_iconst (v := (-1)) hx hb dX6_chain_18 (by decide) ?_
      have h := Option.some.inj h
      subst h
      exact CT.iret Z hP hD hS dX6_chain_19

-- X6.lends
theorem ck_X6_lends_190 : Cond.constantLong RX6 190 40 ∈ wsX6_lends := by decide +kernel
theorem ck_X6_lends_96 : Cond.constantLong RX6 96 30 ∈ wsX6_lends := by decide +kernel
theorem lk_X6_lends_7 : Cond.fieldLink RX6 7 "KeyedFeelingsModel" "now" "[I" ∈ wsX6_lends := by decide +kernel
theorem in_X6_lends_X6 : ∀ w ∈ wsX60, w ∈ wsX6_lends := by decide +kernel
noncomputable def lp_X6_lends_51 (x1 : Int32) (x2 : Int32) (x3 : Int32) : Nat → Int32 → Int32 → Int32 → St6 → Option (Int32 × Int32 × Int32 × St6)
  | 0, _, _, _, _ => none
  | n + 1, x4, x5, x6, σ => (if ((p6_now σ) (0 : Int32).toNatClampNeg) ≤ x6 then some (x4, x5, x6, σ) else ((f_X6_lent σ x6 x2).bind (fun r9 => ((f_X6_stoppedBehind r9 x1).bind (fun r10 => ((f_X6_many r10.1).bind (fun r11 => (if x5 ≤ r11 then (if x5 ≤ r11 then lp_X6_lends_51 x1 x2 x3 n x4 x5 (x6 + 1) r10.2 else lp_X6_lends_51 x1 x2 x3 n x4 r11 (x6 + 1) r10.2) else (if x5 ≤ r11 then lp_X6_lends_51 x1 x2 x3 n x6 x5 (x6 + 1) r10.2 else lp_X6_lends_51 x1 x2 x3 n x6 r11 (x6 + 1) r10.2)))))))))
noncomputable def f_X6_lends (σ : St6) (x1 : Int32) (x2 : Int32) (x3 : Int32) : Option (Int32 × St6) := ((f_X6_in x1.toInt64 1 40).bind (fun r1 => (if r1 = 0 then some ((-1), σ) else ((f_X6_in x2.toInt64 1 30).bind (fun r3 => (if r3 = 0 then some ((-1), σ) else ((f_X6_in x3.toInt64 0 1).bind (fun r5 => (if r5 = 0 then some ((-1), σ) else ((f_X6_asides σ).bind (fun r7 => ((lp_X6_lends_51 x1 x2 x3 FU (-4) 99 0 r7).bind (fun q15 => (if x3 = 0 then some (q15.1, q15.2.2.2) else (if q15.1 = (-4) then some (q15.1, q15.2.2.2) else some (q15.2.1, q15.2.2.2))))))))))))))))
noncomputable def rmX6_lends : Room := { frames := 7, cells := 0, slots := 0, locals := 156 }
set_option maxHeartbeats 4000000 in
set_option maxRecDepth 100000 in
theorem t_X6_lends_51 {p : Program} {l : Launch} {e : Env} {s : State} {m : MethodId} {args : Array Value} {below : List Frame} {meth : Method} {c : Code} {D : va_G} {cA : Nat → ClassId} {A0 : Nat → Prop} {H0 : Heap} {a : Nat → Nat} (Z : Cx p s m args meth c cX6_lends 8 (some .int) wsX6_lends RX6 D cA) (x1 : Int32) (x2 : Int32) (x3 : Int32) {Q : State → Prop} : ∀ (n : Nat) (x4 : Int32) (x5 : Int32) (x6 : Int32) (σ : St6) (q : Int32 × Int32 × Int32 × St6), lp_X6_lends_51 x1 x2 x3 n x4 x5 x6 σ = some q → ∀ (H : Heap) (locs : List Loc) (ls : Array Slot), va_P D vwCl ([w6 cA a σ] : List va_W).flatten H → va_D A0 ([w6 cA a σ] : List va_W).flatten → va_S A0 H0 H locs → lv_has ls 8 [(0, .ref (a 0)), (1, .int x1), (2, .int x2), (3, .int x3), (4, .int x4), (5, .int x5), (6, .int x6)] → (∀ (H : Heap) (locs : List Loc) (ls : Array Slot), va_P D vwCl ([w6 cA a q.2.2.2] : List va_W).flatten H → va_D A0 ([w6 cA a q.2.2.2] : List va_W).flatten → va_S A0 H0 H locs → lv_has ls 8 [(0, .ref (a 0)), (1, .int x1), (2, .int x2), (3, .int x3), (4, .int q.1), (5, .int q.2.1), (6, .int q.2.2.1)] → W p l e rmX6_lends s m args below meth c H locs 0 0 Q (F0 m 117 ls [])) → W p l e rmX6_lends s m args below meth c H locs 0 0 Q (F0 m 51 ls []) := by
  obtain ⟨hx, hb, hml, hown, hts, hr, hlk, hKK⟩ := id Z
  have hK := hKK.1
  intro n
  induction n with
  | zero =>
    intro x4 x5 x6 σ q h
    rw [lp_X6_lends_51] at h
    cases h
  | succ n ih =>
    intro x4 x5 x6 σ q h H locs ls hP hD hS hl kk
    rw [lp_X6_lends_51] at h
    refine lv_iload hx hb dX6_lends_51 (lv_at hl 6 rfl) ?_
    refine lv_aload_n hx hb dX6_lends_53 rfl (lv_at hl 0 rfl) ?_
    refine va_get (D := D) (ci := 6) (v := .ref (a 1)) (C := RX6) (T := TX6) (N := 19) hx hb hts in_X6_lends_X6 hown hK hP 0 rfl rfl 0 (by decide) (hts _ lk_X6_lends_7) (fun _ h9 => h9) rfl dX6_lends_54 ?_
    refine lv_iconst (v := 0) hx hb dX6_lends_57 (by decide) ?_
    refine va_iald hx hb hK hP 1 0 rfl rfl (inB_in (by decide)) dX6_lends_58 ?_
    refine lv_icmp_ge (tgt := 117) hx hb dX6_lends_59 (by decide) (fun hc8 => ?_) (fun hc8 => ?_)
    · rw [if_pos hc8] at h
      have h := Option.some.inj h
      subst h
      exact kk _ _ _ hP hD hS (lv_sub hl [0, 1, 2, 3, 4, 5, 6] rfl)
    · rw [if_neg hc8] at h
      refine lv_aload_n hx hb dX6_lends_62 rfl (lv_at hl 0 rfl) ?_
      refine lv_iload hx hb dX6_lends_63 (lv_at hl 6 rfl) ?_
      refine lv_iload_n hx hb dX6_lends_65 rfl (lv_at hl 2 rfl) ?_
      obtain ⟨r9, hr9, h⟩ := bind_inv h
      refine kV (rest := []) (st1 := []) (cr := []) (cs' := [w6 cA a r9]) Z (c_X6_lent l D cA a σ x6 x2 r9 hr9) 2 gX6_lends_X6_lent rfl hdX6_lent ⟨rfl, rfl⟩ ⟨Nat.le_of_ble_eq_true rfl, Nat.le_of_ble_eq_true rfl⟩ ⟨Nat.zero_le _, Nat.zero_le _⟩ hP hD hS hl.1 rfl rfl rfl (Nat.le_of_ble_eq_true rfl) 6 rfl rfl rfl [0] [] [0] rfl rfl rfl rfl rfl dX6_lends_66 (fun H locs hP hD hS => ?_)
      refine lv_aload_n hx hb dX6_lends_69 rfl (lv_at hl 0 rfl) ?_
      refine lv_iload_n hx hb dX6_lends_70 rfl (lv_at hl 1 rfl) ?_
      obtain ⟨r10, hr10, h⟩ := bind_inv h
      refine kV (rest := []) (st1 := [.int r10.1]) (cr := []) (cs' := [w6 cA a r10.2]) Z (c_X6_stoppedBehind l D cA a r9 x1 r10 hr10) 1 gX6_lends_X6_stoppedBehind rfl hdX6_stoppedBehind ⟨rfl, rfl⟩ ⟨Nat.le_of_ble_eq_true rfl, Nat.le_of_ble_eq_true rfl⟩ ⟨Nat.zero_le _, Nat.zero_le _⟩ hP hD hS hl.1 rfl rfl rfl (Nat.le_of_ble_eq_true rfl) 6 rfl rfl rfl [0] [] [0] rfl rfl rfl rfl rfl dX6_lends_71 (fun H locs hP hD hS => ?_)
      obtain ⟨r11, hr11, h⟩ := bind_inv h
      refine kS (rest := []) (st1 := [.int r11]) (cr := [w6 cA a r10.2]) (cs' := [w6 cA a r10.2]) Z (c_X6_many l D cA r10.1 r11 hr11) 1 gX6_lends_X6_many rfl hdX6_many ⟨rfl, rfl⟩ ⟨Nat.le_of_ble_eq_true rfl, Nat.le_of_ble_eq_true rfl⟩ ⟨Nat.zero_le _, Nat.zero_le _⟩ hP hD hS hl.1 rfl rfl rfl (Nat.le_of_ble_eq_true rfl) [] [0] [0] rfl rfl rfl rfl rfl dX6_lends_74 (fun H locs hP hD hS => ?_)
      refine lv_istore (lv' := [(7, .int r11), (0, .ref (a 0)), (1, .int x1), (2, .int x2), (3, .int x3), (4, .int x4), (5, .int x5), (6, .int x6)]) hx hb dX6_lends_77 hl (by decide) rfl (fun ls hl => ?_)
      refine lv_iload hx hb dX6_lends_79 (lv_at hl 0 rfl) ?_
      refine lv_iload hx hb dX6_lends_81 (lv_at hl 6 rfl) ?_
      refine lv_icmp_ge (tgt := 91) hx hb dX6_lends_83 (by decide) (fun hc12 => ?_) (fun hc12 => ?_)
      · rw [if_pos hc12] at h
        refine lv_iload hx hb dX6_lends_91 (lv_at hl 5 rfl) ?_
        refine lv_istore (lv' := [(4, .int x4), (7, .int r11), (0, .ref (a 0)), (1, .int x1), (2, .int x2), (3, .int x3), (5, .int x5), (6, .int x6)]) hx hb dX6_lends_93 hl (by decide) rfl (fun ls hl => ?_)
        refine lv_iload hx hb dX6_lends_95 (lv_at hl 1 rfl) ?_
        refine lv_iload hx hb dX6_lends_97 (lv_at hl 6 rfl) ?_
        refine lv_icmp_ge (tgt := 107) hx hb dX6_lends_99 (by decide) (fun hc13 => ?_) (fun hc13 => ?_)
        · rw [if_pos hc13] at h
          refine lv_iload hx hb dX6_lends_107 (lv_at hl 6 rfl) ?_
          refine lv_istore (lv' := [(5, .int x5), (4, .int x4), (7, .int r11), (0, .ref (a 0)), (1, .int x1), (2, .int x2), (3, .int x3), (6, .int x6)]) hx hb dX6_lends_109 hl (by decide) rfl (fun ls hl => ?_)
          refine lv_iinc (v := x6 + 1) (lv' := [(6, .int (x6 + 1)), (5, .int x5), (4, .int x4), (7, .int r11), (0, .ref (a 0)), (1, .int x1), (2, .int x2), (3, .int x3)]) hx hb dX6_lends_111 hl (k := 7) rfl rfl (by decide) rfl (fun ls hl => ?_)
          refine lv_goto (tgt := 51) hx hb dX6_lends_114 (by decide) ?_
          exact ih _ _ _ _ _ h _ _ _ hP hD hS (lv_sub hl [4, 5, 6, 7, 2, 1, 0] rfl) kk
        · rw [if_neg hc13] at h
          refine lv_iload hx hb dX6_lends_102 (lv_at hl 1 rfl) ?_
          refine lv_goto (tgt := 109) hx hb dX6_lends_104 (by decide) ?_
          refine lv_istore (lv' := [(5, .int r11), (4, .int x4), (7, .int r11), (0, .ref (a 0)), (1, .int x1), (2, .int x2), (3, .int x3), (6, .int x6)]) hx hb dX6_lends_109 hl (by decide) rfl (fun ls hl => ?_)
          refine lv_iinc (v := x6 + 1) (lv' := [(6, .int (x6 + 1)), (5, .int r11), (4, .int x4), (7, .int r11), (0, .ref (a 0)), (1, .int x1), (2, .int x2), (3, .int x3)]) hx hb dX6_lends_111 hl (k := 7) rfl rfl (by decide) rfl (fun ls hl => ?_)
          refine lv_goto (tgt := 51) hx hb dX6_lends_114 (by decide) ?_
          exact ih _ _ _ _ _ h _ _ _ hP hD hS (lv_sub hl [4, 5, 6, 7, 2, 1, 0] rfl) kk
      · rw [if_neg hc12] at h
        refine lv_iload hx hb dX6_lends_86 (lv_at hl 7 rfl) ?_
        refine lv_goto (tgt := 93) hx hb dX6_lends_88 (by decide) ?_
        refine lv_istore (lv' := [(4, .int x6), (7, .int r11), (0, .ref (a 0)), (1, .int x1), (2, .int x2), (3, .int x3), (5, .int x5), (6, .int x6)]) hx hb dX6_lends_93 hl (by decide) rfl (fun ls hl => ?_)
        refine lv_iload hx hb dX6_lends_95 (lv_at hl 1 rfl) ?_
        refine lv_iload hx hb dX6_lends_97 (lv_at hl 6 rfl) ?_
        refine lv_icmp_ge (tgt := 107) hx hb dX6_lends_99 (by decide) (fun hc14 => ?_) (fun hc14 => ?_)
        · rw [if_pos hc14] at h
          refine lv_iload hx hb dX6_lends_107 (lv_at hl 6 rfl) ?_
          refine lv_istore (lv' := [(5, .int x5), (4, .int x6), (7, .int r11), (0, .ref (a 0)), (1, .int x1), (2, .int x2), (3, .int x3), (6, .int x6)]) hx hb dX6_lends_109 hl (by decide) rfl (fun ls hl => ?_)
          refine lv_iinc (v := x6 + 1) (lv' := [(6, .int (x6 + 1)), (5, .int x5), (4, .int x6), (7, .int r11), (0, .ref (a 0)), (1, .int x1), (2, .int x2), (3, .int x3)]) hx hb dX6_lends_111 hl (k := 7) rfl rfl (by decide) rfl (fun ls hl => ?_)
          refine lv_goto (tgt := 51) hx hb dX6_lends_114 (by decide) ?_
          exact ih _ _ _ _ _ h _ _ _ hP hD hS (lv_sub hl [4, 5, 6, 7, 2, 1, 0] rfl) kk
        · rw [if_neg hc14] at h
          refine lv_iload hx hb dX6_lends_102 (lv_at hl 1 rfl) ?_
          refine lv_goto (tgt := 109) hx hb dX6_lends_104 (by decide) ?_
          refine lv_istore (lv' := [(5, .int r11), (4, .int x6), (7, .int r11), (0, .ref (a 0)), (1, .int x1), (2, .int x2), (3, .int x3), (6, .int x6)]) hx hb dX6_lends_109 hl (by decide) rfl (fun ls hl => ?_)
          refine lv_iinc (v := x6 + 1) (lv' := [(6, .int (x6 + 1)), (5, .int r11), (4, .int x6), (7, .int r11), (0, .ref (a 0)), (1, .int x1), (2, .int x2), (3, .int x3)]) hx hb dX6_lends_111 hl (k := 7) rfl rfl (by decide) rfl (fun ls hl => ?_)
          refine lv_goto (tgt := 51) hx hb dX6_lends_114 (by decide) ?_
          exact ih _ _ _ _ _ h _ _ _ hP hD hS (lv_sub hl [4, 5, 6, 7, 2, 1, 0] rfl) kk
set_option maxHeartbeats 4000000 in
set_option maxRecDepth 100000 in
theorem c_X6_lends (l : Launch) (D : va_G) (cA : Nat → ClassId) (a : Nat → Nat) (σ : St6) (x1 : Int32) (x2 : Int32) (x3 : Int32) (res : Int32 × St6) (h : f_X6_lends σ x1 x2 x3 = some res) : CT l D cA yX6_lends wsX6_lends rmX6_lends [.ref (a 0), .int x1, .int x2, .int x3] [w6 cA a σ] [w6 cA a res.2] (some (.int res.1)) := by
  refine CT.start (cc := cX6_lends) (maxL := 8) (ret := (some .int)) (by decide) rfl (Nat.le_of_ble_eq_true rfl) ?_
  intro p e s m below meth c Z hP hD hS ls hl
  have Z : Cx p s m _ meth c cX6_lends 8 (some .int) wsX6_lends RX6 D cA := Z
  have hl : lv_has ls 8 [(0, .ref (a 0)), (1, .int x1), (2, .int x2), (3, .int x3)] := hl
  obtain ⟨hx, hb, hml, hown, hts, hr, hlk, hKK⟩ := id Z
  have hK := hKK.1
  rw [f_X6_lends] at h
  refine lv_iload_n hx hb dX6_lends_0 rfl (lv_at hl 1 rfl) ?_
  refine lv_i2l (v := x1.toInt64) hx hb dX6_lends_1 rfl ?_
  refine lv_lconst (v := 1) hx hb dX6_lends_2 (by decide) ?_
  refine lv_ldc2 hx hb hown (hts _ ck_X6_lends_190) dX6_lends_3 ?_
  obtain ⟨r1, hr1, h⟩ := bind_inv h
  refine kS (rest := []) (st1 := [.int r1]) (cr := [w6 cA a σ]) (cs' := [w6 cA a σ]) Z (c_X6_in l D cA x1.toInt64 1 40 r1 hr1) 3 gX6_lends_X6_in rfl hdX6_in ⟨rfl, rfl⟩ ⟨Nat.le_of_ble_eq_true rfl, Nat.le_of_ble_eq_true rfl⟩ ⟨Nat.zero_le _, Nat.zero_le _⟩ hP hD hS hl.1 rfl rfl rfl (Nat.le_of_ble_eq_true rfl) [] [0] [0] rfl rfl rfl rfl rfl dX6_lends_6 (fun H locs hP hD hS => ?_)
  refine lv_if_eq (tgt := 34) hx hb dX6_lends_9 (by decide) (fun hc2 => ?_) (fun hc2 => ?_)
  · rw [if_pos hc2] at h
    refine lv_iconst (v := (-1)) hx hb dX6_lends_34 (by decide) ?_
    have h := Option.some.inj h
    subst h
    exact CT.iret Z hP hD hS dX6_lends_35
  · rw [if_neg hc2] at h
    refine lv_iload_n hx hb dX6_lends_12 rfl (lv_at hl 2 rfl) ?_
    refine lv_i2l (v := x2.toInt64) hx hb dX6_lends_13 rfl ?_
    refine lv_lconst (v := 1) hx hb dX6_lends_14 (by decide) ?_
    refine lv_ldc2 hx hb hown (hts _ ck_X6_lends_96) dX6_lends_15 ?_
    obtain ⟨r3, hr3, h⟩ := bind_inv h
    refine kS (rest := []) (st1 := [.int r3]) (cr := [w6 cA a σ]) (cs' := [w6 cA a σ]) Z (c_X6_in l D cA x2.toInt64 1 30 r3 hr3) 3 gX6_lends_X6_in rfl hdX6_in ⟨rfl, rfl⟩ ⟨Nat.le_of_ble_eq_true rfl, Nat.le_of_ble_eq_true rfl⟩ ⟨Nat.zero_le _, Nat.zero_le _⟩ hP hD hS hl.1 rfl rfl rfl (Nat.le_of_ble_eq_true rfl) [] [0] [0] rfl rfl rfl rfl rfl dX6_lends_18 (fun H locs hP hD hS => ?_)
    refine lv_if_eq (tgt := 34) hx hb dX6_lends_21 (by decide) (fun hc4 => ?_) (fun hc4 => ?_)
    · rw [if_pos hc4] at h
      refine lv_iconst (v := (-1)) hx hb dX6_lends_34 (by decide) ?_
      have h := Option.some.inj h
      subst h
      exact CT.iret Z hP hD hS dX6_lends_35
    · rw [if_neg hc4] at h
      refine lv_iload_n hx hb dX6_lends_24 rfl (lv_at hl 3 rfl) ?_
      refine lv_i2l (v := x3.toInt64) hx hb dX6_lends_25 rfl ?_
      refine lv_lconst (v := 0) hx hb dX6_lends_26 (by decide) ?_
      refine lv_lconst (v := 1) hx hb dX6_lends_27 (by decide) ?_
      obtain ⟨r5, hr5, h⟩ := bind_inv h
      refine kS (rest := []) (st1 := [.int r5]) (cr := [w6 cA a σ]) (cs' := [w6 cA a σ]) Z (c_X6_in l D cA x3.toInt64 0 1 r5 hr5) 3 gX6_lends_X6_in rfl hdX6_in ⟨rfl, rfl⟩ ⟨Nat.le_of_ble_eq_true rfl, Nat.le_of_ble_eq_true rfl⟩ ⟨Nat.zero_le _, Nat.zero_le _⟩ hP hD hS hl.1 rfl rfl rfl (Nat.le_of_ble_eq_true rfl) [] [0] [0] rfl rfl rfl rfl rfl dX6_lends_28 (fun H locs hP hD hS => ?_)
      refine lv_if_ne (tgt := 36) hx hb dX6_lends_31 (by decide) (fun hc6 => ?_) (fun hc6 => ?_)
      · rw [if_neg hc6] at h
        refine lv_bipush (v := (-4)) hx hb dX6_lends_36 (by decide) ?_
        refine lv_istore (lv' := [(4, .int (-4)), (0, .ref (a 0)), (1, .int x1), (2, .int x2), (3, .int x3)]) hx hb dX6_lends_38 hl (by decide) rfl (fun ls hl => ?_)
        refine lv_bipush (v := 99) hx hb dX6_lends_40 (by decide) ?_
        refine lv_istore (lv' := [(5, .int 99), (4, .int (-4)), (0, .ref (a 0)), (1, .int x1), (2, .int x2), (3, .int x3)]) hx hb dX6_lends_42 hl (by decide) rfl (fun ls hl => ?_)
        refine lv_aload_n hx hb dX6_lends_44 rfl (lv_at hl 2 rfl) ?_
        obtain ⟨r7, hr7, h⟩ := bind_inv h
        refine kV (rest := []) (st1 := []) (cr := []) (cs' := [w6 cA a r7]) Z (c_X6_asides l D cA a σ r7 hr7) 0 gX6_lends_X6_asides rfl hdX6_asides ⟨rfl, rfl⟩ ⟨Nat.le_of_ble_eq_true rfl, Nat.le_of_ble_eq_true rfl⟩ ⟨Nat.zero_le _, Nat.zero_le _⟩ hP hD hS hl.1 rfl rfl rfl (Nat.le_of_ble_eq_true rfl) 6 rfl rfl rfl [0] [] [0] rfl rfl rfl rfl rfl dX6_lends_45 (fun H locs hP hD hS => ?_)
        refine lv_iconst (v := 0) hx hb dX6_lends_48 (by decide) ?_
        refine lv_istore (lv' := [(6, .int 0), (5, .int 99), (4, .int (-4)), (0, .ref (a 0)), (1, .int x1), (2, .int x2), (3, .int x3)]) hx hb dX6_lends_49 hl (by decide) rfl (fun ls hl => ?_)
        obtain ⟨q15, hq15, h⟩ := bind_inv h
        refine t_X6_lends_51 Z x1 x2 x3 FU _ _ _ _ _ hq15 _ _ _ hP hD hS (lv_sub hl [3, 4, 5, 6, 2, 1, 0] rfl) (fun H locs ls hP hD hS hl => ?_)
        refine lv_iload_n hx hb dX6_lends_117 rfl (lv_at hl 3 rfl) ?_
        refine lv_if_eq (tgt := 128) hx hb dX6_lends_118 (by decide) (fun hc16 => ?_) (fun hc16 => ?_)
        · rw [if_pos hc16] at h
          refine lv_iload hx hb dX6_lends_128 (lv_at hl 4 rfl) ?_
          refine lv_goto (tgt := 135) hx hb dX6_lends_130 (by decide) ?_
          have h := Option.some.inj h
          subst h
          exact CT.iret Z hP hD hS dX6_lends_135
        · rw [if_neg hc16] at h
          refine lv_iload hx hb dX6_lends_121 (lv_at hl 4 rfl) ?_
          refine lv_bipush (v := (-4)) hx hb dX6_lends_123 (by decide) ?_
          refine lv_icmp_ne (tgt := 133) hx hb dX6_lends_125 (by decide) (fun hc17 => ?_) (fun hc17 => ?_)
          · rw [if_neg hc17] at h
            refine lv_iload hx hb dX6_lends_133 (lv_at hl 5 rfl) ?_
            have h := Option.some.inj h
            subst h
            exact CT.iret Z hP hD hS dX6_lends_135
          · rw [if_pos hc17] at h
            refine lv_iload hx hb dX6_lends_128 (lv_at hl 4 rfl) ?_
            refine lv_goto (tgt := 135) hx hb dX6_lends_130 (by decide) ?_
            have h := Option.some.inj h
            subst h
            exact CT.iret Z hP hD hS dX6_lends_135
      · rw [if_pos hc6] at h
        refine lv_iconst (v := (-1)) hx hb dX6_lends_34 (by decide) ?_
        have h := Option.some.inj h
        subst h
        exact CT.iret Z hP hD hS dX6_lends_35

-- X6.instead
theorem ck_X6_instead_190 : Cond.constantLong RX6 190 40 ∈ wsX6_instead := by decide +kernel
theorem lk_X6_instead_7 : Cond.fieldLink RX6 7 "KeyedFeelingsModel" "now" "[I" ∈ wsX6_instead := by decide +kernel
theorem in_X6_instead_X6 : ∀ w ∈ wsX60, w ∈ wsX6_instead := by decide +kernel
noncomputable def lp_X6_instead_61 (x1 : Int32) (x2 : Int32) (x3 : Int32) : Nat → Int32 → Int32 → Int32 → St6 → Option (Int32 × Int32 × Int32 × St6)
  | 0, _, _, _, _ => none
  | n + 1, x4, x5, x6, σ => (if ((p6_now σ) (0 : Int32).toNatClampNeg) ≤ x6 then some (x4, x5, x6, σ) else (if x6 = x1 then lp_X6_instead_61 x1 x2 x3 n x4 x5 (x6 + 1) σ else ((f_X6_tells σ x1 2 x6).bind (fun r13 => ((f_X6_stoppedBehind r13 x2).bind (fun r14 => ((f_X6_many r14.1).bind (fun r15 => (if x5 ≤ r15 then (if x5 ≤ r15 then lp_X6_instead_61 x1 x2 x3 n x4 x5 (x6 + 1) r14.2 else lp_X6_instead_61 x1 x2 x3 n x4 r15 (x6 + 1) r14.2) else (if x5 ≤ r15 then lp_X6_instead_61 x1 x2 x3 n x6 x5 (x6 + 1) r14.2 else lp_X6_instead_61 x1 x2 x3 n x6 r15 (x6 + 1) r14.2))))))))))
noncomputable def f_X6_instead (σ : St6) (x1 : Int32) (x2 : Int32) (x3 : Int32) : Option (Int32 × St6) := ((f_X6_isPerson σ x1).bind (fun r1 => (if r1 = 0 then some ((-1), σ) else ((f_X6_in x2.toInt64 1 40).bind (fun r3 => (if r3 = 0 then some ((-1), σ) else ((f_X6_in x3.toInt64 0 1).bind (fun r5 => (if r5 = 0 then some ((-1), σ) else ((f_X6_asides σ).bind (fun r7 => ((f_X6_tells r7 x1 2 (-4)).bind (fun r8 => ((f_X6_stoppedBehind r8 x2).bind (fun r9 => ((f_X6_many r9.1).bind (fun r10 => ((lp_X6_instead_61 x1 x2 x3 FU (-4) r10 0 r9.2).bind (fun q19 => (if x3 = 0 then some (q19.1, q19.2.2.2) else some (q19.2.1, q19.2.2.2)))))))))))))))))))))
noncomputable def rmX6_instead : Room := { frames := 7, cells := 0, slots := 0, locals := 156 }
set_option maxHeartbeats 4000000 in
set_option maxRecDepth 100000 in
theorem t_X6_instead_61 {p : Program} {l : Launch} {e : Env} {s : State} {m : MethodId} {args : Array Value} {below : List Frame} {meth : Method} {c : Code} {D : va_G} {cA : Nat → ClassId} {A0 : Nat → Prop} {H0 : Heap} {a : Nat → Nat} (Z : Cx p s m args meth c cX6_instead 8 (some .int) wsX6_instead RX6 D cA) (x1 : Int32) (x2 : Int32) (x3 : Int32) {Q : State → Prop} : ∀ (n : Nat) (x4 : Int32) (x5 : Int32) (x6 : Int32) (σ : St6) (q : Int32 × Int32 × Int32 × St6), lp_X6_instead_61 x1 x2 x3 n x4 x5 x6 σ = some q → ∀ (H : Heap) (locs : List Loc) (ls : Array Slot), va_P D vwCl ([w6 cA a σ] : List va_W).flatten H → va_D A0 ([w6 cA a σ] : List va_W).flatten → va_S A0 H0 H locs → lv_has ls 8 [(0, .ref (a 0)), (1, .int x1), (2, .int x2), (3, .int x3), (4, .int x4), (5, .int x5), (6, .int x6)] → (∀ (H : Heap) (locs : List Loc) (ls : Array Slot), va_P D vwCl ([w6 cA a q.2.2.2] : List va_W).flatten H → va_D A0 ([w6 cA a q.2.2.2] : List va_W).flatten → va_S A0 H0 H locs → lv_has ls 8 [(0, .ref (a 0)), (1, .int x1), (2, .int x2), (3, .int x3), (4, .int q.1), (5, .int q.2.1), (6, .int q.2.2.1)] → W p l e rmX6_instead s m args below meth c H locs 0 0 Q (F0 m 134 ls [])) → W p l e rmX6_instead s m args below meth c H locs 0 0 Q (F0 m 61 ls []) := by
  obtain ⟨hx, hb, hml, hown, hts, hr, hlk, hKK⟩ := id Z
  have hK := hKK.1
  intro n
  induction n with
  | zero =>
    intro x4 x5 x6 σ q h
    rw [lp_X6_instead_61] at h
    cases h
  | succ n ih =>
    intro x4 x5 x6 σ q h H locs ls hP hD hS hl kk
    rw [lp_X6_instead_61] at h
    refine lv_iload hx hb dX6_instead_61 (lv_at hl 6 rfl) ?_
    refine lv_aload_n hx hb dX6_instead_63 rfl (lv_at hl 0 rfl) ?_
    refine va_get (D := D) (ci := 6) (v := .ref (a 1)) (C := RX6) (T := TX6) (N := 19) hx hb hts in_X6_instead_X6 hown hK hP 0 rfl rfl 0 (by decide) (hts _ lk_X6_instead_7) (fun _ h9 => h9) rfl dX6_instead_64 ?_
    refine lv_iconst (v := 0) hx hb dX6_instead_67 (by decide) ?_
    refine va_iald hx hb hK hP 1 0 rfl rfl (inB_in (by decide)) dX6_instead_68 ?_
    refine lv_icmp_ge (tgt := 134) hx hb dX6_instead_69 (by decide) (fun hc11 => ?_) (fun hc11 => ?_)
    · rw [if_pos hc11] at h
      have h := Option.some.inj h
      subst h
      exact kk _ _ _ hP hD hS (lv_sub hl [0, 1, 2, 3, 4, 5, 6] rfl)
    · rw [if_neg hc11] at h
      refine lv_iload hx hb dX6_instead_72 (lv_at hl 6 rfl) ?_
      refine lv_iload_n hx hb dX6_instead_74 rfl (lv_at hl 1 rfl) ?_
      refine lv_icmp_eq (tgt := 128) hx hb dX6_instead_75 (by decide) (fun hc12 => ?_) (fun hc12 => ?_)
      · rw [if_pos hc12] at h
        refine lv_iinc (v := x6 + 1) (lv' := [(6, .int (x6 + 1)), (0, .ref (a 0)), (1, .int x1), (2, .int x2), (3, .int x3), (4, .int x4), (5, .int x5)]) hx hb dX6_instead_128 hl (k := 6) rfl rfl (by decide) rfl (fun ls hl => ?_)
        refine lv_goto (tgt := 61) hx hb dX6_instead_131 (by decide) ?_
        exact ih _ _ _ _ _ h _ _ _ hP hD hS (lv_sub hl [1, 2, 3, 4, 5, 6, 0] rfl) kk
      · rw [if_neg hc12] at h
        refine lv_aload_n hx hb dX6_instead_78 rfl (lv_at hl 0 rfl) ?_
        refine lv_iload_n hx hb dX6_instead_79 rfl (lv_at hl 1 rfl) ?_
        refine lv_iconst (v := 2) hx hb dX6_instead_80 (by decide) ?_
        refine lv_iload hx hb dX6_instead_81 (lv_at hl 6 rfl) ?_
        obtain ⟨r13, hr13, h⟩ := bind_inv h
        refine kV (rest := []) (st1 := []) (cr := []) (cs' := [w6 cA a r13]) Z (c_X6_tells l D cA a σ x1 2 x6 r13 hr13) 3 gX6_instead_X6_tells rfl hdX6_tells ⟨rfl, rfl⟩ ⟨Nat.le_of_ble_eq_true rfl, Nat.le_of_ble_eq_true rfl⟩ ⟨Nat.zero_le _, Nat.zero_le _⟩ hP hD hS hl.1 rfl rfl rfl (Nat.le_of_ble_eq_true rfl) 6 rfl rfl rfl [0] [] [0] rfl rfl rfl rfl rfl dX6_instead_83 (fun H locs hP hD hS => ?_)
        refine lv_aload_n hx hb dX6_instead_86 rfl (lv_at hl 0 rfl) ?_
        refine lv_iload_n hx hb dX6_instead_87 rfl (lv_at hl 2 rfl) ?_
        obtain ⟨r14, hr14, h⟩ := bind_inv h
        refine kV (rest := []) (st1 := [.int r14.1]) (cr := []) (cs' := [w6 cA a r14.2]) Z (c_X6_stoppedBehind l D cA a r13 x2 r14 hr14) 1 gX6_instead_X6_stoppedBehind rfl hdX6_stoppedBehind ⟨rfl, rfl⟩ ⟨Nat.le_of_ble_eq_true rfl, Nat.le_of_ble_eq_true rfl⟩ ⟨Nat.zero_le _, Nat.zero_le _⟩ hP hD hS hl.1 rfl rfl rfl (Nat.le_of_ble_eq_true rfl) 6 rfl rfl rfl [0] [] [0] rfl rfl rfl rfl rfl dX6_instead_88 (fun H locs hP hD hS => ?_)
        obtain ⟨r15, hr15, h⟩ := bind_inv h
        refine kS (rest := []) (st1 := [.int r15]) (cr := [w6 cA a r14.2]) (cs' := [w6 cA a r14.2]) Z (c_X6_many l D cA r14.1 r15 hr15) 1 gX6_instead_X6_many rfl hdX6_many ⟨rfl, rfl⟩ ⟨Nat.le_of_ble_eq_true rfl, Nat.le_of_ble_eq_true rfl⟩ ⟨Nat.zero_le _, Nat.zero_le _⟩ hP hD hS hl.1 rfl rfl rfl (Nat.le_of_ble_eq_true rfl) [] [0] [0] rfl rfl rfl rfl rfl dX6_instead_91 (fun H locs hP hD hS => ?_)
        refine lv_istore (lv' := [(7, .int r15), (0, .ref (a 0)), (1, .int x1), (2, .int x2), (3, .int x3), (4, .int x4), (5, .int x5), (6, .int x6)]) hx hb dX6_instead_94 hl (by decide) rfl (fun ls hl => ?_)
        refine lv_iload hx hb dX6_instead_96 (lv_at hl 0 rfl) ?_
        refine lv_iload hx hb dX6_instead_98 (lv_at hl 6 rfl) ?_
        refine lv_icmp_ge (tgt := 108) hx hb dX6_instead_100 (by decide) (fun hc16 => ?_) (fun hc16 => ?_)
        · rw [if_pos hc16] at h
          refine lv_iload hx hb dX6_instead_108 (lv_at hl 5 rfl) ?_
          refine lv_istore (lv' := [(4, .int x4), (7, .int r15), (0, .ref (a 0)), (1, .int x1), (2, .int x2), (3, .int x3), (5, .int x5), (6, .int x6)]) hx hb dX6_instead_110 hl (by decide) rfl (fun ls hl => ?_)
          refine lv_iload hx hb dX6_instead_112 (lv_at hl 1 rfl) ?_
          refine lv_iload hx hb dX6_instead_114 (lv_at hl 6 rfl) ?_
          refine lv_icmp_ge (tgt := 124) hx hb dX6_instead_116 (by decide) (fun hc17 => ?_) (fun hc17 => ?_)
          · rw [if_pos hc17] at h
            refine lv_iload hx hb dX6_instead_124 (lv_at hl 6 rfl) ?_
            refine lv_istore (lv' := [(5, .int x5), (4, .int x4), (7, .int r15), (0, .ref (a 0)), (1, .int x1), (2, .int x2), (3, .int x3), (6, .int x6)]) hx hb dX6_instead_126 hl (by decide) rfl (fun ls hl => ?_)
            refine lv_iinc (v := x6 + 1) (lv' := [(6, .int (x6 + 1)), (5, .int x5), (4, .int x4), (7, .int r15), (0, .ref (a 0)), (1, .int x1), (2, .int x2), (3, .int x3)]) hx hb dX6_instead_128 hl (k := 7) rfl rfl (by decide) rfl (fun ls hl => ?_)
            refine lv_goto (tgt := 61) hx hb dX6_instead_131 (by decide) ?_
            exact ih _ _ _ _ _ h _ _ _ hP hD hS (lv_sub hl [4, 5, 6, 7, 2, 1, 0] rfl) kk
          · rw [if_neg hc17] at h
            refine lv_iload hx hb dX6_instead_119 (lv_at hl 1 rfl) ?_
            refine lv_goto (tgt := 126) hx hb dX6_instead_121 (by decide) ?_
            refine lv_istore (lv' := [(5, .int r15), (4, .int x4), (7, .int r15), (0, .ref (a 0)), (1, .int x1), (2, .int x2), (3, .int x3), (6, .int x6)]) hx hb dX6_instead_126 hl (by decide) rfl (fun ls hl => ?_)
            refine lv_iinc (v := x6 + 1) (lv' := [(6, .int (x6 + 1)), (5, .int r15), (4, .int x4), (7, .int r15), (0, .ref (a 0)), (1, .int x1), (2, .int x2), (3, .int x3)]) hx hb dX6_instead_128 hl (k := 7) rfl rfl (by decide) rfl (fun ls hl => ?_)
            refine lv_goto (tgt := 61) hx hb dX6_instead_131 (by decide) ?_
            exact ih _ _ _ _ _ h _ _ _ hP hD hS (lv_sub hl [4, 5, 6, 7, 2, 1, 0] rfl) kk
        · rw [if_neg hc16] at h
          refine lv_iload hx hb dX6_instead_103 (lv_at hl 7 rfl) ?_
          refine lv_goto (tgt := 110) hx hb dX6_instead_105 (by decide) ?_
          refine lv_istore (lv' := [(4, .int x6), (7, .int r15), (0, .ref (a 0)), (1, .int x1), (2, .int x2), (3, .int x3), (5, .int x5), (6, .int x6)]) hx hb dX6_instead_110 hl (by decide) rfl (fun ls hl => ?_)
          refine lv_iload hx hb dX6_instead_112 (lv_at hl 1 rfl) ?_
          refine lv_iload hx hb dX6_instead_114 (lv_at hl 6 rfl) ?_
          refine lv_icmp_ge (tgt := 124) hx hb dX6_instead_116 (by decide) (fun hc18 => ?_) (fun hc18 => ?_)
          · rw [if_pos hc18] at h
            refine lv_iload hx hb dX6_instead_124 (lv_at hl 6 rfl) ?_
            refine lv_istore (lv' := [(5, .int x5), (4, .int x6), (7, .int r15), (0, .ref (a 0)), (1, .int x1), (2, .int x2), (3, .int x3), (6, .int x6)]) hx hb dX6_instead_126 hl (by decide) rfl (fun ls hl => ?_)
            refine lv_iinc (v := x6 + 1) (lv' := [(6, .int (x6 + 1)), (5, .int x5), (4, .int x6), (7, .int r15), (0, .ref (a 0)), (1, .int x1), (2, .int x2), (3, .int x3)]) hx hb dX6_instead_128 hl (k := 7) rfl rfl (by decide) rfl (fun ls hl => ?_)
            refine lv_goto (tgt := 61) hx hb dX6_instead_131 (by decide) ?_
            exact ih _ _ _ _ _ h _ _ _ hP hD hS (lv_sub hl [4, 5, 6, 7, 2, 1, 0] rfl) kk
          · rw [if_neg hc18] at h
            refine lv_iload hx hb dX6_instead_119 (lv_at hl 1 rfl) ?_
            refine lv_goto (tgt := 126) hx hb dX6_instead_121 (by decide) ?_
            refine lv_istore (lv' := [(5, .int r15), (4, .int x6), (7, .int r15), (0, .ref (a 0)), (1, .int x1), (2, .int x2), (3, .int x3), (6, .int x6)]) hx hb dX6_instead_126 hl (by decide) rfl (fun ls hl => ?_)
            refine lv_iinc (v := x6 + 1) (lv' := [(6, .int (x6 + 1)), (5, .int r15), (4, .int x6), (7, .int r15), (0, .ref (a 0)), (1, .int x1), (2, .int x2), (3, .int x3)]) hx hb dX6_instead_128 hl (k := 7) rfl rfl (by decide) rfl (fun ls hl => ?_)
            refine lv_goto (tgt := 61) hx hb dX6_instead_131 (by decide) ?_
            exact ih _ _ _ _ _ h _ _ _ hP hD hS (lv_sub hl [4, 5, 6, 7, 2, 1, 0] rfl) kk
set_option maxHeartbeats 4000000 in
set_option maxRecDepth 100000 in
theorem c_X6_instead (l : Launch) (D : va_G) (cA : Nat → ClassId) (a : Nat → Nat) (σ : St6) (x1 : Int32) (x2 : Int32) (x3 : Int32) (res : Int32 × St6) (h : f_X6_instead σ x1 x2 x3 = some res) : CT l D cA yX6_instead wsX6_instead rmX6_instead [.ref (a 0), .int x1, .int x2, .int x3] [w6 cA a σ] [w6 cA a res.2] (some (.int res.1)) := by
  refine CT.start (cc := cX6_instead) (maxL := 8) (ret := (some .int)) (by decide) rfl (Nat.le_of_ble_eq_true rfl) ?_
  intro p e s m below meth c Z hP hD hS ls hl
  have Z : Cx p s m _ meth c cX6_instead 8 (some .int) wsX6_instead RX6 D cA := Z
  have hl : lv_has ls 8 [(0, .ref (a 0)), (1, .int x1), (2, .int x2), (3, .int x3)] := hl
  obtain ⟨hx, hb, hml, hown, hts, hr, hlk, hKK⟩ := id Z
  have hK := hKK.1
  rw [f_X6_instead] at h
  refine lv_aload_n hx hb dX6_instead_0 rfl (lv_at hl 0 rfl) ?_
  refine lv_iload_n hx hb dX6_instead_1 rfl (lv_at hl 1 rfl) ?_
  obtain ⟨r1, hr1, h⟩ := bind_inv h
  refine kV (rest := []) (st1 := [.int r1]) (cr := []) (cs' := [w6 cA a σ]) Z (c_X6_isPerson l D cA a σ x1 r1 hr1) 1 gX6_instead_X6_isPerson rfl hdX6_isPerson ⟨rfl, rfl⟩ ⟨Nat.le_of_ble_eq_true rfl, Nat.le_of_ble_eq_true rfl⟩ ⟨Nat.zero_le _, Nat.zero_le _⟩ hP hD hS hl.1 rfl rfl rfl (Nat.le_of_ble_eq_true rfl) 6 rfl rfl rfl [0] [] [0] rfl rfl rfl rfl rfl dX6_instead_2 (fun H locs hP hD hS => ?_)
  refine lv_if_eq (tgt := 30) hx hb dX6_instead_5 (by decide) (fun hc2 => ?_) (fun hc2 => ?_)
  · rw [if_pos hc2] at h
    refine lv_iconst (v := (-1)) hx hb dX6_instead_30 (by decide) ?_
    have h := Option.some.inj h
    subst h
    exact CT.iret Z hP hD hS dX6_instead_31
  · rw [if_neg hc2] at h
    refine lv_iload_n hx hb dX6_instead_8 rfl (lv_at hl 2 rfl) ?_
    refine lv_i2l (v := x2.toInt64) hx hb dX6_instead_9 rfl ?_
    refine lv_lconst (v := 1) hx hb dX6_instead_10 (by decide) ?_
    refine lv_ldc2 hx hb hown (hts _ ck_X6_instead_190) dX6_instead_11 ?_
    obtain ⟨r3, hr3, h⟩ := bind_inv h
    refine kS (rest := []) (st1 := [.int r3]) (cr := [w6 cA a σ]) (cs' := [w6 cA a σ]) Z (c_X6_in l D cA x2.toInt64 1 40 r3 hr3) 3 gX6_instead_X6_in rfl hdX6_in ⟨rfl, rfl⟩ ⟨Nat.le_of_ble_eq_true rfl, Nat.le_of_ble_eq_true rfl⟩ ⟨Nat.zero_le _, Nat.zero_le _⟩ hP hD hS hl.1 rfl rfl rfl (Nat.le_of_ble_eq_true rfl) [] [0] [0] rfl rfl rfl rfl rfl dX6_instead_14 (fun H locs hP hD hS => ?_)
    refine lv_if_eq (tgt := 30) hx hb dX6_instead_17 (by decide) (fun hc4 => ?_) (fun hc4 => ?_)
    · rw [if_pos hc4] at h
      refine lv_iconst (v := (-1)) hx hb dX6_instead_30 (by decide) ?_
      have h := Option.some.inj h
      subst h
      exact CT.iret Z hP hD hS dX6_instead_31
    · rw [if_neg hc4] at h
      refine lv_iload_n hx hb dX6_instead_20 rfl (lv_at hl 3 rfl) ?_
      refine lv_i2l (v := x3.toInt64) hx hb dX6_instead_21 rfl ?_
      refine lv_lconst (v := 0) hx hb dX6_instead_22 (by decide) ?_
      refine lv_lconst (v := 1) hx hb dX6_instead_23 (by decide) ?_
      obtain ⟨r5, hr5, h⟩ := bind_inv h
      refine kS (rest := []) (st1 := [.int r5]) (cr := [w6 cA a σ]) (cs' := [w6 cA a σ]) Z (c_X6_in l D cA x3.toInt64 0 1 r5 hr5) 3 gX6_instead_X6_in rfl hdX6_in ⟨rfl, rfl⟩ ⟨Nat.le_of_ble_eq_true rfl, Nat.le_of_ble_eq_true rfl⟩ ⟨Nat.zero_le _, Nat.zero_le _⟩ hP hD hS hl.1 rfl rfl rfl (Nat.le_of_ble_eq_true rfl) [] [0] [0] rfl rfl rfl rfl rfl dX6_instead_24 (fun H locs hP hD hS => ?_)
      refine lv_if_ne (tgt := 32) hx hb dX6_instead_27 (by decide) (fun hc6 => ?_) (fun hc6 => ?_)
      · rw [if_neg hc6] at h
        refine lv_aload_n hx hb dX6_instead_32 rfl (lv_at hl 0 rfl) ?_
        obtain ⟨r7, hr7, h⟩ := bind_inv h
        refine kV (rest := []) (st1 := []) (cr := []) (cs' := [w6 cA a r7]) Z (c_X6_asides l D cA a σ r7 hr7) 0 gX6_instead_X6_asides rfl hdX6_asides ⟨rfl, rfl⟩ ⟨Nat.le_of_ble_eq_true rfl, Nat.le_of_ble_eq_true rfl⟩ ⟨Nat.zero_le _, Nat.zero_le _⟩ hP hD hS hl.1 rfl rfl rfl (Nat.le_of_ble_eq_true rfl) 6 rfl rfl rfl [0] [] [0] rfl rfl rfl rfl rfl dX6_instead_33 (fun H locs hP hD hS => ?_)
        refine lv_aload_n hx hb dX6_instead_36 rfl (lv_at hl 0 rfl) ?_
        refine lv_iload_n hx hb dX6_instead_37 rfl (lv_at hl 1 rfl) ?_
        refine lv_iconst (v := 2) hx hb dX6_instead_38 (by decide) ?_
        refine lv_bipush (v := (-4)) hx hb dX6_instead_39 (by decide) ?_
        obtain ⟨r8, hr8, h⟩ := bind_inv h
        refine kV (rest := []) (st1 := []) (cr := []) (cs' := [w6 cA a r8]) Z (c_X6_tells l D cA a r7 x1 2 (-4) r8 hr8) 3 gX6_instead_X6_tells rfl hdX6_tells ⟨rfl, rfl⟩ ⟨Nat.le_of_ble_eq_true rfl, Nat.le_of_ble_eq_true rfl⟩ ⟨Nat.zero_le _, Nat.zero_le _⟩ hP hD hS hl.1 rfl rfl rfl (Nat.le_of_ble_eq_true rfl) 6 rfl rfl rfl [0] [] [0] rfl rfl rfl rfl rfl dX6_instead_41 (fun H locs hP hD hS => ?_)
        refine lv_bipush (v := (-4)) hx hb dX6_instead_44 (by decide) ?_
        refine lv_istore (lv' := [(4, .int (-4)), (0, .ref (a 0)), (1, .int x1), (2, .int x2), (3, .int x3)]) hx hb dX6_instead_46 hl (by decide) rfl (fun ls hl => ?_)
        refine lv_aload_n hx hb dX6_instead_48 rfl (lv_at hl 1 rfl) ?_
        refine lv_iload_n hx hb dX6_instead_49 rfl (lv_at hl 3 rfl) ?_
        obtain ⟨r9, hr9, h⟩ := bind_inv h
        refine kV (rest := []) (st1 := [.int r9.1]) (cr := []) (cs' := [w6 cA a r9.2]) Z (c_X6_stoppedBehind l D cA a r8 x2 r9 hr9) 1 gX6_instead_X6_stoppedBehind rfl hdX6_stoppedBehind ⟨rfl, rfl⟩ ⟨Nat.le_of_ble_eq_true rfl, Nat.le_of_ble_eq_true rfl⟩ ⟨Nat.zero_le _, Nat.zero_le _⟩ hP hD hS hl.1 rfl rfl rfl (Nat.le_of_ble_eq_true rfl) 6 rfl rfl rfl [0] [] [0] rfl rfl rfl rfl rfl dX6_instead_50 (fun H locs hP hD hS => ?_)
        obtain ⟨r10, hr10, h⟩ := bind_inv h
        refine kS (rest := []) (st1 := [.int r10]) (cr := [w6 cA a r9.2]) (cs' := [w6 cA a r9.2]) Z (c_X6_many l D cA r9.1 r10 hr10) 1 gX6_instead_X6_many rfl hdX6_many ⟨rfl, rfl⟩ ⟨Nat.le_of_ble_eq_true rfl, Nat.le_of_ble_eq_true rfl⟩ ⟨Nat.zero_le _, Nat.zero_le _⟩ hP hD hS hl.1 rfl rfl rfl (Nat.le_of_ble_eq_true rfl) [] [0] [0] rfl rfl rfl rfl rfl dX6_instead_53 (fun H locs hP hD hS => ?_)
        refine lv_istore (lv' := [(5, .int r10), (4, .int (-4)), (0, .ref (a 0)), (1, .int x1), (2, .int x2), (3, .int x3)]) hx hb dX6_instead_56 hl (by decide) rfl (fun ls hl => ?_)
        refine lv_iconst (v := 0) hx hb dX6_instead_58 (by decide) ?_
        refine lv_istore (lv' := [(6, .int 0), (5, .int r10), (4, .int (-4)), (0, .ref (a 0)), (1, .int x1), (2, .int x2), (3, .int x3)]) hx hb dX6_instead_59 hl (by decide) rfl (fun ls hl => ?_)
        obtain ⟨q19, hq19, h⟩ := bind_inv h
        refine t_X6_instead_61 Z x1 x2 x3 FU _ _ _ _ _ hq19 _ _ _ hP hD hS (lv_sub hl [3, 4, 5, 6, 2, 1, 0] rfl) (fun H locs ls hP hD hS hl => ?_)
        refine lv_iload_n hx hb dX6_instead_134 rfl (lv_at hl 3 rfl) ?_
        refine lv_if_ne (tgt := 143) hx hb dX6_instead_135 (by decide) (fun hc20 => ?_) (fun hc20 => ?_)
        · rw [if_neg hc20] at h
          refine lv_iload hx hb dX6_instead_143 (lv_at hl 5 rfl) ?_
          have h := Option.some.inj h
          subst h
          exact CT.iret Z hP hD hS dX6_instead_145
        · rw [if_pos hc20] at h
          refine lv_iload hx hb dX6_instead_138 (lv_at hl 4 rfl) ?_
          refine lv_goto (tgt := 145) hx hb dX6_instead_140 (by decide) ?_
          have h := Option.some.inj h
          subst h
          exact CT.iret Z hP hD hS dX6_instead_145
      · rw [if_pos hc6] at h
        refine lv_iconst (v := (-1)) hx hb dX6_instead_30 (by decide) ?_
        have h := Option.some.inj h
        subst h
        exact CT.iret Z hP hD hS dX6_instead_31

-- X6.needs
theorem ck_X6_needs_190 : Cond.constantLong RX6 190 40 ∈ wsX6_needs := by decide +kernel
noncomputable def lp_X6_needs_68 (x1 : Int32) (x2 : Int32) (x4 : Int32) : Nat → Int32 → Int32 → St6 → Option (Int32 × Int32 × St6)
  | 0, _, _, _ => none
  | n + 1, x5, x6, σ => (if x2 ≤ x6 then some (x5, x6, σ) else ((f_X6_goesBy σ 0).bind (fun r11 => (if x5 = 0 then lp_X6_needs_68 x1 x2 x4 n 0 (x6 + 1) r11 else ((f_X6_isStopped r11 x1).bind (fun r13 => (if r13 = 0 then lp_X6_needs_68 x1 x2 x4 n 1 (x6 + 1) r11 else lp_X6_needs_68 x1 x2 x4 n 0 (x6 + 1) r11)))))))
noncomputable def lp_X6_needs_32 (x1 : Int32) (x2 : Int32) : Nat → Int32 → Int32 → St6 → Option (Int32 × Int32 × St6)
  | 0, _, _, _ => none
  | n + 1, x3, x4, σ => (if 31 ≤ x4 then some (x3, x4, σ) else (if x3 = (-4) then ((f_X6_tells σ x1 1 x4).bind (fun r8 => (if x4 ≤ 0 then ((lp_X6_needs_68 x1 x2 x4 FU 0 0 r8).bind (fun q15 => (if q15.1 = 0 then ((f_X6_backs q15.2.2).bind (fun r17 => lp_X6_needs_32 x1 x2 n (-4) (x4 + 1) r17)) else ((f_X6_backs q15.2.2).bind (fun r18 => lp_X6_needs_32 x1 x2 n x4 (x4 + 1) r18))))) else ((lp_X6_needs_68 x1 x2 x4 FU 1 0 r8).bind (fun q19 => (if q19.1 = 0 then ((f_X6_backs q19.2.2).bind (fun r21 => lp_X6_needs_32 x1 x2 n (-4) (x4 + 1) r21)) else ((f_X6_backs q19.2.2).bind (fun r22 => lp_X6_needs_32 x1 x2 n x4 (x4 + 1) r22)))))))) else some (x3, x4, σ)))
noncomputable def f_X6_needs (σ : St6) (x1 : Int32) (x2 : Int32) : Option (Int32 × St6) := ((f_X6_isPerson σ x1).bind (fun r1 => (if r1 = 0 then some ((-1), σ) else ((f_X6_in x2.toInt64 1 40).bind (fun r3 => (if r3 = 0 then some ((-1), σ) else ((f_X6_asides σ).bind (fun r5 => ((lp_X6_needs_32 x1 x2 FU (-4) 0 r5).bind (fun q23 => some (q23.1, q23.2.2)))))))))))
noncomputable def rmX6_needs : Room := { frames := 5, cells := 0, slots := 0, locals := 112 }
set_option maxHeartbeats 4000000 in
set_option maxRecDepth 100000 in
theorem t_X6_needs_68 {p : Program} {l : Launch} {e : Env} {s : State} {m : MethodId} {args : Array Value} {below : List Frame} {meth : Method} {c : Code} {D : va_G} {cA : Nat → ClassId} {A0 : Nat → Prop} {H0 : Heap} {a : Nat → Nat} (Z : Cx p s m args meth c cX6_needs 7 (some .int) wsX6_needs RX6 D cA) (x1 : Int32) (x2 : Int32) (x4 : Int32) {Q : State → Prop} : ∀ (n : Nat) (x5 : Int32) (x6 : Int32) (σ : St6) (q : Int32 × Int32 × St6), lp_X6_needs_68 x1 x2 x4 n x5 x6 σ = some q → ∀ (H : Heap) (locs : List Loc) (ls : Array Slot), va_P D vwCl ([w6 cA a σ] : List va_W).flatten H → va_D A0 ([w6 cA a σ] : List va_W).flatten → va_S A0 H0 H locs → lv_has ls 7 [(0, .ref (a 0)), (1, .int x1), (2, .int x2), (4, .int x4), (5, .int x5), (6, .int x6)] → (∀ (H : Heap) (locs : List Loc) (ls : Array Slot), va_P D vwCl ([w6 cA a q.2.2] : List va_W).flatten H → va_D A0 ([w6 cA a q.2.2] : List va_W).flatten → va_S A0 H0 H locs → lv_has ls 7 [(0, .ref (a 0)), (1, .int x1), (2, .int x2), (4, .int x4), (5, .int q.1), (6, .int q.2.1)] → W p l e rmX6_needs s m args below meth c H locs 0 0 Q (F0 m 105 ls [])) → W p l e rmX6_needs s m args below meth c H locs 0 0 Q (F0 m 68 ls []) := by
  obtain ⟨hx, hb, hml, hown, hts, hr, hlk, hKK⟩ := id Z
  have hK := hKK.1
  intro n
  induction n with
  | zero =>
    intro x5 x6 σ q h
    rw [lp_X6_needs_68] at h
    cases h
  | succ n ih =>
    intro x5 x6 σ q h H locs ls hP hD hS hl kk
    rw [lp_X6_needs_68] at h
    refine lv_iload hx hb dX6_needs_68 (lv_at hl 5 rfl) ?_
    refine lv_iload_n hx hb dX6_needs_70 rfl (lv_at hl 2 rfl) ?_
    refine lv_icmp_ge (tgt := 105) hx hb dX6_needs_71 (by decide) (fun hc10 => ?_) (fun hc10 => ?_)
    · rw [if_pos hc10] at h
      have h := Option.some.inj h
      subst h
      exact kk _ _ _ hP hD hS (lv_sub hl [0, 1, 2, 3, 4, 5] rfl)
    · rw [if_neg hc10] at h
      refine lv_aload_n hx hb dX6_needs_74 rfl (lv_at hl 0 rfl) ?_
      refine lv_iconst (v := 0) hx hb dX6_needs_75 (by decide) ?_
      obtain ⟨r11, hr11, h⟩ := bind_inv h
      refine kV (rest := []) (st1 := []) (cr := []) (cs' := [w6 cA a r11]) Z (c_X6_goesBy l D cA a σ 0 r11 hr11) 1 gX6_needs_X6_goesBy rfl hdX6_goesBy ⟨rfl, rfl⟩ ⟨Nat.le_of_ble_eq_true rfl, Nat.le_of_ble_eq_true rfl⟩ ⟨Nat.zero_le _, Nat.zero_le _⟩ hP hD hS hl.1 rfl rfl rfl (Nat.le_of_ble_eq_true rfl) 6 rfl rfl rfl [0] [] [0] rfl rfl rfl rfl rfl dX6_needs_76 (fun H locs hP hD hS => ?_)
      refine lv_iload hx hb dX6_needs_79 (lv_at hl 4 rfl) ?_
      refine lv_if_eq (tgt := 96) hx hb dX6_needs_81 (by decide) (fun hc12 => ?_) (fun hc12 => ?_)
      · rw [if_pos hc12] at h
        refine lv_iconst (v := 0) hx hb dX6_needs_96 (by decide) ?_
        refine lv_istore (lv' := [(5, .int 0), (0, .ref (a 0)), (1, .int x1), (2, .int x2), (4, .int x4), (6, .int x6)]) hx hb dX6_needs_97 hl (by decide) rfl (fun ls hl => ?_)
        refine lv_iinc (v := x6 + 1) (lv' := [(6, .int (x6 + 1)), (5, .int 0), (0, .ref (a 0)), (1, .int x1), (2, .int x2), (4, .int x4)]) hx hb dX6_needs_99 hl (k := 5) rfl rfl (by decide) rfl (fun ls hl => ?_)
        refine lv_goto (tgt := 68) hx hb dX6_needs_102 (by decide) ?_
        exact ih _ _ _ _ h _ _ _ hP hD hS (lv_sub hl [2, 3, 4, 5, 1, 0] rfl) kk
      · rw [if_neg hc12] at h
        refine lv_aload_n hx hb dX6_needs_84 rfl (lv_at hl 0 rfl) ?_
        refine lv_iload_n hx hb dX6_needs_85 rfl (lv_at hl 1 rfl) ?_
        obtain ⟨r13, hr13, h⟩ := bind_inv h
        refine kV (rest := []) (st1 := [.int r13]) (cr := []) (cs' := [w6 cA a r11]) Z (c_X6_isStopped l D cA a r11 x1 r13 hr13) 1 gX6_needs_X6_isStopped rfl hdX6_isStopped ⟨rfl, rfl⟩ ⟨Nat.le_of_ble_eq_true rfl, Nat.le_of_ble_eq_true rfl⟩ ⟨Nat.zero_le _, Nat.zero_le _⟩ hP hD hS hl.1 rfl rfl rfl (Nat.le_of_ble_eq_true rfl) 6 rfl rfl rfl [0] [] [0] rfl rfl rfl rfl rfl dX6_needs_86 (fun H locs hP hD hS => ?_)
        refine lv_if_ne (tgt := 96) hx hb dX6_needs_89 (by decide) (fun hc14 => ?_) (fun hc14 => ?_)
        · rw [if_neg hc14] at h
          refine lv_iconst (v := 0) hx hb dX6_needs_96 (by decide) ?_
          refine lv_istore (lv' := [(5, .int 0), (0, .ref (a 0)), (1, .int x1), (2, .int x2), (4, .int x4), (6, .int x6)]) hx hb dX6_needs_97 hl (by decide) rfl (fun ls hl => ?_)
          refine lv_iinc (v := x6 + 1) (lv' := [(6, .int (x6 + 1)), (5, .int 0), (0, .ref (a 0)), (1, .int x1), (2, .int x2), (4, .int x4)]) hx hb dX6_needs_99 hl (k := 5) rfl rfl (by decide) rfl (fun ls hl => ?_)
          refine lv_goto (tgt := 68) hx hb dX6_needs_102 (by decide) ?_
          exact ih _ _ _ _ h _ _ _ hP hD hS (lv_sub hl [2, 3, 4, 5, 1, 0] rfl) kk
        · rw [if_pos hc14] at h
          refine lv_iconst (v := 1) hx hb dX6_needs_92 (by decide) ?_
          refine lv_goto (tgt := 97) hx hb dX6_needs_93 (by decide) ?_
          refine lv_istore (lv' := [(5, .int 1), (0, .ref (a 0)), (1, .int x1), (2, .int x2), (4, .int x4), (6, .int x6)]) hx hb dX6_needs_97 hl (by decide) rfl (fun ls hl => ?_)
          refine lv_iinc (v := x6 + 1) (lv' := [(6, .int (x6 + 1)), (5, .int 1), (0, .ref (a 0)), (1, .int x1), (2, .int x2), (4, .int x4)]) hx hb dX6_needs_99 hl (k := 5) rfl rfl (by decide) rfl (fun ls hl => ?_)
          refine lv_goto (tgt := 68) hx hb dX6_needs_102 (by decide) ?_
          exact ih _ _ _ _ h _ _ _ hP hD hS (lv_sub hl [2, 3, 4, 5, 1, 0] rfl) kk
set_option maxHeartbeats 4000000 in
set_option maxRecDepth 100000 in
theorem t_X6_needs_32 {p : Program} {l : Launch} {e : Env} {s : State} {m : MethodId} {args : Array Value} {below : List Frame} {meth : Method} {c : Code} {D : va_G} {cA : Nat → ClassId} {A0 : Nat → Prop} {H0 : Heap} {a : Nat → Nat} (Z : Cx p s m args meth c cX6_needs 7 (some .int) wsX6_needs RX6 D cA) (x1 : Int32) (x2 : Int32) {Q : State → Prop} : ∀ (n : Nat) (x3 : Int32) (x4 : Int32) (σ : St6) (q : Int32 × Int32 × St6), lp_X6_needs_32 x1 x2 n x3 x4 σ = some q → ∀ (H : Heap) (locs : List Loc) (ls : Array Slot), va_P D vwCl ([w6 cA a σ] : List va_W).flatten H → va_D A0 ([w6 cA a σ] : List va_W).flatten → va_S A0 H0 H locs → lv_has ls 7 [(0, .ref (a 0)), (1, .int x1), (2, .int x2), (3, .int x3), (4, .int x4)] → (∀ (H : Heap) (locs : List Loc) (ls : Array Slot), va_P D vwCl ([w6 cA a q.2.2] : List va_W).flatten H → va_D A0 ([w6 cA a q.2.2] : List va_W).flatten → va_S A0 H0 H locs → lv_has ls 7 [(0, .ref (a 0)), (1, .int x1), (2, .int x2), (3, .int q.1), (4, .int q.2.1)] → W p l e rmX6_needs s m args below meth c H locs 0 0 Q (F0 m 128 ls [])) → W p l e rmX6_needs s m args below meth c H locs 0 0 Q (F0 m 32 ls []) := by
  obtain ⟨hx, hb, hml, hown, hts, hr, hlk, hKK⟩ := id Z
  have hK := hKK.1
  intro n
  induction n with
  | zero =>
    intro x3 x4 σ q h
    rw [lp_X6_needs_32] at h
    cases h
  | succ n ih =>
    intro x3 x4 σ q h H locs ls hP hD hS hl kk
    rw [lp_X6_needs_32] at h
    refine lv_iload hx hb dX6_needs_32 (lv_at hl 4 rfl) ?_
    refine lv_bipush (v := 31) hx hb dX6_needs_34 (by decide) ?_
    refine lv_icmp_ge (tgt := 128) hx hb dX6_needs_36 (by decide) (fun hc6 => ?_) (fun hc6 => ?_)
    · rw [if_pos hc6] at h
      have h := Option.some.inj h
      subst h
      exact kk _ _ _ hP hD hS (lv_sub hl [0, 1, 2, 3, 4] rfl)
    · rw [if_neg hc6] at h
      refine lv_iload_n hx hb dX6_needs_39 rfl (lv_at hl 3 rfl) ?_
      refine lv_bipush (v := (-4)) hx hb dX6_needs_40 (by decide) ?_
      refine lv_icmp_ne (tgt := 128) hx hb dX6_needs_42 (by decide) (fun hc7 => ?_) (fun hc7 => ?_)
      · rw [if_neg hc7] at h
        have h := Option.some.inj h
        subst h
        exact kk _ _ _ hP hD hS (lv_sub hl [0, 1, 2, 3, 4] rfl)
      · rw [if_pos hc7] at h
        refine lv_aload_n hx hb dX6_needs_45 rfl (lv_at hl 0 rfl) ?_
        refine lv_iload_n hx hb dX6_needs_46 rfl (lv_at hl 1 rfl) ?_
        refine lv_iconst (v := 1) hx hb dX6_needs_47 (by decide) ?_
        refine lv_iload hx hb dX6_needs_48 (lv_at hl 4 rfl) ?_
        obtain ⟨r8, hr8, h⟩ := bind_inv h
        refine kV (rest := []) (st1 := []) (cr := []) (cs' := [w6 cA a r8]) Z (c_X6_tells l D cA a σ x1 1 x4 r8 hr8) 3 gX6_needs_X6_tells rfl hdX6_tells ⟨rfl, rfl⟩ ⟨Nat.le_of_ble_eq_true rfl, Nat.le_of_ble_eq_true rfl⟩ ⟨Nat.zero_le _, Nat.zero_le _⟩ hP hD hS hl.1 rfl rfl rfl (Nat.le_of_ble_eq_true rfl) 6 rfl rfl rfl [0] [] [0] rfl rfl rfl rfl rfl dX6_needs_50 (fun H locs hP hD hS => ?_)
        refine lv_iload hx hb dX6_needs_53 (lv_at hl 4 rfl) ?_
        refine lv_if_le (tgt := 62) hx hb dX6_needs_55 (by decide) (fun hc9 => ?_) (fun hc9 => ?_)
        · rw [if_pos hc9] at h
          refine lv_iconst (v := 0) hx hb dX6_needs_62 (by decide) ?_
          refine lv_istore (lv' := [(5, .int 0), (0, .ref (a 0)), (1, .int x1), (2, .int x2), (3, .int x3), (4, .int x4)]) hx hb dX6_needs_63 hl (by decide) rfl (fun ls hl => ?_)
          refine lv_iconst (v := 0) hx hb dX6_needs_65 (by decide) ?_
          refine lv_istore (lv' := [(6, .int 0), (5, .int 0), (0, .ref (a 0)), (1, .int x1), (2, .int x2), (3, .int x3), (4, .int x4)]) hx hb dX6_needs_66 hl (by decide) rfl (fun ls hl => ?_)
          obtain ⟨q15, hq15, h⟩ := bind_inv h
          refine t_X6_needs_68 Z x1 x2 x4 FU _ _ _ _ hq15 _ _ _ hP hD hS (lv_sub hl [2, 3, 4, 6, 1, 0] rfl) (fun H locs ls hP hD hS hl => ?_)
          refine lv_iload hx hb dX6_needs_105 (lv_at hl 4 rfl) ?_
          refine lv_if_eq (tgt := 115) hx hb dX6_needs_107 (by decide) (fun hc16 => ?_) (fun hc16 => ?_)
          · rw [if_pos hc16] at h
            refine lv_bipush (v := (-4)) hx hb dX6_needs_115 (by decide) ?_
            refine lv_istore_n (lv' := [(3, .int (-4)), (0, .ref (a 0)), (1, .int x1), (2, .int x2), (4, .int x4), (5, .int q15.1), (6, .int q15.2.1)]) hx hb dX6_needs_117 rfl hl (by decide) rfl (fun ls hl => ?_)
            refine lv_aload_n hx hb dX6_needs_118 rfl (lv_at hl 1 rfl) ?_
            obtain ⟨r17, hr17, h⟩ := bind_inv h
            refine kV (rest := []) (st1 := []) (cr := []) (cs' := [w6 cA a r17]) Z (c_X6_backs l D cA a q15.2.2 r17 hr17) 0 gX6_needs_X6_backs rfl hdX6_backs ⟨rfl, rfl⟩ ⟨Nat.le_of_ble_eq_true rfl, Nat.le_of_ble_eq_true rfl⟩ ⟨Nat.zero_le _, Nat.zero_le _⟩ hP hD hS hl.1 rfl rfl rfl (Nat.le_of_ble_eq_true rfl) 6 rfl rfl rfl [0] [] [0] rfl rfl rfl rfl rfl dX6_needs_119 (fun H locs hP hD hS => ?_)
            refine lv_iinc (v := x4 + 1) (lv' := [(4, .int (x4 + 1)), (3, .int (-4)), (0, .ref (a 0)), (1, .int x1), (2, .int x2), (5, .int q15.1), (6, .int q15.2.1)]) hx hb dX6_needs_122 hl (k := 4) rfl rfl (by decide) rfl (fun ls hl => ?_)
            refine lv_goto (tgt := 32) hx hb dX6_needs_125 (by decide) ?_
            exact ih _ _ _ _ h _ _ _ hP hD hS (lv_sub hl [2, 3, 4, 1, 0] rfl) kk
          · rw [if_neg hc16] at h
            refine lv_iload hx hb dX6_needs_110 (lv_at hl 3 rfl) ?_
            refine lv_goto (tgt := 117) hx hb dX6_needs_112 (by decide) ?_
            refine lv_istore_n (lv' := [(3, .int x4), (0, .ref (a 0)), (1, .int x1), (2, .int x2), (4, .int x4), (5, .int q15.1), (6, .int q15.2.1)]) hx hb dX6_needs_117 rfl hl (by decide) rfl (fun ls hl => ?_)
            refine lv_aload_n hx hb dX6_needs_118 rfl (lv_at hl 1 rfl) ?_
            obtain ⟨r18, hr18, h⟩ := bind_inv h
            refine kV (rest := []) (st1 := []) (cr := []) (cs' := [w6 cA a r18]) Z (c_X6_backs l D cA a q15.2.2 r18 hr18) 0 gX6_needs_X6_backs rfl hdX6_backs ⟨rfl, rfl⟩ ⟨Nat.le_of_ble_eq_true rfl, Nat.le_of_ble_eq_true rfl⟩ ⟨Nat.zero_le _, Nat.zero_le _⟩ hP hD hS hl.1 rfl rfl rfl (Nat.le_of_ble_eq_true rfl) 6 rfl rfl rfl [0] [] [0] rfl rfl rfl rfl rfl dX6_needs_119 (fun H locs hP hD hS => ?_)
            refine lv_iinc (v := x4 + 1) (lv' := [(4, .int (x4 + 1)), (3, .int x4), (0, .ref (a 0)), (1, .int x1), (2, .int x2), (5, .int q15.1), (6, .int q15.2.1)]) hx hb dX6_needs_122 hl (k := 4) rfl rfl (by decide) rfl (fun ls hl => ?_)
            refine lv_goto (tgt := 32) hx hb dX6_needs_125 (by decide) ?_
            exact ih _ _ _ _ h _ _ _ hP hD hS (lv_sub hl [2, 3, 4, 1, 0] rfl) kk
        · rw [if_neg hc9] at h
          refine lv_iconst (v := 1) hx hb dX6_needs_58 (by decide) ?_
          refine lv_goto (tgt := 63) hx hb dX6_needs_59 (by decide) ?_
          refine lv_istore (lv' := [(5, .int 1), (0, .ref (a 0)), (1, .int x1), (2, .int x2), (3, .int x3), (4, .int x4)]) hx hb dX6_needs_63 hl (by decide) rfl (fun ls hl => ?_)
          refine lv_iconst (v := 0) hx hb dX6_needs_65 (by decide) ?_
          refine lv_istore (lv' := [(6, .int 0), (5, .int 1), (0, .ref (a 0)), (1, .int x1), (2, .int x2), (3, .int x3), (4, .int x4)]) hx hb dX6_needs_66 hl (by decide) rfl (fun ls hl => ?_)
          obtain ⟨q19, hq19, h⟩ := bind_inv h
          refine t_X6_needs_68 Z x1 x2 x4 FU _ _ _ _ hq19 _ _ _ hP hD hS (lv_sub hl [2, 3, 4, 6, 1, 0] rfl) (fun H locs ls hP hD hS hl => ?_)
          refine lv_iload hx hb dX6_needs_105 (lv_at hl 4 rfl) ?_
          refine lv_if_eq (tgt := 115) hx hb dX6_needs_107 (by decide) (fun hc20 => ?_) (fun hc20 => ?_)
          · rw [if_pos hc20] at h
            refine lv_bipush (v := (-4)) hx hb dX6_needs_115 (by decide) ?_
            refine lv_istore_n (lv' := [(3, .int (-4)), (0, .ref (a 0)), (1, .int x1), (2, .int x2), (4, .int x4), (5, .int q19.1), (6, .int q19.2.1)]) hx hb dX6_needs_117 rfl hl (by decide) rfl (fun ls hl => ?_)
            refine lv_aload_n hx hb dX6_needs_118 rfl (lv_at hl 1 rfl) ?_
            obtain ⟨r21, hr21, h⟩ := bind_inv h
            refine kV (rest := []) (st1 := []) (cr := []) (cs' := [w6 cA a r21]) Z (c_X6_backs l D cA a q19.2.2 r21 hr21) 0 gX6_needs_X6_backs rfl hdX6_backs ⟨rfl, rfl⟩ ⟨Nat.le_of_ble_eq_true rfl, Nat.le_of_ble_eq_true rfl⟩ ⟨Nat.zero_le _, Nat.zero_le _⟩ hP hD hS hl.1 rfl rfl rfl (Nat.le_of_ble_eq_true rfl) 6 rfl rfl rfl [0] [] [0] rfl rfl rfl rfl rfl dX6_needs_119 (fun H locs hP hD hS => ?_)
            refine lv_iinc (v := x4 + 1) (lv' := [(4, .int (x4 + 1)), (3, .int (-4)), (0, .ref (a 0)), (1, .int x1), (2, .int x2), (5, .int q19.1), (6, .int q19.2.1)]) hx hb dX6_needs_122 hl (k := 4) rfl rfl (by decide) rfl (fun ls hl => ?_)
            refine lv_goto (tgt := 32) hx hb dX6_needs_125 (by decide) ?_
            exact ih _ _ _ _ h _ _ _ hP hD hS (lv_sub hl [2, 3, 4, 1, 0] rfl) kk
          · rw [if_neg hc20] at h
            refine lv_iload hx hb dX6_needs_110 (lv_at hl 3 rfl) ?_
            refine lv_goto (tgt := 117) hx hb dX6_needs_112 (by decide) ?_
            refine lv_istore_n (lv' := [(3, .int x4), (0, .ref (a 0)), (1, .int x1), (2, .int x2), (4, .int x4), (5, .int q19.1), (6, .int q19.2.1)]) hx hb dX6_needs_117 rfl hl (by decide) rfl (fun ls hl => ?_)
            refine lv_aload_n hx hb dX6_needs_118 rfl (lv_at hl 1 rfl) ?_
            obtain ⟨r22, hr22, h⟩ := bind_inv h
            refine kV (rest := []) (st1 := []) (cr := []) (cs' := [w6 cA a r22]) Z (c_X6_backs l D cA a q19.2.2 r22 hr22) 0 gX6_needs_X6_backs rfl hdX6_backs ⟨rfl, rfl⟩ ⟨Nat.le_of_ble_eq_true rfl, Nat.le_of_ble_eq_true rfl⟩ ⟨Nat.zero_le _, Nat.zero_le _⟩ hP hD hS hl.1 rfl rfl rfl (Nat.le_of_ble_eq_true rfl) 6 rfl rfl rfl [0] [] [0] rfl rfl rfl rfl rfl dX6_needs_119 (fun H locs hP hD hS => ?_)
            refine lv_iinc (v := x4 + 1) (lv' := [(4, .int (x4 + 1)), (3, .int x4), (0, .ref (a 0)), (1, .int x1), (2, .int x2), (5, .int q19.1), (6, .int q19.2.1)]) hx hb dX6_needs_122 hl (k := 4) rfl rfl (by decide) rfl (fun ls hl => ?_)
            refine lv_goto (tgt := 32) hx hb dX6_needs_125 (by decide) ?_
            exact ih _ _ _ _ h _ _ _ hP hD hS (lv_sub hl [2, 3, 4, 1, 0] rfl) kk
set_option maxHeartbeats 4000000 in
set_option maxRecDepth 100000 in
theorem c_X6_needs (l : Launch) (D : va_G) (cA : Nat → ClassId) (a : Nat → Nat) (σ : St6) (x1 : Int32) (x2 : Int32) (res : Int32 × St6) (h : f_X6_needs σ x1 x2 = some res) : CT l D cA yX6_needs wsX6_needs rmX6_needs [.ref (a 0), .int x1, .int x2] [w6 cA a σ] [w6 cA a res.2] (some (.int res.1)) := by
  refine CT.start (cc := cX6_needs) (maxL := 7) (ret := (some .int)) (by decide) rfl (Nat.le_of_ble_eq_true rfl) ?_
  intro p e s m below meth c Z hP hD hS ls hl
  have Z : Cx p s m _ meth c cX6_needs 7 (some .int) wsX6_needs RX6 D cA := Z
  have hl : lv_has ls 7 [(0, .ref (a 0)), (1, .int x1), (2, .int x2)] := hl
  obtain ⟨hx, hb, hml, hown, hts, hr, hlk, hKK⟩ := id Z
  have hK := hKK.1
  rw [f_X6_needs] at h
  refine lv_aload_n hx hb dX6_needs_0 rfl (lv_at hl 0 rfl) ?_
  refine lv_iload_n hx hb dX6_needs_1 rfl (lv_at hl 1 rfl) ?_
  obtain ⟨r1, hr1, h⟩ := bind_inv h
  refine kV (rest := []) (st1 := [.int r1]) (cr := []) (cs' := [w6 cA a σ]) Z (c_X6_isPerson l D cA a σ x1 r1 hr1) 1 gX6_needs_X6_isPerson rfl hdX6_isPerson ⟨rfl, rfl⟩ ⟨Nat.le_of_ble_eq_true rfl, Nat.le_of_ble_eq_true rfl⟩ ⟨Nat.zero_le _, Nat.zero_le _⟩ hP hD hS hl.1 rfl rfl rfl (Nat.le_of_ble_eq_true rfl) 6 rfl rfl rfl [0] [] [0] rfl rfl rfl rfl rfl dX6_needs_2 (fun H locs hP hD hS => ?_)
  refine lv_if_eq (tgt := 20) hx hb dX6_needs_5 (by decide) (fun hc2 => ?_) (fun hc2 => ?_)
  · rw [if_pos hc2] at h
    refine lv_iconst (v := (-1)) hx hb dX6_needs_20 (by decide) ?_
    have h := Option.some.inj h
    subst h
    exact CT.iret Z hP hD hS dX6_needs_21
  · rw [if_neg hc2] at h
    refine lv_iload_n hx hb dX6_needs_8 rfl (lv_at hl 2 rfl) ?_
    refine lv_i2l (v := x2.toInt64) hx hb dX6_needs_9 rfl ?_
    refine lv_lconst (v := 1) hx hb dX6_needs_10 (by decide) ?_
    refine lv_ldc2 hx hb hown (hts _ ck_X6_needs_190) dX6_needs_11 ?_
    obtain ⟨r3, hr3, h⟩ := bind_inv h
    refine kS (rest := []) (st1 := [.int r3]) (cr := [w6 cA a σ]) (cs' := [w6 cA a σ]) Z (c_X6_in l D cA x2.toInt64 1 40 r3 hr3) 3 gX6_needs_X6_in rfl hdX6_in ⟨rfl, rfl⟩ ⟨Nat.le_of_ble_eq_true rfl, Nat.le_of_ble_eq_true rfl⟩ ⟨Nat.zero_le _, Nat.zero_le _⟩ hP hD hS hl.1 rfl rfl rfl (Nat.le_of_ble_eq_true rfl) [] [0] [0] rfl rfl rfl rfl rfl dX6_needs_14 (fun H locs hP hD hS => ?_)
    refine lv_if_ne (tgt := 22) hx hb dX6_needs_17 (by decide) (fun hc4 => ?_) (fun hc4 => ?_)
    · rw [if_neg hc4] at h
      refine lv_bipush (v := (-4)) hx hb dX6_needs_22 (by decide) ?_
      refine lv_istore_n (lv' := [(3, .int (-4)), (0, .ref (a 0)), (1, .int x1), (2, .int x2)]) hx hb dX6_needs_24 rfl hl (by decide) rfl (fun ls hl => ?_)
      refine lv_aload_n hx hb dX6_needs_25 rfl (lv_at hl 1 rfl) ?_
      obtain ⟨r5, hr5, h⟩ := bind_inv h
      refine kV (rest := []) (st1 := []) (cr := []) (cs' := [w6 cA a r5]) Z (c_X6_asides l D cA a σ r5 hr5) 0 gX6_needs_X6_asides rfl hdX6_asides ⟨rfl, rfl⟩ ⟨Nat.le_of_ble_eq_true rfl, Nat.le_of_ble_eq_true rfl⟩ ⟨Nat.zero_le _, Nat.zero_le _⟩ hP hD hS hl.1 rfl rfl rfl (Nat.le_of_ble_eq_true rfl) 6 rfl rfl rfl [0] [] [0] rfl rfl rfl rfl rfl dX6_needs_26 (fun H locs hP hD hS => ?_)
      refine lv_iconst (v := 0) hx hb dX6_needs_29 (by decide) ?_
      refine lv_istore (lv' := [(4, .int 0), (3, .int (-4)), (0, .ref (a 0)), (1, .int x1), (2, .int x2)]) hx hb dX6_needs_30 hl (by decide) rfl (fun ls hl => ?_)
      obtain ⟨q23, hq23, h⟩ := bind_inv h
      refine t_X6_needs_32 Z x1 x2 FU _ _ _ _ hq23 _ _ _ hP hD hS (lv_sub hl [2, 3, 4, 1, 0] rfl) (fun H locs ls hP hD hS hl => ?_)
      refine lv_iload_n hx hb dX6_needs_128 rfl (lv_at hl 3 rfl) ?_
      have h := Option.some.inj h
      subst h
      exact CT.iret Z hP hD hS dX6_needs_129
    · rw [if_pos hc4] at h
      refine lv_iconst (v := (-1)) hx hb dX6_needs_20 (by decide) ?_
      have h := Option.some.inj h
      subst h
      exact CT.iret Z hP hD hS dX6_needs_21

-- X6.changes
theorem lk_X6_changes_7 : Cond.fieldLink RX6 7 "KeyedFeelingsModel" "now" "[I" ∈ wsX6_changes := by decide +kernel
theorem in_X6_changes_X6 : ∀ w ∈ wsX60, w ∈ wsX6_changes := by decide +kernel
theorem lk_X6_changes_28 : Cond.fieldLink RX6 28 "KeyedFeelingsModel" "would" "[I" ∈ wsX6_changes := by decide +kernel
noncomputable def lp_X6_changes_23 (x2 : Int32) : Nat → Int32 → Int32 → Int32 → Int32 → Int32 → St6 → Option (Int32 × Int32 × Int32 × Int32 × Int32 × St6)
  | 0, _, _, _, _, _, _ => none
  | n + 1, x3, x4, x5, x6, x7, σ => (if x7 < 0 then some (x3, x4, x5, x6, x7, σ) else (if ¬ x2 = 0 then (if inB x7 6 = true then (if ¬ x2 = 0 then (if inB x7 6 = true then (if x6 = 0 then (if inB x7 6 = true then ((f_X6_whom (s6_would σ (upd (p6_would σ) x7.toNatClampNeg (x3 - x3 / x2 * x2))) x7).bind (fun r8 => (if ((upd (p6_would σ) x7.toNatClampNeg (x3 - x3 / x2 * x2)) x7.toNatClampNeg) = r8 then lp_X6_changes_23 x2 n (x3 / x2) (x4 ||| (1 <<< (((upd (p6_would σ) x7.toNatClampNeg (x3 - x3 / x2 * x2)) x7.toNatClampNeg) &&& 31))) (x5 + 0) 0 (x7 + (-1)) (s6_would σ (upd (p6_would σ) x7.toNatClampNeg (x3 - x3 / x2 * x2))) else lp_X6_changes_23 x2 n (x3 / x2) (x4 ||| (1 <<< (((upd (p6_would σ) x7.toNatClampNeg (x3 - x3 / x2 * x2)) x7.toNatClampNeg) &&& 31))) (x5 + 1) 0 (x7 + (-1)) (s6_would σ (upd (p6_would σ) x7.toNatClampNeg (x3 - x3 / x2 * x2)))))) else none) else (if inB x7 6 = true then (if ((upd (p6_would σ) x7.toNatClampNeg (x3 - x3 / x2 * x2)) x7.toNatClampNeg) = x7 then (if inB x7 6 = true then ((f_X6_whom (s6_would σ (upd (p6_would σ) x7.toNatClampNeg (x3 - x3 / x2 * x2))) x7).bind (fun r13 => (if ((upd (p6_would σ) x7.toNatClampNeg (x3 - x3 / x2 * x2)) x7.toNatClampNeg) = r13 then lp_X6_changes_23 x2 n (x3 / x2) (x4 ||| (1 <<< (((upd (p6_would σ) x7.toNatClampNeg (x3 - x3 / x2 * x2)) x7.toNatClampNeg) &&& 31))) (x5 + 0) 0 (x7 + (-1)) (s6_would σ (upd (p6_would σ) x7.toNatClampNeg (x3 - x3 / x2 * x2))) else lp_X6_changes_23 x2 n (x3 / x2) (x4 ||| (1 <<< (((upd (p6_would σ) x7.toNatClampNeg (x3 - x3 / x2 * x2)) x7.toNatClampNeg) &&& 31))) (x5 + 1) 0 (x7 + (-1)) (s6_would σ (upd (p6_would σ) x7.toNatClampNeg (x3 - x3 / x2 * x2)))))) else none) else (if inB x7 6 = true then ((f_X6_whom (s6_would σ (upd (p6_would σ) x7.toNatClampNeg (x3 - x3 / x2 * x2))) x7).bind (fun r16 => (if ((upd (p6_would σ) x7.toNatClampNeg (x3 - x3 / x2 * x2)) x7.toNatClampNeg) = r16 then lp_X6_changes_23 x2 n (x3 / x2) (x4 ||| (1 <<< (((upd (p6_would σ) x7.toNatClampNeg (x3 - x3 / x2 * x2)) x7.toNatClampNeg) &&& 31))) (x5 + 0) 1 (x7 + (-1)) (s6_would σ (upd (p6_would σ) x7.toNatClampNeg (x3 - x3 / x2 * x2))) else lp_X6_changes_23 x2 n (x3 / x2) (x4 ||| (1 <<< (((upd (p6_would σ) x7.toNatClampNeg (x3 - x3 / x2 * x2)) x7.toNatClampNeg) &&& 31))) (x5 + 1) 1 (x7 + (-1)) (s6_would σ (upd (p6_would σ) x7.toNatClampNeg (x3 - x3 / x2 * x2)))))) else none)) else none)) else none) else none) else none) else none))
noncomputable def f_X6_changes (σ : St6) (x1 : Int32) : Option (Int32 × St6) := ((lp_X6_changes_23 ((p6_now σ) (0 : Int32).toNatClampNeg) FU x1 0 0 1 (((p6_now σ) (0 : Int32).toNatClampNeg) - 1) σ).bind (fun q18 => (if q18.2.2.2.1 = 0 then some ((-1), q18.2.2.2.2.2) else (if q18.2.1 = ((1 <<< (((p6_now σ) (0 : Int32).toNatClampNeg) &&& 31)) - 1) then some (q18.2.2.1, q18.2.2.2.2.2) else some ((-1), q18.2.2.2.2.2)))))
noncomputable def rmX6_changes : Room := { frames := 2, cells := 0, slots := 0, locals := 43 }
set_option maxHeartbeats 4000000 in
set_option maxRecDepth 100000 in
theorem t_X6_changes_23 {p : Program} {l : Launch} {e : Env} {s : State} {m : MethodId} {args : Array Value} {below : List Frame} {meth : Method} {c : Code} {D : va_G} {cA : Nat → ClassId} {A0 : Nat → Prop} {H0 : Heap} {a : Nat → Nat} (Z : Cx p s m args meth c cX6_changes 8 (some .int) wsX6_changes RX6 D cA) (x2 : Int32) {Q : State → Prop} : ∀ (n : Nat) (x3 : Int32) (x4 : Int32) (x5 : Int32) (x6 : Int32) (x7 : Int32) (σ : St6) (q : Int32 × Int32 × Int32 × Int32 × Int32 × St6), lp_X6_changes_23 x2 n x3 x4 x5 x6 x7 σ = some q → ∀ (H : Heap) (locs : List Loc) (ls : Array Slot), va_P D vwCl ([w6 cA a σ] : List va_W).flatten H → va_D A0 ([w6 cA a σ] : List va_W).flatten → va_S A0 H0 H locs → lv_has ls 8 [(0, .ref (a 0)), (2, .int x2), (3, .int x3), (4, .int x4), (5, .int x5), (6, .int x6), (7, .int x7)] → (∀ (H : Heap) (locs : List Loc) (ls : Array Slot), va_P D vwCl ([w6 cA a q.2.2.2.2.2] : List va_W).flatten H → va_D A0 ([w6 cA a q.2.2.2.2.2] : List va_W).flatten → va_S A0 H0 H locs → lv_has ls 8 [(0, .ref (a 0)), (2, .int x2), (3, .int q.1), (4, .int q.2.1), (5, .int q.2.2.1), (6, .int q.2.2.2.1), (7, .int q.2.2.2.2.1)] → W p l e rmX6_changes s m args below meth c H locs 0 0 Q (F0 m 112 ls [])) → W p l e rmX6_changes s m args below meth c H locs 0 0 Q (F0 m 23 ls []) := by
  obtain ⟨hx, hb, hml, hown, hts, hr, hlk, hKK⟩ := id Z
  have hK := hKK.1
  intro n
  induction n with
  | zero =>
    intro x3 x4 x5 x6 x7 σ q h
    rw [lp_X6_changes_23] at h
    cases h
  | succ n ih =>
    intro x3 x4 x5 x6 x7 σ q h H locs ls hP hD hS hl kk
    rw [lp_X6_changes_23] at h
    refine lv_iload hx hb dX6_changes_23 (lv_at hl 6 rfl) ?_
    refine lv_if_lt (tgt := 112) hx hb dX6_changes_25 (by decide) (fun hc1 => ?_) (fun hc1 => ?_)
    · rw [if_pos hc1] at h
      have h := Option.some.inj h
      subst h
      exact kk _ _ _ hP hD hS (lv_sub hl [0, 1, 2, 3, 4, 5, 6] rfl)
    · rw [if_neg hc1] at h
      refine lv_aload_n hx hb dX6_changes_28 rfl (lv_at hl 0 rfl) ?_
      refine va_get (D := D) (ci := 6) (v := .ref (a 7)) (C := RX6) (T := TX6) (N := 19) hx hb hts in_X6_changes_X6 hown hK hP 0 rfl rfl 10 (by decide) (hts _ lk_X6_changes_28) (fun _ h9 => h9) rfl dX6_changes_29 ?_
      refine lv_iload hx hb dX6_changes_32 (lv_at hl 6 rfl) ?_
      refine lv_iload_n hx hb dX6_changes_34 rfl (lv_at hl 2 rfl) ?_
      refine lv_iload_n hx hb dX6_changes_35 rfl (lv_at hl 1 rfl) ?_
      obtain ⟨hg2, h⟩ := if_inv h
      refine lv_irem hx hb dX6_changes_36 hg2 ?_
      obtain ⟨hg3, h⟩ := if_inv h
      refine va_iast hx hb hK hP hD hS 7 0 rfl rfl (inB_in hg3) dX6_changes_37 (fun H locs hP hD hS => ?_)
      have hP : va_P D vwCl ([w6 cA a (s6_would σ (upd (p6_would σ) x7.toNatClampNeg (x3 - x3 / x2 * x2)))] : List va_W).flatten H := hP
      have hD : va_D _ ([w6 cA a (s6_would σ (upd (p6_would σ) x7.toNatClampNeg (x3 - x3 / x2 * x2)))] : List va_W).flatten := hD
      refine lv_iload_n hx hb dX6_changes_38 rfl (lv_at hl 2 rfl) ?_
      refine lv_iload_n hx hb dX6_changes_39 rfl (lv_at hl 1 rfl) ?_
      obtain ⟨hg4, h⟩ := if_inv h
      refine lv_idiv hx hb dX6_changes_40 hg4 ?_
      refine lv_istore_n (lv' := [(3, .int (x3 / x2)), (0, .ref (a 0)), (2, .int x2), (4, .int x4), (5, .int x5), (6, .int x6), (7, .int x7)]) hx hb dX6_changes_41 rfl hl (by decide) rfl (fun ls hl => ?_)
      refine lv_iload hx hb dX6_changes_42 (lv_at hl 3 rfl) ?_
      refine lv_iconst (v := 1) hx hb dX6_changes_44 (by decide) ?_
      refine lv_aload_n hx hb dX6_changes_45 rfl (lv_at hl 1 rfl) ?_
      refine va_get (D := D) (ci := 6) (v := .ref (a 7)) (C := RX6) (T := TX6) (N := 19) hx hb hts in_X6_changes_X6 hown hK hP 0 rfl rfl 10 (by decide) (hts _ lk_X6_changes_28) (fun _ h9 => h9) rfl dX6_changes_46 ?_
      refine lv_iload hx hb dX6_changes_49 (lv_at hl 6 rfl) ?_
      obtain ⟨hg5, h⟩ := if_inv h
      refine va_iald hx hb hK hP 7 0 rfl rfl (inB_in hg5) dX6_changes_51 ?_
      refine lv_ishl hx hb dX6_changes_52 ?_
      refine lv_ior hx hb dX6_changes_53 ?_
      refine lv_istore (lv' := [(4, .int (x4 ||| (1 <<< (((upd (p6_would σ) x7.toNatClampNeg (x3 - x3 / x2 * x2)) x7.toNatClampNeg) &&& 31)))), (3, .int (x3 / x2)), (0, .ref (a 0)), (2, .int x2), (5, .int x5), (6, .int x6), (7, .int x7)]) hx hb dX6_changes_54 hl (by decide) rfl (fun ls hl => ?_)
      refine lv_iload hx hb dX6_changes_56 (lv_at hl 5 rfl) ?_
      refine lv_if_eq (tgt := 77) hx hb dX6_changes_58 (by decide) (fun hc6 => ?_) (fun hc6 => ?_)
      · rw [if_pos hc6] at h
        refine lv_iconst (v := 0) hx hb dX6_changes_77 (by decide) ?_
        refine lv_istore (lv' := [(6, .int 0), (4, .int (x4 ||| (1 <<< (((upd (p6_would σ) x7.toNatClampNeg (x3 - x3 / x2 * x2)) x7.toNatClampNeg) &&& 31)))), (3, .int (x3 / x2)), (0, .ref (a 0)), (2, .int x2), (5, .int x5), (7, .int x7)]) hx hb dX6_changes_78 hl (by decide) rfl (fun ls hl => ?_)
        refine lv_iload hx hb dX6_changes_80 (lv_at hl 5 rfl) ?_
        refine lv_aload_n hx hb dX6_changes_82 rfl (lv_at hl 3 rfl) ?_
        refine va_get (D := D) (ci := 6) (v := .ref (a 7)) (C := RX6) (T := TX6) (N := 19) hx hb hts in_X6_changes_X6 hown hK hP 0 rfl rfl 10 (by decide) (hts _ lk_X6_changes_28) (fun _ h9 => h9) rfl dX6_changes_83 ?_
        refine lv_iload hx hb dX6_changes_86 (lv_at hl 6 rfl) ?_
        obtain ⟨hg7, h⟩ := if_inv h
        refine va_iald hx hb hK hP 7 0 rfl rfl (inB_in hg7) dX6_changes_88 ?_
        refine lv_aload_n hx hb dX6_changes_89 rfl (lv_at hl 3 rfl) ?_
        refine lv_iload hx hb dX6_changes_90 (lv_at hl 6 rfl) ?_
        obtain ⟨r8, hr8, h⟩ := bind_inv h
        refine kV (rest := [.int ((upd (p6_would σ) x7.toNatClampNeg (x3 - x3 / x2 * x2)) x7.toNatClampNeg), .int x5]) (st1 := [.int r8, .int ((upd (p6_would σ) x7.toNatClampNeg (x3 - x3 / x2 * x2)) x7.toNatClampNeg), .int x5]) (cr := []) (cs' := [w6 cA a (s6_would σ (upd (p6_would σ) x7.toNatClampNeg (x3 - x3 / x2 * x2)))]) Z (c_X6_whom l D cA a (s6_would σ (upd (p6_would σ) x7.toNatClampNeg (x3 - x3 / x2 * x2))) x7 r8 hr8) 1 gX6_changes_X6_whom rfl hdX6_whom ⟨rfl, rfl⟩ ⟨Nat.le_of_ble_eq_true rfl, Nat.le_of_ble_eq_true rfl⟩ ⟨Nat.zero_le _, Nat.zero_le _⟩ hP hD hS hl.1 rfl rfl rfl (Nat.le_of_ble_eq_true rfl) 6 rfl rfl rfl [0] [] [0] rfl rfl rfl rfl rfl dX6_changes_92 (fun H locs hP hD hS => ?_)
        refine lv_icmp_ne (tgt := 102) hx hb dX6_changes_95 (by decide) (fun hc9 => ?_) (fun hc9 => ?_)
        · rw [if_neg hc9] at h
          refine lv_iconst (v := 1) hx hb dX6_changes_102 (by decide) ?_
          refine lv_iadd hx hb dX6_changes_103 ?_
          refine lv_istore (lv' := [(5, .int (x5 + 1)), (6, .int 0), (4, .int (x4 ||| (1 <<< (((upd (p6_would σ) x7.toNatClampNeg (x3 - x3 / x2 * x2)) x7.toNatClampNeg) &&& 31)))), (3, .int (x3 / x2)), (0, .ref (a 0)), (2, .int x2), (7, .int x7)]) hx hb dX6_changes_104 hl (by decide) rfl (fun ls hl => ?_)
          refine lv_iinc (v := x7 + (-1)) (lv' := [(7, .int (x7 + (-1))), (5, .int (x5 + 1)), (6, .int 0), (4, .int (x4 ||| (1 <<< (((upd (p6_would σ) x7.toNatClampNeg (x3 - x3 / x2 * x2)) x7.toNatClampNeg) &&& 31)))), (3, .int (x3 / x2)), (0, .ref (a 0)), (2, .int x2)]) hx hb dX6_changes_106 hl (k := 6) rfl rfl (by decide) rfl (fun ls hl => ?_)
          refine lv_goto (tgt := 23) hx hb dX6_changes_109 (by decide) ?_
          exact ih _ _ _ _ _ _ _ h _ _ _ hP hD hS (lv_sub hl [5, 6, 4, 3, 1, 2, 0] rfl) kk
        · rw [if_pos hc9] at h
          refine lv_iconst (v := 0) hx hb dX6_changes_98 (by decide) ?_
          refine lv_goto (tgt := 103) hx hb dX6_changes_99 (by decide) ?_
          refine lv_iadd hx hb dX6_changes_103 ?_
          refine lv_istore (lv' := [(5, .int (x5 + 0)), (6, .int 0), (4, .int (x4 ||| (1 <<< (((upd (p6_would σ) x7.toNatClampNeg (x3 - x3 / x2 * x2)) x7.toNatClampNeg) &&& 31)))), (3, .int (x3 / x2)), (0, .ref (a 0)), (2, .int x2), (7, .int x7)]) hx hb dX6_changes_104 hl (by decide) rfl (fun ls hl => ?_)
          refine lv_iinc (v := x7 + (-1)) (lv' := [(7, .int (x7 + (-1))), (5, .int (x5 + 0)), (6, .int 0), (4, .int (x4 ||| (1 <<< (((upd (p6_would σ) x7.toNatClampNeg (x3 - x3 / x2 * x2)) x7.toNatClampNeg) &&& 31)))), (3, .int (x3 / x2)), (0, .ref (a 0)), (2, .int x2)]) hx hb dX6_changes_106 hl (k := 6) rfl rfl (by decide) rfl (fun ls hl => ?_)
          refine lv_goto (tgt := 23) hx hb dX6_changes_109 (by decide) ?_
          exact ih _ _ _ _ _ _ _ h _ _ _ hP hD hS (lv_sub hl [5, 6, 4, 3, 1, 2, 0] rfl) kk
      · rw [if_neg hc6] at h
        refine lv_aload_n hx hb dX6_changes_61 rfl (lv_at hl 2 rfl) ?_
        refine va_get (D := D) (ci := 6) (v := .ref (a 7)) (C := RX6) (T := TX6) (N := 19) hx hb hts in_X6_changes_X6 hown hK hP 0 rfl rfl 10 (by decide) (hts _ lk_X6_changes_28) (fun _ h9 => h9) rfl dX6_changes_62 ?_
        refine lv_iload hx hb dX6_changes_65 (lv_at hl 6 rfl) ?_
        obtain ⟨hg10, h⟩ := if_inv h
        refine va_iald hx hb hK hP 7 0 rfl rfl (inB_in hg10) dX6_changes_67 ?_
        refine lv_iload hx hb dX6_changes_68 (lv_at hl 6 rfl) ?_
        refine lv_icmp_eq (tgt := 77) hx hb dX6_changes_70 (by decide) (fun hc11 => ?_) (fun hc11 => ?_)
        · rw [if_pos hc11] at h
          refine lv_iconst (v := 0) hx hb dX6_changes_77 (by decide) ?_
          refine lv_istore (lv' := [(6, .int 0), (4, .int (x4 ||| (1 <<< (((upd (p6_would σ) x7.toNatClampNeg (x3 - x3 / x2 * x2)) x7.toNatClampNeg) &&& 31)))), (3, .int (x3 / x2)), (0, .ref (a 0)), (2, .int x2), (5, .int x5), (7, .int x7)]) hx hb dX6_changes_78 hl (by decide) rfl (fun ls hl => ?_)
          refine lv_iload hx hb dX6_changes_80 (lv_at hl 5 rfl) ?_
          refine lv_aload_n hx hb dX6_changes_82 rfl (lv_at hl 3 rfl) ?_
          refine va_get (D := D) (ci := 6) (v := .ref (a 7)) (C := RX6) (T := TX6) (N := 19) hx hb hts in_X6_changes_X6 hown hK hP 0 rfl rfl 10 (by decide) (hts _ lk_X6_changes_28) (fun _ h9 => h9) rfl dX6_changes_83 ?_
          refine lv_iload hx hb dX6_changes_86 (lv_at hl 6 rfl) ?_
          obtain ⟨hg12, h⟩ := if_inv h
          refine va_iald hx hb hK hP 7 0 rfl rfl (inB_in hg12) dX6_changes_88 ?_
          refine lv_aload_n hx hb dX6_changes_89 rfl (lv_at hl 3 rfl) ?_
          refine lv_iload hx hb dX6_changes_90 (lv_at hl 6 rfl) ?_
          obtain ⟨r13, hr13, h⟩ := bind_inv h
          refine kV (rest := [.int ((upd (p6_would σ) x7.toNatClampNeg (x3 - x3 / x2 * x2)) x7.toNatClampNeg), .int x5]) (st1 := [.int r13, .int ((upd (p6_would σ) x7.toNatClampNeg (x3 - x3 / x2 * x2)) x7.toNatClampNeg), .int x5]) (cr := []) (cs' := [w6 cA a (s6_would σ (upd (p6_would σ) x7.toNatClampNeg (x3 - x3 / x2 * x2)))]) Z (c_X6_whom l D cA a (s6_would σ (upd (p6_would σ) x7.toNatClampNeg (x3 - x3 / x2 * x2))) x7 r13 hr13) 1 gX6_changes_X6_whom rfl hdX6_whom ⟨rfl, rfl⟩ ⟨Nat.le_of_ble_eq_true rfl, Nat.le_of_ble_eq_true rfl⟩ ⟨Nat.zero_le _, Nat.zero_le _⟩ hP hD hS hl.1 rfl rfl rfl (Nat.le_of_ble_eq_true rfl) 6 rfl rfl rfl [0] [] [0] rfl rfl rfl rfl rfl dX6_changes_92 (fun H locs hP hD hS => ?_)
          refine lv_icmp_ne (tgt := 102) hx hb dX6_changes_95 (by decide) (fun hc14 => ?_) (fun hc14 => ?_)
          · rw [if_neg hc14] at h
            refine lv_iconst (v := 1) hx hb dX6_changes_102 (by decide) ?_
            refine lv_iadd hx hb dX6_changes_103 ?_
            refine lv_istore (lv' := [(5, .int (x5 + 1)), (6, .int 0), (4, .int (x4 ||| (1 <<< (((upd (p6_would σ) x7.toNatClampNeg (x3 - x3 / x2 * x2)) x7.toNatClampNeg) &&& 31)))), (3, .int (x3 / x2)), (0, .ref (a 0)), (2, .int x2), (7, .int x7)]) hx hb dX6_changes_104 hl (by decide) rfl (fun ls hl => ?_)
            refine lv_iinc (v := x7 + (-1)) (lv' := [(7, .int (x7 + (-1))), (5, .int (x5 + 1)), (6, .int 0), (4, .int (x4 ||| (1 <<< (((upd (p6_would σ) x7.toNatClampNeg (x3 - x3 / x2 * x2)) x7.toNatClampNeg) &&& 31)))), (3, .int (x3 / x2)), (0, .ref (a 0)), (2, .int x2)]) hx hb dX6_changes_106 hl (k := 6) rfl rfl (by decide) rfl (fun ls hl => ?_)
            refine lv_goto (tgt := 23) hx hb dX6_changes_109 (by decide) ?_
            exact ih _ _ _ _ _ _ _ h _ _ _ hP hD hS (lv_sub hl [5, 6, 4, 3, 1, 2, 0] rfl) kk
          · rw [if_pos hc14] at h
            refine lv_iconst (v := 0) hx hb dX6_changes_98 (by decide) ?_
            refine lv_goto (tgt := 103) hx hb dX6_changes_99 (by decide) ?_
            refine lv_iadd hx hb dX6_changes_103 ?_
            refine lv_istore (lv' := [(5, .int (x5 + 0)), (6, .int 0), (4, .int (x4 ||| (1 <<< (((upd (p6_would σ) x7.toNatClampNeg (x3 - x3 / x2 * x2)) x7.toNatClampNeg) &&& 31)))), (3, .int (x3 / x2)), (0, .ref (a 0)), (2, .int x2), (7, .int x7)]) hx hb dX6_changes_104 hl (by decide) rfl (fun ls hl => ?_)
            refine lv_iinc (v := x7 + (-1)) (lv' := [(7, .int (x7 + (-1))), (5, .int (x5 + 0)), (6, .int 0), (4, .int (x4 ||| (1 <<< (((upd (p6_would σ) x7.toNatClampNeg (x3 - x3 / x2 * x2)) x7.toNatClampNeg) &&& 31)))), (3, .int (x3 / x2)), (0, .ref (a 0)), (2, .int x2)]) hx hb dX6_changes_106 hl (k := 6) rfl rfl (by decide) rfl (fun ls hl => ?_)
            refine lv_goto (tgt := 23) hx hb dX6_changes_109 (by decide) ?_
            exact ih _ _ _ _ _ _ _ h _ _ _ hP hD hS (lv_sub hl [5, 6, 4, 3, 1, 2, 0] rfl) kk
        · rw [if_neg hc11] at h
          refine lv_iconst (v := 1) hx hb dX6_changes_73 (by decide) ?_
          refine lv_goto (tgt := 78) hx hb dX6_changes_74 (by decide) ?_
          refine lv_istore (lv' := [(6, .int 1), (4, .int (x4 ||| (1 <<< (((upd (p6_would σ) x7.toNatClampNeg (x3 - x3 / x2 * x2)) x7.toNatClampNeg) &&& 31)))), (3, .int (x3 / x2)), (0, .ref (a 0)), (2, .int x2), (5, .int x5), (7, .int x7)]) hx hb dX6_changes_78 hl (by decide) rfl (fun ls hl => ?_)
          refine lv_iload hx hb dX6_changes_80 (lv_at hl 5 rfl) ?_
          refine lv_aload_n hx hb dX6_changes_82 rfl (lv_at hl 3 rfl) ?_
          refine va_get (D := D) (ci := 6) (v := .ref (a 7)) (C := RX6) (T := TX6) (N := 19) hx hb hts in_X6_changes_X6 hown hK hP 0 rfl rfl 10 (by decide) (hts _ lk_X6_changes_28) (fun _ h9 => h9) rfl dX6_changes_83 ?_
          refine lv_iload hx hb dX6_changes_86 (lv_at hl 6 rfl) ?_
          obtain ⟨hg15, h⟩ := if_inv h
          refine va_iald hx hb hK hP 7 0 rfl rfl (inB_in hg15) dX6_changes_88 ?_
          refine lv_aload_n hx hb dX6_changes_89 rfl (lv_at hl 3 rfl) ?_
          refine lv_iload hx hb dX6_changes_90 (lv_at hl 6 rfl) ?_
          obtain ⟨r16, hr16, h⟩ := bind_inv h
          refine kV (rest := [.int ((upd (p6_would σ) x7.toNatClampNeg (x3 - x3 / x2 * x2)) x7.toNatClampNeg), .int x5]) (st1 := [.int r16, .int ((upd (p6_would σ) x7.toNatClampNeg (x3 - x3 / x2 * x2)) x7.toNatClampNeg), .int x5]) (cr := []) (cs' := [w6 cA a (s6_would σ (upd (p6_would σ) x7.toNatClampNeg (x3 - x3 / x2 * x2)))]) Z (c_X6_whom l D cA a (s6_would σ (upd (p6_would σ) x7.toNatClampNeg (x3 - x3 / x2 * x2))) x7 r16 hr16) 1 gX6_changes_X6_whom rfl hdX6_whom ⟨rfl, rfl⟩ ⟨Nat.le_of_ble_eq_true rfl, Nat.le_of_ble_eq_true rfl⟩ ⟨Nat.zero_le _, Nat.zero_le _⟩ hP hD hS hl.1 rfl rfl rfl (Nat.le_of_ble_eq_true rfl) 6 rfl rfl rfl [0] [] [0] rfl rfl rfl rfl rfl dX6_changes_92 (fun H locs hP hD hS => ?_)
          refine lv_icmp_ne (tgt := 102) hx hb dX6_changes_95 (by decide) (fun hc17 => ?_) (fun hc17 => ?_)
          · rw [if_neg hc17] at h
            refine lv_iconst (v := 1) hx hb dX6_changes_102 (by decide) ?_
            refine lv_iadd hx hb dX6_changes_103 ?_
            refine lv_istore (lv' := [(5, .int (x5 + 1)), (6, .int 1), (4, .int (x4 ||| (1 <<< (((upd (p6_would σ) x7.toNatClampNeg (x3 - x3 / x2 * x2)) x7.toNatClampNeg) &&& 31)))), (3, .int (x3 / x2)), (0, .ref (a 0)), (2, .int x2), (7, .int x7)]) hx hb dX6_changes_104 hl (by decide) rfl (fun ls hl => ?_)
            refine lv_iinc (v := x7 + (-1)) (lv' := [(7, .int (x7 + (-1))), (5, .int (x5 + 1)), (6, .int 1), (4, .int (x4 ||| (1 <<< (((upd (p6_would σ) x7.toNatClampNeg (x3 - x3 / x2 * x2)) x7.toNatClampNeg) &&& 31)))), (3, .int (x3 / x2)), (0, .ref (a 0)), (2, .int x2)]) hx hb dX6_changes_106 hl (k := 6) rfl rfl (by decide) rfl (fun ls hl => ?_)
            refine lv_goto (tgt := 23) hx hb dX6_changes_109 (by decide) ?_
            exact ih _ _ _ _ _ _ _ h _ _ _ hP hD hS (lv_sub hl [5, 6, 4, 3, 1, 2, 0] rfl) kk
          · rw [if_pos hc17] at h
            refine lv_iconst (v := 0) hx hb dX6_changes_98 (by decide) ?_
            refine lv_goto (tgt := 103) hx hb dX6_changes_99 (by decide) ?_
            refine lv_iadd hx hb dX6_changes_103 ?_
            refine lv_istore (lv' := [(5, .int (x5 + 0)), (6, .int 1), (4, .int (x4 ||| (1 <<< (((upd (p6_would σ) x7.toNatClampNeg (x3 - x3 / x2 * x2)) x7.toNatClampNeg) &&& 31)))), (3, .int (x3 / x2)), (0, .ref (a 0)), (2, .int x2), (7, .int x7)]) hx hb dX6_changes_104 hl (by decide) rfl (fun ls hl => ?_)
            refine lv_iinc (v := x7 + (-1)) (lv' := [(7, .int (x7 + (-1))), (5, .int (x5 + 0)), (6, .int 1), (4, .int (x4 ||| (1 <<< (((upd (p6_would σ) x7.toNatClampNeg (x3 - x3 / x2 * x2)) x7.toNatClampNeg) &&& 31)))), (3, .int (x3 / x2)), (0, .ref (a 0)), (2, .int x2)]) hx hb dX6_changes_106 hl (k := 6) rfl rfl (by decide) rfl (fun ls hl => ?_)
            refine lv_goto (tgt := 23) hx hb dX6_changes_109 (by decide) ?_
            exact ih _ _ _ _ _ _ _ h _ _ _ hP hD hS (lv_sub hl [5, 6, 4, 3, 1, 2, 0] rfl) kk
set_option maxHeartbeats 4000000 in
set_option maxRecDepth 100000 in
theorem c_X6_changes (l : Launch) (D : va_G) (cA : Nat → ClassId) (a : Nat → Nat) (σ : St6) (x1 : Int32) (res : Int32 × St6) (h : f_X6_changes σ x1 = some res) : CT l D cA yX6_changes wsX6_changes rmX6_changes [.ref (a 0), .int x1] [w6 cA a σ] [w6 cA a res.2] (some (.int res.1)) := by
  refine CT.start (cc := cX6_changes) (maxL := 8) (ret := (some .int)) (by decide) rfl (Nat.le_of_ble_eq_true rfl) ?_
  intro p e s m below meth c Z hP hD hS ls hl
  have Z : Cx p s m _ meth c cX6_changes 8 (some .int) wsX6_changes RX6 D cA := Z
  have hl : lv_has ls 8 [(0, .ref (a 0)), (1, .int x1)] := hl
  obtain ⟨hx, hb, hml, hown, hts, hr, hlk, hKK⟩ := id Z
  have hK := hKK.1
  rw [f_X6_changes] at h
  refine lv_aload_n hx hb dX6_changes_0 rfl (lv_at hl 0 rfl) ?_
  refine va_get (D := D) (ci := 6) (v := .ref (a 1)) (C := RX6) (T := TX6) (N := 19) hx hb hts in_X6_changes_X6 hown hK hP 0 rfl rfl 0 (by decide) (hts _ lk_X6_changes_7) (fun _ h9 => h9) rfl dX6_changes_1 ?_
  refine lv_iconst (v := 0) hx hb dX6_changes_4 (by decide) ?_
  refine va_iald hx hb hK hP 1 0 rfl rfl (inB_in (by decide)) dX6_changes_5 ?_
  refine lv_istore_n (lv' := [(2, .int ((p6_now σ) (0 : Int32).toNatClampNeg)), (0, .ref (a 0)), (1, .int x1)]) hx hb dX6_changes_6 rfl hl (by decide) rfl (fun ls hl => ?_)
  refine lv_iload_n hx hb dX6_changes_7 rfl (lv_at hl 2 rfl) ?_
  refine lv_istore_n (lv' := [(3, .int x1), (2, .int ((p6_now σ) (0 : Int32).toNatClampNeg)), (0, .ref (a 0)), (1, .int x1)]) hx hb dX6_changes_8 rfl hl (by decide) rfl (fun ls hl => ?_)
  refine lv_iconst (v := 0) hx hb dX6_changes_9 (by decide) ?_
  refine lv_istore (lv' := [(4, .int 0), (3, .int x1), (2, .int ((p6_now σ) (0 : Int32).toNatClampNeg)), (0, .ref (a 0)), (1, .int x1)]) hx hb dX6_changes_10 hl (by decide) rfl (fun ls hl => ?_)
  refine lv_iconst (v := 0) hx hb dX6_changes_12 (by decide) ?_
  refine lv_istore (lv' := [(5, .int 0), (4, .int 0), (3, .int x1), (2, .int ((p6_now σ) (0 : Int32).toNatClampNeg)), (0, .ref (a 0)), (1, .int x1)]) hx hb dX6_changes_13 hl (by decide) rfl (fun ls hl => ?_)
  refine lv_iconst (v := 1) hx hb dX6_changes_15 (by decide) ?_
  refine lv_istore (lv' := [(6, .int 1), (5, .int 0), (4, .int 0), (3, .int x1), (2, .int ((p6_now σ) (0 : Int32).toNatClampNeg)), (0, .ref (a 0)), (1, .int x1)]) hx hb dX6_changes_16 hl (by decide) rfl (fun ls hl => ?_)
  refine lv_iload_n hx hb dX6_changes_18 rfl (lv_at hl 4 rfl) ?_
  refine lv_iconst (v := 1) hx hb dX6_changes_19 (by decide) ?_
  refine lv_isub hx hb dX6_changes_20 ?_
  refine lv_istore (lv' := [(7, .int (((p6_now σ) (0 : Int32).toNatClampNeg) - 1)), (6, .int 1), (5, .int 0), (4, .int 0), (3, .int x1), (2, .int ((p6_now σ) (0 : Int32).toNatClampNeg)), (0, .ref (a 0)), (1, .int x1)]) hx hb dX6_changes_21 hl (by decide) rfl (fun ls hl => ?_)
  obtain ⟨q18, hq18, h⟩ := bind_inv h
  refine t_X6_changes_23 Z ((p6_now σ) (0 : Int32).toNatClampNeg) FU _ _ _ _ _ _ _ hq18 _ _ _ hP hD hS (lv_sub hl [6, 5, 4, 3, 2, 1, 0] rfl) (fun H locs ls hP hD hS hl => ?_)
  refine lv_iload hx hb dX6_changes_112 (lv_at hl 5 rfl) ?_
  refine lv_if_eq (tgt := 132) hx hb dX6_changes_114 (by decide) (fun hc19 => ?_) (fun hc19 => ?_)
  · rw [if_pos hc19] at h
    refine lv_iconst (v := (-1)) hx hb dX6_changes_132 (by decide) ?_
    have h := Option.some.inj h
    subst h
    exact CT.iret Z hP hD hS dX6_changes_133
  · rw [if_neg hc19] at h
    refine lv_iload hx hb dX6_changes_117 (lv_at hl 3 rfl) ?_
    refine lv_iconst (v := 1) hx hb dX6_changes_119 (by decide) ?_
    refine lv_iload_n hx hb dX6_changes_120 rfl (lv_at hl 1 rfl) ?_
    refine lv_ishl hx hb dX6_changes_121 ?_
    refine lv_iconst (v := 1) hx hb dX6_changes_122 (by decide) ?_
    refine lv_isub hx hb dX6_changes_123 ?_
    refine lv_icmp_ne (tgt := 132) hx hb dX6_changes_124 (by decide) (fun hc20 => ?_) (fun hc20 => ?_)
    · rw [if_neg hc20] at h
      refine lv_iconst (v := (-1)) hx hb dX6_changes_132 (by decide) ?_
      have h := Option.some.inj h
      subst h
      exact CT.iret Z hP hD hS dX6_changes_133
    · rw [if_pos hc20] at h
      refine lv_iload hx hb dX6_changes_127 (lv_at hl 4 rfl) ?_
      refine lv_goto (tgt := 133) hx hb dX6_changes_129 (by decide) ?_
      have h := Option.some.inj h
      subst h
      exact CT.iret Z hP hD hS dX6_changes_133

