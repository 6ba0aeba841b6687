-- X6.film
theorem ck_X6_film_229 : Cond.constantLong RX6 229 24 ∈ wsX6_film := by decide +kernel
theorem lk_X6_film_43 : Cond.fieldLink RX6 43 "KeyedFeelingsModel" "items" "[J" ∈ wsX6_film := by decide +kernel
theorem in_X6_film_X6 : ∀ w ∈ wsX60, w ∈ wsX6_film := by decide +kernel
noncomputable def lp_X6_film_64 (x1 : Int32) (x2 : Int32) (x3 : Int32) (x5 : Int32) : Nat → Int32 → St6 → Option (Int32 × St6)
  | 0, _, _ => none
  | n + 1, x7, σ => (if x2 ≤ x7 then some (x7, σ) else ((f_X6_goesBy σ 0).bind (fun r13 => ((f_X6_turns r13 x1).bind (fun r14 => (if inB (((24 * x3) + x5) + x7) 96 = true then lp_X6_film_64 x1 x2 x3 x5 n (x7 + 1) (s6_items r13 (vp_updL (p6_items r13) ((((24 * x3) + x5) + x7).toNatClampNeg) r14.toInt64)) else none))))))
noncomputable def f_X6_film (σ : St6) (x1 : Int32) (x2 : Int32) (x3 : Int32) (x4 : Int32) (x5 : Int32) : Option (Int32 × St6) := ((f_X6_isPerson σ x1).bind (fun r1 => (if r1 = 0 then some ((-1), σ) else ((f_X6_in x2.toInt64 1 24).bind (fun r3 => (if r3 = 0 then some ((-1), σ) else ((f_X6_isSheet x3).bind (fun r5 => (if r5 = 0 then some ((-1), σ) else ((f_X6_isLane x4).bind (fun r7 => (if r7 = 0 then some ((-1), σ) else ((f_X6_why σ x3 x4 x5 x2).bind (fun r9 => (if 0 ≤ r9 then ((f_X6_asides σ).bind (fun r11 => ((lp_X6_film_64 x1 x2 x3 x5 FU 0 r11).bind (fun q16 => ((f_X6_backs q16.2).bind (fun r17 => some (x2, r17))))))) else some (r9, σ))))))))))))))))
noncomputable def rmX6_film : Room := { frames := 5, cells := 0, slots := 0, locals := 112 }
set_option maxHeartbeats 4000000 in
set_option maxRecDepth 100000 in
theorem t_X6_film_64 {p : Program} {l : Launch} {e : Env} {s : State} {m : MethodId} {args : Array Value} {below : List Frame} {meth : Method} {c : Code} {D : va_G} {cA : Nat → ClassId} {A0 : Nat → Prop} {H0 : Heap} {a : Nat → Nat} (Z : Cx p s m args meth c cX6_film 8 (some .int) wsX6_film RX6 D cA) (x1 : Int32) (x2 : Int32) (x3 : Int32) (x5 : Int32) {Q : State → Prop} : ∀ (n : Nat) (x7 : Int32) (σ : St6) (q : Int32 × St6), lp_X6_film_64 x1 x2 x3 x5 n x7 σ = some q → ∀ (H : Heap) (locs : List Loc) (ls : Array Slot), va_P D vwCl ([w6 cA a σ] : List va_W).flatten H → va_D A0 ([w6 cA a σ] : List va_W).flatten → va_S A0 H0 H locs → lv_has ls 8 [(0, .ref (a 0)), (1, .int x1), (2, .int x2), (3, .int x3), (5, .int x5), (7, .int x7)] → (∀ (H : Heap) (locs : List Loc) (ls : Array Slot), va_P D vwCl ([w6 cA a q.2] : List va_W).flatten H → va_D A0 ([w6 cA a q.2] : List va_W).flatten → va_S A0 H0 H locs → lv_has ls 8 [(0, .ref (a 0)), (1, .int x1), (2, .int x2), (3, .int x3), (5, .int x5), (7, .int q.1)] → W p l e rmX6_film s m args below meth c H locs 0 0 Q (F0 m 102 ls [])) → W p l e rmX6_film s m args below meth c H locs 0 0 Q (F0 m 64 ls []) := by
  obtain ⟨hx, hb, hml, hown, hts, hr, hlk, hKK⟩ := id Z
  have hK := hKK.1
  intro n
  induction n with
  | zero =>
    intro x7 σ q h
    rw [lp_X6_film_64] at h
    cases h
  | succ n ih =>
    intro x7 σ q h H locs ls hP hD hS hl kk
    rw [lp_X6_film_64] at h
    refine lv_iload hx hb dX6_film_64 (lv_at hl 5 rfl) ?_
    refine lv_iload_n hx hb dX6_film_66 rfl (lv_at hl 2 rfl) ?_
    refine lv_icmp_ge (tgt := 102) hx hb dX6_film_67 (by decide) (fun hc12 => ?_) (fun hc12 => ?_)
    · rw [if_pos hc12] at h
      have h := Option.some.inj h
      subst h
      exact kk _ _ _ hP hD hS (lv_sub hl [0, 1, 2, 3, 4, 5] rfl)
    · rw [if_neg hc12] at h
      refine lv_aload_n hx hb dX6_film_70 rfl (lv_at hl 0 rfl) ?_
      refine lv_iconst (v := 0) hx hb dX6_film_71 (by decide) ?_
      obtain ⟨r13, hr13, h⟩ := bind_inv h
      refine kV (rest := []) (st1 := []) (cr := []) (cs' := [w6 cA a r13]) Z (c_X6_goesBy l D cA a σ 0 r13 hr13) 1 gX6_film_X6_goesBy rfl hdX6_goesBy ⟨rfl, rfl⟩ ⟨Nat.le_of_ble_eq_true rfl, Nat.le_of_ble_eq_true rfl⟩ ⟨Nat.zero_le _, Nat.zero_le _⟩ hP hD hS hl.1 rfl rfl rfl (Nat.le_of_ble_eq_true rfl) 6 rfl rfl rfl [0] [] [0] rfl rfl rfl rfl rfl dX6_film_72 (fun H locs hP hD hS => ?_)
      refine lv_aload_n hx hb dX6_film_75 rfl (lv_at hl 0 rfl) ?_
      refine va_get (D := D) (ci := 6) (v := .ref (a 12)) (C := RX6) (T := TX6) (N := 19) hx hb hts in_X6_film_X6 hown hK hP 0 rfl rfl 17 (by decide) (hts _ lk_X6_film_43) (fun _ h9 => h9) rfl dX6_film_76 ?_
      refine lv_bipush (v := 24) hx hb dX6_film_79 (by decide) ?_
      refine lv_iload_n hx hb dX6_film_81 rfl (lv_at hl 3 rfl) ?_
      refine lv_imul hx hb dX6_film_82 ?_
      refine lv_iload hx hb dX6_film_83 (lv_at hl 4 rfl) ?_
      refine lv_iadd hx hb dX6_film_85 ?_
      refine lv_iload hx hb dX6_film_86 (lv_at hl 5 rfl) ?_
      refine lv_iadd hx hb dX6_film_88 ?_
      refine lv_aload_n hx hb dX6_film_89 rfl (lv_at hl 0 rfl) ?_
      refine lv_iload_n hx hb dX6_film_90 rfl (lv_at hl 1 rfl) ?_
      obtain ⟨r14, hr14, h⟩ := bind_inv h
      refine kV (rest := [.int (((24 * x3) + x5) + x7), .ref (a 12)]) (st1 := [.int r14, .int (((24 * x3) + x5) + x7), .ref (a 12)]) (cr := []) (cs' := [w6 cA a r13]) Z (c_X6_turns l D cA a r13 x1 r14 hr14) 1 gX6_film_X6_turns rfl hdX6_turns ⟨rfl, rfl⟩ ⟨Nat.le_of_ble_eq_true rfl, Nat.le_of_ble_eq_true rfl⟩ ⟨Nat.zero_le _, Nat.zero_le _⟩ hP hD hS hl.1 rfl rfl rfl (Nat.le_of_ble_eq_true rfl) 6 rfl rfl rfl [0] [] [0] rfl rfl rfl rfl rfl dX6_film_91 (fun H locs hP hD hS => ?_)
      refine lv_i2l (v := r14.toInt64) hx hb dX6_film_94 rfl ?_
      obtain ⟨hg15, h⟩ := if_inv h
      refine va_last hx hb hK hP hD hS 12 1 rfl rfl (inB_in hg15) dX6_film_95 (fun H locs hP hD hS => ?_)
      have hP : va_P D vwCl ([w6 cA a (s6_items r13 (vp_updL (p6_items r13) ((((24 * x3) + x5) + x7).toNatClampNeg) r14.toInt64))] : List va_W).flatten H := hP
      have hD : va_D _ ([w6 cA a (s6_items r13 (vp_updL (p6_items r13) ((((24 * x3) + x5) + x7).toNatClampNeg) r14.toInt64))] : List va_W).flatten := hD
      refine lv_iinc (v := x7 + 1) (lv' := [(7, .int (x7 + 1)), (0, .ref (a 0)), (1, .int x1), (2, .int x2), (3, .int x3), (5, .int x5)]) hx hb dX6_film_96 hl (k := 5) rfl rfl (by decide) rfl (fun ls hl => ?_)
      refine lv_goto (tgt := 64) hx hb dX6_film_99 (by decide) ?_
      exact ih _ _ _ h _ _ _ hP hD hS (lv_sub hl [1, 2, 3, 4, 5, 0] rfl) kk
set_option maxHeartbeats 4000000 in
set_option maxRecDepth 100000 in
theorem c_X6_film (l : Launch) (D : va_G) (cA : Nat → ClassId) (a : Nat → Nat) (σ : St6) (x1 : Int32) (x2 : Int32) (x3 : Int32) (x4 : Int32) (x5 : Int32) (res : Int32 × St6) (h : f_X6_film σ x1 x2 x3 x4 x5 = some res) : CT l D cA yX6_film wsX6_film rmX6_film [.ref (a 0), .int x1, .int x2, .int x3, .int x4, .int x5] [w6 cA a σ] [w6 cA a res.2] (some (.int res.1)) := by
  refine CT.start (cc := cX6_film) (maxL := 8) (ret := (some .int)) (by decide) rfl (Nat.le_of_ble_eq_true rfl) ?_
  intro p e s m below meth c Z hP hD hS ls hl
  have Z : Cx p s m _ meth c cX6_film 8 (some .int) wsX6_film RX6 D cA := Z
  have hl : lv_has ls 8 [(0, .ref (a 0)), (1, .int x1), (2, .int x2), (3, .int x3), (4, .int x4), (5, .int x5)] := hl
  obtain ⟨hx, hb, hml, hown, hts, hr, hlk, hKK⟩ := id Z
  have hK := hKK.1
  rw [f_X6_film] at h
  refine lv_aload_n hx hb dX6_film_0 rfl (lv_at hl 0 rfl) ?_
  refine lv_iload_n hx hb dX6_film_1 rfl (lv_at hl 1 rfl) ?_
  obtain ⟨r1, hr1, h⟩ := bind_inv h
  refine kV (rest := []) (st1 := [.int r1]) (cr := []) (cs' := [w6 cA a σ]) Z (c_X6_isPerson l D cA a σ x1 r1 hr1) 1 gX6_film_X6_isPerson rfl hdX6_isPerson ⟨rfl, rfl⟩ ⟨Nat.le_of_ble_eq_true rfl, Nat.le_of_ble_eq_true rfl⟩ ⟨Nat.zero_le _, Nat.zero_le _⟩ hP hD hS hl.1 rfl rfl rfl (Nat.le_of_ble_eq_true rfl) 6 rfl rfl rfl [0] [] [0] rfl rfl rfl rfl rfl dX6_film_2 (fun H locs hP hD hS => ?_)
  refine lv_if_eq (tgt := 35) hx hb dX6_film_5 (by decide) (fun hc2 => ?_) (fun hc2 => ?_)
  · rw [if_pos hc2] at h
    refine lv_iconst (v := (-1)) hx hb dX6_film_35 (by decide) ?_
    have h := Option.some.inj h
    subst h
    exact CT.iret Z hP hD hS dX6_film_36
  · rw [if_neg hc2] at h
    refine lv_iload_n hx hb dX6_film_8 rfl (lv_at hl 2 rfl) ?_
    refine lv_i2l (v := x2.toInt64) hx hb dX6_film_9 rfl ?_
    refine lv_lconst (v := 1) hx hb dX6_film_10 (by decide) ?_
    refine lv_ldc2 hx hb hown (hts _ ck_X6_film_229) dX6_film_11 ?_
    obtain ⟨r3, hr3, h⟩ := bind_inv h
    refine kS (rest := []) (st1 := [.int r3]) (cr := [w6 cA a σ]) (cs' := [w6 cA a σ]) Z (c_X6_in l D cA x2.toInt64 1 24 r3 hr3) 3 gX6_film_X6_in rfl hdX6_in ⟨rfl, rfl⟩ ⟨Nat.le_of_ble_eq_true rfl, Nat.le_of_ble_eq_true rfl⟩ ⟨Nat.zero_le _, Nat.zero_le _⟩ hP hD hS hl.1 rfl rfl rfl (Nat.le_of_ble_eq_true rfl) [] [0] [0] rfl rfl rfl rfl rfl dX6_film_14 (fun H locs hP hD hS => ?_)
    refine lv_if_eq (tgt := 35) hx hb dX6_film_17 (by decide) (fun hc4 => ?_) (fun hc4 => ?_)
    · rw [if_pos hc4] at h
      refine lv_iconst (v := (-1)) hx hb dX6_film_35 (by decide) ?_
      have h := Option.some.inj h
      subst h
      exact CT.iret Z hP hD hS dX6_film_36
    · rw [if_neg hc4] at h
      refine lv_iload_n hx hb dX6_film_20 rfl (lv_at hl 3 rfl) ?_
      obtain ⟨r5, hr5, h⟩ := bind_inv h
      refine kS (rest := []) (st1 := [.int r5]) (cr := [w6 cA a σ]) (cs' := [w6 cA a σ]) Z (c_X6_isSheet l D cA x3 r5 hr5) 1 gX6_film_X6_isSheet rfl hdX6_isSheet ⟨rfl, rfl⟩ ⟨Nat.le_of_ble_eq_true rfl, Nat.le_of_ble_eq_true rfl⟩ ⟨Nat.zero_le _, Nat.zero_le _⟩ hP hD hS hl.1 rfl rfl rfl (Nat.le_of_ble_eq_true rfl) [] [0] [0] rfl rfl rfl rfl rfl dX6_film_21 (fun H locs hP hD hS => ?_)
      refine lv_if_eq (tgt := 35) hx hb dX6_film_24 (by decide) (fun hc6 => ?_) (fun hc6 => ?_)
      · rw [if_pos hc6] at h
        refine lv_iconst (v := (-1)) hx hb dX6_film_35 (by decide) ?_
        have h := Option.some.inj h
        subst h
        exact CT.iret Z hP hD hS dX6_film_36
      · rw [if_neg hc6] at h
        refine lv_iload hx hb dX6_film_27 (lv_at hl 4 rfl) ?_
        obtain ⟨r7, hr7, h⟩ := bind_inv h
        refine kS (rest := []) (st1 := [.int r7]) (cr := [w6 cA a σ]) (cs' := [w6 cA a σ]) Z (c_X6_isLane l D cA x4 r7 hr7) 1 gX6_film_X6_isLane rfl hdX6_isLane ⟨rfl, rfl⟩ ⟨Nat.le_of_ble_eq_true rfl, Nat.le_of_ble_eq_true rfl⟩ ⟨Nat.zero_le _, Nat.zero_le _⟩ hP hD hS hl.1 rfl rfl rfl (Nat.le_of_ble_eq_true rfl) [] [0] [0] rfl rfl rfl rfl rfl dX6_film_29 (fun H locs hP hD hS => ?_)
        refine lv_if_ne (tgt := 37) hx hb dX6_film_32 (by decide) (fun hc8 => ?_) (fun hc8 => ?_)
        · rw [if_neg hc8] at h
          refine lv_aload_n hx hb dX6_film_37 rfl (lv_at hl 0 rfl) ?_
          refine lv_iload_n hx hb dX6_film_38 rfl (lv_at hl 3 rfl) ?_
          refine lv_iload hx hb dX6_film_39 (lv_at hl 4 rfl) ?_
          refine lv_iload hx hb dX6_film_41 (lv_at hl 5 rfl) ?_
          refine lv_iload_n hx hb dX6_film_43 rfl (lv_at hl 2 rfl) ?_
          obtain ⟨r9, hr9, h⟩ := bind_inv h
          refine kV (rest := []) (st1 := [.int r9]) (cr := []) (cs' := [w6 cA a σ]) Z (c_X6_why l D cA a σ x3 x4 x5 x2 r9 hr9) 4 gX6_film_X6_why rfl hdX6_why ⟨rfl, rfl⟩ ⟨Nat.le_of_ble_eq_true rfl, Nat.le_of_ble_eq_true rfl⟩ ⟨Nat.zero_le _, Nat.zero_le _⟩ hP hD hS hl.1 rfl rfl rfl (Nat.le_of_ble_eq_true rfl) 6 rfl rfl rfl [0] [] [0] rfl rfl rfl rfl rfl dX6_film_44 (fun H locs hP hD hS => ?_)
          refine lv_istore (lv' := [(6, .int r9), (0, .ref (a 0)), (1, .int x1), (2, .int x2), (3, .int x3), (4, .int x4), (5, .int x5)]) hx hb dX6_film_47 hl (by decide) rfl (fun ls hl => ?_)
          refine lv_iload hx hb dX6_film_49 (lv_at hl 0 rfl) ?_
          refine lv_if_ge (tgt := 57) hx hb dX6_film_51 (by decide) (fun hc10 => ?_) (fun hc10 => ?_)
          · rw [if_pos hc10] at h
            refine lv_aload_n hx hb dX6_film_57 rfl (lv_at hl 1 rfl) ?_
            obtain ⟨r11, hr11, h⟩ := bind_inv h
            refine kV (rest := []) (st1 := []) (cr := []) (cs' := [w6 cA a r11]) Z (c_X6_asides l D cA a σ r11 hr11) 0 gX6_film_X6_asides rfl hdX6_asides ⟨rfl, rfl⟩ ⟨Nat.le_of_ble_eq_true rfl, Nat.le_of_ble_eq_true rfl⟩ ⟨Nat.zero_le _, Nat.zero_le _⟩ hP hD hS hl.1 rfl rfl rfl (Nat.le_of_ble_eq_true rfl) 6 rfl rfl rfl [0] [] [0] rfl rfl rfl rfl rfl dX6_film_58 (fun H locs hP hD hS => ?_)
            refine lv_iconst (v := 0) hx hb dX6_film_61 (by decide) ?_
            refine lv_istore (lv' := [(7, .int 0), (6, .int r9), (0, .ref (a 0)), (1, .int x1), (2, .int x2), (3, .int x3), (4, .int x4), (5, .int x5)]) hx hb dX6_film_62 hl (by decide) rfl (fun ls hl => ?_)
            obtain ⟨q16, hq16, h⟩ := bind_inv h
            refine t_X6_film_64 Z x1 x2 x3 x5 FU _ _ _ hq16 _ _ _ hP hD hS (lv_sub hl [2, 3, 4, 5, 7, 0] rfl) (fun H locs ls hP hD hS hl => ?_)
            refine lv_aload_n hx hb dX6_film_102 rfl (lv_at hl 0 rfl) ?_
            obtain ⟨r17, hr17, h⟩ := bind_inv h
            refine kV (rest := []) (st1 := []) (cr := []) (cs' := [w6 cA a r17]) Z (c_X6_backs l D cA a q16.2 r17 hr17) 0 gX6_film_X6_backs rfl hdX6_backs ⟨rfl, rfl⟩ ⟨Nat.le_of_ble_eq_true rfl, Nat.le_of_ble_eq_true rfl⟩ ⟨Nat.zero_le _, Nat.zero_le _⟩ hP hD hS hl.1 rfl rfl rfl (Nat.le_of_ble_eq_true rfl) 6 rfl rfl rfl [0] [] [0] rfl rfl rfl rfl rfl dX6_film_103 (fun H locs hP hD hS => ?_)
            refine lv_iload_n hx hb dX6_film_106 rfl (lv_at hl 2 rfl) ?_
            have h := Option.some.inj h
            subst h
            exact CT.iret Z hP hD hS dX6_film_107
          · rw [if_neg hc10] at h
            refine lv_iload hx hb dX6_film_54 (lv_at hl 0 rfl) ?_
            have h := Option.some.inj h
            subst h
            exact CT.iret Z hP hD hS dX6_film_56
        · rw [if_pos hc8] at h
          refine lv_iconst (v := (-1)) hx hb dX6_film_35 (by decide) ?_
          have h := Option.some.inj h
          subst h
          exact CT.iret Z hP hD hS dX6_film_36

-- X6.sheet
theorem lk_X6_sheet_37 : Cond.fieldLink RX6 37 "KeyedFeelingsModel" "lanes" "[I" ∈ wsX6_sheet := by decide +kernel
theorem in_X6_sheet_X6 : ∀ w ∈ wsX60, w ∈ wsX6_sheet := by decide +kernel
theorem lk_X6_sheet_40 : Cond.fieldLink RX6 40 "KeyedFeelingsModel" "sizes" "[I" ∈ wsX6_sheet := by decide +kernel
theorem lk_X6_sheet_43 : Cond.fieldLink RX6 43 "KeyedFeelingsModel" "items" "[J" ∈ wsX6_sheet := by decide +kernel
noncomputable def lp_X6_sheet_46 (x1 : Int32) (x3 : Int32) : Nat → Int32 → St6 → Option (Int32 × St6)
  | 0, _, _ => none
  | n + 1, x4, σ => (if 24 ≤ x4 then some (x4, σ) else (if inB ((24 * x1) + x4) 96 = true then lp_X6_sheet_46 x1 x3 n (x4 + 1) (s6_items σ (vp_updL (p6_items σ) (((24 * x1) + x4).toNatClampNeg) 0)) else none))
noncomputable def f_X6_sheet (σ : St6) (x1 : Int32) (x2 : Int32) (x3 : Int32) : Option (Int32 × St6) := ((f_X6_isSheet x1).bind (fun r1 => (if r1 = 0 then some ((-1), σ) else ((f_X6_isLane x2).bind (fun r3 => (if r3 = 0 then some ((-1), σ) else (if x3 ≤ 24 then (if 0 ≤ x3 then (if inB x1 4 = true then (if inB x1 4 = true then ((lp_X6_sheet_46 x1 x3 FU 0 (s6_sizes (s6_lanes σ (upd (p6_lanes σ) x1.toNatClampNeg x2)) (upd (p6_sizes σ) x1.toNatClampNeg x3))).bind (fun q11 => some (x3, q11.2))) else none) else none) else some ((-14), σ)) else some ((-1), σ))))))))
noncomputable def rmX6_sheet : Room := { frames := 2, cells := 0, slots := 0, locals := 45 }
set_option maxHeartbeats 4000000 in
set_option maxRecDepth 100000 in
theorem t_X6_sheet_46 {p : Program} {l : Launch} {e : Env} {s : State} {m : MethodId} {args : Array Value} {below : List Frame} {meth : Method} {c : Code} {D : va_G} {cA : Nat → ClassId} {A0 : Nat → Prop} {H0 : Heap} {a : Nat → Nat} (Z : Cx p s m args meth c cX6_sheet 5 (some .int) wsX6_sheet RX6 D cA) (x1 : Int32) (x3 : Int32) {Q : State → Prop} : ∀ (n : Nat) (x4 : Int32) (σ : St6) (q : Int32 × St6), lp_X6_sheet_46 x1 x3 n x4 σ = some q → ∀ (H : Heap) (locs : List Loc) (ls : Array Slot), va_P D vwCl ([w6 cA a σ] : List va_W).flatten H → va_D A0 ([w6 cA a σ] : List va_W).flatten → va_S A0 H0 H locs → lv_has ls 5 [(0, .ref (a 0)), (1, .int x1), (3, .int x3), (4, .int x4)] → (∀ (H : Heap) (locs : List Loc) (ls : Array Slot), va_P D vwCl ([w6 cA a q.2] : List va_W).flatten H → va_D A0 ([w6 cA a q.2] : List va_W).flatten → va_S A0 H0 H locs → lv_has ls 5 [(0, .ref (a 0)), (1, .int x1), (3, .int x3), (4, .int q.1)] → W p l e rmX6_sheet s m args below meth c H locs 0 0 Q (F0 m 72 ls [])) → W p l e rmX6_sheet s m args below meth c H locs 0 0 Q (F0 m 46 ls []) := by
  obtain ⟨hx, hb, hml, hown, hts, hr, hlk, hKK⟩ := id Z
  have hK := hKK.1
  intro n
  induction n with
  | zero =>
    intro x4 σ q h
    rw [lp_X6_sheet_46] at h
    cases h
  | succ n ih =>
    intro x4 σ q h H locs ls hP hD hS hl kk
    rw [lp_X6_sheet_46] at h
    refine lv_iload hx hb dX6_sheet_46 (lv_at hl 3 rfl) ?_
    refine lv_bipush (v := 24) hx hb dX6_sheet_48 (by decide) ?_
    refine lv_icmp_ge (tgt := 72) hx hb dX6_sheet_50 (by decide) (fun hc9 => ?_) (fun hc9 => ?_)
    · rw [if_pos hc9] at h
      have h := Option.some.inj h
      subst h
      exact kk _ _ _ hP hD hS (lv_sub hl [0, 1, 2, 3] rfl)
    · rw [if_neg hc9] at h
      refine lv_aload_n hx hb dX6_sheet_53 rfl (lv_at hl 0 rfl) ?_
      refine va_get (D := D) (ci := 6) (v := .ref (a 12)) (C := RX6) (T := TX6) (N := 19) hx hb hts in_X6_sheet_X6 hown hK hP 0 rfl rfl 17 (by decide) (hts _ lk_X6_sheet_43) (fun _ h9 => h9) rfl dX6_sheet_54 ?_
      refine lv_bipush (v := 24) hx hb dX6_sheet_57 (by decide) ?_
      refine lv_iload_n hx hb dX6_sheet_59 rfl (lv_at hl 1 rfl) ?_
      refine lv_imul hx hb dX6_sheet_60 ?_
      refine lv_iload hx hb dX6_sheet_61 (lv_at hl 3 rfl) ?_
      refine lv_iadd hx hb dX6_sheet_63 ?_
      refine lv_lconst (v := 0) hx hb dX6_sheet_64 (by decide) ?_
      obtain ⟨hg10, h⟩ := if_inv h
      refine va_last hx hb hK hP hD hS 12 1 rfl rfl (inB_in hg10) dX6_sheet_65 (fun H locs hP hD hS => ?_)
      have hP : va_P D vwCl ([w6 cA a (s6_items σ (vp_updL (p6_items σ) (((24 * x1) + x4).toNatClampNeg) 0))] : List va_W).flatten H := hP
      have hD : va_D _ ([w6 cA a (s6_items σ (vp_updL (p6_items σ) (((24 * x1) + x4).toNatClampNeg) 0))] : List va_W).flatten := hD
      refine lv_iinc (v := x4 + 1) (lv' := [(4, .int (x4 + 1)), (0, .ref (a 0)), (1, .int x1), (3, .int x3)]) hx hb dX6_sheet_66 hl (k := 3) rfl rfl (by decide) rfl (fun ls hl => ?_)
      refine lv_goto (tgt := 46) hx hb dX6_sheet_69 (by decide) ?_
      exact ih _ _ _ h _ _ _ hP hD hS (lv_sub hl [1, 2, 3, 0] rfl) kk
set_option maxHeartbeats 4000000 in
set_option maxRecDepth 100000 in
theorem c_X6_sheet (l : Launch) (D : va_G) (cA : Nat → ClassId) (a : Nat → Nat) (σ : St6) (x1 : Int32) (x2 : Int32) (x3 : Int32) (res : Int32 × St6) (h : f_X6_sheet σ x1 x2 x3 = some res) : CT l D cA yX6_sheet wsX6_sheet rmX6_sheet [.ref (a 0), .int x1, .int x2, .int x3] [w6 cA a σ] [w6 cA a res.2] (some (.int res.1)) := by
  refine CT.start (cc := cX6_sheet) (maxL := 5) (ret := (some .int)) (by decide) rfl (Nat.le_of_ble_eq_true rfl) ?_
  intro p e s m below meth c Z hP hD hS ls hl
  have Z : Cx p s m _ meth c cX6_sheet 5 (some .int) wsX6_sheet RX6 D cA := Z
  have hl : lv_has ls 5 [(0, .ref (a 0)), (1, .int x1), (2, .int x2), (3, .int x3)] := hl
  obtain ⟨hx, hb, hml, hown, hts, hr, hlk, hKK⟩ := id Z
  have hK := hKK.1
  rw [f_X6_sheet] at h
  refine lv_iload_n hx hb dX6_sheet_0 rfl (lv_at hl 1 rfl) ?_
  obtain ⟨r1, hr1, h⟩ := bind_inv h
  refine kS (rest := []) (st1 := [.int r1]) (cr := [w6 cA a σ]) (cs' := [w6 cA a σ]) Z (c_X6_isSheet l D cA x1 r1 hr1) 1 gX6_sheet_X6_isSheet rfl hdX6_isSheet ⟨rfl, rfl⟩ ⟨Nat.le_of_ble_eq_true rfl, Nat.le_of_ble_eq_true rfl⟩ ⟨Nat.zero_le _, Nat.zero_le _⟩ hP hD hS hl.1 rfl rfl rfl (Nat.le_of_ble_eq_true rfl) [] [0] [0] rfl rfl rfl rfl rfl dX6_sheet_1 (fun H locs hP hD hS => ?_)
  refine lv_if_eq (tgt := 20) hx hb dX6_sheet_4 (by decide) (fun hc2 => ?_) (fun hc2 => ?_)
  · rw [if_pos hc2] at h
    refine lv_iconst (v := (-1)) hx hb dX6_sheet_20 (by decide) ?_
    have h := Option.some.inj h
    subst h
    exact CT.iret Z hP hD hS dX6_sheet_21
  · rw [if_neg hc2] at h
    refine lv_iload_n hx hb dX6_sheet_7 rfl (lv_at hl 2 rfl) ?_
    obtain ⟨r3, hr3, h⟩ := bind_inv h
    refine kS (rest := []) (st1 := [.int r3]) (cr := [w6 cA a σ]) (cs' := [w6 cA a σ]) Z (c_X6_isLane l D cA x2 r3 hr3) 1 gX6_sheet_X6_isLane rfl hdX6_isLane ⟨rfl, rfl⟩ ⟨Nat.le_of_ble_eq_true rfl, Nat.le_of_ble_eq_true rfl⟩ ⟨Nat.zero_le _, Nat.zero_le _⟩ hP hD hS hl.1 rfl rfl rfl (Nat.le_of_ble_eq_true rfl) [] [0] [0] rfl rfl rfl rfl rfl dX6_sheet_8 (fun H locs hP hD hS => ?_)
    refine lv_if_eq (tgt := 20) hx hb dX6_sheet_11 (by decide) (fun hc4 => ?_) (fun hc4 => ?_)
    · rw [if_pos hc4] at h
      refine lv_iconst (v := (-1)) hx hb dX6_sheet_20 (by decide) ?_
      have h := Option.some.inj h
      subst h
      exact CT.iret Z hP hD hS dX6_sheet_21
    · rw [if_neg hc4] at h
      refine lv_iload_n hx hb dX6_sheet_14 rfl (lv_at hl 3 rfl) ?_
      refine lv_bipush (v := 24) hx hb dX6_sheet_15 (by decide) ?_
      refine lv_icmp_le (tgt := 22) hx hb dX6_sheet_17 (by decide) (fun hc5 => ?_) (fun hc5 => ?_)
      · rw [if_pos hc5] at h
        refine lv_iload_n hx hb dX6_sheet_22 rfl (lv_at hl 3 rfl) ?_
        refine lv_if_ge (tgt := 29) hx hb dX6_sheet_23 (by decide) (fun hc6 => ?_) (fun hc6 => ?_)
        · rw [if_pos hc6] at h
          refine lv_aload_n hx hb dX6_sheet_29 rfl (lv_at hl 0 rfl) ?_
          refine va_get (D := D) (ci := 6) (v := .ref (a 10)) (C := RX6) (T := TX6) (N := 19) hx hb hts in_X6_sheet_X6 hown hK hP 0 rfl rfl 15 (by decide) (hts _ lk_X6_sheet_37) (fun _ h9 => h9) rfl dX6_sheet_30 ?_
          refine lv_iload_n hx hb dX6_sheet_33 rfl (lv_at hl 1 rfl) ?_
          refine lv_iload_n hx hb dX6_sheet_34 rfl (lv_at hl 2 rfl) ?_
          obtain ⟨hg7, h⟩ := if_inv h
          refine va_iast hx hb hK hP hD hS 10 0 rfl rfl (inB_in hg7) dX6_sheet_35 (fun H locs hP hD hS => ?_)
          have hP : va_P D vwCl ([w6 cA a (s6_lanes σ (upd (p6_lanes σ) x1.toNatClampNeg x2))] : List va_W).flatten H := hP
          have hD : va_D _ ([w6 cA a (s6_lanes σ (upd (p6_lanes σ) x1.toNatClampNeg x2))] : List va_W).flatten := hD
          refine lv_aload_n hx hb dX6_sheet_36 rfl (lv_at hl 0 rfl) ?_
          refine va_get (D := D) (ci := 6) (v := .ref (a 11)) (C := RX6) (T := TX6) (N := 19) hx hb hts in_X6_sheet_X6 hown hK hP 0 rfl rfl 16 (by decide) (hts _ lk_X6_sheet_40) (fun _ h9 => h9) rfl dX6_sheet_37 ?_
          refine lv_iload_n hx hb dX6_sheet_40 rfl (lv_at hl 1 rfl) ?_
          refine lv_iload_n hx hb dX6_sheet_41 rfl (lv_at hl 3 rfl) ?_
          obtain ⟨hg8, h⟩ := if_inv h
          refine va_iast hx hb hK hP hD hS 11 0 rfl rfl (inB_in hg8) dX6_sheet_42 (fun H locs hP hD hS => ?_)
          have hP : va_P D vwCl ([w6 cA a (s6_sizes (s6_lanes σ (upd (p6_lanes σ) x1.toNatClampNeg x2)) (upd (p6_sizes σ) x1.toNatClampNeg x3))] : List va_W).flatten H := hP
          have hD : va_D _ ([w6 cA a (s6_sizes (s6_lanes σ (upd (p6_lanes σ) x1.toNatClampNeg x2)) (upd (p6_sizes σ) x1.toNatClampNeg x3))] : List va_W).flatten := hD
          refine lv_iconst (v := 0) hx hb dX6_sheet_43 (by decide) ?_
          refine lv_istore (lv' := [(4, .int 0), (0, .ref (a 0)), (1, .int x1), (2, .int x2), (3, .int x3)]) hx hb dX6_sheet_44 hl (by decide) rfl (fun ls hl => ?_)
          obtain ⟨q11, hq11, h⟩ := bind_inv h
          refine t_X6_sheet_46 Z x1 x3 FU _ _ _ hq11 _ _ _ hP hD hS (lv_sub hl [1, 2, 4, 0] rfl) (fun H locs ls hP hD hS hl => ?_)
          refine lv_iload_n hx hb dX6_sheet_72 rfl (lv_at hl 2 rfl) ?_
          have h := Option.some.inj h
          subst h
          exact CT.iret Z hP hD hS dX6_sheet_73
        · rw [if_neg hc6] at h
          refine lv_bipush (v := (-14)) hx hb dX6_sheet_26 (by decide) ?_
          have h := Option.some.inj h
          subst h
          exact CT.iret Z hP hD hS dX6_sheet_28
      · rw [if_neg hc5] at h
        refine lv_iconst (v := (-1)) hx hb dX6_sheet_20 (by decide) ?_
        have h := Option.some.inj h
        subst h
        exact CT.iret Z hP hD hS dX6_sheet_21

-- X6.drop
theorem lk_X6_drop_37 : Cond.fieldLink RX6 37 "KeyedFeelingsModel" "lanes" "[I" ∈ wsX6_drop := by decide +kernel
theorem in_X6_drop_X6 : ∀ w ∈ wsX60, w ∈ wsX6_drop := by decide +kernel
theorem lk_X6_drop_40 : Cond.fieldLink RX6 40 "KeyedFeelingsModel" "sizes" "[I" ∈ wsX6_drop := by decide +kernel
noncomputable def f_X6_drop (σ : St6) (x1 : Int32) : Option (Int32 × St6) := ((f_X6_isSheet x1).bind (fun r1 => (if r1 = 0 then some ((-1), σ) else (if inB x1 4 = true then (if 0 ≤ ((p6_lanes σ) x1.toNatClampNeg) then (if inB x1 4 = true then (if inB x1 4 = true then some ((p6_sizes σ) x1.toNatClampNeg, (s6_lanes σ (upd (p6_lanes σ) x1.toNatClampNeg (-1)))) else none) else none) else some ((-11), σ)) else none))))
noncomputable def rmX6_drop : Room := { frames := 2, cells := 0, slots := 0, locals := 45 }
set_option maxHeartbeats 4000000 in
set_option maxRecDepth 100000 in
theorem c_X6_drop (l : Launch) (D : va_G) (cA : Nat → ClassId) (a : Nat → Nat) (σ : St6) (x1 : Int32) (res : Int32 × St6) (h : f_X6_drop σ x1 = some res) : CT l D cA yX6_drop wsX6_drop rmX6_drop [.ref (a 0), .int x1] [w6 cA a σ] [w6 cA a res.2] (some (.int res.1)) := by
  refine CT.start (cc := cX6_drop) (maxL := 2) (ret := (some .int)) (by decide) rfl (Nat.le_of_ble_eq_true rfl) ?_
  intro p e s m below meth c Z hP hD hS ls hl
  have Z : Cx p s m _ meth c cX6_drop 2 (some .int) wsX6_drop RX6 D cA := Z
  have hl : lv_has ls 2 [(0, .ref (a 0)), (1, .int x1)] := hl
  obtain ⟨hx, hb, hml, hown, hts, hr, hlk, hKK⟩ := id Z
  have hK := hKK.1
  rw [f_X6_drop] at h
  refine lv_iload_n hx hb dX6_drop_0 rfl (lv_at hl 1 rfl) ?_
  obtain ⟨r1, hr1, h⟩ := bind_inv h
  refine kS (rest := []) (st1 := [.int r1]) (cr := [w6 cA a σ]) (cs' := [w6 cA a σ]) Z (c_X6_isSheet l D cA x1 r1 hr1) 1 gX6_drop_X6_isSheet rfl hdX6_isSheet ⟨rfl, rfl⟩ ⟨Nat.le_of_ble_eq_true rfl, Nat.le_of_ble_eq_true rfl⟩ ⟨Nat.zero_le _, Nat.zero_le _⟩ hP hD hS hl.1 rfl rfl rfl (Nat.le_of_ble_eq_true rfl) [] [0] [0] rfl rfl rfl rfl rfl dX6_drop_1 (fun H locs hP hD hS => ?_)
  refine lv_if_ne (tgt := 9) hx hb dX6_drop_4 (by decide) (fun hc2 => ?_) (fun hc2 => ?_)
  · rw [if_neg hc2] at h
    refine lv_aload_n hx hb dX6_drop_9 rfl (lv_at hl 0 rfl) ?_
    refine va_get (D := D) (ci := 6) (v := .ref (a 10)) (C := RX6) (T := TX6) (N := 19) hx hb hts in_X6_drop_X6 hown hK hP 0 rfl rfl 15 (by decide) (hts _ lk_X6_drop_37) (fun _ h9 => h9) rfl dX6_drop_10 ?_
    refine lv_iload_n hx hb dX6_drop_13 rfl (lv_at hl 1 rfl) ?_
    obtain ⟨hg3, h⟩ := if_inv h
    refine va_iald hx hb hK hP 10 0 rfl rfl (inB_in hg3) dX6_drop_14 ?_
    refine lv_if_ge (tgt := 21) hx hb dX6_drop_15 (by decide) (fun hc4 => ?_) (fun hc4 => ?_)
    · rw [if_pos hc4] at h
      refine lv_aload_n hx hb dX6_drop_21 rfl (lv_at hl 0 rfl) ?_
      refine va_get (D := D) (ci := 6) (v := .ref (a 10)) (C := RX6) (T := TX6) (N := 19) hx hb hts in_X6_drop_X6 hown hK hP 0 rfl rfl 15 (by decide) (hts _ lk_X6_drop_37) (fun _ h9 => h9) rfl dX6_drop_22 ?_
      refine lv_iload_n hx hb dX6_drop_25 rfl (lv_at hl 1 rfl) ?_
      refine lv_iconst (v := (-1)) hx hb dX6_drop_26 (by decide) ?_
      obtain ⟨hg5, h⟩ := if_inv h
      refine va_iast hx hb hK hP hD hS 10 0 rfl rfl (inB_in hg5) dX6_drop_27 (fun H locs hP hD hS => ?_)
      have hP : va_P D vwCl ([w6 cA a (s6_lanes σ (upd (p6_lanes σ) x1.toNatClampNeg (-1)))] : List va_W).flatten H := hP
      have hD : va_D _ ([w6 cA a (s6_lanes σ (upd (p6_lanes σ) x1.toNatClampNeg (-1)))] : List va_W).flatten := hD
      refine lv_aload_n hx hb dX6_drop_28 rfl (lv_at hl 0 rfl) ?_
      refine va_get (D := D) (ci := 6) (v := .ref (a 11)) (C := RX6) (T := TX6) (N := 19) hx hb hts in_X6_drop_X6 hown hK hP 0 rfl rfl 16 (by decide) (hts _ lk_X6_drop_40) (fun _ h9 => h9) rfl dX6_drop_29 ?_
      refine lv_iload_n hx hb dX6_drop_32 rfl (lv_at hl 1 rfl) ?_
      obtain ⟨hg6, h⟩ := if_inv h
      refine va_iald hx hb hK hP 11 0 rfl rfl (inB_in hg6) dX6_drop_33 ?_
      have h := Option.some.inj h
      subst h
      exact CT.iret Z hP hD hS dX6_drop_34
    · rw [if_neg hc4] at h
      refine lv_bipush (v := (-11)) hx hb dX6_drop_18 (by decide) ?_
      have h := Option.some.inj h
      subst h
      exact CT.iret Z hP hD hS dX6_drop_20
  · rw [if_pos hc2] at h
    refine lv_iconst (v := (-1)) hx hb dX6_drop_7 (by decide) ?_
    have h := Option.some.inj h
    subst h
    exact CT.iret Z hP hD hS dX6_drop_8

-- X6.item
theorem lk_X6_item_43 : Cond.fieldLink RX6 43 "KeyedFeelingsModel" "items" "[J" ∈ wsX6_item := by decide +kernel
theorem in_X6_item_X6 : ∀ w ∈ wsX60, w ∈ wsX6_item := by decide +kernel
noncomputable def f_X6_item (σ : St6) (x1 : Int32) (x2 : Int32) (x3 : Int32) (x4 : Int64) : Option (Int32 × St6) := ((f_X6_isSheet x1).bind (fun r1 => (if r1 = 0 then some ((-1), σ) else ((f_X6_isLane x2).bind (fun r3 => (if r3 = 0 then some ((-1), σ) else ((f_X6_why σ x1 x2 x3 1).bind (fun r5 => (if 0 ≤ r5 then (if x2 = 0 then (if inB ((24 * x1) + x3) 96 = true then some (1, (s6_items σ (vp_updL (p6_items σ) (((24 * x1) + x3).toNatClampNeg) x4.toInt32.toInt8.toInt32.toInt64))) else none) else (if x2 = 1 then (if inB ((24 * x1) + x3) 96 = true then some (1, (s6_items σ (vp_updL (p6_items σ) (((24 * x1) + x3).toNatClampNeg) x4.toInt32.toInt16.toInt32.toInt64))) else none) else (if x2 = 2 then (if inB ((24 * x1) + x3) 96 = true then some (1, (s6_items σ (vp_updL (p6_items σ) (((24 * x1) + x3).toNatClampNeg) x4.toInt32.toInt64))) else none) else (if inB ((24 * x1) + x3) 96 = true then some (1, (s6_items σ (vp_updL (p6_items σ) (((24 * x1) + x3).toNatClampNeg) x4))) else none)))) else some (r5, σ))))))))))
noncomputable def rmX6_item : Room := { frames := 2, cells := 0, slots := 0, locals := 45 }
set_option maxHeartbeats 4000000 in
set_option maxRecDepth 100000 in
theorem c_X6_item (l : Launch) (D : va_G) (cA : Nat → ClassId) (a : Nat → Nat) (σ : St6) (x1 : Int32) (x2 : Int32) (x3 : Int32) (x4 : Int64) (res : Int32 × St6) (h : f_X6_item σ x1 x2 x3 x4 = some res) : CT l D cA yX6_item wsX6_item rmX6_item [.ref (a 0), .int x1, .int x2, .int x3, .long x4] [w6 cA a σ] [w6 cA a res.2] (some (.int res.1)) := by
  refine CT.start (cc := cX6_item) (maxL := 7) (ret := (some .int)) (by decide) rfl (Nat.le_of_ble_eq_true rfl) ?_
  intro p e s m below meth c Z hP hD hS ls hl
  have Z : Cx p s m _ meth c cX6_item 7 (some .int) wsX6_item RX6 D cA := Z
  have hl : lv_has ls 7 [(0, .ref (a 0)), (1, .int x1), (2, .int x2), (3, .int x3), (4, .long x4)] := hl
  obtain ⟨hx, hb, hml, hown, hts, hr, hlk, hKK⟩ := id Z
  have hK := hKK.1
  rw [f_X6_item] at h
  refine lv_iload_n hx hb dX6_item_0 rfl (lv_at hl 1 rfl) ?_
  obtain ⟨r1, hr1, h⟩ := bind_inv h
  refine kS (rest := []) (st1 := [.int r1]) (cr := [w6 cA a σ]) (cs' := [w6 cA a σ]) Z (c_X6_isSheet l D cA x1 r1 hr1) 1 gX6_item_X6_isSheet rfl hdX6_isSheet ⟨rfl, rfl⟩ ⟨Nat.le_of_ble_eq_true rfl, Nat.le_of_ble_eq_true rfl⟩ ⟨Nat.zero_le _, Nat.zero_le _⟩ hP hD hS hl.1 rfl rfl rfl (Nat.le_of_ble_eq_true rfl) [] [0] [0] rfl rfl rfl rfl rfl dX6_item_1 (fun H locs hP hD hS => ?_)
  refine lv_if_eq (tgt := 14) hx hb dX6_item_4 (by decide) (fun hc2 => ?_) (fun hc2 => ?_)
  · rw [if_pos hc2] at h
    refine lv_iconst (v := (-1)) hx hb dX6_item_14 (by decide) ?_
    have h := Option.some.inj h
    subst h
    exact CT.iret Z hP hD hS dX6_item_15
  · rw [if_neg hc2] at h
    refine lv_iload_n hx hb dX6_item_7 rfl (lv_at hl 2 rfl) ?_
    obtain ⟨r3, hr3, h⟩ := bind_inv h
    refine kS (rest := []) (st1 := [.int r3]) (cr := [w6 cA a σ]) (cs' := [w6 cA a σ]) Z (c_X6_isLane l D cA x2 r3 hr3) 1 gX6_item_X6_isLane rfl hdX6_isLane ⟨rfl, rfl⟩ ⟨Nat.le_of_ble_eq_true rfl, Nat.le_of_ble_eq_true rfl⟩ ⟨Nat.zero_le _, Nat.zero_le _⟩ hP hD hS hl.1 rfl rfl rfl (Nat.le_of_ble_eq_true rfl) [] [0] [0] rfl rfl rfl rfl rfl dX6_item_8 (fun H locs hP hD hS => ?_)
    refine lv_if_ne (tgt := 16) hx hb dX6_item_11 (by decide) (fun hc4 => ?_) (fun hc4 => ?_)
    · rw [if_neg hc4] at h
      refine lv_aload_n hx hb dX6_item_16 rfl (lv_at hl 0 rfl) ?_
      refine lv_iload_n hx hb dX6_item_17 rfl (lv_at hl 1 rfl) ?_
      refine lv_iload_n hx hb dX6_item_18 rfl (lv_at hl 2 rfl) ?_
      refine lv_iload_n hx hb dX6_item_19 rfl (lv_at hl 3 rfl) ?_
      refine lv_iconst (v := 1) hx hb dX6_item_20 (by decide) ?_
      obtain ⟨r5, hr5, h⟩ := bind_inv h
      refine kV (rest := []) (st1 := [.int r5]) (cr := []) (cs' := [w6 cA a σ]) Z (c_X6_why l D cA a σ x1 x2 x3 1 r5 hr5) 4 gX6_item_X6_why rfl hdX6_why ⟨rfl, rfl⟩ ⟨Nat.le_of_ble_eq_true rfl, Nat.le_of_ble_eq_true rfl⟩ ⟨Nat.zero_le _, Nat.zero_le _⟩ hP hD hS hl.1 rfl rfl rfl (Nat.le_of_ble_eq_true rfl) 6 rfl rfl rfl [0] [] [0] rfl rfl rfl rfl rfl dX6_item_21 (fun H locs hP hD hS => ?_)
      refine lv_istore (lv' := [(6, .int r5), (0, .ref (a 0)), (1, .int x1), (2, .int x2), (3, .int x3), (4, .long x4)]) hx hb dX6_item_24 hl (by decide) rfl (fun ls hl => ?_)
      refine lv_iload hx hb dX6_item_26 (lv_at hl 0 rfl) ?_
      refine lv_if_ge (tgt := 34) hx hb dX6_item_28 (by decide) (fun hc6 => ?_) (fun hc6 => ?_)
      · rw [if_pos hc6] at h
        refine lv_aload_n hx hb dX6_item_34 rfl (lv_at hl 1 rfl) ?_
        refine va_get (D := D) (ci := 6) (v := .ref (a 12)) (C := RX6) (T := TX6) (N := 19) hx hb hts in_X6_item_X6 hown hK hP 0 rfl rfl 17 (by decide) (hts _ lk_X6_item_43) (fun _ h9 => h9) rfl dX6_item_35 ?_
        refine lv_bipush (v := 24) hx hb dX6_item_38 (by decide) ?_
        refine lv_iload_n hx hb dX6_item_40 rfl (lv_at hl 2 rfl) ?_
        refine lv_imul hx hb dX6_item_41 ?_
        refine lv_iload_n hx hb dX6_item_42 rfl (lv_at hl 4 rfl) ?_
        refine lv_iadd hx hb dX6_item_43 ?_
        refine lv_iload_n hx hb dX6_item_44 rfl (lv_at hl 3 rfl) ?_
        refine lv_if_ne (tgt := 56) hx hb dX6_item_45 (by decide) (fun hc7 => ?_) (fun hc7 => ?_)
        · rw [if_neg hc7] at h
          refine lv_iload_n hx hb dX6_item_56 rfl (lv_at hl 3 rfl) ?_
          refine lv_iconst (v := 1) hx hb dX6_item_57 (by decide) ?_
          refine lv_icmp_ne (tgt := 69) hx hb dX6_item_58 (by decide) (fun hc8 => ?_) (fun hc8 => ?_)
          · rw [if_neg hc8] at h
            refine lv_iload_n hx hb dX6_item_69 rfl (lv_at hl 3 rfl) ?_
            refine lv_iconst (v := 2) hx hb dX6_item_70 (by decide) ?_
            refine lv_icmp_ne (tgt := 81) hx hb dX6_item_71 (by decide) (fun hc9 => ?_) (fun hc9 => ?_)
            · rw [if_neg hc9] at h
              refine lv_lload hx hb dX6_item_81 (lv_at hl 5 rfl) ?_
              obtain ⟨hg10, h⟩ := if_inv h
              refine va_last hx hb hK hP hD hS 12 1 rfl rfl (inB_in hg10) dX6_item_83 (fun H locs hP hD hS => ?_)
              have hP : va_P D vwCl ([w6 cA a (s6_items σ (vp_updL (p6_items σ) (((24 * x1) + x3).toNatClampNeg) x4))] : List va_W).flatten H := hP
              have hD : va_D _ ([w6 cA a (s6_items σ (vp_updL (p6_items σ) (((24 * x1) + x3).toNatClampNeg) x4))] : List va_W).flatten := hD
              refine lv_iconst (v := 1) hx hb dX6_item_84 (by decide) ?_
              have h := Option.some.inj h
              subst h
              exact CT.iret Z hP hD hS dX6_item_85
            · rw [if_pos hc9] at h
              refine lv_lload hx hb dX6_item_74 (lv_at hl 5 rfl) ?_
              refine lv_l2i (v := x4.toInt32) hx hb dX6_item_76 rfl ?_
              refine lv_i2l (v := x4.toInt32.toInt64) hx hb dX6_item_77 rfl ?_
              refine lv_goto (tgt := 83) hx hb dX6_item_78 (by decide) ?_
              obtain ⟨hg11, h⟩ := if_inv h
              refine va_last hx hb hK hP hD hS 12 1 rfl rfl (inB_in hg11) dX6_item_83 (fun H locs hP hD hS => ?_)
              have hP : va_P D vwCl ([w6 cA a (s6_items σ (vp_updL (p6_items σ) (((24 * x1) + x3).toNatClampNeg) x4.toInt32.toInt64))] : List va_W).flatten H := hP
              have hD : va_D _ ([w6 cA a (s6_items σ (vp_updL (p6_items σ) (((24 * x1) + x3).toNatClampNeg) x4.toInt32.toInt64))] : List va_W).flatten := hD
              refine lv_iconst (v := 1) hx hb dX6_item_84 (by decide) ?_
              have h := Option.some.inj h
              subst h
              exact CT.iret Z hP hD hS dX6_item_85
          · rw [if_pos hc8] at h
            refine lv_lload hx hb dX6_item_61 (lv_at hl 5 rfl) ?_
            refine lv_l2i (v := x4.toInt32) hx hb dX6_item_63 rfl ?_
            refine lv_i2s (v := x4.toInt32.toInt16.toInt32) hx hb dX6_item_64 rfl ?_
            refine lv_i2l (v := x4.toInt32.toInt16.toInt32.toInt64) hx hb dX6_item_65 rfl ?_
            refine lv_goto (tgt := 83) hx hb dX6_item_66 (by decide) ?_
            obtain ⟨hg12, h⟩ := if_inv h
            refine va_last hx hb hK hP hD hS 12 1 rfl rfl (inB_in hg12) dX6_item_83 (fun H locs hP hD hS => ?_)
            have hP : va_P D vwCl ([w6 cA a (s6_items σ (vp_updL (p6_items σ) (((24 * x1) + x3).toNatClampNeg) x4.toInt32.toInt16.toInt32.toInt64))] : List va_W).flatten H := hP
            have hD : va_D _ ([w6 cA a (s6_items σ (vp_updL (p6_items σ) (((24 * x1) + x3).toNatClampNeg) x4.toInt32.toInt16.toInt32.toInt64))] : List va_W).flatten := hD
            refine lv_iconst (v := 1) hx hb dX6_item_84 (by decide) ?_
            have h := Option.some.inj h
            subst h
            exact CT.iret Z hP hD hS dX6_item_85
        · rw [if_pos hc7] at h
          refine lv_lload hx hb dX6_item_48 (lv_at hl 5 rfl) ?_
          refine lv_l2i (v := x4.toInt32) hx hb dX6_item_50 rfl ?_
          refine lv_i2b (v := x4.toInt32.toInt8.toInt32) hx hb dX6_item_51 rfl ?_
          refine lv_i2l (v := x4.toInt32.toInt8.toInt32.toInt64) hx hb dX6_item_52 rfl ?_
          refine lv_goto (tgt := 83) hx hb dX6_item_53 (by decide) ?_
          obtain ⟨hg13, h⟩ := if_inv h
          refine va_last hx hb hK hP hD hS 12 1 rfl rfl (inB_in hg13) dX6_item_83 (fun H locs hP hD hS => ?_)
          have hP : va_P D vwCl ([w6 cA a (s6_items σ (vp_updL (p6_items σ) (((24 * x1) + x3).toNatClampNeg) x4.toInt32.toInt8.toInt32.toInt64))] : List va_W).flatten H := hP
          have hD : va_D _ ([w6 cA a (s6_items σ (vp_updL (p6_items σ) (((24 * x1) + x3).toNatClampNeg) x4.toInt32.toInt8.toInt32.toInt64))] : List va_W).flatten := hD
          refine lv_iconst (v := 1) hx hb dX6_item_84 (by decide) ?_
          have h := Option.some.inj h
          subst h
          exact CT.iret Z hP hD hS dX6_item_85
      · rw [if_neg hc6] at h
        refine lv_iload hx hb dX6_item_31 (lv_at hl 0 rfl) ?_
        have h := Option.some.inj h
        subst h
        exact CT.iret Z hP hD hS dX6_item_33
    · rw [if_pos hc4] at h
      refine lv_iconst (v := (-1)) hx hb dX6_item_14 (by decide) ?_
      have h := Option.some.inj h
      subst h
      exact CT.iret Z hP hD hS dX6_item_15

-- X6.copy
theorem lk_X6_copy_37 : Cond.fieldLink RX6 37 "KeyedFeelingsModel" "lanes" "[I" ∈ wsX6_copy := by decide +kernel
theorem in_X6_copy_X6 : ∀ w ∈ wsX60, w ∈ wsX6_copy := by decide +kernel
theorem lk_X6_copy_47 : Cond.fieldLink RX6 47 "KeyedFeelingsModel" "moved" "[J" ∈ wsX6_copy := by decide +kernel
theorem lk_X6_copy_43 : Cond.fieldLink RX6 43 "KeyedFeelingsModel" "items" "[J" ∈ wsX6_copy := by decide +kernel
noncomputable def lp_X6_copy_91 (x1 : Int32) (x2 : Int32) (x3 : Int32) (x4 : Int32) (x5 : Int32) : Nat → Int32 → St6 → Option (Int32 × St6)
  | 0, _, _ => none
  | n + 1, x7, σ => (if x5 ≤ x7 then some (x7, σ) else (if inB (((24 * x1) + x2) + x7) 96 = true then (if inB x7 24 = true then lp_X6_copy_91 x1 x2 x3 x4 x5 n (x7 + 1) (s6_moved σ (vp_updL (p6_moved σ) x7.toNatClampNeg ((p6_items σ) (((24 * x1) + x2) + x7).toNatClampNeg))) else none) else none))
noncomputable def lp_X6_copy_128 (x3 : Int32) (x4 : Int32) (x5 : Int32) : Nat → Int32 → St6 → Option (Int32 × St6)
  | 0, _, _ => none
  | n + 1, x7, σ => (if x5 ≤ x7 then some (x7, σ) else (if inB x7 24 = true then (if inB (((24 * x3) + x4) + x7) 96 = true then lp_X6_copy_128 x3 x4 x5 n (x7 + 1) (s6_items σ (vp_updL (p6_items σ) ((((24 * x3) + x4) + x7).toNatClampNeg) ((p6_moved σ) x7.toNatClampNeg))) else none) else none))
noncomputable def f_X6_copy (σ : St6) (x1 : Int32) (x2 : Int32) (x3 : Int32) (x4 : Int32) (x5 : Int32) : Option (Int32 × St6) := ((f_X6_isSheet x1).bind (fun r1 => (if r1 = 0 then some ((-1), σ) else ((f_X6_isSheet x3).bind (fun r3 => (if r3 = 0 then some ((-1), σ) else (if inB x1 4 = true then (if ((p6_lanes σ) x1.toNatClampNeg) < 0 then some ((-11), σ) else (if inB x3 4 = true then (if 0 ≤ ((p6_lanes σ) x3.toNatClampNeg) then (if inB x1 4 = true then ((f_X6_why σ x3 ((p6_lanes σ) x1.toNatClampNeg) x4 x5).bind (fun r10 => (if r10 = 0 then (if inB x1 4 = true then ((f_X6_why σ x1 ((p6_lanes σ) x1.toNatClampNeg) x2 x5).bind (fun r22 => (if 0 ≤ r22 then ((lp_X6_copy_91 x1 x2 x3 x4 x5 FU 0 σ).bind (fun q24 => ((lp_X6_copy_128 x3 x4 x5 FU 0 q24.2).bind (fun q25 => some (x5, q25.2))))) else some (r22, σ)))) else none) else (if 0 ≤ r10 then ((lp_X6_copy_91 x1 x2 x3 x4 x5 FU 0 σ).bind (fun q16 => ((lp_X6_copy_128 x3 x4 x5 FU 0 q16.2).bind (fun q20 => some (x5, q20.2))))) else some (r10, σ))))) else none) else some ((-11), σ)) else none)) else none)))))))
noncomputable def rmX6_copy : Room := { frames := 2, cells := 0, slots := 0, locals := 45 }
set_option maxHeartbeats 4000000 in
set_option maxRecDepth 100000 in
theorem t_X6_copy_91 {p : Program} {l : Launch} {e : Env} {s : State} {m : MethodId} {args : Array Value} {below : List Frame} {meth : Method} {c : Code} {D : va_G} {cA : Nat → ClassId} {A0 : Nat → Prop} {H0 : Heap} {a : Nat → Nat} (Z : Cx p s m args meth c cX6_copy 8 (some .int) wsX6_copy RX6 D cA) (x1 : Int32) (x2 : Int32) (x3 : Int32) (x4 : Int32) (x5 : Int32) {Q : State → Prop} : ∀ (n : Nat) (x7 : Int32) (σ : St6) (q : Int32 × St6), lp_X6_copy_91 x1 x2 x3 x4 x5 n x7 σ = some q → ∀ (H : Heap) (locs : List Loc) (ls : Array Slot), va_P D vwCl ([w6 cA a σ] : List va_W).flatten H → va_D A0 ([w6 cA a σ] : List va_W).flatten → va_S A0 H0 H locs → lv_has ls 8 [(0, .ref (a 0)), (1, .int x1), (2, .int x2), (3, .int x3), (4, .int x4), (5, .int x5), (7, .int x7)] → (∀ (H : Heap) (locs : List Loc) (ls : Array Slot), va_P D vwCl ([w6 cA a q.2] : List va_W).flatten H → va_D A0 ([w6 cA a q.2] : List va_W).flatten → va_S A0 H0 H locs → lv_has ls 8 [(0, .ref (a 0)), (1, .int x1), (2, .int x2), (3, .int x3), (4, .int x4), (5, .int x5), (7, .int q.1)] → W p l e rmX6_copy s m args below meth c H locs 0 0 Q (F0 m 125 ls [])) → W p l e rmX6_copy s m args below meth c H locs 0 0 Q (F0 m 91 ls []) := by
  obtain ⟨hx, hb, hml, hown, hts, hr, hlk, hKK⟩ := id Z
  have hK := hKK.1
  intro n
  induction n with
  | zero =>
    intro x7 σ q h
    rw [lp_X6_copy_91] at h
    cases h
  | succ n ih =>
    intro x7 σ q h H locs ls hP hD hS hl kk
    rw [lp_X6_copy_91] at h
    refine lv_iload hx hb dX6_copy_91 (lv_at hl 6 rfl) ?_
    refine lv_iload hx hb dX6_copy_93 (lv_at hl 5 rfl) ?_
    refine lv_icmp_ge (tgt := 125) hx hb dX6_copy_95 (by decide) (fun hc13 => ?_) (fun hc13 => ?_)
    · rw [if_pos hc13] at h
      have h := Option.some.inj h
      subst h
      exact kk _ _ _ hP hD hS (lv_sub hl [0, 1, 2, 3, 4, 5, 6] rfl)
    · rw [if_neg hc13] at h
      refine lv_aload_n hx hb dX6_copy_98 rfl (lv_at hl 0 rfl) ?_
      refine va_get (D := D) (ci := 6) (v := .ref (a 13)) (C := RX6) (T := TX6) (N := 19) hx hb hts in_X6_copy_X6 hown hK hP 0 rfl rfl 18 (by decide) (hts _ lk_X6_copy_47) (fun _ h9 => h9) rfl dX6_copy_99 ?_
      refine lv_iload hx hb dX6_copy_102 (lv_at hl 6 rfl) ?_
      refine lv_aload_n hx hb dX6_copy_104 rfl (lv_at hl 0 rfl) ?_
      refine va_get (D := D) (ci := 6) (v := .ref (a 12)) (C := RX6) (T := TX6) (N := 19) hx hb hts in_X6_copy_X6 hown hK hP 0 rfl rfl 17 (by decide) (hts _ lk_X6_copy_43) (fun _ h9 => h9) rfl dX6_copy_105 ?_
      refine lv_bipush (v := 24) hx hb dX6_copy_108 (by decide) ?_
      refine lv_iload_n hx hb dX6_copy_110 rfl (lv_at hl 1 rfl) ?_
      refine lv_imul hx hb dX6_copy_111 ?_
      refine lv_iload_n hx hb dX6_copy_112 rfl (lv_at hl 2 rfl) ?_
      refine lv_iadd hx hb dX6_copy_113 ?_
      refine lv_iload hx hb dX6_copy_114 (lv_at hl 6 rfl) ?_
      refine lv_iadd hx hb dX6_copy_116 ?_
      obtain ⟨hg14, h⟩ := if_inv h
      refine va_lald hx hb hK hP 12 1 rfl rfl (inB_in hg14) dX6_copy_117 ?_
      obtain ⟨hg15, h⟩ := if_inv h
      refine va_last hx hb hK hP hD hS 13 1 rfl rfl (inB_in hg15) dX6_copy_118 (fun H locs hP hD hS => ?_)
      have hP : va_P D vwCl ([w6 cA a (s6_moved σ (vp_updL (p6_moved σ) x7.toNatClampNeg ((p6_items σ) (((24 * x1) + x2) + x7).toNatClampNeg)))] : List va_W).flatten H := hP
      have hD : va_D _ ([w6 cA a (s6_moved σ (vp_updL (p6_moved σ) x7.toNatClampNeg ((p6_items σ) (((24 * x1) + x2) + x7).toNatClampNeg)))] : List va_W).flatten := hD
      refine lv_iinc (v := x7 + 1) (lv' := [(7, .int (x7 + 1)), (0, .ref (a 0)), (1, .int x1), (2, .int x2), (3, .int x3), (4, .int x4), (5, .int x5)]) hx hb dX6_copy_119 hl (k := 6) rfl rfl (by decide) rfl (fun ls hl => ?_)
      refine lv_goto (tgt := 91) hx hb dX6_copy_122 (by decide) ?_
      exact ih _ _ _ h _ _ _ hP hD hS (lv_sub hl [1, 2, 3, 4, 5, 6, 0] rfl) kk
set_option maxHeartbeats 4000000 in
set_option maxRecDepth 100000 in
theorem t_X6_copy_128 {p : Program} {l : Launch} {e : Env} {s : State} {m : MethodId} {args : Array Value} {below : List Frame} {meth : Method} {c : Code} {D : va_G} {cA : Nat → ClassId} {A0 : Nat → Prop} {H0 : Heap} {a : Nat → Nat} (Z : Cx p s m args meth c cX6_copy 8 (some .int) wsX6_copy RX6 D cA) (x3 : Int32) (x4 : Int32) (x5 : Int32) {Q : State → Prop} : ∀ (n : Nat) (x7 : Int32) (σ : St6) (q : Int32 × St6), lp_X6_copy_128 x3 x4 x5 n x7 σ = some q → ∀ (H : Heap) (locs : List Loc) (ls : Array Slot), va_P D vwCl ([w6 cA a σ] : List va_W).flatten H → va_D A0 ([w6 cA a σ] : List va_W).flatten → va_S A0 H0 H locs → lv_has ls 8 [(0, .ref (a 0)), (3, .int x3), (4, .int x4), (5, .int x5), (7, .int x7)] → (∀ (H : Heap) (locs : List Loc) (ls : Array Slot), va_P D vwCl ([w6 cA a q.2] : List va_W).flatten H → va_D A0 ([w6 cA a q.2] : List va_W).flatten → va_S A0 H0 H locs → lv_has ls 8 [(0, .ref (a 0)), (3, .int x3), (4, .int x4), (5, .int x5), (7, .int q.1)] → W p l e rmX6_copy s m args below meth c H locs 0 0 Q (F0 m 163 ls [])) → W p l e rmX6_copy s m args below meth c H locs 0 0 Q (F0 m 128 ls []) := by
  obtain ⟨hx, hb, hml, hown, hts, hr, hlk, hKK⟩ := id Z
  have hK := hKK.1
  intro n
  induction n with
  | zero =>
    intro x7 σ q h
    rw [lp_X6_copy_128] at h
    cases h
  | succ n ih =>
    intro x7 σ q h H locs ls hP hD hS hl kk
    rw [lp_X6_copy_128] at h
    refine lv_iload hx hb dX6_copy_128 (lv_at hl 4 rfl) ?_
    refine lv_iload hx hb dX6_copy_130 (lv_at hl 3 rfl) ?_
    refine lv_icmp_ge (tgt := 163) hx hb dX6_copy_132 (by decide) (fun hc17 => ?_) (fun hc17 => ?_)
    · rw [if_pos hc17] at h
      have h := Option.some.inj h
      subst h
      exact kk _ _ _ hP hD hS (lv_sub hl [0, 1, 2, 3, 4] rfl)
    · rw [if_neg hc17] at h
      refine lv_aload_n hx hb dX6_copy_135 rfl (lv_at hl 0 rfl) ?_
      refine va_get (D := D) (ci := 6) (v := .ref (a 12)) (C := RX6) (T := TX6) (N := 19) hx hb hts in_X6_copy_X6 hown hK hP 0 rfl rfl 17 (by decide) (hts _ lk_X6_copy_43) (fun _ h9 => h9) rfl dX6_copy_136 ?_
      refine lv_bipush (v := 24) hx hb dX6_copy_139 (by decide) ?_
      refine lv_iload_n hx hb dX6_copy_141 rfl (lv_at hl 1 rfl) ?_
      refine lv_imul hx hb dX6_copy_142 ?_
      refine lv_iload hx hb dX6_copy_143 (lv_at hl 2 rfl) ?_
      refine lv_iadd hx hb dX6_copy_145 ?_
      refine lv_iload hx hb dX6_copy_146 (lv_at hl 4 rfl) ?_
      refine lv_iadd hx hb dX6_copy_148 ?_
      refine lv_aload_n hx hb dX6_copy_149 rfl (lv_at hl 0 rfl) ?_
      refine va_get (D := D) (ci := 6) (v := .ref (a 13)) (C := RX6) (T := TX6) (N := 19) hx hb hts in_X6_copy_X6 hown hK hP 0 rfl rfl 18 (by decide) (hts _ lk_X6_copy_47) (fun _ h9 => h9) rfl dX6_copy_150 ?_
      refine lv_iload hx hb dX6_copy_153 (lv_at hl 4 rfl) ?_
      obtain ⟨hg18, h⟩ := if_inv h
      refine va_lald hx hb hK hP 13 1 rfl rfl (inB_in hg18) dX6_copy_155 ?_
      obtain ⟨hg19, h⟩ := if_inv h
      refine va_last hx hb hK hP hD hS 12 1 rfl rfl (inB_in hg19) dX6_copy_156 (fun H locs hP hD hS => ?_)
      have hP : va_P D vwCl ([w6 cA a (s6_items σ (vp_updL (p6_items σ) ((((24 * x3) + x4) + x7).toNatClampNeg) ((p6_moved σ) x7.toNatClampNeg)))] : List va_W).flatten H := hP
      have hD : va_D _ ([w6 cA a (s6_items σ (vp_updL (p6_items σ) ((((24 * x3) + x4) + x7).toNatClampNeg) ((p6_moved σ) x7.toNatClampNeg)))] : List va_W).flatten := hD
      refine lv_iinc (v := x7 + 1) (lv' := [(7, .int (x7 + 1)), (0, .ref (a 0)), (3, .int x3), (4, .int x4), (5, .int x5)]) hx hb dX6_copy_157 hl (k := 4) rfl rfl (by decide) rfl (fun ls hl => ?_)
      refine lv_goto (tgt := 128) hx hb dX6_copy_160 (by decide) ?_
      exact ih _ _ _ h _ _ _ hP hD hS (lv_sub hl [1, 2, 3, 4, 0] rfl) kk
set_option maxHeartbeats 4000000 in
set_option maxRecDepth 100000 in
theorem c_X6_copy (l : Launch) (D : va_G) (cA : Nat → ClassId) (a : Nat → Nat) (σ : St6) (x1 : Int32) (x2 : Int32) (x3 : Int32) (x4 : Int32) (x5 : Int32) (res : Int32 × St6) (h : f_X6_copy σ x1 x2 x3 x4 x5 = some res) : CT l D cA yX6_copy wsX6_copy rmX6_copy [.ref (a 0), .int x1, .int x2, .int x3, .int x4, .int x5] [w6 cA a σ] [w6 cA a res.2] (some (.int res.1)) := by
  refine CT.start (cc := cX6_copy) (maxL := 8) (ret := (some .int)) (by decide) rfl (Nat.le_of_ble_eq_true rfl) ?_
  intro p e s m below meth c Z hP hD hS ls hl
  have Z : Cx p s m _ meth c cX6_copy 8 (some .int) wsX6_copy RX6 D cA := Z
  have hl : lv_has ls 8 [(0, .ref (a 0)), (1, .int x1), (2, .int x2), (3, .int x3), (4, .int x4), (5, .int x5)] := hl
  obtain ⟨hx, hb, hml, hown, hts, hr, hlk, hKK⟩ := id Z
  have hK := hKK.1
  rw [f_X6_copy] at h
  refine lv_iload_n hx hb dX6_copy_0 rfl (lv_at hl 1 rfl) ?_
  obtain ⟨r1, hr1, h⟩ := bind_inv h
  refine kS (rest := []) (st1 := [.int r1]) (cr := [w6 cA a σ]) (cs' := [w6 cA a σ]) Z (c_X6_isSheet l D cA x1 r1 hr1) 1 gX6_copy_X6_isSheet rfl hdX6_isSheet ⟨rfl, rfl⟩ ⟨Nat.le_of_ble_eq_true rfl, Nat.le_of_ble_eq_true rfl⟩ ⟨Nat.zero_le _, Nat.zero_le _⟩ hP hD hS hl.1 rfl rfl rfl (Nat.le_of_ble_eq_true rfl) [] [0] [0] rfl rfl rfl rfl rfl dX6_copy_1 (fun H locs hP hD hS => ?_)
  refine lv_if_eq (tgt := 14) hx hb dX6_copy_4 (by decide) (fun hc2 => ?_) (fun hc2 => ?_)
  · rw [if_pos hc2] at h
    refine lv_iconst (v := (-1)) hx hb dX6_copy_14 (by decide) ?_
    have h := Option.some.inj h
    subst h
    exact CT.iret Z hP hD hS dX6_copy_15
  · rw [if_neg hc2] at h
    refine lv_iload_n hx hb dX6_copy_7 rfl (lv_at hl 3 rfl) ?_
    obtain ⟨r3, hr3, h⟩ := bind_inv h
    refine kS (rest := []) (st1 := [.int r3]) (cr := [w6 cA a σ]) (cs' := [w6 cA a σ]) Z (c_X6_isSheet l D cA x3 r3 hr3) 1 gX6_copy_X6_isSheet rfl hdX6_isSheet ⟨rfl, rfl⟩ ⟨Nat.le_of_ble_eq_true rfl, Nat.le_of_ble_eq_true rfl⟩ ⟨Nat.zero_le _, Nat.zero_le _⟩ hP hD hS hl.1 rfl rfl rfl (Nat.le_of_ble_eq_true rfl) [] [0] [0] rfl rfl rfl rfl rfl dX6_copy_8 (fun H locs hP hD hS => ?_)
    refine lv_if_ne (tgt := 16) hx hb dX6_copy_11 (by decide) (fun hc4 => ?_) (fun hc4 => ?_)
    · rw [if_neg hc4] at h
      refine lv_aload_n hx hb dX6_copy_16 rfl (lv_at hl 0 rfl) ?_
      refine va_get (D := D) (ci := 6) (v := .ref (a 10)) (C := RX6) (T := TX6) (N := 19) hx hb hts in_X6_copy_X6 hown hK hP 0 rfl rfl 15 (by decide) (hts _ lk_X6_copy_37) (fun _ h9 => h9) rfl dX6_copy_17 ?_
      refine lv_iload_n hx hb dX6_copy_20 rfl (lv_at hl 1 rfl) ?_
      obtain ⟨hg5, h⟩ := if_inv h
      refine va_iald hx hb hK hP 10 0 rfl rfl (inB_in hg5) dX6_copy_21 ?_
      refine lv_if_lt (tgt := 34) hx hb dX6_copy_22 (by decide) (fun hc6 => ?_) (fun hc6 => ?_)
      · rw [if_pos hc6] at h
        refine lv_bipush (v := (-11)) hx hb dX6_copy_34 (by decide) ?_
        have h := Option.some.inj h
        subst h
        exact CT.iret Z hP hD hS dX6_copy_36
      · rw [if_neg hc6] at h
        refine lv_aload_n hx hb dX6_copy_25 rfl (lv_at hl 0 rfl) ?_
        refine va_get (D := D) (ci := 6) (v := .ref (a 10)) (C := RX6) (T := TX6) (N := 19) hx hb hts in_X6_copy_X6 hown hK hP 0 rfl rfl 15 (by decide) (hts _ lk_X6_copy_37) (fun _ h9 => h9) rfl dX6_copy_26 ?_
        refine lv_iload_n hx hb dX6_copy_29 rfl (lv_at hl 3 rfl) ?_
        obtain ⟨hg7, h⟩ := if_inv h
        refine va_iald hx hb hK hP 10 0 rfl rfl (inB_in hg7) dX6_copy_30 ?_
        refine lv_if_ge (tgt := 37) hx hb dX6_copy_31 (by decide) (fun hc8 => ?_) (fun hc8 => ?_)
        · rw [if_pos hc8] at h
          refine lv_aload_n hx hb dX6_copy_37 rfl (lv_at hl 0 rfl) ?_
          refine lv_iload_n hx hb dX6_copy_38 rfl (lv_at hl 3 rfl) ?_
          refine lv_aload_n hx hb dX6_copy_39 rfl (lv_at hl 0 rfl) ?_
          refine va_get (D := D) (ci := 6) (v := .ref (a 10)) (C := RX6) (T := TX6) (N := 19) hx hb hts in_X6_copy_X6 hown hK hP 0 rfl rfl 15 (by decide) (hts _ lk_X6_copy_37) (fun _ h9 => h9) rfl dX6_copy_40 ?_
          refine lv_iload_n hx hb dX6_copy_43 rfl (lv_at hl 1 rfl) ?_
          obtain ⟨hg9, h⟩ := if_inv h
          refine va_iald hx hb hK hP 10 0 rfl rfl (inB_in hg9) dX6_copy_44 ?_
          refine lv_iload hx hb dX6_copy_45 (lv_at hl 4 rfl) ?_
          refine lv_iload hx hb dX6_copy_47 (lv_at hl 5 rfl) ?_
          obtain ⟨r10, hr10, h⟩ := bind_inv h
          refine kV (rest := []) (st1 := [.int r10]) (cr := []) (cs' := [w6 cA a σ]) Z (c_X6_why l D cA a σ x3 ((p6_lanes σ) x1.toNatClampNeg) x4 x5 r10 hr10) 4 gX6_copy_X6_why rfl hdX6_why ⟨rfl, rfl⟩ ⟨Nat.le_of_ble_eq_true rfl, Nat.le_of_ble_eq_true rfl⟩ ⟨Nat.zero_le _, Nat.zero_le _⟩ hP hD hS hl.1 rfl rfl rfl (Nat.le_of_ble_eq_true rfl) 6 rfl rfl rfl [0] [] [0] rfl rfl rfl rfl rfl dX6_copy_49 (fun H locs hP hD hS => ?_)
          refine lv_istore (lv' := [(6, .int r10), (0, .ref (a 0)), (1, .int x1), (2, .int x2), (3, .int x3), (4, .int x4), (5, .int x5)]) hx hb dX6_copy_52 hl (by decide) rfl (fun ls hl => ?_)
          refine lv_iload hx hb dX6_copy_54 (lv_at hl 0 rfl) ?_
          refine lv_if_ne (tgt := 76) hx hb dX6_copy_56 (by decide) (fun hc11 => ?_) (fun hc11 => ?_)
          · rw [if_neg hc11] at h
            refine lv_iload hx hb dX6_copy_76 (lv_at hl 0 rfl) ?_
            refine lv_istore (lv' := [(6, .int r10), (0, .ref (a 0)), (1, .int x1), (2, .int x2), (3, .int x3), (4, .int x4), (5, .int x5)]) hx hb dX6_copy_78 hl (by decide) rfl (fun ls hl => ?_)
            refine lv_iload hx hb dX6_copy_80 (lv_at hl 0 rfl) ?_
            refine lv_if_ge (tgt := 88) hx hb dX6_copy_82 (by decide) (fun hc12 => ?_) (fun hc12 => ?_)
            · rw [if_pos hc12] at h
              refine lv_iconst (v := 0) hx hb dX6_copy_88 (by decide) ?_
              refine lv_istore (lv' := [(7, .int 0), (6, .int r10), (0, .ref (a 0)), (1, .int x1), (2, .int x2), (3, .int x3), (4, .int x4), (5, .int x5)]) hx hb dX6_copy_89 hl (by decide) rfl (fun ls hl => ?_)
              obtain ⟨q16, hq16, h⟩ := bind_inv h
              refine t_X6_copy_91 Z x1 x2 x3 x4 x5 FU _ _ _ hq16 _ _ _ hP hD hS (lv_sub hl [2, 3, 4, 5, 6, 7, 0] rfl) (fun H locs ls hP hD hS hl => ?_)
              refine lv_iconst (v := 0) hx hb dX6_copy_125 (by decide) ?_
              refine lv_istore (lv' := [(7, .int 0), (0, .ref (a 0)), (1, .int x1), (2, .int x2), (3, .int x3), (4, .int x4), (5, .int x5)]) hx hb dX6_copy_126 hl (by decide) rfl (fun ls hl => ?_)
              obtain ⟨q20, hq20, h⟩ := bind_inv h
              refine t_X6_copy_128 Z x3 x4 x5 FU _ _ _ hq20 _ _ _ hP hD hS (lv_sub hl [1, 4, 5, 6, 0] rfl) (fun H locs ls hP hD hS hl => ?_)
              refine lv_iload hx hb dX6_copy_163 (lv_at hl 3 rfl) ?_
              have h := Option.some.inj h
              subst h
              exact CT.iret Z hP hD hS dX6_copy_165
            · rw [if_neg hc12] at h
              refine lv_iload hx hb dX6_copy_85 (lv_at hl 0 rfl) ?_
              have h := Option.some.inj h
              subst h
              exact CT.iret Z hP hD hS dX6_copy_87
          · rw [if_pos hc11] at h
            refine lv_aload_n hx hb dX6_copy_59 rfl (lv_at hl 1 rfl) ?_
            refine lv_iload_n hx hb dX6_copy_60 rfl (lv_at hl 2 rfl) ?_
            refine lv_aload_n hx hb dX6_copy_61 rfl (lv_at hl 1 rfl) ?_
            refine va_get (D := D) (ci := 6) (v := .ref (a 10)) (C := RX6) (T := TX6) (N := 19) hx hb hts in_X6_copy_X6 hown hK hP 0 rfl rfl 15 (by decide) (hts _ lk_X6_copy_37) (fun _ h9 => h9) rfl dX6_copy_62 ?_
            refine lv_iload_n hx hb dX6_copy_65 rfl (lv_at hl 2 rfl) ?_
            obtain ⟨hg21, h⟩ := if_inv h
            refine va_iald hx hb hK hP 10 0 rfl rfl (inB_in hg21) dX6_copy_66 ?_
            refine lv_iload_n hx hb dX6_copy_67 rfl (lv_at hl 3 rfl) ?_
            refine lv_iload hx hb dX6_copy_68 (lv_at hl 6 rfl) ?_
            obtain ⟨r22, hr22, h⟩ := bind_inv h
            refine kV (rest := []) (st1 := [.int r22]) (cr := []) (cs' := [w6 cA a σ]) Z (c_X6_why l D cA a σ x1 ((p6_lanes σ) x1.toNatClampNeg) x2 x5 r22 hr22) 4 gX6_copy_X6_why rfl hdX6_why ⟨rfl, rfl⟩ ⟨Nat.le_of_ble_eq_true rfl, Nat.le_of_ble_eq_true rfl⟩ ⟨Nat.zero_le _, Nat.zero_le _⟩ hP hD hS hl.1 rfl rfl rfl (Nat.le_of_ble_eq_true rfl) 6 rfl rfl rfl [0] [] [0] rfl rfl rfl rfl rfl dX6_copy_70 (fun H locs hP hD hS => ?_)
            refine lv_goto (tgt := 78) hx hb dX6_copy_73 (by decide) ?_
            refine lv_istore (lv' := [(6, .int r22), (0, .ref (a 0)), (1, .int x1), (2, .int x2), (3, .int x3), (4, .int x4), (5, .int x5)]) hx hb dX6_copy_78 hl (by decide) rfl (fun ls hl => ?_)
            refine lv_iload hx hb dX6_copy_80 (lv_at hl 0 rfl) ?_
            refine lv_if_ge (tgt := 88) hx hb dX6_copy_82 (by decide) (fun hc23 => ?_) (fun hc23 => ?_)
            · rw [if_pos hc23] at h
              refine lv_iconst (v := 0) hx hb dX6_copy_88 (by decide) ?_
              refine lv_istore (lv' := [(7, .int 0), (6, .int r22), (0, .ref (a 0)), (1, .int x1), (2, .int x2), (3, .int x3), (4, .int x4), (5, .int x5)]) hx hb dX6_copy_89 hl (by decide) rfl (fun ls hl => ?_)
              obtain ⟨q24, hq24, h⟩ := bind_inv h
              refine t_X6_copy_91 Z x1 x2 x3 x4 x5 FU _ _ _ hq24 _ _ _ hP hD hS (lv_sub hl [2, 3, 4, 5, 6, 7, 0] rfl) (fun H locs ls hP hD hS hl => ?_)
              refine lv_iconst (v := 0) hx hb dX6_copy_125 (by decide) ?_
              refine lv_istore (lv' := [(7, .int 0), (0, .ref (a 0)), (1, .int x1), (2, .int x2), (3, .int x3), (4, .int x4), (5, .int x5)]) hx hb dX6_copy_126 hl (by decide) rfl (fun ls hl => ?_)
              obtain ⟨q25, hq25, h⟩ := bind_inv h
              refine t_X6_copy_128 Z x3 x4 x5 FU _ _ _ hq25 _ _ _ hP hD hS (lv_sub hl [1, 4, 5, 6, 0] rfl) (fun H locs ls hP hD hS hl => ?_)
              refine lv_iload hx hb dX6_copy_163 (lv_at hl 3 rfl) ?_
              have h := Option.some.inj h
              subst h
              exact CT.iret Z hP hD hS dX6_copy_165
            · rw [if_neg hc23] at h
              refine lv_iload hx hb dX6_copy_85 (lv_at hl 0 rfl) ?_
              have h := Option.some.inj h
              subst h
              exact CT.iret Z hP hD hS dX6_copy_87
        · rw [if_neg hc8] at h
          refine lv_bipush (v := (-11)) hx hb dX6_copy_34 (by decide) ?_
          have h := Option.some.inj h
          subst h
          exact CT.iret Z hP hD hS dX6_copy_36
    · rw [if_pos hc4] at h
      refine lv_iconst (v := (-1)) hx hb dX6_copy_14 (by decide) ?_
      have h := Option.some.inj h
      subst h
      exact CT.iret Z hP hD hS dX6_copy_15

