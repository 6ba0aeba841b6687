-- X2.empty
theorem lk_X2_empty_9 : Cond.fieldLink RX2 9 "KeyedFeelings$People" "size" "I" ∈ wsX2_empty := by decide +kernel
theorem in_X2_empty_X2 : ∀ w ∈ wsX20, w ∈ wsX2_empty := by decide +kernel
theorem lk_X2_empty_28 : Cond.fieldLink RX2 28 "KeyedFeelings$People" "hour" "I" ∈ wsX2_empty := by decide +kernel
noncomputable def f_X2_empty (σ : St2) : Option (St2) := some (s2_hour (s2_size σ 0) 0)
noncomputable def rmX2_empty : Room := { frames := 0, cells := 0, slots := 0, locals := 0 }
set_option maxHeartbeats 4000000 in
set_option maxRecDepth 100000 in
theorem c_X2_empty (l : Launch) (D : va_G) (cA : Nat → ClassId) (a : Nat → Nat) (σ : St2) (res : St2) (h : f_X2_empty σ = some res) : CT l D cA yX2_empty wsX2_empty rmX2_empty [.ref (a 0)] [w2 cA a σ] [w2 cA a res] none := by
  refine CT.start (cc := cX2_empty) (maxL := 1) (ret := none) (by decide) rfl (Nat.le_of_ble_eq_true rfl) ?_
  intro p e s m below meth c Z hP hD hS ls hl
  have Z : Cx p s m _ meth c cX2_empty 1 none wsX2_empty RX2 D cA := Z
  have hl : lv_has ls 1 [(0, .ref (a 0))] := hl
  obtain ⟨hx, hb, hml, hown, hts, hr, hlk, hKK⟩ := id Z
  have hK := hKK.1
  rw [f_X2_empty] at h
  refine lv_aload_n hx hb dX2_empty_0 rfl (lv_at hl 0 rfl) ?_
  refine lv_iconst (v := 0) hx hb dX2_empty_1 (by decide) ?_
  refine va_put (D := D) (ci := 2) (v := .int 0) (ty := .int) (C := RX2) (T := TX2) (N := 7) hx hb hts in_X2_empty_X2 tyX2 tyX2_ok nmX2 hown hK hP hD hS 0 rfl rfl 0 (by decide) (hts _ lk_X2_empty_9) (fun _ h9 => h9) rfl (tyX2_ok 0 (by decide)) rfl rfl (Nat.le_of_ble_eq_true rfl) dX2_empty_2 (fun H locs hP hD hS => ?_)
  have hP : va_P D vwCl ([w2 cA a (s2_size σ 0)] : List va_W).flatten H := hP
  have hD : va_D _ ([w2 cA a (s2_size σ 0)] : List va_W).flatten := hD
  refine lv_aload_n hx hb dX2_empty_5 rfl (lv_at hl 0 rfl) ?_
  refine lv_iconst (v := 0) hx hb dX2_empty_6 (by decide) ?_
  refine va_put (D := D) (ci := 2) (v := .int 0) (ty := .int) (C := RX2) (T := TX2) (N := 7) hx hb hts in_X2_empty_X2 tyX2 tyX2_ok nmX2 hown hK hP hD hS 0 rfl rfl 5 (by decide) (hts _ lk_X2_empty_28) (fun _ h9 => h9) rfl (tyX2_ok 5 (by decide)) rfl rfl (Nat.le_of_ble_eq_true rfl) dX2_empty_7 (fun H locs hP hD hS => ?_)
  have hP : va_P D vwCl ([w2 cA a (s2_hour (s2_size σ 0) 0)] : List va_W).flatten H := hP
  have hD : va_D _ ([w2 cA a (s2_hour (s2_size σ 0) 0)] : List va_W).flatten := hD
  have h := Option.some.inj h
  subst h
  exact CT.vret Z hP hD hS dX2_empty_10

-- X2.become
theorem lk_X2_become_9 : Cond.fieldLink RX2 9 "KeyedFeelings$People" "size" "I" ∈ wsX2_become := by decide +kernel
theorem in_X2_become_X2 : ∀ w ∈ wsX20, w ∈ wsX2_become := by decide +kernel
theorem lk_X2_become_28 : Cond.fieldLink RX2 28 "KeyedFeelings$People" "hour" "I" ∈ wsX2_become := by decide +kernel
theorem lk_X2_become_31 : Cond.fieldLink RX2 31 "KeyedFeelings$People" "draw" "I" ∈ wsX2_become := by decide +kernel
theorem lk_X2_become_15 : Cond.fieldLink RX2 15 "KeyedFeelings$People" "kinds" "[I" ∈ wsX2_become := by decide +kernel
theorem lk_X2_become_19 : Cond.fieldLink RX2 19 "KeyedFeelings$People" "turns" "[I" ∈ wsX2_become := by decide +kernel
theorem lk_X2_become_22 : Cond.fieldLink RX2 22 "KeyedFeelings$People" "winds" "[I" ∈ wsX2_become := by decide +kernel
theorem lk_X2_become_25 : Cond.fieldLink RX2 25 "KeyedFeelings$People" "keys" "[I" ∈ wsX2_become := by decide +kernel
noncomputable def lp_X2_become_26 (τ : St2) : Nat → Int32 → St2 → Option (Int32 × St2)
  | 0, _, _ => none
  | n + 1, x2, σ => (if 6 ≤ x2 then some (x2, σ) else (if inB x2 6 = true then (if inB x2 6 = true then (if inB x2 6 = true then (if inB x2 6 = true then (if inB x2 6 = true then (if inB x2 6 = true then (if inB x2 6 = true then (if inB x2 6 = true then lp_X2_become_26 τ n (x2 + 1) (s2_keys (s2_winds (s2_turns (s2_kinds σ (upd (p2_kinds σ) x2.toNatClampNeg ((p2_kinds τ) x2.toNatClampNeg))) (upd (p2_turns σ) x2.toNatClampNeg ((p2_turns τ) x2.toNatClampNeg))) (upd (p2_winds σ) x2.toNatClampNeg ((p2_winds τ) x2.toNatClampNeg))) (upd (p2_keys σ) x2.toNatClampNeg ((p2_keys τ) x2.toNatClampNeg))) else none) else none) else none) else none) else none) else none) else none) else none))
noncomputable def f_X2_become (σ : St2) (τ : St2) : Option (St2) := ((lp_X2_become_26 τ FU 0 (s2_draw (s2_hour (s2_size σ (p2_size τ)) (p2_hour τ)) (p2_draw τ))).bind (fun q10 => some q10.2))
noncomputable def rmX2_become : Room := { frames := 0, cells := 0, slots := 0, locals := 0 }
set_option maxHeartbeats 4000000 in
set_option maxRecDepth 100000 in
theorem t_X2_become_26 {p : Program} {l : Launch} {e : Env} {s : State} {m : MethodId} {args : Array Value} {below : List Frame} {meth : Method} {c : Code} {D : va_G} {cA : Nat → ClassId} {A0 : Nat → Prop} {H0 : Heap} {a : Nat → Nat} {b : Nat → Nat} (Z : Cx p s m args meth c cX2_become 3 none wsX2_become RX2 D cA) (τ : St2) {Q : State → Prop} : ∀ (n : Nat) (x2 : Int32) (σ : St2) (q : Int32 × St2), lp_X2_become_26 τ n x2 σ = some q → ∀ (H : Heap) (locs : List Loc) (ls : Array Slot), va_P D vwCl ([w2 cA a σ, w2 cA b τ] : List va_W).flatten H → va_D A0 ([w2 cA a σ, w2 cA b τ] : List va_W).flatten → va_S A0 H0 H locs → lv_has ls 3 [(0, .ref (a 0)), (1, .ref (b 0)), (2, .int x2)] → (∀ (H : Heap) (locs : List Loc) (ls : Array Slot), va_P D vwCl ([w2 cA a q.2, w2 cA b τ] : List va_W).flatten H → va_D A0 ([w2 cA a q.2, w2 cA b τ] : List va_W).flatten → va_S A0 H0 H locs → lv_has ls 3 [(0, .ref (a 0)), (1, .ref (b 0)), (2, .int q.1)] → W p l e rmX2_become s m args below meth c H locs 0 0 Q (F0 m 86 ls [])) → W p l e rmX2_become s m args below meth c H locs 0 0 Q (F0 m 26 ls []) := by
  obtain ⟨hx, hb, hml, hown, hts, hr, hlk, hKK⟩ := id Z
  have hK := hKK.1
  intro n
  induction n with
  | zero =>
    intro x2 σ q h
    rw [lp_X2_become_26] at h
    cases h
  | succ n ih =>
    intro x2 σ q h H locs ls hP hD hS hl kk
    rw [lp_X2_become_26] at h
    refine lv_iload_n hx hb dX2_become_26 rfl (lv_at hl 2 rfl) ?_
    refine lv_bipush (v := 6) hx hb dX2_become_27 (by decide) ?_
    refine lv_icmp_ge (tgt := 86) hx hb dX2_become_29 (by decide) (fun hc1 => ?_) (fun hc1 => ?_)
    · rw [if_pos hc1] at h
      have h := Option.some.inj h
      subst h
      exact kk _ _ _ hP hD hS (lv_sub hl [0, 1, 2] rfl)
    · rw [if_neg hc1] at h
      refine lv_aload_n hx hb dX2_become_32 rfl (lv_at hl 0 rfl) ?_
      refine va_get (D := D) (ci := 2) (v := .ref (a 1)) (C := RX2) (T := TX2) (N := 7) hx hb hts in_X2_become_X2 hown hK hP 0 rfl rfl 1 (by decide) (hts _ lk_X2_become_15) (fun _ h9 => h9) rfl dX2_become_33 ?_
      refine lv_iload_n hx hb dX2_become_36 rfl (lv_at hl 2 rfl) ?_
      refine lv_aload_n hx hb dX2_become_37 rfl (lv_at hl 1 rfl) ?_
      refine va_get (D := D) (ci := 2) (v := .ref (b 1)) (C := RX2) (T := TX2) (N := 7) hx hb hts in_X2_become_X2 hown hK hP 5 rfl rfl 1 (by decide) (hts _ lk_X2_become_15) (fun _ h9 => h9) rfl dX2_become_38 ?_
      refine lv_iload_n hx hb dX2_become_41 rfl (lv_at hl 2 rfl) ?_
      obtain ⟨hg2, h⟩ := if_inv h
      refine va_iald hx hb hK hP 6 0 rfl rfl (inB_in hg2) dX2_become_42 ?_
      obtain ⟨hg3, h⟩ := if_inv h
      refine va_iast hx hb hK hP hD hS 1 0 rfl rfl (inB_in hg3) dX2_become_43 (fun H locs hP hD hS => ?_)
      have hP : va_P D vwCl ([w2 cA a (s2_kinds σ (upd (p2_kinds σ) x2.toNatClampNeg ((p2_kinds τ) x2.toNatClampNeg))), w2 cA b τ] : List va_W).flatten H := hP
      have hD : va_D _ ([w2 cA a (s2_kinds σ (upd (p2_kinds σ) x2.toNatClampNeg ((p2_kinds τ) x2.toNatClampNeg))), w2 cA b τ] : List va_W).flatten := hD
      refine lv_aload_n hx hb dX2_become_44 rfl (lv_at hl 0 rfl) ?_
      refine va_get (D := D) (ci := 2) (v := .ref (a 2)) (C := RX2) (T := TX2) (N := 7) hx hb hts in_X2_become_X2 hown hK hP 0 rfl rfl 2 (by decide) (hts _ lk_X2_become_19) (fun _ h9 => h9) rfl dX2_become_45 ?_
      refine lv_iload_n hx hb dX2_become_48 rfl (lv_at hl 2 rfl) ?_
      refine lv_aload_n hx hb dX2_become_49 rfl (lv_at hl 1 rfl) ?_
      refine va_get (D := D) (ci := 2) (v := .ref (b 2)) (C := RX2) (T := TX2) (N := 7) hx hb hts in_X2_become_X2 hown hK hP 5 rfl rfl 2 (by decide) (hts _ lk_X2_become_19) (fun _ h9 => h9) rfl dX2_become_50 ?_
      refine lv_iload_n hx hb dX2_become_53 rfl (lv_at hl 2 rfl) ?_
      obtain ⟨hg4, h⟩ := if_inv h
      refine va_iald hx hb hK hP 7 0 rfl rfl (inB_in hg4) dX2_become_54 ?_
      obtain ⟨hg5, h⟩ := if_inv h
      refine va_iast hx hb hK hP hD hS 2 0 rfl rfl (inB_in hg5) dX2_become_55 (fun H locs hP hD hS => ?_)
      have hP : va_P D vwCl ([w2 cA a (s2_turns (s2_kinds σ (upd (p2_kinds σ) x2.toNatClampNeg ((p2_kinds τ) x2.toNatClampNeg))) (upd (p2_turns σ) x2.toNatClampNeg ((p2_turns τ) x2.toNatClampNeg))), w2 cA b τ] : List va_W).flatten H := hP
      have hD : va_D _ ([w2 cA a (s2_turns (s2_kinds σ (upd (p2_kinds σ) x2.toNatClampNeg ((p2_kinds τ) x2.toNatClampNeg))) (upd (p2_turns σ) x2.toNatClampNeg ((p2_turns τ) x2.toNatClampNeg))), w2 cA b τ] : List va_W).flatten := hD
      refine lv_aload_n hx hb dX2_become_56 rfl (lv_at hl 0 rfl) ?_
      refine va_get (D := D) (ci := 2) (v := .ref (a 3)) (C := RX2) (T := TX2) (N := 7) hx hb hts in_X2_become_X2 hown hK hP 0 rfl rfl 3 (by decide) (hts _ lk_X2_become_22) (fun _ h9 => h9) rfl dX2_become_57 ?_
      refine lv_iload_n hx hb dX2_become_60 rfl (lv_at hl 2 rfl) ?_
      refine lv_aload_n hx hb dX2_become_61 rfl (lv_at hl 1 rfl) ?_
      refine va_get (D := D) (ci := 2) (v := .ref (b 3)) (C := RX2) (T := TX2) (N := 7) hx hb hts in_X2_become_X2 hown hK hP 5 rfl rfl 3 (by decide) (hts _ lk_X2_become_22) (fun _ h9 => h9) rfl dX2_become_62 ?_
      refine lv_iload_n hx hb dX2_become_65 rfl (lv_at hl 2 rfl) ?_
      obtain ⟨hg6, h⟩ := if_inv h
      refine va_iald hx hb hK hP 8 0 rfl rfl (inB_in hg6) dX2_become_66 ?_
      obtain ⟨hg7, h⟩ := if_inv h
      refine va_iast hx hb hK hP hD hS 3 0 rfl rfl (inB_in hg7) dX2_become_67 (fun H locs hP hD hS => ?_)
      have hP : va_P D vwCl ([w2 cA a (s2_winds (s2_turns (s2_kinds σ (upd (p2_kinds σ) x2.toNatClampNeg ((p2_kinds τ) x2.toNatClampNeg))) (upd (p2_turns σ) x2.toNatClampNeg ((p2_turns τ) x2.toNatClampNeg))) (upd (p2_winds σ) x2.toNatClampNeg ((p2_winds τ) x2.toNatClampNeg))), w2 cA b τ] : List va_W).flatten H := hP
      have hD : va_D _ ([w2 cA a (s2_winds (s2_turns (s2_kinds σ (upd (p2_kinds σ) x2.toNatClampNeg ((p2_kinds τ) x2.toNatClampNeg))) (upd (p2_turns σ) x2.toNatClampNeg ((p2_turns τ) x2.toNatClampNeg))) (upd (p2_winds σ) x2.toNatClampNeg ((p2_winds τ) x2.toNatClampNeg))), w2 cA b τ] : List va_W).flatten := hD
      refine lv_aload_n hx hb dX2_become_68 rfl (lv_at hl 0 rfl) ?_
      refine va_get (D := D) (ci := 2) (v := .ref (a 4)) (C := RX2) (T := TX2) (N := 7) hx hb hts in_X2_become_X2 hown hK hP 0 rfl rfl 4 (by decide) (hts _ lk_X2_become_25) (fun _ h9 => h9) rfl dX2_become_69 ?_
      refine lv_iload_n hx hb dX2_become_72 rfl (lv_at hl 2 rfl) ?_
      refine lv_aload_n hx hb dX2_become_73 rfl (lv_at hl 1 rfl) ?_
      refine va_get (D := D) (ci := 2) (v := .ref (b 4)) (C := RX2) (T := TX2) (N := 7) hx hb hts in_X2_become_X2 hown hK hP 5 rfl rfl 4 (by decide) (hts _ lk_X2_become_25) (fun _ h9 => h9) rfl dX2_become_74 ?_
      refine lv_iload_n hx hb dX2_become_77 rfl (lv_at hl 2 rfl) ?_
      obtain ⟨hg8, h⟩ := if_inv h
      refine va_iald hx hb hK hP 9 0 rfl rfl (inB_in hg8) dX2_become_78 ?_
      obtain ⟨hg9, h⟩ := if_inv h
      refine va_iast hx hb hK hP hD hS 4 0 rfl rfl (inB_in hg9) dX2_become_79 (fun H locs hP hD hS => ?_)
      have hP : va_P D vwCl ([w2 cA a (s2_keys (s2_winds (s2_turns (s2_kinds σ (upd (p2_kinds σ) x2.toNatClampNeg ((p2_kinds τ) x2.toNatClampNeg))) (upd (p2_turns σ) x2.toNatClampNeg ((p2_turns τ) x2.toNatClampNeg))) (upd (p2_winds σ) x2.toNatClampNeg ((p2_winds τ) x2.toNatClampNeg))) (upd (p2_keys σ) x2.toNatClampNeg ((p2_keys τ) x2.toNatClampNeg))), w2 cA b τ] : List va_W).flatten H := hP
      have hD : va_D _ ([w2 cA a (s2_keys (s2_winds (s2_turns (s2_kinds σ (upd (p2_kinds σ) x2.toNatClampNeg ((p2_kinds τ) x2.toNatClampNeg))) (upd (p2_turns σ) x2.toNatClampNeg ((p2_turns τ) x2.toNatClampNeg))) (upd (p2_winds σ) x2.toNatClampNeg ((p2_winds τ) x2.toNatClampNeg))) (upd (p2_keys σ) x2.toNatClampNeg ((p2_keys τ) x2.toNatClampNeg))), w2 cA b τ] : List va_W).flatten := hD
      refine lv_iinc (v := x2 + 1) (lv' := [(2, .int (x2 + 1)), (0, .ref (a 0)), (1, .ref (b 0))]) hx hb dX2_become_80 hl (k := 2) rfl rfl (by decide) rfl (fun ls hl => ?_)
      refine lv_goto (tgt := 26) hx hb dX2_become_83 (by decide) ?_
      exact ih _ _ _ h _ _ _ hP hD hS (lv_sub hl [1, 2, 0] rfl) kk
set_option maxHeartbeats 4000000 in
set_option maxRecDepth 100000 in
theorem c_X2_become (l : Launch) (D : va_G) (cA : Nat → ClassId) (a : Nat → Nat) (b : Nat → Nat) (σ : St2) (τ : St2) (res : St2) (h : f_X2_become σ τ = some res) : CT l D cA yX2_become wsX2_become rmX2_become [.ref (a 0), .ref (b 0)] [w2 cA a σ, w2 cA b τ] [w2 cA a res, w2 cA b τ] none := by
  refine CT.start (cc := cX2_become) (maxL := 3) (ret := none) (by decide) rfl (Nat.le_of_ble_eq_true rfl) ?_
  intro p e s m below meth c Z hP hD hS ls hl
  have Z : Cx p s m _ meth c cX2_become 3 none wsX2_become RX2 D cA := Z
  have hl : lv_has ls 3 [(0, .ref (a 0)), (1, .ref (b 0))] := hl
  obtain ⟨hx, hb, hml, hown, hts, hr, hlk, hKK⟩ := id Z
  have hK := hKK.1
  rw [f_X2_become] at h
  refine lv_aload_n hx hb dX2_become_0 rfl (lv_at hl 0 rfl) ?_
  refine lv_aload_n hx hb dX2_become_1 rfl (lv_at hl 1 rfl) ?_
  refine va_get (D := D) (ci := 2) (v := .int (p2_size τ)) (C := RX2) (T := TX2) (N := 7) hx hb hts in_X2_become_X2 hown hK hP 5 rfl rfl 0 (by decide) (hts _ lk_X2_become_9) (fun _ h9 => h9) rfl dX2_become_2 ?_
  refine va_put (D := D) (ci := 2) (v := .int (p2_size τ)) (ty := .int) (C := RX2) (T := TX2) (N := 7) hx hb hts in_X2_become_X2 tyX2 tyX2_ok nmX2 hown hK hP hD hS 0 rfl rfl 0 (by decide) (hts _ lk_X2_become_9) (fun _ h9 => h9) rfl (tyX2_ok 0 (by decide)) rfl rfl (Nat.le_of_ble_eq_true rfl) dX2_become_5 (fun H locs hP hD hS => ?_)
  have hP : va_P D vwCl ([w2 cA a (s2_size σ (p2_size τ)), w2 cA b τ] : List va_W).flatten H := hP
  have hD : va_D _ ([w2 cA a (s2_size σ (p2_size τ)), w2 cA b τ] : List va_W).flatten := hD
  refine lv_aload_n hx hb dX2_become_8 rfl (lv_at hl 0 rfl) ?_
  refine lv_aload_n hx hb dX2_become_9 rfl (lv_at hl 1 rfl) ?_
  refine va_get (D := D) (ci := 2) (v := .int (p2_hour τ)) (C := RX2) (T := TX2) (N := 7) hx hb hts in_X2_become_X2 hown hK hP 5 rfl rfl 5 (by decide) (hts _ lk_X2_become_28) (fun _ h9 => h9) rfl dX2_become_10 ?_
  refine va_put (D := D) (ci := 2) (v := .int (p2_hour τ)) (ty := .int) (C := RX2) (T := TX2) (N := 7) hx hb hts in_X2_become_X2 tyX2 tyX2_ok nmX2 hown hK hP hD hS 0 rfl rfl 5 (by decide) (hts _ lk_X2_become_28) (fun _ h9 => h9) rfl (tyX2_ok 5 (by decide)) rfl rfl (Nat.le_of_ble_eq_true rfl) dX2_become_13 (fun H locs hP hD hS => ?_)
  have hP : va_P D vwCl ([w2 cA a (s2_hour (s2_size σ (p2_size τ)) (p2_hour τ)), w2 cA b τ] : List va_W).flatten H := hP
  have hD : va_D _ ([w2 cA a (s2_hour (s2_size σ (p2_size τ)) (p2_hour τ)), w2 cA b τ] : List va_W).flatten := hD
  refine lv_aload_n hx hb dX2_become_16 rfl (lv_at hl 0 rfl) ?_
  refine lv_aload_n hx hb dX2_become_17 rfl (lv_at hl 1 rfl) ?_
  refine va_get (D := D) (ci := 2) (v := .int (p2_draw τ)) (C := RX2) (T := TX2) (N := 7) hx hb hts in_X2_become_X2 hown hK hP 5 rfl rfl 6 (by decide) (hts _ lk_X2_become_31) (fun _ h9 => h9) rfl dX2_become_18 ?_
  refine va_put (D := D) (ci := 2) (v := .int (p2_draw τ)) (ty := .int) (C := RX2) (T := TX2) (N := 7) hx hb hts in_X2_become_X2 tyX2 tyX2_ok nmX2 hown hK hP hD hS 0 rfl rfl 6 (by decide) (hts _ lk_X2_become_31) (fun _ h9 => h9) rfl (tyX2_ok 6 (by decide)) rfl rfl (Nat.le_of_ble_eq_true rfl) dX2_become_21 (fun H locs hP hD hS => ?_)
  have hP : va_P D vwCl ([w2 cA a (s2_draw (s2_hour (s2_size σ (p2_size τ)) (p2_hour τ)) (p2_draw τ)), w2 cA b τ] : List va_W).flatten H := hP
  have hD : va_D _ ([w2 cA a (s2_draw (s2_hour (s2_size σ (p2_size τ)) (p2_hour τ)) (p2_draw τ)), w2 cA b τ] : List va_W).flatten := hD
  refine lv_iconst (v := 0) hx hb dX2_become_24 (by decide) ?_
  refine lv_istore_n (lv' := [(2, .int 0), (0, .ref (a 0)), (1, .ref (b 0))]) hx hb dX2_become_25 rfl hl (by decide) rfl (fun ls hl => ?_)
  obtain ⟨q10, hq10, h⟩ := bind_inv h
  refine t_X2_become_26 Z τ FU _ _ _ hq10 _ _ _ hP hD hS (lv_sub hl [1, 2, 0] rfl) (fun H locs ls hP hD hS hl => ?_)
  have h := Option.some.inj h
  subst h
  exact CT.vret Z hP hD hS dX2_become_86

-- X2.join
theorem lk_X2_join_9 : Cond.fieldLink RX2 9 "KeyedFeelings$People" "size" "I" ∈ wsX2_join := by decide +kernel
theorem in_X2_join_X2 : ∀ w ∈ wsX20, w ∈ wsX2_join := by decide +kernel
theorem lk_X2_join_15 : Cond.fieldLink RX2 15 "KeyedFeelings$People" "kinds" "[I" ∈ wsX2_join := by decide +kernel
theorem lk_X2_join_19 : Cond.fieldLink RX2 19 "KeyedFeelings$People" "turns" "[I" ∈ wsX2_join := by decide +kernel
theorem lk_X2_join_22 : Cond.fieldLink RX2 22 "KeyedFeelings$People" "winds" "[I" ∈ wsX2_join := by decide +kernel
theorem lk_X2_join_25 : Cond.fieldLink RX2 25 "KeyedFeelings$People" "keys" "[I" ∈ wsX2_join := by decide +kernel
noncomputable def f_X2_join (σ : St2) (x1 : Int32) (x2 : Int32) : Option (Int32 × St2) := (if (p2_size σ) < 6 then (if inB (p2_size σ) 6 = true then (if inB (p2_size σ) 6 = true then (if inB (p2_size σ) 6 = true then (if inB (p2_size σ) 6 = true then some (((p2_size σ) + 1) - 1, (s2_keys (s2_winds (s2_turns (s2_kinds (s2_size σ ((p2_size σ) + 1)) (upd (p2_kinds σ) ((p2_size σ).toNatClampNeg) x1)) (upd (p2_turns σ) ((p2_size σ).toNatClampNeg) x2)) (upd (p2_winds σ) ((p2_size σ).toNatClampNeg) (-4))) (upd (p2_keys σ) ((p2_size σ).toNatClampNeg) 1))) else none) else none) else none) else none) else some ((-3), σ))
noncomputable def rmX2_join : Room := { frames := 0, cells := 0, slots := 0, locals := 0 }
set_option maxHeartbeats 4000000 in
set_option maxRecDepth 100000 in
theorem c_X2_join (l : Launch) (D : va_G) (cA : Nat → ClassId) (a : Nat → Nat) (σ : St2) (x1 : Int32) (x2 : Int32) (res : Int32 × St2) (h : f_X2_join σ x1 x2 = some res) : CT l D cA yX2_join wsX2_join rmX2_join [.ref (a 0), .int x1, .int x2] [w2 cA a σ] [w2 cA a res.2] (some (.int res.1)) := by
  refine CT.start (cc := cX2_join) (maxL := 3) (ret := (some .int)) (by decide) rfl (Nat.le_of_ble_eq_true rfl) ?_
  intro p e s m below meth c Z hP hD hS ls hl
  have Z : Cx p s m _ meth c cX2_join 3 (some .int) wsX2_join RX2 D cA := Z
  have hl : lv_has ls 3 [(0, .ref (a 0)), (1, .int x1), (2, .int x2)] := hl
  obtain ⟨hx, hb, hml, hown, hts, hr, hlk, hKK⟩ := id Z
  have hK := hKK.1
  rw [f_X2_join] at h
  refine lv_aload_n hx hb dX2_join_0 rfl (lv_at hl 0 rfl) ?_
  refine va_get (D := D) (ci := 2) (v := .int (p2_size σ)) (C := RX2) (T := TX2) (N := 7) hx hb hts in_X2_join_X2 hown hK hP 0 rfl rfl 0 (by decide) (hts _ lk_X2_join_9) (fun _ h9 => h9) rfl dX2_join_1 ?_
  refine lv_bipush (v := 6) hx hb dX2_join_4 (by decide) ?_
  refine lv_icmp_lt (tgt := 12) hx hb dX2_join_6 (by decide) (fun hc1 => ?_) (fun hc1 => ?_)
  · rw [if_pos hc1] at h
    refine lv_aload_n hx hb dX2_join_12 rfl (lv_at hl 0 rfl) ?_
    refine va_get (D := D) (ci := 2) (v := .ref (a 1)) (C := RX2) (T := TX2) (N := 7) hx hb hts in_X2_join_X2 hown hK hP 0 rfl rfl 1 (by decide) (hts _ lk_X2_join_15) (fun _ h9 => h9) rfl dX2_join_13 ?_
    refine lv_aload_n hx hb dX2_join_16 rfl (lv_at hl 0 rfl) ?_
    refine va_get (D := D) (ci := 2) (v := .int (p2_size σ)) (C := RX2) (T := TX2) (N := 7) hx hb hts in_X2_join_X2 hown hK hP 0 rfl rfl 0 (by decide) (hts _ lk_X2_join_9) (fun _ h9 => h9) rfl dX2_join_17 ?_
    refine lv_iload_n hx hb dX2_join_20 rfl (lv_at hl 1 rfl) ?_
    obtain ⟨hg2, h⟩ := if_inv h
    refine va_iast hx hb hK hP hD hS 1 0 rfl rfl (inB_in hg2) dX2_join_21 (fun H locs hP hD hS => ?_)
    have hP : va_P D vwCl ([w2 cA a (s2_kinds σ (upd (p2_kinds σ) ((p2_size σ).toNatClampNeg) x1))] : List va_W).flatten H := hP
    have hD : va_D _ ([w2 cA a (s2_kinds σ (upd (p2_kinds σ) ((p2_size σ).toNatClampNeg) x1))] : List va_W).flatten := hD
    refine lv_aload_n hx hb dX2_join_22 rfl (lv_at hl 0 rfl) ?_
    refine va_get (D := D) (ci := 2) (v := .ref (a 2)) (C := RX2) (T := TX2) (N := 7) hx hb hts in_X2_join_X2 hown hK hP 0 rfl rfl 2 (by decide) (hts _ lk_X2_join_19) (fun _ h9 => h9) rfl dX2_join_23 ?_
    refine lv_aload_n hx hb dX2_join_26 rfl (lv_at hl 0 rfl) ?_
    refine va_get (D := D) (ci := 2) (v := .int (p2_size σ)) (C := RX2) (T := TX2) (N := 7) hx hb hts in_X2_join_X2 hown hK hP 0 rfl rfl 0 (by decide) (hts _ lk_X2_join_9) (fun _ h9 => h9) rfl dX2_join_27 ?_
    refine lv_iload_n hx hb dX2_join_30 rfl (lv_at hl 2 rfl) ?_
    obtain ⟨hg3, h⟩ := if_inv h
    refine va_iast hx hb hK hP hD hS 2 0 rfl rfl (inB_in hg3) dX2_join_31 (fun H locs hP hD hS => ?_)
    have hP : va_P D vwCl ([w2 cA a (s2_turns (s2_kinds σ (upd (p2_kinds σ) ((p2_size σ).toNatClampNeg) x1)) (upd (p2_turns σ) ((p2_size σ).toNatClampNeg) x2))] : List va_W).flatten H := hP
    have hD : va_D _ ([w2 cA a (s2_turns (s2_kinds σ (upd (p2_kinds σ) ((p2_size σ).toNatClampNeg) x1)) (upd (p2_turns σ) ((p2_size σ).toNatClampNeg) x2))] : List va_W).flatten := hD
    refine lv_aload_n hx hb dX2_join_32 rfl (lv_at hl 0 rfl) ?_
    refine va_get (D := D) (ci := 2) (v := .ref (a 3)) (C := RX2) (T := TX2) (N := 7) hx hb hts in_X2_join_X2 hown hK hP 0 rfl rfl 3 (by decide) (hts _ lk_X2_join_22) (fun _ h9 => h9) rfl dX2_join_33 ?_
    refine lv_aload_n hx hb dX2_join_36 rfl (lv_at hl 0 rfl) ?_
    refine va_get (D := D) (ci := 2) (v := .int (p2_size σ)) (C := RX2) (T := TX2) (N := 7) hx hb hts in_X2_join_X2 hown hK hP 0 rfl rfl 0 (by decide) (hts _ lk_X2_join_9) (fun _ h9 => h9) rfl dX2_join_37 ?_
    refine lv_bipush (v := (-4)) hx hb dX2_join_40 (by decide) ?_
    obtain ⟨hg4, h⟩ := if_inv h
    refine va_iast hx hb hK hP hD hS 3 0 rfl rfl (inB_in hg4) dX2_join_42 (fun H locs hP hD hS => ?_)
    have hP : va_P D vwCl ([w2 cA a (s2_winds (s2_turns (s2_kinds σ (upd (p2_kinds σ) ((p2_size σ).toNatClampNeg) x1)) (upd (p2_turns σ) ((p2_size σ).toNatClampNeg) x2)) (upd (p2_winds σ) ((p2_size σ).toNatClampNeg) (-4)))] : List va_W).flatten H := hP
    have hD : va_D _ ([w2 cA a (s2_winds (s2_turns (s2_kinds σ (upd (p2_kinds σ) ((p2_size σ).toNatClampNeg) x1)) (upd (p2_turns σ) ((p2_size σ).toNatClampNeg) x2)) (upd (p2_winds σ) ((p2_size σ).toNatClampNeg) (-4)))] : List va_W).flatten := hD
    refine lv_aload_n hx hb dX2_join_43 rfl (lv_at hl 0 rfl) ?_
    refine va_get (D := D) (ci := 2) (v := .ref (a 4)) (C := RX2) (T := TX2) (N := 7) hx hb hts in_X2_join_X2 hown hK hP 0 rfl rfl 4 (by decide) (hts _ lk_X2_join_25) (fun _ h9 => h9) rfl dX2_join_44 ?_
    refine lv_aload_n hx hb dX2_join_47 rfl (lv_at hl 0 rfl) ?_
    refine va_get (D := D) (ci := 2) (v := .int (p2_size σ)) (C := RX2) (T := TX2) (N := 7) hx hb hts in_X2_join_X2 hown hK hP 0 rfl rfl 0 (by decide) (hts _ lk_X2_join_9) (fun _ h9 => h9) rfl dX2_join_48 ?_
    refine lv_iconst (v := 1) hx hb dX2_join_51 (by decide) ?_
    obtain ⟨hg5, h⟩ := if_inv h
    refine va_iast hx hb hK hP hD hS 4 0 rfl rfl (inB_in hg5) dX2_join_52 (fun H locs hP hD hS => ?_)
    have hP : va_P D vwCl ([w2 cA a (s2_keys (s2_winds (s2_turns (s2_kinds σ (upd (p2_kinds σ) ((p2_size σ).toNatClampNeg) x1)) (upd (p2_turns σ) ((p2_size σ).toNatClampNeg) x2)) (upd (p2_winds σ) ((p2_size σ).toNatClampNeg) (-4))) (upd (p2_keys σ) ((p2_size σ).toNatClampNeg) 1))] : List va_W).flatten H := hP
    have hD : va_D _ ([w2 cA a (s2_keys (s2_winds (s2_turns (s2_kinds σ (upd (p2_kinds σ) ((p2_size σ).toNatClampNeg) x1)) (upd (p2_turns σ) ((p2_size σ).toNatClampNeg) x2)) (upd (p2_winds σ) ((p2_size σ).toNatClampNeg) (-4))) (upd (p2_keys σ) ((p2_size σ).toNatClampNeg) 1))] : List va_W).flatten := hD
    refine lv_aload_n hx hb dX2_join_53 rfl (lv_at hl 0 rfl) ?_
    refine lv_dup hx hb dX2_join_54 rfl ?_
    refine va_get (D := D) (ci := 2) (v := .int (p2_size σ)) (C := RX2) (T := TX2) (N := 7) hx hb hts in_X2_join_X2 hown hK hP 0 rfl rfl 0 (by decide) (hts _ lk_X2_join_9) (fun _ h9 => h9) rfl dX2_join_55 ?_
    refine lv_iconst (v := 1) hx hb dX2_join_58 (by decide) ?_
    refine lv_iadd hx hb dX2_join_59 ?_
    refine va_put (D := D) (ci := 2) (v := .int ((p2_size σ) + 1)) (ty := .int) (C := RX2) (T := TX2) (N := 7) hx hb hts in_X2_join_X2 tyX2 tyX2_ok nmX2 hown hK hP hD hS 0 rfl rfl 0 (by decide) (hts _ lk_X2_join_9) (fun _ h9 => h9) rfl (tyX2_ok 0 (by decide)) rfl rfl (Nat.le_of_ble_eq_true rfl) dX2_join_60 (fun H locs hP hD hS => ?_)
    have hP : va_P D vwCl ([w2 cA a (s2_keys (s2_winds (s2_turns (s2_kinds (s2_size σ ((p2_size σ) + 1)) (upd (p2_kinds σ) ((p2_size σ).toNatClampNeg) x1)) (upd (p2_turns σ) ((p2_size σ).toNatClampNeg) x2)) (upd (p2_winds σ) ((p2_size σ).toNatClampNeg) (-4))) (upd (p2_keys σ) ((p2_size σ).toNatClampNeg) 1))] : List va_W).flatten H := hP
    have hD : va_D _ ([w2 cA a (s2_keys (s2_winds (s2_turns (s2_kinds (s2_size σ ((p2_size σ) + 1)) (upd (p2_kinds σ) ((p2_size σ).toNatClampNeg) x1)) (upd (p2_turns σ) ((p2_size σ).toNatClampNeg) x2)) (upd (p2_winds σ) ((p2_size σ).toNatClampNeg) (-4))) (upd (p2_keys σ) ((p2_size σ).toNatClampNeg) 1))] : List va_W).flatten := hD
    refine lv_aload_n hx hb dX2_join_63 rfl (lv_at hl 0 rfl) ?_
    refine va_get (D := D) (ci := 2) (v := .int ((p2_size σ) + 1)) (C := RX2) (T := TX2) (N := 7) hx hb hts in_X2_join_X2 hown hK hP 0 rfl rfl 0 (by decide) (hts _ lk_X2_join_9) (fun _ h9 => h9) rfl dX2_join_64 ?_
    refine lv_iconst (v := 1) hx hb dX2_join_67 (by decide) ?_
    refine lv_isub hx hb dX2_join_68 ?_
    have h := Option.some.inj h
    subst h
    exact CT.iret Z hP hD hS dX2_join_69
  · rw [if_neg hc1] at h
    refine lv_bipush (v := (-3)) hx hb dX2_join_9 (by decide) ?_
    have h := Option.some.inj h
    subst h
    exact CT.iret Z hP hD hS dX2_join_11

-- X2.has
theorem lk_X2_has_9 : Cond.fieldLink RX2 9 "KeyedFeelings$People" "size" "I" ∈ wsX2_has := by decide +kernel
theorem in_X2_has_X2 : ∀ w ∈ wsX20, w ∈ wsX2_has := by decide +kernel
noncomputable def f_X2_has (σ : St2) (x1 : Int32) : Option (Int32) := (if x1 < 0 then some 0 else (if (p2_size σ) ≤ x1 then some 0 else some 1))
noncomputable def rmX2_has : Room := { frames := 0, cells := 0, slots := 0, locals := 0 }
set_option maxHeartbeats 4000000 in
set_option maxRecDepth 100000 in
theorem c_X2_has (l : Launch) (D : va_G) (cA : Nat → ClassId) (a : Nat → Nat) (σ : St2) (x1 : Int32) (res : Int32) (h : f_X2_has σ x1 = some res) : CT l D cA yX2_has wsX2_has rmX2_has [.ref (a 0), .int x1] [w2 cA a σ] [w2 cA a σ] (some (.int res)) := by
  refine CT.start (cc := cX2_has) (maxL := 2) (ret := (some .boolean)) (by decide) rfl (Nat.le_of_ble_eq_true rfl) ?_
  intro p e s m below meth c Z hP hD hS ls hl
  have Z : Cx p s m _ meth c cX2_has 2 (some .boolean) wsX2_has RX2 D cA := Z
  have hl : lv_has ls 2 [(0, .ref (a 0)), (1, .int x1)] := hl
  obtain ⟨hx, hb, hml, hown, hts, hr, hlk, hKK⟩ := id Z
  have hK := hKK.1
  rw [f_X2_has] at h
  refine lv_iload_n hx hb dX2_has_0 rfl (lv_at hl 1 rfl) ?_
  refine lv_if_lt (tgt := 16) hx hb dX2_has_1 (by decide) (fun hc1 => ?_) (fun hc1 => ?_)
  · rw [if_pos hc1] at h
    refine lv_iconst (v := 0) hx hb dX2_has_16 (by decide) ?_
    have h := Option.some.inj h
    subst h
    exact CT.zret Z (nar_bool (Or.inl rfl)) hP hD hS dX2_has_17
  · rw [if_neg hc1] at h
    refine lv_iload_n hx hb dX2_has_4 rfl (lv_at hl 1 rfl) ?_
    refine lv_aload_n hx hb dX2_has_5 rfl (lv_at hl 0 rfl) ?_
    refine va_get (D := D) (ci := 2) (v := .int (p2_size σ)) (C := RX2) (T := TX2) (N := 7) hx hb hts in_X2_has_X2 hown hK hP 0 rfl rfl 0 (by decide) (hts _ lk_X2_has_9) (fun _ h9 => h9) rfl dX2_has_6 ?_
    refine lv_icmp_ge (tgt := 16) hx hb dX2_has_9 (by decide) (fun hc2 => ?_) (fun hc2 => ?_)
    · rw [if_pos hc2] at h
      refine lv_iconst (v := 0) hx hb dX2_has_16 (by decide) ?_
      have h := Option.some.inj h
      subst h
      exact CT.zret Z (nar_bool (Or.inl rfl)) hP hD hS dX2_has_17
    · rw [if_neg hc2] at h
      refine lv_iconst (v := 1) hx hb dX2_has_12 (by decide) ?_
      refine lv_goto (tgt := 17) hx hb dX2_has_13 (by decide) ?_
      have h := Option.some.inj h
      subst h
      exact CT.zret Z (nar_bool (Or.inr rfl)) hP hD hS dX2_has_17

-- X2.isStopped
theorem lk_X2_isStopped_19 : Cond.fieldLink RX2 19 "KeyedFeelings$People" "turns" "[I" ∈ wsX2_isStopped := by decide +kernel
theorem in_X2_isStopped_X2 : ∀ w ∈ wsX20, w ∈ wsX2_isStopped := by decide +kernel
noncomputable def f_X2_isStopped (σ : St2) (x1 : Int32) : Option (Int32) := (if inB x1 6 = true then (if ((p2_turns σ) x1.toNatClampNeg) = 0 then some 1 else some 0) else none)
noncomputable def rmX2_isStopped : Room := { frames := 0, cells := 0, slots := 0, locals := 0 }
set_option maxHeartbeats 4000000 in
set_option maxRecDepth 100000 in
theorem c_X2_isStopped (l : Launch) (D : va_G) (cA : Nat → ClassId) (a : Nat → Nat) (σ : St2) (x1 : Int32) (res : Int32) (h : f_X2_isStopped σ x1 = some res) : CT l D cA yX2_isStopped wsX2_isStopped rmX2_isStopped [.ref (a 0), .int x1] [w2 cA a σ] [w2 cA a σ] (some (.int res)) := by
  refine CT.start (cc := cX2_isStopped) (maxL := 2) (ret := (some .boolean)) (by decide) rfl (Nat.le_of_ble_eq_true rfl) ?_
  intro p e s m below meth c Z hP hD hS ls hl
  have Z : Cx p s m _ meth c cX2_isStopped 2 (some .boolean) wsX2_isStopped RX2 D cA := Z
  have hl : lv_has ls 2 [(0, .ref (a 0)), (1, .int x1)] := hl
  obtain ⟨hx, hb, hml, hown, hts, hr, hlk, hKK⟩ := id Z
  have hK := hKK.1
  rw [f_X2_isStopped] at h
  refine lv_aload_n hx hb dX2_isStopped_0 rfl (lv_at hl 0 rfl) ?_
  refine va_get (D := D) (ci := 2) (v := .ref (a 2)) (C := RX2) (T := TX2) (N := 7) hx hb hts in_X2_isStopped_X2 hown hK hP 0 rfl rfl 2 (by decide) (hts _ lk_X2_isStopped_19) (fun _ h9 => h9) rfl dX2_isStopped_1 ?_
  refine lv_iload_n hx hb dX2_isStopped_4 rfl (lv_at hl 1 rfl) ?_
  obtain ⟨hg1, h⟩ := if_inv h
  refine va_iald hx hb hK hP 2 0 rfl rfl (inB_in hg1) dX2_isStopped_5 ?_
  refine lv_if_ne (tgt := 13) hx hb dX2_isStopped_6 (by decide) (fun hc2 => ?_) (fun hc2 => ?_)
  · rw [if_neg hc2] at h
    refine lv_iconst (v := 0) hx hb dX2_isStopped_13 (by decide) ?_
    have h := Option.some.inj h
    subst h
    exact CT.zret Z (nar_bool (Or.inl rfl)) hP hD hS dX2_isStopped_14
  · rw [if_pos hc2] at h
    refine lv_iconst (v := 1) hx hb dX2_isStopped_9 (by decide) ?_
    refine lv_goto (tgt := 14) hx hb dX2_isStopped_10 (by decide) ?_
    have h := Option.some.inj h
    subst h
    exact CT.zret Z (nar_bool (Or.inr rfl)) hP hD hS dX2_isStopped_14

-- X2.everybody
theorem lk_X2_everybody_9 : Cond.fieldLink RX2 9 "KeyedFeelings$People" "size" "I" ∈ wsX2_everybody := by decide +kernel
theorem in_X2_everybody_X2 : ∀ w ∈ wsX20, w ∈ wsX2_everybody := by decide +kernel
noncomputable def f_X2_everybody (σ : St2) : Option (Int32) := some ((1 <<< ((p2_size σ) &&& 31)) - 1)
noncomputable def rmX2_everybody : Room := { frames := 0, cells := 0, slots := 0, locals := 0 }
set_option maxHeartbeats 4000000 in
set_option maxRecDepth 100000 in
theorem c_X2_everybody (l : Launch) (D : va_G) (cA : Nat → ClassId) (a : Nat → Nat) (σ : St2) (res : Int32) (h : f_X2_everybody σ = some res) : CT l D cA yX2_everybody wsX2_everybody rmX2_everybody [.ref (a 0)] [w2 cA a σ] [w2 cA a σ] (some (.int res)) := by
  refine CT.start (cc := cX2_everybody) (maxL := 1) (ret := (some .int)) (by decide) rfl (Nat.le_of_ble_eq_true rfl) ?_
  intro p e s m below meth c Z hP hD hS ls hl
  have Z : Cx p s m _ meth c cX2_everybody 1 (some .int) wsX2_everybody RX2 D cA := Z
  have hl : lv_has ls 1 [(0, .ref (a 0))] := hl
  obtain ⟨hx, hb, hml, hown, hts, hr, hlk, hKK⟩ := id Z
  have hK := hKK.1
  rw [f_X2_everybody] at h
  refine lv_iconst (v := 1) hx hb dX2_everybody_0 (by decide) ?_
  refine lv_aload_n hx hb dX2_everybody_1 rfl (lv_at hl 0 rfl) ?_
  refine va_get (D := D) (ci := 2) (v := .int (p2_size σ)) (C := RX2) (T := TX2) (N := 7) hx hb hts in_X2_everybody_X2 hown hK hP 0 rfl rfl 0 (by decide) (hts _ lk_X2_everybody_9) (fun _ h9 => h9) rfl dX2_everybody_2 ?_
  refine lv_ishl hx hb dX2_everybody_5 ?_
  refine lv_iconst (v := 1) hx hb dX2_everybody_6 (by decide) ?_
  refine lv_isub hx hb dX2_everybody_7 ?_
  have h := Option.some.inj h
  subst h
  exact CT.iret Z hP hD hS dX2_everybody_8

-- X2.stopped
theorem lk_X2_stopped_9 : Cond.fieldLink RX2 9 "KeyedFeelings$People" "size" "I" ∈ wsX2_stopped := by decide +kernel
theorem in_X2_stopped_X2 : ∀ w ∈ wsX20, w ∈ wsX2_stopped := by decide +kernel
noncomputable def lp_X2_stopped_4 (σ : St2) : Nat → Int32 → Int32 → Option (Int32 × Int32)
  | 0, _, _ => none
  | n + 1, x1, x2 => (if (p2_size σ) ≤ x2 then some (x1, x2) else ((f_X2_isStopped σ x2).bind (fun r2 => (if r2 = 0 then lp_X2_stopped_4 σ n (x1 ||| 0) (x2 + 1) else lp_X2_stopped_4 σ n (x1 ||| (1 <<< (x2 &&& 31))) (x2 + 1)))))
noncomputable def f_X2_stopped (σ : St2) : Option (Int32) := ((lp_X2_stopped_4 σ FU 0 0).bind (fun q4 => some q4.1))
noncomputable def rmX2_stopped : Room := { frames := 1, cells := 0, slots := 0, locals := 21 }
set_option maxHeartbeats 4000000 in
set_option maxRecDepth 100000 in
theorem t_X2_stopped_4 {p : Program} {l : Launch} {e : Env} {s : State} {m : MethodId} {args : Array Value} {below : List Frame} {meth : Method} {c : Code} {D : va_G} {cA : Nat → ClassId} {A0 : Nat → Prop} {H0 : Heap} {a : Nat → Nat} (Z : Cx p s m args meth c cX2_stopped 3 (some .int) wsX2_stopped RX2 D cA) (σ : St2) {Q : State → Prop} : ∀ (n : Nat) (x1 : Int32) (x2 : Int32) (q : Int32 × Int32), lp_X2_stopped_4 σ n x1 x2 = some q → ∀ (H : Heap) (locs : List Loc) (ls : Array Slot), va_P D vwCl ([w2 cA a σ] : List va_W).flatten H → va_D A0 ([w2 cA a σ] : List va_W).flatten → va_S A0 H0 H locs → lv_has ls 3 [(0, .ref (a 0)), (1, .int x1), (2, .int x2)] → (∀ (H : Heap) (locs : List Loc) (ls : Array Slot), va_P D vwCl ([w2 cA a σ] : List va_W).flatten H → va_D A0 ([w2 cA a σ] : List va_W).flatten → va_S A0 H0 H locs → lv_has ls 3 [(0, .ref (a 0)), (1, .int q.1), (2, .int q.2)] → W p l e rmX2_stopped s m args below meth c H locs 0 0 Q (F0 m 36 ls [])) → W p l e rmX2_stopped s m args below meth c H locs 0 0 Q (F0 m 4 ls []) := by
  obtain ⟨hx, hb, hml, hown, hts, hr, hlk, hKK⟩ := id Z
  have hK := hKK.1
  intro n
  induction n with
  | zero =>
    intro x1 x2 q h
    rw [lp_X2_stopped_4] at h
    cases h
  | succ n ih =>
    intro x1 x2 q h H locs ls hP hD hS hl kk
    rw [lp_X2_stopped_4] at h
    refine lv_iload_n hx hb dX2_stopped_4 rfl (lv_at hl 2 rfl) ?_
    refine lv_aload_n hx hb dX2_stopped_5 rfl (lv_at hl 0 rfl) ?_
    refine va_get (D := D) (ci := 2) (v := .int (p2_size σ)) (C := RX2) (T := TX2) (N := 7) hx hb hts in_X2_stopped_X2 hown hK hP 0 rfl rfl 0 (by decide) (hts _ lk_X2_stopped_9) (fun _ h9 => h9) rfl dX2_stopped_6 ?_
    refine lv_icmp_ge (tgt := 36) hx hb dX2_stopped_9 (by decide) (fun hc1 => ?_) (fun hc1 => ?_)
    · rw [if_pos hc1] at h
      have h := Option.some.inj h
      subst h
      exact kk _ _ _ hP hD hS (lv_sub hl [0, 1, 2] rfl)
    · rw [if_neg hc1] at h
      refine lv_iload_n hx hb dX2_stopped_12 rfl (lv_at hl 1 rfl) ?_
      refine lv_aload_n hx hb dX2_stopped_13 rfl (lv_at hl 0 rfl) ?_
      refine lv_iload_n hx hb dX2_stopped_14 rfl (lv_at hl 2 rfl) ?_
      obtain ⟨r2, hr2, h⟩ := bind_inv h
      refine kV (rest := [.int x1]) (st1 := [.int r2, .int x1]) (cr := []) (cs' := [w2 cA a σ]) Z (c_X2_isStopped l D cA a σ x2 r2 hr2) 1 gX2_stopped_X2_isStopped rfl hdX2_isStopped ⟨rfl, rfl⟩ ⟨Nat.le_of_ble_eq_true rfl, Nat.le_of_ble_eq_true rfl⟩ ⟨Nat.zero_le _, Nat.zero_le _⟩ hP hD hS hl.1 rfl rfl rfl (Nat.le_of_ble_eq_true rfl) 2 rfl rfl rfl [0] [] [0] rfl rfl rfl rfl rfl dX2_stopped_15 (fun H locs hP hD hS => ?_)
      refine lv_if_eq (tgt := 27) hx hb dX2_stopped_18 (by decide) (fun hc3 => ?_) (fun hc3 => ?_)
      · rw [if_pos hc3] at h
        refine lv_iconst (v := 0) hx hb dX2_stopped_27 (by decide) ?_
        refine lv_ior hx hb dX2_stopped_28 ?_
        refine lv_istore_n (lv' := [(1, .int (x1 ||| 0)), (0, .ref (a 0)), (2, .int x2)]) hx hb dX2_stopped_29 rfl hl (by decide) rfl (fun ls hl => ?_)
        refine lv_iinc (v := x2 + 1) (lv' := [(2, .int (x2 + 1)), (1, .int (x1 ||| 0)), (0, .ref (a 0))]) hx hb dX2_stopped_30 hl (k := 2) rfl rfl (by decide) rfl (fun ls hl => ?_)
        refine lv_goto (tgt := 4) hx hb dX2_stopped_33 (by decide) ?_
        exact ih _ _ _ h _ _ _ hP hD hS (lv_sub hl [2, 1, 0] rfl) kk
      · rw [if_neg hc3] at h
        refine lv_iconst (v := 1) hx hb dX2_stopped_21 (by decide) ?_
        refine lv_iload_n hx hb dX2_stopped_22 rfl (lv_at hl 2 rfl) ?_
        refine lv_ishl hx hb dX2_stopped_23 ?_
        refine lv_goto (tgt := 28) hx hb dX2_stopped_24 (by decide) ?_
        refine lv_ior hx hb dX2_stopped_28 ?_
        refine lv_istore_n (lv' := [(1, .int (x1 ||| (1 <<< (x2 &&& 31)))), (0, .ref (a 0)), (2, .int x2)]) hx hb dX2_stopped_29 rfl hl (by decide) rfl (fun ls hl => ?_)
        refine lv_iinc (v := x2 + 1) (lv' := [(2, .int (x2 + 1)), (1, .int (x1 ||| (1 <<< (x2 &&& 31)))), (0, .ref (a 0))]) hx hb dX2_stopped_30 hl (k := 2) rfl rfl (by decide) rfl (fun ls hl => ?_)
        refine lv_goto (tgt := 4) hx hb dX2_stopped_33 (by decide) ?_
        exact ih _ _ _ h _ _ _ hP hD hS (lv_sub hl [2, 1, 0] rfl) kk
set_option maxHeartbeats 4000000 in
set_option maxRecDepth 100000 in
theorem c_X2_stopped (l : Launch) (D : va_G) (cA : Nat → ClassId) (a : Nat → Nat) (σ : St2) (res : Int32) (h : f_X2_stopped σ = some res) : CT l D cA yX2_stopped wsX2_stopped rmX2_stopped [.ref (a 0)] [w2 cA a σ] [w2 cA a σ] (some (.int res)) := by
  refine CT.start (cc := cX2_stopped) (maxL := 3) (ret := (some .int)) (by decide) rfl (Nat.le_of_ble_eq_true rfl) ?_
  intro p e s m below meth c Z hP hD hS ls hl
  have Z : Cx p s m _ meth c cX2_stopped 3 (some .int) wsX2_stopped RX2 D cA := Z
  have hl : lv_has ls 3 [(0, .ref (a 0))] := hl
  obtain ⟨hx, hb, hml, hown, hts, hr, hlk, hKK⟩ := id Z
  have hK := hKK.1
  rw [f_X2_stopped] at h
  refine lv_iconst (v := 0) hx hb dX2_stopped_0 (by decide) ?_
  refine lv_istore_n (lv' := [(1, .int 0), (0, .ref (a 0))]) hx hb dX2_stopped_1 rfl hl (by decide) rfl (fun ls hl => ?_)
  refine lv_iconst (v := 0) hx hb dX2_stopped_2 (by decide) ?_
  refine lv_istore_n (lv' := [(2, .int 0), (1, .int 0), (0, .ref (a 0))]) hx hb dX2_stopped_3 rfl hl (by decide) rfl (fun ls hl => ?_)
  obtain ⟨q4, hq4, h⟩ := bind_inv h
  refine t_X2_stopped_4 Z σ FU _ _ _ hq4 _ _ _ hP hD hS (lv_sub hl [2, 1, 0] rfl) (fun H locs ls hP hD hS hl => ?_)
  refine lv_iload_n hx hb dX2_stopped_36 rfl (lv_at hl 1 rfl) ?_
  have h := Option.some.inj h
  subst h
  exact CT.iret Z hP hD hS dX2_stopped_37

-- X2.turnsTogether
theorem lk_X2_turnsTogether_9 : Cond.fieldLink RX2 9 "KeyedFeelings$People" "size" "I" ∈ wsX2_turnsTogether := by decide +kernel
theorem in_X2_turnsTogether_X2 : ∀ w ∈ wsX20, w ∈ wsX2_turnsTogether := by decide +kernel
theorem lk_X2_turnsTogether_19 : Cond.fieldLink RX2 19 "KeyedFeelings$People" "turns" "[I" ∈ wsX2_turnsTogether := by decide +kernel
noncomputable def lp_X2_turnsTogether_4 (σ : St2) : Nat → Int32 → Int32 → Option (Int32 × Int32)
  | 0, _, _ => none
  | n + 1, x1, x2 => (if (p2_size σ) ≤ x2 then some (x1, x2) else (if inB x2 6 = true then lp_X2_turnsTogether_4 σ n (x1 + ((p2_turns σ) x2.toNatClampNeg)) (x2 + 1) else none))
noncomputable def f_X2_turnsTogether (σ : St2) : Option (Int32) := ((lp_X2_turnsTogether_4 σ FU 0 0).bind (fun q3 => some q3.1))
noncomputable def rmX2_turnsTogether : Room := { frames := 0, cells := 0, slots := 0, locals := 0 }
set_option maxHeartbeats 4000000 in
set_option maxRecDepth 100000 in
theorem t_X2_turnsTogether_4 {p : Program} {l : Launch} {e : Env} {s : State} {m : MethodId} {args : Array Value} {below : List Frame} {meth : Method} {c : Code} {D : va_G} {cA : Nat → ClassId} {A0 : Nat → Prop} {H0 : Heap} {a : Nat → Nat} (Z : Cx p s m args meth c cX2_turnsTogether 3 (some .int) wsX2_turnsTogether RX2 D cA) (σ : St2) {Q : State → Prop} : ∀ (n : Nat) (x1 : Int32) (x2 : Int32) (q : Int32 × Int32), lp_X2_turnsTogether_4 σ n x1 x2 = some q → ∀ (H : Heap) (locs : List Loc) (ls : Array Slot), va_P D vwCl ([w2 cA a σ] : List va_W).flatten H → va_D A0 ([w2 cA a σ] : List va_W).flatten → va_S A0 H0 H locs → lv_has ls 3 [(0, .ref (a 0)), (1, .int x1), (2, .int x2)] → (∀ (H : Heap) (locs : List Loc) (ls : Array Slot), va_P D vwCl ([w2 cA a σ] : List va_W).flatten H → va_D A0 ([w2 cA a σ] : List va_W).flatten → va_S A0 H0 H locs → lv_has ls 3 [(0, .ref (a 0)), (1, .int q.1), (2, .int q.2)] → W p l e rmX2_turnsTogether s m args below meth c H locs 0 0 Q (F0 m 27 ls [])) → W p l e rmX2_turnsTogether s m args below meth c H locs 0 0 Q (F0 m 4 ls []) := by
  obtain ⟨hx, hb, hml, hown, hts, hr, hlk, hKK⟩ := id Z
  have hK := hKK.1
  intro n
  induction n with
  | zero =>
    intro x1 x2 q h
    rw [lp_X2_turnsTogether_4] at h
    cases h
  | succ n ih =>
    intro x1 x2 q h H locs ls hP hD hS hl kk
    rw [lp_X2_turnsTogether_4] at h
    refine lv_iload_n hx hb dX2_turnsTogether_4 rfl (lv_at hl 2 rfl) ?_
    refine lv_aload_n hx hb dX2_turnsTogether_5 rfl (lv_at hl 0 rfl) ?_
    refine va_get (D := D) (ci := 2) (v := .int (p2_size σ)) (C := RX2) (T := TX2) (N := 7) hx hb hts in_X2_turnsTogether_X2 hown hK hP 0 rfl rfl 0 (by decide) (hts _ lk_X2_turnsTogether_9) (fun _ h9 => h9) rfl dX2_turnsTogether_6 ?_
    refine lv_icmp_ge (tgt := 27) hx hb dX2_turnsTogether_9 (by decide) (fun hc1 => ?_) (fun hc1 => ?_)
    · rw [if_pos hc1] at h
      have h := Option.some.inj h
      subst h
      exact kk _ _ _ hP hD hS (lv_sub hl [0, 1, 2] rfl)
    · rw [if_neg hc1] at h
      refine lv_iload_n hx hb dX2_turnsTogether_12 rfl (lv_at hl 1 rfl) ?_
      refine lv_aload_n hx hb dX2_turnsTogether_13 rfl (lv_at hl 0 rfl) ?_
      refine va_get (D := D) (ci := 2) (v := .ref (a 2)) (C := RX2) (T := TX2) (N := 7) hx hb hts in_X2_turnsTogether_X2 hown hK hP 0 rfl rfl 2 (by decide) (hts _ lk_X2_turnsTogether_19) (fun _ h9 => h9) rfl dX2_turnsTogether_14 ?_
      refine lv_iload_n hx hb dX2_turnsTogether_17 rfl (lv_at hl 2 rfl) ?_
      obtain ⟨hg2, h⟩ := if_inv h
      refine va_iald hx hb hK hP 2 0 rfl rfl (inB_in hg2) dX2_turnsTogether_18 ?_
      refine lv_iadd hx hb dX2_turnsTogether_19 ?_
      refine lv_istore_n (lv' := [(1, .int (x1 + ((p2_turns σ) x2.toNatClampNeg))), (0, .ref (a 0)), (2, .int x2)]) hx hb dX2_turnsTogether_20 rfl hl (by decide) rfl (fun ls hl => ?_)
      refine lv_iinc (v := x2 + 1) (lv' := [(2, .int (x2 + 1)), (1, .int (x1 + ((p2_turns σ) x2.toNatClampNeg))), (0, .ref (a 0))]) hx hb dX2_turnsTogether_21 hl (k := 2) rfl rfl (by decide) rfl (fun ls hl => ?_)
      refine lv_goto (tgt := 4) hx hb dX2_turnsTogether_24 (by decide) ?_
      exact ih _ _ _ h _ _ _ hP hD hS (lv_sub hl [2, 1, 0] rfl) kk
set_option maxHeartbeats 4000000 in
set_option maxRecDepth 100000 in
theorem c_X2_turnsTogether (l : Launch) (D : va_G) (cA : Nat → ClassId) (a : Nat → Nat) (σ : St2) (res : Int32) (h : f_X2_turnsTogether σ = some res) : CT l D cA yX2_turnsTogether wsX2_turnsTogether rmX2_turnsTogether [.ref (a 0)] [w2 cA a σ] [w2 cA a σ] (some (.int res)) := by
  refine CT.start (cc := cX2_turnsTogether) (maxL := 3) (ret := (some .int)) (by decide) rfl (Nat.le_of_ble_eq_true rfl) ?_
  intro p e s m below meth c Z hP hD hS ls hl
  have Z : Cx p s m _ meth c cX2_turnsTogether 3 (some .int) wsX2_turnsTogether RX2 D cA := Z
  have hl : lv_has ls 3 [(0, .ref (a 0))] := hl
  obtain ⟨hx, hb, hml, hown, hts, hr, hlk, hKK⟩ := id Z
  have hK := hKK.1
  rw [f_X2_turnsTogether] at h
  refine lv_iconst (v := 0) hx hb dX2_turnsTogether_0 (by decide) ?_
  refine lv_istore_n (lv' := [(1, .int 0), (0, .ref (a 0))]) hx hb dX2_turnsTogether_1 rfl hl (by decide) rfl (fun ls hl => ?_)
  refine lv_iconst (v := 0) hx hb dX2_turnsTogether_2 (by decide) ?_
  refine lv_istore_n (lv' := [(2, .int 0), (1, .int 0), (0, .ref (a 0))]) hx hb dX2_turnsTogether_3 rfl hl (by decide) rfl (fun ls hl => ?_)
  obtain ⟨q3, hq3, h⟩ := bind_inv h
  refine t_X2_turnsTogether_4 Z σ FU _ _ _ hq3 _ _ _ hP hD hS (lv_sub hl [2, 1, 0] rfl) (fun H locs ls hP hD hS hl => ?_)
  refine lv_iload_n hx hb dX2_turnsTogether_27 rfl (lv_at hl 1 rfl) ?_
  have h := Option.some.inj h
  subst h
  exact CT.iret Z hP hD hS dX2_turnsTogether_28

-- X2.hasTurnsOf
theorem lk_X2_hasTurnsOf_9 : Cond.fieldLink RX2 9 "KeyedFeelings$People" "size" "I" ∈ wsX2_hasTurnsOf := by decide +kernel
theorem in_X2_hasTurnsOf_X2 : ∀ w ∈ wsX20, w ∈ wsX2_hasTurnsOf := by decide +kernel
theorem lk_X2_hasTurnsOf_19 : Cond.fieldLink RX2 19 "KeyedFeelings$People" "turns" "[I" ∈ wsX2_hasTurnsOf := by decide +kernel
noncomputable def lp_X2_hasTurnsOf_2 (σ : St2) (τ : St2) : Nat → Int32 → Option (Int32)
  | 0, _ => none
  | n + 1, x2 => (if (p2_size σ) ≤ x2 then some 1 else (if inB x2 6 = true then (if inB x2 6 = true then (if ((p2_turns σ) x2.toNatClampNeg) = ((p2_turns τ) x2.toNatClampNeg) then lp_X2_hasTurnsOf_2 σ τ n (x2 + 1) else some 0) else none) else none))
noncomputable def f_X2_hasTurnsOf (σ : St2) (τ : St2) : Option (Int32) := lp_X2_hasTurnsOf_2 σ τ FU 0
noncomputable def rmX2_hasTurnsOf : Room := { frames := 0, cells := 0, slots := 0, locals := 0 }
set_option maxHeartbeats 4000000 in
set_option maxRecDepth 100000 in
theorem t_X2_hasTurnsOf_2 {p : Program} {l : Launch} {e : Env} {s : State} {m : MethodId} {args : Array Value} {below : List Frame} {meth : Method} {c : Code} {D : va_G} {cA : Nat → ClassId} {a : Nat → Nat} {b : Nat → Nat} (Z : Cx p s m args meth c cX2_hasTurnsOf 3 (some .boolean) wsX2_hasTurnsOf RX2 D cA) (σ : St2) (τ : St2) {cs : List va_W} : ∀ (n : Nat) (x2 : Int32) (q : Int32), lp_X2_hasTurnsOf_2 σ τ n x2 = some q → ∀ (H : Heap) (locs : List Loc) (ls : Array Slot), va_P D vwCl ([w2 cA a σ, w2 cA b τ] : List va_W).flatten H → va_D (aIn cs.flatten) ([w2 cA a σ, w2 cA b τ] : List va_W).flatten → va_S (aIn cs.flatten) s.heap H locs → lv_has ls 3 [(0, .ref (a 0)), (1, .ref (b 0)), (2, .int x2)] → W p l e rmX2_hasTurnsOf s m args below meth c H locs 0 0 (MQ below (QR D cs [w2 cA a σ, w2 cA b τ] (some (.int q))) args s 0 0 (aIn cs.flatten)) (F0 m 2 ls []) := by
  obtain ⟨hx, hb, hml, hown, hts, hr, hlk, hKK⟩ := id Z
  have hK := hKK.1
  intro n
  induction n with
  | zero =>
    intro x2 q h
    rw [lp_X2_hasTurnsOf_2] at h
    cases h
  | succ n ih =>
    intro x2 q h H locs ls hP hD hS hl 
    rw [lp_X2_hasTurnsOf_2] at h
    refine lv_iload_n hx hb dX2_hasTurnsOf_2 rfl (lv_at hl 2 rfl) ?_
    refine lv_aload_n hx hb dX2_hasTurnsOf_3 rfl (lv_at hl 0 rfl) ?_
    refine va_get (D := D) (ci := 2) (v := .int (p2_size σ)) (C := RX2) (T := TX2) (N := 7) hx hb hts in_X2_hasTurnsOf_X2 hown hK hP 0 rfl rfl 0 (by decide) (hts _ lk_X2_hasTurnsOf_9) (fun _ h9 => h9) rfl dX2_hasTurnsOf_4 ?_
    refine lv_icmp_ge (tgt := 33) hx hb dX2_hasTurnsOf_7 (by decide) (fun hc1 => ?_) (fun hc1 => ?_)
    · rw [if_pos hc1] at h
      refine lv_iconst (v := 1) hx hb dX2_hasTurnsOf_33 (by decide) ?_
      have h := Option.some.inj h
      subst h
      exact CT.zret Z (nar_bool (Or.inr rfl)) hP hD hS dX2_hasTurnsOf_34
    · rw [if_neg hc1] at h
      refine lv_aload_n hx hb dX2_hasTurnsOf_10 rfl (lv_at hl 0 rfl) ?_
      refine va_get (D := D) (ci := 2) (v := .ref (a 2)) (C := RX2) (T := TX2) (N := 7) hx hb hts in_X2_hasTurnsOf_X2 hown hK hP 0 rfl rfl 2 (by decide) (hts _ lk_X2_hasTurnsOf_19) (fun _ h9 => h9) rfl dX2_hasTurnsOf_11 ?_
      refine lv_iload_n hx hb dX2_hasTurnsOf_14 rfl (lv_at hl 2 rfl) ?_
      obtain ⟨hg2, h⟩ := if_inv h
      refine va_iald hx hb hK hP 2 0 rfl rfl (inB_in hg2) dX2_hasTurnsOf_15 ?_
      refine lv_aload_n hx hb dX2_hasTurnsOf_16 rfl (lv_at hl 1 rfl) ?_
      refine va_get (D := D) (ci := 2) (v := .ref (b 2)) (C := RX2) (T := TX2) (N := 7) hx hb hts in_X2_hasTurnsOf_X2 hown hK hP 5 rfl rfl 2 (by decide) (hts _ lk_X2_hasTurnsOf_19) (fun _ h9 => h9) rfl dX2_hasTurnsOf_17 ?_
      refine lv_iload_n hx hb dX2_hasTurnsOf_20 rfl (lv_at hl 2 rfl) ?_
      obtain ⟨hg3, h⟩ := if_inv h
      refine va_iald hx hb hK hP 7 0 rfl rfl (inB_in hg3) dX2_hasTurnsOf_21 ?_
      refine lv_icmp_eq (tgt := 27) hx hb dX2_hasTurnsOf_22 (by decide) (fun hc4 => ?_) (fun hc4 => ?_)
      · rw [if_pos hc4] at h
        refine lv_iinc (v := x2 + 1) (lv' := [(2, .int (x2 + 1)), (0, .ref (a 0)), (1, .ref (b 0))]) hx hb dX2_hasTurnsOf_27 hl (k := 2) rfl rfl (by decide) rfl (fun ls hl => ?_)
        refine lv_goto (tgt := 2) hx hb dX2_hasTurnsOf_30 (by decide) ?_
        exact ih _ _ h _ _ _ hP hD hS (lv_sub hl [1, 2, 0] rfl)
      · rw [if_neg hc4] at h
        refine lv_iconst (v := 0) hx hb dX2_hasTurnsOf_25 (by decide) ?_
        have h := Option.some.inj h
        subst h
        exact CT.zret Z (nar_bool (Or.inl rfl)) hP hD hS dX2_hasTurnsOf_26
set_option maxHeartbeats 4000000 in
set_option maxRecDepth 100000 in
theorem c_X2_hasTurnsOf (l : Launch) (D : va_G) (cA : Nat → ClassId) (a : Nat → Nat) (b : Nat → Nat) (σ : St2) (τ : St2) (res : Int32) (h : f_X2_hasTurnsOf σ τ = some res) : CT l D cA yX2_hasTurnsOf wsX2_hasTurnsOf rmX2_hasTurnsOf [.ref (a 0), .ref (b 0)] [w2 cA a σ, w2 cA b τ] [w2 cA a σ, w2 cA b τ] (some (.int res)) := by
  refine CT.start (cc := cX2_hasTurnsOf) (maxL := 3) (ret := (some .boolean)) (by decide) rfl (Nat.le_of_ble_eq_true rfl) ?_
  intro p e s m below meth c Z hP hD hS ls hl
  have Z : Cx p s m _ meth c cX2_hasTurnsOf 3 (some .boolean) wsX2_hasTurnsOf RX2 D cA := Z
  have hl : lv_has ls 3 [(0, .ref (a 0)), (1, .ref (b 0))] := hl
  obtain ⟨hx, hb, hml, hown, hts, hr, hlk, hKK⟩ := id Z
  have hK := hKK.1
  rw [f_X2_hasTurnsOf] at h
  refine lv_iconst (v := 0) hx hb dX2_hasTurnsOf_0 (by decide) ?_
  refine lv_istore_n (lv' := [(2, .int 0), (0, .ref (a 0)), (1, .ref (b 0))]) hx hb dX2_hasTurnsOf_1 rfl hl (by decide) rfl (fun ls hl => ?_)
  exact t_X2_hasTurnsOf_2 Z σ τ FU _ _ h _ _ _ hP hD hS (lv_sub hl [1, 2, 0] rfl)

-- X2.woundBy
theorem lk_X2_woundBy_9 : Cond.fieldLink RX2 9 "KeyedFeelings$People" "size" "I" ∈ wsX2_woundBy := by decide +kernel
theorem in_X2_woundBy_X2 : ∀ w ∈ wsX20, w ∈ wsX2_woundBy := by decide +kernel
theorem lk_X2_woundBy_22 : Cond.fieldLink RX2 22 "KeyedFeelings$People" "winds" "[I" ∈ wsX2_woundBy := by decide +kernel
noncomputable def lp_X2_woundBy_4 (σ : St2) (x1 : Int32) : Nat → Int32 → Int32 → Option (Int32 × Int32)
  | 0, _, _ => none
  | n + 1, x2, x3 => (if (p2_size σ) ≤ x3 then some (x2, x3) else (if inB x3 6 = true then (if ((p2_winds σ) x3.toNatClampNeg) = x1 then lp_X2_woundBy_4 σ x1 n (x2 ||| (1 <<< (x3 &&& 31))) (x3 + 1) else lp_X2_woundBy_4 σ x1 n (x2 ||| 0) (x3 + 1)) else none))
noncomputable def f_X2_woundBy (σ : St2) (x1 : Int32) : Option (Int32) := ((lp_X2_woundBy_4 σ x1 FU 0 0).bind (fun q4 => some q4.1))
noncomputable def rmX2_woundBy : Room := { frames := 0, cells := 0, slots := 0, locals := 0 }
set_option maxHeartbeats 4000000 in
set_option maxRecDepth 100000 in
theorem t_X2_woundBy_4 {p : Program} {l : Launch} {e : Env} {s : State} {m : MethodId} {args : Array Value} {below : List Frame} {meth : Method} {c : Code} {D : va_G} {cA : Nat → ClassId} {A0 : Nat → Prop} {H0 : Heap} {a : Nat → Nat} (Z : Cx p s m args meth c cX2_woundBy 4 (some .int) wsX2_woundBy RX2 D cA) (σ : St2) (x1 : Int32) {Q : State → Prop} : ∀ (n : Nat) (x2 : Int32) (x3 : Int32) (q : Int32 × Int32), lp_X2_woundBy_4 σ x1 n x2 x3 = some q → ∀ (H : Heap) (locs : List Loc) (ls : Array Slot), va_P D vwCl ([w2 cA a σ] : List va_W).flatten H → va_D A0 ([w2 cA a σ] : List va_W).flatten → va_S A0 H0 H locs → lv_has ls 4 [(0, .ref (a 0)), (1, .int x1), (2, .int x2), (3, .int x3)] → (∀ (H : Heap) (locs : List Loc) (ls : Array Slot), va_P D vwCl ([w2 cA a σ] : List va_W).flatten H → va_D A0 ([w2 cA a σ] : List va_W).flatten → va_S A0 H0 H locs → lv_has ls 4 [(0, .ref (a 0)), (1, .int x1), (2, .int q.1), (3, .int q.2)] → W p l e rmX2_woundBy s m args below meth c H locs 0 0 Q (F0 m 38 ls [])) → W p l e rmX2_woundBy s m args below meth c H locs 0 0 Q (F0 m 4 ls []) := by
  obtain ⟨hx, hb, hml, hown, hts, hr, hlk, hKK⟩ := id Z
  have hK := hKK.1
  intro n
  induction n with
  | zero =>
    intro x2 x3 q h
    rw [lp_X2_woundBy_4] at h
    cases h
  | succ n ih =>
    intro x2 x3 q h H locs ls hP hD hS hl kk
    rw [lp_X2_woundBy_4] at h
    refine lv_iload_n hx hb dX2_woundBy_4 rfl (lv_at hl 3 rfl) ?_
    refine lv_aload_n hx hb dX2_woundBy_5 rfl (lv_at hl 0 rfl) ?_
    refine va_get (D := D) (ci := 2) (v := .int (p2_size σ)) (C := RX2) (T := TX2) (N := 7) hx hb hts in_X2_woundBy_X2 hown hK hP 0 rfl rfl 0 (by decide) (hts _ lk_X2_woundBy_9) (fun _ h9 => h9) rfl dX2_woundBy_6 ?_
    refine lv_icmp_ge (tgt := 38) hx hb dX2_woundBy_9 (by decide) (fun hc1 => ?_) (fun hc1 => ?_)
    · rw [if_pos hc1] at h
      have h := Option.some.inj h
      subst h
      exact kk _ _ _ hP hD hS (lv_sub hl [0, 1, 2, 3] rfl)
    · rw [if_neg hc1] at h
      refine lv_iload_n hx hb dX2_woundBy_12 rfl (lv_at hl 2 rfl) ?_
      refine lv_aload_n hx hb dX2_woundBy_13 rfl (lv_at hl 0 rfl) ?_
      refine va_get (D := D) (ci := 2) (v := .ref (a 3)) (C := RX2) (T := TX2) (N := 7) hx hb hts in_X2_woundBy_X2 hown hK hP 0 rfl rfl 3 (by decide) (hts _ lk_X2_woundBy_22) (fun _ h9 => h9) rfl dX2_woundBy_14 ?_
      refine lv_iload_n hx hb dX2_woundBy_17 rfl (lv_at hl 3 rfl) ?_
      obtain ⟨hg2, h⟩ := if_inv h
      refine va_iald hx hb hK hP 3 0 rfl rfl (inB_in hg2) dX2_woundBy_18 ?_
      refine lv_iload_n hx hb dX2_woundBy_19 rfl (lv_at hl 1 rfl) ?_
      refine lv_icmp_ne (tgt := 29) hx hb dX2_woundBy_20 (by decide) (fun hc3 => ?_) (fun hc3 => ?_)
      · rw [if_neg hc3] at h
        refine lv_iconst (v := 0) hx hb dX2_woundBy_29 (by decide) ?_
        refine lv_ior hx hb dX2_woundBy_30 ?_
        refine lv_istore_n (lv' := [(2, .int (x2 ||| 0)), (0, .ref (a 0)), (1, .int x1), (3, .int x3)]) hx hb dX2_woundBy_31 rfl hl (by decide) rfl (fun ls hl => ?_)
        refine lv_iinc (v := x3 + 1) (lv' := [(3, .int (x3 + 1)), (2, .int (x2 ||| 0)), (0, .ref (a 0)), (1, .int x1)]) hx hb dX2_woundBy_32 hl (k := 3) rfl rfl (by decide) rfl (fun ls hl => ?_)
        refine lv_goto (tgt := 4) hx hb dX2_woundBy_35 (by decide) ?_
        exact ih _ _ _ h _ _ _ hP hD hS (lv_sub hl [2, 3, 1, 0] rfl) kk
      · rw [if_pos hc3] at h
        refine lv_iconst (v := 1) hx hb dX2_woundBy_23 (by decide) ?_
        refine lv_iload_n hx hb dX2_woundBy_24 rfl (lv_at hl 3 rfl) ?_
        refine lv_ishl hx hb dX2_woundBy_25 ?_
        refine lv_goto (tgt := 30) hx hb dX2_woundBy_26 (by decide) ?_
        refine lv_ior hx hb dX2_woundBy_30 ?_
        refine lv_istore_n (lv' := [(2, .int (x2 ||| (1 <<< (x3 &&& 31)))), (0, .ref (a 0)), (1, .int x1), (3, .int x3)]) hx hb dX2_woundBy_31 rfl hl (by decide) rfl (fun ls hl => ?_)
        refine lv_iinc (v := x3 + 1) (lv' := [(3, .int (x3 + 1)), (2, .int (x2 ||| (1 <<< (x3 &&& 31)))), (0, .ref (a 0)), (1, .int x1)]) hx hb dX2_woundBy_32 hl (k := 3) rfl rfl (by decide) rfl (fun ls hl => ?_)
        refine lv_goto (tgt := 4) hx hb dX2_woundBy_35 (by decide) ?_
        exact ih _ _ _ h _ _ _ hP hD hS (lv_sub hl [2, 3, 1, 0] rfl) kk
set_option maxHeartbeats 4000000 in
set_option maxRecDepth 100000 in
theorem c_X2_woundBy (l : Launch) (D : va_G) (cA : Nat → ClassId) (a : Nat → Nat) (σ : St2) (x1 : Int32) (res : Int32) (h : f_X2_woundBy σ x1 = some res) : CT l D cA yX2_woundBy wsX2_woundBy rmX2_woundBy [.ref (a 0), .int x1] [w2 cA a σ] [w2 cA a σ] (some (.int res)) := by
  refine CT.start (cc := cX2_woundBy) (maxL := 4) (ret := (some .int)) (by decide) rfl (Nat.le_of_ble_eq_true rfl) ?_
  intro p e s m below meth c Z hP hD hS ls hl
  have Z : Cx p s m _ meth c cX2_woundBy 4 (some .int) wsX2_woundBy RX2 D cA := Z
  have hl : lv_has ls 4 [(0, .ref (a 0)), (1, .int x1)] := hl
  obtain ⟨hx, hb, hml, hown, hts, hr, hlk, hKK⟩ := id Z
  have hK := hKK.1
  rw [f_X2_woundBy] at h
  refine lv_iconst (v := 0) hx hb dX2_woundBy_0 (by decide) ?_
  refine lv_istore_n (lv' := [(2, .int 0), (0, .ref (a 0)), (1, .int x1)]) hx hb dX2_woundBy_1 rfl hl (by decide) rfl (fun ls hl => ?_)
  refine lv_iconst (v := 0) hx hb dX2_woundBy_2 (by decide) ?_
  refine lv_istore_n (lv' := [(3, .int 0), (2, .int 0), (0, .ref (a 0)), (1, .int x1)]) hx hb dX2_woundBy_3 rfl hl (by decide) rfl (fun ls hl => ?_)
  obtain ⟨q4, hq4, h⟩ := bind_inv h
  refine t_X2_woundBy_4 Z σ x1 FU _ _ _ hq4 _ _ _ hP hD hS (lv_sub hl [2, 3, 1, 0] rfl) (fun H locs ls hP hD hS hl => ?_)
  refine lv_iload_n hx hb dX2_woundBy_38 rfl (lv_at hl 2 rfl) ?_
  have h := Option.some.inj h
  subst h
  exact CT.iret Z hP hD hS dX2_woundBy_39

-- X2.without
theorem lk_X2_without_9 : Cond.fieldLink RX2 9 "KeyedFeelings$People" "size" "I" ∈ wsX2_without := by decide +kernel
theorem in_X2_without_X2 : ∀ w ∈ wsX20, w ∈ wsX2_without := by decide +kernel
noncomputable def lp_X2_without_4 (σ : St2) : Nat → Int32 → Int32 → Option (Int32 × Int32)
  | 0, _, _ => none
  | n + 1, x1, x2 => (if (p2_size σ) ≤ x2 then some (x1, x2) else ((f_X2_woundBy σ x2).bind (fun r2 => (if r2 = 0 then lp_X2_without_4 σ n (x1 + 1) (x2 + 1) else lp_X2_without_4 σ n (x1 + 0) (x2 + 1)))))
noncomputable def f_X2_without (σ : St2) : Option (Int32) := ((lp_X2_without_4 σ FU 0 0).bind (fun q4 => some q4.1))
noncomputable def rmX2_without : Room := { frames := 1, cells := 0, slots := 0, locals := 23 }
set_option maxHeartbeats 4000000 in
set_option maxRecDepth 100000 in
theorem t_X2_without_4 {p : Program} {l : Launch} {e : Env} {s : State} {m : MethodId} {args : Array Value} {below : List Frame} {meth : Method} {c : Code} {D : va_G} {cA : Nat → ClassId} {A0 : Nat → Prop} {H0 : Heap} {a : Nat → Nat} (Z : Cx p s m args meth c cX2_without 3 (some .int) wsX2_without RX2 D cA) (σ : St2) {Q : State → Prop} : ∀ (n : Nat) (x1 : Int32) (x2 : Int32) (q : Int32 × Int32), lp_X2_without_4 σ n x1 x2 = some q → ∀ (H : Heap) (locs : List Loc) (ls : Array Slot), va_P D vwCl ([w2 cA a σ] : List va_W).flatten H → va_D A0 ([w2 cA a σ] : List va_W).flatten → va_S A0 H0 H locs → lv_has ls 3 [(0, .ref (a 0)), (1, .int x1), (2, .int x2)] → (∀ (H : Heap) (locs : List Loc) (ls : Array Slot), va_P D vwCl ([w2 cA a σ] : List va_W).flatten H → va_D A0 ([w2 cA a σ] : List va_W).flatten → va_S A0 H0 H locs → lv_has ls 3 [(0, .ref (a 0)), (1, .int q.1), (2, .int q.2)] → W p l e rmX2_without s m args below meth c H locs 0 0 Q (F0 m 34 ls [])) → W p l e rmX2_without s m args below meth c H locs 0 0 Q (F0 m 4 ls []) := by
  obtain ⟨hx, hb, hml, hown, hts, hr, hlk, hKK⟩ := id Z
  have hK := hKK.1
  intro n
  induction n with
  | zero =>
    intro x1 x2 q h
    rw [lp_X2_without_4] at h
    cases h
  | succ n ih =>
    intro x1 x2 q h H locs ls hP hD hS hl kk
    rw [lp_X2_without_4] at h
    refine lv_iload_n hx hb dX2_without_4 rfl (lv_at hl 2 rfl) ?_
    refine lv_aload_n hx hb dX2_without_5 rfl (lv_at hl 0 rfl) ?_
    refine va_get (D := D) (ci := 2) (v := .int (p2_size σ)) (C := RX2) (T := TX2) (N := 7) hx hb hts in_X2_without_X2 hown hK hP 0 rfl rfl 0 (by decide) (hts _ lk_X2_without_9) (fun _ h9 => h9) rfl dX2_without_6 ?_
    refine lv_icmp_ge (tgt := 34) hx hb dX2_without_9 (by decide) (fun hc1 => ?_) (fun hc1 => ?_)
    · rw [if_pos hc1] at h
      have h := Option.some.inj h
      subst h
      exact kk _ _ _ hP hD hS (lv_sub hl [0, 1, 2] rfl)
    · rw [if_neg hc1] at h
      refine lv_iload_n hx hb dX2_without_12 rfl (lv_at hl 1 rfl) ?_
      refine lv_aload_n hx hb dX2_without_13 rfl (lv_at hl 0 rfl) ?_
      refine lv_iload_n hx hb dX2_without_14 rfl (lv_at hl 2 rfl) ?_
      obtain ⟨r2, hr2, h⟩ := bind_inv h
      refine kV (rest := [.int x1]) (st1 := [.int r2, .int x1]) (cr := []) (cs' := [w2 cA a σ]) Z (c_X2_woundBy l D cA a σ x2 r2 hr2) 1 gX2_without_X2_woundBy rfl hdX2_woundBy ⟨rfl, rfl⟩ ⟨Nat.le_of_ble_eq_true rfl, Nat.le_of_ble_eq_true rfl⟩ ⟨Nat.zero_le _, Nat.zero_le _⟩ hP hD hS hl.1 rfl rfl rfl (Nat.le_of_ble_eq_true rfl) 2 rfl rfl rfl [0] [] [0] rfl rfl rfl rfl rfl dX2_without_15 (fun H locs hP hD hS => ?_)
      refine lv_if_ne (tgt := 25) hx hb dX2_without_18 (by decide) (fun hc3 => ?_) (fun hc3 => ?_)
      · rw [if_neg hc3] at h
        refine lv_iconst (v := 0) hx hb dX2_without_25 (by decide) ?_
        refine lv_iadd hx hb dX2_without_26 ?_
        refine lv_istore_n (lv' := [(1, .int (x1 + 0)), (0, .ref (a 0)), (2, .int x2)]) hx hb dX2_without_27 rfl hl (by decide) rfl (fun ls hl => ?_)
        refine lv_iinc (v := x2 + 1) (lv' := [(2, .int (x2 + 1)), (1, .int (x1 + 0)), (0, .ref (a 0))]) hx hb dX2_without_28 hl (k := 2) rfl rfl (by decide) rfl (fun ls hl => ?_)
        refine lv_goto (tgt := 4) hx hb dX2_without_31 (by decide) ?_
        exact ih _ _ _ h _ _ _ hP hD hS (lv_sub hl [2, 1, 0] rfl) kk
      · rw [if_pos hc3] at h
        refine lv_iconst (v := 1) hx hb dX2_without_21 (by decide) ?_
        refine lv_goto (tgt := 26) hx hb dX2_without_22 (by decide) ?_
        refine lv_iadd hx hb dX2_without_26 ?_
        refine lv_istore_n (lv' := [(1, .int (x1 + 1)), (0, .ref (a 0)), (2, .int x2)]) hx hb dX2_without_27 rfl hl (by decide) rfl (fun ls hl => ?_)
        refine lv_iinc (v := x2 + 1) (lv' := [(2, .int (x2 + 1)), (1, .int (x1 + 1)), (0, .ref (a 0))]) hx hb dX2_without_28 hl (k := 2) rfl rfl (by decide) rfl (fun ls hl => ?_)
        refine lv_goto (tgt := 4) hx hb dX2_without_31 (by decide) ?_
        exact ih _ _ _ h _ _ _ hP hD hS (lv_sub hl [2, 1, 0] rfl) kk
set_option maxHeartbeats 4000000 in
set_option maxRecDepth 100000 in
theorem c_X2_without (l : Launch) (D : va_G) (cA : Nat → ClassId) (a : Nat → Nat) (σ : St2) (res : Int32) (h : f_X2_without σ = some res) : CT l D cA yX2_without wsX2_without rmX2_without [.ref (a 0)] [w2 cA a σ] [w2 cA a σ] (some (.int res)) := by
  refine CT.start (cc := cX2_without) (maxL := 3) (ret := (some .int)) (by decide) rfl (Nat.le_of_ble_eq_true rfl) ?_
  intro p e s m below meth c Z hP hD hS ls hl
  have Z : Cx p s m _ meth c cX2_without 3 (some .int) wsX2_without RX2 D cA := Z
  have hl : lv_has ls 3 [(0, .ref (a 0))] := hl
  obtain ⟨hx, hb, hml, hown, hts, hr, hlk, hKK⟩ := id Z
  have hK := hKK.1
  rw [f_X2_without] at h
  refine lv_iconst (v := 0) hx hb dX2_without_0 (by decide) ?_
  refine lv_istore_n (lv' := [(1, .int 0), (0, .ref (a 0))]) hx hb dX2_without_1 rfl hl (by decide) rfl (fun ls hl => ?_)
  refine lv_iconst (v := 0) hx hb dX2_without_2 (by decide) ?_
  refine lv_istore_n (lv' := [(2, .int 0), (1, .int 0), (0, .ref (a 0))]) hx hb dX2_without_3 rfl hl (by decide) rfl (fun ls hl => ?_)
  obtain ⟨q4, hq4, h⟩ := bind_inv h
  refine t_X2_without_4 Z σ FU _ _ _ hq4 _ _ _ hP hD hS (lv_sub hl [2, 1, 0] rfl) (fun H locs ls hP hD hS hl => ?_)
  refine lv_iload_n hx hb dX2_without_34 rfl (lv_at hl 1 rfl) ?_
  have h := Option.some.inj h
  subst h
  exact CT.iret Z hP hD hS dX2_without_35

-- X2.behind
theorem lk_X2_behind_9 : Cond.fieldLink RX2 9 "KeyedFeelings$People" "size" "I" ∈ wsX2_behind := by decide +kernel
theorem in_X2_behind_X2 : ∀ w ∈ wsX20, w ∈ wsX2_behind := by decide +kernel
theorem lk_X2_behind_22 : Cond.fieldLink RX2 22 "KeyedFeelings$People" "winds" "[I" ∈ wsX2_behind := by decide +kernel
noncomputable def lp_X2_behind_7 (σ : St2) : Nat → Int32 → Int32 → Int32 → Option (Int32 × Int32 × Int32)
  | 0, _, _, _ => none
  | n + 1, x2, x3, x4 => (if (p2_size σ) ≤ x4 then some (x2, x3, x4) else (if inB x3 6 = true then ((f_X2_has σ ((p2_winds σ) x3.toNatClampNeg)).bind (fun r3 => (if r3 = 0 then some (x2, x3, x4) else (if inB x3 6 = true then lp_X2_behind_7 σ n (x2 ||| (1 <<< (((p2_winds σ) x3.toNatClampNeg) &&& 31))) ((p2_winds σ) x3.toNatClampNeg) (x4 + 1) else none)))) else none))
noncomputable def f_X2_behind (σ : St2) (x1 : Int32) : Option (Int32) := ((lp_X2_behind_7 σ FU 0 x1 0).bind (fun q6 => some q6.1))
noncomputable def rmX2_behind : Room := { frames := 1, cells := 0, slots := 0, locals := 21 }
set_option maxHeartbeats 4000000 in
set_option maxRecDepth 100000 in
theorem t_X2_behind_7 {p : Program} {l : Launch} {e : Env} {s : State} {m : MethodId} {args : Array Value} {below : List Frame} {meth : Method} {c : Code} {D : va_G} {cA : Nat → ClassId} {A0 : Nat → Prop} {H0 : Heap} {a : Nat → Nat} (Z : Cx p s m args meth c cX2_behind 5 (some .int) wsX2_behind RX2 D cA) (σ : St2) {Q : State → Prop} : ∀ (n : Nat) (x2 : Int32) (x3 : Int32) (x4 : Int32) (q : Int32 × Int32 × Int32), lp_X2_behind_7 σ n x2 x3 x4 = some q → ∀ (H : Heap) (locs : List Loc) (ls : Array Slot), va_P D vwCl ([w2 cA a σ] : List va_W).flatten H → va_D A0 ([w2 cA a σ] : List va_W).flatten → va_S A0 H0 H locs → lv_has ls 5 [(0, .ref (a 0)), (2, .int x2), (3, .int x3), (4, .int x4)] → (∀ (H : Heap) (locs : List Loc) (ls : Array Slot), va_P D vwCl ([w2 cA a σ] : List va_W).flatten H → va_D A0 ([w2 cA a σ] : List va_W).flatten → va_S A0 H0 H locs → lv_has ls 5 [(0, .ref (a 0)), (2, .int q.1), (3, .int q.2.1), (4, .int q.2.2)] → W p l e rmX2_behind s m args below meth c H locs 0 0 Q (F0 m 48 ls [])) → W p l e rmX2_behind s m args below meth c H locs 0 0 Q (F0 m 7 ls []) := by
  obtain ⟨hx, hb, hml, hown, hts, hr, hlk, hKK⟩ := id Z
  have hK := hKK.1
  intro n
  induction n with
  | zero =>
    intro x2 x3 x4 q h
    rw [lp_X2_behind_7] at h
    cases h
  | succ n ih =>
    intro x2 x3 x4 q h H locs ls hP hD hS hl kk
    rw [lp_X2_behind_7] at h
    refine lv_iload hx hb dX2_behind_7 (lv_at hl 3 rfl) ?_
    refine lv_aload_n hx hb dX2_behind_9 rfl (lv_at hl 0 rfl) ?_
    refine va_get (D := D) (ci := 2) (v := .int (p2_size σ)) (C := RX2) (T := TX2) (N := 7) hx hb hts in_X2_behind_X2 hown hK hP 0 rfl rfl 0 (by decide) (hts _ lk_X2_behind_9) (fun _ h9 => h9) rfl dX2_behind_10 ?_
    refine lv_icmp_ge (tgt := 48) hx hb dX2_behind_13 (by decide) (fun hc1 => ?_) (fun hc1 => ?_)
    · rw [if_pos hc1] at h
      have h := Option.some.inj h
      subst h
      exact kk _ _ _ hP hD hS (lv_sub hl [0, 1, 2, 3] rfl)
    · rw [if_neg hc1] at h
      refine lv_aload_n hx hb dX2_behind_16 rfl (lv_at hl 0 rfl) ?_
      refine lv_aload_n hx hb dX2_behind_17 rfl (lv_at hl 0 rfl) ?_
      refine va_get (D := D) (ci := 2) (v := .ref (a 3)) (C := RX2) (T := TX2) (N := 7) hx hb hts in_X2_behind_X2 hown hK hP 0 rfl rfl 3 (by decide) (hts _ lk_X2_behind_22) (fun _ h9 => h9) rfl dX2_behind_18 ?_
      refine lv_iload_n hx hb dX2_behind_21 rfl (lv_at hl 2 rfl) ?_
      obtain ⟨hg2, h⟩ := if_inv h
      refine va_iald hx hb hK hP 3 0 rfl rfl (inB_in hg2) dX2_behind_22 ?_
      obtain ⟨r3, hr3, h⟩ := bind_inv h
      refine kV (rest := []) (st1 := [.int r3]) (cr := []) (cs' := [w2 cA a σ]) Z (c_X2_has l D cA a σ ((p2_winds σ) x3.toNatClampNeg) r3 hr3) 1 gX2_behind_X2_has rfl hdX2_has ⟨rfl, rfl⟩ ⟨Nat.le_of_ble_eq_true rfl, Nat.le_of_ble_eq_true rfl⟩ ⟨Nat.zero_le _, Nat.zero_le _⟩ hP hD hS hl.1 rfl rfl rfl (Nat.le_of_ble_eq_true rfl) 2 rfl rfl rfl [0] [] [0] rfl rfl rfl rfl rfl dX2_behind_23 (fun H locs hP hD hS => ?_)
      refine lv_if_eq (tgt := 48) hx hb dX2_behind_26 (by decide) (fun hc4 => ?_) (fun hc4 => ?_)
      · rw [if_pos hc4] at h
        have h := Option.some.inj h
        subst h
        exact kk _ _ _ hP hD hS (lv_sub hl [0, 1, 2, 3] rfl)
      · rw [if_neg hc4] at h
        refine lv_aload_n hx hb dX2_behind_29 rfl (lv_at hl 0 rfl) ?_
        refine va_get (D := D) (ci := 2) (v := .ref (a 3)) (C := RX2) (T := TX2) (N := 7) hx hb hts in_X2_behind_X2 hown hK hP 0 rfl rfl 3 (by decide) (hts _ lk_X2_behind_22) (fun _ h9 => h9) rfl dX2_behind_30 ?_
        refine lv_iload_n hx hb dX2_behind_33 rfl (lv_at hl 2 rfl) ?_
        obtain ⟨hg5, h⟩ := if_inv h
        refine va_iald hx hb hK hP 3 0 rfl rfl (inB_in hg5) dX2_behind_34 ?_
        refine lv_istore_n (lv' := [(3, .int ((p2_winds σ) x3.toNatClampNeg)), (0, .ref (a 0)), (2, .int x2), (4, .int x4)]) hx hb dX2_behind_35 rfl hl (by decide) rfl (fun ls hl => ?_)
        refine lv_iload_n hx hb dX2_behind_36 rfl (lv_at hl 2 rfl) ?_
        refine lv_iconst (v := 1) hx hb dX2_behind_37 (by decide) ?_
        refine lv_iload_n hx hb dX2_behind_38 rfl (lv_at hl 0 rfl) ?_
        refine lv_ishl hx hb dX2_behind_39 ?_
        refine lv_ior hx hb dX2_behind_40 ?_
        refine lv_istore_n (lv' := [(2, .int (x2 ||| (1 <<< (((p2_winds σ) x3.toNatClampNeg) &&& 31)))), (3, .int ((p2_winds σ) x3.toNatClampNeg)), (0, .ref (a 0)), (4, .int x4)]) hx hb dX2_behind_41 rfl hl (by decide) rfl (fun ls hl => ?_)
        refine lv_iinc (v := x4 + 1) (lv' := [(4, .int (x4 + 1)), (2, .int (x2 ||| (1 <<< (((p2_winds σ) x3.toNatClampNeg) &&& 31)))), (3, .int ((p2_winds σ) x3.toNatClampNeg)), (0, .ref (a 0))]) hx hb dX2_behind_42 hl (k := 3) rfl rfl (by decide) rfl (fun ls hl => ?_)
        refine lv_goto (tgt := 7) hx hb dX2_behind_45 (by decide) ?_
        exact ih _ _ _ _ h _ _ _ hP hD hS (lv_sub hl [3, 1, 2, 0] rfl) kk
set_option maxHeartbeats 4000000 in
set_option maxRecDepth 100000 in
theorem c_X2_behind (l : Launch) (D : va_G) (cA : Nat → ClassId) (a : Nat → Nat) (σ : St2) (x1 : Int32) (res : Int32) (h : f_X2_behind σ x1 = some res) : CT l D cA yX2_behind wsX2_behind rmX2_behind [.ref (a 0), .int x1] [w2 cA a σ] [w2 cA a σ] (some (.int res)) := by
  refine CT.start (cc := cX2_behind) (maxL := 5) (ret := (some .int)) (by decide) rfl (Nat.le_of_ble_eq_true rfl) ?_
  intro p e s m below meth c Z hP hD hS ls hl
  have Z : Cx p s m _ meth c cX2_behind 5 (some .int) wsX2_behind RX2 D cA := Z
  have hl : lv_has ls 5 [(0, .ref (a 0)), (1, .int x1)] := hl
  obtain ⟨hx, hb, hml, hown, hts, hr, hlk, hKK⟩ := id Z
  have hK := hKK.1
  rw [f_X2_behind] at h
  refine lv_iconst (v := 0) hx hb dX2_behind_0 (by decide) ?_
  refine lv_istore_n (lv' := [(2, .int 0), (0, .ref (a 0)), (1, .int x1)]) hx hb dX2_behind_1 rfl hl (by decide) rfl (fun ls hl => ?_)
  refine lv_iload_n hx hb dX2_behind_2 rfl (lv_at hl 2 rfl) ?_
  refine lv_istore_n (lv' := [(3, .int x1), (2, .int 0), (0, .ref (a 0)), (1, .int x1)]) hx hb dX2_behind_3 rfl hl (by decide) rfl (fun ls hl => ?_)
  refine lv_iconst (v := 0) hx hb dX2_behind_4 (by decide) ?_
  refine lv_istore (lv' := [(4, .int 0), (3, .int x1), (2, .int 0), (0, .ref (a 0)), (1, .int x1)]) hx hb dX2_behind_5 hl (by decide) rfl (fun ls hl => ?_)
  obtain ⟨q6, hq6, h⟩ := bind_inv h
  refine t_X2_behind_7 Z σ FU _ _ _ _ hq6 _ _ _ hP hD hS (lv_sub hl [3, 2, 1, 0] rfl) (fun H locs ls hP hD hS hl => ?_)
  refine lv_iload_n hx hb dX2_behind_48 rfl (lv_at hl 1 rfl) ?_
  have h := Option.some.inj h
  subst h
  exact CT.iret Z hP hD hS dX2_behind_49

-- X2.ring
theorem lk_X2_ring_9 : Cond.fieldLink RX2 9 "KeyedFeelings$People" "size" "I" ∈ wsX2_ring := by decide +kernel
theorem in_X2_ring_X2 : ∀ w ∈ wsX20, w ∈ wsX2_ring := by decide +kernel
noncomputable def lp_X2_ring_4 (σ : St2) : Nat → Int32 → Int32 → Option (Int32 × Int32)
  | 0, _, _ => none
  | n + 1, x1, x2 => (if (p2_size σ) ≤ x2 then some (x1, x2) else ((f_X2_behind σ x2).bind (fun r2 => lp_X2_ring_4 σ n (x1 ||| (r2 &&& (1 <<< (x2 &&& 31)))) (x2 + 1))))
noncomputable def f_X2_ring (σ : St2) : Option (Int32) := ((lp_X2_ring_4 σ FU 0 0).bind (fun q3 => some q3.1))
noncomputable def rmX2_ring : Room := { frames := 2, cells := 0, slots := 0, locals := 45 }
set_option maxHeartbeats 4000000 in
set_option maxRecDepth 100000 in
theorem t_X2_ring_4 {p : Program} {l : Launch} {e : Env} {s : State} {m : MethodId} {args : Array Value} {below : List Frame} {meth : Method} {c : Code} {D : va_G} {cA : Nat → ClassId} {A0 : Nat → Prop} {H0 : Heap} {a : Nat → Nat} (Z : Cx p s m args meth c cX2_ring 3 (some .int) wsX2_ring RX2 D cA) (σ : St2) {Q : State → Prop} : ∀ (n : Nat) (x1 : Int32) (x2 : Int32) (q : Int32 × Int32), lp_X2_ring_4 σ n x1 x2 = some q → ∀ (H : Heap) (locs : List Loc) (ls : Array Slot), va_P D vwCl ([w2 cA a σ] : List va_W).flatten H → va_D A0 ([w2 cA a σ] : List va_W).flatten → va_S A0 H0 H locs → lv_has ls 3 [(0, .ref (a 0)), (1, .int x1), (2, .int x2)] → (∀ (H : Heap) (locs : List Loc) (ls : Array Slot), va_P D vwCl ([w2 cA a σ] : List va_W).flatten H → va_D A0 ([w2 cA a σ] : List va_W).flatten → va_S A0 H0 H locs → lv_has ls 3 [(0, .ref (a 0)), (1, .int q.1), (2, .int q.2)] → W p l e rmX2_ring s m args below meth c H locs 0 0 Q (F0 m 30 ls [])) → W p l e rmX2_ring s m args below meth c H locs 0 0 Q (F0 m 4 ls []) := by
  obtain ⟨hx, hb, hml, hown, hts, hr, hlk, hKK⟩ := id Z
  have hK := hKK.1
  intro n
  induction n with
  | zero =>
    intro x1 x2 q h
    rw [lp_X2_ring_4] at h
    cases h
  | succ n ih =>
    intro x1 x2 q h H locs ls hP hD hS hl kk
    rw [lp_X2_ring_4] at h
    refine lv_iload_n hx hb dX2_ring_4 rfl (lv_at hl 2 rfl) ?_
    refine lv_aload_n hx hb dX2_ring_5 rfl (lv_at hl 0 rfl) ?_
    refine va_get (D := D) (ci := 2) (v := .int (p2_size σ)) (C := RX2) (T := TX2) (N := 7) hx hb hts in_X2_ring_X2 hown hK hP 0 rfl rfl 0 (by decide) (hts _ lk_X2_ring_9) (fun _ h9 => h9) rfl dX2_ring_6 ?_
    refine lv_icmp_ge (tgt := 30) hx hb dX2_ring_9 (by decide) (fun hc1 => ?_) (fun hc1 => ?_)
    · rw [if_pos hc1] at h
      have h := Option.some.inj h
      subst h
      exact kk _ _ _ hP hD hS (lv_sub hl [0, 1, 2] rfl)
    · rw [if_neg hc1] at h
      refine lv_iload_n hx hb dX2_ring_12 rfl (lv_at hl 1 rfl) ?_
      refine lv_aload_n hx hb dX2_ring_13 rfl (lv_at hl 0 rfl) ?_
      refine lv_iload_n hx hb dX2_ring_14 rfl (lv_at hl 2 rfl) ?_
      obtain ⟨r2, hr2, h⟩ := bind_inv h
      refine kV (rest := [.int x1]) (st1 := [.int r2, .int x1]) (cr := []) (cs' := [w2 cA a σ]) Z (c_X2_behind l D cA a σ x2 r2 hr2) 1 gX2_ring_X2_behind rfl hdX2_behind ⟨rfl, rfl⟩ ⟨Nat.le_of_ble_eq_true rfl, Nat.le_of_ble_eq_true rfl⟩ ⟨Nat.zero_le _, Nat.zero_le _⟩ hP hD hS hl.1 rfl rfl rfl (Nat.le_of_ble_eq_true rfl) 2 rfl rfl rfl [0] [] [0] rfl rfl rfl rfl rfl dX2_ring_15 (fun H locs hP hD hS => ?_)
      refine lv_iconst (v := 1) hx hb dX2_ring_18 (by decide) ?_
      refine lv_iload_n hx hb dX2_ring_19 rfl (lv_at hl 2 rfl) ?_
      refine lv_ishl hx hb dX2_ring_20 ?_
      refine lv_iand hx hb dX2_ring_21 ?_
      refine lv_ior hx hb dX2_ring_22 ?_
      refine lv_istore_n (lv' := [(1, .int (x1 ||| (r2 &&& (1 <<< (x2 &&& 31))))), (0, .ref (a 0)), (2, .int x2)]) hx hb dX2_ring_23 rfl hl (by decide) rfl (fun ls hl => ?_)
      refine lv_iinc (v := x2 + 1) (lv' := [(2, .int (x2 + 1)), (1, .int (x1 ||| (r2 &&& (1 <<< (x2 &&& 31))))), (0, .ref (a 0))]) hx hb dX2_ring_24 hl (k := 2) rfl rfl (by decide) rfl (fun ls hl => ?_)
      refine lv_goto (tgt := 4) hx hb dX2_ring_27 (by decide) ?_
      exact ih _ _ _ h _ _ _ hP hD hS (lv_sub hl [2, 1, 0] rfl) kk
set_option maxHeartbeats 4000000 in
set_option maxRecDepth 100000 in
theorem c_X2_ring (l : Launch) (D : va_G) (cA : Nat → ClassId) (a : Nat → Nat) (σ : St2) (res : Int32) (h : f_X2_ring σ = some res) : CT l D cA yX2_ring wsX2_ring rmX2_ring [.ref (a 0)] [w2 cA a σ] [w2 cA a σ] (some (.int res)) := by
  refine CT.start (cc := cX2_ring) (maxL := 3) (ret := (some .int)) (by decide) rfl (Nat.le_of_ble_eq_true rfl) ?_
  intro p e s m below meth c Z hP hD hS ls hl
  have Z : Cx p s m _ meth c cX2_ring 3 (some .int) wsX2_ring RX2 D cA := Z
  have hl : lv_has ls 3 [(0, .ref (a 0))] := hl
  obtain ⟨hx, hb, hml, hown, hts, hr, hlk, hKK⟩ := id Z
  have hK := hKK.1
  rw [f_X2_ring] at h
  refine lv_iconst (v := 0) hx hb dX2_ring_0 (by decide) ?_
  refine lv_istore_n (lv' := [(1, .int 0), (0, .ref (a 0))]) hx hb dX2_ring_1 rfl hl (by decide) rfl (fun ls hl => ?_)
  refine lv_iconst (v := 0) hx hb dX2_ring_2 (by decide) ?_
  refine lv_istore_n (lv' := [(2, .int 0), (1, .int 0), (0, .ref (a 0))]) hx hb dX2_ring_3 rfl hl (by decide) rfl (fun ls hl => ?_)
  obtain ⟨q3, hq3, h⟩ := bind_inv h
  refine t_X2_ring_4 Z σ FU _ _ _ hq3 _ _ _ hP hD hS (lv_sub hl [2, 1, 0] rfl) (fun H locs ls hP hD hS hl => ?_)
  refine lv_iload_n hx hb dX2_ring_30 rfl (lv_at hl 1 rfl) ?_
  have h := Option.some.inj h
  subst h
  exact CT.iret Z hP hD hS dX2_ring_31

-- X2.heads
theorem lk_X2_heads_9 : Cond.fieldLink RX2 9 "KeyedFeelings$People" "size" "I" ∈ wsX2_heads := by decide +kernel
theorem in_X2_heads_X2 : ∀ w ∈ wsX20, w ∈ wsX2_heads := by decide +kernel
noncomputable def lp_X2_heads_4 (σ : St2) (x1 : Int32) : Nat → Int32 → Int32 → Option (Int32 × Int32)
  | 0, _, _ => none
  | n + 1, x2, x3 => (if (p2_size σ) ≤ x3 then some (x2, x3) else (if x3 = x1 then ((f_X2_woundBy σ x3).bind (fun r4 => (if r4 = 0 then lp_X2_heads_4 σ x1 n (x2 ||| (1 <<< (x3 &&& 31))) (x3 + 1) else lp_X2_heads_4 σ x1 n (x2 ||| 0) (x3 + 1)))) else ((f_X2_behind σ x3).bind (fun r6 => (if (r6 &&& (1 <<< (x1 &&& 31))) = 0 then lp_X2_heads_4 σ x1 n (x2 ||| 0) (x3 + 1) else ((f_X2_woundBy σ x3).bind (fun r10 => (if r10 = 0 then lp_X2_heads_4 σ x1 n (x2 ||| (1 <<< (x3 &&& 31))) (x3 + 1) else lp_X2_heads_4 σ x1 n (x2 ||| 0) (x3 + 1)))))))))
noncomputable def f_X2_heads (σ : St2) (x1 : Int32) : Option (Int32) := ((lp_X2_heads_4 σ x1 FU 0 0).bind (fun q12 => some q12.1))
noncomputable def rmX2_heads : Room := { frames := 2, cells := 0, slots := 0, locals := 45 }
set_option maxHeartbeats 4000000 in
set_option maxRecDepth 100000 in
theorem t_X2_heads_4 {p : Program} {l : Launch} {e : Env} {s : State} {m : MethodId} {args : Array Value} {below : List Frame} {meth : Method} {c : Code} {D : va_G} {cA : Nat → ClassId} {A0 : Nat → Prop} {H0 : Heap} {a : Nat → Nat} (Z : Cx p s m args meth c cX2_heads 5 (some .int) wsX2_heads RX2 D cA) (σ : St2) (x1 : Int32) {Q : State → Prop} : ∀ (n : Nat) (x2 : Int32) (x3 : Int32) (q : Int32 × Int32), lp_X2_heads_4 σ x1 n x2 x3 = some q → ∀ (H : Heap) (locs : List Loc) (ls : Array Slot), va_P D vwCl ([w2 cA a σ] : List va_W).flatten H → va_D A0 ([w2 cA a σ] : List va_W).flatten → va_S A0 H0 H locs → lv_has ls 5 [(0, .ref (a 0)), (1, .int x1), (2, .int x2), (3, .int x3)] → (∀ (H : Heap) (locs : List Loc) (ls : Array Slot), va_P D vwCl ([w2 cA a σ] : List va_W).flatten H → va_D A0 ([w2 cA a σ] : List va_W).flatten → va_S A0 H0 H locs → lv_has ls 5 [(0, .ref (a 0)), (1, .int x1), (2, .int q.1), (3, .int q.2)] → W p l e rmX2_heads s m args below meth c H locs 0 0 Q (F0 m 65 ls [])) → W p l e rmX2_heads s m args below meth c H locs 0 0 Q (F0 m 4 ls []) := by
  obtain ⟨hx, hb, hml, hown, hts, hr, hlk, hKK⟩ := id Z
  have hK := hKK.1
  intro n
  induction n with
  | zero =>
    intro x2 x3 q h
    rw [lp_X2_heads_4] at h
    cases h
  | succ n ih =>
    intro x2 x3 q h H locs ls hP hD hS hl kk
    rw [lp_X2_heads_4] at h
    refine lv_iload_n hx hb dX2_heads_4 rfl (lv_at hl 3 rfl) ?_
    refine lv_aload_n hx hb dX2_heads_5 rfl (lv_at hl 0 rfl) ?_
    refine va_get (D := D) (ci := 2) (v := .int (p2_size σ)) (C := RX2) (T := TX2) (N := 7) hx hb hts in_X2_heads_X2 hown hK hP 0 rfl rfl 0 (by decide) (hts _ lk_X2_heads_9) (fun _ h9 => h9) rfl dX2_heads_6 ?_
    refine lv_icmp_ge (tgt := 65) hx hb dX2_heads_9 (by decide) (fun hc1 => ?_) (fun hc1 => ?_)
    · rw [if_pos hc1] at h
      have h := Option.some.inj h
      subst h
      exact kk _ _ _ hP hD hS (lv_sub hl [0, 1, 2, 3] rfl)
    · rw [if_neg hc1] at h
      refine lv_iload_n hx hb dX2_heads_12 rfl (lv_at hl 3 rfl) ?_
      refine lv_iload_n hx hb dX2_heads_13 rfl (lv_at hl 1 rfl) ?_
      refine lv_icmp_eq (tgt := 29) hx hb dX2_heads_14 (by decide) (fun hc2 => ?_) (fun hc2 => ?_)
      · rw [if_pos hc2] at h
        refine lv_iconst (v := 1) hx hb dX2_heads_29 (by decide) ?_
        refine lv_goto (tgt := 34) hx hb dX2_heads_30 (by decide) ?_
        refine lv_istore (lv' := [(4, .int 1), (0, .ref (a 0)), (1, .int x1), (2, .int x2), (3, .int x3)]) hx hb dX2_heads_34 hl (by decide) rfl (fun ls hl => ?_)
        refine lv_iload_n hx hb dX2_heads_36 rfl (lv_at hl 3 rfl) ?_
        refine lv_iload hx hb dX2_heads_37 (lv_at hl 0 rfl) ?_
        refine lv_if_eq (tgt := 56) hx hb dX2_heads_39 (by decide) (fun hc3 => ?_) (fun hc3 => ?_)
        · exact absurd hc3 (by decide)
        · refine lv_aload_n hx hb dX2_heads_42 rfl (lv_at hl 1 rfl) ?_
          refine lv_iload_n hx hb dX2_heads_43 rfl (lv_at hl 4 rfl) ?_
          obtain ⟨r4, hr4, h⟩ := bind_inv h
          refine kV (rest := [.int x2]) (st1 := [.int r4, .int x2]) (cr := []) (cs' := [w2 cA a σ]) Z (c_X2_woundBy l D cA a σ x3 r4 hr4) 1 gX2_heads_X2_woundBy rfl hdX2_woundBy ⟨rfl, rfl⟩ ⟨Nat.le_of_ble_eq_true rfl, Nat.le_of_ble_eq_true rfl⟩ ⟨Nat.zero_le _, Nat.zero_le _⟩ hP hD hS hl.1 rfl rfl rfl (Nat.le_of_ble_eq_true rfl) 2 rfl rfl rfl [0] [] [0] rfl rfl rfl rfl rfl dX2_heads_44 (fun H locs hP hD hS => ?_)
          refine lv_if_ne (tgt := 56) hx hb dX2_heads_47 (by decide) (fun hc5 => ?_) (fun hc5 => ?_)
          · rw [if_neg hc5] at h
            refine lv_iconst (v := 0) hx hb dX2_heads_56 (by decide) ?_
            refine lv_ior hx hb dX2_heads_57 ?_
            refine lv_istore_n (lv' := [(2, .int (x2 ||| 0)), (4, .int 1), (0, .ref (a 0)), (1, .int x1), (3, .int x3)]) hx hb dX2_heads_58 rfl hl (by decide) rfl (fun ls hl => ?_)
            refine lv_iinc (v := x3 + 1) (lv' := [(3, .int (x3 + 1)), (2, .int (x2 ||| 0)), (4, .int 1), (0, .ref (a 0)), (1, .int x1)]) hx hb dX2_heads_59 hl (k := 4) rfl rfl (by decide) rfl (fun ls hl => ?_)
            refine lv_goto (tgt := 4) hx hb dX2_heads_62 (by decide) ?_
            exact ih _ _ _ h _ _ _ hP hD hS (lv_sub hl [3, 4, 1, 0] rfl) kk
          · rw [if_pos hc5] at h
            refine lv_iconst (v := 1) hx hb dX2_heads_50 (by decide) ?_
            refine lv_iload_n hx hb dX2_heads_51 rfl (lv_at hl 4 rfl) ?_
            refine lv_ishl hx hb dX2_heads_52 ?_
            refine lv_goto (tgt := 57) hx hb dX2_heads_53 (by decide) ?_
            refine lv_ior hx hb dX2_heads_57 ?_
            refine lv_istore_n (lv' := [(2, .int (x2 ||| (1 <<< (x3 &&& 31)))), (4, .int 1), (0, .ref (a 0)), (1, .int x1), (3, .int x3)]) hx hb dX2_heads_58 rfl hl (by decide) rfl (fun ls hl => ?_)
            refine lv_iinc (v := x3 + 1) (lv' := [(3, .int (x3 + 1)), (2, .int (x2 ||| (1 <<< (x3 &&& 31)))), (4, .int 1), (0, .ref (a 0)), (1, .int x1)]) hx hb dX2_heads_59 hl (k := 4) rfl rfl (by decide) rfl (fun ls hl => ?_)
            refine lv_goto (tgt := 4) hx hb dX2_heads_62 (by decide) ?_
            exact ih _ _ _ h _ _ _ hP hD hS (lv_sub hl [3, 4, 1, 0] rfl) kk
      · rw [if_neg hc2] at h
        refine lv_aload_n hx hb dX2_heads_17 rfl (lv_at hl 0 rfl) ?_
        refine lv_iload_n hx hb dX2_heads_18 rfl (lv_at hl 3 rfl) ?_
        obtain ⟨r6, hr6, h⟩ := bind_inv h
        refine kV (rest := []) (st1 := [.int r6]) (cr := []) (cs' := [w2 cA a σ]) Z (c_X2_behind l D cA a σ x3 r6 hr6) 1 gX2_heads_X2_behind rfl hdX2_behind ⟨rfl, rfl⟩ ⟨Nat.le_of_ble_eq_true rfl, Nat.le_of_ble_eq_true rfl⟩ ⟨Nat.zero_le _, Nat.zero_le _⟩ hP hD hS hl.1 rfl rfl rfl (Nat.le_of_ble_eq_true rfl) 2 rfl rfl rfl [0] [] [0] rfl rfl rfl rfl rfl dX2_heads_19 (fun H locs hP hD hS => ?_)
        refine lv_iconst (v := 1) hx hb dX2_heads_22 (by decide) ?_
        refine lv_iload_n hx hb dX2_heads_23 rfl (lv_at hl 1 rfl) ?_
        refine lv_ishl hx hb dX2_heads_24 ?_
        refine lv_iand hx hb dX2_heads_25 ?_
        refine lv_if_eq (tgt := 33) hx hb dX2_heads_26 (by decide) (fun hc7 => ?_) (fun hc7 => ?_)
        · rw [if_pos hc7] at h
          refine lv_iconst (v := 0) hx hb dX2_heads_33 (by decide) ?_
          refine lv_istore (lv' := [(4, .int 0), (0, .ref (a 0)), (1, .int x1), (2, .int x2), (3, .int x3)]) hx hb dX2_heads_34 hl (by decide) rfl (fun ls hl => ?_)
          refine lv_iload_n hx hb dX2_heads_36 rfl (lv_at hl 3 rfl) ?_
          refine lv_iload hx hb dX2_heads_37 (lv_at hl 0 rfl) ?_
          refine lv_if_eq (tgt := 56) hx hb dX2_heads_39 (by decide) (fun hc8 => ?_) (fun hc8 => ?_)
          · refine lv_iconst (v := 0) hx hb dX2_heads_56 (by decide) ?_
            refine lv_ior hx hb dX2_heads_57 ?_
            refine lv_istore_n (lv' := [(2, .int (x2 ||| 0)), (4, .int 0), (0, .ref (a 0)), (1, .int x1), (3, .int x3)]) hx hb dX2_heads_58 rfl hl (by decide) rfl (fun ls hl => ?_)
            refine lv_iinc (v := x3 + 1) (lv' := [(3, .int (x3 + 1)), (2, .int (x2 ||| 0)), (4, .int 0), (0, .ref (a 0)), (1, .int x1)]) hx hb dX2_heads_59 hl (k := 4) rfl rfl (by decide) rfl (fun ls hl => ?_)
            refine lv_goto (tgt := 4) hx hb dX2_heads_62 (by decide) ?_
            exact ih _ _ _ h _ _ _ hP hD hS (lv_sub hl [3, 4, 1, 0] rfl) kk
          · exact absurd hc8 (by decide)
        · rw [if_neg hc7] at h
          refine lv_iconst (v := 1) hx hb dX2_heads_29 (by decide) ?_
          refine lv_goto (tgt := 34) hx hb dX2_heads_30 (by decide) ?_
          refine lv_istore (lv' := [(4, .int 1), (0, .ref (a 0)), (1, .int x1), (2, .int x2), (3, .int x3)]) hx hb dX2_heads_34 hl (by decide) rfl (fun ls hl => ?_)
          refine lv_iload_n hx hb dX2_heads_36 rfl (lv_at hl 3 rfl) ?_
          refine lv_iload hx hb dX2_heads_37 (lv_at hl 0 rfl) ?_
          refine lv_if_eq (tgt := 56) hx hb dX2_heads_39 (by decide) (fun hc9 => ?_) (fun hc9 => ?_)
          · exact absurd hc9 (by decide)
          · refine lv_aload_n hx hb dX2_heads_42 rfl (lv_at hl 1 rfl) ?_
            refine lv_iload_n hx hb dX2_heads_43 rfl (lv_at hl 4 rfl) ?_
            obtain ⟨r10, hr10, h⟩ := bind_inv h
            refine kV (rest := [.int x2]) (st1 := [.int r10, .int x2]) (cr := []) (cs' := [w2 cA a σ]) Z (c_X2_woundBy l D cA a σ x3 r10 hr10) 1 gX2_heads_X2_woundBy rfl hdX2_woundBy ⟨rfl, rfl⟩ ⟨Nat.le_of_ble_eq_true rfl, Nat.le_of_ble_eq_true rfl⟩ ⟨Nat.zero_le _, Nat.zero_le _⟩ hP hD hS hl.1 rfl rfl rfl (Nat.le_of_ble_eq_true rfl) 2 rfl rfl rfl [0] [] [0] rfl rfl rfl rfl rfl dX2_heads_44 (fun H locs hP hD hS => ?_)
            refine lv_if_ne (tgt := 56) hx hb dX2_heads_47 (by decide) (fun hc11 => ?_) (fun hc11 => ?_)
            · rw [if_neg hc11] at h
              refine lv_iconst (v := 0) hx hb dX2_heads_56 (by decide) ?_
              refine lv_ior hx hb dX2_heads_57 ?_
              refine lv_istore_n (lv' := [(2, .int (x2 ||| 0)), (4, .int 1), (0, .ref (a 0)), (1, .int x1), (3, .int x3)]) hx hb dX2_heads_58 rfl hl (by decide) rfl (fun ls hl => ?_)
              refine lv_iinc (v := x3 + 1) (lv' := [(3, .int (x3 + 1)), (2, .int (x2 ||| 0)), (4, .int 1), (0, .ref (a 0)), (1, .int x1)]) hx hb dX2_heads_59 hl (k := 4) rfl rfl (by decide) rfl (fun ls hl => ?_)
              refine lv_goto (tgt := 4) hx hb dX2_heads_62 (by decide) ?_
              exact ih _ _ _ h _ _ _ hP hD hS (lv_sub hl [3, 4, 1, 0] rfl) kk
            · rw [if_pos hc11] at h
              refine lv_iconst (v := 1) hx hb dX2_heads_50 (by decide) ?_
              refine lv_iload_n hx hb dX2_heads_51 rfl (lv_at hl 4 rfl) ?_
              refine lv_ishl hx hb dX2_heads_52 ?_
              refine lv_goto (tgt := 57) hx hb dX2_heads_53 (by decide) ?_
              refine lv_ior hx hb dX2_heads_57 ?_
              refine lv_istore_n (lv' := [(2, .int (x2 ||| (1 <<< (x3 &&& 31)))), (4, .int 1), (0, .ref (a 0)), (1, .int x1), (3, .int x3)]) hx hb dX2_heads_58 rfl hl (by decide) rfl (fun ls hl => ?_)
              refine lv_iinc (v := x3 + 1) (lv' := [(3, .int (x3 + 1)), (2, .int (x2 ||| (1 <<< (x3 &&& 31)))), (4, .int 1), (0, .ref (a 0)), (1, .int x1)]) hx hb dX2_heads_59 hl (k := 4) rfl rfl (by decide) rfl (fun ls hl => ?_)
              refine lv_goto (tgt := 4) hx hb dX2_heads_62 (by decide) ?_
              exact ih _ _ _ h _ _ _ hP hD hS (lv_sub hl [3, 4, 1, 0] rfl) kk
set_option maxHeartbeats 4000000 in
set_option maxRecDepth 100000 in
theorem c_X2_heads (l : Launch) (D : va_G) (cA : Nat → ClassId) (a : Nat → Nat) (σ : St2) (x1 : Int32) (res : Int32) (h : f_X2_heads σ x1 = some res) : CT l D cA yX2_heads wsX2_heads rmX2_heads [.ref (a 0), .int x1] [w2 cA a σ] [w2 cA a σ] (some (.int res)) := by
  refine CT.start (cc := cX2_heads) (maxL := 5) (ret := (some .int)) (by decide) rfl (Nat.le_of_ble_eq_true rfl) ?_
  intro p e s m below meth c Z hP hD hS ls hl
  have Z : Cx p s m _ meth c cX2_heads 5 (some .int) wsX2_heads RX2 D cA := Z
  have hl : lv_has ls 5 [(0, .ref (a 0)), (1, .int x1)] := hl
  obtain ⟨hx, hb, hml, hown, hts, hr, hlk, hKK⟩ := id Z
  have hK := hKK.1
  rw [f_X2_heads] at h
  refine lv_iconst (v := 0) hx hb dX2_heads_0 (by decide) ?_
  refine lv_istore_n (lv' := [(2, .int 0), (0, .ref (a 0)), (1, .int x1)]) hx hb dX2_heads_1 rfl hl (by decide) rfl (fun ls hl => ?_)
  refine lv_iconst (v := 0) hx hb dX2_heads_2 (by decide) ?_
  refine lv_istore_n (lv' := [(3, .int 0), (2, .int 0), (0, .ref (a 0)), (1, .int x1)]) hx hb dX2_heads_3 rfl hl (by decide) rfl (fun ls hl => ?_)
  obtain ⟨q12, hq12, h⟩ := bind_inv h
  refine t_X2_heads_4 Z σ x1 FU _ _ _ hq12 _ _ _ hP hD hS (lv_sub hl [2, 3, 1, 0] rfl) (fun H locs ls hP hD hS hl => ?_)
  refine lv_iload_n hx hb dX2_heads_65 rfl (lv_at hl 2 rfl) ?_
  have h := Option.some.inj h
  subst h
  exact CT.iret Z hP hD hS dX2_heads_66

-- X2.isWindingHour
theorem lk_X2_isWindingHour_28 : Cond.fieldLink RX2 28 "KeyedFeelings$People" "hour" "I" ∈ wsX2_isWindingHour := by decide +kernel
theorem in_X2_isWindingHour_X2 : ∀ w ∈ wsX20, w ∈ wsX2_isWindingHour := by decide +kernel
noncomputable def f_X2_isWindingHour (σ : St2) : Option (Int32) := (if ((p2_hour σ) - (p2_hour σ) / 8 * 8) = 0 then some 1 else some 0)
noncomputable def rmX2_isWindingHour : Room := { frames := 0, cells := 0, slots := 0, locals := 0 }
set_option maxHeartbeats 4000000 in
set_option maxRecDepth 100000 in
theorem c_X2_isWindingHour (l : Launch) (D : va_G) (cA : Nat → ClassId) (a : Nat → Nat) (σ : St2) (res : Int32) (h : f_X2_isWindingHour σ = some res) : CT l D cA yX2_isWindingHour wsX2_isWindingHour rmX2_isWindingHour [.ref (a 0)] [w2 cA a σ] [w2 cA a σ] (some (.int res)) := by
  refine CT.start (cc := cX2_isWindingHour) (maxL := 1) (ret := (some .boolean)) (by decide) rfl (Nat.le_of_ble_eq_true rfl) ?_
  intro p e s m below meth c Z hP hD hS ls hl
  have Z : Cx p s m _ meth c cX2_isWindingHour 1 (some .boolean) wsX2_isWindingHour RX2 D cA := Z
  have hl : lv_has ls 1 [(0, .ref (a 0))] := hl
  obtain ⟨hx, hb, hml, hown, hts, hr, hlk, hKK⟩ := id Z
  have hK := hKK.1
  rw [f_X2_isWindingHour] at h
  refine lv_aload_n hx hb dX2_isWindingHour_0 rfl (lv_at hl 0 rfl) ?_
  refine va_get (D := D) (ci := 2) (v := .int (p2_hour σ)) (C := RX2) (T := TX2) (N := 7) hx hb hts in_X2_isWindingHour_X2 hown hK hP 0 rfl rfl 5 (by decide) (hts _ lk_X2_isWindingHour_28) (fun _ h9 => h9) rfl dX2_isWindingHour_1 ?_
  refine lv_bipush (v := 8) hx hb dX2_isWindingHour_4 (by decide) ?_
  refine lv_irem hx hb dX2_isWindingHour_6 (by decide) ?_
  refine lv_if_ne (tgt := 14) hx hb dX2_isWindingHour_7 (by decide) (fun hc1 => ?_) (fun hc1 => ?_)
  · rw [if_neg hc1] at h
    refine lv_iconst (v := 0) hx hb dX2_isWindingHour_14 (by decide) ?_
    have h := Option.some.inj h
    subst h
    exact CT.zret Z (nar_bool (Or.inl rfl)) hP hD hS dX2_isWindingHour_15
  · rw [if_pos hc1] at h
    refine lv_iconst (v := 1) hx hb dX2_isWindingHour_10 (by decide) ?_
    refine lv_goto (tgt := 15) hx hb dX2_isWindingHour_11 (by decide) ?_
    have h := Option.some.inj h
    subst h
    exact CT.zret Z (nar_bool (Or.inr rfl)) hP hD hS dX2_isWindingHour_15

-- X2.winders
theorem lk_X2_winders_9 : Cond.fieldLink RX2 9 "KeyedFeelings$People" "size" "I" ∈ wsX2_winders := by decide +kernel
theorem in_X2_winders_X2 : ∀ w ∈ wsX20, w ∈ wsX2_winders := by decide +kernel
theorem lk_X2_winders_22 : Cond.fieldLink RX2 22 "KeyedFeelings$People" "winds" "[I" ∈ wsX2_winders := by decide +kernel
noncomputable def lp_X2_winders_4 (σ : St2) : Nat → Int32 → Int32 → Option (Int32 × Int32)
  | 0, _, _ => none
  | n + 1, x1, x2 => (if (p2_size σ) ≤ x2 then some (x1, x2) else ((f_X2_isStopped σ x2).bind (fun r2 => (if r2 = 0 then (if inB x2 6 = true then ((f_X2_has σ ((p2_winds σ) x2.toNatClampNeg)).bind (fun r5 => (if r5 = 0 then lp_X2_winders_4 σ n (x1 ||| 0) (x2 + 1) else lp_X2_winders_4 σ n (x1 ||| (1 <<< (x2 &&& 31))) (x2 + 1)))) else none) else lp_X2_winders_4 σ n (x1 ||| 0) (x2 + 1)))))
noncomputable def f_X2_winders (σ : St2) : Option (Int32) := ((lp_X2_winders_4 σ FU 0 0).bind (fun q7 => some q7.1))
noncomputable def rmX2_winders : Room := { frames := 1, cells := 0, slots := 0, locals := 21 }
set_option maxHeartbeats 4000000 in
set_option maxRecDepth 100000 in
theorem t_X2_winders_4 {p : Program} {l : Launch} {e : Env} {s : State} {m : MethodId} {args : Array Value} {below : List Frame} {meth : Method} {c : Code} {D : va_G} {cA : Nat → ClassId} {A0 : Nat → Prop} {H0 : Heap} {a : Nat → Nat} (Z : Cx p s m args meth c cX2_winders 3 (some .int) wsX2_winders RX2 D cA) (σ : St2) {Q : State → Prop} : ∀ (n : Nat) (x1 : Int32) (x2 : Int32) (q : Int32 × Int32), lp_X2_winders_4 σ n x1 x2 = some q → ∀ (H : Heap) (locs : List Loc) (ls : Array Slot), va_P D vwCl ([w2 cA a σ] : List va_W).flatten H → va_D A0 ([w2 cA a σ] : List va_W).flatten → va_S A0 H0 H locs → lv_has ls 3 [(0, .ref (a 0)), (1, .int x1), (2, .int x2)] → (∀ (H : Heap) (locs : List Loc) (ls : Array Slot), va_P D vwCl ([w2 cA a σ] : List va_W).flatten H → va_D A0 ([w2 cA a σ] : List va_W).flatten → va_S A0 H0 H locs → lv_has ls 3 [(0, .ref (a 0)), (1, .int q.1), (2, .int q.2)] → W p l e rmX2_winders s m args below meth c H locs 0 0 Q (F0 m 49 ls [])) → W p l e rmX2_winders s m args below meth c H locs 0 0 Q (F0 m 4 ls []) := by
  obtain ⟨hx, hb, hml, hown, hts, hr, hlk, hKK⟩ := id Z
  have hK := hKK.1
  intro n
  induction n with
  | zero =>
    intro x1 x2 q h
    rw [lp_X2_winders_4] at h
    cases h
  | succ n ih =>
    intro x1 x2 q h H locs ls hP hD hS hl kk
    rw [lp_X2_winders_4] at h
    refine lv_iload_n hx hb dX2_winders_4 rfl (lv_at hl 2 rfl) ?_
    refine lv_aload_n hx hb dX2_winders_5 rfl (lv_at hl 0 rfl) ?_
    refine va_get (D := D) (ci := 2) (v := .int (p2_size σ)) (C := RX2) (T := TX2) (N := 7) hx hb hts in_X2_winders_X2 hown hK hP 0 rfl rfl 0 (by decide) (hts _ lk_X2_winders_9) (fun _ h9 => h9) rfl dX2_winders_6 ?_
    refine lv_icmp_ge (tgt := 49) hx hb dX2_winders_9 (by decide) (fun hc1 => ?_) (fun hc1 => ?_)
    · rw [if_pos hc1] at h
      have h := Option.some.inj h
      subst h
      exact kk _ _ _ hP hD hS (lv_sub hl [0, 1, 2] rfl)
    · rw [if_neg hc1] at h
      refine lv_iload_n hx hb dX2_winders_12 rfl (lv_at hl 1 rfl) ?_
      refine lv_aload_n hx hb dX2_winders_13 rfl (lv_at hl 0 rfl) ?_
      refine lv_iload_n hx hb dX2_winders_14 rfl (lv_at hl 2 rfl) ?_
      obtain ⟨r2, hr2, h⟩ := bind_inv h
      refine kV (rest := [.int x1]) (st1 := [.int r2, .int x1]) (cr := []) (cs' := [w2 cA a σ]) Z (c_X2_isStopped l D cA a σ x2 r2 hr2) 1 gX2_winders_X2_isStopped rfl hdX2_isStopped ⟨rfl, rfl⟩ ⟨Nat.le_of_ble_eq_true rfl, Nat.le_of_ble_eq_true rfl⟩ ⟨Nat.zero_le _, Nat.zero_le _⟩ hP hD hS hl.1 rfl rfl rfl (Nat.le_of_ble_eq_true rfl) 2 rfl rfl rfl [0] [] [0] rfl rfl rfl rfl rfl dX2_winders_15 (fun H locs hP hD hS => ?_)
      refine lv_if_ne (tgt := 40) hx hb dX2_winders_18 (by decide) (fun hc3 => ?_) (fun hc3 => ?_)
      · rw [if_neg hc3] at h
        refine lv_iconst (v := 0) hx hb dX2_winders_40 (by decide) ?_
        refine lv_ior hx hb dX2_winders_41 ?_
        refine lv_istore_n (lv' := [(1, .int (x1 ||| 0)), (0, .ref (a 0)), (2, .int x2)]) hx hb dX2_winders_42 rfl hl (by decide) rfl (fun ls hl => ?_)
        refine lv_iinc (v := x2 + 1) (lv' := [(2, .int (x2 + 1)), (1, .int (x1 ||| 0)), (0, .ref (a 0))]) hx hb dX2_winders_43 hl (k := 2) rfl rfl (by decide) rfl (fun ls hl => ?_)
        refine lv_goto (tgt := 4) hx hb dX2_winders_46 (by decide) ?_
        exact ih _ _ _ h _ _ _ hP hD hS (lv_sub hl [2, 1, 0] rfl) kk
      · rw [if_pos hc3] at h
        refine lv_aload_n hx hb dX2_winders_21 rfl (lv_at hl 0 rfl) ?_
        refine lv_aload_n hx hb dX2_winders_22 rfl (lv_at hl 0 rfl) ?_
        refine va_get (D := D) (ci := 2) (v := .ref (a 3)) (C := RX2) (T := TX2) (N := 7) hx hb hts in_X2_winders_X2 hown hK hP 0 rfl rfl 3 (by decide) (hts _ lk_X2_winders_22) (fun _ h9 => h9) rfl dX2_winders_23 ?_
        refine lv_iload_n hx hb dX2_winders_26 rfl (lv_at hl 2 rfl) ?_
        obtain ⟨hg4, h⟩ := if_inv h
        refine va_iald hx hb hK hP 3 0 rfl rfl (inB_in hg4) dX2_winders_27 ?_
        obtain ⟨r5, hr5, h⟩ := bind_inv h
        refine kV (rest := [.int x1]) (st1 := [.int r5, .int x1]) (cr := []) (cs' := [w2 cA a σ]) Z (c_X2_has l D cA a σ ((p2_winds σ) x2.toNatClampNeg) r5 hr5) 1 gX2_winders_X2_has rfl hdX2_has ⟨rfl, rfl⟩ ⟨Nat.le_of_ble_eq_true rfl, Nat.le_of_ble_eq_true rfl⟩ ⟨Nat.zero_le _, Nat.zero_le _⟩ hP hD hS hl.1 rfl rfl rfl (Nat.le_of_ble_eq_true rfl) 2 rfl rfl rfl [0] [] [0] rfl rfl rfl rfl rfl dX2_winders_28 (fun H locs hP hD hS => ?_)
        refine lv_if_eq (tgt := 40) hx hb dX2_winders_31 (by decide) (fun hc6 => ?_) (fun hc6 => ?_)
        · rw [if_pos hc6] at h
          refine lv_iconst (v := 0) hx hb dX2_winders_40 (by decide) ?_
          refine lv_ior hx hb dX2_winders_41 ?_
          refine lv_istore_n (lv' := [(1, .int (x1 ||| 0)), (0, .ref (a 0)), (2, .int x2)]) hx hb dX2_winders_42 rfl hl (by decide) rfl (fun ls hl => ?_)
          refine lv_iinc (v := x2 + 1) (lv' := [(2, .int (x2 + 1)), (1, .int (x1 ||| 0)), (0, .ref (a 0))]) hx hb dX2_winders_43 hl (k := 2) rfl rfl (by decide) rfl (fun ls hl => ?_)
          refine lv_goto (tgt := 4) hx hb dX2_winders_46 (by decide) ?_
          exact ih _ _ _ h _ _ _ hP hD hS (lv_sub hl [2, 1, 0] rfl) kk
        · rw [if_neg hc6] at h
          refine lv_iconst (v := 1) hx hb dX2_winders_34 (by decide) ?_
          refine lv_iload_n hx hb dX2_winders_35 rfl (lv_at hl 2 rfl) ?_
          refine lv_ishl hx hb dX2_winders_36 ?_
          refine lv_goto (tgt := 41) hx hb dX2_winders_37 (by decide) ?_
          refine lv_ior hx hb dX2_winders_41 ?_
          refine lv_istore_n (lv' := [(1, .int (x1 ||| (1 <<< (x2 &&& 31)))), (0, .ref (a 0)), (2, .int x2)]) hx hb dX2_winders_42 rfl hl (by decide) rfl (fun ls hl => ?_)
          refine lv_iinc (v := x2 + 1) (lv' := [(2, .int (x2 + 1)), (1, .int (x1 ||| (1 <<< (x2 &&& 31)))), (0, .ref (a 0))]) hx hb dX2_winders_43 hl (k := 2) rfl rfl (by decide) rfl (fun ls hl => ?_)
          refine lv_goto (tgt := 4) hx hb dX2_winders_46 (by decide) ?_
          exact ih _ _ _ h _ _ _ hP hD hS (lv_sub hl [2, 1, 0] rfl) kk
set_option maxHeartbeats 4000000 in
set_option maxRecDepth 100000 in
theorem c_X2_winders (l : Launch) (D : va_G) (cA : Nat → ClassId) (a : Nat → Nat) (σ : St2) (res : Int32) (h : f_X2_winders σ = some res) : CT l D cA yX2_winders wsX2_winders rmX2_winders [.ref (a 0)] [w2 cA a σ] [w2 cA a σ] (some (.int res)) := by
  refine CT.start (cc := cX2_winders) (maxL := 3) (ret := (some .int)) (by decide) rfl (Nat.le_of_ble_eq_true rfl) ?_
  intro p e s m below meth c Z hP hD hS ls hl
  have Z : Cx p s m _ meth c cX2_winders 3 (some .int) wsX2_winders RX2 D cA := Z
  have hl : lv_has ls 3 [(0, .ref (a 0))] := hl
  obtain ⟨hx, hb, hml, hown, hts, hr, hlk, hKK⟩ := id Z
  have hK := hKK.1
  rw [f_X2_winders] at h
  refine lv_iconst (v := 0) hx hb dX2_winders_0 (by decide) ?_
  refine lv_istore_n (lv' := [(1, .int 0), (0, .ref (a 0))]) hx hb dX2_winders_1 rfl hl (by decide) rfl (fun ls hl => ?_)
  refine lv_iconst (v := 0) hx hb dX2_winders_2 (by decide) ?_
  refine lv_istore_n (lv' := [(2, .int 0), (1, .int 0), (0, .ref (a 0))]) hx hb dX2_winders_3 rfl hl (by decide) rfl (fun ls hl => ?_)
  obtain ⟨q7, hq7, h⟩ := bind_inv h
  refine t_X2_winders_4 Z σ FU _ _ _ hq7 _ _ _ hP hD hS (lv_sub hl [2, 1, 0] rfl) (fun H locs ls hP hD hS hl => ?_)
  refine lv_iload_n hx hb dX2_winders_49 rfl (lv_at hl 1 rfl) ?_
  have h := Option.some.inj h
  subst h
  exact CT.iret Z hP hD hS dX2_winders_50

-- X2.addTurns
theorem lk_X2_addTurns_19 : Cond.fieldLink RX2 19 "KeyedFeelings$People" "turns" "[I" ∈ wsX2_addTurns := by decide +kernel
theorem in_X2_addTurns_X2 : ∀ w ∈ wsX20, w ∈ wsX2_addTurns := by decide +kernel
theorem jm_X2_addTurns_min_48 : Cond.methodLink RX2 48 Lib.Math.min.name ∈ wsX2_addTurns := by decide +kernel
theorem js_X2_addTurns_min : Cond.static Lib.Math.min.name ∈ wsX2_addTurns := by decide +kernel
theorem ji_X2_addTurns : Cond.initialized "java/lang/Math" ∈ wsX2_addTurns := by decide +kernel
theorem jc_X2_addTurns_min : Cond.code Lib.Math.min.name Lib.Math.min.code 2 (some .int) ∈ wsX2_addTurns := by decide +kernel
noncomputable def f_X2_addTurns (σ : St2) (x1 : Int32) (x2 : Int32) : Option (St2) := (if inB x1 6 = true then (if inB x1 6 = true then some (s2_turns σ (upd (p2_turns σ) x1.toNatClampNeg (if (((p2_turns σ) x1.toNatClampNeg) + x2) < 30 then (((p2_turns σ) x1.toNatClampNeg) + x2) else 30))) else none) else none)
noncomputable def rmX2_addTurns : Room := { frames := 1, cells := 0, slots := 0, locals := 21 }
set_option maxHeartbeats 4000000 in
set_option maxRecDepth 100000 in
theorem c_X2_addTurns (l : Launch) (D : va_G) (cA : Nat → ClassId) (a : Nat → Nat) (σ : St2) (x1 : Int32) (x2 : Int32) (res : St2) (h : f_X2_addTurns σ x1 x2 = some res) : CT l D cA yX2_addTurns wsX2_addTurns rmX2_addTurns [.ref (a 0), .int x1, .int x2] [w2 cA a σ] [w2 cA a res] none := by
  refine CT.start (cc := cX2_addTurns) (maxL := 3) (ret := none) (by decide) rfl (Nat.le_of_ble_eq_true rfl) ?_
  intro p e s m below meth c Z hP hD hS ls hl
  have Z : Cx p s m _ meth c cX2_addTurns 3 none wsX2_addTurns RX2 D cA := Z
  have hl : lv_has ls 3 [(0, .ref (a 0)), (1, .int x1), (2, .int x2)] := hl
  obtain ⟨hx, hb, hml, hown, hts, hr, hlk, hKK⟩ := id Z
  have hK := hKK.1
  rw [f_X2_addTurns] at h
  refine lv_aload_n hx hb dX2_addTurns_0 rfl (lv_at hl 0 rfl) ?_
  refine va_get (D := D) (ci := 2) (v := .ref (a 2)) (C := RX2) (T := TX2) (N := 7) hx hb hts in_X2_addTurns_X2 hown hK hP 0 rfl rfl 2 (by decide) (hts _ lk_X2_addTurns_19) (fun _ h9 => h9) rfl dX2_addTurns_1 ?_
  refine lv_iload_n hx hb dX2_addTurns_4 rfl (lv_at hl 1 rfl) ?_
  refine lv_bipush (v := 30) hx hb dX2_addTurns_5 (by decide) ?_
  refine lv_aload_n hx hb dX2_addTurns_7 rfl (lv_at hl 0 rfl) ?_
  refine va_get (D := D) (ci := 2) (v := .ref (a 2)) (C := RX2) (T := TX2) (N := 7) hx hb hts in_X2_addTurns_X2 hown hK hP 0 rfl rfl 2 (by decide) (hts _ lk_X2_addTurns_19) (fun _ h9 => h9) rfl dX2_addTurns_8 ?_
  refine lv_iload_n hx hb dX2_addTurns_11 rfl (lv_at hl 1 rfl) ?_
  obtain ⟨hg1, h⟩ := if_inv h
  refine va_iald hx hb hK hP 2 0 rfl rfl (inB_in hg1) dX2_addTurns_12 ?_
  refine lv_iload_n hx hb dX2_addTurns_13 rfl (lv_at hl 2 rfl) ?_
  refine lv_iadd hx hb dX2_addTurns_14 ?_
  refine va_mmin hx hb (hml.trans hl.1.symm) hown (hts _ jm_X2_addTurns_min_48) (hts _ js_X2_addTurns_min) (hts _ ji_X2_addTurns) (hts _ jc_X2_addTurns_min) (Nat.le_of_ble_eq_true rfl) (Nat.le_of_ble_eq_true rfl) (Nat.zero_le _) (Nat.zero_le _) dX2_addTurns_15 ?_
  obtain ⟨hg2, h⟩ := if_inv h
  refine va_iast hx hb hK hP hD hS 2 0 rfl rfl (inB_in hg2) dX2_addTurns_18 (fun H locs hP hD hS => ?_)
  have hP : va_P D vwCl ([w2 cA a (s2_turns σ (upd (p2_turns σ) x1.toNatClampNeg (if (((p2_turns σ) x1.toNatClampNeg) + x2) < 30 then (((p2_turns σ) x1.toNatClampNeg) + x2) else 30)))] : List va_W).flatten H := hP
  have hD : va_D _ ([w2 cA a (s2_turns σ (upd (p2_turns σ) x1.toNatClampNeg (if (((p2_turns σ) x1.toNatClampNeg) + x2) < 30 then (((p2_turns σ) x1.toNatClampNeg) + x2) else 30)))] : List va_W).flatten := hD
  have h := Option.some.inj h
  subst h
  exact CT.vret Z hP hD hS dX2_addTurns_19

-- X2.wind
theorem lk_X2_wind_9 : Cond.fieldLink RX2 9 "KeyedFeelings$People" "size" "I" ∈ wsX2_wind := by decide +kernel
theorem in_X2_wind_X2 : ∀ w ∈ wsX20, w ∈ wsX2_wind := by decide +kernel
theorem lk_X2_wind_22 : Cond.fieldLink RX2 22 "KeyedFeelings$People" "winds" "[I" ∈ wsX2_wind := by decide +kernel
theorem lk_X2_wind_25 : Cond.fieldLink RX2 25 "KeyedFeelings$People" "keys" "[I" ∈ wsX2_wind := by decide +kernel
noncomputable def lp_X2_wind_2 (x1 : Int32) : Nat → Int32 → St2 → Option (Int32 × St2)
  | 0, _, _ => none
  | n + 1, x2, σ => (if (p2_size σ) ≤ x2 then some (x2, σ) else (if (x1 &&& (1 <<< (x2 &&& 31))) = 0 then lp_X2_wind_2 x1 n (x2 + 1) σ else (if inB x2 6 = true then ((f_X2_has σ ((p2_winds σ) x2.toNatClampNeg)).bind (fun r4 => (if r4 = 0 then lp_X2_wind_2 x1 n (x2 + 1) σ else (if inB x2 6 = true then (if inB x2 6 = true then ((f_X2_addTurns σ ((p2_winds σ) x2.toNatClampNeg) ((p2_keys σ) x2.toNatClampNeg)).bind (fun r8 => lp_X2_wind_2 x1 n (x2 + 1) r8)) else none) else none)))) else none)))
noncomputable def f_X2_wind (σ : St2) (x1 : Int32) : Option (St2) := ((lp_X2_wind_2 x1 FU 0 σ).bind (fun q9 => some q9.2))
noncomputable def rmX2_wind : Room := { frames := 2, cells := 0, slots := 0, locals := 43 }
set_option maxHeartbeats 4000000 in
set_option maxRecDepth 100000 in
theorem t_X2_wind_2 {p : Program} {l : Launch} {e : Env} {s : State} {m : MethodId} {args : Array Value} {below : List Frame} {meth : Method} {c : Code} {D : va_G} {cA : Nat → ClassId} {A0 : Nat → Prop} {H0 : Heap} {a : Nat → Nat} (Z : Cx p s m args meth c cX2_wind 3 none wsX2_wind RX2 D cA) (x1 : Int32) {Q : State → Prop} : ∀ (n : Nat) (x2 : Int32) (σ : St2) (q : Int32 × St2), lp_X2_wind_2 x1 n x2 σ = some q → ∀ (H : Heap) (locs : List Loc) (ls : Array Slot), va_P D vwCl ([w2 cA a σ] : List va_W).flatten H → va_D A0 ([w2 cA a σ] : List va_W).flatten → va_S A0 H0 H locs → lv_has ls 3 [(0, .ref (a 0)), (1, .int x1), (2, .int x2)] → (∀ (H : Heap) (locs : List Loc) (ls : Array Slot), va_P D vwCl ([w2 cA a q.2] : List va_W).flatten H → va_D A0 ([w2 cA a q.2] : List va_W).flatten → va_S A0 H0 H locs → lv_has ls 3 [(0, .ref (a 0)), (1, .int x1), (2, .int q.1)] → W p l e rmX2_wind s m args below meth c H locs 0 0 Q (F0 m 53 ls [])) → W p l e rmX2_wind s m args below meth c H locs 0 0 Q (F0 m 2 ls []) := by
  obtain ⟨hx, hb, hml, hown, hts, hr, hlk, hKK⟩ := id Z
  have hK := hKK.1
  intro n
  induction n with
  | zero =>
    intro x2 σ q h
    rw [lp_X2_wind_2] at h
    cases h
  | succ n ih =>
    intro x2 σ q h H locs ls hP hD hS hl kk
    rw [lp_X2_wind_2] at h
    refine lv_iload_n hx hb dX2_wind_2 rfl (lv_at hl 2 rfl) ?_
    refine lv_aload_n hx hb dX2_wind_3 rfl (lv_at hl 0 rfl) ?_
    refine va_get (D := D) (ci := 2) (v := .int (p2_size σ)) (C := RX2) (T := TX2) (N := 7) hx hb hts in_X2_wind_X2 hown hK hP 0 rfl rfl 0 (by decide) (hts _ lk_X2_wind_9) (fun _ h9 => h9) rfl dX2_wind_4 ?_
    refine lv_icmp_ge (tgt := 53) hx hb dX2_wind_7 (by decide) (fun hc1 => ?_) (fun hc1 => ?_)
    · rw [if_pos hc1] at h
      have h := Option.some.inj h
      subst h
      exact kk _ _ _ hP hD hS (lv_sub hl [0, 1, 2] rfl)
    · rw [if_neg hc1] at h
      refine lv_iload_n hx hb dX2_wind_10 rfl (lv_at hl 1 rfl) ?_
      refine lv_iconst (v := 1) hx hb dX2_wind_11 (by decide) ?_
      refine lv_iload_n hx hb dX2_wind_12 rfl (lv_at hl 2 rfl) ?_
      refine lv_ishl hx hb dX2_wind_13 ?_
      refine lv_iand hx hb dX2_wind_14 ?_
      refine lv_if_eq (tgt := 47) hx hb dX2_wind_15 (by decide) (fun hc2 => ?_) (fun hc2 => ?_)
      · rw [if_pos hc2] at h
        refine lv_iinc (v := x2 + 1) (lv' := [(2, .int (x2 + 1)), (0, .ref (a 0)), (1, .int x1)]) hx hb dX2_wind_47 hl (k := 2) rfl rfl (by decide) rfl (fun ls hl => ?_)
        refine lv_goto (tgt := 2) hx hb dX2_wind_50 (by decide) ?_
        exact ih _ _ _ h _ _ _ hP hD hS (lv_sub hl [1, 2, 0] rfl) kk
      · rw [if_neg hc2] at h
        refine lv_aload_n hx hb dX2_wind_18 rfl (lv_at hl 0 rfl) ?_
        refine lv_aload_n hx hb dX2_wind_19 rfl (lv_at hl 0 rfl) ?_
        refine va_get (D := D) (ci := 2) (v := .ref (a 3)) (C := RX2) (T := TX2) (N := 7) hx hb hts in_X2_wind_X2 hown hK hP 0 rfl rfl 3 (by decide) (hts _ lk_X2_wind_22) (fun _ h9 => h9) rfl dX2_wind_20 ?_
        refine lv_iload_n hx hb dX2_wind_23 rfl (lv_at hl 2 rfl) ?_
        obtain ⟨hg3, h⟩ := if_inv h
        refine va_iald hx hb hK hP 3 0 rfl rfl (inB_in hg3) dX2_wind_24 ?_
        obtain ⟨r4, hr4, h⟩ := bind_inv h
        refine kV (rest := []) (st1 := [.int r4]) (cr := []) (cs' := [w2 cA a σ]) Z (c_X2_has l D cA a σ ((p2_winds σ) x2.toNatClampNeg) r4 hr4) 1 gX2_wind_X2_has rfl hdX2_has ⟨rfl, rfl⟩ ⟨Nat.le_of_ble_eq_true rfl, Nat.le_of_ble_eq_true rfl⟩ ⟨Nat.zero_le _, Nat.zero_le _⟩ hP hD hS hl.1 rfl rfl rfl (Nat.le_of_ble_eq_true rfl) 2 rfl rfl rfl [0] [] [0] rfl rfl rfl rfl rfl dX2_wind_25 (fun H locs hP hD hS => ?_)
        refine lv_if_eq (tgt := 47) hx hb dX2_wind_28 (by decide) (fun hc5 => ?_) (fun hc5 => ?_)
        · rw [if_pos hc5] at h
          refine lv_iinc (v := x2 + 1) (lv' := [(2, .int (x2 + 1)), (0, .ref (a 0)), (1, .int x1)]) hx hb dX2_wind_47 hl (k := 2) rfl rfl (by decide) rfl (fun ls hl => ?_)
          refine lv_goto (tgt := 2) hx hb dX2_wind_50 (by decide) ?_
          exact ih _ _ _ h _ _ _ hP hD hS (lv_sub hl [1, 2, 0] rfl) kk
        · rw [if_neg hc5] at h
          refine lv_aload_n hx hb dX2_wind_31 rfl (lv_at hl 0 rfl) ?_
          refine lv_aload_n hx hb dX2_wind_32 rfl (lv_at hl 0 rfl) ?_
          refine va_get (D := D) (ci := 2) (v := .ref (a 3)) (C := RX2) (T := TX2) (N := 7) hx hb hts in_X2_wind_X2 hown hK hP 0 rfl rfl 3 (by decide) (hts _ lk_X2_wind_22) (fun _ h9 => h9) rfl dX2_wind_33 ?_
          refine lv_iload_n hx hb dX2_wind_36 rfl (lv_at hl 2 rfl) ?_
          obtain ⟨hg6, h⟩ := if_inv h
          refine va_iald hx hb hK hP 3 0 rfl rfl (inB_in hg6) dX2_wind_37 ?_
          refine lv_aload_n hx hb dX2_wind_38 rfl (lv_at hl 0 rfl) ?_
          refine va_get (D := D) (ci := 2) (v := .ref (a 4)) (C := RX2) (T := TX2) (N := 7) hx hb hts in_X2_wind_X2 hown hK hP 0 rfl rfl 4 (by decide) (hts _ lk_X2_wind_25) (fun _ h9 => h9) rfl dX2_wind_39 ?_
          refine lv_iload_n hx hb dX2_wind_42 rfl (lv_at hl 2 rfl) ?_
          obtain ⟨hg7, h⟩ := if_inv h
          refine va_iald hx hb hK hP 4 0 rfl rfl (inB_in hg7) dX2_wind_43 ?_
          obtain ⟨r8, hr8, h⟩ := bind_inv h
          refine kV (rest := []) (st1 := []) (cr := []) (cs' := [w2 cA a r8]) Z (c_X2_addTurns l D cA a σ ((p2_winds σ) x2.toNatClampNeg) ((p2_keys σ) x2.toNatClampNeg) r8 hr8) 2 gX2_wind_X2_addTurns rfl hdX2_addTurns ⟨rfl, rfl⟩ ⟨Nat.le_of_ble_eq_true rfl, Nat.le_of_ble_eq_true rfl⟩ ⟨Nat.zero_le _, Nat.zero_le _⟩ hP hD hS hl.1 rfl rfl rfl (Nat.le_of_ble_eq_true rfl) 2 rfl rfl rfl [0] [] [0] rfl rfl rfl rfl rfl dX2_wind_44 (fun H locs hP hD hS => ?_)
          refine lv_iinc (v := x2 + 1) (lv' := [(2, .int (x2 + 1)), (0, .ref (a 0)), (1, .int x1)]) hx hb dX2_wind_47 hl (k := 2) rfl rfl (by decide) rfl (fun ls hl => ?_)
          refine lv_goto (tgt := 2) hx hb dX2_wind_50 (by decide) ?_
          exact ih _ _ _ h _ _ _ hP hD hS (lv_sub hl [1, 2, 0] rfl) kk
set_option maxHeartbeats 4000000 in
set_option maxRecDepth 100000 in
theorem c_X2_wind (l : Launch) (D : va_G) (cA : Nat → ClassId) (a : Nat → Nat) (σ : St2) (x1 : Int32) (res : St2) (h : f_X2_wind σ x1 = some res) : CT l D cA yX2_wind wsX2_wind rmX2_wind [.ref (a 0), .int x1] [w2 cA a σ] [w2 cA a res] none := by
  refine CT.start (cc := cX2_wind) (maxL := 3) (ret := none) (by decide) rfl (Nat.le_of_ble_eq_true rfl) ?_
  intro p e s m below meth c Z hP hD hS ls hl
  have Z : Cx p s m _ meth c cX2_wind 3 none wsX2_wind RX2 D cA := Z
  have hl : lv_has ls 3 [(0, .ref (a 0)), (1, .int x1)] := hl
  obtain ⟨hx, hb, hml, hown, hts, hr, hlk, hKK⟩ := id Z
  have hK := hKK.1
  rw [f_X2_wind] at h
  refine lv_iconst (v := 0) hx hb dX2_wind_0 (by decide) ?_
  refine lv_istore_n (lv' := [(2, .int 0), (0, .ref (a 0)), (1, .int x1)]) hx hb dX2_wind_1 rfl hl (by decide) rfl (fun ls hl => ?_)
  obtain ⟨q9, hq9, h⟩ := bind_inv h
  refine t_X2_wind_2 Z x1 FU _ _ _ hq9 _ _ _ hP hD hS (lv_sub hl [1, 2, 0] rfl) (fun H locs ls hP hD hS hl => ?_)
  have h := Option.some.inj h
  subst h
  exact CT.vret Z hP hD hS dX2_wind_53

-- X2.runsConcern
theorem lk_X2_runsConcern_28 : Cond.fieldLink RX2 28 "KeyedFeelings$People" "hour" "I" ∈ wsX2_runsConcern := by decide +kernel
theorem in_X2_runsConcern_X2 : ∀ w ∈ wsX20, w ∈ wsX2_runsConcern := by decide +kernel
noncomputable def f_X2_runsConcern (σ : St2) : Option (Int32) := (if ((p2_hour σ) - (p2_hour σ) / 2 * 2) = 0 then some 2 else some 1)
noncomputable def rmX2_runsConcern : Room := { frames := 0, cells := 0, slots := 0, locals := 0 }
set_option maxHeartbeats 4000000 in
set_option maxRecDepth 100000 in
theorem c_X2_runsConcern (l : Launch) (D : va_G) (cA : Nat → ClassId) (a : Nat → Nat) (σ : St2) (res : Int32) (h : f_X2_runsConcern σ = some res) : CT l D cA yX2_runsConcern wsX2_runsConcern rmX2_runsConcern [.ref (a 0)] [w2 cA a σ] [w2 cA a σ] (some (.int res)) := by
  refine CT.start (cc := cX2_runsConcern) (maxL := 1) (ret := (some .int)) (by decide) rfl (Nat.le_of_ble_eq_true rfl) ?_
  intro p e s m below meth c Z hP hD hS ls hl
  have Z : Cx p s m _ meth c cX2_runsConcern 1 (some .int) wsX2_runsConcern RX2 D cA := Z
  have hl : lv_has ls 1 [(0, .ref (a 0))] := hl
  obtain ⟨hx, hb, hml, hown, hts, hr, hlk, hKK⟩ := id Z
  have hK := hKK.1
  rw [f_X2_runsConcern] at h
  refine lv_aload_n hx hb dX2_runsConcern_0 rfl (lv_at hl 0 rfl) ?_
  refine va_get (D := D) (ci := 2) (v := .int (p2_hour σ)) (C := RX2) (T := TX2) (N := 7) hx hb hts in_X2_runsConcern_X2 hown hK hP 0 rfl rfl 5 (by decide) (hts _ lk_X2_runsConcern_28) (fun _ h9 => h9) rfl dX2_runsConcern_1 ?_
  refine lv_iconst (v := 2) hx hb dX2_runsConcern_4 (by decide) ?_
  refine lv_irem hx hb dX2_runsConcern_5 (by decide) ?_
  refine lv_if_ne (tgt := 13) hx hb dX2_runsConcern_6 (by decide) (fun hc1 => ?_) (fun hc1 => ?_)
  · rw [if_neg hc1] at h
    refine lv_iconst (v := 1) hx hb dX2_runsConcern_13 (by decide) ?_
    have h := Option.some.inj h
    subst h
    exact CT.iret Z hP hD hS dX2_runsConcern_14
  · rw [if_pos hc1] at h
    refine lv_iconst (v := 2) hx hb dX2_runsConcern_9 (by decide) ?_
    refine lv_goto (tgt := 14) hx hb dX2_runsConcern_10 (by decide) ?_
    have h := Option.some.inj h
    subst h
    exact CT.iret Z hP hD hS dX2_runsConcern_14

-- X2.runsTender
theorem lk_X2_runsTender_28 : Cond.fieldLink RX2 28 "KeyedFeelings$People" "hour" "I" ∈ wsX2_runsTender := by decide +kernel
theorem in_X2_runsTender_X2 : ∀ w ∈ wsX20, w ∈ wsX2_runsTender := by decide +kernel
noncomputable def f_X2_runsTender (σ : St2) : Option (Int32) := (if ((p2_hour σ) - (p2_hour σ) / 3 * 3) = 0 then some 0 else some 1)
noncomputable def rmX2_runsTender : Room := { frames := 0, cells := 0, slots := 0, locals := 0 }
set_option maxHeartbeats 4000000 in
set_option maxRecDepth 100000 in
theorem c_X2_runsTender (l : Launch) (D : va_G) (cA : Nat → ClassId) (a : Nat → Nat) (σ : St2) (res : Int32) (h : f_X2_runsTender σ = some res) : CT l D cA yX2_runsTender wsX2_runsTender rmX2_runsTender [.ref (a 0)] [w2 cA a σ] [w2 cA a σ] (some (.int res)) := by
  refine CT.start (cc := cX2_runsTender) (maxL := 1) (ret := (some .int)) (by decide) rfl (Nat.le_of_ble_eq_true rfl) ?_
  intro p e s m below meth c Z hP hD hS ls hl
  have Z : Cx p s m _ meth c cX2_runsTender 1 (some .int) wsX2_runsTender RX2 D cA := Z
  have hl : lv_has ls 1 [(0, .ref (a 0))] := hl
  obtain ⟨hx, hb, hml, hown, hts, hr, hlk, hKK⟩ := id Z
  have hK := hKK.1
  rw [f_X2_runsTender] at h
  refine lv_aload_n hx hb dX2_runsTender_0 rfl (lv_at hl 0 rfl) ?_
  refine va_get (D := D) (ci := 2) (v := .int (p2_hour σ)) (C := RX2) (T := TX2) (N := 7) hx hb hts in_X2_runsTender_X2 hown hK hP 0 rfl rfl 5 (by decide) (hts _ lk_X2_runsTender_28) (fun _ h9 => h9) rfl dX2_runsTender_1 ?_
  refine lv_iconst (v := 3) hx hb dX2_runsTender_4 (by decide) ?_
  refine lv_irem hx hb dX2_runsTender_5 (by decide) ?_
  refine lv_if_ne (tgt := 13) hx hb dX2_runsTender_6 (by decide) (fun hc1 => ?_) (fun hc1 => ?_)
  · rw [if_neg hc1] at h
    refine lv_iconst (v := 1) hx hb dX2_runsTender_13 (by decide) ?_
    have h := Option.some.inj h
    subst h
    exact CT.iret Z hP hD hS dX2_runsTender_14
  · rw [if_pos hc1] at h
    refine lv_iconst (v := 0) hx hb dX2_runsTender_9 (by decide) ?_
    refine lv_goto (tgt := 14) hx hb dX2_runsTender_10 (by decide) ?_
    have h := Option.some.inj h
    subst h
    exact CT.iret Z hP hD hS dX2_runsTender_14

-- X2.windsOneOf
theorem lk_X2_windsOneOf_22 : Cond.fieldLink RX2 22 "KeyedFeelings$People" "winds" "[I" ∈ wsX2_windsOneOf := by decide +kernel
theorem in_X2_windsOneOf_X2 : ∀ w ∈ wsX20, w ∈ wsX2_windsOneOf := by decide +kernel
noncomputable def f_X2_windsOneOf (σ : St2) (x1 : Int32) (x2 : Int32) : Option (Int32) := (if inB x1 6 = true then (if ((p2_winds σ) x1.toNatClampNeg) = (-4) then some 0 else (if inB x1 6 = true then (if (x2 &&& (1 <<< (((p2_winds σ) x1.toNatClampNeg) &&& 31))) = 0 then some 0 else some 1) else none)) else none)
noncomputable def rmX2_windsOneOf : Room := { frames := 0, cells := 0, slots := 0, locals := 0 }
set_option maxHeartbeats 4000000 in
set_option maxRecDepth 100000 in
theorem c_X2_windsOneOf (l : Launch) (D : va_G) (cA : Nat → ClassId) (a : Nat → Nat) (σ : St2) (x1 : Int32) (x2 : Int32) (res : Int32) (h : f_X2_windsOneOf σ x1 x2 = some res) : CT l D cA yX2_windsOneOf wsX2_windsOneOf rmX2_windsOneOf [.ref (a 0), .int x1, .int x2] [w2 cA a σ] [w2 cA a σ] (some (.int res)) := by
  refine CT.start (cc := cX2_windsOneOf) (maxL := 3) (ret := (some .boolean)) (by decide) rfl (Nat.le_of_ble_eq_true rfl) ?_
  intro p e s m below meth c Z hP hD hS ls hl
  have Z : Cx p s m _ meth c cX2_windsOneOf 3 (some .boolean) wsX2_windsOneOf RX2 D cA := Z
  have hl : lv_has ls 3 [(0, .ref (a 0)), (1, .int x1), (2, .int x2)] := hl
  obtain ⟨hx, hb, hml, hown, hts, hr, hlk, hKK⟩ := id Z
  have hK := hKK.1
  rw [f_X2_windsOneOf] at h
  refine lv_aload_n hx hb dX2_windsOneOf_0 rfl (lv_at hl 0 rfl) ?_
  refine va_get (D := D) (ci := 2) (v := .ref (a 3)) (C := RX2) (T := TX2) (N := 7) hx hb hts in_X2_windsOneOf_X2 hown hK hP 0 rfl rfl 3 (by decide) (hts _ lk_X2_windsOneOf_22) (fun _ h9 => h9) rfl dX2_windsOneOf_1 ?_
  refine lv_iload_n hx hb dX2_windsOneOf_4 rfl (lv_at hl 1 rfl) ?_
  obtain ⟨hg1, h⟩ := if_inv h
  refine va_iald hx hb hK hP 3 0 rfl rfl (inB_in hg1) dX2_windsOneOf_5 ?_
  refine lv_bipush (v := (-4)) hx hb dX2_windsOneOf_6 (by decide) ?_
  refine lv_icmp_eq (tgt := 28) hx hb dX2_windsOneOf_8 (by decide) (fun hc2 => ?_) (fun hc2 => ?_)
  · rw [if_pos hc2] at h
    refine lv_iconst (v := 0) hx hb dX2_windsOneOf_28 (by decide) ?_
    have h := Option.some.inj h
    subst h
    exact CT.zret Z (nar_bool (Or.inl rfl)) hP hD hS dX2_windsOneOf_29
  · rw [if_neg hc2] at h
    refine lv_iload_n hx hb dX2_windsOneOf_11 rfl (lv_at hl 2 rfl) ?_
    refine lv_iconst (v := 1) hx hb dX2_windsOneOf_12 (by decide) ?_
    refine lv_aload_n hx hb dX2_windsOneOf_13 rfl (lv_at hl 0 rfl) ?_
    refine va_get (D := D) (ci := 2) (v := .ref (a 3)) (C := RX2) (T := TX2) (N := 7) hx hb hts in_X2_windsOneOf_X2 hown hK hP 0 rfl rfl 3 (by decide) (hts _ lk_X2_windsOneOf_22) (fun _ h9 => h9) rfl dX2_windsOneOf_14 ?_
    refine lv_iload_n hx hb dX2_windsOneOf_17 rfl (lv_at hl 1 rfl) ?_
    obtain ⟨hg3, h⟩ := if_inv h
    refine va_iald hx hb hK hP 3 0 rfl rfl (inB_in hg3) dX2_windsOneOf_18 ?_
    refine lv_ishl hx hb dX2_windsOneOf_19 ?_
    refine lv_iand hx hb dX2_windsOneOf_20 ?_
    refine lv_if_eq (tgt := 28) hx hb dX2_windsOneOf_21 (by decide) (fun hc4 => ?_) (fun hc4 => ?_)
    · rw [if_pos hc4] at h
      refine lv_iconst (v := 0) hx hb dX2_windsOneOf_28 (by decide) ?_
      have h := Option.some.inj h
      subst h
      exact CT.zret Z (nar_bool (Or.inl rfl)) hP hD hS dX2_windsOneOf_29
    · rw [if_neg hc4] at h
      refine lv_iconst (v := 1) hx hb dX2_windsOneOf_24 (by decide) ?_
      refine lv_goto (tgt := 29) hx hb dX2_windsOneOf_25 (by decide) ?_
      have h := Option.some.inj h
      subst h
      exact CT.zret Z (nar_bool (Or.inr rfl)) hP hD hS dX2_windsOneOf_29

-- X2.runsOff
theorem lk_X2_runsOff_15 : Cond.fieldLink RX2 15 "KeyedFeelings$People" "kinds" "[I" ∈ wsX2_runsOff := by decide +kernel
theorem in_X2_runsOff_X2 : ∀ w ∈ wsX20, w ∈ wsX2_runsOff := by decide +kernel
noncomputable def f_X2_runsOff (σ : St2) (x1 : Int32) (x2 : Int32) : Option (Int32) := (if (x2 &&& (1 <<< (x1 &&& 31))) = 0 then (if inB x1 6 = true then (if ((p2_kinds σ) x1.toNatClampNeg) = 1 then ((f_X2_runsConcern σ).bind (fun r4 => some r4)) else (if ((p2_kinds σ) x1.toNatClampNeg) = 2 then ((f_X2_runsTender σ).bind (fun r6 => some r6)) else (if ((p2_kinds σ) x1.toNatClampNeg) = 3 then ((f_X2_runsConcern σ).bind (fun r8 => ((f_X2_windsOneOf σ x1 x2).bind (fun r9 => (if r9 = 0 then some (r8 + 0) else some (r8 + 2)))))) else (if ((p2_kinds σ) x1.toNatClampNeg) = 4 then ((f_X2_runsTender σ).bind (fun r12 => ((f_X2_woundBy σ x1).bind (fun r13 => (if r13 = 0 then some (r12 * 2) else some (r12 * 1)))))) else some 1)))) else none) else some 0)
noncomputable def rmX2_runsOff : Room := { frames := 1, cells := 0, slots := 0, locals := 23 }
set_option maxHeartbeats 4000000 in
set_option maxRecDepth 100000 in
theorem c_X2_runsOff (l : Launch) (D : va_G) (cA : Nat → ClassId) (a : Nat → Nat) (σ : St2) (x1 : Int32) (x2 : Int32) (res : Int32) (h : f_X2_runsOff σ x1 x2 = some res) : CT l D cA yX2_runsOff wsX2_runsOff rmX2_runsOff [.ref (a 0), .int x1, .int x2] [w2 cA a σ] [w2 cA a σ] (some (.int res)) := by
  refine CT.start (cc := cX2_runsOff) (maxL := 3) (ret := (some .int)) (by decide) rfl (Nat.le_of_ble_eq_true rfl) ?_
  intro p e s m below meth c Z hP hD hS ls hl
  have Z : Cx p s m _ meth c cX2_runsOff 3 (some .int) wsX2_runsOff RX2 D cA := Z
  have hl : lv_has ls 3 [(0, .ref (a 0)), (1, .int x1), (2, .int x2)] := hl
  obtain ⟨hx, hb, hml, hown, hts, hr, hlk, hKK⟩ := id Z
  have hK := hKK.1
  rw [f_X2_runsOff] at h
  refine lv_iload_n hx hb dX2_runsOff_0 rfl (lv_at hl 2 rfl) ?_
  refine lv_iconst (v := 1) hx hb dX2_runsOff_1 (by decide) ?_
  refine lv_iload_n hx hb dX2_runsOff_2 rfl (lv_at hl 1 rfl) ?_
  refine lv_ishl hx hb dX2_runsOff_3 ?_
  refine lv_iand hx hb dX2_runsOff_4 ?_
  refine lv_if_eq (tgt := 10) hx hb dX2_runsOff_5 (by decide) (fun hc1 => ?_) (fun hc1 => ?_)
  · rw [if_pos hc1] at h
    refine lv_aload_n hx hb dX2_runsOff_10 rfl (lv_at hl 0 rfl) ?_
    refine va_get (D := D) (ci := 2) (v := .ref (a 1)) (C := RX2) (T := TX2) (N := 7) hx hb hts in_X2_runsOff_X2 hown hK hP 0 rfl rfl 1 (by decide) (hts _ lk_X2_runsOff_15) (fun _ h9 => h9) rfl dX2_runsOff_11 ?_
    refine lv_iload_n hx hb dX2_runsOff_14 rfl (lv_at hl 1 rfl) ?_
    obtain ⟨hg2, h⟩ := if_inv h
    refine va_iald hx hb hK hP 1 0 rfl rfl (inB_in hg2) dX2_runsOff_15 ?_
    by_cases hc3 : ((p2_kinds σ) x1.toNatClampNeg) = 1
    · rw [if_pos hc3] at h
      refine lv_tableIn (tgt := 48) (off := 32) hx hb dX2_runsOff_16 (by rw [hc3]; decide) (by rw [hc3]; decide) (by rw [hc3]; rfl) (by decide) ?_
      refine lv_aload_n hx hb dX2_runsOff_48 rfl (lv_at hl 0 rfl) ?_
      obtain ⟨r4, hr4, h⟩ := bind_inv h
      refine kV (rest := []) (st1 := [.int r4]) (cr := []) (cs' := [w2 cA a σ]) Z (c_X2_runsConcern l D cA a σ r4 hr4) 0 gX2_runsOff_X2_runsConcern rfl hdX2_runsConcern ⟨rfl, rfl⟩ ⟨Nat.le_of_ble_eq_true rfl, Nat.le_of_ble_eq_true rfl⟩ ⟨Nat.zero_le _, Nat.zero_le _⟩ hP hD hS hl.1 rfl rfl rfl (Nat.le_of_ble_eq_true rfl) 2 rfl rfl rfl [0] [] [0] rfl rfl rfl rfl rfl dX2_runsOff_49 (fun H locs hP hD hS => ?_)
      have h := Option.some.inj h
      subst h
      exact CT.iret Z hP hD hS dX2_runsOff_52
    · rw [if_neg hc3] at h
      by_cases hc5 : ((p2_kinds σ) x1.toNatClampNeg) = 2
      · rw [if_pos hc5] at h
        refine lv_tableIn (tgt := 53) (off := 37) hx hb dX2_runsOff_16 (by rw [hc5]; decide) (by rw [hc5]; decide) (by rw [hc5]; rfl) (by decide) ?_
        refine lv_aload_n hx hb dX2_runsOff_53 rfl (lv_at hl 0 rfl) ?_
        obtain ⟨r6, hr6, h⟩ := bind_inv h
        refine kV (rest := []) (st1 := [.int r6]) (cr := []) (cs' := [w2 cA a σ]) Z (c_X2_runsTender l D cA a σ r6 hr6) 0 gX2_runsOff_X2_runsTender rfl hdX2_runsTender ⟨rfl, rfl⟩ ⟨Nat.le_of_ble_eq_true rfl, Nat.le_of_ble_eq_true rfl⟩ ⟨Nat.zero_le _, Nat.zero_le _⟩ hP hD hS hl.1 rfl rfl rfl (Nat.le_of_ble_eq_true rfl) 2 rfl rfl rfl [0] [] [0] rfl rfl rfl rfl rfl dX2_runsOff_54 (fun H locs hP hD hS => ?_)
        have h := Option.some.inj h
        subst h
        exact CT.iret Z hP hD hS dX2_runsOff_57
      · rw [if_neg hc5] at h
        by_cases hc7 : ((p2_kinds σ) x1.toNatClampNeg) = 3
        · rw [if_pos hc7] at h
          refine lv_tableIn (tgt := 58) (off := 42) hx hb dX2_runsOff_16 (by rw [hc7]; decide) (by rw [hc7]; decide) (by rw [hc7]; rfl) (by decide) ?_
          refine lv_aload_n hx hb dX2_runsOff_58 rfl (lv_at hl 0 rfl) ?_
          obtain ⟨r8, hr8, h⟩ := bind_inv h
          refine kV (rest := []) (st1 := [.int r8]) (cr := []) (cs' := [w2 cA a σ]) Z (c_X2_runsConcern l D cA a σ r8 hr8) 0 gX2_runsOff_X2_runsConcern rfl hdX2_runsConcern ⟨rfl, rfl⟩ ⟨Nat.le_of_ble_eq_true rfl, Nat.le_of_ble_eq_true rfl⟩ ⟨Nat.zero_le _, Nat.zero_le _⟩ hP hD hS hl.1 rfl rfl rfl (Nat.le_of_ble_eq_true rfl) 2 rfl rfl rfl [0] [] [0] rfl rfl rfl rfl rfl dX2_runsOff_59 (fun H locs hP hD hS => ?_)
          refine lv_aload_n hx hb dX2_runsOff_62 rfl (lv_at hl 0 rfl) ?_
          refine lv_iload_n hx hb dX2_runsOff_63 rfl (lv_at hl 1 rfl) ?_
          refine lv_iload_n hx hb dX2_runsOff_64 rfl (lv_at hl 2 rfl) ?_
          obtain ⟨r9, hr9, h⟩ := bind_inv h
          refine kV (rest := [.int r8]) (st1 := [.int r9, .int r8]) (cr := []) (cs' := [w2 cA a σ]) Z (c_X2_windsOneOf l D cA a σ x1 x2 r9 hr9) 2 gX2_runsOff_X2_windsOneOf rfl hdX2_windsOneOf ⟨rfl, rfl⟩ ⟨Nat.le_of_ble_eq_true rfl, Nat.le_of_ble_eq_true rfl⟩ ⟨Nat.zero_le _, Nat.zero_le _⟩ hP hD hS hl.1 rfl rfl rfl (Nat.le_of_ble_eq_true rfl) 2 rfl rfl rfl [0] [] [0] rfl rfl rfl rfl rfl dX2_runsOff_65 (fun H locs hP hD hS => ?_)
          refine lv_if_eq (tgt := 75) hx hb dX2_runsOff_68 (by decide) (fun hc10 => ?_) (fun hc10 => ?_)
          · rw [if_pos hc10] at h
            refine lv_iconst (v := 0) hx hb dX2_runsOff_75 (by decide) ?_
            refine lv_iadd hx hb dX2_runsOff_76 ?_
            have h := Option.some.inj h
            subst h
            exact CT.iret Z hP hD hS dX2_runsOff_77
          · rw [if_neg hc10] at h
            refine lv_iconst (v := 2) hx hb dX2_runsOff_71 (by decide) ?_
            refine lv_goto (tgt := 76) hx hb dX2_runsOff_72 (by decide) ?_
            refine lv_iadd hx hb dX2_runsOff_76 ?_
            have h := Option.some.inj h
            subst h
            exact CT.iret Z hP hD hS dX2_runsOff_77
        · rw [if_neg hc7] at h
          by_cases hc11 : ((p2_kinds σ) x1.toNatClampNeg) = 4
          · rw [if_pos hc11] at h
            refine lv_tableIn (tgt := 78) (off := 62) hx hb dX2_runsOff_16 (by rw [hc11]; decide) (by rw [hc11]; decide) (by rw [hc11]; rfl) (by decide) ?_
            refine lv_aload_n hx hb dX2_runsOff_78 rfl (lv_at hl 0 rfl) ?_
            obtain ⟨r12, hr12, h⟩ := bind_inv h
            refine kV (rest := []) (st1 := [.int r12]) (cr := []) (cs' := [w2 cA a σ]) Z (c_X2_runsTender l D cA a σ r12 hr12) 0 gX2_runsOff_X2_runsTender rfl hdX2_runsTender ⟨rfl, rfl⟩ ⟨Nat.le_of_ble_eq_true rfl, Nat.le_of_ble_eq_true rfl⟩ ⟨Nat.zero_le _, Nat.zero_le _⟩ hP hD hS hl.1 rfl rfl rfl (Nat.le_of_ble_eq_true rfl) 2 rfl rfl rfl [0] [] [0] rfl rfl rfl rfl rfl dX2_runsOff_79 (fun H locs hP hD hS => ?_)
            refine lv_aload_n hx hb dX2_runsOff_82 rfl (lv_at hl 0 rfl) ?_
            refine lv_iload_n hx hb dX2_runsOff_83 rfl (lv_at hl 1 rfl) ?_
            obtain ⟨r13, hr13, h⟩ := bind_inv h
            refine kV (rest := [.int r12]) (st1 := [.int r13, .int r12]) (cr := []) (cs' := [w2 cA a σ]) Z (c_X2_woundBy l D cA a σ x1 r13 hr13) 1 gX2_runsOff_X2_woundBy rfl hdX2_woundBy ⟨rfl, rfl⟩ ⟨Nat.le_of_ble_eq_true rfl, Nat.le_of_ble_eq_true rfl⟩ ⟨Nat.zero_le _, Nat.zero_le _⟩ hP hD hS hl.1 rfl rfl rfl (Nat.le_of_ble_eq_true rfl) 2 rfl rfl rfl [0] [] [0] rfl rfl rfl rfl rfl dX2_runsOff_84 (fun H locs hP hD hS => ?_)
            refine lv_if_ne (tgt := 94) hx hb dX2_runsOff_87 (by decide) (fun hc14 => ?_) (fun hc14 => ?_)
            · rw [if_neg hc14] at h
              refine lv_iconst (v := 1) hx hb dX2_runsOff_94 (by decide) ?_
              refine lv_imul hx hb dX2_runsOff_95 ?_
              have h := Option.some.inj h
              subst h
              exact CT.iret Z hP hD hS dX2_runsOff_96
            · rw [if_pos hc14] at h
              refine lv_iconst (v := 2) hx hb dX2_runsOff_90 (by decide) ?_
              refine lv_goto (tgt := 95) hx hb dX2_runsOff_91 (by decide) ?_
              refine lv_imul hx hb dX2_runsOff_95 ?_
              have h := Option.some.inj h
              subst h
              exact CT.iret Z hP hD hS dX2_runsOff_96
          · rw [if_neg hc11] at h
            have hc3n := sw_ne (k := 1) 1 (by decide) hc3
            have hc5n := sw_ne (k := 2) 2 (by decide) hc5
            have hc7n := sw_ne (k := 3) 3 (by decide) hc7
            have hc11n := sw_ne (k := 4) 4 (by decide) hc11
            refine lv_tableOut (tgt := 97) hx hb dX2_runsOff_16 (by omega) (by decide) ?_
            refine lv_iconst (v := 1) hx hb dX2_runsOff_97 (by decide) ?_
            have h := Option.some.inj h
            subst h
            exact CT.iret Z hP hD hS dX2_runsOff_98
  · rw [if_neg hc1] at h
    refine lv_iconst (v := 0) hx hb dX2_runsOff_8 (by decide) ?_
    have h := Option.some.inj h
    subst h
    exact CT.iret Z hP hD hS dX2_runsOff_9

-- X2.run
theorem lk_X2_run_9 : Cond.fieldLink RX2 9 "KeyedFeelings$People" "size" "I" ∈ wsX2_run := by decide +kernel
theorem in_X2_run_X2 : ∀ w ∈ wsX20, w ∈ wsX2_run := by decide +kernel
theorem lk_X2_run_19 : Cond.fieldLink RX2 19 "KeyedFeelings$People" "turns" "[I" ∈ wsX2_run := by decide +kernel
theorem jm_X2_run_max_65 : Cond.methodLink RX2 65 Lib.Math.max.name ∈ wsX2_run := by decide +kernel
theorem js_X2_run_max : Cond.static Lib.Math.max.name ∈ wsX2_run := by decide +kernel
theorem ji_X2_run : Cond.initialized "java/lang/Math" ∈ wsX2_run := by decide +kernel
theorem jc_X2_run_max : Cond.code Lib.Math.max.name Lib.Math.max.code 2 (some .int) ∈ wsX2_run := by decide +kernel
theorem lk_X2_run_28 : Cond.fieldLink RX2 28 "KeyedFeelings$People" "hour" "I" ∈ wsX2_run := by decide +kernel
noncomputable def lp_X2_run_7 (x1 : Int32) : Nat → Int32 → St2 → Option (Int32 × St2)
  | 0, _, _ => none
  | n + 1, x2, σ => (if (p2_size σ) ≤ x2 then some (x2, σ) else (if inB x2 6 = true then ((f_X2_runsOff σ x2 x1).bind (fun r4 => (if inB x2 6 = true then lp_X2_run_7 x1 n (x2 + 1) (s2_turns σ (upd (p2_turns σ) x2.toNatClampNeg (if 0 < (((p2_turns σ) x2.toNatClampNeg) - r4) then (((p2_turns σ) x2.toNatClampNeg) - r4) else 0))) else none))) else none))
noncomputable def f_X2_run (σ : St2) : Option (St2) := ((f_X2_stopped σ).bind (fun r1 => ((lp_X2_run_7 r1 FU 0 σ).bind (fun q6 => some (s2_hour q6.2 ((p2_hour q6.2) + 1))))))
noncomputable def rmX2_run : Room := { frames := 2, cells := 0, slots := 0, locals := 45 }
set_option maxHeartbeats 4000000 in
set_option maxRecDepth 100000 in
theorem t_X2_run_7 {p : Program} {l : Launch} {e : Env} {s : State} {m : MethodId} {args : Array Value} {below : List Frame} {meth : Method} {c : Code} {D : va_G} {cA : Nat → ClassId} {A0 : Nat → Prop} {H0 : Heap} {a : Nat → Nat} (Z : Cx p s m args meth c cX2_run 3 none wsX2_run RX2 D cA) (x1 : Int32) {Q : State → Prop} : ∀ (n : Nat) (x2 : Int32) (σ : St2) (q : Int32 × St2), lp_X2_run_7 x1 n x2 σ = some q → ∀ (H : Heap) (locs : List Loc) (ls : Array Slot), va_P D vwCl ([w2 cA a σ] : List va_W).flatten H → va_D A0 ([w2 cA a σ] : List va_W).flatten → va_S A0 H0 H locs → lv_has ls 3 [(0, .ref (a 0)), (1, .int x1), (2, .int x2)] → (∀ (H : Heap) (locs : List Loc) (ls : Array Slot), va_P D vwCl ([w2 cA a q.2] : List va_W).flatten H → va_D A0 ([w2 cA a q.2] : List va_W).flatten → va_S A0 H0 H locs → lv_has ls 3 [(0, .ref (a 0)), (1, .int x1), (2, .int q.1)] → W p l e rmX2_run s m args below meth c H locs 0 0 Q (F0 m 44 ls [])) → W p l e rmX2_run s m args below meth c H locs 0 0 Q (F0 m 7 ls []) := by
  obtain ⟨hx, hb, hml, hown, hts, hr, hlk, hKK⟩ := id Z
  have hK := hKK.1
  intro n
  induction n with
  | zero =>
    intro x2 σ q h
    rw [lp_X2_run_7] at h
    cases h
  | succ n ih =>
    intro x2 σ q h H locs ls hP hD hS hl kk
    rw [lp_X2_run_7] at h
    refine lv_iload_n hx hb dX2_run_7 rfl (lv_at hl 2 rfl) ?_
    refine lv_aload_n hx hb dX2_run_8 rfl (lv_at hl 0 rfl) ?_
    refine va_get (D := D) (ci := 2) (v := .int (p2_size σ)) (C := RX2) (T := TX2) (N := 7) hx hb hts in_X2_run_X2 hown hK hP 0 rfl rfl 0 (by decide) (hts _ lk_X2_run_9) (fun _ h9 => h9) rfl dX2_run_9 ?_
    refine lv_icmp_ge (tgt := 44) hx hb dX2_run_12 (by decide) (fun hc2 => ?_) (fun hc2 => ?_)
    · rw [if_pos hc2] at h
      have h := Option.some.inj h
      subst h
      exact kk _ _ _ hP hD hS (lv_sub hl [0, 1, 2] rfl)
    · rw [if_neg hc2] at h
      refine lv_aload_n hx hb dX2_run_15 rfl (lv_at hl 0 rfl) ?_
      refine va_get (D := D) (ci := 2) (v := .ref (a 2)) (C := RX2) (T := TX2) (N := 7) hx hb hts in_X2_run_X2 hown hK hP 0 rfl rfl 2 (by decide) (hts _ lk_X2_run_19) (fun _ h9 => h9) rfl dX2_run_16 ?_
      refine lv_iload_n hx hb dX2_run_19 rfl (lv_at hl 2 rfl) ?_
      refine lv_iconst (v := 0) hx hb dX2_run_20 (by decide) ?_
      refine lv_aload_n hx hb dX2_run_21 rfl (lv_at hl 0 rfl) ?_
      refine va_get (D := D) (ci := 2) (v := .ref (a 2)) (C := RX2) (T := TX2) (N := 7) hx hb hts in_X2_run_X2 hown hK hP 0 rfl rfl 2 (by decide) (hts _ lk_X2_run_19) (fun _ h9 => h9) rfl dX2_run_22 ?_
      refine lv_iload_n hx hb dX2_run_25 rfl (lv_at hl 2 rfl) ?_
      obtain ⟨hg3, h⟩ := if_inv h
      refine va_iald hx hb hK hP 2 0 rfl rfl (inB_in hg3) dX2_run_26 ?_
      refine lv_aload_n hx hb dX2_run_27 rfl (lv_at hl 0 rfl) ?_
      refine lv_iload_n hx hb dX2_run_28 rfl (lv_at hl 2 rfl) ?_
      refine lv_iload_n hx hb dX2_run_29 rfl (lv_at hl 1 rfl) ?_
      obtain ⟨r4, hr4, h⟩ := bind_inv h
      refine kV (rest := [.int ((p2_turns σ) x2.toNatClampNeg), .int 0, .int x2, .ref (a 2)]) (st1 := [.int r4, .int ((p2_turns σ) x2.toNatClampNeg), .int 0, .int x2, .ref (a 2)]) (cr := []) (cs' := [w2 cA a σ]) Z (c_X2_runsOff l D cA a σ x2 x1 r4 hr4) 2 gX2_run_X2_runsOff rfl hdX2_runsOff ⟨rfl, rfl⟩ ⟨Nat.le_of_ble_eq_true rfl, Nat.le_of_ble_eq_true rfl⟩ ⟨Nat.zero_le _, Nat.zero_le _⟩ hP hD hS hl.1 rfl rfl rfl (Nat.le_of_ble_eq_true rfl) 2 rfl rfl rfl [0] [] [0] rfl rfl rfl rfl rfl dX2_run_30 (fun H locs hP hD hS => ?_)
      refine lv_isub hx hb dX2_run_33 ?_
      refine va_mmax hx hb (hml.trans hl.1.symm) hown (hts _ jm_X2_run_max_65) (hts _ js_X2_run_max) (hts _ ji_X2_run) (hts _ jc_X2_run_max) (Nat.le_of_ble_eq_true rfl) (Nat.le_of_ble_eq_true rfl) (Nat.zero_le _) (Nat.zero_le _) dX2_run_34 ?_
      obtain ⟨hg5, h⟩ := if_inv h
      refine va_iast hx hb hK hP hD hS 2 0 rfl rfl (inB_in hg5) dX2_run_37 (fun H locs hP hD hS => ?_)
      have hP : va_P D vwCl ([w2 cA a (s2_turns σ (upd (p2_turns σ) x2.toNatClampNeg (if 0 < (((p2_turns σ) x2.toNatClampNeg) - r4) then (((p2_turns σ) x2.toNatClampNeg) - r4) else 0)))] : List va_W).flatten H := hP
      have hD : va_D _ ([w2 cA a (s2_turns σ (upd (p2_turns σ) x2.toNatClampNeg (if 0 < (((p2_turns σ) x2.toNatClampNeg) - r4) then (((p2_turns σ) x2.toNatClampNeg) - r4) else 0)))] : List va_W).flatten := hD
      refine lv_iinc (v := x2 + 1) (lv' := [(2, .int (x2 + 1)), (0, .ref (a 0)), (1, .int x1)]) hx hb dX2_run_38 hl (k := 2) rfl rfl (by decide) rfl (fun ls hl => ?_)
      refine lv_goto (tgt := 7) hx hb dX2_run_41 (by decide) ?_
      exact ih _ _ _ h _ _ _ hP hD hS (lv_sub hl [1, 2, 0] rfl) kk
set_option maxHeartbeats 4000000 in
set_option maxRecDepth 100000 in
theorem c_X2_run (l : Launch) (D : va_G) (cA : Nat → ClassId) (a : Nat → Nat) (σ : St2) (res : St2) (h : f_X2_run σ = some res) : CT l D cA yX2_run wsX2_run rmX2_run [.ref (a 0)] [w2 cA a σ] [w2 cA a res] none := by
  refine CT.start (cc := cX2_run) (maxL := 3) (ret := none) (by decide) rfl (Nat.le_of_ble_eq_true rfl) ?_
  intro p e s m below meth c Z hP hD hS ls hl
  have Z : Cx p s m _ meth c cX2_run 3 none wsX2_run RX2 D cA := Z
  have hl : lv_has ls 3 [(0, .ref (a 0))] := hl
  obtain ⟨hx, hb, hml, hown, hts, hr, hlk, hKK⟩ := id Z
  have hK := hKK.1
  rw [f_X2_run] at h
  refine lv_aload_n hx hb dX2_run_0 rfl (lv_at hl 0 rfl) ?_
  obtain ⟨r1, hr1, h⟩ := bind_inv h
  refine kV (rest := []) (st1 := [.int r1]) (cr := []) (cs' := [w2 cA a σ]) Z (c_X2_stopped l D cA a σ r1 hr1) 0 gX2_run_X2_stopped rfl hdX2_stopped ⟨rfl, rfl⟩ ⟨Nat.le_of_ble_eq_true rfl, Nat.le_of_ble_eq_true rfl⟩ ⟨Nat.zero_le _, Nat.zero_le _⟩ hP hD hS hl.1 rfl rfl rfl (Nat.le_of_ble_eq_true rfl) 2 rfl rfl rfl [0] [] [0] rfl rfl rfl rfl rfl dX2_run_1 (fun H locs hP hD hS => ?_)
  refine lv_istore_n (lv' := [(1, .int r1), (0, .ref (a 0))]) hx hb dX2_run_4 rfl hl (by decide) rfl (fun ls hl => ?_)
  refine lv_iconst (v := 0) hx hb dX2_run_5 (by decide) ?_
  refine lv_istore_n (lv' := [(2, .int 0), (1, .int r1), (0, .ref (a 0))]) hx hb dX2_run_6 rfl hl (by decide) rfl (fun ls hl => ?_)
  obtain ⟨q6, hq6, h⟩ := bind_inv h
  refine t_X2_run_7 Z r1 FU _ _ _ hq6 _ _ _ hP hD hS (lv_sub hl [2, 1, 0] rfl) (fun H locs ls hP hD hS hl => ?_)
  refine lv_aload_n hx hb dX2_run_44 rfl (lv_at hl 0 rfl) ?_
  refine lv_dup hx hb dX2_run_45 rfl ?_
  refine va_get (D := D) (ci := 2) (v := .int (p2_hour q6.2)) (C := RX2) (T := TX2) (N := 7) hx hb hts in_X2_run_X2 hown hK hP 0 rfl rfl 5 (by decide) (hts _ lk_X2_run_28) (fun _ h9 => h9) rfl dX2_run_46 ?_
  refine lv_iconst (v := 1) hx hb dX2_run_49 (by decide) ?_
  refine lv_iadd hx hb dX2_run_50 ?_
  refine va_put (D := D) (ci := 2) (v := .int ((p2_hour q6.2) + 1)) (ty := .int) (C := RX2) (T := TX2) (N := 7) hx hb hts in_X2_run_X2 tyX2 tyX2_ok nmX2 hown hK hP hD hS 0 rfl rfl 5 (by decide) (hts _ lk_X2_run_28) (fun _ h9 => h9) rfl (tyX2_ok 5 (by decide)) rfl rfl (Nat.le_of_ble_eq_true rfl) dX2_run_51 (fun H locs hP hD hS => ?_)
  have hP : va_P D vwCl ([w2 cA a (s2_hour q6.2 ((p2_hour q6.2) + 1))] : List va_W).flatten H := hP
  have hD : va_D _ ([w2 cA a (s2_hour q6.2 ((p2_hour q6.2) + 1))] : List va_W).flatten := hD
  have h := Option.some.inj h
  subst h
  exact CT.vret Z hP hD hS dX2_run_54

-- X2.passHour
noncomputable def f_X2_passHour (σ : St2) : Option (St2) := ((f_X2_isWindingHour σ).bind (fun r1 => (if r1 = 0 then ((f_X2_run σ).bind (fun r3 => some r3)) else ((f_X2_winders σ).bind (fun r4 => ((f_X2_wind σ r4).bind (fun r5 => ((f_X2_run r5).bind (fun r6 => some r6)))))))))
noncomputable def rmX2_passHour : Room := { frames := 3, cells := 0, slots := 0, locals := 67 }
set_option maxHeartbeats 4000000 in
set_option maxRecDepth 100000 in
theorem c_X2_passHour (l : Launch) (D : va_G) (cA : Nat → ClassId) (a : Nat → Nat) (σ : St2) (res : St2) (h : f_X2_passHour σ = some res) : CT l D cA yX2_passHour wsX2_passHour rmX2_passHour [.ref (a 0)] [w2 cA a σ] [w2 cA a res] none := by
  refine CT.start (cc := cX2_passHour) (maxL := 1) (ret := none) (by decide) rfl (Nat.le_of_ble_eq_true rfl) ?_
  intro p e s m below meth c Z hP hD hS ls hl
  have Z : Cx p s m _ meth c cX2_passHour 1 none wsX2_passHour RX2 D cA := Z
  have hl : lv_has ls 1 [(0, .ref (a 0))] := hl
  obtain ⟨hx, hb, hml, hown, hts, hr, hlk, hKK⟩ := id Z
  have hK := hKK.1
  rw [f_X2_passHour] at h
  refine lv_aload_n hx hb dX2_passHour_0 rfl (lv_at hl 0 rfl) ?_
  obtain ⟨r1, hr1, h⟩ := bind_inv h
  refine kV (rest := []) (st1 := [.int r1]) (cr := []) (cs' := [w2 cA a σ]) Z (c_X2_isWindingHour l D cA a σ r1 hr1) 0 gX2_passHour_X2_isWindingHour rfl hdX2_isWindingHour ⟨rfl, rfl⟩ ⟨Nat.le_of_ble_eq_true rfl, Nat.le_of_ble_eq_true rfl⟩ ⟨Nat.zero_le _, Nat.zero_le _⟩ hP hD hS hl.1 rfl rfl rfl (Nat.le_of_ble_eq_true rfl) 2 rfl rfl rfl [0] [] [0] rfl rfl rfl rfl rfl dX2_passHour_1 (fun H locs hP hD hS => ?_)
  refine lv_if_eq (tgt := 15) hx hb dX2_passHour_4 (by decide) (fun hc2 => ?_) (fun hc2 => ?_)
  · rw [if_pos hc2] at h
    refine lv_aload_n hx hb dX2_passHour_15 rfl (lv_at hl 0 rfl) ?_
    obtain ⟨r3, hr3, h⟩ := bind_inv h
    refine kV (rest := []) (st1 := []) (cr := []) (cs' := [w2 cA a r3]) Z (c_X2_run l D cA a σ r3 hr3) 0 gX2_passHour_X2_run rfl hdX2_run ⟨rfl, rfl⟩ ⟨Nat.le_of_ble_eq_true rfl, Nat.le_of_ble_eq_true rfl⟩ ⟨Nat.zero_le _, Nat.zero_le _⟩ hP hD hS hl.1 rfl rfl rfl (Nat.le_of_ble_eq_true rfl) 2 rfl rfl rfl [0] [] [0] rfl rfl rfl rfl rfl dX2_passHour_16 (fun H locs hP hD hS => ?_)
    have h := Option.some.inj h
    subst h
    exact CT.vret Z hP hD hS dX2_passHour_19
  · rw [if_neg hc2] at h
    refine lv_aload_n hx hb dX2_passHour_7 rfl (lv_at hl 0 rfl) ?_
    refine lv_aload_n hx hb dX2_passHour_8 rfl (lv_at hl 0 rfl) ?_
    obtain ⟨r4, hr4, h⟩ := bind_inv h
    refine kV (rest := [.ref (a 0)]) (st1 := [.int r4, .ref (a 0)]) (cr := []) (cs' := [w2 cA a σ]) Z (c_X2_winders l D cA a σ r4 hr4) 0 gX2_passHour_X2_winders rfl hdX2_winders ⟨rfl, rfl⟩ ⟨Nat.le_of_ble_eq_true rfl, Nat.le_of_ble_eq_true rfl⟩ ⟨Nat.zero_le _, Nat.zero_le _⟩ hP hD hS hl.1 rfl rfl rfl (Nat.le_of_ble_eq_true rfl) 2 rfl rfl rfl [0] [] [0] rfl rfl rfl rfl rfl dX2_passHour_9 (fun H locs hP hD hS => ?_)
    obtain ⟨r5, hr5, h⟩ := bind_inv h
    refine kV (rest := []) (st1 := []) (cr := []) (cs' := [w2 cA a r5]) Z (c_X2_wind l D cA a σ r4 r5 hr5) 1 gX2_passHour_X2_wind rfl hdX2_wind ⟨rfl, rfl⟩ ⟨Nat.le_of_ble_eq_true rfl, Nat.le_of_ble_eq_true rfl⟩ ⟨Nat.zero_le _, Nat.zero_le _⟩ hP hD hS hl.1 rfl rfl rfl (Nat.le_of_ble_eq_true rfl) 2 rfl rfl rfl [0] [] [0] rfl rfl rfl rfl rfl dX2_passHour_12 (fun H locs hP hD hS => ?_)
    refine lv_aload_n hx hb dX2_passHour_15 rfl (lv_at hl 0 rfl) ?_
    obtain ⟨r6, hr6, h⟩ := bind_inv h
    refine kV (rest := []) (st1 := []) (cr := []) (cs' := [w2 cA a r6]) Z (c_X2_run l D cA a r5 r6 hr6) 0 gX2_passHour_X2_run rfl hdX2_run ⟨rfl, rfl⟩ ⟨Nat.le_of_ble_eq_true rfl, Nat.le_of_ble_eq_true rfl⟩ ⟨Nat.zero_le _, Nat.zero_le _⟩ hP hD hS hl.1 rfl rfl rfl (Nat.le_of_ble_eq_true rfl) 2 rfl rfl rfl [0] [] [0] rfl rfl rfl rfl rfl dX2_passHour_16 (fun H locs hP hD hS => ?_)
    have h := Option.some.inj h
    subst h
    exact CT.vret Z hP hD hS dX2_passHour_19

-- X2.passHours
noncomputable def lp_X2_passHours_2 (x1 : Int32) : Nat → Int32 → St2 → Option (Int32 × St2)
  | 0, _, _ => none
  | n + 1, x2, σ => (if x1 ≤ x2 then some (x2, σ) else ((f_X2_passHour σ).bind (fun r2 => lp_X2_passHours_2 x1 n (x2 + 1) r2)))
noncomputable def f_X2_passHours (σ : St2) (x1 : Int32) : Option (St2) := ((lp_X2_passHours_2 x1 FU 0 σ).bind (fun q3 => some q3.2))
noncomputable def rmX2_passHours : Room := { frames := 4, cells := 0, slots := 0, locals := 87 }
set_option maxHeartbeats 4000000 in
set_option maxRecDepth 100000 in
theorem t_X2_passHours_2 {p : Program} {l : Launch} {e : Env} {s : State} {m : MethodId} {args : Array Value} {below : List Frame} {meth : Method} {c : Code} {D : va_G} {cA : Nat → ClassId} {A0 : Nat → Prop} {H0 : Heap} {a : Nat → Nat} (Z : Cx p s m args meth c cX2_passHours 3 none wsX2_passHours RX2 D cA) (x1 : Int32) {Q : State → Prop} : ∀ (n : Nat) (x2 : Int32) (σ : St2) (q : Int32 × St2), lp_X2_passHours_2 x1 n x2 σ = some q → ∀ (H : Heap) (locs : List Loc) (ls : Array Slot), va_P D vwCl ([w2 cA a σ] : List va_W).flatten H → va_D A0 ([w2 cA a σ] : List va_W).flatten → va_S A0 H0 H locs → lv_has ls 3 [(0, .ref (a 0)), (1, .int x1), (2, .int x2)] → (∀ (H : Heap) (locs : List Loc) (ls : Array Slot), va_P D vwCl ([w2 cA a q.2] : List va_W).flatten H → va_D A0 ([w2 cA a q.2] : List va_W).flatten → va_S A0 H0 H locs → lv_has ls 3 [(0, .ref (a 0)), (1, .int x1), (2, .int q.1)] → W p l e rmX2_passHours s m args below meth c H locs 0 0 Q (F0 m 17 ls [])) → W p l e rmX2_passHours s m args below meth c H locs 0 0 Q (F0 m 2 ls []) := by
  obtain ⟨hx, hb, hml, hown, hts, hr, hlk, hKK⟩ := id Z
  have hK := hKK.1
  intro n
  induction n with
  | zero =>
    intro x2 σ q h
    rw [lp_X2_passHours_2] at h
    cases h
  | succ n ih =>
    intro x2 σ q h H locs ls hP hD hS hl kk
    rw [lp_X2_passHours_2] at h
    refine lv_iload_n hx hb dX2_passHours_2 rfl (lv_at hl 2 rfl) ?_
    refine lv_iload_n hx hb dX2_passHours_3 rfl (lv_at hl 1 rfl) ?_
    refine lv_icmp_ge (tgt := 17) hx hb dX2_passHours_4 (by decide) (fun hc1 => ?_) (fun hc1 => ?_)
    · rw [if_pos hc1] at h
      have h := Option.some.inj h
      subst h
      exact kk _ _ _ hP hD hS (lv_sub hl [0, 1, 2] rfl)
    · rw [if_neg hc1] at h
      refine lv_aload_n hx hb dX2_passHours_7 rfl (lv_at hl 0 rfl) ?_
      obtain ⟨r2, hr2, h⟩ := bind_inv h
      refine kV (rest := []) (st1 := []) (cr := []) (cs' := [w2 cA a r2]) Z (c_X2_passHour l D cA a σ r2 hr2) 0 gX2_passHours_X2_passHour rfl hdX2_passHour ⟨rfl, rfl⟩ ⟨Nat.le_of_ble_eq_true rfl, Nat.le_of_ble_eq_true rfl⟩ ⟨Nat.zero_le _, Nat.zero_le _⟩ hP hD hS hl.1 rfl rfl rfl (Nat.le_of_ble_eq_true rfl) 2 rfl rfl rfl [0] [] [0] rfl rfl rfl rfl rfl dX2_passHours_8 (fun H locs hP hD hS => ?_)
      refine lv_iinc (v := x2 + 1) (lv' := [(2, .int (x2 + 1)), (0, .ref (a 0)), (1, .int x1)]) hx hb dX2_passHours_11 hl (k := 2) rfl rfl (by decide) rfl (fun ls hl => ?_)
      refine lv_goto (tgt := 2) hx hb dX2_passHours_14 (by decide) ?_
      exact ih _ _ _ h _ _ _ hP hD hS (lv_sub hl [1, 2, 0] rfl) kk
set_option maxHeartbeats 4000000 in
set_option maxRecDepth 100000 in
theorem c_X2_passHours (l : Launch) (D : va_G) (cA : Nat → ClassId) (a : Nat → Nat) (σ : St2) (x1 : Int32) (res : St2) (h : f_X2_passHours σ x1 = some res) : CT l D cA yX2_passHours wsX2_passHours rmX2_passHours [.ref (a 0), .int x1] [w2 cA a σ] [w2 cA a res] none := by
  refine CT.start (cc := cX2_passHours) (maxL := 3) (ret := none) (by decide) rfl (Nat.le_of_ble_eq_true rfl) ?_
  intro p e s m below meth c Z hP hD hS ls hl
  have Z : Cx p s m _ meth c cX2_passHours 3 none wsX2_passHours RX2 D cA := Z
  have hl : lv_has ls 3 [(0, .ref (a 0)), (1, .int x1)] := hl
  obtain ⟨hx, hb, hml, hown, hts, hr, hlk, hKK⟩ := id Z
  have hK := hKK.1
  rw [f_X2_passHours] at h
  refine lv_iconst (v := 0) hx hb dX2_passHours_0 (by decide) ?_
  refine lv_istore_n (lv' := [(2, .int 0), (0, .ref (a 0)), (1, .int x1)]) hx hb dX2_passHours_1 rfl hl (by decide) rfl (fun ls hl => ?_)
  obtain ⟨q3, hq3, h⟩ := bind_inv h
  refine t_X2_passHours_2 Z x1 FU _ _ _ hq3 _ _ _ hP hD hS (lv_sub hl [1, 2, 0] rfl) (fun H locs ls hP hD hS hl => ?_)
  have h := Option.some.inj h
  subst h
  exact CT.vret Z hP hD hS dX2_passHours_17

-- X2.passUntilStopped
noncomputable def lp_X2_passUntilStopped_2 (x1 : Int32) (x2 : Int32) : Nat → Int32 → St2 → Option (Int32 × St2)
  | 0, _, _ => none
  | n + 1, x3, σ => (if x2 ≤ x3 then ((f_X2_stopped σ).bind (fun r2 => (if (r2 &&& x1) = x1 then some (x2, σ) else some ((-4), σ)))) else ((f_X2_stopped σ).bind (fun r4 => (if (r4 &&& x1) = x1 then some (x3, σ) else ((f_X2_passHour σ).bind (fun r6 => lp_X2_passUntilStopped_2 x1 x2 n (x3 + 1) r6))))))
noncomputable def f_X2_passUntilStopped (σ : St2) (x1 : Int32) (x2 : Int32) : Option (Int32 × St2) := lp_X2_passUntilStopped_2 x1 x2 FU 0 σ
noncomputable def rmX2_passUntilStopped : Room := { frames := 4, cells := 0, slots := 0, locals := 87 }
set_option maxHeartbeats 4000000 in
set_option maxRecDepth 100000 in
theorem t_X2_passUntilStopped_2 {p : Program} {l : Launch} {e : Env} {s : State} {m : MethodId} {args : Array Value} {below : List Frame} {meth : Method} {c : Code} {D : va_G} {cA : Nat → ClassId} {a : Nat → Nat} (Z : Cx p s m args meth c cX2_passUntilStopped 4 (some .int) wsX2_passUntilStopped RX2 D cA) (x1 : Int32) (x2 : Int32) {cs : List va_W} : ∀ (n : Nat) (x3 : Int32) (σ : St2) (q : Int32 × St2), lp_X2_passUntilStopped_2 x1 x2 n x3 σ = some q → ∀ (H : Heap) (locs : List Loc) (ls : Array Slot), va_P D vwCl ([w2 cA a σ] : List va_W).flatten H → va_D (aIn cs.flatten) ([w2 cA a σ] : List va_W).flatten → va_S (aIn cs.flatten) s.heap H locs → lv_has ls 4 [(0, .ref (a 0)), (1, .int x1), (2, .int x2), (3, .int x3)] → W p l e rmX2_passUntilStopped s m args below meth c H locs 0 0 (MQ below (QR D cs [w2 cA a q.2] (some (.int q.1))) args s 0 0 (aIn cs.flatten)) (F0 m 2 ls []) := by
  obtain ⟨hx, hb, hml, hown, hts, hr, hlk, hKK⟩ := id Z
  have hK := hKK.1
  intro n
  induction n with
  | zero =>
    intro x3 σ q h
    rw [lp_X2_passUntilStopped_2] at h
    cases h
  | succ n ih =>
    intro x3 σ q h H locs ls hP hD hS hl 
    rw [lp_X2_passUntilStopped_2] at h
    refine lv_iload_n hx hb dX2_passUntilStopped_2 rfl (lv_at hl 3 rfl) ?_
    refine lv_iload_n hx hb dX2_passUntilStopped_3 rfl (lv_at hl 2 rfl) ?_
    refine lv_icmp_ge (tgt := 29) hx hb dX2_passUntilStopped_4 (by decide) (fun hc1 => ?_) (fun hc1 => ?_)
    · rw [if_pos hc1] at h
      refine lv_aload_n hx hb dX2_passUntilStopped_29 rfl (lv_at hl 0 rfl) ?_
      obtain ⟨r2, hr2, h⟩ := bind_inv h
      refine kV (rest := []) (st1 := [.int r2]) (cr := []) (cs' := [w2 cA a σ]) Z (c_X2_stopped l D cA a σ r2 hr2) 0 gX2_passUntilStopped_X2_stopped rfl hdX2_stopped ⟨rfl, rfl⟩ ⟨Nat.le_of_ble_eq_true rfl, Nat.le_of_ble_eq_true rfl⟩ ⟨Nat.zero_le _, Nat.zero_le _⟩ hP hD hS hl.1 rfl rfl rfl (Nat.le_of_ble_eq_true rfl) 2 rfl rfl rfl [0] [] [0] rfl rfl rfl rfl rfl dX2_passUntilStopped_30 (fun H locs hP hD hS => ?_)
      refine lv_iload_n hx hb dX2_passUntilStopped_33 rfl (lv_at hl 1 rfl) ?_
      refine lv_iand hx hb dX2_passUntilStopped_34 ?_
      refine lv_iload_n hx hb dX2_passUntilStopped_35 rfl (lv_at hl 1 rfl) ?_
      refine lv_icmp_ne (tgt := 43) hx hb dX2_passUntilStopped_36 (by decide) (fun hc3 => ?_) (fun hc3 => ?_)
      · rw [if_neg hc3] at h
        refine lv_bipush (v := (-4)) hx hb dX2_passUntilStopped_43 (by decide) ?_
        have h := Option.some.inj h
        subst h
        exact CT.iret Z hP hD hS dX2_passUntilStopped_45
      · rw [if_pos hc3] at h
        refine lv_iload_n hx hb dX2_passUntilStopped_39 rfl (lv_at hl 2 rfl) ?_
        refine lv_goto (tgt := 45) hx hb dX2_passUntilStopped_40 (by decide) ?_
        have h := Option.some.inj h
        subst h
        exact CT.iret Z hP hD hS dX2_passUntilStopped_45
    · rw [if_neg hc1] at h
      refine lv_aload_n hx hb dX2_passUntilStopped_7 rfl (lv_at hl 0 rfl) ?_
      obtain ⟨r4, hr4, h⟩ := bind_inv h
      refine kV (rest := []) (st1 := [.int r4]) (cr := []) (cs' := [w2 cA a σ]) Z (c_X2_stopped l D cA a σ r4 hr4) 0 gX2_passUntilStopped_X2_stopped rfl hdX2_stopped ⟨rfl, rfl⟩ ⟨Nat.le_of_ble_eq_true rfl, Nat.le_of_ble_eq_true rfl⟩ ⟨Nat.zero_le _, Nat.zero_le _⟩ hP hD hS hl.1 rfl rfl rfl (Nat.le_of_ble_eq_true rfl) 2 rfl rfl rfl [0] [] [0] rfl rfl rfl rfl rfl dX2_passUntilStopped_8 (fun H locs hP hD hS => ?_)
      refine lv_iload_n hx hb dX2_passUntilStopped_11 rfl (lv_at hl 1 rfl) ?_
      refine lv_iand hx hb dX2_passUntilStopped_12 ?_
      refine lv_iload_n hx hb dX2_passUntilStopped_13 rfl (lv_at hl 1 rfl) ?_
      refine lv_icmp_ne (tgt := 19) hx hb dX2_passUntilStopped_14 (by decide) (fun hc5 => ?_) (fun hc5 => ?_)
      · rw [if_neg hc5] at h
        refine lv_aload_n hx hb dX2_passUntilStopped_19 rfl (lv_at hl 0 rfl) ?_
        obtain ⟨r6, hr6, h⟩ := bind_inv h
        refine kV (rest := []) (st1 := []) (cr := []) (cs' := [w2 cA a r6]) Z (c_X2_passHour l D cA a σ r6 hr6) 0 gX2_passUntilStopped_X2_passHour rfl hdX2_passHour ⟨rfl, rfl⟩ ⟨Nat.le_of_ble_eq_true rfl, Nat.le_of_ble_eq_true rfl⟩ ⟨Nat.zero_le _, Nat.zero_le _⟩ hP hD hS hl.1 rfl rfl rfl (Nat.le_of_ble_eq_true rfl) 2 rfl rfl rfl [0] [] [0] rfl rfl rfl rfl rfl dX2_passUntilStopped_20 (fun H locs hP hD hS => ?_)
        refine lv_iinc (v := x3 + 1) (lv' := [(3, .int (x3 + 1)), (0, .ref (a 0)), (1, .int x1), (2, .int x2)]) hx hb dX2_passUntilStopped_23 hl (k := 3) rfl rfl (by decide) rfl (fun ls hl => ?_)
        refine lv_goto (tgt := 2) hx hb dX2_passUntilStopped_26 (by decide) ?_
        exact ih _ _ _ h _ _ _ hP hD hS (lv_sub hl [1, 2, 3, 0] rfl)
      · rw [if_pos hc5] at h
        refine lv_iload_n hx hb dX2_passUntilStopped_17 rfl (lv_at hl 3 rfl) ?_
        have h := Option.some.inj h
        subst h
        exact CT.iret Z hP hD hS dX2_passUntilStopped_18
set_option maxHeartbeats 4000000 in
set_option maxRecDepth 100000 in
theorem c_X2_passUntilStopped (l : Launch) (D : va_G) (cA : Nat → ClassId) (a : Nat → Nat) (σ : St2) (x1 : Int32) (x2 : Int32) (res : Int32 × St2) (h : f_X2_passUntilStopped σ x1 x2 = some res) : CT l D cA yX2_passUntilStopped wsX2_passUntilStopped rmX2_passUntilStopped [.ref (a 0), .int x1, .int x2] [w2 cA a σ] [w2 cA a res.2] (some (.int res.1)) := by
  refine CT.start (cc := cX2_passUntilStopped) (maxL := 4) (ret := (some .int)) (by decide) rfl (Nat.le_of_ble_eq_true rfl) ?_
  intro p e s m below meth c Z hP hD hS ls hl
  have Z : Cx p s m _ meth c cX2_passUntilStopped 4 (some .int) wsX2_passUntilStopped RX2 D cA := Z
  have hl : lv_has ls 4 [(0, .ref (a 0)), (1, .int x1), (2, .int x2)] := hl
  obtain ⟨hx, hb, hml, hown, hts, hr, hlk, hKK⟩ := id Z
  have hK := hKK.1
  rw [f_X2_passUntilStopped] at h
  refine lv_iconst (v := 0) hx hb dX2_passUntilStopped_0 (by decide) ?_
  refine lv_istore_n (lv' := [(3, .int 0), (0, .ref (a 0)), (1, .int x1), (2, .int x2)]) hx hb dX2_passUntilStopped_1 rfl hl (by decide) rfl (fun ls hl => ?_)
  exact t_X2_passUntilStopped_2 Z x1 x2 FU _ _ _ h _ _ _ hP hD hS (lv_sub hl [1, 2, 3, 0] rfl)

-- X2.lendByDraw
theorem lk_X2_lendByDraw_31 : Cond.fieldLink RX2 31 "KeyedFeelings$People" "draw" "I" ∈ wsX2_lendByDraw := by decide +kernel
theorem in_X2_lendByDraw_X2 : ∀ w ∈ wsX20, w ∈ wsX2_lendByDraw := by decide +kernel
theorem ck_X2_lendByDraw_95 : Cond.constant RX2 95 1103515245 ∈ wsX2_lendByDraw := by decide +kernel
theorem ck_X2_lendByDraw_96 : Cond.constant RX2 96 2147483647 ∈ wsX2_lendByDraw := by decide +kernel
theorem lk_X2_lendByDraw_9 : Cond.fieldLink RX2 9 "KeyedFeelings$People" "size" "I" ∈ wsX2_lendByDraw := by decide +kernel
theorem ck_X2_lendByDraw_97 : Cond.constant RX2 97 65536 ∈ wsX2_lendByDraw := by decide +kernel
noncomputable def f_X2_lendByDraw (σ : St2) : Option (St2) := (nam (nextD (p2_draw σ)) (fun y1 => (if (p2_size σ) ≤ 0 then some (s2_draw σ y1) else (if ((y1 / 65536) - (y1 / 65536) / 4 * 4) = 0 then (if ¬ (p2_size σ) = 0 then ((f_X2_addTurns (s2_draw σ y1) ((y1 / 128) - (y1 / 128) / (p2_size σ) * (p2_size σ)) 3).bind (fun r5 => some r5)) else none) else some (s2_draw σ y1)))))
noncomputable def rmX2_lendByDraw : Room := { frames := 2, cells := 0, slots := 0, locals := 43 }
set_option maxHeartbeats 4000000 in
set_option maxRecDepth 100000 in
theorem c_X2_lendByDraw (l : Launch) (D : va_G) (cA : Nat → ClassId) (a : Nat → Nat) (σ : St2) (res : St2) (h : f_X2_lendByDraw σ = some res) : CT l D cA yX2_lendByDraw wsX2_lendByDraw rmX2_lendByDraw [.ref (a 0)] [w2 cA a σ] [w2 cA a res] none := by
  refine CT.start (cc := cX2_lendByDraw) (maxL := 1) (ret := none) (by decide) rfl (Nat.le_of_ble_eq_true rfl) ?_
  intro p e s m below meth c Z hP hD hS ls hl
  have Z : Cx p s m _ meth c cX2_lendByDraw 1 none wsX2_lendByDraw RX2 D cA := Z
  have hl : lv_has ls 1 [(0, .ref (a 0))] := hl
  obtain ⟨hx, hb, hml, hown, hts, hr, hlk, hKK⟩ := id Z
  have hK := hKK.1
  rw [f_X2_lendByDraw] at h
  refine lv_aload_n hx hb dX2_lendByDraw_0 rfl (lv_at hl 0 rfl) ?_
  refine lv_aload_n hx hb dX2_lendByDraw_1 rfl (lv_at hl 0 rfl) ?_
  refine va_get (D := D) (ci := 2) (v := .int (p2_draw σ)) (C := RX2) (T := TX2) (N := 7) hx hb hts in_X2_lendByDraw_X2 hown hK hP 0 rfl rfl 6 (by decide) (hts _ lk_X2_lendByDraw_31) (fun _ h9 => h9) rfl dX2_lendByDraw_2 ?_
  refine lv_ldc hx hb hown (hts _ ck_X2_lendByDraw_95) dX2_lendByDraw_5 ?_
  refine lv_imul hx hb dX2_lendByDraw_7 ?_
  refine lv_sipush (v := 12345) hx hb dX2_lendByDraw_8 (by decide) ?_
  refine lv_iadd hx hb dX2_lendByDraw_11 ?_
  refine lv_ldc hx hb hown (hts _ ck_X2_lendByDraw_96) dX2_lendByDraw_12 ?_
  obtain ⟨y1, hy1, h⟩ := nam_inv h
  refine lv_iand hx hb dX2_lendByDraw_14 ?_
  refine lv_eqi (y := y1) hy1 ?_
  refine va_put (D := D) (ci := 2) (v := .int y1) (ty := .int) (C := RX2) (T := TX2) (N := 7) hx hb hts in_X2_lendByDraw_X2 tyX2 tyX2_ok nmX2 hown hK hP hD hS 0 rfl rfl 6 (by decide) (hts _ lk_X2_lendByDraw_31) (fun _ h9 => h9) rfl (tyX2_ok 6 (by decide)) rfl rfl (Nat.le_of_ble_eq_true rfl) dX2_lendByDraw_15 (fun H locs hP hD hS => ?_)
  have hP : va_P D vwCl ([w2 cA a (s2_draw σ y1)] : List va_W).flatten H := hP
  have hD : va_D _ ([w2 cA a (s2_draw σ y1)] : List va_W).flatten := hD
  refine lv_aload_n hx hb dX2_lendByDraw_18 rfl (lv_at hl 0 rfl) ?_
  refine va_get (D := D) (ci := 2) (v := .int (p2_size σ)) (C := RX2) (T := TX2) (N := 7) hx hb hts in_X2_lendByDraw_X2 hown hK hP 0 rfl rfl 0 (by decide) (hts _ lk_X2_lendByDraw_9) (fun _ h9 => h9) rfl dX2_lendByDraw_19 ?_
  refine lv_if_le (tgt := 55) hx hb dX2_lendByDraw_22 (by decide) (fun hc2 => ?_) (fun hc2 => ?_)
  · rw [if_pos hc2] at h
    have h := Option.some.inj h
    subst h
    exact CT.vret Z hP hD hS dX2_lendByDraw_55
  · rw [if_neg hc2] at h
    refine lv_aload_n hx hb dX2_lendByDraw_25 rfl (lv_at hl 0 rfl) ?_
    refine va_get (D := D) (ci := 2) (v := .int y1) (C := RX2) (T := TX2) (N := 7) hx hb hts in_X2_lendByDraw_X2 hown hK hP 0 rfl rfl 6 (by decide) (hts _ lk_X2_lendByDraw_31) (fun _ h9 => h9) rfl dX2_lendByDraw_26 ?_
    refine lv_ldc hx hb hown (hts _ ck_X2_lendByDraw_97) dX2_lendByDraw_29 ?_
    refine lv_idiv hx hb dX2_lendByDraw_31 (by decide) ?_
    refine lv_iconst (v := 4) hx hb dX2_lendByDraw_32 (by decide) ?_
    refine lv_irem hx hb dX2_lendByDraw_33 (by decide) ?_
    refine lv_if_ne (tgt := 55) hx hb dX2_lendByDraw_34 (by decide) (fun hc3 => ?_) (fun hc3 => ?_)
    · rw [if_neg hc3] at h
      have h := Option.some.inj h
      subst h
      exact CT.vret Z hP hD hS dX2_lendByDraw_55
    · rw [if_pos hc3] at h
      refine lv_aload_n hx hb dX2_lendByDraw_37 rfl (lv_at hl 0 rfl) ?_
      refine lv_aload_n hx hb dX2_lendByDraw_38 rfl (lv_at hl 0 rfl) ?_
      refine va_get (D := D) (ci := 2) (v := .int y1) (C := RX2) (T := TX2) (N := 7) hx hb hts in_X2_lendByDraw_X2 hown hK hP 0 rfl rfl 6 (by decide) (hts _ lk_X2_lendByDraw_31) (fun _ h9 => h9) rfl dX2_lendByDraw_39 ?_
      refine lv_sipush (v := 128) hx hb dX2_lendByDraw_42 (by decide) ?_
      refine lv_idiv hx hb dX2_lendByDraw_45 (by decide) ?_
      refine lv_aload_n hx hb dX2_lendByDraw_46 rfl (lv_at hl 0 rfl) ?_
      refine va_get (D := D) (ci := 2) (v := .int (p2_size σ)) (C := RX2) (T := TX2) (N := 7) hx hb hts in_X2_lendByDraw_X2 hown hK hP 0 rfl rfl 0 (by decide) (hts _ lk_X2_lendByDraw_9) (fun _ h9 => h9) rfl dX2_lendByDraw_47 ?_
      obtain ⟨hg4, h⟩ := if_inv h
      refine lv_irem hx hb dX2_lendByDraw_50 hg4 ?_
      refine lv_iconst (v := 3) hx hb dX2_lendByDraw_51 (by decide) ?_
      obtain ⟨r5, hr5, h⟩ := bind_inv h
      refine kV (rest := []) (st1 := []) (cr := []) (cs' := [w2 cA a r5]) Z (c_X2_addTurns l D cA a (s2_draw σ y1) ((y1 / 128) - (y1 / 128) / (p2_size σ) * (p2_size σ)) 3 r5 hr5) 2 gX2_lendByDraw_X2_addTurns rfl hdX2_addTurns ⟨rfl, rfl⟩ ⟨Nat.le_of_ble_eq_true rfl, Nat.le_of_ble_eq_true rfl⟩ ⟨Nat.zero_le _, Nat.zero_le _⟩ hP hD hS hl.1 rfl rfl rfl (Nat.le_of_ble_eq_true rfl) 2 rfl rfl rfl [0] [] [0] rfl rfl rfl rfl rfl dX2_lendByDraw_52 (fun H locs hP hD hS => ?_)
      have h := Option.some.inj h
      subst h
      exact CT.vret Z hP hD hS dX2_lendByDraw_55
