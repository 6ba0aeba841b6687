noncomputable def rmX1_become : Room := { frames := 1, cells := 0, slots := 0, locals := 22 }
set_option maxHeartbeats 4000000 in
set_option maxRecDepth 100000 in
theorem c_X1_become (l : Launch) (D : va_G) (cA : Nat → ClassId) (a b : Nat → Nat → Nat) (q r : St1) : CT l D cA yX1_become wsX1_become rmX1_become [.ref (a 0 0), .ref (b 0 0)] [w1 cA a q, w1 cA b r] [w1 cA a r, w1 cA b r] none := by
  have fl : ∀ x : St1, [w1 cA a x, w1 cA b r].flatten = ([w1h cA a x, w2 cA (a 1) (p1_ms x 0), w2 cA (a 2) (p1_ms x 1), w2 cA (a 3) (p1_ms x 2), w2 cA (a 4) (p1_ms x 3), w2 cA (a 5) (p1_ms x 4), w2 cA (a 6) (p1_ms x 5), w2 cA (a 7) (p1_ms x 6), w2 cA (a 8) (p1_ms x 7), w1h cA b r, w2 cA (b 1) (p1_ms r 0), w2 cA (b 2) (p1_ms r 1), w2 cA (b 3) (p1_ms r 2), w2 cA (b 4) (p1_ms r 3), w2 cA (b 5) (p1_ms r 4), w2 cA (b 6) (p1_ms r 5), w2 cA (b 7) (p1_ms r 6), w2 cA (b 8) (p1_ms r 7)] : List va_W).flatten := fun x => by simp [w1, List.append_assoc]
  refine CT.pre (cs := [w1h cA a q, w2 cA (a 1) (p1_ms q 0), w2 cA (a 2) (p1_ms q 1), w2 cA (a 3) (p1_ms q 2), w2 cA (a 4) (p1_ms q 3), w2 cA (a 5) (p1_ms q 4), w2 cA (a 6) (p1_ms q 5), w2 cA (a 7) (p1_ms q 6), w2 cA (a 8) (p1_ms q 7), w1h cA b r, w2 cA (b 1) (p1_ms r 0), w2 cA (b 2) (p1_ms r 1), w2 cA (b 3) (p1_ms r 2), w2 cA (b 4) (p1_ms r 3), w2 cA (b 5) (p1_ms r 4), w2 cA (b 6) (p1_ms r 5), w2 cA (b 7) (p1_ms r 6), w2 cA (b 8) (p1_ms r 7)]) ?_ (fl q)
  refine CT.post (cs' := [w1h cA a r, w2 cA (a 1) (p1_ms r 0), w2 cA (a 2) (p1_ms r 1), w2 cA (a 3) (p1_ms r 2), w2 cA (a 4) (p1_ms r 3), w2 cA (a 5) (p1_ms r 4), w2 cA (a 6) (p1_ms r 5), w2 cA (a 7) (p1_ms r 6), w2 cA (a 8) (p1_ms r 7), w1h cA b r, w2 cA (b 1) (p1_ms r 0), w2 cA (b 2) (p1_ms r 1), w2 cA (b 3) (p1_ms r 2), w2 cA (b 4) (p1_ms r 3), w2 cA (b 5) (p1_ms r 4), w2 cA (b 6) (p1_ms r 5), w2 cA (b 7) (p1_ms r 6), w2 cA (b 8) (p1_ms r 7)]) ?_ (fun H hh => by rw [fl r]; exact hh) (by rw [fl r]; try rfl)
  refine CT.start (cc := cX1_become) (maxL := 3) (ret := none) (by decide) rfl (Nat.le_of_ble_eq_true rfl) ?_
  intro p' e s m below meth c Z hP hD hS ls hl
  have Z : Cx p' s m _ meth c cX1_become 3 none wsX1_become RX1 D cA := Z
  have hl : lv_has ls 3 [(0, .ref (a 0 0)), (1, .ref (b 0 0))] := hl
  obtain ⟨hx, hb, hml, hown, hts, hr, hlk, hKK⟩ := id Z
  have hK := hKK.1
  refine lv_aload_n hx hb dX1_become_0 rfl (lv_at hl 0 rfl) ?_
  refine lv_aload_n hx hb dX1_become_1 rfl (lv_at hl 1 rfl) ?_
  refine va_get (D := D) (ci := 1) (v := .int (p1_size r)) (C := RX1) (T := TX1) (N := 3) hx hb hts in_X1_become_X1 hown hK hP 42 rfl rfl 0 (by decide) (hts _ lk_X1_become_7) (fun _ h9 => h9) rfl dX1_become_2 ?_
  refine va_put (D := D) (ci := 1) (v := .int (p1_size r)) (ty := .int) (C := RX1) (T := TX1) (N := 3) hx hb hts in_X1_become_X1 tyX1 tyX1_ok nmX1 hown hK hP hD hS 0 rfl rfl 0 (by decide) (hts _ lk_X1_become_7) (fun _ h9 => h9) rfl (tyX1_ok 0 (by decide)) rfl rfl (Nat.le_of_ble_eq_true rfl) dX1_become_5 (fun H locs hP hD hS => ?_)
  have hP : va_P D vwCl ([w1h cA a (p1_size r, p1_next q, p1_ms q), w2 cA (a 1) (p1_ms q 0), w2 cA (a 2) (p1_ms q 1), w2 cA (a 3) (p1_ms q 2), w2 cA (a 4) (p1_ms q 3), w2 cA (a 5) (p1_ms q 4), w2 cA (a 6) (p1_ms q 5), w2 cA (a 7) (p1_ms q 6), w2 cA (a 8) (p1_ms q 7), w1h cA b r, w2 cA (b 1) (p1_ms r 0), w2 cA (b 2) (p1_ms r 1), w2 cA (b 3) (p1_ms r 2), w2 cA (b 4) (p1_ms r 3), w2 cA (b 5) (p1_ms r 4), w2 cA (b 6) (p1_ms r 5), w2 cA (b 7) (p1_ms r 6), w2 cA (b 8) (p1_ms r 7)] : List va_W).flatten H := hP
  have hD : va_D _ ([w1h cA a (p1_size r, p1_next q, p1_ms q), w2 cA (a 1) (p1_ms q 0), w2 cA (a 2) (p1_ms q 1), w2 cA (a 3) (p1_ms q 2), w2 cA (a 4) (p1_ms q 3), w2 cA (a 5) (p1_ms q 4), w2 cA (a 6) (p1_ms q 5), w2 cA (a 7) (p1_ms q 6), w2 cA (a 8) (p1_ms q 7), w1h cA b r, w2 cA (b 1) (p1_ms r 0), w2 cA (b 2) (p1_ms r 1), w2 cA (b 3) (p1_ms r 2), w2 cA (b 4) (p1_ms r 3), w2 cA (b 5) (p1_ms r 4), w2 cA (b 6) (p1_ms r 5), w2 cA (b 7) (p1_ms r 6), w2 cA (b 8) (p1_ms r 7)] : List va_W).flatten := hD
  refine lv_aload_n hx hb dX1_become_8 rfl (lv_at hl 0 rfl) ?_
  refine lv_aload_n hx hb dX1_become_9 rfl (lv_at hl 1 rfl) ?_
  refine va_get (D := D) (ci := 1) (v := .int (p1_next r)) (C := RX1) (T := TX1) (N := 3) hx hb hts in_X1_become_X1 hown hK hP 42 rfl rfl 1 (by decide) (hts _ lk_X1_become_13) (fun _ h9 => h9) rfl dX1_become_10 ?_
  refine va_put (D := D) (ci := 1) (v := .int (p1_next r)) (ty := .int) (C := RX1) (T := TX1) (N := 3) hx hb hts in_X1_become_X1 tyX1 tyX1_ok nmX1 hown hK hP hD hS 0 rfl rfl 1 (by decide) (hts _ lk_X1_become_13) (fun _ h9 => h9) rfl (tyX1_ok 1 (by decide)) rfl rfl (Nat.le_of_ble_eq_true rfl) dX1_become_13 (fun H locs hP hD hS => ?_)
  have hP : va_P D vwCl ([w1h cA a (p1_size r, p1_next r, p1_ms q), w2 cA (a 1) (p1_ms q 0), w2 cA (a 2) (p1_ms q 1), w2 cA (a 3) (p1_ms q 2), w2 cA (a 4) (p1_ms q 3), w2 cA (a 5) (p1_ms q 4), w2 cA (a 6) (p1_ms q 5), w2 cA (a 7) (p1_ms q 6), w2 cA (a 8) (p1_ms q 7), w1h cA b r, w2 cA (b 1) (p1_ms r 0), w2 cA (b 2) (p1_ms r 1), w2 cA (b 3) (p1_ms r 2), w2 cA (b 4) (p1_ms r 3), w2 cA (b 5) (p1_ms r 4), w2 cA (b 6) (p1_ms r 5), w2 cA (b 7) (p1_ms r 6), w2 cA (b 8) (p1_ms r 7)] : List va_W).flatten H := hP
  have hD : va_D _ ([w1h cA a (p1_size r, p1_next r, p1_ms q), w2 cA (a 1) (p1_ms q 0), w2 cA (a 2) (p1_ms q 1), w2 cA (a 3) (p1_ms q 2), w2 cA (a 4) (p1_ms q 3), w2 cA (a 5) (p1_ms q 4), w2 cA (a 6) (p1_ms q 5), w2 cA (a 7) (p1_ms q 6), w2 cA (a 8) (p1_ms q 7), w1h cA b r, w2 cA (b 1) (p1_ms r 0), w2 cA (b 2) (p1_ms r 1), w2 cA (b 3) (p1_ms r 2), w2 cA (b 4) (p1_ms r 3), w2 cA (b 5) (p1_ms r 4), w2 cA (b 6) (p1_ms r 5), w2 cA (b 7) (p1_ms r 6), w2 cA (b 8) (p1_ms r 7)] : List va_W).flatten := hD
  refine lv_iconst (v := 0) hx hb dX1_become_16 (by decide) ?_
  refine lv_istore_n (lv' := [(2, .int 0), (0, .ref (a 0 0)), (1, .ref (b 0 0))]) hx hb dX1_become_17 rfl hl (by decide) rfl (fun ls hl => ?_)
  refine lv_iload_n hx hb dX1_become_18 rfl (lv_at hl 0 rfl) ?_
  refine lv_bipush (v := 8) hx hb dX1_become_19 (by decide) ?_
  refine lv_icmp_ge (tgt := 45) hx hb dX1_become_21 (by decide) (fun hc => absurd hc (by decide)) (fun _ => ?_)
  refine lv_aload_n hx hb dX1_become_24 rfl (lv_at hl 1 rfl) ?_
  refine va_get (D := D) (ci := 1) (v := .ref (a 0 1)) (C := RX1) (T := TX1) (N := 3) hx hb hts in_X1_become_X1 hown hK hP 0 rfl rfl 2 (by decide) (hts _ lk_X1_become_18) (fun _ h9 => h9) rfl dX1_become_25 ?_
  refine lv_iload_n hx hb dX1_become_28 rfl (lv_at hl 0 rfl) ?_
  refine va_aldq hx hb hK hP 1 2 rfl rfl (inB_in (by decide)) dX1_become_29 ?_
  refine lv_aload_n hx hb dX1_become_30 rfl (lv_at hl 2 rfl) ?_
  refine va_get (D := D) (ci := 1) (v := .ref (b 0 1)) (C := RX1) (T := TX1) (N := 3) hx hb hts in_X1_become_X1 hown hK hP 42 rfl rfl 2 (by decide) (hts _ lk_X1_become_18) (fun _ h9 => h9) rfl dX1_become_31 ?_
  refine lv_iload_n hx hb dX1_become_34 rfl (lv_at hl 0 rfl) ?_
  refine va_aldq hx hb hK hP 43 2 rfl rfl (inB_in (by decide)) dX1_become_35 ?_
  rw [show (0 : Int32).toNatClampNeg = 0 from rfl]
  refine kVN (rest := []) (st1 := []) (cr := [w1h cA a (p1_size r, p1_next r, p1_ms q), w2 cA (a 2) (p1_ms q 1), w2 cA (a 3) (p1_ms q 2), w2 cA (a 4) (p1_ms q 3), w2 cA (a 5) (p1_ms q 4), w2 cA (a 6) (p1_ms q 5), w2 cA (a 7) (p1_ms q 6), w2 cA (a 8) (p1_ms q 7), w1h cA b r, w2 cA (b 2) (p1_ms r 1), w2 cA (b 3) (p1_ms r 2), w2 cA (b 4) (p1_ms r 3), w2 cA (b 5) (p1_ms r 4), w2 cA (b 6) (p1_ms r 5), w2 cA (b 7) (p1_ms r 6), w2 cA (b 8) (p1_ms r 7)]) (cs' := [w1h cA a (p1_size r, p1_next r, p1_ms q), w2 cA (a 1) (p1_ms r 0), w2 cA (a 2) (p1_ms q 1), w2 cA (a 3) (p1_ms q 2), w2 cA (a 4) (p1_ms q 3), w2 cA (a 5) (p1_ms q 4), w2 cA (a 6) (p1_ms q 5), w2 cA (a 7) (p1_ms q 6), w2 cA (a 8) (p1_ms q 7), w1h cA b r, w2 cA (b 1) (p1_ms r 0), w2 cA (b 2) (p1_ms r 1), w2 cA (b 3) (p1_ms r 2), w2 cA (b 4) (p1_ms r 3), w2 cA (b 5) (p1_ms r 4), w2 cA (b 6) (p1_ms r 5), w2 cA (b 7) (p1_ms r 6), w2 cA (b 8) (p1_ms r 7)]) Z (c_become l D cA (a 1) (b 1) (p1_ms q 0) (p1_ms r 0)) 1 gX1_become_X2_become_n23 rfl hdX2_become nk_X1_23 n1_X1_become_X2 n2_X1_become_X2_become n3_X1_become_X2_become ⟨rfl, rfl⟩ ⟨Nat.le_of_ble_eq_true rfl, Nat.le_of_ble_eq_true rfl⟩ ⟨Nat.zero_le _, Nat.zero_le _⟩ hP hD hS hl.1 rfl rfl rfl (Nat.le_of_ble_eq_true rfl) 2 rfl rfl rfl [1, 10] [0, 2, 3, 4, 5, 6, 7, 8, 9, 11, 12, 13, 14, 15, 16, 17] [0, 16, 1, 2, 3, 4, 5, 6, 7, 8, 17, 9, 10, 11, 12, 13, 14, 15] rfl rfl rfl rfl rfl dX1_become_36 (fun H locs hP hD hS => ?_)
  refine lv_iinc (v := 1) (lv' := [(2, .int 1), (0, .ref (a 0 0)), (1, .ref (b 0 0))]) hx hb dX1_become_39 hl (k := 0) rfl rfl (by decide) rfl (fun ls hl => ?_)
  refine lv_goto (tgt := 18) hx hb dX1_become_42 (by decide) ?_
  refine lv_iload_n hx hb dX1_become_18 rfl (lv_at hl 0 rfl) ?_
  refine lv_bipush (v := 8) hx hb dX1_become_19 (by decide) ?_
  refine lv_icmp_ge (tgt := 45) hx hb dX1_become_21 (by decide) (fun hc => absurd hc (by decide)) (fun _ => ?_)
  refine lv_aload_n hx hb dX1_become_24 rfl (lv_at hl 1 rfl) ?_
  refine va_get (D := D) (ci := 1) (v := .ref (a 0 1)) (C := RX1) (T := TX1) (N := 3) hx hb hts in_X1_become_X1 hown hK hP 0 rfl rfl 2 (by decide) (hts _ lk_X1_become_18) (fun _ h9 => h9) rfl dX1_become_25 ?_
  refine lv_iload_n hx hb dX1_become_28 rfl (lv_at hl 0 rfl) ?_
  refine va_aldq hx hb hK hP 1 2 rfl rfl (inB_in (by decide)) dX1_become_29 ?_
  refine lv_aload_n hx hb dX1_become_30 rfl (lv_at hl 2 rfl) ?_
  refine va_get (D := D) (ci := 1) (v := .ref (b 0 1)) (C := RX1) (T := TX1) (N := 3) hx hb hts in_X1_become_X1 hown hK hP 42 rfl rfl 2 (by decide) (hts _ lk_X1_become_18) (fun _ h9 => h9) rfl dX1_become_31 ?_
  refine lv_iload_n hx hb dX1_become_34 rfl (lv_at hl 0 rfl) ?_
  refine va_aldq hx hb hK hP 43 2 rfl rfl (inB_in (by decide)) dX1_become_35 ?_
  rw [show (1 : Int32).toNatClampNeg = 1 from rfl]
  refine kVN (rest := []) (st1 := []) (cr := [w1h cA a (p1_size r, p1_next r, p1_ms q), w2 cA (a 1) (p1_ms r 0), w2 cA (a 3) (p1_ms q 2), w2 cA (a 4) (p1_ms q 3), w2 cA (a 5) (p1_ms q 4), w2 cA (a 6) (p1_ms q 5), w2 cA (a 7) (p1_ms q 6), w2 cA (a 8) (p1_ms q 7), w1h cA b r, w2 cA (b 1) (p1_ms r 0), w2 cA (b 3) (p1_ms r 2), w2 cA (b 4) (p1_ms r 3), w2 cA (b 5) (p1_ms r 4), w2 cA (b 6) (p1_ms r 5), w2 cA (b 7) (p1_ms r 6), w2 cA (b 8) (p1_ms r 7)]) (cs' := [w1h cA a (p1_size r, p1_next r, p1_ms q), w2 cA (a 1) (p1_ms r 0), w2 cA (a 2) (p1_ms r 1), w2 cA (a 3) (p1_ms q 2), w2 cA (a 4) (p1_ms q 3), w2 cA (a 5) (p1_ms q 4), w2 cA (a 6) (p1_ms q 5), w2 cA (a 7) (p1_ms q 6), w2 cA (a 8) (p1_ms q 7), w1h cA b r, w2 cA (b 1) (p1_ms r 0), w2 cA (b 2) (p1_ms r 1), w2 cA (b 3) (p1_ms r 2), w2 cA (b 4) (p1_ms r 3), w2 cA (b 5) (p1_ms r 4), w2 cA (b 6) (p1_ms r 5), w2 cA (b 7) (p1_ms r 6), w2 cA (b 8) (p1_ms r 7)]) Z (c_become l D cA (a 2) (b 2) (p1_ms q 1) (p1_ms r 1)) 1 gX1_become_X2_become_n23 rfl hdX2_become nk_X1_23 n1_X1_become_X2 n2_X1_become_X2_become n3_X1_become_X2_become ⟨rfl, rfl⟩ ⟨Nat.le_of_ble_eq_true rfl, Nat.le_of_ble_eq_true rfl⟩ ⟨Nat.zero_le _, Nat.zero_le _⟩ hP hD hS hl.1 rfl rfl rfl (Nat.le_of_ble_eq_true rfl) 2 rfl rfl rfl [2, 11] [0, 1, 3, 4, 5, 6, 7, 8, 9, 10, 12, 13, 14, 15, 16, 17] [0, 1, 16, 2, 3, 4, 5, 6, 7, 8, 9, 17, 10, 11, 12, 13, 14, 15] rfl rfl rfl rfl rfl dX1_become_36 (fun H locs hP hD hS => ?_)
  refine lv_iinc (v := 2) (lv' := [(2, .int 2), (0, .ref (a 0 0)), (1, .ref (b 0 0))]) hx hb dX1_become_39 hl (k := 0) rfl rfl (by decide) rfl (fun ls hl => ?_)
  refine lv_goto (tgt := 18) hx hb dX1_become_42 (by decide) ?_
  refine lv_iload_n hx hb dX1_become_18 rfl (lv_at hl 0 rfl) ?_
  refine lv_bipush (v := 8) hx hb dX1_become_19 (by decide) ?_
  refine lv_icmp_ge (tgt := 45) hx hb dX1_become_21 (by decide) (fun hc => absurd hc (by decide)) (fun _ => ?_)
  refine lv_aload_n hx hb dX1_become_24 rfl (lv_at hl 1 rfl) ?_
  refine va_get (D := D) (ci := 1) (v := .ref (a 0 1)) (C := RX1) (T := TX1) (N := 3) hx hb hts in_X1_become_X1 hown hK hP 0 rfl rfl 2 (by decide) (hts _ lk_X1_become_18) (fun _ h9 => h9) rfl dX1_become_25 ?_
  refine lv_iload_n hx hb dX1_become_28 rfl (lv_at hl 0 rfl) ?_
  refine va_aldq hx hb hK hP 1 2 rfl rfl (inB_in (by decide)) dX1_become_29 ?_
  refine lv_aload_n hx hb dX1_become_30 rfl (lv_at hl 2 rfl) ?_
  refine va_get (D := D) (ci := 1) (v := .ref (b 0 1)) (C := RX1) (T := TX1) (N := 3) hx hb hts in_X1_become_X1 hown hK hP 42 rfl rfl 2 (by decide) (hts _ lk_X1_become_18) (fun _ h9 => h9) rfl dX1_become_31 ?_
  refine lv_iload_n hx hb dX1_become_34 rfl (lv_at hl 0 rfl) ?_
  refine va_aldq hx hb hK hP 43 2 rfl rfl (inB_in (by decide)) dX1_become_35 ?_
  rw [show (2 : Int32).toNatClampNeg = 2 from rfl]
  refine kVN (rest := []) (st1 := []) (cr := [w1h cA a (p1_size r, p1_next r, p1_ms q), w2 cA (a 1) (p1_ms r 0), w2 cA (a 2) (p1_ms r 1), w2 cA (a 4) (p1_ms q 3), w2 cA (a 5) (p1_ms q 4), w2 cA (a 6) (p1_ms q 5), w2 cA (a 7) (p1_ms q 6), w2 cA (a 8) (p1_ms q 7), w1h cA b r, w2 cA (b 1) (p1_ms r 0), w2 cA (b 2) (p1_ms r 1), w2 cA (b 4) (p1_ms r 3), w2 cA (b 5) (p1_ms r 4), w2 cA (b 6) (p1_ms r 5), w2 cA (b 7) (p1_ms r 6), w2 cA (b 8) (p1_ms r 7)]) (cs' := [w1h cA a (p1_size r, p1_next r, p1_ms q), w2 cA (a 1) (p1_ms r 0), w2 cA (a 2) (p1_ms r 1), w2 cA (a 3) (p1_ms r 2), w2 cA (a 4) (p1_ms q 3), w2 cA (a 5) (p1_ms q 4), w2 cA (a 6) (p1_ms q 5), w2 cA (a 7) (p1_ms q 6), w2 cA (a 8) (p1_ms q 7), w1h cA b r, w2 cA (b 1) (p1_ms r 0), w2 cA (b 2) (p1_ms r 1), w2 cA (b 3) (p1_ms r 2), w2 cA (b 4) (p1_ms r 3), w2 cA (b 5) (p1_ms r 4), w2 cA (b 6) (p1_ms r 5), w2 cA (b 7) (p1_ms r 6), w2 cA (b 8) (p1_ms r 7)]) Z (c_become l D cA (a 3) (b 3) (p1_ms q 2) (p1_ms r 2)) 1 gX1_become_X2_become_n23 rfl hdX2_become nk_X1_23 n1_X1_become_X2 n2_X1_become_X2_become n3_X1_become_X2_become ⟨rfl, rfl⟩ ⟨Nat.le_of_ble_eq_true rfl, Nat.le_of_ble_eq_true rfl⟩ ⟨Nat.zero_le _, Nat.zero_le _⟩ hP hD hS hl.1 rfl rfl rfl (Nat.le_of_ble_eq_true rfl) 2 rfl rfl rfl [3, 12] [0, 1, 2, 4, 5, 6, 7, 8, 9, 10, 11, 13, 14, 15, 16, 17] [0, 1, 2, 16, 3, 4, 5, 6, 7, 8, 9, 10, 17, 11, 12, 13, 14, 15] rfl rfl rfl rfl rfl dX1_become_36 (fun H locs hP hD hS => ?_)
  refine lv_iinc (v := 3) (lv' := [(2, .int 3), (0, .ref (a 0 0)), (1, .ref (b 0 0))]) hx hb dX1_become_39 hl (k := 0) rfl rfl (by decide) rfl (fun ls hl => ?_)
  refine lv_goto (tgt := 18) hx hb dX1_become_42 (by decide) ?_
  refine lv_iload_n hx hb dX1_become_18 rfl (lv_at hl 0 rfl) ?_
  refine lv_bipush (v := 8) hx hb dX1_become_19 (by decide) ?_
  refine lv_icmp_ge (tgt := 45) hx hb dX1_become_21 (by decide) (fun hc => absurd hc (by decide)) (fun _ => ?_)
  refine lv_aload_n hx hb dX1_become_24 rfl (lv_at hl 1 rfl) ?_
  refine va_get (D := D) (ci := 1) (v := .ref (a 0 1)) (C := RX1) (T := TX1) (N := 3) hx hb hts in_X1_become_X1 hown hK hP 0 rfl rfl 2 (by decide) (hts _ lk_X1_become_18) (fun _ h9 => h9) rfl dX1_become_25 ?_
  refine lv_iload_n hx hb dX1_become_28 rfl (lv_at hl 0 rfl) ?_
  refine va_aldq hx hb hK hP 1 2 rfl rfl (inB_in (by decide)) dX1_become_29 ?_
  refine lv_aload_n hx hb dX1_become_30 rfl (lv_at hl 2 rfl) ?_
  refine va_get (D := D) (ci := 1) (v := .ref (b 0 1)) (C := RX1) (T := TX1) (N := 3) hx hb hts in_X1_become_X1 hown hK hP 42 rfl rfl 2 (by decide) (hts _ lk_X1_become_18) (fun _ h9 => h9) rfl dX1_become_31 ?_
  refine lv_iload_n hx hb dX1_become_34 rfl (lv_at hl 0 rfl) ?_
  refine va_aldq hx hb hK hP 43 2 rfl rfl (inB_in (by decide)) dX1_become_35 ?_
  rw [show (3 : Int32).toNatClampNeg = 3 from rfl]
  refine kVN (rest := []) (st1 := []) (cr := [w1h cA a (p1_size r, p1_next r, p1_ms q), w2 cA (a 1) (p1_ms r 0), w2 cA (a 2) (p1_ms r 1), w2 cA (a 3) (p1_ms r 2), w2 cA (a 5) (p1_ms q 4), w2 cA (a 6) (p1_ms q 5), w2 cA (a 7) (p1_ms q 6), w2 cA (a 8) (p1_ms q 7), w1h cA b r, w2 cA (b 1) (p1_ms r 0), w2 cA (b 2) (p1_ms r 1), w2 cA (b 3) (p1_ms r 2), w2 cA (b 5) (p1_ms r 4), w2 cA (b 6) (p1_ms r 5), w2 cA (b 7) (p1_ms r 6), w2 cA (b 8) (p1_ms r 7)]) (cs' := [w1h cA a (p1_size r, p1_next r, p1_ms q), w2 cA (a 1) (p1_ms r 0), w2 cA (a 2) (p1_ms r 1), w2 cA (a 3) (p1_ms r 2), w2 cA (a 4) (p1_ms r 3), w2 cA (a 5) (p1_ms q 4), w2 cA (a 6) (p1_ms q 5), w2 cA (a 7) (p1_ms q 6), w2 cA (a 8) (p1_ms q 7), w1h cA b r, w2 cA (b 1) (p1_ms r 0), w2 cA (b 2) (p1_ms r 1), w2 cA (b 3) (p1_ms r 2), w2 cA (b 4) (p1_ms r 3), w2 cA (b 5) (p1_ms r 4), w2 cA (b 6) (p1_ms r 5), w2 cA (b 7) (p1_ms r 6), w2 cA (b 8) (p1_ms r 7)]) Z (c_become l D cA (a 4) (b 4) (p1_ms q 3) (p1_ms r 3)) 1 gX1_become_X2_become_n23 rfl hdX2_become nk_X1_23 n1_X1_become_X2 n2_X1_become_X2_become n3_X1_become_X2_become ⟨rfl, rfl⟩ ⟨Nat.le_of_ble_eq_true rfl, Nat.le_of_ble_eq_true rfl⟩ ⟨Nat.zero_le _, Nat.zero_le _⟩ hP hD hS hl.1 rfl rfl rfl (Nat.le_of_ble_eq_true rfl) 2 rfl rfl rfl [4, 13] [0, 1, 2, 3, 5, 6, 7, 8, 9, 10, 11, 12, 14, 15, 16, 17] [0, 1, 2, 3, 16, 4, 5, 6, 7, 8, 9, 10, 11, 17, 12, 13, 14, 15] rfl rfl rfl rfl rfl dX1_become_36 (fun H locs hP hD hS => ?_)
  refine lv_iinc (v := 4) (lv' := [(2, .int 4), (0, .ref (a 0 0)), (1, .ref (b 0 0))]) hx hb dX1_become_39 hl (k := 0) rfl rfl (by decide) rfl (fun ls hl => ?_)
  refine lv_goto (tgt := 18) hx hb dX1_become_42 (by decide) ?_
  refine lv_iload_n hx hb dX1_become_18 rfl (lv_at hl 0 rfl) ?_
  refine lv_bipush (v := 8) hx hb dX1_become_19 (by decide) ?_
  refine lv_icmp_ge (tgt := 45) hx hb dX1_become_21 (by decide) (fun hc => absurd hc (by decide)) (fun _ => ?_)
  refine lv_aload_n hx hb dX1_become_24 rfl (lv_at hl 1 rfl) ?_
  refine va_get (D := D) (ci := 1) (v := .ref (a 0 1)) (C := RX1) (T := TX1) (N := 3) hx hb hts in_X1_become_X1 hown hK hP 0 rfl rfl 2 (by decide) (hts _ lk_X1_become_18) (fun _ h9 => h9) rfl dX1_become_25 ?_
  refine lv_iload_n hx hb dX1_become_28 rfl (lv_at hl 0 rfl) ?_
  refine va_aldq hx hb hK hP 1 2 rfl rfl (inB_in (by decide)) dX1_become_29 ?_
  refine lv_aload_n hx hb dX1_become_30 rfl (lv_at hl 2 rfl) ?_
  refine va_get (D := D) (ci := 1) (v := .ref (b 0 1)) (C := RX1) (T := TX1) (N := 3) hx hb hts in_X1_become_X1 hown hK hP 42 rfl rfl 2 (by decide) (hts _ lk_X1_become_18) (fun _ h9 => h9) rfl dX1_become_31 ?_
  refine lv_iload_n hx hb dX1_become_34 rfl (lv_at hl 0 rfl) ?_
  refine va_aldq hx hb hK hP 43 2 rfl rfl (inB_in (by decide)) dX1_become_35 ?_
  rw [show (4 : Int32).toNatClampNeg = 4 from rfl]
  refine kVN (rest := []) (st1 := []) (cr := [w1h cA a (p1_size r, p1_next r, p1_ms q), w2 cA (a 1) (p1_ms r 0), w2 cA (a 2) (p1_ms r 1), w2 cA (a 3) (p1_ms r 2), w2 cA (a 4) (p1_ms r 3), w2 cA (a 6) (p1_ms q 5), w2 cA (a 7) (p1_ms q 6), w2 cA (a 8) (p1_ms q 7), w1h cA b r, w2 cA (b 1) (p1_ms r 0), w2 cA (b 2) (p1_ms r 1), w2 cA (b 3) (p1_ms r 2), w2 cA (b 4) (p1_ms r 3), w2 cA (b 6) (p1_ms r 5), w2 cA (b 7) (p1_ms r 6), w2 cA (b 8) (p1_ms r 7)]) (cs' := [w1h cA a (p1_size r, p1_next r, p1_ms q), w2 cA (a 1) (p1_ms r 0), w2 cA (a 2) (p1_ms r 1), w2 cA (a 3) (p1_ms r 2), w2 cA (a 4) (p1_ms r 3), w2 cA (a 5) (p1_ms r 4), w2 cA (a 6) (p1_ms q 5), w2 cA (a 7) (p1_ms q 6), w2 cA (a 8) (p1_ms q 7), w1h cA b r, w2 cA (b 1) (p1_ms r 0), w2 cA (b 2) (p1_ms r 1), w2 cA (b 3) (p1_ms r 2), w2 cA (b 4) (p1_ms r 3), w2 cA (b 5) (p1_ms r 4), w2 cA (b 6) (p1_ms r 5), w2 cA (b 7) (p1_ms r 6), w2 cA (b 8) (p1_ms r 7)]) Z (c_become l D cA (a 5) (b 5) (p1_ms q 4) (p1_ms r 4)) 1 gX1_become_X2_become_n23 rfl hdX2_become nk_X1_23 n1_X1_become_X2 n2_X1_become_X2_become n3_X1_become_X2_become ⟨rfl, rfl⟩ ⟨Nat.le_of_ble_eq_true rfl, Nat.le_of_ble_eq_true rfl⟩ ⟨Nat.zero_le _, Nat.zero_le _⟩ hP hD hS hl.1 rfl rfl rfl (Nat.le_of_ble_eq_true rfl) 2 rfl rfl rfl [5, 14] [0, 1, 2, 3, 4, 6, 7, 8, 9, 10, 11, 12, 13, 15, 16, 17] [0, 1, 2, 3, 4, 16, 5, 6, 7, 8, 9, 10, 11, 12, 17, 13, 14, 15] rfl rfl rfl rfl rfl dX1_become_36 (fun H locs hP hD hS => ?_)
  refine lv_iinc (v := 5) (lv' := [(2, .int 5), (0, .ref (a 0 0)), (1, .ref (b 0 0))]) hx hb dX1_become_39 hl (k := 0) rfl rfl (by decide) rfl (fun ls hl => ?_)
  refine lv_goto (tgt := 18) hx hb dX1_become_42 (by decide) ?_
  refine lv_iload_n hx hb dX1_become_18 rfl (lv_at hl 0 rfl) ?_
  refine lv_bipush (v := 8) hx hb dX1_become_19 (by decide) ?_
  refine lv_icmp_ge (tgt := 45) hx hb dX1_become_21 (by decide) (fun hc => absurd hc (by decide)) (fun _ => ?_)
  refine lv_aload_n hx hb dX1_become_24 rfl (lv_at hl 1 rfl) ?_
  refine va_get (D := D) (ci := 1) (v := .ref (a 0 1)) (C := RX1) (T := TX1) (N := 3) hx hb hts in_X1_become_X1 hown hK hP 0 rfl rfl 2 (by decide) (hts _ lk_X1_become_18) (fun _ h9 => h9) rfl dX1_become_25 ?_
  refine lv_iload_n hx hb dX1_become_28 rfl (lv_at hl 0 rfl) ?_
  refine va_aldq hx hb hK hP 1 2 rfl rfl (inB_in (by decide)) dX1_become_29 ?_
  refine lv_aload_n hx hb dX1_become_30 rfl (lv_at hl 2 rfl) ?_
  refine va_get (D := D) (ci := 1) (v := .ref (b 0 1)) (C := RX1) (T := TX1) (N := 3) hx hb hts in_X1_become_X1 hown hK hP 42 rfl rfl 2 (by decide) (hts _ lk_X1_become_18) (fun _ h9 => h9) rfl dX1_become_31 ?_
  refine lv_iload_n hx hb dX1_become_34 rfl (lv_at hl 0 rfl) ?_
  refine va_aldq hx hb hK hP 43 2 rfl rfl (inB_in (by decide)) dX1_become_35 ?_
  rw [show (5 : Int32).toNatClampNeg = 5 from rfl]
  refine kVN (rest := []) (st1 := []) (cr := [w1h cA a (p1_size r, p1_next r, p1_ms q), w2 cA (a 1) (p1_ms r 0), w2 cA (a 2) (p1_ms r 1), w2 cA (a 3) (p1_ms r 2), w2 cA (a 4) (p1_ms r 3), w2 cA (a 5) (p1_ms r 4), w2 cA (a 7) (p1_ms q 6), w2 cA (a 8) (p1_ms q 7), w1h cA b r, w2 cA (b 1) (p1_ms r 0), w2 cA (b 2) (p1_ms r 1), w2 cA (b 3) (p1_ms r 2), w2 cA (b 4) (p1_ms r 3), w2 cA (b 5) (p1_ms r 4), w2 cA (b 7) (p1_ms r 6), w2 cA (b 8) (p1_ms r 7)]) (cs' := [w1h cA a (p1_size r, p1_next r, p1_ms q), w2 cA (a 1) (p1_ms r 0), w2 cA (a 2) (p1_ms r 1), w2 cA (a 3) (p1_ms r 2), w2 cA (a 4) (p1_ms r 3), w2 cA (a 5) (p1_ms r 4), w2 cA (a 6) (p1_ms r 5), w2 cA (a 7) (p1_ms q 6), w2 cA (a 8) (p1_ms q 7), w1h cA b r, w2 cA (b 1) (p1_ms r 0), w2 cA (b 2) (p1_ms r 1), w2 cA (b 3) (p1_ms r 2), w2 cA (b 4) (p1_ms r 3), w2 cA (b 5) (p1_ms r 4), w2 cA (b 6) (p1_ms r 5), w2 cA (b 7) (p1_ms r 6), w2 cA (b 8) (p1_ms r 7)]) Z (c_become l D cA (a 6) (b 6) (p1_ms q 5) (p1_ms r 5)) 1 gX1_become_X2_become_n23 rfl hdX2_become nk_X1_23 n1_X1_become_X2 n2_X1_become_X2_become n3_X1_become_X2_become ⟨rfl, rfl⟩ ⟨Nat.le_of_ble_eq_true rfl, Nat.le_of_ble_eq_true rfl⟩ ⟨Nat.zero_le _, Nat.zero_le _⟩ hP hD hS hl.1 rfl rfl rfl (Nat.le_of_ble_eq_true rfl) 2 rfl rfl rfl [6, 15] [0, 1, 2, 3, 4, 5, 7, 8, 9, 10, 11, 12, 13, 14, 16, 17] [0, 1, 2, 3, 4, 5, 16, 6, 7, 8, 9, 10, 11, 12, 13, 17, 14, 15] rfl rfl rfl rfl rfl dX1_become_36 (fun H locs hP hD hS => ?_)
  refine lv_iinc (v := 6) (lv' := [(2, .int 6), (0, .ref (a 0 0)), (1, .ref (b 0 0))]) hx hb dX1_become_39 hl (k := 0) rfl rfl (by decide) rfl (fun ls hl => ?_)
  refine lv_goto (tgt := 18) hx hb dX1_become_42 (by decide) ?_
  refine lv_iload_n hx hb dX1_become_18 rfl (lv_at hl 0 rfl) ?_
  refine lv_bipush (v := 8) hx hb dX1_become_19 (by decide) ?_
  refine lv_icmp_ge (tgt := 45) hx hb dX1_become_21 (by decide) (fun hc => absurd hc (by decide)) (fun _ => ?_)
  refine lv_aload_n hx hb dX1_become_24 rfl (lv_at hl 1 rfl) ?_
  refine va_get (D := D) (ci := 1) (v := .ref (a 0 1)) (C := RX1) (T := TX1) (N := 3) hx hb hts in_X1_become_X1 hown hK hP 0 rfl rfl 2 (by decide) (hts _ lk_X1_become_18) (fun _ h9 => h9) rfl dX1_become_25 ?_
  refine lv_iload_n hx hb dX1_become_28 rfl (lv_at hl 0 rfl) ?_
  refine va_aldq hx hb hK hP 1 2 rfl rfl (inB_in (by decide)) dX1_become_29 ?_
  refine lv_aload_n hx hb dX1_become_30 rfl (lv_at hl 2 rfl) ?_
  refine va_get (D := D) (ci := 1) (v := .ref (b 0 1)) (C := RX1) (T := TX1) (N := 3) hx hb hts in_X1_become_X1 hown hK hP 42 rfl rfl 2 (by decide) (hts _ lk_X1_become_18) (fun _ h9 => h9) rfl dX1_become_31 ?_
  refine lv_iload_n hx hb dX1_become_34 rfl (lv_at hl 0 rfl) ?_
  refine va_aldq hx hb hK hP 43 2 rfl rfl (inB_in (by decide)) dX1_become_35 ?_
  rw [show (6 : Int32).toNatClampNeg = 6 from rfl]
  refine kVN (rest := []) (st1 := []) (cr := [w1h cA a (p1_size r, p1_next r, p1_ms q), w2 cA (a 1) (p1_ms r 0), w2 cA (a 2) (p1_ms r 1), w2 cA (a 3) (p1_ms r 2), w2 cA (a 4) (p1_ms r 3), w2 cA (a 5) (p1_ms r 4), w2 cA (a 6) (p1_ms r 5), w2 cA (a 8) (p1_ms q 7), w1h cA b r, w2 cA (b 1) (p1_ms r 0), w2 cA (b 2) (p1_ms r 1), w2 cA (b 3) (p1_ms r 2), w2 cA (b 4) (p1_ms r 3), w2 cA (b 5) (p1_ms r 4), w2 cA (b 6) (p1_ms r 5), w2 cA (b 8) (p1_ms r 7)]) (cs' := [w1h cA a (p1_size r, p1_next r, p1_ms q), w2 cA (a 1) (p1_ms r 0), w2 cA (a 2) (p1_ms r 1), w2 cA (a 3) (p1_ms r 2), w2 cA (a 4) (p1_ms r 3), w2 cA (a 5) (p1_ms r 4), w2 cA (a 6) (p1_ms r 5), w2 cA (a 7) (p1_ms r 6), w2 cA (a 8) (p1_ms q 7), w1h cA b r, w2 cA (b 1) (p1_ms r 0), w2 cA (b 2) (p1_ms r 1), w2 cA (b 3) (p1_ms r 2), w2 cA (b 4) (p1_ms r 3), w2 cA (b 5) (p1_ms r 4), w2 cA (b 6) (p1_ms r 5), w2 cA (b 7) (p1_ms r 6), w2 cA (b 8) (p1_ms r 7)]) Z (c_become l D cA (a 7) (b 7) (p1_ms q 6) (p1_ms r 6)) 1 gX1_become_X2_become_n23 rfl hdX2_become nk_X1_23 n1_X1_become_X2 n2_X1_become_X2_become n3_X1_become_X2_become ⟨rfl, rfl⟩ ⟨Nat.le_of_ble_eq_true rfl, Nat.le_of_ble_eq_true rfl⟩ ⟨Nat.zero_le _, Nat.zero_le _⟩ hP hD hS hl.1 rfl rfl rfl (Nat.le_of_ble_eq_true rfl) 2 rfl rfl rfl [7, 16] [0, 1, 2, 3, 4, 5, 6, 8, 9, 10, 11, 12, 13, 14, 15, 17] [0, 1, 2, 3, 4, 5, 6, 16, 7, 8, 9, 10, 11, 12, 13, 14, 17, 15] rfl rfl rfl rfl rfl dX1_become_36 (fun H locs hP hD hS => ?_)
  refine lv_iinc (v := 7) (lv' := [(2, .int 7), (0, .ref (a 0 0)), (1, .ref (b 0 0))]) hx hb dX1_become_39 hl (k := 0) rfl rfl (by decide) rfl (fun ls hl => ?_)
  refine lv_goto (tgt := 18) hx hb dX1_become_42 (by decide) ?_
  refine lv_iload_n hx hb dX1_become_18 rfl (lv_at hl 0 rfl) ?_
  refine lv_bipush (v := 8) hx hb dX1_become_19 (by decide) ?_
  refine lv_icmp_ge (tgt := 45) hx hb dX1_become_21 (by decide) (fun hc => absurd hc (by decide)) (fun _ => ?_)
  refine lv_aload_n hx hb dX1_become_24 rfl (lv_at hl 1 rfl) ?_
  refine va_get (D := D) (ci := 1) (v := .ref (a 0 1)) (C := RX1) (T := TX1) (N := 3) hx hb hts in_X1_become_X1 hown hK hP 0 rfl rfl 2 (by decide) (hts _ lk_X1_become_18) (fun _ h9 => h9) rfl dX1_become_25 ?_
  refine lv_iload_n hx hb dX1_become_28 rfl (lv_at hl 0 rfl) ?_
  refine va_aldq hx hb hK hP 1 2 rfl rfl (inB_in (by decide)) dX1_become_29 ?_
  refine lv_aload_n hx hb dX1_become_30 rfl (lv_at hl 2 rfl) ?_
  refine va_get (D := D) (ci := 1) (v := .ref (b 0 1)) (C := RX1) (T := TX1) (N := 3) hx hb hts in_X1_become_X1 hown hK hP 42 rfl rfl 2 (by decide) (hts _ lk_X1_become_18) (fun _ h9 => h9) rfl dX1_become_31 ?_
  refine lv_iload_n hx hb dX1_become_34 rfl (lv_at hl 0 rfl) ?_
  refine va_aldq hx hb hK hP 43 2 rfl rfl (inB_in (by decide)) dX1_become_35 ?_
  rw [show (7 : Int32).toNatClampNeg = 7 from rfl]
  refine kVN (rest := []) (st1 := []) (cr := [w1h cA a (p1_size r, p1_next r, p1_ms q), w2 cA (a 1) (p1_ms r 0), w2 cA (a 2) (p1_ms r 1), w2 cA (a 3) (p1_ms r 2), w2 cA (a 4) (p1_ms r 3), w2 cA (a 5) (p1_ms r 4), w2 cA (a 6) (p1_ms r 5), w2 cA (a 7) (p1_ms r 6), w1h cA b r, w2 cA (b 1) (p1_ms r 0), w2 cA (b 2) (p1_ms r 1), w2 cA (b 3) (p1_ms r 2), w2 cA (b 4) (p1_ms r 3), w2 cA (b 5) (p1_ms r 4), w2 cA (b 6) (p1_ms r 5), w2 cA (b 7) (p1_ms r 6)]) (cs' := [w1h cA a (p1_size r, p1_next r, p1_ms q), w2 cA (a 1) (p1_ms r 0), w2 cA (a 2) (p1_ms r 1), w2 cA (a 3) (p1_ms r 2), w2 cA (a 4) (p1_ms r 3), w2 cA (a 5) (p1_ms r 4), w2 cA (a 6) (p1_ms r 5), w2 cA (a 7) (p1_ms r 6), w2 cA (a 8) (p1_ms r 7), w1h cA b r, w2 cA (b 1) (p1_ms r 0), w2 cA (b 2) (p1_ms r 1), w2 cA (b 3) (p1_ms r 2), w2 cA (b 4) (p1_ms r 3), w2 cA (b 5) (p1_ms r 4), w2 cA (b 6) (p1_ms r 5), w2 cA (b 7) (p1_ms r 6), w2 cA (b 8) (p1_ms r 7)]) Z (c_become l D cA (a 8) (b 8) (p1_ms q 7) (p1_ms r 7)) 1 gX1_become_X2_become_n23 rfl hdX2_become nk_X1_23 n1_X1_become_X2 n2_X1_become_X2_become n3_X1_become_X2_become ⟨rfl, rfl⟩ ⟨Nat.le_of_ble_eq_true rfl, Nat.le_of_ble_eq_true rfl⟩ ⟨Nat.zero_le _, Nat.zero_le _⟩ hP hD hS hl.1 rfl rfl rfl (Nat.le_of_ble_eq_true rfl) 2 rfl rfl rfl [8, 17] [0, 1, 2, 3, 4, 5, 6, 7, 9, 10, 11, 12, 13, 14, 15, 16] [0, 1, 2, 3, 4, 5, 6, 7, 16, 8, 9, 10, 11, 12, 13, 14, 15, 17] rfl rfl rfl rfl rfl dX1_become_36 (fun H locs hP hD hS => ?_)
  refine lv_iinc (v := 8) (lv' := [(2, .int 8), (0, .ref (a 0 0)), (1, .ref (b 0 0))]) hx hb dX1_become_39 hl (k := 0) rfl rfl (by decide) rfl (fun ls hl => ?_)
  refine lv_goto (tgt := 18) hx hb dX1_become_42 (by decide) ?_
  refine lv_iload_n hx hb dX1_become_18 rfl (lv_at hl 0 rfl) ?_
  refine lv_bipush (v := 8) hx hb dX1_become_19 (by decide) ?_
  refine lv_icmp_ge (tgt := 45) hx hb dX1_become_21 (by decide) (fun _ => ?_) (fun hc => absurd (by decide) hc)
  exact CT.vret Z hP hD hS dX1_become_45
