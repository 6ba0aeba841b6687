noncomputable def rmC (d : Nat) : Room := { frames := d + 1, cells := 0, slots := 0, locals := 26 * d + 60 }
theorem rmC_f (d : Nat) : (rmC d).frames + 1 ≤ (rmC (d + 1)).frames := Nat.le_refl _
theorem rmC_l (d : Nat) : 8 + (7 + 11) + (rmC d).locals ≤ (rmC (d + 1)).locals := by show 8 + (7 + 11) + (26 * d + 60) ≤ 26 * (d + 1) + 60; omega
theorem rmC_1 (d : Nat) : 1 ≤ (rmC (d + 1)).frames := by show 1 ≤ d + 1 + 1; omega
theorem rmC_2 (d : Nat) : (([] : List Value).map fun v => v.category).sum + (nativeFrameWords "java/lang/System" "arraycopy" 5 + 11) ≤ (rmC (d + 1)).locals := by
  have : (([] : List Value).map fun v => v.category).sum + (nativeFrameWords "java/lang/System" "arraycopy" 5 + 11) ≤ 60 := by decide
  exact Nat.le_trans this (by show 60 ≤ 26 * (d + 1) + 60; omega)
theorem lk_X0_choose_9 : Cond.fieldLink RX0 9 "KeyedFeelings$Matching" "fewest" "I" ∈ wsX0_choose := by decide +kernel
theorem in_X0_choose_X0 : ∀ w ∈ wsX00, w ∈ wsX0_choose := by decide +kernel
theorem in_X0_choose_X2 : ∀ w ∈ wsX20, w ∈ wsX0_choose := by decide +kernel
theorem lk_X0_choose_19 : Cond.fieldLink RX0 19 "KeyedFeelings$Matching" "telling" "[I" ∈ wsX0_choose := by decide +kernel
theorem lk_X0_choose_15 : Cond.fieldLink RX0 15 "KeyedFeelings$Matching" "best" "[I" ∈ wsX0_choose := by decide +kernel
theorem am_X0_choose : Cond.methodLink RX0 31 arraycopyName ∈ wsX0_choose := by decide +kernel
theorem an_X0_choose : Cond.native arraycopyName ∈ wsX0_choose := by decide +kernel
theorem as_X0_choose : Cond.static arraycopyName ∈ wsX0_choose := by decide +kernel
theorem ai_X0_choose : Cond.initialized "java/lang/System" ∈ wsX0_choose := by decide +kernel
-- X0.choose
noncomputable def lp_X0_choose_43 (rec : St0 → St2 → Int32 → Int32 → Int32 → Option St0) (τ : St2) (x2 : Int32) (x3 : Int32) (x4 : Int32) : Nat → Int32 → St0 → Option (Int32 × St0)
  | 0, _, _ => none
  | n + 1, x5, σ => (if (p2_size τ) ≤ x5 then some (x5, σ) else (if x5 = x2 then lp_X0_choose_43 rec τ x2 x3 x4 n (x5 + 1) σ else (if (x3 &&& (1 <<< (x5 &&& 31))) = 0 then (if inB x2 6 = true then (if inB x2 6 = true then (if ((p2_winds τ) x2.toNatClampNeg) = x5 then ((rec (s0_telling σ (upd (p0_telling σ) x2.toNatClampNeg x5)) τ (x2 + 1) (x3 ||| (1 <<< (x5 &&& 31))) (x4 + 0)).bind (fun r10 => lp_X0_choose_43 rec τ x2 x3 x4 n (x5 + 1) r10)) else ((rec (s0_telling σ (upd (p0_telling σ) x2.toNatClampNeg x5)) τ (x2 + 1) (x3 ||| (1 <<< (x5 &&& 31))) (x4 + 1)).bind (fun r9 => lp_X0_choose_43 rec τ x2 x3 x4 n (x5 + 1) r9))) else none) else none) else lp_X0_choose_43 rec τ x2 x3 x4 n (x5 + 1) σ)))
noncomputable def g_X0_choose (rec : St0 → St2 → Int32 → Int32 → Int32 → Option St0) (σ : St0) (τ : St2) (x2 : Int32) (x3 : Int32) (x4 : Int32) : Option (St0) := (if x4 < (p0_fewest σ) then (if x2 < (p2_size τ) then ((lp_X0_choose_43 rec τ x2 x3 x4 FU 0 σ).bind (fun q11 => some q11.2)) else (if ¬ (0 : Int32) < 0 ∧ ¬ (0 : Int32) < 0 ∧ ¬ (6 : Int32) < 0 ∧ (0 : Int32).toNatClampNeg + (6 : Int32).toNatClampNeg ≤ 6 ∧ (0 : Int32).toNatClampNeg + (6 : Int32).toNatClampNeg ≤ 6 then some (s0_best (s0_fewest σ x4) (va_cpy (p0_telling σ) (p0_best σ) ((0 : Int32).toNatClampNeg) ((0 : Int32).toNatClampNeg) ((6 : Int32).toNatClampNeg))) else none)) else some σ)
noncomputable def f_X0_choose : Nat → St0 → St2 → Int32 → Int32 → Int32 → Option St0
  | 0 => fun _ _ _ _ _ => none
  | d + 1 => g_X0_choose (f_X0_choose d)
set_option maxHeartbeats 4000000 in
set_option maxRecDepth 100000 in
theorem t_X0_choose_43 {p : Program} {l : Launch} {e : Env} {s : State} {m : MethodId} {args : Array Value} {below : List Frame} {meth : Method} {c : Code} {D : va_G} {cA : Nat → ClassId} {A0 : Nat → Prop} {H0 : Heap} {a : Nat → Nat} {b : Nat → Nat} {d : Nat} {rec : St0 → St2 → Int32 → Int32 → Int32 → Option St0} (IH : ∀ (a b : Nat → Nat) (σ : St0) (τ : St2) (x2 x3 x4 : Int32) (res : St0), rec σ τ x2 x3 x4 = some res → CT l D cA yX0_choose wsX0_choose (rmC d) [.ref (a 0), .ref (b 0), .int x2, .int x3, .int x4] [w0 cA a σ, w2 cA b τ] [w0 cA a res, w2 cA b τ] none) (Z : Cx p s m args meth c cX0_choose 7 none wsX0_choose RX0 D cA) (τ : St2) (x2 : Int32) (x3 : Int32) (x4 : Int32) {Q : State → Prop} : ∀ (n : Nat) (x5 : Int32) (σ : St0) (q : Int32 × St0), lp_X0_choose_43 rec τ x2 x3 x4 n x5 σ = some q → ∀ (H : Heap) (locs : List Loc) (ls : Array Slot), va_P D vwCl ([w0 cA a σ, w2 cA b τ] : List va_W).flatten H → va_D A0 ([w0 cA a σ, w2 cA b τ] : List va_W).flatten → va_S A0 H0 H locs → lv_has ls 7 [(0, .ref (a 0)), (1, .ref (b 0)), (2, .int x2), (3, .int x3), (4, .int x4), (5, .int x5)] → (∀ (H : Heap) (locs : List Loc) (ls : Array Slot), va_P D vwCl ([w0 cA a q.2, w2 cA b τ] : List va_W).flatten H → va_D A0 ([w0 cA a q.2, w2 cA b τ] : List va_W).flatten → va_S A0 H0 H locs → lv_has ls 7 [(0, .ref (a 0)), (1, .ref (b 0)), (2, .int x2), (3, .int x3), (4, .int x4), (5, .int q.1)] → W p l e (rmC (d + 1)) s m args below meth c H locs 0 0 Q (F0 m 118 ls [])) → W p l e (rmC (d + 1)) s m args below meth c H locs 0 0 Q (F0 m 43 ls []) := by
  obtain ⟨hx, hb, hml, hown, hts, hr, hlk, hKK⟩ := id Z
  have hK := hKK.1
  intro n
  induction n with
  | zero =>
    intro x5 σ q h
    rw [lp_X0_choose_43] at h
    cases h
  | succ n ih =>
    intro x5 σ q h H locs ls hP hD hS hl kk
    rw [lp_X0_choose_43] at h
    refine lv_iload hx hb dX0_choose_43 (lv_at hl 5 rfl) ?_
    refine lv_aload_n hx hb dX0_choose_45 rfl (lv_at hl 1 rfl) ?_
    refine va_getN (D := D) (ci := 2) (v := .int (p2_size τ)) (C := RX2) (T := TX2) (N := 7) hx hb hts in_X0_choose_X2 hown hK hP 3 rfl rfl 0 (by decide) (nest_use rfl (hKK.2 _ nk_X0_26)) (fun _ h9 => h9) rfl dX0_choose_46 ?_
    refine lv_icmp_ge (tgt := 118) hx hb dX0_choose_49 (by decide) (fun hc3 => ?_) (fun hc3 => ?_)
    · rw [if_pos hc3] at h
      have h := Option.some.inj h
      subst h
      exact kk _ _ _ hP hD hS (lv_sub hl [0, 1, 2, 3, 4, 5] rfl)
    · rw [if_neg hc3] at h
      refine lv_iload hx hb dX0_choose_52 (lv_at hl 5 rfl) ?_
      refine lv_iload_n hx hb dX0_choose_54 rfl (lv_at hl 2 rfl) ?_
      refine lv_icmp_eq (tgt := 112) hx hb dX0_choose_55 (by decide) (fun hc4 => ?_) (fun hc4 => ?_)
      · rw [if_pos hc4] at h
        refine lv_iinc (v := x5 + 1) (lv' := [(5, .int (x5 + 1)), (0, .ref (a 0)), (1, .ref (b 0)), (2, .int x2), (3, .int x3), (4, .int x4)]) hx hb dX0_choose_112 hl (k := 5) rfl rfl (by decide) rfl (fun ls hl => ?_)
        refine lv_goto (tgt := 43) hx hb dX0_choose_115 (by decide) ?_
        exact ih _ _ _ h _ _ _ hP hD hS (lv_sub hl [1, 2, 3, 4, 5, 0] rfl) kk
      · rw [if_neg hc4] at h
        refine lv_iload_n hx hb dX0_choose_58 rfl (lv_at hl 3 rfl) ?_
        refine lv_iconst (v := 1) hx hb dX0_choose_59 (by decide) ?_
        refine lv_iload hx hb dX0_choose_60 (lv_at hl 5 rfl) ?_
        refine lv_ishl hx hb dX0_choose_62 ?_
        refine lv_iand hx hb dX0_choose_63 ?_
        refine lv_if_ne (tgt := 112) hx hb dX0_choose_64 (by decide) (fun hc5 => ?_) (fun hc5 => ?_)
        · rw [if_neg hc5] at h
          refine lv_iinc (v := x5 + 1) (lv' := [(5, .int (x5 + 1)), (0, .ref (a 0)), (1, .ref (b 0)), (2, .int x2), (3, .int x3), (4, .int x4)]) hx hb dX0_choose_112 hl (k := 5) rfl rfl (by decide) rfl (fun ls hl => ?_)
          refine lv_goto (tgt := 43) hx hb dX0_choose_115 (by decide) ?_
          exact ih _ _ _ h _ _ _ hP hD hS (lv_sub hl [1, 2, 3, 4, 5, 0] rfl) kk
        · rw [if_pos hc5] at h
          refine lv_aload_n hx hb dX0_choose_67 rfl (lv_at hl 0 rfl) ?_
          refine va_get (D := D) (ci := 0) (v := .ref (a 2)) (C := RX0) (T := TX0) (N := 3) hx hb hts in_X0_choose_X0 hown hK hP 0 rfl rfl 2 (by decide) (hts _ lk_X0_choose_19) (fun _ h9 => h9) rfl dX0_choose_68 ?_
          refine lv_iload_n hx hb dX0_choose_71 rfl (lv_at hl 2 rfl) ?_
          refine lv_iload hx hb dX0_choose_72 (lv_at hl 5 rfl) ?_
          obtain ⟨hg6, h⟩ := if_inv h
          refine va_iast hx hb hK hP hD hS 2 0 rfl rfl (inB_in hg6) dX0_choose_74 (fun H locs hP hD hS => ?_)
          have hP : va_P D vwCl ([w0 cA a (s0_telling σ (upd (p0_telling σ) x2.toNatClampNeg x5)), w2 cA b τ] : List va_W).flatten H := hP
          have hD : va_D _ ([w0 cA a (s0_telling σ (upd (p0_telling σ) x2.toNatClampNeg x5)), w2 cA b τ] : List va_W).flatten := hD
          refine lv_aload_n hx hb dX0_choose_75 rfl (lv_at hl 1 rfl) ?_
          refine va_getN (D := D) (ci := 2) (v := .ref (b 3)) (C := RX2) (T := TX2) (N := 7) hx hb hts in_X0_choose_X2 hown hK hP 3 rfl rfl 3 (by decide) (nest_use rfl (hKK.2 _ nk_X0_37)) (fun _ h9 => h9) rfl dX0_choose_76 ?_
          refine lv_iload_n hx hb dX0_choose_79 rfl (lv_at hl 2 rfl) ?_
          obtain ⟨hg7, h⟩ := if_inv h
          refine va_iald hx hb hK hP 6 0 rfl rfl (inB_in hg7) dX0_choose_80 ?_
          refine lv_iload hx hb dX0_choose_81 (lv_at hl 5 rfl) ?_
          refine lv_icmp_ne (tgt := 90) hx hb dX0_choose_83 (by decide) (fun hc8 => ?_) (fun hc8 => ?_)
          · rw [if_neg hc8] at h
            refine lv_iconst (v := 1) hx hb dX0_choose_90 (by decide) ?_
            refine lv_istore (lv' := [(6, .int 1), (0, .ref (a 0)), (1, .ref (b 0)), (2, .int x2), (3, .int x3), (4, .int x4), (5, .int x5)]) hx hb dX0_choose_91 hl (by decide) rfl (fun ls hl => ?_)
            refine lv_aload_n hx hb dX0_choose_93 rfl (lv_at hl 1 rfl) ?_
            refine lv_aload_n hx hb dX0_choose_94 rfl (lv_at hl 2 rfl) ?_
            refine lv_iload_n hx hb dX0_choose_95 rfl (lv_at hl 3 rfl) ?_
            refine lv_iconst (v := 1) hx hb dX0_choose_96 (by decide) ?_
            refine lv_iadd hx hb dX0_choose_97 ?_
            refine lv_iload_n hx hb dX0_choose_98 rfl (lv_at hl 4 rfl) ?_
            refine lv_iconst (v := 1) hx hb dX0_choose_99 (by decide) ?_
            refine lv_iload hx hb dX0_choose_100 (lv_at hl 6 rfl) ?_
            refine lv_ishl hx hb dX0_choose_102 ?_
            refine lv_ior hx hb dX0_choose_103 ?_
            refine lv_iload hx hb dX0_choose_104 (lv_at hl 5 rfl) ?_
            refine lv_iload hx hb dX0_choose_106 (lv_at hl 0 rfl) ?_
            refine lv_iadd hx hb dX0_choose_108 ?_
            obtain ⟨r9, hr9, h⟩ := bind_inv h
            refine kS (rest := []) (st1 := []) (cr := []) (cs' := [w0 cA a r9, w2 cA b τ]) Z (IH a b (s0_telling σ (upd (p0_telling σ) x2.toNatClampNeg x5)) τ (x2 + 1) (x3 ||| (1 <<< (x5 &&& 31))) (x4 + 1) r9 hr9) 5 gX0_choose_X0_choose rfl hdX0_choose ⟨rfl, rfl⟩ ⟨rmC_f d, rmC_l d⟩ ⟨Nat.zero_le _, Nat.zero_le _⟩ hP hD hS hl.1 rfl rfl rfl (Nat.le_of_ble_eq_true rfl) [0, 1] [] [0, 1] rfl rfl rfl rfl rfl dX0_choose_109 (fun H locs hP hD hS => ?_)
            refine lv_iinc (v := x5 + 1) (lv' := [(5, .int (x5 + 1)), (6, .int 1), (0, .ref (a 0)), (1, .ref (b 0)), (2, .int x2), (3, .int x3), (4, .int x4)]) hx hb dX0_choose_112 hl (k := 6) rfl rfl (by decide) rfl (fun ls hl => ?_)
            refine lv_goto (tgt := 43) hx hb dX0_choose_115 (by decide) ?_
            exact ih _ _ _ h _ _ _ hP hD hS (lv_sub hl [2, 3, 4, 5, 6, 0] rfl) kk
          · rw [if_pos hc8] at h
            refine lv_iconst (v := 0) hx hb dX0_choose_86 (by decide) ?_
            refine lv_goto (tgt := 91) hx hb dX0_choose_87 (by decide) ?_
            refine lv_istore (lv' := [(6, .int 0), (0, .ref (a 0)), (1, .ref (b 0)), (2, .int x2), (3, .int x3), (4, .int x4), (5, .int x5)]) hx hb dX0_choose_91 hl (by decide) rfl (fun ls hl => ?_)
            refine lv_aload_n hx hb dX0_choose_93 rfl (lv_at hl 1 rfl) ?_
            refine lv_aload_n hx hb dX0_choose_94 rfl (lv_at hl 2 rfl) ?_
            refine lv_iload_n hx hb dX0_choose_95 rfl (lv_at hl 3 rfl) ?_
            refine lv_iconst (v := 1) hx hb dX0_choose_96 (by decide) ?_
            refine lv_iadd hx hb dX0_choose_97 ?_
            refine lv_iload_n hx hb dX0_choose_98 rfl (lv_at hl 4 rfl) ?_
            refine lv_iconst (v := 1) hx hb dX0_choose_99 (by decide) ?_
            refine lv_iload hx hb dX0_choose_100 (lv_at hl 6 rfl) ?_
            refine lv_ishl hx hb dX0_choose_102 ?_
            refine lv_ior hx hb dX0_choose_103 ?_
            refine lv_iload hx hb dX0_choose_104 (lv_at hl 5 rfl) ?_
            refine lv_iload hx hb dX0_choose_106 (lv_at hl 0 rfl) ?_
            refine lv_iadd hx hb dX0_choose_108 ?_
            obtain ⟨r10, hr10, h⟩ := bind_inv h
            refine kS (rest := []) (st1 := []) (cr := []) (cs' := [w0 cA a r10, w2 cA b τ]) Z (IH a b (s0_telling σ (upd (p0_telling σ) x2.toNatClampNeg x5)) τ (x2 + 1) (x3 ||| (1 <<< (x5 &&& 31))) (x4 + 0) r10 hr10) 5 gX0_choose_X0_choose rfl hdX0_choose ⟨rfl, rfl⟩ ⟨rmC_f d, rmC_l d⟩ ⟨Nat.zero_le _, Nat.zero_le _⟩ hP hD hS hl.1 rfl rfl rfl (Nat.le_of_ble_eq_true rfl) [0, 1] [] [0, 1] rfl rfl rfl rfl rfl dX0_choose_109 (fun H locs hP hD hS => ?_)
            refine lv_iinc (v := x5 + 1) (lv' := [(5, .int (x5 + 1)), (6, .int 0), (0, .ref (a 0)), (1, .ref (b 0)), (2, .int x2), (3, .int x3), (4, .int x4)]) hx hb dX0_choose_112 hl (k := 6) rfl rfl (by decide) rfl (fun ls hl => ?_)
            refine lv_goto (tgt := 43) hx hb dX0_choose_115 (by decide) ?_
            exact ih _ _ _ h _ _ _ hP hD hS (lv_sub hl [2, 3, 4, 5, 6, 0] rfl) kk
set_option maxHeartbeats 4000000 in
set_option maxRecDepth 100000 in
theorem cg_X0_choose (l : Launch) (D : va_G) (cA : Nat → ClassId) {d : Nat} {rec : St0 → St2 → Int32 → Int32 → Int32 → Option St0} (IH : ∀ (a b : Nat → Nat) (σ : St0) (τ : St2) (x2 x3 x4 : Int32) (res : St0), rec σ τ x2 x3 x4 = some res → CT l D cA yX0_choose wsX0_choose (rmC d) [.ref (a 0), .ref (b 0), .int x2, .int x3, .int x4] [w0 cA a σ, w2 cA b τ] [w0 cA a res, w2 cA b τ] none) (a : Nat → Nat) (b : Nat → Nat) (σ : St0) (τ : St2) (x2 : Int32) (x3 : Int32) (x4 : Int32) (res : St0) (h : g_X0_choose rec σ τ x2 x3 x4 = some res) : CT l D cA yX0_choose wsX0_choose (rmC (d + 1)) [.ref (a 0), .ref (b 0), .int x2, .int x3, .int x4] [w0 cA a σ, w2 cA b τ] [w0 cA a res, w2 cA b τ] none := by
  refine CT.start (cc := cX0_choose) (maxL := 7) (ret := none) (by decide) rfl (Nat.le_of_ble_eq_true rfl) ?_
  intro p e s m below meth c Z hP hD hS ls hl
  have Z : Cx p s m _ meth c cX0_choose 7 none wsX0_choose RX0 D cA := Z
  have hl : lv_has ls 7 [(0, .ref (a 0)), (1, .ref (b 0)), (2, .int x2), (3, .int x3), (4, .int x4)] := hl
  obtain ⟨hx, hb, hml, hown, hts, hr, hlk, hKK⟩ := id Z
  have hK := hKK.1
  rw [g_X0_choose] at h
  refine lv_iload hx hb dX0_choose_0 (lv_at hl 4 rfl) ?_
  refine lv_aload_n hx hb dX0_choose_2 rfl (lv_at hl 0 rfl) ?_
  refine va_get (D := D) (ci := 0) (v := .int (p0_fewest σ)) (C := RX0) (T := TX0) (N := 3) hx hb hts in_X0_choose_X0 hown hK hP 0 rfl rfl 0 (by decide) (hts _ lk_X0_choose_9) (fun _ h9 => h9) rfl dX0_choose_3 ?_
  refine lv_icmp_lt (tgt := 10) hx hb dX0_choose_6 (by decide) (fun hc1 => ?_) (fun hc1 => ?_)
  · rw [if_pos hc1] at h
    refine lv_iload_n hx hb dX0_choose_10 rfl (lv_at hl 2 rfl) ?_
    refine lv_aload_n hx hb dX0_choose_11 rfl (lv_at hl 1 rfl) ?_
    refine va_getN (D := D) (ci := 2) (v := .int (p2_size τ)) (C := RX2) (T := TX2) (N := 7) hx hb hts in_X0_choose_X2 hown hK hP 3 rfl rfl 0 (by decide) (nest_use rfl (hKK.2 _ nk_X0_26)) (fun _ h9 => h9) rfl dX0_choose_12 ?_
    refine lv_icmp_lt (tgt := 40) hx hb dX0_choose_15 (by decide) (fun hc2 => ?_) (fun hc2 => ?_)
    · rw [if_pos hc2] at h
      refine lv_iconst (v := 0) hx hb dX0_choose_40 (by decide) ?_
      refine lv_istore (lv' := [(5, .int 0), (0, .ref (a 0)), (1, .ref (b 0)), (2, .int x2), (3, .int x3), (4, .int x4)]) hx hb dX0_choose_41 hl (by decide) rfl (fun ls hl => ?_)
      obtain ⟨q11, hq11, h⟩ := bind_inv h
      refine t_X0_choose_43 IH Z τ x2 x3 x4 FU _ _ _ hq11 _ _ _ hP hD hS (lv_sub hl [1, 2, 3, 4, 5, 0] rfl) (fun H locs ls hP hD hS hl => ?_)
      have h := Option.some.inj h
      subst h
      exact CT.vret Z hP hD hS dX0_choose_118
    · rw [if_neg hc2] at h
      refine lv_aload_n hx hb dX0_choose_18 rfl (lv_at hl 0 rfl) ?_
      refine lv_iload hx hb dX0_choose_19 (lv_at hl 4 rfl) ?_
      refine va_put (D := D) (ci := 0) (v := .int x4) (ty := .int) (C := RX0) (T := TX0) (N := 3) hx hb hts in_X0_choose_X0 tyX0 tyX0_ok nmX0 hown hK hP hD hS 0 rfl rfl 0 (by decide) (hts _ lk_X0_choose_9) (fun _ h9 => h9) rfl (tyX0_ok 0 (by decide)) rfl rfl (Nat.le_of_ble_eq_true rfl) dX0_choose_21 (fun H locs hP hD hS => ?_)
      have hP : va_P D vwCl ([w0 cA a (s0_fewest σ x4), w2 cA b τ] : List va_W).flatten H := hP
      have hD : va_D _ ([w0 cA a (s0_fewest σ x4), w2 cA b τ] : List va_W).flatten := hD
      refine lv_aload_n hx hb dX0_choose_24 rfl (lv_at hl 0 rfl) ?_
      refine va_get (D := D) (ci := 0) (v := .ref (a 2)) (C := RX0) (T := TX0) (N := 3) hx hb hts in_X0_choose_X0 hown hK hP 0 rfl rfl 2 (by decide) (hts _ lk_X0_choose_19) (fun _ h9 => h9) rfl dX0_choose_25 ?_
      refine lv_iconst (v := 0) hx hb dX0_choose_28 (by decide) ?_
      refine lv_aload_n hx hb dX0_choose_29 rfl (lv_at hl 0 rfl) ?_
      refine va_get (D := D) (ci := 0) (v := .ref (a 1)) (C := RX0) (T := TX0) (N := 3) hx hb hts in_X0_choose_X0 hown hK hP 0 rfl rfl 1 (by decide) (hts _ lk_X0_choose_15) (fun _ h9 => h9) rfl dX0_choose_30 ?_
      refine lv_iconst (v := 0) hx hb dX0_choose_33 (by decide) ?_
      refine lv_bipush (v := 6) hx hb dX0_choose_34 (by decide) ?_
      obtain ⟨hg12, h⟩ := if_inv h
      refine va_copyi hx hb (hml.trans hl.1.symm) hown (hts _ am_X0_choose) (hts _ an_X0_choose) (hts _ as_X0_choose) (hts _ ai_X0_choose) hK hP hD hS 2 1 0 0 rfl rfl rfl rfl rfl hg12.1 hg12.2.1 hg12.2.2.1 hg12.2.2.2.1 hg12.2.2.2.2 (fun _ _ => rfl) (rmC_1 d) (rmC_2 d) dX0_choose_36 (fun H locs hP hD hS => ?_)
      have hP : va_P D vwCl ([w0 cA a (s0_best (s0_fewest σ x4) (va_cpy (p0_telling σ) (p0_best σ) ((0 : Int32).toNatClampNeg) ((0 : Int32).toNatClampNeg) ((6 : Int32).toNatClampNeg))), w2 cA b τ] : List va_W).flatten H := hP
      have hD : va_D _ ([w0 cA a (s0_best (s0_fewest σ x4) (va_cpy (p0_telling σ) (p0_best σ) ((0 : Int32).toNatClampNeg) ((0 : Int32).toNatClampNeg) ((6 : Int32).toNatClampNeg))), w2 cA b τ] : List va_W).flatten := hD
      have h := Option.some.inj h
      subst h
      exact CT.vret Z hP hD hS dX0_choose_39
  · rw [if_neg hc1] at h
    have h := Option.some.inj h
    subst h
    exact CT.vret Z hP hD hS dX0_choose_9

theorem c_X0_choose (l : Launch) (D : va_G) (cA : Nat → ClassId) : ∀ (d : Nat) (a b : Nat → Nat) (σ : St0) (τ : St2) (x2 x3 x4 : Int32) (res : St0), f_X0_choose d σ τ x2 x3 x4 = some res → CT l D cA yX0_choose wsX0_choose (rmC d) [.ref (a 0), .ref (b 0), .int x2, .int x3, .int x4] [w0 cA a σ, w2 cA b τ] [w0 cA a res, w2 cA b τ] none := by
  intro d
  induction d with
  | zero => intro a b σ τ x2 x3 x4 res h; cases h
  | succ d ih => intro a b σ τ x2 x3 x4 res h; exact cg_X0_choose l D cA ih a b σ τ x2 x3 x4 res h
