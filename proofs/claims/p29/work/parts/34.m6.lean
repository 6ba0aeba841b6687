-- X6.match
theorem ck_X6_match_195 : Cond.constantLong RX6 195 (-1) ∈ wsX6_match := by decide +kernel
theorem lk_X6_match_7 : Cond.fieldLink RX6 7 "KeyedFeelingsModel" "now" "[I" ∈ wsX6_match := by decide +kernel
theorem in_X6_match_X6 : ∀ w ∈ wsX60, w ∈ wsX6_match := by decide +kernel
theorem lk_X6_match_31 : Cond.fieldLink RX6 31 "KeyedFeelingsModel" "best" "[I" ∈ wsX6_match := by decide +kernel
theorem lk_X6_match_28 : Cond.fieldLink RX6 28 "KeyedFeelingsModel" "would" "[I" ∈ wsX6_match := by decide +kernel
noncomputable def lp_X6_match_39 (σ : St6) (x1 : Int32) : Nat → Int32 → Int32 → Option (Int32 × Int32)
  | 0, _, _ => none
  | n + 1, x2, x3 => (if ((p6_now σ) (0 : Int32).toNatClampNeg) ≤ x3 then some (x2, x3) else lp_X6_match_39 σ x1 n (x2 * ((p6_now σ) (0 : Int32).toNatClampNeg)) (x3 + 1))
noncomputable def lp_X6_match_101 (x1 : Int32) (x2 : Int32) (x3 : Int32) (x4 : Int32) : Nat → Int32 → St6 → Option (Int32 × St6)
  | 0, _, _ => none
  | n + 1, x6, σ => (if 6 ≤ x6 then some (x6, σ) else (if inB x6 6 = true then (if inB x6 6 = true then lp_X6_match_101 x1 x2 x3 x4 n (x6 + 1) (s6_best σ (upd (p6_best σ) x6.toNatClampNeg ((p6_would σ) x6.toNatClampNeg))) else none) else none))
noncomputable def lp_X6_match_70 (x1 : Int32) (x2 : Int32) : Nat → Int32 → Int32 → St6 → Option (Int32 × Int32 × St6)
  | 0, _, _, _ => none
  | n + 1, x3, x4, σ => (if x2 ≤ x4 then some (x3, x4, σ) else ((f_X6_changes σ x4).bind (fun r7 => (if r7.1 < 0 then lp_X6_match_70 x1 x2 n x3 (x4 + 1) r7.2 else (if x3 ≤ r7.1 then lp_X6_match_70 x1 x2 n x3 (x4 + 1) r7.2 else ((lp_X6_match_101 x1 x2 r7.1 x4 FU 0 r7.2).bind (fun q13 => lp_X6_match_70 x1 x2 n r7.1 (x4 + 1) q13.2)))))))
noncomputable def f_X6_match (σ : St6) (x1 : Int32) : Option (Int32 × St6) := ((f_X6_in x1.toInt64 (-1) ((((p6_now σ) (0 : Int32).toNatClampNeg) - 1).toInt64)).bind (fun r1 => (if r1 = 0 then some ((-1), σ) else (if 2 ≤ ((p6_now σ) (0 : Int32).toNatClampNeg) then ((lp_X6_match_39 σ x1 FU 1 0).bind (fun q5 => ((lp_X6_match_70 x1 q5.1 FU 99 0 σ).bind (fun q14 => (if 0 ≤ x1 then (if inB x1 6 = true then some ((p6_best q14.2.2) x1.toNatClampNeg, q14.2.2) else none) else some (q14.1, q14.2.2)))))) else some ((-4), σ)))))
noncomputable def rmX6_match : Room := { frames := 3, cells := 0, slots := 0, locals := 70 }
set_option maxHeartbeats 4000000 in
set_option maxRecDepth 100000 in
theorem t_X6_match_39 {p : Program} {l : Launch} {e : Env} {s : State} {m : MethodId} {args : Array Value} {below : List Frame} {meth : Method} {c : Code} {D : va_G} {cA : Nat → ClassId} {A0 : Nat → Prop} {H0 : Heap} {a : Nat → Nat} (Z : Cx p s m args meth c cX6_match 7 (some .int) wsX6_match RX6 D cA) (σ : St6) (x1 : Int32) {Q : State → Prop} : ∀ (n : Nat) (x2 : Int32) (x3 : Int32) (q : Int32 × Int32), lp_X6_match_39 σ x1 n x2 x3 = some q → ∀ (H : Heap) (locs : List Loc) (ls : Array Slot), va_P D vwCl ([w6 cA a σ] : List va_W).flatten H → va_D A0 ([w6 cA a σ] : List va_W).flatten → va_S A0 H0 H locs → lv_has ls 7 [(0, .ref (a 0)), (1, .int x1), (2, .int x2), (3, .int x3)] → (∀ (H : Heap) (locs : List Loc) (ls : Array Slot), va_P D vwCl ([w6 cA a σ] : List va_W).flatten H → va_D A0 ([w6 cA a σ] : List va_W).flatten → va_S A0 H0 H locs → lv_has ls 7 [(0, .ref (a 0)), (1, .int x1), (2, .int q.1), (3, .int q.2)] → W p l e rmX6_match s m args below meth c H locs 0 0 Q (F0 m 64 ls [])) → W p l e rmX6_match s m args below meth c H locs 0 0 Q (F0 m 39 ls []) := by
  obtain ⟨hx, hb, hml, hown, hts, hr, hlk, hKK⟩ := id Z
  have hK := hKK.1
  intro n
  induction n with
  | zero =>
    intro x2 x3 q h
    rw [lp_X6_match_39] at h
    cases h
  | succ n ih =>
    intro x2 x3 q h H locs ls hP hD hS hl kk
    rw [lp_X6_match_39] at h
    refine lv_iload_n hx hb dX6_match_39 rfl (lv_at hl 3 rfl) ?_
    refine lv_aload_n hx hb dX6_match_40 rfl (lv_at hl 0 rfl) ?_
    refine va_get (D := D) (ci := 6) (v := .ref (a 1)) (C := RX6) (T := TX6) (N := 19) hx hb hts in_X6_match_X6 hown hK hP 0 rfl rfl 0 (by decide) (hts _ lk_X6_match_7) (fun _ h9 => h9) rfl dX6_match_41 ?_
    refine lv_iconst (v := 0) hx hb dX6_match_44 (by decide) ?_
    refine va_iald hx hb hK hP 1 0 rfl rfl (inB_in (by decide)) dX6_match_45 ?_
    refine lv_icmp_ge (tgt := 64) hx hb dX6_match_46 (by decide) (fun hc4 => ?_) (fun hc4 => ?_)
    · rw [if_pos hc4] at h
      have h := Option.some.inj h
      subst h
      exact kk _ _ _ hP hD hS (lv_sub hl [0, 1, 2, 3] rfl)
    · rw [if_neg hc4] at h
      refine lv_iload_n hx hb dX6_match_49 rfl (lv_at hl 2 rfl) ?_
      refine lv_aload_n hx hb dX6_match_50 rfl (lv_at hl 0 rfl) ?_
      refine va_get (D := D) (ci := 6) (v := .ref (a 1)) (C := RX6) (T := TX6) (N := 19) hx hb hts in_X6_match_X6 hown hK hP 0 rfl rfl 0 (by decide) (hts _ lk_X6_match_7) (fun _ h9 => h9) rfl dX6_match_51 ?_
      refine lv_iconst (v := 0) hx hb dX6_match_54 (by decide) ?_
      refine va_iald hx hb hK hP 1 0 rfl rfl (inB_in (by decide)) dX6_match_55 ?_
      refine lv_imul hx hb dX6_match_56 ?_
      refine lv_istore_n (lv' := [(2, .int (x2 * ((p6_now σ) (0 : Int32).toNatClampNeg))), (0, .ref (a 0)), (1, .int x1), (3, .int x3)]) hx hb dX6_match_57 rfl hl (by decide) rfl (fun ls hl => ?_)
      refine lv_iinc (v := x3 + 1) (lv' := [(3, .int (x3 + 1)), (2, .int (x2 * ((p6_now σ) (0 : Int32).toNatClampNeg))), (0, .ref (a 0)), (1, .int x1)]) hx hb dX6_match_58 hl (k := 3) rfl rfl (by decide) rfl (fun ls hl => ?_)
      refine lv_goto (tgt := 39) hx hb dX6_match_61 (by decide) ?_
      exact ih _ _ _ h _ _ _ hP hD hS (lv_sub hl [2, 3, 1, 0] rfl) kk
set_option maxHeartbeats 4000000 in
set_option maxRecDepth 100000 in
theorem t_X6_match_101 {p : Program} {l : Launch} {e : Env} {s : State} {m : MethodId} {args : Array Value} {below : List Frame} {meth : Method} {c : Code} {D : va_G} {cA : Nat → ClassId} {A0 : Nat → Prop} {H0 : Heap} {a : Nat → Nat} (Z : Cx p s m args meth c cX6_match 7 (some .int) wsX6_match RX6 D cA) (x1 : Int32) (x2 : Int32) (x3 : Int32) (x4 : Int32) {Q : State → Prop} : ∀ (n : Nat) (x6 : Int32) (σ : St6) (q : Int32 × St6), lp_X6_match_101 x1 x2 x3 x4 n x6 σ = some q → ∀ (H : Heap) (locs : List Loc) (ls : Array Slot), va_P D vwCl ([w6 cA a σ] : List va_W).flatten H → va_D A0 ([w6 cA a σ] : List va_W).flatten → va_S A0 H0 H locs → lv_has ls 7 [(0, .ref (a 0)), (1, .int x1), (2, .int x2), (3, .int x3), (4, .int x4), (6, .int x6)] → (∀ (H : Heap) (locs : List Loc) (ls : Array Slot), va_P D vwCl ([w6 cA a q.2] : List va_W).flatten H → va_D A0 ([w6 cA a q.2] : List va_W).flatten → va_S A0 H0 H locs → lv_has ls 7 [(0, .ref (a 0)), (1, .int x1), (2, .int x2), (3, .int x3), (4, .int x4), (6, .int q.1)] → W p l e rmX6_match s m args below meth c H locs 0 0 Q (F0 m 128 ls [])) → W p l e rmX6_match s m args below meth c H locs 0 0 Q (F0 m 101 ls []) := by
  obtain ⟨hx, hb, hml, hown, hts, hr, hlk, hKK⟩ := id Z
  have hK := hKK.1
  intro n
  induction n with
  | zero =>
    intro x6 σ q h
    rw [lp_X6_match_101] at h
    cases h
  | succ n ih =>
    intro x6 σ q h H locs ls hP hD hS hl kk
    rw [lp_X6_match_101] at h
    refine lv_iload hx hb dX6_match_101 (lv_at hl 5 rfl) ?_
    refine lv_bipush (v := 6) hx hb dX6_match_103 (by decide) ?_
    refine lv_icmp_ge (tgt := 128) hx hb dX6_match_105 (by decide) (fun hc10 => ?_) (fun hc10 => ?_)
    · rw [if_pos hc10] at h
      have h := Option.some.inj h
      subst h
      exact kk _ _ _ hP hD hS (lv_sub hl [0, 1, 2, 3, 4, 5] rfl)
    · rw [if_neg hc10] at h
      refine lv_aload_n hx hb dX6_match_108 rfl (lv_at hl 0 rfl) ?_
      refine va_get (D := D) (ci := 6) (v := .ref (a 8)) (C := RX6) (T := TX6) (N := 19) hx hb hts in_X6_match_X6 hown hK hP 0 rfl rfl 11 (by decide) (hts _ lk_X6_match_31) (fun _ h9 => h9) rfl dX6_match_109 ?_
      refine lv_iload hx hb dX6_match_112 (lv_at hl 5 rfl) ?_
      refine lv_aload_n hx hb dX6_match_114 rfl (lv_at hl 0 rfl) ?_
      refine va_get (D := D) (ci := 6) (v := .ref (a 7)) (C := RX6) (T := TX6) (N := 19) hx hb hts in_X6_match_X6 hown hK hP 0 rfl rfl 10 (by decide) (hts _ lk_X6_match_28) (fun _ h9 => h9) rfl dX6_match_115 ?_
      refine lv_iload hx hb dX6_match_118 (lv_at hl 5 rfl) ?_
      obtain ⟨hg11, h⟩ := if_inv h
      refine va_iald hx hb hK hP 7 0 rfl rfl (inB_in hg11) dX6_match_120 ?_
      obtain ⟨hg12, h⟩ := if_inv h
      refine va_iast hx hb hK hP hD hS 8 0 rfl rfl (inB_in hg12) dX6_match_121 (fun H locs hP hD hS => ?_)
      have hP : va_P D vwCl ([w6 cA a (s6_best σ (upd (p6_best σ) x6.toNatClampNeg ((p6_would σ) x6.toNatClampNeg)))] : List va_W).flatten H := hP
      have hD : va_D _ ([w6 cA a (s6_best σ (upd (p6_best σ) x6.toNatClampNeg ((p6_would σ) x6.toNatClampNeg)))] : List va_W).flatten := hD
      refine lv_iinc (v := x6 + 1) (lv' := [(6, .int (x6 + 1)), (0, .ref (a 0)), (1, .int x1), (2, .int x2), (3, .int x3), (4, .int x4)]) hx hb dX6_match_122 hl (k := 5) rfl rfl (by decide) rfl (fun ls hl => ?_)
      refine lv_goto (tgt := 101) hx hb dX6_match_125 (by decide) ?_
      exact ih _ _ _ h _ _ _ hP hD hS (lv_sub hl [1, 2, 3, 4, 5, 0] rfl) kk
set_option maxHeartbeats 4000000 in
set_option maxRecDepth 100000 in
theorem t_X6_match_70 {p : Program} {l : Launch} {e : Env} {s : State} {m : MethodId} {args : Array Value} {below : List Frame} {meth : Method} {c : Code} {D : va_G} {cA : Nat → ClassId} {A0 : Nat → Prop} {H0 : Heap} {a : Nat → Nat} (Z : Cx p s m args meth c cX6_match 7 (some .int) wsX6_match RX6 D cA) (x1 : Int32) (x2 : Int32) {Q : State → Prop} : ∀ (n : Nat) (x3 : Int32) (x4 : Int32) (σ : St6) (q : Int32 × Int32 × St6), lp_X6_match_70 x1 x2 n x3 x4 σ = some q → ∀ (H : Heap) (locs : List Loc) (ls : Array Slot), va_P D vwCl ([w6 cA a σ] : List va_W).flatten H → va_D A0 ([w6 cA a σ] : List va_W).flatten → va_S A0 H0 H locs → lv_has ls 7 [(0, .ref (a 0)), (1, .int x1), (2, .int x2), (3, .int x3), (4, .int x4)] → (∀ (H : Heap) (locs : List Loc) (ls : Array Slot), va_P D vwCl ([w6 cA a q.2.2] : List va_W).flatten H → va_D A0 ([w6 cA a q.2.2] : List va_W).flatten → va_S A0 H0 H locs → lv_has ls 7 [(0, .ref (a 0)), (1, .int x1), (2, .int x2), (3, .int q.1), (4, .int q.2.1)] → W p l e rmX6_match s m args below meth c H locs 0 0 Q (F0 m 134 ls [])) → W p l e rmX6_match s m args below meth c H locs 0 0 Q (F0 m 70 ls []) := by
  obtain ⟨hx, hb, hml, hown, hts, hr, hlk, hKK⟩ := id Z
  have hK := hKK.1
  intro n
  induction n with
  | zero =>
    intro x3 x4 σ q h
    rw [lp_X6_match_70] at h
    cases h
  | succ n ih =>
    intro x3 x4 σ q h H locs ls hP hD hS hl kk
    rw [lp_X6_match_70] at h
    refine lv_iload hx hb dX6_match_70 (lv_at hl 4 rfl) ?_
    refine lv_iload_n hx hb dX6_match_72 rfl (lv_at hl 2 rfl) ?_
    refine lv_icmp_ge (tgt := 134) hx hb dX6_match_73 (by decide) (fun hc6 => ?_) (fun hc6 => ?_)
    · rw [if_pos hc6] at h
      have h := Option.some.inj h
      subst h
      exact kk _ _ _ hP hD hS (lv_sub hl [0, 1, 2, 3, 4] rfl)
    · rw [if_neg hc6] at h
      refine lv_aload_n hx hb dX6_match_76 rfl (lv_at hl 0 rfl) ?_
      refine lv_iload hx hb dX6_match_77 (lv_at hl 4 rfl) ?_
      obtain ⟨r7, hr7, h⟩ := bind_inv h
      refine kV (rest := []) (st1 := [.int r7.1]) (cr := []) (cs' := [w6 cA a r7.2]) Z (c_X6_changes l D cA a σ x4 r7 hr7) 1 gX6_match_X6_changes rfl hdX6_changes ⟨rfl, rfl⟩ ⟨Nat.le_of_ble_eq_true rfl, Nat.le_of_ble_eq_true rfl⟩ ⟨Nat.zero_le _, Nat.zero_le _⟩ hP hD hS hl.1 rfl rfl rfl (Nat.le_of_ble_eq_true rfl) 6 rfl rfl rfl [0] [] [0] rfl rfl rfl rfl rfl dX6_match_79 (fun H locs hP hD hS => ?_)
      refine lv_istore (lv' := [(5, .int r7.1), (0, .ref (a 0)), (1, .int x1), (2, .int x2), (3, .int x3), (4, .int x4)]) hx hb dX6_match_82 hl (by decide) rfl (fun ls hl => ?_)
      refine lv_iload hx hb dX6_match_84 (lv_at hl 0 rfl) ?_
      refine lv_if_lt (tgt := 128) hx hb dX6_match_86 (by decide) (fun hc8 => ?_) (fun hc8 => ?_)
      · rw [if_pos hc8] at h
        refine lv_iinc (v := x4 + 1) (lv' := [(4, .int (x4 + 1)), (5, .int r7.1), (0, .ref (a 0)), (1, .int x1), (2, .int x2), (3, .int x3)]) hx hb dX6_match_128 hl (k := 5) rfl rfl (by decide) rfl (fun ls hl => ?_)
        refine lv_goto (tgt := 70) hx hb dX6_match_131 (by decide) ?_
        exact ih _ _ _ _ h _ _ _ hP hD hS (lv_sub hl [2, 3, 4, 5, 0] rfl) kk
      · rw [if_neg hc8] at h
        refine lv_iload hx hb dX6_match_89 (lv_at hl 0 rfl) ?_
        refine lv_iload_n hx hb dX6_match_91 rfl (lv_at hl 4 rfl) ?_
        refine lv_icmp_ge (tgt := 128) hx hb dX6_match_92 (by decide) (fun hc9 => ?_) (fun hc9 => ?_)
        · rw [if_pos hc9] at h
          refine lv_iinc (v := x4 + 1) (lv' := [(4, .int (x4 + 1)), (5, .int r7.1), (0, .ref (a 0)), (1, .int x1), (2, .int x2), (3, .int x3)]) hx hb dX6_match_128 hl (k := 5) rfl rfl (by decide) rfl (fun ls hl => ?_)
          refine lv_goto (tgt := 70) hx hb dX6_match_131 (by decide) ?_
          exact ih _ _ _ _ h _ _ _ hP hD hS (lv_sub hl [2, 3, 4, 5, 0] rfl) kk
        · rw [if_neg hc9] at h
          refine lv_iload hx hb dX6_match_95 (lv_at hl 0 rfl) ?_
          refine lv_istore_n (lv' := [(3, .int r7.1), (5, .int r7.1), (0, .ref (a 0)), (1, .int x1), (2, .int x2), (4, .int x4)]) hx hb dX6_match_97 rfl hl (by decide) rfl (fun ls hl => ?_)
          refine lv_iconst (v := 0) hx hb dX6_match_98 (by decide) ?_
          refine lv_istore (lv' := [(6, .int 0), (3, .int r7.1), (5, .int r7.1), (0, .ref (a 0)), (1, .int x1), (2, .int x2), (4, .int x4)]) hx hb dX6_match_99 hl (by decide) rfl (fun ls hl => ?_)
          obtain ⟨q13, hq13, h⟩ := bind_inv h
          refine t_X6_match_101 Z x1 x2 r7.1 x4 FU _ _ _ hq13 _ _ _ hP hD hS (lv_sub hl [3, 4, 5, 1, 6, 0] rfl) (fun H locs ls hP hD hS hl => ?_)
          refine lv_iinc (v := x4 + 1) (lv' := [(4, .int (x4 + 1)), (0, .ref (a 0)), (1, .int x1), (2, .int x2), (3, .int r7.1), (6, .int q13.1)]) hx hb dX6_match_128 hl (k := 4) rfl rfl (by decide) rfl (fun ls hl => ?_)
          refine lv_goto (tgt := 70) hx hb dX6_match_131 (by decide) ?_
          exact ih _ _ _ _ h _ _ _ hP hD hS (lv_sub hl [1, 2, 3, 4, 0] rfl) kk
set_option maxHeartbeats 4000000 in
set_option maxRecDepth 100000 in
theorem c_X6_match (l : Launch) (D : va_G) (cA : Nat → ClassId) (a : Nat → Nat) (σ : St6) (x1 : Int32) (res : Int32 × St6) (h : f_X6_match σ x1 = some res) : CT l D cA yX6_match wsX6_match rmX6_match [.ref (a 0), .int x1] [w6 cA a σ] [w6 cA a res.2] (some (.int res.1)) := by
  refine CT.start (cc := cX6_match) (maxL := 7) (ret := (some .int)) (by decide) rfl (Nat.le_of_ble_eq_true rfl) ?_
  intro p e s m below meth c Z hP hD hS ls hl
  have Z : Cx p s m _ meth c cX6_match 7 (some .int) wsX6_match RX6 D cA := Z
  have hl : lv_has ls 7 [(0, .ref (a 0)), (1, .int x1)] := hl
  obtain ⟨hx, hb, hml, hown, hts, hr, hlk, hKK⟩ := id Z
  have hK := hKK.1
  rw [f_X6_match] at h
  refine lv_iload_n hx hb dX6_match_0 rfl (lv_at hl 1 rfl) ?_
  refine lv_i2l (v := x1.toInt64) hx hb dX6_match_1 rfl ?_
  refine lv_ldc2 hx hb hown (hts _ ck_X6_match_195) dX6_match_2 ?_
  refine lv_aload_n hx hb dX6_match_5 rfl (lv_at hl 0 rfl) ?_
  refine va_get (D := D) (ci := 6) (v := .ref (a 1)) (C := RX6) (T := TX6) (N := 19) hx hb hts in_X6_match_X6 hown hK hP 0 rfl rfl 0 (by decide) (hts _ lk_X6_match_7) (fun _ h9 => h9) rfl dX6_match_6 ?_
  refine lv_iconst (v := 0) hx hb dX6_match_9 (by decide) ?_
  refine va_iald hx hb hK hP 1 0 rfl rfl (inB_in (by decide)) dX6_match_10 ?_
  refine lv_iconst (v := 1) hx hb dX6_match_11 (by decide) ?_
  refine lv_isub hx hb dX6_match_12 ?_
  refine lv_i2l (v := (((p6_now σ) (0 : Int32).toNatClampNeg) - 1).toInt64) hx hb dX6_match_13 rfl ?_
  obtain ⟨r1, hr1, h⟩ := bind_inv h
  refine kS (rest := []) (st1 := [.int r1]) (cr := [w6 cA a σ]) (cs' := [w6 cA a σ]) Z (c_X6_in l D cA x1.toInt64 (-1) ((((p6_now σ) (0 : Int32).toNatClampNeg) - 1).toInt64) r1 hr1) 3 gX6_match_X6_in rfl hdX6_in ⟨rfl, rfl⟩ ⟨Nat.le_of_ble_eq_true rfl, Nat.le_of_ble_eq_true rfl⟩ ⟨Nat.zero_le _, Nat.zero_le _⟩ hP hD hS hl.1 rfl rfl rfl (Nat.le_of_ble_eq_true rfl) [] [0] [0] rfl rfl rfl rfl rfl dX6_match_14 (fun H locs hP hD hS => ?_)
  refine lv_if_ne (tgt := 22) hx hb dX6_match_17 (by decide) (fun hc2 => ?_) (fun hc2 => ?_)
  · rw [if_neg hc2] at h
    refine lv_aload_n hx hb dX6_match_22 rfl (lv_at hl 0 rfl) ?_
    refine va_get (D := D) (ci := 6) (v := .ref (a 1)) (C := RX6) (T := TX6) (N := 19) hx hb hts in_X6_match_X6 hown hK hP 0 rfl rfl 0 (by decide) (hts _ lk_X6_match_7) (fun _ h9 => h9) rfl dX6_match_23 ?_
    refine lv_iconst (v := 0) hx hb dX6_match_26 (by decide) ?_
    refine va_iald hx hb hK hP 1 0 rfl rfl (inB_in (by decide)) dX6_match_27 ?_
    refine lv_iconst (v := 2) hx hb dX6_match_28 (by decide) ?_
    refine lv_icmp_ge (tgt := 35) hx hb dX6_match_29 (by decide) (fun hc3 => ?_) (fun hc3 => ?_)
    · rw [if_pos hc3] at h
      refine lv_iconst (v := 1) hx hb dX6_match_35 (by decide) ?_
      refine lv_istore_n (lv' := [(2, .int 1), (0, .ref (a 0)), (1, .int x1)]) hx hb dX6_match_36 rfl hl (by decide) rfl (fun ls hl => ?_)
      refine lv_iconst (v := 0) hx hb dX6_match_37 (by decide) ?_
      refine lv_istore_n (lv' := [(3, .int 0), (2, .int 1), (0, .ref (a 0)), (1, .int x1)]) hx hb dX6_match_38 rfl hl (by decide) rfl (fun ls hl => ?_)
      obtain ⟨q5, hq5, h⟩ := bind_inv h
      refine t_X6_match_39 Z σ x1 FU _ _ _ hq5 _ _ _ hP hD hS (lv_sub hl [2, 3, 1, 0] rfl) (fun H locs ls hP hD hS hl => ?_)
      refine lv_bipush (v := 99) hx hb dX6_match_64 (by decide) ?_
      refine lv_istore_n (lv' := [(3, .int 99), (0, .ref (a 0)), (1, .int x1), (2, .int q5.1)]) hx hb dX6_match_66 rfl hl (by decide) rfl (fun ls hl => ?_)
      refine lv_iconst (v := 0) hx hb dX6_match_67 (by decide) ?_
      refine lv_istore (lv' := [(4, .int 0), (3, .int 99), (0, .ref (a 0)), (1, .int x1), (2, .int q5.1)]) hx hb dX6_match_68 hl (by decide) rfl (fun ls hl => ?_)
      obtain ⟨q14, hq14, h⟩ := bind_inv h
      refine t_X6_match_70 Z x1 q5.1 FU _ _ _ _ hq14 _ _ _ hP hD hS (lv_sub hl [2, 3, 4, 1, 0] rfl) (fun H locs ls hP hD hS hl => ?_)
      refine lv_iload_n hx hb dX6_match_134 rfl (lv_at hl 1 rfl) ?_
      refine lv_if_ge (tgt := 142) hx hb dX6_match_135 (by decide) (fun hc15 => ?_) (fun hc15 => ?_)
      · rw [if_pos hc15] at h
        refine lv_aload_n hx hb dX6_match_142 rfl (lv_at hl 0 rfl) ?_
        refine va_get (D := D) (ci := 6) (v := .ref (a 8)) (C := RX6) (T := TX6) (N := 19) hx hb hts in_X6_match_X6 hown hK hP 0 rfl rfl 11 (by decide) (hts _ lk_X6_match_31) (fun _ h9 => h9) rfl dX6_match_143 ?_
        refine lv_iload_n hx hb dX6_match_146 rfl (lv_at hl 1 rfl) ?_
        obtain ⟨hg16, h⟩ := if_inv h
        refine va_iald hx hb hK hP 8 0 rfl rfl (inB_in hg16) dX6_match_147 ?_
        have h := Option.some.inj h
        subst h
        exact CT.iret Z hP hD hS dX6_match_148
      · rw [if_neg hc15] at h
        refine lv_iload_n hx hb dX6_match_138 rfl (lv_at hl 3 rfl) ?_
        refine lv_goto (tgt := 148) hx hb dX6_match_139 (by decide) ?_
        have h := Option.some.inj h
        subst h
        exact CT.iret Z hP hD hS dX6_match_148
    · rw [if_neg hc3] at h
      refine lv_bipush (v := (-4)) hx hb dX6_match_32 (by decide) ?_
      have h := Option.some.inj h
      subst h
      exact CT.iret Z hP hD hS dX6_match_34
  · rw [if_pos hc2] at h
    refine lv_iconst (v := (-1)) hx hb dX6_match_20 (by decide) ?_
    have h := Option.some.inj h
    subst h
    exact CT.iret Z hP hD hS dX6_match_21

-- X6.isAsAside
theorem lk_X6_isAsAside_7 : Cond.fieldLink RX6 7 "KeyedFeelingsModel" "now" "[I" ∈ wsX6_isAsAside := by decide +kernel
theorem in_X6_isAsAside_X6 : ∀ w ∈ wsX60, w ∈ wsX6_isAsAside := by decide +kernel
theorem lk_X6_isAsAside_25 : Cond.fieldLink RX6 25 "KeyedFeelingsModel" "aside" "[I" ∈ wsX6_isAsAside := by decide +kernel
noncomputable def lp_X6_isAsAside_4 (σ : St6) : Nat → Int32 → Int32 → Option (Int32 × Int32)
  | 0, _, _ => none
  | n + 1, x1, x2 => (if ((p6_now σ) (0 : Int32).toNatClampNeg) ≤ x2 then some (x1, x2) else (if x1 = 0 then lp_X6_isAsAside_4 σ n 0 (x2 + 1) else ((f_X6_turns σ x2).bind (fun r3 => (if inB ((3 + (4 * x2)) + 1) 27 = true then (if r3 = ((p6_aside σ) ((3 + (4 * x2)) + 1).toNatClampNeg) then lp_X6_isAsAside_4 σ n 1 (x2 + 1) else lp_X6_isAsAside_4 σ n 0 (x2 + 1)) else none)))))
noncomputable def f_X6_isAsAside (σ : St6) : Option (Int32) := ((lp_X6_isAsAside_4 σ FU 1 0).bind (fun q6 => (if q6.1 = 0 ∨ q6.1 = 1 then some q6.1 else none)))
noncomputable def rmX6_isAsAside : Room := { frames := 2, cells := 0, slots := 0, locals := 43 }
set_option maxHeartbeats 4000000 in
set_option maxRecDepth 100000 in
theorem t_X6_isAsAside_4 {p : Program} {l : Launch} {e : Env} {s : State} {m : MethodId} {args : Array Value} {below : List Frame} {meth : Method} {c : Code} {D : va_G} {cA : Nat → ClassId} {A0 : Nat → Prop} {H0 : Heap} {a : Nat → Nat} (Z : Cx p s m args meth c cX6_isAsAside 3 (some .boolean) wsX6_isAsAside RX6 D cA) (σ : St6) {Q : State → Prop} : ∀ (n : Nat) (x1 : Int32) (x2 : Int32) (q : Int32 × Int32), lp_X6_isAsAside_4 σ n x1 x2 = some q → ∀ (H : Heap) (locs : List Loc) (ls : Array Slot), va_P D vwCl ([w6 cA a σ] : List va_W).flatten H → va_D A0 ([w6 cA a σ] : List va_W).flatten → va_S A0 H0 H locs → lv_has ls 3 [(0, .ref (a 0)), (1, .int x1), (2, .int x2)] → (∀ (H : Heap) (locs : List Loc) (ls : Array Slot), va_P D vwCl ([w6 cA a σ] : List va_W).flatten H → va_D A0 ([w6 cA a σ] : List va_W).flatten → va_S A0 H0 H locs → lv_has ls 3 [(0, .ref (a 0)), (1, .int q.1), (2, .int q.2)] → W p l e rmX6_isAsAside s m args below meth c H locs 0 0 Q (F0 m 50 ls [])) → W p l e rmX6_isAsAside s m args below meth c H locs 0 0 Q (F0 m 4 ls []) := by
  obtain ⟨hx, hb, hml, hown, hts, hr, hlk, hKK⟩ := id Z
  have hK := hKK.1
  intro n
  induction n with
  | zero =>
    intro x1 x2 q h
    rw [lp_X6_isAsAside_4] at h
    cases h
  | succ n ih =>
    intro x1 x2 q h H locs ls hP hD hS hl kk
    rw [lp_X6_isAsAside_4] at h
    refine lv_iload_n hx hb dX6_isAsAside_4 rfl (lv_at hl 2 rfl) ?_
    refine lv_aload_n hx hb dX6_isAsAside_5 rfl (lv_at hl 0 rfl) ?_
    refine va_get (D := D) (ci := 6) (v := .ref (a 1)) (C := RX6) (T := TX6) (N := 19) hx hb hts in_X6_isAsAside_X6 hown hK hP 0 rfl rfl 0 (by decide) (hts _ lk_X6_isAsAside_7) (fun _ h9 => h9) rfl dX6_isAsAside_6 ?_
    refine lv_iconst (v := 0) hx hb dX6_isAsAside_9 (by decide) ?_
    refine va_iald hx hb hK hP 1 0 rfl rfl (inB_in (by decide)) dX6_isAsAside_10 ?_
    refine lv_icmp_ge (tgt := 50) hx hb dX6_isAsAside_11 (by decide) (fun hc1 => ?_) (fun hc1 => ?_)
    · rw [if_pos hc1] at h
      have h := Option.some.inj h
      subst h
      exact kk _ _ _ hP hD hS (lv_sub hl [0, 1, 2] rfl)
    · rw [if_neg hc1] at h
      refine lv_iload_n hx hb dX6_isAsAside_14 rfl (lv_at hl 1 rfl) ?_
      refine lv_if_eq (tgt := 42) hx hb dX6_isAsAside_15 (by decide) (fun hc2 => ?_) (fun hc2 => ?_)
      · rw [if_pos hc2] at h
        refine lv_iconst (v := 0) hx hb dX6_isAsAside_42 (by decide) ?_
        refine lv_istore_n (lv' := [(1, .int 0), (0, .ref (a 0)), (2, .int x2)]) hx hb dX6_isAsAside_43 rfl hl (by decide) rfl (fun ls hl => ?_)
        refine lv_iinc (v := x2 + 1) (lv' := [(2, .int (x2 + 1)), (1, .int 0), (0, .ref (a 0))]) hx hb dX6_isAsAside_44 hl (k := 2) rfl rfl (by decide) rfl (fun ls hl => ?_)
        refine lv_goto (tgt := 4) hx hb dX6_isAsAside_47 (by decide) ?_
        exact ih _ _ _ h _ _ _ hP hD hS (lv_sub hl [2, 1, 0] rfl) kk
      · rw [if_neg hc2] at h
        refine lv_aload_n hx hb dX6_isAsAside_18 rfl (lv_at hl 0 rfl) ?_
        refine lv_iload_n hx hb dX6_isAsAside_19 rfl (lv_at hl 2 rfl) ?_
        obtain ⟨r3, hr3, h⟩ := bind_inv h
        refine kV (rest := []) (st1 := [.int r3]) (cr := []) (cs' := [w6 cA a σ]) Z (c_X6_turns l D cA a σ x2 r3 hr3) 1 gX6_isAsAside_X6_turns rfl hdX6_turns ⟨rfl, rfl⟩ ⟨Nat.le_of_ble_eq_true rfl, Nat.le_of_ble_eq_true rfl⟩ ⟨Nat.zero_le _, Nat.zero_le _⟩ hP hD hS hl.1 rfl rfl rfl (Nat.le_of_ble_eq_true rfl) 6 rfl rfl rfl [0] [] [0] rfl rfl rfl rfl rfl dX6_isAsAside_20 (fun H locs hP hD hS => ?_)
        refine lv_aload_n hx hb dX6_isAsAside_23 rfl (lv_at hl 0 rfl) ?_
        refine va_get (D := D) (ci := 6) (v := .ref (a 6)) (C := RX6) (T := TX6) (N := 19) hx hb hts in_X6_isAsAside_X6 hown hK hP 0 rfl rfl 9 (by decide) (hts _ lk_X6_isAsAside_25) (fun _ h9 => h9) rfl dX6_isAsAside_24 ?_
        refine lv_iconst (v := 3) hx hb dX6_isAsAside_27 (by decide) ?_
        refine lv_iconst (v := 4) hx hb dX6_isAsAside_28 (by decide) ?_
        refine lv_iload_n hx hb dX6_isAsAside_29 rfl (lv_at hl 2 rfl) ?_
        refine lv_imul hx hb dX6_isAsAside_30 ?_
        refine lv_iadd hx hb dX6_isAsAside_31 ?_
        refine lv_iconst (v := 1) hx hb dX6_isAsAside_32 (by decide) ?_
        refine lv_iadd hx hb dX6_isAsAside_33 ?_
        obtain ⟨hg4, h⟩ := if_inv h
        refine va_iald hx hb hK hP 6 0 rfl rfl (inB_in hg4) dX6_isAsAside_34 ?_
        refine lv_icmp_ne (tgt := 42) hx hb dX6_isAsAside_35 (by decide) (fun hc5 => ?_) (fun hc5 => ?_)
        · rw [if_neg hc5] at h
          refine lv_iconst (v := 0) hx hb dX6_isAsAside_42 (by decide) ?_
          refine lv_istore_n (lv' := [(1, .int 0), (0, .ref (a 0)), (2, .int x2)]) hx hb dX6_isAsAside_43 rfl hl (by decide) rfl (fun ls hl => ?_)
          refine lv_iinc (v := x2 + 1) (lv' := [(2, .int (x2 + 1)), (1, .int 0), (0, .ref (a 0))]) hx hb dX6_isAsAside_44 hl (k := 2) rfl rfl (by decide) rfl (fun ls hl => ?_)
          refine lv_goto (tgt := 4) hx hb dX6_isAsAside_47 (by decide) ?_
          exact ih _ _ _ h _ _ _ hP hD hS (lv_sub hl [2, 1, 0] rfl) kk
        · rw [if_pos hc5] at h
          refine lv_iconst (v := 1) hx hb dX6_isAsAside_38 (by decide) ?_
          refine lv_goto (tgt := 43) hx hb dX6_isAsAside_39 (by decide) ?_
          refine lv_istore_n (lv' := [(1, .int 1), (0, .ref (a 0)), (2, .int x2)]) hx hb dX6_isAsAside_43 rfl hl (by decide) rfl (fun ls hl => ?_)
          refine lv_iinc (v := x2 + 1) (lv' := [(2, .int (x2 + 1)), (1, .int 1), (0, .ref (a 0))]) hx hb dX6_isAsAside_44 hl (k := 2) rfl rfl (by decide) rfl (fun ls hl => ?_)
          refine lv_goto (tgt := 4) hx hb dX6_isAsAside_47 (by decide) ?_
          exact ih _ _ _ h _ _ _ hP hD hS (lv_sub hl [2, 1, 0] rfl) kk
set_option maxHeartbeats 4000000 in
set_option maxRecDepth 100000 in
theorem c_X6_isAsAside (l : Launch) (D : va_G) (cA : Nat → ClassId) (a : Nat → Nat) (σ : St6) (res : Int32) (h : f_X6_isAsAside σ = some res) : CT l D cA yX6_isAsAside wsX6_isAsAside rmX6_isAsAside [.ref (a 0)] [w6 cA a σ] [w6 cA a σ] (some (.int res)) := by
  refine CT.start (cc := cX6_isAsAside) (maxL := 3) (ret := (some .boolean)) (by decide) rfl (Nat.le_of_ble_eq_true rfl) ?_
  intro p e s m below meth c Z hP hD hS ls hl
  have Z : Cx p s m _ meth c cX6_isAsAside 3 (some .boolean) wsX6_isAsAside RX6 D cA := Z
  have hl : lv_has ls 3 [(0, .ref (a 0))] := hl
  obtain ⟨hx, hb, hml, hown, hts, hr, hlk, hKK⟩ := id Z
  have hK := hKK.1
  rw [f_X6_isAsAside] at h
  refine lv_iconst (v := 1) hx hb dX6_isAsAside_0 (by decide) ?_
  refine lv_istore_n (lv' := [(1, .int 1), (0, .ref (a 0))]) hx hb dX6_isAsAside_1 rfl hl (by decide) rfl (fun ls hl => ?_)
  refine lv_iconst (v := 0) hx hb dX6_isAsAside_2 (by decide) ?_
  refine lv_istore_n (lv' := [(2, .int 0), (1, .int 1), (0, .ref (a 0))]) hx hb dX6_isAsAside_3 rfl hl (by decide) rfl (fun ls hl => ?_)
  obtain ⟨q6, hq6, h⟩ := bind_inv h
  refine t_X6_isAsAside_4 Z σ FU _ _ _ hq6 _ _ _ hP hD hS (lv_sub hl [2, 1, 0] rfl) (fun H locs ls hP hD hS hl => ?_)
  refine lv_iload_n hx hb dX6_isAsAside_50 rfl (lv_at hl 1 rfl) ?_
  obtain ⟨hg7, h⟩ := if_inv h
  have h := Option.some.inj h
  subst h
  exact CT.zret Z (nar_bool hg7) hP hD hS dX6_isAsAside_51

-- X6.again
noncomputable def lp_X6_again_10  : Nat → Int32 → Int32 → St6 → Option (Int32 × Int32 × St6)
  | 0, _, _, _ => none
  | n + 1, x1, x2, σ => (if 241 ≤ x2 then some (x1, x2, σ) else (if x1 = (-4) then ((f_X6_goesOn σ 24).bind (fun r4 => ((f_X6_isAsAside r4).bind (fun r5 => (if r5 = 0 then lp_X6_again_10  n (-4) (x2 + 24) r4 else lp_X6_again_10  n x2 (x2 + 24) r4))))) else some (x1, x2, σ)))
noncomputable def f_X6_again (σ : St6) : Option (Int32 × St6) := ((f_X6_asides σ).bind (fun r1 => ((lp_X6_again_10  FU (-4) 24 r1).bind (fun q7 => ((f_X6_backs q7.2.2).bind (fun r8 => some (q7.1, r8)))))))
noncomputable def rmX6_again : Room := { frames := 6, cells := 0, slots := 0, locals := 134 }
set_option maxHeartbeats 4000000 in
set_option maxRecDepth 100000 in
theorem t_X6_again_10 {p : Program} {l : Launch} {e : Env} {s : State} {m : MethodId} {args : Array Value} {below : List Frame} {meth : Method} {c : Code} {D : va_G} {cA : Nat → ClassId} {A0 : Nat → Prop} {H0 : Heap} {a : Nat → Nat} (Z : Cx p s m args meth c cX6_again 3 (some .int) wsX6_again RX6 D cA)  {Q : State → Prop} : ∀ (n : Nat) (x1 : Int32) (x2 : Int32) (σ : St6) (q : Int32 × Int32 × St6), lp_X6_again_10  n x1 x2 σ = some q → ∀ (H : Heap) (locs : List Loc) (ls : Array Slot), va_P D vwCl ([w6 cA a σ] : List va_W).flatten H → va_D A0 ([w6 cA a σ] : List va_W).flatten → va_S A0 H0 H locs → lv_has ls 3 [(0, .ref (a 0)), (1, .int x1), (2, .int x2)] → (∀ (H : Heap) (locs : List Loc) (ls : Array Slot), va_P D vwCl ([w6 cA a q.2.2] : List va_W).flatten H → va_D A0 ([w6 cA a q.2.2] : List va_W).flatten → va_S A0 H0 H locs → lv_has ls 3 [(0, .ref (a 0)), (1, .int q.1), (2, .int q.2.1)] → W p l e rmX6_again s m args below meth c H locs 0 0 Q (F0 m 49 ls [])) → W p l e rmX6_again s m args below meth c H locs 0 0 Q (F0 m 10 ls []) := by
  obtain ⟨hx, hb, hml, hown, hts, hr, hlk, hKK⟩ := id Z
  have hK := hKK.1
  intro n
  induction n with
  | zero =>
    intro x1 x2 σ q h
    rw [lp_X6_again_10] at h
    cases h
  | succ n ih =>
    intro x1 x2 σ q h H locs ls hP hD hS hl kk
    rw [lp_X6_again_10] at h
    refine lv_iload_n hx hb dX6_again_10 rfl (lv_at hl 2 rfl) ?_
    refine lv_sipush (v := 241) hx hb dX6_again_11 (by decide) ?_
    refine lv_icmp_ge (tgt := 49) hx hb dX6_again_14 (by decide) (fun hc2 => ?_) (fun hc2 => ?_)
    · rw [if_pos hc2] at h
      have h := Option.some.inj h
      subst h
      exact kk _ _ _ hP hD hS (lv_sub hl [0, 1, 2] rfl)
    · rw [if_neg hc2] at h
      refine lv_iload_n hx hb dX6_again_17 rfl (lv_at hl 1 rfl) ?_
      refine lv_bipush (v := (-4)) hx hb dX6_again_18 (by decide) ?_
      refine lv_icmp_ne (tgt := 49) hx hb dX6_again_20 (by decide) (fun hc3 => ?_) (fun hc3 => ?_)
      · rw [if_neg hc3] at h
        have h := Option.some.inj h
        subst h
        exact kk _ _ _ hP hD hS (lv_sub hl [0, 1, 2] rfl)
      · rw [if_pos hc3] at h
        refine lv_aload_n hx hb dX6_again_23 rfl (lv_at hl 0 rfl) ?_
        refine lv_bipush (v := 24) hx hb dX6_again_24 (by decide) ?_
        obtain ⟨r4, hr4, h⟩ := bind_inv h
        refine kV (rest := []) (st1 := []) (cr := []) (cs' := [w6 cA a r4]) Z (c_X6_goesOn l D cA a σ 24 r4 hr4) 1 gX6_again_X6_goesOn rfl hdX6_goesOn ⟨rfl, rfl⟩ ⟨Nat.le_of_ble_eq_true rfl, Nat.le_of_ble_eq_true rfl⟩ ⟨Nat.zero_le _, Nat.zero_le _⟩ hP hD hS hl.1 rfl rfl rfl (Nat.le_of_ble_eq_true rfl) 6 rfl rfl rfl [0] [] [0] rfl rfl rfl rfl rfl dX6_again_26 (fun H locs hP hD hS => ?_)
        refine lv_aload_n hx hb dX6_again_29 rfl (lv_at hl 0 rfl) ?_
        obtain ⟨r5, hr5, h⟩ := bind_inv h
        refine kV (rest := []) (st1 := [.int r5]) (cr := []) (cs' := [w6 cA a r4]) Z (c_X6_isAsAside l D cA a r4 r5 hr5) 0 gX6_again_X6_isAsAside rfl hdX6_isAsAside ⟨rfl, rfl⟩ ⟨Nat.le_of_ble_eq_true rfl, Nat.le_of_ble_eq_true rfl⟩ ⟨Nat.zero_le _, Nat.zero_le _⟩ hP hD hS hl.1 rfl rfl rfl (Nat.le_of_ble_eq_true rfl) 6 rfl rfl rfl [0] [] [0] rfl rfl rfl rfl rfl dX6_again_30 (fun H locs hP hD hS => ?_)
        refine lv_if_eq (tgt := 40) hx hb dX6_again_33 (by decide) (fun hc6 => ?_) (fun hc6 => ?_)
        · rw [if_pos hc6] at h
          refine lv_bipush (v := (-4)) hx hb dX6_again_40 (by decide) ?_
          refine lv_istore_n (lv' := [(1, .int (-4)), (0, .ref (a 0)), (2, .int x2)]) hx hb dX6_again_42 rfl hl (by decide) rfl (fun ls hl => ?_)
          refine lv_iinc (v := x2 + 24) (lv' := [(2, .int (x2 + 24)), (1, .int (-4)), (0, .ref (a 0))]) hx hb dX6_again_43 hl (k := 2) rfl rfl (by decide) rfl (fun ls hl => ?_)
          refine lv_goto (tgt := 10) hx hb dX6_again_46 (by decide) ?_
          exact ih _ _ _ _ h _ _ _ hP hD hS (lv_sub hl [2, 1, 0] rfl) kk
        · rw [if_neg hc6] at h
          refine lv_iload_n hx hb dX6_again_36 rfl (lv_at hl 2 rfl) ?_
          refine lv_goto (tgt := 42) hx hb dX6_again_37 (by decide) ?_
          refine lv_istore_n (lv' := [(1, .int x2), (0, .ref (a 0)), (2, .int x2)]) hx hb dX6_again_42 rfl hl (by decide) rfl (fun ls hl => ?_)
          refine lv_iinc (v := x2 + 24) (lv' := [(2, .int (x2 + 24)), (1, .int x2), (0, .ref (a 0))]) hx hb dX6_again_43 hl (k := 2) rfl rfl (by decide) rfl (fun ls hl => ?_)
          refine lv_goto (tgt := 10) hx hb dX6_again_46 (by decide) ?_
          exact ih _ _ _ _ h _ _ _ hP hD hS (lv_sub hl [2, 1, 0] rfl) kk
set_option maxHeartbeats 4000000 in
set_option maxRecDepth 100000 in
theorem c_X6_again (l : Launch) (D : va_G) (cA : Nat → ClassId) (a : Nat → Nat) (σ : St6) (res : Int32 × St6) (h : f_X6_again σ = some res) : CT l D cA yX6_again wsX6_again rmX6_again [.ref (a 0)] [w6 cA a σ] [w6 cA a res.2] (some (.int res.1)) := by
  refine CT.start (cc := cX6_again) (maxL := 3) (ret := (some .int)) (by decide) rfl (Nat.le_of_ble_eq_true rfl) ?_
  intro p e s m below meth c Z hP hD hS ls hl
  have Z : Cx p s m _ meth c cX6_again 3 (some .int) wsX6_again RX6 D cA := Z
  have hl : lv_has ls 3 [(0, .ref (a 0))] := hl
  obtain ⟨hx, hb, hml, hown, hts, hr, hlk, hKK⟩ := id Z
  have hK := hKK.1
  rw [f_X6_again] at h
  refine lv_aload_n hx hb dX6_again_0 rfl (lv_at hl 0 rfl) ?_
  obtain ⟨r1, hr1, h⟩ := bind_inv h
  refine kV (rest := []) (st1 := []) (cr := []) (cs' := [w6 cA a r1]) Z (c_X6_asides l D cA a σ r1 hr1) 0 gX6_again_X6_asides rfl hdX6_asides ⟨rfl, rfl⟩ ⟨Nat.le_of_ble_eq_true rfl, Nat.le_of_ble_eq_true rfl⟩ ⟨Nat.zero_le _, Nat.zero_le _⟩ hP hD hS hl.1 rfl rfl rfl (Nat.le_of_ble_eq_true rfl) 6 rfl rfl rfl [0] [] [0] rfl rfl rfl rfl rfl dX6_again_1 (fun H locs hP hD hS => ?_)
  refine lv_bipush (v := (-4)) hx hb dX6_again_4 (by decide) ?_
  refine lv_istore_n (lv' := [(1, .int (-4)), (0, .ref (a 0))]) hx hb dX6_again_6 rfl hl (by decide) rfl (fun ls hl => ?_)
  refine lv_bipush (v := 24) hx hb dX6_again_7 (by decide) ?_
  refine lv_istore_n (lv' := [(2, .int 24), (1, .int (-4)), (0, .ref (a 0))]) hx hb dX6_again_9 rfl hl (by decide) rfl (fun ls hl => ?_)
  obtain ⟨q7, hq7, h⟩ := bind_inv h
  refine t_X6_again_10 Z  FU _ _ _ _ hq7 _ _ _ hP hD hS (lv_sub hl [2, 1, 0] rfl) (fun H locs ls hP hD hS hl => ?_)
  refine lv_aload_n hx hb dX6_again_49 rfl (lv_at hl 0 rfl) ?_
  obtain ⟨r8, hr8, h⟩ := bind_inv h
  refine kV (rest := []) (st1 := []) (cr := []) (cs' := [w6 cA a r8]) Z (c_X6_backs l D cA a q7.2.2 r8 hr8) 0 gX6_again_X6_backs rfl hdX6_backs ⟨rfl, rfl⟩ ⟨Nat.le_of_ble_eq_true rfl, Nat.le_of_ble_eq_true rfl⟩ ⟨Nat.zero_le _, Nat.zero_le _⟩ hP hD hS hl.1 rfl rfl rfl (Nat.le_of_ble_eq_true rfl) 6 rfl rfl rfl [0] [] [0] rfl rfl rfl rfl rfl dX6_again_50 (fun H locs hP hD hS => ?_)
  refine lv_iload_n hx hb dX6_again_53 rfl (lv_at hl 1 rfl) ?_
  have h := Option.some.inj h
  subst h
  exact CT.iret Z hP hD hS dX6_again_54

-- X6.forget
theorem ck_X6_forget_203 : Cond.constantLong RX6 203 10 ∈ wsX6_forget := by decide +kernel
theorem lk_X6_forget_7 : Cond.fieldLink RX6 7 "KeyedFeelingsModel" "now" "[I" ∈ wsX6_forget := by decide +kernel
theorem in_X6_forget_X6 : ∀ w ∈ wsX60, w ∈ wsX6_forget := by decide +kernel
noncomputable def lp_X6_forget_38 (σ : St6) (x1 : Int32) (x2 : Int32) (x3 : Int32) : Nat → Int32 → Int32 → Option (Int32 × Int32)
  | 0, _, _ => none
  | n + 1, x4, x5 => (if ((p6_now σ) (0 : Int32).toNatClampNeg) ≤ x5 then some (x4, x5) else ((f_X6_isWinding σ).bind (fun r8 => (if r8 = 0 then lp_X6_forget_38 σ x1 x2 x3 n (x4 ||| 0) (x5 + 1) else ((f_X6_isStopped σ x5).bind (fun r10 => (if r10 = 0 then ((f_X6_whom σ x5).bind (fun r12 => (if r12 = (-4) then lp_X6_forget_38 σ x1 x2 x3 n (x4 ||| 0) (x5 + 1) else lp_X6_forget_38 σ x1 x2 x3 n (x4 ||| (1 <<< (x5 &&& 31))) (x5 + 1)))) else lp_X6_forget_38 σ x1 x2 x3 n (x4 ||| 0) (x5 + 1))))))))
noncomputable def lp_X6_forget_131 (σ : St6) (x1 : Int32) (x2 : Int32) (x3 : Int32) (x4 : Int32) (x5 : Int32) (x6 : Int32) (x7 : Int32) : Nat → Int32 → Int32 → Option (Int32 × Int32)
  | 0, _, _ => none
  | n + 1, x8, x9 => (if 6 ≤ x9 then some (x8, x9) else (if ((x4 >>> (x9 &&& 31)) &&& 1) = 0 then lp_X6_forget_131 σ x1 x2 x3 x4 x5 x6 x7 n (x8 * 1) (x9 + 1) else (if ((x7 >>> (x9 &&& 31)) &&& 1) = 1 then lp_X6_forget_131 σ x1 x2 x3 x4 x5 x6 x7 n (x8 * x2) (x9 + 1) else lp_X6_forget_131 σ x1 x2 x3 x4 x5 x6 x7 n (x8 * (10 - x2)) (x9 + 1))))
noncomputable def lp_X6_forget_108 (x1 : Int32) (x2 : Int32) (x3 : Int32) (x4 : Int32) : Nat → Int32 → Int32 → Int32 → St6 → Option (Int32 × Int32 × Int32 × St6)
  | 0, _, _, _, _ => none
  | n + 1, x5, x6, x7, σ => (if 64 ≤ x7 then some (x5, x6, x7, σ) else (if (x7 &&& (x4 ^^^ (-1))) = 0 then ((lp_X6_forget_131 σ x1 x2 x3 x4 x5 x6 x7 FU 1 0).bind (fun q21 => ((f_X6_goesBy σ x7).bind (fun r22 => ((f_X6_isStopped r22 x1).bind (fun r23 => (if r23 = 0 then ((f_X6_backs r22).bind (fun r25 => lp_X6_forget_108 x1 x2 x3 x4 n (x5 + 0) (x6 + q21.1) (x7 + 1) r25)) else ((f_X6_backs r22).bind (fun r26 => lp_X6_forget_108 x1 x2 x3 x4 n (x5 + q21.1) (x6 + q21.1) (x7 + 1) r26))))))))) else lp_X6_forget_108 x1 x2 x3 x4 n x5 x6 (x7 + 1) σ))
noncomputable def lp_X6_forget_232 (σ : St6) (x3 : Int32) (x5 : Int32) (x6 : Int32) : Nat → Int32 → Int32 → Option (Int32 × Int32)
  | 0, _, _ => none
  | n + 1, x7, x8 => (if x8 = 0 then some (x7, x8) else (if ¬ x8 = 0 then lp_X6_forget_232 σ x3 x5 x6 n x8 (x7 - x7 / x8 * x8) else none))
noncomputable def f_X6_forget (σ : St6) (x1 : Int32) (x2 : Int32) (x3 : Int32) : Option (Int32 × St6) := ((f_X6_isPerson σ x1).bind (fun r1 => (if r1 = 0 then some ((-1), σ) else ((f_X6_in x2.toInt64 0 10).bind (fun r3 => (if r3 = 0 then some ((-1), σ) else ((f_X6_in x3.toInt64 0 1).bind (fun r5 => (if r5 = 0 then some ((-1), σ) else ((lp_X6_forget_38 σ x1 x2 x3 FU 0 0).bind (fun q14 => ((f_X6_asides σ).bind (fun r15 => ((lp_X6_forget_108 x1 x2 x3 q14.1 FU 0 0 0 r15).bind (fun q27 => ((lp_X6_forget_232 q27.2.2.2 x3 q27.1 q27.2.1 FU q27.1 q27.2.1).bind (fun q30 => (if x3 = 0 then (if ¬ q30.1 = 0 then some (q27.1 / q30.1, q27.2.2.2) else none) else (if ¬ q30.1 = 0 then some (q27.2.1 / q30.1, q27.2.2.2) else none)))))))))))))))))))
noncomputable def rmX6_forget : Room := { frames := 5, cells := 0, slots := 0, locals := 112 }
set_option maxHeartbeats 4000000 in
set_option maxRecDepth 100000 in
theorem t_X6_forget_38 {p : Program} {l : Launch} {e : Env} {s : State} {m : MethodId} {args : Array Value} {below : List Frame} {meth : Method} {c : Code} {D : va_G} {cA : Nat → ClassId} {A0 : Nat → Prop} {H0 : Heap} {a : Nat → Nat} (Z : Cx p s m args meth c cX6_forget 10 (some .int) wsX6_forget RX6 D cA) (σ : St6) (x1 : Int32) (x2 : Int32) (x3 : Int32) {Q : State → Prop} : ∀ (n : Nat) (x4 : Int32) (x5 : Int32) (q : Int32 × Int32), lp_X6_forget_38 σ x1 x2 x3 n x4 x5 = some q → ∀ (H : Heap) (locs : List Loc) (ls : Array Slot), va_P D vwCl ([w6 cA a σ] : List va_W).flatten H → va_D A0 ([w6 cA a σ] : List va_W).flatten → va_S A0 H0 H locs → lv_has ls 10 [(0, .ref (a 0)), (1, .int x1), (2, .int x2), (3, .int x3), (4, .int x4), (5, .int x5)] → (∀ (H : Heap) (locs : List Loc) (ls : Array Slot), va_P D vwCl ([w6 cA a σ] : List va_W).flatten H → va_D A0 ([w6 cA a σ] : List va_W).flatten → va_S A0 H0 H locs → lv_has ls 10 [(0, .ref (a 0)), (1, .int x1), (2, .int x2), (3, .int x3), (4, .int q.1), (5, .int q.2)] → W p l e rmX6_forget s m args below meth c H locs 0 0 Q (F0 m 95 ls [])) → W p l e rmX6_forget s m args below meth c H locs 0 0 Q (F0 m 38 ls []) := by
  obtain ⟨hx, hb, hml, hown, hts, hr, hlk, hKK⟩ := id Z
  have hK := hKK.1
  intro n
  induction n with
  | zero =>
    intro x4 x5 q h
    rw [lp_X6_forget_38] at h
    cases h
  | succ n ih =>
    intro x4 x5 q h H locs ls hP hD hS hl kk
    rw [lp_X6_forget_38] at h
    refine lv_iload hx hb dX6_forget_38 (lv_at hl 5 rfl) ?_
    refine lv_aload_n hx hb dX6_forget_40 rfl (lv_at hl 0 rfl) ?_
    refine va_get (D := D) (ci := 6) (v := .ref (a 1)) (C := RX6) (T := TX6) (N := 19) hx hb hts in_X6_forget_X6 hown hK hP 0 rfl rfl 0 (by decide) (hts _ lk_X6_forget_7) (fun _ h9 => h9) rfl dX6_forget_41 ?_
    refine lv_iconst (v := 0) hx hb dX6_forget_44 (by decide) ?_
    refine va_iald hx hb hK hP 1 0 rfl rfl (inB_in (by decide)) dX6_forget_45 ?_
    refine lv_icmp_ge (tgt := 95) hx hb dX6_forget_46 (by decide) (fun hc7 => ?_) (fun hc7 => ?_)
    · rw [if_pos hc7] at h
      have h := Option.some.inj h
      subst h
      exact kk _ _ _ hP hD hS (lv_sub hl [0, 1, 2, 3, 4, 5] rfl)
    · rw [if_neg hc7] at h
      refine lv_iload hx hb dX6_forget_49 (lv_at hl 4 rfl) ?_
      refine lv_aload_n hx hb dX6_forget_51 rfl (lv_at hl 0 rfl) ?_
      obtain ⟨r8, hr8, h⟩ := bind_inv h
      refine kV (rest := [.int x4]) (st1 := [.int r8, .int x4]) (cr := []) (cs' := [w6 cA a σ]) Z (c_X6_isWinding l D cA a σ r8 hr8) 0 gX6_forget_X6_isWinding rfl hdX6_isWinding ⟨rfl, rfl⟩ ⟨Nat.le_of_ble_eq_true rfl, Nat.le_of_ble_eq_true rfl⟩ ⟨Nat.zero_le _, Nat.zero_le _⟩ hP hD hS hl.1 rfl rfl rfl (Nat.le_of_ble_eq_true rfl) 6 rfl rfl rfl [0] [] [0] rfl rfl rfl rfl rfl dX6_forget_52 (fun H locs hP hD hS => ?_)
      refine lv_if_eq (tgt := 85) hx hb dX6_forget_55 (by decide) (fun hc9 => ?_) (fun hc9 => ?_)
      · rw [if_pos hc9] at h
        refine lv_iconst (v := 0) hx hb dX6_forget_85 (by decide) ?_
        refine lv_ior hx hb dX6_forget_86 ?_
        refine lv_istore (lv' := [(4, .int (x4 ||| 0)), (0, .ref (a 0)), (1, .int x1), (2, .int x2), (3, .int x3), (5, .int x5)]) hx hb dX6_forget_87 hl (by decide) rfl (fun ls hl => ?_)
        refine lv_iinc (v := x5 + 1) (lv' := [(5, .int (x5 + 1)), (4, .int (x4 ||| 0)), (0, .ref (a 0)), (1, .int x1), (2, .int x2), (3, .int x3)]) hx hb dX6_forget_89 hl (k := 5) rfl rfl (by decide) rfl (fun ls hl => ?_)
        refine lv_goto (tgt := 38) hx hb dX6_forget_92 (by decide) ?_
        exact ih _ _ _ h _ _ _ hP hD hS (lv_sub hl [2, 3, 4, 5, 1, 0] rfl) kk
      · rw [if_neg hc9] at h
        refine lv_aload_n hx hb dX6_forget_58 rfl (lv_at hl 0 rfl) ?_
        refine lv_iload hx hb dX6_forget_59 (lv_at hl 5 rfl) ?_
        obtain ⟨r10, hr10, h⟩ := bind_inv h
        refine kV (rest := [.int x4]) (st1 := [.int r10, .int x4]) (cr := []) (cs' := [w6 cA a σ]) Z (c_X6_isStopped l D cA a σ x5 r10 hr10) 1 gX6_forget_X6_isStopped rfl hdX6_isStopped ⟨rfl, rfl⟩ ⟨Nat.le_of_ble_eq_true rfl, Nat.le_of_ble_eq_true rfl⟩ ⟨Nat.zero_le _, Nat.zero_le _⟩ hP hD hS hl.1 rfl rfl rfl (Nat.le_of_ble_eq_true rfl) 6 rfl rfl rfl [0] [] [0] rfl rfl rfl rfl rfl dX6_forget_61 (fun H locs hP hD hS => ?_)
        refine lv_if_ne (tgt := 85) hx hb dX6_forget_64 (by decide) (fun hc11 => ?_) (fun hc11 => ?_)
        · rw [if_neg hc11] at h
          refine lv_iconst (v := 0) hx hb dX6_forget_85 (by decide) ?_
          refine lv_ior hx hb dX6_forget_86 ?_
          refine lv_istore (lv' := [(4, .int (x4 ||| 0)), (0, .ref (a 0)), (1, .int x1), (2, .int x2), (3, .int x3), (5, .int x5)]) hx hb dX6_forget_87 hl (by decide) rfl (fun ls hl => ?_)
          refine lv_iinc (v := x5 + 1) (lv' := [(5, .int (x5 + 1)), (4, .int (x4 ||| 0)), (0, .ref (a 0)), (1, .int x1), (2, .int x2), (3, .int x3)]) hx hb dX6_forget_89 hl (k := 5) rfl rfl (by decide) rfl (fun ls hl => ?_)
          refine lv_goto (tgt := 38) hx hb dX6_forget_92 (by decide) ?_
          exact ih _ _ _ h _ _ _ hP hD hS (lv_sub hl [2, 3, 4, 5, 1, 0] rfl) kk
        · rw [if_pos hc11] at h
          refine lv_aload_n hx hb dX6_forget_67 rfl (lv_at hl 0 rfl) ?_
          refine lv_iload hx hb dX6_forget_68 (lv_at hl 5 rfl) ?_
          obtain ⟨r12, hr12, h⟩ := bind_inv h
          refine kV (rest := [.int x4]) (st1 := [.int r12, .int x4]) (cr := []) (cs' := [w6 cA a σ]) Z (c_X6_whom l D cA a σ x5 r12 hr12) 1 gX6_forget_X6_whom rfl hdX6_whom ⟨rfl, rfl⟩ ⟨Nat.le_of_ble_eq_true rfl, Nat.le_of_ble_eq_true rfl⟩ ⟨Nat.zero_le _, Nat.zero_le _⟩ hP hD hS hl.1 rfl rfl rfl (Nat.le_of_ble_eq_true rfl) 6 rfl rfl rfl [0] [] [0] rfl rfl rfl rfl rfl dX6_forget_70 (fun H locs hP hD hS => ?_)
          refine lv_bipush (v := (-4)) hx hb dX6_forget_73 (by decide) ?_
          refine lv_icmp_eq (tgt := 85) hx hb dX6_forget_75 (by decide) (fun hc13 => ?_) (fun hc13 => ?_)
          · rw [if_pos hc13] at h
            refine lv_iconst (v := 0) hx hb dX6_forget_85 (by decide) ?_
            refine lv_ior hx hb dX6_forget_86 ?_
            refine lv_istore (lv' := [(4, .int (x4 ||| 0)), (0, .ref (a 0)), (1, .int x1), (2, .int x2), (3, .int x3), (5, .int x5)]) hx hb dX6_forget_87 hl (by decide) rfl (fun ls hl => ?_)
            refine lv_iinc (v := x5 + 1) (lv' := [(5, .int (x5 + 1)), (4, .int (x4 ||| 0)), (0, .ref (a 0)), (1, .int x1), (2, .int x2), (3, .int x3)]) hx hb dX6_forget_89 hl (k := 5) rfl rfl (by decide) rfl (fun ls hl => ?_)
            refine lv_goto (tgt := 38) hx hb dX6_forget_92 (by decide) ?_
            exact ih _ _ _ h _ _ _ hP hD hS (lv_sub hl [2, 3, 4, 5, 1, 0] rfl) kk
          · rw [if_neg hc13] at h
            refine lv_iconst (v := 1) hx hb dX6_forget_78 (by decide) ?_
            refine lv_iload hx hb dX6_forget_79 (lv_at hl 5 rfl) ?_
            refine lv_ishl hx hb dX6_forget_81 ?_
            refine lv_goto (tgt := 86) hx hb dX6_forget_82 (by decide) ?_
            refine lv_ior hx hb dX6_forget_86 ?_
            refine lv_istore (lv' := [(4, .int (x4 ||| (1 <<< (x5 &&& 31)))), (0, .ref (a 0)), (1, .int x1), (2, .int x2), (3, .int x3), (5, .int x5)]) hx hb dX6_forget_87 hl (by decide) rfl (fun ls hl => ?_)
            refine lv_iinc (v := x5 + 1) (lv' := [(5, .int (x5 + 1)), (4, .int (x4 ||| (1 <<< (x5 &&& 31)))), (0, .ref (a 0)), (1, .int x1), (2, .int x2), (3, .int x3)]) hx hb dX6_forget_89 hl (k := 5) rfl rfl (by decide) rfl (fun ls hl => ?_)
            refine lv_goto (tgt := 38) hx hb dX6_forget_92 (by decide) ?_
            exact ih _ _ _ h _ _ _ hP hD hS (lv_sub hl [2, 3, 4, 5, 1, 0] rfl) kk
set_option maxHeartbeats 4000000 in
set_option maxRecDepth 100000 in
theorem t_X6_forget_131 {p : Program} {l : Launch} {e : Env} {s : State} {m : MethodId} {args : Array Value} {below : List Frame} {meth : Method} {c : Code} {D : va_G} {cA : Nat → ClassId} {A0 : Nat → Prop} {H0 : Heap} {a : Nat → Nat} (Z : Cx p s m args meth c cX6_forget 10 (some .int) wsX6_forget RX6 D cA) (σ : St6) (x1 : Int32) (x2 : Int32) (x3 : Int32) (x4 : Int32) (x5 : Int32) (x6 : Int32) (x7 : Int32) {Q : State → Prop} : ∀ (n : Nat) (x8 : Int32) (x9 : Int32) (q : Int32 × Int32), lp_X6_forget_131 σ x1 x2 x3 x4 x5 x6 x7 n x8 x9 = some q → ∀ (H : Heap) (locs : List Loc) (ls : Array Slot), va_P D vwCl ([w6 cA a σ] : List va_W).flatten H → va_D A0 ([w6 cA a σ] : List va_W).flatten → va_S A0 H0 H locs → lv_has ls 10 [(0, .ref (a 0)), (1, .int x1), (2, .int x2), (3, .int x3), (4, .int x4), (5, .int x5), (6, .int x6), (7, .int x7), (8, .int x8), (9, .int x9)] → (∀ (H : Heap) (locs : List Loc) (ls : Array Slot), va_P D vwCl ([w6 cA a σ] : List va_W).flatten H → va_D A0 ([w6 cA a σ] : List va_W).flatten → va_S A0 H0 H locs → lv_has ls 10 [(0, .ref (a 0)), (1, .int x1), (2, .int x2), (3, .int x3), (4, .int x4), (5, .int x5), (6, .int x6), (7, .int x7), (8, .int q.1), (9, .int q.2)] → W p l e rmX6_forget s m args below meth c H locs 0 0 Q (F0 m 182 ls [])) → W p l e rmX6_forget s m args below meth c H locs 0 0 Q (F0 m 131 ls []) := by
  obtain ⟨hx, hb, hml, hown, hts, hr, hlk, hKK⟩ := id Z
  have hK := hKK.1
  intro n
  induction n with
  | zero =>
    intro x8 x9 q h
    rw [lp_X6_forget_131] at h
    cases h
  | succ n ih =>
    intro x8 x9 q h H locs ls hP hD hS hl kk
    rw [lp_X6_forget_131] at h
    refine lv_iload hx hb dX6_forget_131 (lv_at hl 9 rfl) ?_
    refine lv_bipush (v := 6) hx hb dX6_forget_133 (by decide) ?_
    refine lv_icmp_ge (tgt := 182) hx hb dX6_forget_135 (by decide) (fun hc18 => ?_) (fun hc18 => ?_)
    · rw [if_pos hc18] at h
      have h := Option.some.inj h
      subst h
      exact kk _ _ _ hP hD hS (lv_sub hl [0, 1, 2, 3, 4, 5, 6, 7, 8, 9] rfl)
    · rw [if_neg hc18] at h
      refine lv_iload hx hb dX6_forget_138 (lv_at hl 8 rfl) ?_
      refine lv_iload hx hb dX6_forget_140 (lv_at hl 4 rfl) ?_
      refine lv_iload hx hb dX6_forget_142 (lv_at hl 9 rfl) ?_
      refine lv_ishr hx hb dX6_forget_144 ?_
      refine lv_iconst (v := 1) hx hb dX6_forget_145 (by decide) ?_
      refine lv_iand hx hb dX6_forget_146 ?_
      refine lv_if_ne (tgt := 154) hx hb dX6_forget_147 (by decide) (fun hc19 => ?_) (fun hc19 => ?_)
      · rw [if_neg hc19] at h
        refine lv_iload hx hb dX6_forget_154 (lv_at hl 7 rfl) ?_
        refine lv_iload hx hb dX6_forget_156 (lv_at hl 9 rfl) ?_
        refine lv_ishr hx hb dX6_forget_158 ?_
        refine lv_iconst (v := 1) hx hb dX6_forget_159 (by decide) ?_
        refine lv_iand hx hb dX6_forget_160 ?_
        refine lv_iconst (v := 1) hx hb dX6_forget_161 (by decide) ?_
        refine lv_icmp_ne (tgt := 169) hx hb dX6_forget_162 (by decide) (fun hc20 => ?_) (fun hc20 => ?_)
        · rw [if_neg hc20] at h
          refine lv_bipush (v := 10) hx hb dX6_forget_169 (by decide) ?_
          refine lv_iload_n hx hb dX6_forget_171 rfl (lv_at hl 2 rfl) ?_
          refine lv_isub hx hb dX6_forget_172 ?_
          refine lv_imul hx hb dX6_forget_173 ?_
          refine lv_istore (lv' := [(8, .int (x8 * (10 - x2))), (0, .ref (a 0)), (1, .int x1), (2, .int x2), (3, .int x3), (4, .int x4), (5, .int x5), (6, .int x6), (7, .int x7), (9, .int x9)]) hx hb dX6_forget_174 hl (by decide) rfl (fun ls hl => ?_)
          refine lv_iinc (v := x9 + 1) (lv' := [(9, .int (x9 + 1)), (8, .int (x8 * (10 - x2))), (0, .ref (a 0)), (1, .int x1), (2, .int x2), (3, .int x3), (4, .int x4), (5, .int x5), (6, .int x6), (7, .int x7)]) hx hb dX6_forget_176 hl (k := 9) rfl rfl (by decide) rfl (fun ls hl => ?_)
          refine lv_goto (tgt := 131) hx hb dX6_forget_179 (by decide) ?_
          exact ih _ _ _ h _ _ _ hP hD hS (lv_sub hl [2, 3, 4, 5, 6, 7, 8, 9, 1, 0] rfl) kk
        · rw [if_pos hc20] at h
          refine lv_iload_n hx hb dX6_forget_165 rfl (lv_at hl 2 rfl) ?_
          refine lv_goto (tgt := 173) hx hb dX6_forget_166 (by decide) ?_
          refine lv_imul hx hb dX6_forget_173 ?_
          refine lv_istore (lv' := [(8, .int (x8 * x2)), (0, .ref (a 0)), (1, .int x1), (2, .int x2), (3, .int x3), (4, .int x4), (5, .int x5), (6, .int x6), (7, .int x7), (9, .int x9)]) hx hb dX6_forget_174 hl (by decide) rfl (fun ls hl => ?_)
          refine lv_iinc (v := x9 + 1) (lv' := [(9, .int (x9 + 1)), (8, .int (x8 * x2)), (0, .ref (a 0)), (1, .int x1), (2, .int x2), (3, .int x3), (4, .int x4), (5, .int x5), (6, .int x6), (7, .int x7)]) hx hb dX6_forget_176 hl (k := 9) rfl rfl (by decide) rfl (fun ls hl => ?_)
          refine lv_goto (tgt := 131) hx hb dX6_forget_179 (by decide) ?_
          exact ih _ _ _ h _ _ _ hP hD hS (lv_sub hl [2, 3, 4, 5, 6, 7, 8, 9, 1, 0] rfl) kk
      · rw [if_pos hc19] at h
        refine lv_iconst (v := 1) hx hb dX6_forget_150 (by decide) ?_
        refine lv_goto (tgt := 173) hx hb dX6_forget_151 (by decide) ?_
        refine lv_imul hx hb dX6_forget_173 ?_
        refine lv_istore (lv' := [(8, .int (x8 * 1)), (0, .ref (a 0)), (1, .int x1), (2, .int x2), (3, .int x3), (4, .int x4), (5, .int x5), (6, .int x6), (7, .int x7), (9, .int x9)]) hx hb dX6_forget_174 hl (by decide) rfl (fun ls hl => ?_)
        refine lv_iinc (v := x9 + 1) (lv' := [(9, .int (x9 + 1)), (8, .int (x8 * 1)), (0, .ref (a 0)), (1, .int x1), (2, .int x2), (3, .int x3), (4, .int x4), (5, .int x5), (6, .int x6), (7, .int x7)]) hx hb dX6_forget_176 hl (k := 9) rfl rfl (by decide) rfl (fun ls hl => ?_)
        refine lv_goto (tgt := 131) hx hb dX6_forget_179 (by decide) ?_
        exact ih _ _ _ h _ _ _ hP hD hS (lv_sub hl [2, 3, 4, 5, 6, 7, 8, 9, 1, 0] rfl) kk
set_option maxHeartbeats 4000000 in
set_option maxRecDepth 100000 in
theorem t_X6_forget_108 {p : Program} {l : Launch} {e : Env} {s : State} {m : MethodId} {args : Array Value} {below : List Frame} {meth : Method} {c : Code} {D : va_G} {cA : Nat → ClassId} {A0 : Nat → Prop} {H0 : Heap} {a : Nat → Nat} (Z : Cx p s m args meth c cX6_forget 10 (some .int) wsX6_forget RX6 D cA) (x1 : Int32) (x2 : Int32) (x3 : Int32) (x4 : Int32) {Q : State → Prop} : ∀ (n : Nat) (x5 : Int32) (x6 : Int32) (x7 : Int32) (σ : St6) (q : Int32 × Int32 × Int32 × St6), lp_X6_forget_108 x1 x2 x3 x4 n x5 x6 x7 σ = some q → ∀ (H : Heap) (locs : List Loc) (ls : Array Slot), va_P D vwCl ([w6 cA a σ] : List va_W).flatten H → va_D A0 ([w6 cA a σ] : List va_W).flatten → va_S A0 H0 H locs → lv_has ls 10 [(0, .ref (a 0)), (1, .int x1), (2, .int x2), (3, .int x3), (4, .int x4), (5, .int x5), (6, .int x6), (7, .int x7)] → (∀ (H : Heap) (locs : List Loc) (ls : Array Slot), va_P D vwCl ([w6 cA a q.2.2.2] : List va_W).flatten H → va_D A0 ([w6 cA a q.2.2.2] : List va_W).flatten → va_S A0 H0 H locs → lv_has ls 10 [(0, .ref (a 0)), (1, .int x1), (2, .int x2), (3, .int x3), (4, .int x4), (5, .int q.1), (6, .int q.2.1), (7, .int q.2.2.1)] → W p l e rmX6_forget s m args below meth c H locs 0 0 Q (F0 m 224 ls [])) → W p l e rmX6_forget s m args below meth c H locs 0 0 Q (F0 m 108 ls []) := by
  obtain ⟨hx, hb, hml, hown, hts, hr, hlk, hKK⟩ := id Z
  have hK := hKK.1
  intro n
  induction n with
  | zero =>
    intro x5 x6 x7 σ q h
    rw [lp_X6_forget_108] at h
    cases h
  | succ n ih =>
    intro x5 x6 x7 σ q h H locs ls hP hD hS hl kk
    rw [lp_X6_forget_108] at h
    refine lv_iload hx hb dX6_forget_108 (lv_at hl 7 rfl) ?_
    refine lv_bipush (v := 64) hx hb dX6_forget_110 (by decide) ?_
    refine lv_icmp_ge (tgt := 224) hx hb dX6_forget_112 (by decide) (fun hc16 => ?_) (fun hc16 => ?_)
    · rw [if_pos hc16] at h
      have h := Option.some.inj h
      subst h
      exact kk _ _ _ hP hD hS (lv_sub hl [0, 1, 2, 3, 4, 5, 6, 7] rfl)
    · rw [if_neg hc16] at h
      refine lv_iload hx hb dX6_forget_115 (lv_at hl 7 rfl) ?_
      refine lv_iload hx hb dX6_forget_117 (lv_at hl 4 rfl) ?_
      refine lv_iconst (v := (-1)) hx hb dX6_forget_119 (by decide) ?_
      refine lv_ixor hx hb dX6_forget_120 ?_
      refine lv_iand hx hb dX6_forget_121 ?_
      refine lv_if_ne (tgt := 218) hx hb dX6_forget_122 (by decide) (fun hc17 => ?_) (fun hc17 => ?_)
      · rw [if_neg hc17] at h
        refine lv_iinc (v := x7 + 1) (lv' := [(7, .int (x7 + 1)), (0, .ref (a 0)), (1, .int x1), (2, .int x2), (3, .int x3), (4, .int x4), (5, .int x5), (6, .int x6)]) hx hb dX6_forget_218 hl (k := 7) rfl rfl (by decide) rfl (fun ls hl => ?_)
        refine lv_goto (tgt := 108) hx hb dX6_forget_221 (by decide) ?_
        exact ih _ _ _ _ _ h _ _ _ hP hD hS (lv_sub hl [1, 2, 3, 4, 5, 6, 7, 0] rfl) kk
      · rw [if_pos hc17] at h
        refine lv_iconst (v := 1) hx hb dX6_forget_125 (by decide) ?_
        refine lv_istore (lv' := [(8, .int 1), (0, .ref (a 0)), (1, .int x1), (2, .int x2), (3, .int x3), (4, .int x4), (5, .int x5), (6, .int x6), (7, .int x7)]) hx hb dX6_forget_126 hl (by decide) rfl (fun ls hl => ?_)
        refine lv_iconst (v := 0) hx hb dX6_forget_128 (by decide) ?_
        refine lv_istore (lv' := [(9, .int 0), (8, .int 1), (0, .ref (a 0)), (1, .int x1), (2, .int x2), (3, .int x3), (4, .int x4), (5, .int x5), (6, .int x6), (7, .int x7)]) hx hb dX6_forget_129 hl (by decide) rfl (fun ls hl => ?_)
        obtain ⟨q21, hq21, h⟩ := bind_inv h
        refine t_X6_forget_131 Z σ x1 x2 x3 x4 x5 x6 x7 FU _ _ _ hq21 _ _ _ hP hD hS (lv_sub hl [2, 3, 4, 5, 6, 7, 8, 9, 1, 0] rfl) (fun H locs ls hP hD hS hl => ?_)
        refine lv_aload_n hx hb dX6_forget_182 rfl (lv_at hl 0 rfl) ?_
        refine lv_iload hx hb dX6_forget_183 (lv_at hl 7 rfl) ?_
        obtain ⟨r22, hr22, h⟩ := bind_inv h
        refine kV (rest := []) (st1 := []) (cr := []) (cs' := [w6 cA a r22]) Z (c_X6_goesBy l D cA a σ x7 r22 hr22) 1 gX6_forget_X6_goesBy rfl hdX6_goesBy ⟨rfl, rfl⟩ ⟨Nat.le_of_ble_eq_true rfl, Nat.le_of_ble_eq_true rfl⟩ ⟨Nat.zero_le _, Nat.zero_le _⟩ hP hD hS hl.1 rfl rfl rfl (Nat.le_of_ble_eq_true rfl) 6 rfl rfl rfl [0] [] [0] rfl rfl rfl rfl rfl dX6_forget_185 (fun H locs hP hD hS => ?_)
        refine lv_iload hx hb dX6_forget_188 (lv_at hl 6 rfl) ?_
        refine lv_iload hx hb dX6_forget_190 (lv_at hl 8 rfl) ?_
        refine lv_iadd hx hb dX6_forget_192 ?_
        refine lv_istore (lv' := [(6, .int (x6 + q21.1)), (0, .ref (a 0)), (1, .int x1), (2, .int x2), (3, .int x3), (4, .int x4), (5, .int x5), (7, .int x7), (8, .int q21.1), (9, .int q21.2)]) hx hb dX6_forget_193 hl (by decide) rfl (fun ls hl => ?_)
        refine lv_iload hx hb dX6_forget_195 (lv_at hl 6 rfl) ?_
        refine lv_aload_n hx hb dX6_forget_197 rfl (lv_at hl 1 rfl) ?_
        refine lv_iload_n hx hb dX6_forget_198 rfl (lv_at hl 2 rfl) ?_
        obtain ⟨r23, hr23, h⟩ := bind_inv h
        refine kV (rest := [.int x5]) (st1 := [.int r23, .int x5]) (cr := []) (cs' := [w6 cA a r22]) Z (c_X6_isStopped l D cA a r22 x1 r23 hr23) 1 gX6_forget_X6_isStopped rfl hdX6_isStopped ⟨rfl, rfl⟩ ⟨Nat.le_of_ble_eq_true rfl, Nat.le_of_ble_eq_true rfl⟩ ⟨Nat.zero_le _, Nat.zero_le _⟩ hP hD hS hl.1 rfl rfl rfl (Nat.le_of_ble_eq_true rfl) 6 rfl rfl rfl [0] [] [0] rfl rfl rfl rfl rfl dX6_forget_199 (fun H locs hP hD hS => ?_)
        refine lv_if_eq (tgt := 210) hx hb dX6_forget_202 (by decide) (fun hc24 => ?_) (fun hc24 => ?_)
        · rw [if_pos hc24] at h
          refine lv_iconst (v := 0) hx hb dX6_forget_210 (by decide) ?_
          refine lv_iadd hx hb dX6_forget_211 ?_
          refine lv_istore (lv' := [(5, .int (x5 + 0)), (6, .int (x6 + q21.1)), (0, .ref (a 0)), (1, .int x1), (2, .int x2), (3, .int x3), (4, .int x4), (7, .int x7), (8, .int q21.1), (9, .int q21.2)]) hx hb dX6_forget_212 hl (by decide) rfl (fun ls hl => ?_)
          refine lv_aload_n hx hb dX6_forget_214 rfl (lv_at hl 2 rfl) ?_
          obtain ⟨r25, hr25, h⟩ := bind_inv h
          refine kV (rest := []) (st1 := []) (cr := []) (cs' := [w6 cA a r25]) Z (c_X6_backs l D cA a r22 r25 hr25) 0 gX6_forget_X6_backs rfl hdX6_backs ⟨rfl, rfl⟩ ⟨Nat.le_of_ble_eq_true rfl, Nat.le_of_ble_eq_true rfl⟩ ⟨Nat.zero_le _, Nat.zero_le _⟩ hP hD hS hl.1 rfl rfl rfl (Nat.le_of_ble_eq_true rfl) 6 rfl rfl rfl [0] [] [0] rfl rfl rfl rfl rfl dX6_forget_215 (fun H locs hP hD hS => ?_)
          refine lv_iinc (v := x7 + 1) (lv' := [(7, .int (x7 + 1)), (5, .int (x5 + 0)), (6, .int (x6 + q21.1)), (0, .ref (a 0)), (1, .int x1), (2, .int x2), (3, .int x3), (4, .int x4), (8, .int q21.1), (9, .int q21.2)]) hx hb dX6_forget_218 hl (k := 7) rfl rfl (by decide) rfl (fun ls hl => ?_)
          refine lv_goto (tgt := 108) hx hb dX6_forget_221 (by decide) ?_
          exact ih _ _ _ _ _ h _ _ _ hP hD hS (lv_sub hl [3, 4, 5, 6, 7, 1, 2, 0] rfl) kk
        · rw [if_neg hc24] at h
          refine lv_iload hx hb dX6_forget_205 (lv_at hl 8 rfl) ?_
          refine lv_goto (tgt := 211) hx hb dX6_forget_207 (by decide) ?_
          refine lv_iadd hx hb dX6_forget_211 ?_
          refine lv_istore (lv' := [(5, .int (x5 + q21.1)), (6, .int (x6 + q21.1)), (0, .ref (a 0)), (1, .int x1), (2, .int x2), (3, .int x3), (4, .int x4), (7, .int x7), (8, .int q21.1), (9, .int q21.2)]) hx hb dX6_forget_212 hl (by decide) rfl (fun ls hl => ?_)
          refine lv_aload_n hx hb dX6_forget_214 rfl (lv_at hl 2 rfl) ?_
          obtain ⟨r26, hr26, h⟩ := bind_inv h
          refine kV (rest := []) (st1 := []) (cr := []) (cs' := [w6 cA a r26]) Z (c_X6_backs l D cA a r22 r26 hr26) 0 gX6_forget_X6_backs rfl hdX6_backs ⟨rfl, rfl⟩ ⟨Nat.le_of_ble_eq_true rfl, Nat.le_of_ble_eq_true rfl⟩ ⟨Nat.zero_le _, Nat.zero_le _⟩ hP hD hS hl.1 rfl rfl rfl (Nat.le_of_ble_eq_true rfl) 6 rfl rfl rfl [0] [] [0] rfl rfl rfl rfl rfl dX6_forget_215 (fun H locs hP hD hS => ?_)
          refine lv_iinc (v := x7 + 1) (lv' := [(7, .int (x7 + 1)), (5, .int (x5 + q21.1)), (6, .int (x6 + q21.1)), (0, .ref (a 0)), (1, .int x1), (2, .int x2), (3, .int x3), (4, .int x4), (8, .int q21.1), (9, .int q21.2)]) hx hb dX6_forget_218 hl (k := 7) rfl rfl (by decide) rfl (fun ls hl => ?_)
          refine lv_goto (tgt := 108) hx hb dX6_forget_221 (by decide) ?_
          exact ih _ _ _ _ _ h _ _ _ hP hD hS (lv_sub hl [3, 4, 5, 6, 7, 1, 2, 0] rfl) kk
set_option maxHeartbeats 4000000 in
set_option maxRecDepth 100000 in
theorem t_X6_forget_232 {p : Program} {l : Launch} {e : Env} {s : State} {m : MethodId} {args : Array Value} {below : List Frame} {meth : Method} {c : Code} {D : va_G} {cA : Nat → ClassId} {A0 : Nat → Prop} {H0 : Heap} {a : Nat → Nat} (Z : Cx p s m args meth c cX6_forget 10 (some .int) wsX6_forget RX6 D cA) (σ : St6) (x3 : Int32) (x5 : Int32) (x6 : Int32) {Q : State → Prop} : ∀ (n : Nat) (x7 : Int32) (x8 : Int32) (q : Int32 × Int32), lp_X6_forget_232 σ x3 x5 x6 n x7 x8 = some q → ∀ (H : Heap) (locs : List Loc) (ls : Array Slot), va_P D vwCl ([w6 cA a σ] : List va_W).flatten H → va_D A0 ([w6 cA a σ] : List va_W).flatten → va_S A0 H0 H locs → lv_has ls 10 [(3, .int x3), (5, .int x5), (6, .int x6), (7, .int x7), (8, .int x8)] → (∀ (H : Heap) (locs : List Loc) (ls : Array Slot), va_P D vwCl ([w6 cA a σ] : List va_W).flatten H → va_D A0 ([w6 cA a σ] : List va_W).flatten → va_S A0 H0 H locs → lv_has ls 10 [(3, .int x3), (5, .int x5), (6, .int x6), (7, .int q.1), (8, .int q.2)] → W p l e rmX6_forget s m args below meth c H locs 0 0 Q (F0 m 255 ls [])) → W p l e rmX6_forget s m args below meth c H locs 0 0 Q (F0 m 232 ls []) := by
  obtain ⟨hx, hb, hml, hown, hts, hr, hlk, hKK⟩ := id Z
  have hK := hKK.1
  intro n
  induction n with
  | zero =>
    intro x7 x8 q h
    rw [lp_X6_forget_232] at h
    cases h
  | succ n ih =>
    intro x7 x8 q h H locs ls hP hD hS hl kk
    rw [lp_X6_forget_232] at h
    refine lv_iload hx hb dX6_forget_232 (lv_at hl 4 rfl) ?_
    refine lv_if_eq (tgt := 255) hx hb dX6_forget_234 (by decide) (fun hc28 => ?_) (fun hc28 => ?_)
    · rw [if_pos hc28] at h
      have h := Option.some.inj h
      subst h
      exact kk _ _ _ hP hD hS (lv_sub hl [0, 1, 2, 3, 4] rfl)
    · rw [if_neg hc28] at h
      refine lv_iload hx hb dX6_forget_237 (lv_at hl 3 rfl) ?_
      refine lv_iload hx hb dX6_forget_239 (lv_at hl 4 rfl) ?_
      obtain ⟨hg29, h⟩ := if_inv h
      refine lv_irem hx hb dX6_forget_241 hg29 ?_
      refine lv_istore (lv' := [(9, .int (x7 - x7 / x8 * x8)), (3, .int x3), (5, .int x5), (6, .int x6), (7, .int x7), (8, .int x8)]) hx hb dX6_forget_242 hl (by decide) rfl (fun ls hl => ?_)
      refine lv_iload hx hb dX6_forget_244 (lv_at hl 5 rfl) ?_
      refine lv_istore (lv' := [(7, .int x8), (9, .int (x7 - x7 / x8 * x8)), (3, .int x3), (5, .int x5), (6, .int x6), (8, .int x8)]) hx hb dX6_forget_246 hl (by decide) rfl (fun ls hl => ?_)
      refine lv_iload hx hb dX6_forget_248 (lv_at hl 1 rfl) ?_
      refine lv_istore (lv' := [(8, .int (x7 - x7 / x8 * x8)), (7, .int x8), (9, .int (x7 - x7 / x8 * x8)), (3, .int x3), (5, .int x5), (6, .int x6)]) hx hb dX6_forget_250 hl (by decide) rfl (fun ls hl => ?_)
      refine lv_goto (tgt := 232) hx hb dX6_forget_252 (by decide) ?_
      exact ih _ _ _ h _ _ _ hP hD hS (lv_sub hl [3, 4, 5, 1, 0] rfl) kk
set_option maxHeartbeats 4000000 in
set_option maxRecDepth 100000 in
theorem c_X6_forget (l : Launch) (D : va_G) (cA : Nat → ClassId) (a : Nat → Nat) (σ : St6) (x1 : Int32) (x2 : Int32) (x3 : Int32) (res : Int32 × St6) (h : f_X6_forget σ x1 x2 x3 = some res) : CT l D cA yX6_forget wsX6_forget rmX6_forget [.ref (a 0), .int x1, .int x2, .int x3] [w6 cA a σ] [w6 cA a res.2] (some (.int res.1)) := by
  refine CT.start (cc := cX6_forget) (maxL := 10) (ret := (some .int)) (by decide) rfl (Nat.le_of_ble_eq_true rfl) ?_
  intro p e s m below meth c Z hP hD hS ls hl
  have Z : Cx p s m _ meth c cX6_forget 10 (some .int) wsX6_forget RX6 D cA := Z
  have hl : lv_has ls 10 [(0, .ref (a 0)), (1, .int x1), (2, .int x2), (3, .int x3)] := hl
  obtain ⟨hx, hb, hml, hown, hts, hr, hlk, hKK⟩ := id Z
  have hK := hKK.1
  rw [f_X6_forget] at h
  refine lv_aload_n hx hb dX6_forget_0 rfl (lv_at hl 0 rfl) ?_
  refine lv_iload_n hx hb dX6_forget_1 rfl (lv_at hl 1 rfl) ?_
  obtain ⟨r1, hr1, h⟩ := bind_inv h
  refine kV (rest := []) (st1 := [.int r1]) (cr := []) (cs' := [w6 cA a σ]) Z (c_X6_isPerson l D cA a σ x1 r1 hr1) 1 gX6_forget_X6_isPerson rfl hdX6_isPerson ⟨rfl, rfl⟩ ⟨Nat.le_of_ble_eq_true rfl, Nat.le_of_ble_eq_true rfl⟩ ⟨Nat.zero_le _, Nat.zero_le _⟩ hP hD hS hl.1 rfl rfl rfl (Nat.le_of_ble_eq_true rfl) 6 rfl rfl rfl [0] [] [0] rfl rfl rfl rfl rfl dX6_forget_2 (fun H locs hP hD hS => ?_)
  refine lv_if_eq (tgt := 30) hx hb dX6_forget_5 (by decide) (fun hc2 => ?_) (fun hc2 => ?_)
  · rw [if_pos hc2] at h
    refine lv_iconst (v := (-1)) hx hb dX6_forget_30 (by decide) ?_
    have h := Option.some.inj h
    subst h
    exact CT.iret Z hP hD hS dX6_forget_31
  · rw [if_neg hc2] at h
    refine lv_iload_n hx hb dX6_forget_8 rfl (lv_at hl 2 rfl) ?_
    refine lv_i2l (v := x2.toInt64) hx hb dX6_forget_9 rfl ?_
    refine lv_lconst (v := 0) hx hb dX6_forget_10 (by decide) ?_
    refine lv_ldc2 hx hb hown (hts _ ck_X6_forget_203) dX6_forget_11 ?_
    obtain ⟨r3, hr3, h⟩ := bind_inv h
    refine kS (rest := []) (st1 := [.int r3]) (cr := [w6 cA a σ]) (cs' := [w6 cA a σ]) Z (c_X6_in l D cA x2.toInt64 0 10 r3 hr3) 3 gX6_forget_X6_in rfl hdX6_in ⟨rfl, rfl⟩ ⟨Nat.le_of_ble_eq_true rfl, Nat.le_of_ble_eq_true rfl⟩ ⟨Nat.zero_le _, Nat.zero_le _⟩ hP hD hS hl.1 rfl rfl rfl (Nat.le_of_ble_eq_true rfl) [] [0] [0] rfl rfl rfl rfl rfl dX6_forget_14 (fun H locs hP hD hS => ?_)
    refine lv_if_eq (tgt := 30) hx hb dX6_forget_17 (by decide) (fun hc4 => ?_) (fun hc4 => ?_)
    · rw [if_pos hc4] at h
      refine lv_iconst (v := (-1)) hx hb dX6_forget_30 (by decide) ?_
      have h := Option.some.inj h
      subst h
      exact CT.iret Z hP hD hS dX6_forget_31
    · rw [if_neg hc4] at h
      refine lv_iload_n hx hb dX6_forget_20 rfl (lv_at hl 3 rfl) ?_
      refine lv_i2l (v := x3.toInt64) hx hb dX6_forget_21 rfl ?_
      refine lv_lconst (v := 0) hx hb dX6_forget_22 (by decide) ?_
      refine lv_lconst (v := 1) hx hb dX6_forget_23 (by decide) ?_
      obtain ⟨r5, hr5, h⟩ := bind_inv h
      refine kS (rest := []) (st1 := [.int r5]) (cr := [w6 cA a σ]) (cs' := [w6 cA a σ]) Z (c_X6_in l D cA x3.toInt64 0 1 r5 hr5) 3 gX6_forget_X6_in rfl hdX6_in ⟨rfl, rfl⟩ ⟨Nat.le_of_ble_eq_true rfl, Nat.le_of_ble_eq_true rfl⟩ ⟨Nat.zero_le _, Nat.zero_le _⟩ hP hD hS hl.1 rfl rfl rfl (Nat.le_of_ble_eq_true rfl) [] [0] [0] rfl rfl rfl rfl rfl dX6_forget_24 (fun H locs hP hD hS => ?_)
      refine lv_if_ne (tgt := 32) hx hb dX6_forget_27 (by decide) (fun hc6 => ?_) (fun hc6 => ?_)
      · rw [if_neg hc6] at h
        refine lv_iconst (v := 0) hx hb dX6_forget_32 (by decide) ?_
        refine lv_istore (lv' := [(4, .int 0), (0, .ref (a 0)), (1, .int x1), (2, .int x2), (3, .int x3)]) hx hb dX6_forget_33 hl (by decide) rfl (fun ls hl => ?_)
        refine lv_iconst (v := 0) hx hb dX6_forget_35 (by decide) ?_
        refine lv_istore (lv' := [(5, .int 0), (4, .int 0), (0, .ref (a 0)), (1, .int x1), (2, .int x2), (3, .int x3)]) hx hb dX6_forget_36 hl (by decide) rfl (fun ls hl => ?_)
        obtain ⟨q14, hq14, h⟩ := bind_inv h
        refine t_X6_forget_38 Z σ x1 x2 x3 FU _ _ _ hq14 _ _ _ hP hD hS (lv_sub hl [2, 3, 4, 5, 1, 0] rfl) (fun H locs ls hP hD hS hl => ?_)
        refine lv_iconst (v := 0) hx hb dX6_forget_95 (by decide) ?_
        refine lv_istore (lv' := [(5, .int 0), (0, .ref (a 0)), (1, .int x1), (2, .int x2), (3, .int x3), (4, .int q14.1)]) hx hb dX6_forget_96 hl (by decide) rfl (fun ls hl => ?_)
        refine lv_iconst (v := 0) hx hb dX6_forget_98 (by decide) ?_
        refine lv_istore (lv' := [(6, .int 0), (5, .int 0), (0, .ref (a 0)), (1, .int x1), (2, .int x2), (3, .int x3), (4, .int q14.1)]) hx hb dX6_forget_99 hl (by decide) rfl (fun ls hl => ?_)
        refine lv_aload_n hx hb dX6_forget_101 rfl (lv_at hl 2 rfl) ?_
        obtain ⟨r15, hr15, h⟩ := bind_inv h
        refine kV (rest := []) (st1 := []) (cr := []) (cs' := [w6 cA a r15]) Z (c_X6_asides l D cA a σ r15 hr15) 0 gX6_forget_X6_asides rfl hdX6_asides ⟨rfl, rfl⟩ ⟨Nat.le_of_ble_eq_true rfl, Nat.le_of_ble_eq_true rfl⟩ ⟨Nat.zero_le _, Nat.zero_le _⟩ hP hD hS hl.1 rfl rfl rfl (Nat.le_of_ble_eq_true rfl) 6 rfl rfl rfl [0] [] [0] rfl rfl rfl rfl rfl dX6_forget_102 (fun H locs hP hD hS => ?_)
        refine lv_iconst (v := 0) hx hb dX6_forget_105 (by decide) ?_
        refine lv_istore (lv' := [(7, .int 0), (6, .int 0), (5, .int 0), (0, .ref (a 0)), (1, .int x1), (2, .int x2), (3, .int x3), (4, .int q14.1)]) hx hb dX6_forget_106 hl (by decide) rfl (fun ls hl => ?_)
        obtain ⟨q27, hq27, h⟩ := bind_inv h
        refine t_X6_forget_108 Z x1 x2 x3 q14.1 FU _ _ _ _ _ hq27 _ _ _ hP hD hS (lv_sub hl [3, 4, 5, 6, 7, 2, 1, 0] rfl) (fun H locs ls hP hD hS hl => ?_)
        refine lv_iload hx hb dX6_forget_224 (lv_at hl 5 rfl) ?_
        refine lv_istore (lv' := [(7, .int q27.1), (0, .ref (a 0)), (1, .int x1), (2, .int x2), (3, .int x3), (4, .int q14.1), (5, .int q27.1), (6, .int q27.2.1)]) hx hb dX6_forget_226 hl (by decide) rfl (fun ls hl => ?_)
        refine lv_iload hx hb dX6_forget_228 (lv_at hl 7 rfl) ?_
        refine lv_istore (lv' := [(8, .int q27.2.1), (7, .int q27.1), (0, .ref (a 0)), (1, .int x1), (2, .int x2), (3, .int x3), (4, .int q14.1), (5, .int q27.1), (6, .int q27.2.1)]) hx hb dX6_forget_230 hl (by decide) rfl (fun ls hl => ?_)
        obtain ⟨q30, hq30, h⟩ := bind_inv h
        refine t_X6_forget_232 Z q27.2.2.2 x3 q27.1 q27.2.1 FU _ _ _ hq30 _ _ _ hP hD hS (lv_sub hl [5, 7, 8, 1, 0] rfl) (fun H locs ls hP hD hS hl => ?_)
        refine lv_iload_n hx hb dX6_forget_255 rfl (lv_at hl 0 rfl) ?_
        refine lv_if_ne (tgt := 267) hx hb dX6_forget_256 (by decide) (fun hc31 => ?_) (fun hc31 => ?_)
        · rw [if_neg hc31] at h
          refine lv_iload hx hb dX6_forget_267 (lv_at hl 2 rfl) ?_
          refine lv_iload hx hb dX6_forget_269 (lv_at hl 3 rfl) ?_
          obtain ⟨hg32, h⟩ := if_inv h
          refine lv_idiv hx hb dX6_forget_271 hg32 ?_
          have h := Option.some.inj h
          subst h
          exact CT.iret Z hP hD hS dX6_forget_272
        · rw [if_pos hc31] at h
          refine lv_iload hx hb dX6_forget_259 (lv_at hl 1 rfl) ?_
          refine lv_iload hx hb dX6_forget_261 (lv_at hl 3 rfl) ?_
          obtain ⟨hg33, h⟩ := if_inv h
          refine lv_idiv hx hb dX6_forget_263 hg33 ?_
          refine lv_goto (tgt := 272) hx hb dX6_forget_264 (by decide) ?_
          have h := Option.some.inj h
          subst h
          exact CT.iret Z hP hD hS dX6_forget_272
      · rw [if_pos hc6] at h
        refine lv_iconst (v := (-1)) hx hb dX6_forget_30 (by decide) ?_
        have h := Option.some.inj h
        subst h
        exact CT.iret Z hP hD hS dX6_forget_31

-- X6.image
theorem lk_X6_image_34 : Cond.fieldLink RX6 34 "KeyedFeelingsModel" "kept" "[I" ∈ wsX6_image := by decide +kernel
theorem in_X6_image_X6 : ∀ w ∈ wsX60, w ∈ wsX6_image := by decide +kernel
theorem lk_X6_image_7 : Cond.fieldLink RX6 7 "KeyedFeelingsModel" "now" "[I" ∈ wsX6_image := by decide +kernel
theorem lk_X6_image_22 : Cond.fieldLink RX6 22 "KeyedFeelingsModel" "undone" "[I" ∈ wsX6_image := by decide +kernel
theorem lk_X6_image_90 : Cond.fieldLink RX6 90 "KeyedFeelingsModel" "undos" "I" ∈ wsX6_image := by decide +kernel
theorem lk_X6_image_205 : Cond.fieldLink RX6 205 "KeyedFeelingsModel" "keptUndos" "I" ∈ wsX6_image := by decide +kernel
theorem lk_X6_image_208 : Cond.fieldLink RX6 208 "KeyedFeelingsModel" "isKept" "Z" ∈ wsX6_image := by decide +kernel
noncomputable def lp_X6_image_2  : Nat → Int32 → St6 → Option (Int32 × St6)
  | 0, _, _ => none
  | n + 1, x1, σ => (if 27 ≤ x1 then some (x1, σ) else (if inB x1 27 = true then (if inB x1 243 = true then lp_X6_image_2  n (x1 + 1) (s6_kept σ (upd (p6_kept σ) x1.toNatClampNeg ((p6_now σ) x1.toNatClampNeg))) else none) else none))
noncomputable def lp_X6_image_28  : Nat → Int32 → St6 → Option (Int32 × St6)
  | 0, _, _ => none
  | n + 1, x1, σ => (if 216 ≤ x1 then some (x1, σ) else (if inB x1 216 = true then (if inB (27 + x1) 243 = true then lp_X6_image_28  n (x1 + 1) (s6_kept σ (upd (p6_kept σ) ((27 + x1).toNatClampNeg) ((p6_undone σ) x1.toNatClampNeg))) else none) else none))
noncomputable def f_X6_image (σ : St6) : Option (Int32 × St6) := ((lp_X6_image_2  FU 0 σ).bind (fun q4 => ((lp_X6_image_28  FU 0 q4.2).bind (fun q8 => some (1, (s6_isKept (s6_keptUndos q8.2 (p6_undos q8.2)) 1))))))
noncomputable def rmX6_image : Room := { frames := 0, cells := 0, slots := 0, locals := 0 }
set_option maxHeartbeats 4000000 in
set_option maxRecDepth 100000 in
theorem t_X6_image_2 {p : Program} {l : Launch} {e : Env} {s : State} {m : MethodId} {args : Array Value} {below : List Frame} {meth : Method} {c : Code} {D : va_G} {cA : Nat → ClassId} {A0 : Nat → Prop} {H0 : Heap} {a : Nat → Nat} (Z : Cx p s m args meth c cX6_image 2 (some .int) wsX6_image RX6 D cA)  {Q : State → Prop} : ∀ (n : Nat) (x1 : Int32) (σ : St6) (q : Int32 × St6), lp_X6_image_2  n x1 σ = some q → ∀ (H : Heap) (locs : List Loc) (ls : Array Slot), va_P D vwCl ([w6 cA a σ] : List va_W).flatten H → va_D A0 ([w6 cA a σ] : List va_W).flatten → va_S A0 H0 H locs → lv_has ls 2 [(0, .ref (a 0)), (1, .int x1)] → (∀ (H : Heap) (locs : List Loc) (ls : Array Slot), va_P D vwCl ([w6 cA a q.2] : List va_W).flatten H → va_D A0 ([w6 cA a q.2] : List va_W).flatten → va_S A0 H0 H locs → lv_has ls 2 [(0, .ref (a 0)), (1, .int q.1)] → W p l e rmX6_image s m args below meth c H locs 0 0 Q (F0 m 26 ls [])) → W p l e rmX6_image s m args below meth c H locs 0 0 Q (F0 m 2 ls []) := by
  obtain ⟨hx, hb, hml, hown, hts, hr, hlk, hKK⟩ := id Z
  have hK := hKK.1
  intro n
  induction n with
  | zero =>
    intro x1 σ q h
    rw [lp_X6_image_2] at h
    cases h
  | succ n ih =>
    intro x1 σ q h H locs ls hP hD hS hl kk
    rw [lp_X6_image_2] at h
    refine lv_iload_n hx hb dX6_image_2 rfl (lv_at hl 1 rfl) ?_
    refine lv_bipush (v := 27) hx hb dX6_image_3 (by decide) ?_
    refine lv_icmp_ge (tgt := 26) hx hb dX6_image_5 (by decide) (fun hc1 => ?_) (fun hc1 => ?_)
    · rw [if_pos hc1] at h
      have h := Option.some.inj h
      subst h
      exact kk _ _ _ hP hD hS (lv_sub hl [0, 1] rfl)
    · rw [if_neg hc1] at h
      refine lv_aload_n hx hb dX6_image_8 rfl (lv_at hl 0 rfl) ?_
      refine va_get (D := D) (ci := 6) (v := .ref (a 9)) (C := RX6) (T := TX6) (N := 19) hx hb hts in_X6_image_X6 hown hK hP 0 rfl rfl 12 (by decide) (hts _ lk_X6_image_34) (fun _ h9 => h9) rfl dX6_image_9 ?_
      refine lv_iload_n hx hb dX6_image_12 rfl (lv_at hl 1 rfl) ?_
      refine lv_aload_n hx hb dX6_image_13 rfl (lv_at hl 0 rfl) ?_
      refine va_get (D := D) (ci := 6) (v := .ref (a 1)) (C := RX6) (T := TX6) (N := 19) hx hb hts in_X6_image_X6 hown hK hP 0 rfl rfl 0 (by decide) (hts _ lk_X6_image_7) (fun _ h9 => h9) rfl dX6_image_14 ?_
      refine lv_iload_n hx hb dX6_image_17 rfl (lv_at hl 1 rfl) ?_
      obtain ⟨hg2, h⟩ := if_inv h
      refine va_iald hx hb hK hP 1 0 rfl rfl (inB_in hg2) dX6_image_18 ?_
      obtain ⟨hg3, h⟩ := if_inv h
      refine va_iast hx hb hK hP hD hS 9 0 rfl rfl (inB_in hg3) dX6_image_19 (fun H locs hP hD hS => ?_)
      have hP : va_P D vwCl ([w6 cA a (s6_kept σ (upd (p6_kept σ) x1.toNatClampNeg ((p6_now σ) x1.toNatClampNeg)))] : List va_W).flatten H := hP
      have hD : va_D _ ([w6 cA a (s6_kept σ (upd (p6_kept σ) x1.toNatClampNeg ((p6_now σ) x1.toNatClampNeg)))] : List va_W).flatten := hD
      refine lv_iinc (v := x1 + 1) (lv' := [(1, .int (x1 + 1)), (0, .ref (a 0))]) hx hb dX6_image_20 hl (k := 1) rfl rfl (by decide) rfl (fun ls hl => ?_)
      refine lv_goto (tgt := 2) hx hb dX6_image_23 (by decide) ?_
      exact ih _ _ _ h _ _ _ hP hD hS (lv_sub hl [1, 0] rfl) kk
set_option maxHeartbeats 4000000 in
set_option maxRecDepth 100000 in
theorem t_X6_image_28 {p : Program} {l : Launch} {e : Env} {s : State} {m : MethodId} {args : Array Value} {below : List Frame} {meth : Method} {c : Code} {D : va_G} {cA : Nat → ClassId} {A0 : Nat → Prop} {H0 : Heap} {a : Nat → Nat} (Z : Cx p s m args meth c cX6_image 2 (some .int) wsX6_image RX6 D cA)  {Q : State → Prop} : ∀ (n : Nat) (x1 : Int32) (σ : St6) (q : Int32 × St6), lp_X6_image_28  n x1 σ = some q → ∀ (H : Heap) (locs : List Loc) (ls : Array Slot), va_P D vwCl ([w6 cA a σ] : List va_W).flatten H → va_D A0 ([w6 cA a σ] : List va_W).flatten → va_S A0 H0 H locs → lv_has ls 2 [(0, .ref (a 0)), (1, .int x1)] → (∀ (H : Heap) (locs : List Loc) (ls : Array Slot), va_P D vwCl ([w6 cA a q.2] : List va_W).flatten H → va_D A0 ([w6 cA a q.2] : List va_W).flatten → va_S A0 H0 H locs → lv_has ls 2 [(0, .ref (a 0)), (1, .int q.1)] → W p l e rmX6_image s m args below meth c H locs 0 0 Q (F0 m 56 ls [])) → W p l e rmX6_image s m args below meth c H locs 0 0 Q (F0 m 28 ls []) := by
  obtain ⟨hx, hb, hml, hown, hts, hr, hlk, hKK⟩ := id Z
  have hK := hKK.1
  intro n
  induction n with
  | zero =>
    intro x1 σ q h
    rw [lp_X6_image_28] at h
    cases h
  | succ n ih =>
    intro x1 σ q h H locs ls hP hD hS hl kk
    rw [lp_X6_image_28] at h
    refine lv_iload_n hx hb dX6_image_28 rfl (lv_at hl 1 rfl) ?_
    refine lv_sipush (v := 216) hx hb dX6_image_29 (by decide) ?_
    refine lv_icmp_ge (tgt := 56) hx hb dX6_image_32 (by decide) (fun hc5 => ?_) (fun hc5 => ?_)
    · rw [if_pos hc5] at h
      have h := Option.some.inj h
      subst h
      exact kk _ _ _ hP hD hS (lv_sub hl [0, 1] rfl)
    · rw [if_neg hc5] at h
      refine lv_aload_n hx hb dX6_image_35 rfl (lv_at hl 0 rfl) ?_
      refine va_get (D := D) (ci := 6) (v := .ref (a 9)) (C := RX6) (T := TX6) (N := 19) hx hb hts in_X6_image_X6 hown hK hP 0 rfl rfl 12 (by decide) (hts _ lk_X6_image_34) (fun _ h9 => h9) rfl dX6_image_36 ?_
      refine lv_bipush (v := 27) hx hb dX6_image_39 (by decide) ?_
      refine lv_iload_n hx hb dX6_image_41 rfl (lv_at hl 1 rfl) ?_
      refine lv_iadd hx hb dX6_image_42 ?_
      refine lv_aload_n hx hb dX6_image_43 rfl (lv_at hl 0 rfl) ?_
      refine va_get (D := D) (ci := 6) (v := .ref (a 5)) (C := RX6) (T := TX6) (N := 19) hx hb hts in_X6_image_X6 hown hK hP 0 rfl rfl 7 (by decide) (hts _ lk_X6_image_22) (fun _ h9 => h9) rfl dX6_image_44 ?_
      refine lv_iload_n hx hb dX6_image_47 rfl (lv_at hl 1 rfl) ?_
      obtain ⟨hg6, h⟩ := if_inv h
      refine va_iald hx hb hK hP 5 0 rfl rfl (inB_in hg6) dX6_image_48 ?_
      obtain ⟨hg7, h⟩ := if_inv h
      refine va_iast hx hb hK hP hD hS 9 0 rfl rfl (inB_in hg7) dX6_image_49 (fun H locs hP hD hS => ?_)
      have hP : va_P D vwCl ([w6 cA a (s6_kept σ (upd (p6_kept σ) ((27 + x1).toNatClampNeg) ((p6_undone σ) x1.toNatClampNeg)))] : List va_W).flatten H := hP
      have hD : va_D _ ([w6 cA a (s6_kept σ (upd (p6_kept σ) ((27 + x1).toNatClampNeg) ((p6_undone σ) x1.toNatClampNeg)))] : List va_W).flatten := hD
      refine lv_iinc (v := x1 + 1) (lv' := [(1, .int (x1 + 1)), (0, .ref (a 0))]) hx hb dX6_image_50 hl (k := 1) rfl rfl (by decide) rfl (fun ls hl => ?_)
      refine lv_goto (tgt := 28) hx hb dX6_image_53 (by decide) ?_
      exact ih _ _ _ h _ _ _ hP hD hS (lv_sub hl [1, 0] rfl) kk
set_option maxHeartbeats 4000000 in
set_option maxRecDepth 100000 in
theorem c_X6_image (l : Launch) (D : va_G) (cA : Nat → ClassId) (a : Nat → Nat) (σ : St6) (res : Int32 × St6) (h : f_X6_image σ = some res) : CT l D cA yX6_image wsX6_image rmX6_image [.ref (a 0)] [w6 cA a σ] [w6 cA a res.2] (some (.int res.1)) := by
  refine CT.start (cc := cX6_image) (maxL := 2) (ret := (some .int)) (by decide) rfl (Nat.le_of_ble_eq_true rfl) ?_
  intro p e s m below meth c Z hP hD hS ls hl
  have Z : Cx p s m _ meth c cX6_image 2 (some .int) wsX6_image RX6 D cA := Z
  have hl : lv_has ls 2 [(0, .ref (a 0))] := hl
  obtain ⟨hx, hb, hml, hown, hts, hr, hlk, hKK⟩ := id Z
  have hK := hKK.1
  rw [f_X6_image] at h
  refine lv_iconst (v := 0) hx hb dX6_image_0 (by decide) ?_
  refine lv_istore_n (lv' := [(1, .int 0), (0, .ref (a 0))]) hx hb dX6_image_1 rfl hl (by decide) rfl (fun ls hl => ?_)
  obtain ⟨q4, hq4, h⟩ := bind_inv h
  refine t_X6_image_2 Z  FU _ _ _ hq4 _ _ _ hP hD hS (lv_sub hl [1, 0] rfl) (fun H locs ls hP hD hS hl => ?_)
  refine lv_iconst (v := 0) hx hb dX6_image_26 (by decide) ?_
  refine lv_istore_n (lv' := [(1, .int 0), (0, .ref (a 0))]) hx hb dX6_image_27 rfl hl (by decide) rfl (fun ls hl => ?_)
  obtain ⟨q8, hq8, h⟩ := bind_inv h
  refine t_X6_image_28 Z  FU _ _ _ hq8 _ _ _ hP hD hS (lv_sub hl [1, 0] rfl) (fun H locs ls hP hD hS hl => ?_)
  refine lv_aload_n hx hb dX6_image_56 rfl (lv_at hl 0 rfl) ?_
  refine lv_aload_n hx hb dX6_image_57 rfl (lv_at hl 0 rfl) ?_
  refine va_get (D := D) (ci := 6) (v := .int (p6_undos q8.2)) (C := RX6) (T := TX6) (N := 19) hx hb hts in_X6_image_X6 hown hK hP 0 rfl rfl 8 (by decide) (hts _ lk_X6_image_90) (fun _ h9 => h9) rfl dX6_image_58 ?_
  refine va_put (D := D) (ci := 6) (v := .int (p6_undos q8.2)) (ty := .int) (C := RX6) (T := TX6) (N := 19) hx hb hts in_X6_image_X6 tyX6 tyX6_ok nmX6 hown hK hP hD hS 0 rfl rfl 13 (by decide) (hts _ lk_X6_image_205) (fun _ h9 => h9) rfl (tyX6_ok 13 (by decide)) rfl rfl (Nat.le_of_ble_eq_true rfl) dX6_image_61 (fun H locs hP hD hS => ?_)
  have hP : va_P D vwCl ([w6 cA a (s6_keptUndos q8.2 (p6_undos q8.2))] : List va_W).flatten H := hP
  have hD : va_D _ ([w6 cA a (s6_keptUndos q8.2 (p6_undos q8.2))] : List va_W).flatten := hD
  refine lv_aload_n hx hb dX6_image_64 rfl (lv_at hl 0 rfl) ?_
  refine lv_iconst (v := 1) hx hb dX6_image_65 (by decide) ?_
  refine va_put (D := D) (ci := 6) (v := .int 1) (ty := .boolean) (C := RX6) (T := TX6) (N := 19) hx hb hts in_X6_image_X6 tyX6 tyX6_ok nmX6 hown hK hP hD hS 0 rfl rfl 14 (by decide) (hts _ lk_X6_image_208) (fun _ h9 => h9) rfl (tyX6_ok 14 (by decide)) (nar_bool (by decide)) (fit_bool (by decide)) (Nat.le_of_ble_eq_true rfl) dX6_image_66 (fun H locs hP hD hS => ?_)
  have hP : va_P D vwCl ([w6 cA a (s6_isKept (s6_keptUndos q8.2 (p6_undos q8.2)) 1)] : List va_W).flatten H := hP
  have hD : va_D _ ([w6 cA a (s6_isKept (s6_keptUndos q8.2 (p6_undos q8.2)) 1)] : List va_W).flatten := hD
  refine lv_iconst (v := 1) hx hb dX6_image_69 (by decide) ?_
  have h := Option.some.inj h
  subst h
  exact CT.iret Z hP hD hS dX6_image_70

-- X6.restore
theorem lk_X6_restore_208 : Cond.fieldLink RX6 208 "KeyedFeelingsModel" "isKept" "Z" ∈ wsX6_restore := by decide +kernel
theorem in_X6_restore_X6 : ∀ w ∈ wsX60, w ∈ wsX6_restore := by decide +kernel
theorem lk_X6_restore_7 : Cond.fieldLink RX6 7 "KeyedFeelingsModel" "now" "[I" ∈ wsX6_restore := by decide +kernel
theorem lk_X6_restore_34 : Cond.fieldLink RX6 34 "KeyedFeelingsModel" "kept" "[I" ∈ wsX6_restore := by decide +kernel
theorem lk_X6_restore_22 : Cond.fieldLink RX6 22 "KeyedFeelingsModel" "undone" "[I" ∈ wsX6_restore := by decide +kernel
theorem lk_X6_restore_205 : Cond.fieldLink RX6 205 "KeyedFeelingsModel" "keptUndos" "I" ∈ wsX6_restore := by decide +kernel
theorem lk_X6_restore_90 : Cond.fieldLink RX6 90 "KeyedFeelingsModel" "undos" "I" ∈ wsX6_restore := by decide +kernel
noncomputable def lp_X6_restore_12  : Nat → Int32 → St6 → Option (Int32 × St6)
  | 0, _, _ => none
  | n + 1, x1, σ => (if 27 ≤ x1 then some (x1, σ) else (if inB x1 243 = true then (if inB x1 27 = true then lp_X6_restore_12  n (x1 + 1) (s6_now σ (upd (p6_now σ) x1.toNatClampNeg ((p6_kept σ) x1.toNatClampNeg))) else none) else none))
noncomputable def lp_X6_restore_38  : Nat → Int32 → St6 → Option (Int32 × St6)
  | 0, _, _ => none
  | n + 1, x1, σ => (if 216 ≤ x1 then some (x1, σ) else (if inB (27 + x1) 243 = true then (if inB x1 216 = true then lp_X6_restore_38  n (x1 + 1) (s6_undone σ (upd (p6_undone σ) x1.toNatClampNeg ((p6_kept σ) (27 + x1).toNatClampNeg))) else none) else none))
noncomputable def f_X6_restore (σ : St6) : Option (Int32 × St6) := (if (p6_isKept σ) = 0 then some ((-4), σ) else ((lp_X6_restore_12  FU 0 σ).bind (fun q5 => ((lp_X6_restore_38  FU 0 q5.2).bind (fun q9 => some (1, (s6_undos q9.2 (p6_keptUndos q9.2))))))))
noncomputable def rmX6_restore : Room := { frames := 0, cells := 0, slots := 0, locals := 0 }
set_option maxHeartbeats 4000000 in
set_option maxRecDepth 100000 in
theorem t_X6_restore_12 {p : Program} {l : Launch} {e : Env} {s : State} {m : MethodId} {args : Array Value} {below : List Frame} {meth : Method} {c : Code} {D : va_G} {cA : Nat → ClassId} {A0 : Nat → Prop} {H0 : Heap} {a : Nat → Nat} (Z : Cx p s m args meth c cX6_restore 2 (some .int) wsX6_restore RX6 D cA)  {Q : State → Prop} : ∀ (n : Nat) (x1 : Int32) (σ : St6) (q : Int32 × St6), lp_X6_restore_12  n x1 σ = some q → ∀ (H : Heap) (locs : List Loc) (ls : Array Slot), va_P D vwCl ([w6 cA a σ] : List va_W).flatten H → va_D A0 ([w6 cA a σ] : List va_W).flatten → va_S A0 H0 H locs → lv_has ls 2 [(0, .ref (a 0)), (1, .int x1)] → (∀ (H : Heap) (locs : List Loc) (ls : Array Slot), va_P D vwCl ([w6 cA a q.2] : List va_W).flatten H → va_D A0 ([w6 cA a q.2] : List va_W).flatten → va_S A0 H0 H locs → lv_has ls 2 [(0, .ref (a 0)), (1, .int q.1)] → W p l e rmX6_restore s m args below meth c H locs 0 0 Q (F0 m 36 ls [])) → W p l e rmX6_restore s m args below meth c H locs 0 0 Q (F0 m 12 ls []) := by
  obtain ⟨hx, hb, hml, hown, hts, hr, hlk, hKK⟩ := id Z
  have hK := hKK.1
  intro n
  induction n with
  | zero =>
    intro x1 σ q h
    rw [lp_X6_restore_12] at h
    cases h
  | succ n ih =>
    intro x1 σ q h H locs ls hP hD hS hl kk
    rw [lp_X6_restore_12] at h
    refine lv_iload_n hx hb dX6_restore_12 rfl (lv_at hl 1 rfl) ?_
    refine lv_bipush (v := 27) hx hb dX6_restore_13 (by decide) ?_
    refine lv_icmp_ge (tgt := 36) hx hb dX6_restore_15 (by decide) (fun hc2 => ?_) (fun hc2 => ?_)
    · rw [if_pos hc2] at h
      have h := Option.some.inj h
      subst h
      exact kk _ _ _ hP hD hS (lv_sub hl [0, 1] rfl)
    · rw [if_neg hc2] at h
      refine lv_aload_n hx hb dX6_restore_18 rfl (lv_at hl 0 rfl) ?_
      refine va_get (D := D) (ci := 6) (v := .ref (a 1)) (C := RX6) (T := TX6) (N := 19) hx hb hts in_X6_restore_X6 hown hK hP 0 rfl rfl 0 (by decide) (hts _ lk_X6_restore_7) (fun _ h9 => h9) rfl dX6_restore_19 ?_
      refine lv_iload_n hx hb dX6_restore_22 rfl (lv_at hl 1 rfl) ?_
      refine lv_aload_n hx hb dX6_restore_23 rfl (lv_at hl 0 rfl) ?_
      refine va_get (D := D) (ci := 6) (v := .ref (a 9)) (C := RX6) (T := TX6) (N := 19) hx hb hts in_X6_restore_X6 hown hK hP 0 rfl rfl 12 (by decide) (hts _ lk_X6_restore_34) (fun _ h9 => h9) rfl dX6_restore_24 ?_
      refine lv_iload_n hx hb dX6_restore_27 rfl (lv_at hl 1 rfl) ?_
      obtain ⟨hg3, h⟩ := if_inv h
      refine va_iald hx hb hK hP 9 0 rfl rfl (inB_in hg3) dX6_restore_28 ?_
      obtain ⟨hg4, h⟩ := if_inv h
      refine va_iast hx hb hK hP hD hS 1 0 rfl rfl (inB_in hg4) dX6_restore_29 (fun H locs hP hD hS => ?_)
      have hP : va_P D vwCl ([w6 cA a (s6_now σ (upd (p6_now σ) x1.toNatClampNeg ((p6_kept σ) x1.toNatClampNeg)))] : List va_W).flatten H := hP
      have hD : va_D _ ([w6 cA a (s6_now σ (upd (p6_now σ) x1.toNatClampNeg ((p6_kept σ) x1.toNatClampNeg)))] : List va_W).flatten := hD
      refine lv_iinc (v := x1 + 1) (lv' := [(1, .int (x1 + 1)), (0, .ref (a 0))]) hx hb dX6_restore_30 hl (k := 1) rfl rfl (by decide) rfl (fun ls hl => ?_)
      refine lv_goto (tgt := 12) hx hb dX6_restore_33 (by decide) ?_
      exact ih _ _ _ h _ _ _ hP hD hS (lv_sub hl [1, 0] rfl) kk
set_option maxHeartbeats 4000000 in
set_option maxRecDepth 100000 in
theorem t_X6_restore_38 {p : Program} {l : Launch} {e : Env} {s : State} {m : MethodId} {args : Array Value} {below : List Frame} {meth : Method} {c : Code} {D : va_G} {cA : Nat → ClassId} {A0 : Nat → Prop} {H0 : Heap} {a : Nat → Nat} (Z : Cx p s m args meth c cX6_restore 2 (some .int) wsX6_restore RX6 D cA)  {Q : State → Prop} : ∀ (n : Nat) (x1 : Int32) (σ : St6) (q : Int32 × St6), lp_X6_restore_38  n x1 σ = some q → ∀ (H : Heap) (locs : List Loc) (ls : Array Slot), va_P D vwCl ([w6 cA a σ] : List va_W).flatten H → va_D A0 ([w6 cA a σ] : List va_W).flatten → va_S A0 H0 H locs → lv_has ls 2 [(0, .ref (a 0)), (1, .int x1)] → (∀ (H : Heap) (locs : List Loc) (ls : Array Slot), va_P D vwCl ([w6 cA a q.2] : List va_W).flatten H → va_D A0 ([w6 cA a q.2] : List va_W).flatten → va_S A0 H0 H locs → lv_has ls 2 [(0, .ref (a 0)), (1, .int q.1)] → W p l e rmX6_restore s m args below meth c H locs 0 0 Q (F0 m 66 ls [])) → W p l e rmX6_restore s m args below meth c H locs 0 0 Q (F0 m 38 ls []) := by
  obtain ⟨hx, hb, hml, hown, hts, hr, hlk, hKK⟩ := id Z
  have hK := hKK.1
  intro n
  induction n with
  | zero =>
    intro x1 σ q h
    rw [lp_X6_restore_38] at h
    cases h
  | succ n ih =>
    intro x1 σ q h H locs ls hP hD hS hl kk
    rw [lp_X6_restore_38] at h
    refine lv_iload_n hx hb dX6_restore_38 rfl (lv_at hl 1 rfl) ?_
    refine lv_sipush (v := 216) hx hb dX6_restore_39 (by decide) ?_
    refine lv_icmp_ge (tgt := 66) hx hb dX6_restore_42 (by decide) (fun hc6 => ?_) (fun hc6 => ?_)
    · rw [if_pos hc6] at h
      have h := Option.some.inj h
      subst h
      exact kk _ _ _ hP hD hS (lv_sub hl [0, 1] rfl)
    · rw [if_neg hc6] at h
      refine lv_aload_n hx hb dX6_restore_45 rfl (lv_at hl 0 rfl) ?_
      refine va_get (D := D) (ci := 6) (v := .ref (a 5)) (C := RX6) (T := TX6) (N := 19) hx hb hts in_X6_restore_X6 hown hK hP 0 rfl rfl 7 (by decide) (hts _ lk_X6_restore_22) (fun _ h9 => h9) rfl dX6_restore_46 ?_
      refine lv_iload_n hx hb dX6_restore_49 rfl (lv_at hl 1 rfl) ?_
      refine lv_aload_n hx hb dX6_restore_50 rfl (lv_at hl 0 rfl) ?_
      refine va_get (D := D) (ci := 6) (v := .ref (a 9)) (C := RX6) (T := TX6) (N := 19) hx hb hts in_X6_restore_X6 hown hK hP 0 rfl rfl 12 (by decide) (hts _ lk_X6_restore_34) (fun _ h9 => h9) rfl dX6_restore_51 ?_
      refine lv_bipush (v := 27) hx hb dX6_restore_54 (by decide) ?_
      refine lv_iload_n hx hb dX6_restore_56 rfl (lv_at hl 1 rfl) ?_
      refine lv_iadd hx hb dX6_restore_57 ?_
      obtain ⟨hg7, h⟩ := if_inv h
      refine va_iald hx hb hK hP 9 0 rfl rfl (inB_in hg7) dX6_restore_58 ?_
      obtain ⟨hg8, h⟩ := if_inv h
      refine va_iast hx hb hK hP hD hS 5 0 rfl rfl (inB_in hg8) dX6_restore_59 (fun H locs hP hD hS => ?_)
      have hP : va_P D vwCl ([w6 cA a (s6_undone σ (upd (p6_undone σ) x1.toNatClampNeg ((p6_kept σ) (27 + x1).toNatClampNeg)))] : List va_W).flatten H := hP
      have hD : va_D _ ([w6 cA a (s6_undone σ (upd (p6_undone σ) x1.toNatClampNeg ((p6_kept σ) (27 + x1).toNatClampNeg)))] : List va_W).flatten := hD
      refine lv_iinc (v := x1 + 1) (lv' := [(1, .int (x1 + 1)), (0, .ref (a 0))]) hx hb dX6_restore_60 hl (k := 1) rfl rfl (by decide) rfl (fun ls hl => ?_)
      refine lv_goto (tgt := 38) hx hb dX6_restore_63 (by decide) ?_
      exact ih _ _ _ h _ _ _ hP hD hS (lv_sub hl [1, 0] rfl) kk
set_option maxHeartbeats 4000000 in
set_option maxRecDepth 100000 in
theorem c_X6_restore (l : Launch) (D : va_G) (cA : Nat → ClassId) (a : Nat → Nat) (σ : St6) (res : Int32 × St6) (h : f_X6_restore σ = some res) : CT l D cA yX6_restore wsX6_restore rmX6_restore [.ref (a 0)] [w6 cA a σ] [w6 cA a res.2] (some (.int res.1)) := by
  refine CT.start (cc := cX6_restore) (maxL := 2) (ret := (some .int)) (by decide) rfl (Nat.le_of_ble_eq_true rfl) ?_
  intro p e s m below meth c Z hP hD hS ls hl
  have Z : Cx p s m _ meth c cX6_restore 2 (some .int) wsX6_restore RX6 D cA := Z
  have hl : lv_has ls 2 [(0, .ref (a 0))] := hl
  obtain ⟨hx, hb, hml, hown, hts, hr, hlk, hKK⟩ := id Z
  have hK := hKK.1
  rw [f_X6_restore] at h
  refine lv_aload_n hx hb dX6_restore_0 rfl (lv_at hl 0 rfl) ?_
  refine va_get (D := D) (ci := 6) (v := .int (p6_isKept σ)) (C := RX6) (T := TX6) (N := 19) hx hb hts in_X6_restore_X6 hown hK hP 0 rfl rfl 14 (by decide) (hts _ lk_X6_restore_208) (fun _ h9 => h9) rfl dX6_restore_1 ?_
  refine lv_if_ne (tgt := 10) hx hb dX6_restore_4 (by decide) (fun hc1 => ?_) (fun hc1 => ?_)
  · rw [if_neg hc1] at h
    refine lv_iconst (v := 0) hx hb dX6_restore_10 (by decide) ?_
    refine lv_istore_n (lv' := [(1, .int 0), (0, .ref (a 0))]) hx hb dX6_restore_11 rfl hl (by decide) rfl (fun ls hl => ?_)
    obtain ⟨q5, hq5, h⟩ := bind_inv h
    refine t_X6_restore_12 Z  FU _ _ _ hq5 _ _ _ hP hD hS (lv_sub hl [1, 0] rfl) (fun H locs ls hP hD hS hl => ?_)
    refine lv_iconst (v := 0) hx hb dX6_restore_36 (by decide) ?_
    refine lv_istore_n (lv' := [(1, .int 0), (0, .ref (a 0))]) hx hb dX6_restore_37 rfl hl (by decide) rfl (fun ls hl => ?_)
    obtain ⟨q9, hq9, h⟩ := bind_inv h
    refine t_X6_restore_38 Z  FU _ _ _ hq9 _ _ _ hP hD hS (lv_sub hl [1, 0] rfl) (fun H locs ls hP hD hS hl => ?_)
    refine lv_aload_n hx hb dX6_restore_66 rfl (lv_at hl 0 rfl) ?_
    refine lv_aload_n hx hb dX6_restore_67 rfl (lv_at hl 0 rfl) ?_
    refine va_get (D := D) (ci := 6) (v := .int (p6_keptUndos q9.2)) (C := RX6) (T := TX6) (N := 19) hx hb hts in_X6_restore_X6 hown hK hP 0 rfl rfl 13 (by decide) (hts _ lk_X6_restore_205) (fun _ h9 => h9) rfl dX6_restore_68 ?_
    refine va_put (D := D) (ci := 6) (v := .int (p6_keptUndos q9.2)) (ty := .int) (C := RX6) (T := TX6) (N := 19) hx hb hts in_X6_restore_X6 tyX6 tyX6_ok nmX6 hown hK hP hD hS 0 rfl rfl 8 (by decide) (hts _ lk_X6_restore_90) (fun _ h9 => h9) rfl (tyX6_ok 8 (by decide)) rfl rfl (Nat.le_of_ble_eq_true rfl) dX6_restore_71 (fun H locs hP hD hS => ?_)
    have hP : va_P D vwCl ([w6 cA a (s6_undos q9.2 (p6_keptUndos q9.2))] : List va_W).flatten H := hP
    have hD : va_D _ ([w6 cA a (s6_undos q9.2 (p6_keptUndos q9.2))] : List va_W).flatten := hD
    refine lv_iconst (v := 1) hx hb dX6_restore_74 (by decide) ?_
    have h := Option.some.inj h
    subst h
    exact CT.iret Z hP hD hS dX6_restore_75
  · rw [if_pos hc1] at h
    refine lv_bipush (v := (-4)) hx hb dX6_restore_7 (by decide) ?_
    have h := Option.some.inj h
    subst h
    exact CT.iret Z hP hD hS dX6_restore_9

-- X6.isSheet
theorem ck_X6_isSheet_211 : Cond.constantLong RX6 211 3 ∈ wsX6_isSheet := by decide +kernel
noncomputable def f_X6_isSheet (x0 : Int32) : Option (Int32) := ((f_X6_in x0.toInt64 0 3).bind (fun r1 => (if r1 = 0 ∨ r1 = 1 then some r1 else none)))
noncomputable def rmX6_isSheet : Room := { frames := 1, cells := 0, slots := 0, locals := 25 }
set_option maxHeartbeats 4000000 in
set_option maxRecDepth 100000 in
theorem c_X6_isSheet (l : Launch) (D : va_G) (cA : Nat → ClassId)  (x0 : Int32) (res : Int32) (h : f_X6_isSheet x0 = some res) : CT l D cA yX6_isSheet wsX6_isSheet rmX6_isSheet [.int x0] [] [] (some (.int res)) := by
  refine CT.start (cc := cX6_isSheet) (maxL := 1) (ret := (some .boolean)) (by decide) rfl (Nat.le_of_ble_eq_true rfl) ?_
  intro p e s m below meth c Z hP hD hS ls hl
  have Z : Cx p s m _ meth c cX6_isSheet 1 (some .boolean) wsX6_isSheet RX6 D cA := Z
  have hl : lv_has ls 1 [(0, .int x0)] := hl
  obtain ⟨hx, hb, hml, hown, hts, hr, hlk, hKK⟩ := id Z
  have hK := hKK.1
  rw [f_X6_isSheet] at h
  refine lv_iload_n hx hb dX6_isSheet_0 rfl (lv_at hl 0 rfl) ?_
  refine lv_i2l (v := x0.toInt64) hx hb dX6_isSheet_1 rfl ?_
  refine lv_lconst (v := 0) hx hb dX6_isSheet_2 (by decide) ?_
  refine lv_ldc2 hx hb hown (hts _ ck_X6_isSheet_211) dX6_isSheet_3 ?_
  obtain ⟨r1, hr1, h⟩ := bind_inv h
  refine kS (rest := []) (st1 := [.int r1]) (cr := []) (cs' := []) Z (c_X6_in l D cA x0.toInt64 0 3 r1 hr1) 3 gX6_isSheet_X6_in rfl hdX6_in ⟨rfl, rfl⟩ ⟨Nat.le_of_ble_eq_true rfl, Nat.le_of_ble_eq_true rfl⟩ ⟨Nat.zero_le _, Nat.zero_le _⟩ hP hD hS hl.1 rfl rfl rfl (Nat.le_of_ble_eq_true rfl) [] [] [] rfl rfl rfl rfl rfl dX6_isSheet_6 (fun H locs hP hD hS => ?_)
  obtain ⟨hg2, h⟩ := if_inv h
  have h := Option.some.inj h
  subst h
  exact CT.zret Z (nar_bool hg2) hP hD hS dX6_isSheet_9

-- X6.isLane
theorem ck_X6_isLane_211 : Cond.constantLong RX6 211 3 ∈ wsX6_isLane := by decide +kernel
noncomputable def f_X6_isLane (x0 : Int32) : Option (Int32) := ((f_X6_in x0.toInt64 0 3).bind (fun r1 => (if r1 = 0 ∨ r1 = 1 then some r1 else none)))
noncomputable def rmX6_isLane : Room := { frames := 1, cells := 0, slots := 0, locals := 25 }
set_option maxHeartbeats 4000000 in
set_option maxRecDepth 100000 in
theorem c_X6_isLane (l : Launch) (D : va_G) (cA : Nat → ClassId)  (x0 : Int32) (res : Int32) (h : f_X6_isLane x0 = some res) : CT l D cA yX6_isLane wsX6_isLane rmX6_isLane [.int x0] [] [] (some (.int res)) := by
  refine CT.start (cc := cX6_isLane) (maxL := 1) (ret := (some .boolean)) (by decide) rfl (Nat.le_of_ble_eq_true rfl) ?_
  intro p e s m below meth c Z hP hD hS ls hl
  have Z : Cx p s m _ meth c cX6_isLane 1 (some .boolean) wsX6_isLane RX6 D cA := Z
  have hl : lv_has ls 1 [(0, .int x0)] := hl
  obtain ⟨hx, hb, hml, hown, hts, hr, hlk, hKK⟩ := id Z
  have hK := hKK.1
  rw [f_X6_isLane] at h
  refine lv_iload_n hx hb dX6_isLane_0 rfl (lv_at hl 0 rfl) ?_
  refine lv_i2l (v := x0.toInt64) hx hb dX6_isLane_1 rfl ?_
  refine lv_lconst (v := 0) hx hb dX6_isLane_2 (by decide) ?_
  refine lv_ldc2 hx hb hown (hts _ ck_X6_isLane_211) dX6_isLane_3 ?_
  obtain ⟨r1, hr1, h⟩ := bind_inv h
  refine kS (rest := []) (st1 := [.int r1]) (cr := []) (cs' := []) Z (c_X6_in l D cA x0.toInt64 0 3 r1 hr1) 3 gX6_isLane_X6_in rfl hdX6_in ⟨rfl, rfl⟩ ⟨Nat.le_of_ble_eq_true rfl, Nat.le_of_ble_eq_true rfl⟩ ⟨Nat.zero_le _, Nat.zero_le _⟩ hP hD hS hl.1 rfl rfl rfl (Nat.le_of_ble_eq_true rfl) [] [] [] rfl rfl rfl rfl rfl dX6_isLane_6 (fun H locs hP hD hS => ?_)
  obtain ⟨hg2, h⟩ := if_inv h
  have h := Option.some.inj h
  subst h
  exact CT.zret Z (nar_bool hg2) hP hD hS dX6_isLane_9

-- X6.why
theorem lk_X6_why_37 : Cond.fieldLink RX6 37 "KeyedFeelingsModel" "lanes" "[I" ∈ wsX6_why := by decide +kernel
theorem in_X6_why_X6 : ∀ w ∈ wsX60, w ∈ wsX6_why := by decide +kernel
theorem lk_X6_why_40 : Cond.fieldLink RX6 40 "KeyedFeelingsModel" "sizes" "[I" ∈ wsX6_why := by decide +kernel
noncomputable def f_X6_why (σ : St6) (x1 : Int32) (x2 : Int32) (x3 : Int32) (x4 : Int32) : Option (Int32) := (if inB x1 4 = true then (if 0 ≤ ((p6_lanes σ) x1.toNatClampNeg) then (if inB x1 4 = true then (if ((p6_lanes σ) x1.toNatClampNeg) = x2 then (if x3 < 0 then some (-13) else (if x4 < 0 then some (-13) else (if inB x1 4 = true then (if (lg_cmp (x3.toInt64 + x4.toInt64) (((p6_sizes σ) x1.toNatClampNeg).toInt64)) ≤ 0 then some 0 else some (-13)) else none))) else some (-12)) else none) else some (-11)) else none)
noncomputable def rmX6_why : Room := { frames := 0, cells := 0, slots := 0, locals := 0 }
set_option maxHeartbeats 4000000 in
set_option maxRecDepth 100000 in
theorem c_X6_why (l : Launch) (D : va_G) (cA : Nat → ClassId) (a : Nat → Nat) (σ : St6) (x1 : Int32) (x2 : Int32) (x3 : Int32) (x4 : Int32) (res : Int32) (h : f_X6_why σ x1 x2 x3 x4 = some res) : CT l D cA yX6_why wsX6_why rmX6_why [.ref (a 0), .int x1, .int x2, .int x3, .int x4] [w6 cA a σ] [w6 cA a σ] (some (.int res)) := by
  refine CT.start (cc := cX6_why) (maxL := 5) (ret := (some .int)) (by decide) rfl (Nat.le_of_ble_eq_true rfl) ?_
  intro p e s m below meth c Z hP hD hS ls hl
  have Z : Cx p s m _ meth c cX6_why 5 (some .int) wsX6_why RX6 D cA := Z
  have hl : lv_has ls 5 [(0, .ref (a 0)), (1, .int x1), (2, .int x2), (3, .int x3), (4, .int x4)] := hl
  obtain ⟨hx, hb, hml, hown, hts, hr, hlk, hKK⟩ := id Z
  have hK := hKK.1
  rw [f_X6_why] at h
  refine lv_aload_n hx hb dX6_why_0 rfl (lv_at hl 0 rfl) ?_
  refine va_get (D := D) (ci := 6) (v := .ref (a 10)) (C := RX6) (T := TX6) (N := 19) hx hb hts in_X6_why_X6 hown hK hP 0 rfl rfl 15 (by decide) (hts _ lk_X6_why_37) (fun _ h9 => h9) rfl dX6_why_1 ?_
  refine lv_iload_n hx hb dX6_why_4 rfl (lv_at hl 1 rfl) ?_
  obtain ⟨hg1, h⟩ := if_inv h
  refine va_iald hx hb hK hP 10 0 rfl rfl (inB_in hg1) dX6_why_5 ?_
  refine lv_if_ge (tgt := 12) hx hb dX6_why_6 (by decide) (fun hc2 => ?_) (fun hc2 => ?_)
  · rw [if_pos hc2] at h
    refine lv_aload_n hx hb dX6_why_12 rfl (lv_at hl 0 rfl) ?_
    refine va_get (D := D) (ci := 6) (v := .ref (a 10)) (C := RX6) (T := TX6) (N := 19) hx hb hts in_X6_why_X6 hown hK hP 0 rfl rfl 15 (by decide) (hts _ lk_X6_why_37) (fun _ h9 => h9) rfl dX6_why_13 ?_
    refine lv_iload_n hx hb dX6_why_16 rfl (lv_at hl 1 rfl) ?_
    obtain ⟨hg3, h⟩ := if_inv h
    refine va_iald hx hb hK hP 10 0 rfl rfl (inB_in hg3) dX6_why_17 ?_
    refine lv_iload_n hx hb dX6_why_18 rfl (lv_at hl 2 rfl) ?_
    refine lv_icmp_eq (tgt := 25) hx hb dX6_why_19 (by decide) (fun hc4 => ?_) (fun hc4 => ?_)
    · rw [if_pos hc4] at h
      refine lv_iload_n hx hb dX6_why_25 rfl (lv_at hl 3 rfl) ?_
      refine lv_if_lt (tgt := 51) hx hb dX6_why_26 (by decide) (fun hc5 => ?_) (fun hc5 => ?_)
      · rw [if_pos hc5] at h
        refine lv_bipush (v := (-13)) hx hb dX6_why_51 (by decide) ?_
        refine lv_goto (tgt := 57) hx hb dX6_why_53 (by decide) ?_
        have h := Option.some.inj h
        subst h
        exact CT.iret Z hP hD hS dX6_why_57
      · rw [if_neg hc5] at h
        refine lv_iload hx hb dX6_why_29 (lv_at hl 4 rfl) ?_
        refine lv_if_lt (tgt := 51) hx hb dX6_why_31 (by decide) (fun hc6 => ?_) (fun hc6 => ?_)
        · rw [if_pos hc6] at h
          refine lv_bipush (v := (-13)) hx hb dX6_why_51 (by decide) ?_
          refine lv_goto (tgt := 57) hx hb dX6_why_53 (by decide) ?_
          have h := Option.some.inj h
          subst h
          exact CT.iret Z hP hD hS dX6_why_57
        · rw [if_neg hc6] at h
          refine lv_iload_n hx hb dX6_why_34 rfl (lv_at hl 3 rfl) ?_
          refine lv_i2l (v := x3.toInt64) hx hb dX6_why_35 rfl ?_
          refine lv_iload hx hb dX6_why_36 (lv_at hl 4 rfl) ?_
          refine lv_i2l (v := x4.toInt64) hx hb dX6_why_38 rfl ?_
          refine lv_ladd hx hb dX6_why_39 ?_
          refine lv_aload_n hx hb dX6_why_40 rfl (lv_at hl 0 rfl) ?_
          refine va_get (D := D) (ci := 6) (v := .ref (a 11)) (C := RX6) (T := TX6) (N := 19) hx hb hts in_X6_why_X6 hown hK hP 0 rfl rfl 16 (by decide) (hts _ lk_X6_why_40) (fun _ h9 => h9) rfl dX6_why_41 ?_
          refine lv_iload_n hx hb dX6_why_44 rfl (lv_at hl 1 rfl) ?_
          obtain ⟨hg7, h⟩ := if_inv h
          refine va_iald hx hb hK hP 11 0 rfl rfl (inB_in hg7) dX6_why_45 ?_
          refine lv_i2l (v := ((p6_sizes σ) x1.toNatClampNeg).toInt64) hx hb dX6_why_46 rfl ?_
          refine W.lcmp hx hb dX6_why_47 ?_
          refine lv_if_le (tgt := 56) hx hb dX6_why_48 (by decide) (fun hc8 => ?_) (fun hc8 => ?_)
          · rw [if_pos hc8] at h
            refine lv_iconst (v := 0) hx hb dX6_why_56 (by decide) ?_
            have h := Option.some.inj h
            subst h
            exact CT.iret Z hP hD hS dX6_why_57
          · rw [if_neg hc8] at h
            refine lv_bipush (v := (-13)) hx hb dX6_why_51 (by decide) ?_
            refine lv_goto (tgt := 57) hx hb dX6_why_53 (by decide) ?_
            have h := Option.some.inj h
            subst h
            exact CT.iret Z hP hD hS dX6_why_57
    · rw [if_neg hc4] at h
      refine lv_bipush (v := (-12)) hx hb dX6_why_22 (by decide) ?_
      have h := Option.some.inj h
      subst h
      exact CT.iret Z hP hD hS dX6_why_24
  · rw [if_neg hc2] at h
    refine lv_bipush (v := (-11)) hx hb dX6_why_9 (by decide) ?_
    have h := Option.some.inj h
    subst h
    exact CT.iret Z hP hD hS dX6_why_11

-- X6.isSo
theorem lk_X6_isSo_43 : Cond.fieldLink RX6 43 "KeyedFeelingsModel" "items" "[J" ∈ wsX6_isSo := by decide +kernel
theorem in_X6_isSo_X6 : ∀ w ∈ wsX60, w ∈ wsX6_isSo := by decide +kernel
noncomputable def lp_X6_isSo_6 (x1 : Int32) (x2 : Int32) (x3 : Int32) : Nat → Int32 → Int32 → St6 → Option (Int32 × Int32 × St6)
  | 0, _, _, _ => none
  | n + 1, x4, x5, σ => (if x3 ≤ x5 then some (x4, x5, σ) else ((f_X6_goesBy σ 0).bind (fun r2 => (if x4 = 0 then lp_X6_isSo_6 x1 x2 x3 n 0 (x5 + 1) r2 else ((f_X6_turns r2 x1).bind (fun r4 => (if inB (x2 + x5) 96 = true then (if (lg_cmp r4.toInt64 ((p6_items r2) (x2 + x5).toNatClampNeg)) = 0 then lp_X6_isSo_6 x1 x2 x3 n 1 (x5 + 1) r2 else lp_X6_isSo_6 x1 x2 x3 n 0 (x5 + 1) r2) else none)))))))
noncomputable def f_X6_isSo (σ : St6) (x1 : Int32) (x2 : Int32) (x3 : Int32) : Option (Int32 × St6) := ((lp_X6_isSo_6 x1 x2 x3 FU 1 0 σ).bind (fun q7 => ((f_X6_backs q7.2.2).bind (fun r8 => (if q7.1 = 0 ∨ q7.1 = 1 then some (q7.1, r8) else none)))))
noncomputable def rmX6_isSo : Room := { frames := 5, cells := 0, slots := 0, locals := 112 }
set_option maxHeartbeats 4000000 in
set_option maxRecDepth 100000 in
theorem t_X6_isSo_6 {p : Program} {l : Launch} {e : Env} {s : State} {m : MethodId} {args : Array Value} {below : List Frame} {meth : Method} {c : Code} {D : va_G} {cA : Nat → ClassId} {A0 : Nat → Prop} {H0 : Heap} {a : Nat → Nat} (Z : Cx p s m args meth c cX6_isSo 6 (some .boolean) wsX6_isSo RX6 D cA) (x1 : Int32) (x2 : Int32) (x3 : Int32) {Q : State → Prop} : ∀ (n : Nat) (x4 : Int32) (x5 : Int32) (σ : St6) (q : Int32 × Int32 × St6), lp_X6_isSo_6 x1 x2 x3 n x4 x5 σ = some q → ∀ (H : Heap) (locs : List Loc) (ls : Array Slot), va_P D vwCl ([w6 cA a σ] : List va_W).flatten H → va_D A0 ([w6 cA a σ] : List va_W).flatten → va_S A0 H0 H locs → lv_has ls 6 [(0, .ref (a 0)), (1, .int x1), (2, .int x2), (3, .int x3), (4, .int x4), (5, .int x5)] → (∀ (H : Heap) (locs : List Loc) (ls : Array Slot), va_P D vwCl ([w6 cA a q.2.2] : List va_W).flatten H → va_D A0 ([w6 cA a q.2.2] : List va_W).flatten → va_S A0 H0 H locs → lv_has ls 6 [(0, .ref (a 0)), (1, .int x1), (2, .int x2), (3, .int x3), (4, .int q.1), (5, .int q.2.1)] → W p l e rmX6_isSo s m args below meth c H locs 0 0 Q (F0 m 54 ls [])) → W p l e rmX6_isSo s m args below meth c H locs 0 0 Q (F0 m 6 ls []) := by
  obtain ⟨hx, hb, hml, hown, hts, hr, hlk, hKK⟩ := id Z
  have hK := hKK.1
  intro n
  induction n with
  | zero =>
    intro x4 x5 σ q h
    rw [lp_X6_isSo_6] at h
    cases h
  | succ n ih =>
    intro x4 x5 σ q h H locs ls hP hD hS hl kk
    rw [lp_X6_isSo_6] at h
    refine lv_iload hx hb dX6_isSo_6 (lv_at hl 5 rfl) ?_
    refine lv_iload_n hx hb dX6_isSo_8 rfl (lv_at hl 3 rfl) ?_
    refine lv_icmp_ge (tgt := 54) hx hb dX6_isSo_9 (by decide) (fun hc1 => ?_) (fun hc1 => ?_)
    · rw [if_pos hc1] at h
      have h := Option.some.inj h
      subst h
      exact kk _ _ _ hP hD hS (lv_sub hl [0, 1, 2, 3, 4, 5] rfl)
    · rw [if_neg hc1] at h
      refine lv_aload_n hx hb dX6_isSo_12 rfl (lv_at hl 0 rfl) ?_
      refine lv_iconst (v := 0) hx hb dX6_isSo_13 (by decide) ?_
      obtain ⟨r2, hr2, h⟩ := bind_inv h
      refine kV (rest := []) (st1 := []) (cr := []) (cs' := [w6 cA a r2]) Z (c_X6_goesBy l D cA a σ 0 r2 hr2) 1 gX6_isSo_X6_goesBy rfl hdX6_goesBy ⟨rfl, rfl⟩ ⟨Nat.le_of_ble_eq_true rfl, Nat.le_of_ble_eq_true rfl⟩ ⟨Nat.zero_le _, Nat.zero_le _⟩ hP hD hS hl.1 rfl rfl rfl (Nat.le_of_ble_eq_true rfl) 6 rfl rfl rfl [0] [] [0] rfl rfl rfl rfl rfl dX6_isSo_14 (fun H locs hP hD hS => ?_)
      refine lv_iload hx hb dX6_isSo_17 (lv_at hl 4 rfl) ?_
      refine lv_if_eq (tgt := 45) hx hb dX6_isSo_19 (by decide) (fun hc3 => ?_) (fun hc3 => ?_)
      · rw [if_pos hc3] at h
        refine lv_iconst (v := 0) hx hb dX6_isSo_45 (by decide) ?_
        refine lv_istore (lv' := [(4, .int 0), (0, .ref (a 0)), (1, .int x1), (2, .int x2), (3, .int x3), (5, .int x5)]) hx hb dX6_isSo_46 hl (by decide) rfl (fun ls hl => ?_)
        refine lv_iinc (v := x5 + 1) (lv' := [(5, .int (x5 + 1)), (4, .int 0), (0, .ref (a 0)), (1, .int x1), (2, .int x2), (3, .int x3)]) hx hb dX6_isSo_48 hl (k := 5) rfl rfl (by decide) rfl (fun ls hl => ?_)
        refine lv_goto (tgt := 6) hx hb dX6_isSo_51 (by decide) ?_
        exact ih _ _ _ _ h _ _ _ hP hD hS (lv_sub hl [2, 3, 4, 5, 1, 0] rfl) kk
      · rw [if_neg hc3] at h
        refine lv_aload_n hx hb dX6_isSo_22 rfl (lv_at hl 0 rfl) ?_
        refine lv_iload_n hx hb dX6_isSo_23 rfl (lv_at hl 1 rfl) ?_
        obtain ⟨r4, hr4, h⟩ := bind_inv h
        refine kV (rest := []) (st1 := [.int r4]) (cr := []) (cs' := [w6 cA a r2]) Z (c_X6_turns l D cA a r2 x1 r4 hr4) 1 gX6_isSo_X6_turns rfl hdX6_turns ⟨rfl, rfl⟩ ⟨Nat.le_of_ble_eq_true rfl, Nat.le_of_ble_eq_true rfl⟩ ⟨Nat.zero_le _, Nat.zero_le _⟩ hP hD hS hl.1 rfl rfl rfl (Nat.le_of_ble_eq_true rfl) 6 rfl rfl rfl [0] [] [0] rfl rfl rfl rfl rfl dX6_isSo_24 (fun H locs hP hD hS => ?_)
        refine lv_i2l (v := r4.toInt64) hx hb dX6_isSo_27 rfl ?_
        refine lv_aload_n hx hb dX6_isSo_28 rfl (lv_at hl 0 rfl) ?_
        refine va_get (D := D) (ci := 6) (v := .ref (a 12)) (C := RX6) (T := TX6) (N := 19) hx hb hts in_X6_isSo_X6 hown hK hP 0 rfl rfl 17 (by decide) (hts _ lk_X6_isSo_43) (fun _ h9 => h9) rfl dX6_isSo_29 ?_
        refine lv_iload_n hx hb dX6_isSo_32 rfl (lv_at hl 2 rfl) ?_
        refine lv_iload hx hb dX6_isSo_33 (lv_at hl 5 rfl) ?_
        refine lv_iadd hx hb dX6_isSo_35 ?_
        obtain ⟨hg5, h⟩ := if_inv h
        refine va_lald hx hb hK hP 12 1 rfl rfl (inB_in hg5) dX6_isSo_36 ?_
        refine W.lcmp hx hb dX6_isSo_37 ?_
        refine lv_if_ne (tgt := 45) hx hb dX6_isSo_38 (by decide) (fun hc6 => ?_) (fun hc6 => ?_)
        · rw [if_neg hc6] at h
          refine lv_iconst (v := 0) hx hb dX6_isSo_45 (by decide) ?_
          refine lv_istore (lv' := [(4, .int 0), (0, .ref (a 0)), (1, .int x1), (2, .int x2), (3, .int x3), (5, .int x5)]) hx hb dX6_isSo_46 hl (by decide) rfl (fun ls hl => ?_)
          refine lv_iinc (v := x5 + 1) (lv' := [(5, .int (x5 + 1)), (4, .int 0), (0, .ref (a 0)), (1, .int x1), (2, .int x2), (3, .int x3)]) hx hb dX6_isSo_48 hl (k := 5) rfl rfl (by decide) rfl (fun ls hl => ?_)
          refine lv_goto (tgt := 6) hx hb dX6_isSo_51 (by decide) ?_
          exact ih _ _ _ _ h _ _ _ hP hD hS (lv_sub hl [2, 3, 4, 5, 1, 0] rfl) kk
        · rw [if_pos hc6] at h
          refine lv_iconst (v := 1) hx hb dX6_isSo_41 (by decide) ?_
          refine lv_goto (tgt := 46) hx hb dX6_isSo_42 (by decide) ?_
          refine lv_istore (lv' := [(4, .int 1), (0, .ref (a 0)), (1, .int x1), (2, .int x2), (3, .int x3), (5, .int x5)]) hx hb dX6_isSo_46 hl (by decide) rfl (fun ls hl => ?_)
          refine lv_iinc (v := x5 + 1) (lv' := [(5, .int (x5 + 1)), (4, .int 1), (0, .ref (a 0)), (1, .int x1), (2, .int x2), (3, .int x3)]) hx hb dX6_isSo_48 hl (k := 5) rfl rfl (by decide) rfl (fun ls hl => ?_)
          refine lv_goto (tgt := 6) hx hb dX6_isSo_51 (by decide) ?_
          exact ih _ _ _ _ h _ _ _ hP hD hS (lv_sub hl [2, 3, 4, 5, 1, 0] rfl) kk
set_option maxHeartbeats 4000000 in
set_option maxRecDepth 100000 in
theorem c_X6_isSo (l : Launch) (D : va_G) (cA : Nat → ClassId) (a : Nat → Nat) (σ : St6) (x1 : Int32) (x2 : Int32) (x3 : Int32) (res : Int32 × St6) (h : f_X6_isSo σ x1 x2 x3 = some res) : CT l D cA yX6_isSo wsX6_isSo rmX6_isSo [.ref (a 0), .int x1, .int x2, .int x3] [w6 cA a σ] [w6 cA a res.2] (some (.int res.1)) := by
  refine CT.start (cc := cX6_isSo) (maxL := 6) (ret := (some .boolean)) (by decide) rfl (Nat.le_of_ble_eq_true rfl) ?_
  intro p e s m below meth c Z hP hD hS ls hl
  have Z : Cx p s m _ meth c cX6_isSo 6 (some .boolean) wsX6_isSo RX6 D cA := Z
  have hl : lv_has ls 6 [(0, .ref (a 0)), (1, .int x1), (2, .int x2), (3, .int x3)] := hl
  obtain ⟨hx, hb, hml, hown, hts, hr, hlk, hKK⟩ := id Z
  have hK := hKK.1
  rw [f_X6_isSo] at h
  refine lv_iconst (v := 1) hx hb dX6_isSo_0 (by decide) ?_
  refine lv_istore (lv' := [(4, .int 1), (0, .ref (a 0)), (1, .int x1), (2, .int x2), (3, .int x3)]) hx hb dX6_isSo_1 hl (by decide) rfl (fun ls hl => ?_)
  refine lv_iconst (v := 0) hx hb dX6_isSo_3 (by decide) ?_
  refine lv_istore (lv' := [(5, .int 0), (4, .int 1), (0, .ref (a 0)), (1, .int x1), (2, .int x2), (3, .int x3)]) hx hb dX6_isSo_4 hl (by decide) rfl (fun ls hl => ?_)
  obtain ⟨q7, hq7, h⟩ := bind_inv h
  refine t_X6_isSo_6 Z x1 x2 x3 FU _ _ _ _ hq7 _ _ _ hP hD hS (lv_sub hl [2, 3, 4, 5, 1, 0] rfl) (fun H locs ls hP hD hS hl => ?_)
  refine lv_aload_n hx hb dX6_isSo_54 rfl (lv_at hl 0 rfl) ?_
  obtain ⟨r8, hr8, h⟩ := bind_inv h
  refine kV (rest := []) (st1 := []) (cr := []) (cs' := [w6 cA a r8]) Z (c_X6_backs l D cA a q7.2.2 r8 hr8) 0 gX6_isSo_X6_backs rfl hdX6_backs ⟨rfl, rfl⟩ ⟨Nat.le_of_ble_eq_true rfl, Nat.le_of_ble_eq_true rfl⟩ ⟨Nat.zero_le _, Nat.zero_le _⟩ hP hD hS hl.1 rfl rfl rfl (Nat.le_of_ble_eq_true rfl) 6 rfl rfl rfl [0] [] [0] rfl rfl rfl rfl rfl dX6_isSo_55 (fun H locs hP hD hS => ?_)
  refine lv_iload hx hb dX6_isSo_58 (lv_at hl 4 rfl) ?_
  obtain ⟨hg9, h⟩ := if_inv h
  have h := Option.some.inj h
  subst h
  exact CT.zret Z (nar_bool hg9) hP hD hS dX6_isSo_60

-- X6.heard
theorem ck_X6_heard_219 : Cond.constantLong RX6 219 8 ∈ wsX6_heard := by decide +kernel
theorem lk_X6_heard_7 : Cond.fieldLink RX6 7 "KeyedFeelingsModel" "now" "[I" ∈ wsX6_heard := by decide +kernel
theorem in_X6_heard_X6 : ∀ w ∈ wsX60, w ∈ wsX6_heard := by decide +kernel
noncomputable def lp_X6_heard_150 (x1 : Int32) (x2 : Int32) (x4 : Int32) (x5 : Int32) (x8 : Int32) (x9 : Int32) (x10 : Int32) : Nat → Int32 → Int32 → St6 → Option (Int32 × Int32 × St6)
  | 0, _, _, _ => none
  | n + 1, x11, x12, σ => (if x10 < x12 then some (x11, x12, σ) else ((f_X6_tells σ x8 x9 x12).bind (fun r20 => ((f_X6_isSo r20 x1 ((24 * x2) + x4) x5).bind (fun r21 => (if r21.1 = 0 then lp_X6_heard_150 x1 x2 x4 x5 x8 x9 x10 n (x11 ||| 0) (x12 + 1) r21.2 else lp_X6_heard_150 x1 x2 x4 x5 x8 x9 x10 n (x11 ||| (1 <<< (x12 &&& 31))) (x12 + 1) r21.2))))))
noncomputable def f_X6_heard (σ : St6) (x1 : Int32) (x2 : Int32) (x3 : Int32) (x4 : Int32) (x5 : Int32) (x6 : Int32) : Option (Int32 × St6) := ((f_X6_isPerson σ x1).bind (fun r1 => (if r1 = 0 then some ((-1), σ) else ((f_X6_isSheet x2).bind (fun r3 => (if r3 = 0 then some ((-1), σ) else ((f_X6_isLane x3).bind (fun r5 => (if r5 = 0 then some ((-1), σ) else ((f_X6_in x5.toInt64 1 8).bind (fun r7 => (if r7 = 0 then some ((-1), σ) else ((f_X6_in x6.toInt64 0 ((((p6_now σ) (0 : Int32).toNatClampNeg) + 1).toInt64)).bind (fun r9 => (if r9 = 0 then some ((-1), σ) else ((f_X6_why σ x2 x3 x4 x5).bind (fun r11 => (if 0 ≤ r11 then (if 2 ≤ x6 then (if 2 ≤ x6 then (if x6 = 0 then ((f_X6_asides σ).bind (fun r29 => (if 2 ≤ x6 then ((lp_X6_heard_150 x1 x2 x4 x5 (x6 - 2) 3 4 FU 0 1 r29).bind (fun q31 => some (q31.1, q31.2.2))) else ((lp_X6_heard_150 x1 x2 x4 x5 (x6 - 2) 3 4 FU 0 0 r29).bind (fun q32 => some (q32.1, q32.2.2)))))) else (if x6 = 1 then ((f_X6_asides σ).bind (fun r25 => (if 2 ≤ x6 then ((lp_X6_heard_150 x1 x2 x4 x5 (x6 - 2) 3 30 FU 0 1 r25).bind (fun q27 => some (q27.1, q27.2.2))) else ((lp_X6_heard_150 x1 x2 x4 x5 (x6 - 2) 3 30 FU 0 0 r25).bind (fun q28 => some (q28.1, q28.2.2)))))) else ((f_X6_asides σ).bind (fun r17 => (if 2 ≤ x6 then ((lp_X6_heard_150 x1 x2 x4 x5 (x6 - 2) 3 12 FU 0 1 r17).bind (fun q23 => some (q23.1, q23.2.2))) else ((lp_X6_heard_150 x1 x2 x4 x5 (x6 - 2) 3 12 FU 0 0 r17).bind (fun q24 => some (q24.1, q24.2.2)))))))) else (if x6 = 0 then ((f_X6_asides σ).bind (fun r43 => (if 2 ≤ x6 then ((lp_X6_heard_150 x1 x2 x4 x5 (x6 - 2) x6 4 FU 0 1 r43).bind (fun q45 => some (q45.1, q45.2.2))) else ((lp_X6_heard_150 x1 x2 x4 x5 (x6 - 2) x6 4 FU 0 0 r43).bind (fun q46 => some (q46.1, q46.2.2)))))) else (if x6 = 1 then ((f_X6_asides σ).bind (fun r39 => (if 2 ≤ x6 then ((lp_X6_heard_150 x1 x2 x4 x5 (x6 - 2) x6 30 FU 0 1 r39).bind (fun q41 => some (q41.1, q41.2.2))) else ((lp_X6_heard_150 x1 x2 x4 x5 (x6 - 2) x6 30 FU 0 0 r39).bind (fun q42 => some (q42.1, q42.2.2)))))) else ((f_X6_asides σ).bind (fun r35 => (if 2 ≤ x6 then ((lp_X6_heard_150 x1 x2 x4 x5 (x6 - 2) x6 12 FU 0 1 r35).bind (fun q37 => some (q37.1, q37.2.2))) else ((lp_X6_heard_150 x1 x2 x4 x5 (x6 - 2) x6 12 FU 0 0 r35).bind (fun q38 => some (q38.1, q38.2.2))))))))) else (if 2 ≤ x6 then (if x6 = 0 then ((f_X6_asides σ).bind (fun r58 => (if 2 ≤ x6 then ((lp_X6_heard_150 x1 x2 x4 x5 x1 3 4 FU 0 1 r58).bind (fun q60 => some (q60.1, q60.2.2))) else ((lp_X6_heard_150 x1 x2 x4 x5 x1 3 4 FU 0 0 r58).bind (fun q61 => some (q61.1, q61.2.2)))))) else (if x6 = 1 then ((f_X6_asides σ).bind (fun r54 => (if 2 ≤ x6 then ((lp_X6_heard_150 x1 x2 x4 x5 x1 3 30 FU 0 1 r54).bind (fun q56 => some (q56.1, q56.2.2))) else ((lp_X6_heard_150 x1 x2 x4 x5 x1 3 30 FU 0 0 r54).bind (fun q57 => some (q57.1, q57.2.2)))))) else ((f_X6_asides σ).bind (fun r50 => (if 2 ≤ x6 then ((lp_X6_heard_150 x1 x2 x4 x5 x1 3 12 FU 0 1 r50).bind (fun q52 => some (q52.1, q52.2.2))) else ((lp_X6_heard_150 x1 x2 x4 x5 x1 3 12 FU 0 0 r50).bind (fun q53 => some (q53.1, q53.2.2)))))))) else (if x6 = 0 then ((f_X6_asides σ).bind (fun r72 => (if 2 ≤ x6 then ((lp_X6_heard_150 x1 x2 x4 x5 x1 x6 4 FU 0 1 r72).bind (fun q74 => some (q74.1, q74.2.2))) else ((lp_X6_heard_150 x1 x2 x4 x5 x1 x6 4 FU 0 0 r72).bind (fun q75 => some (q75.1, q75.2.2)))))) else (if x6 = 1 then ((f_X6_asides σ).bind (fun r68 => (if 2 ≤ x6 then ((lp_X6_heard_150 x1 x2 x4 x5 x1 x6 30 FU 0 1 r68).bind (fun q70 => some (q70.1, q70.2.2))) else ((lp_X6_heard_150 x1 x2 x4 x5 x1 x6 30 FU 0 0 r68).bind (fun q71 => some (q71.1, q71.2.2)))))) else ((f_X6_asides σ).bind (fun r64 => (if 2 ≤ x6 then ((lp_X6_heard_150 x1 x2 x4 x5 x1 x6 12 FU 0 1 r64).bind (fun q66 => some (q66.1, q66.2.2))) else ((lp_X6_heard_150 x1 x2 x4 x5 x1 x6 12 FU 0 0 r64).bind (fun q67 => some (q67.1, q67.2.2)))))))))) else some (r11, σ)))))))))))))))))))
noncomputable def rmX6_heard : Room := { frames := 6, cells := 0, slots := 0, locals := 137 }
set_option maxHeartbeats 4000000 in
set_option maxRecDepth 100000 in
theorem t_X6_heard_150 {p : Program} {l : Launch} {e : Env} {s : State} {m : MethodId} {args : Array Value} {below : List Frame} {meth : Method} {c : Code} {D : va_G} {cA : Nat → ClassId} {A0 : Nat → Prop} {H0 : Heap} {a : Nat → Nat} (Z : Cx p s m args meth c cX6_heard 13 (some .int) wsX6_heard RX6 D cA) (x1 : Int32) (x2 : Int32) (x4 : Int32) (x5 : Int32) (x8 : Int32) (x9 : Int32) (x10 : Int32) {Q : State → Prop} : ∀ (n : Nat) (x11 : Int32) (x12 : Int32) (σ : St6) (q : Int32 × Int32 × St6), lp_X6_heard_150 x1 x2 x4 x5 x8 x9 x10 n x11 x12 σ = some q → ∀ (H : Heap) (locs : List Loc) (ls : Array Slot), va_P D vwCl ([w6 cA a σ] : List va_W).flatten H → va_D A0 ([w6 cA a σ] : List va_W).flatten → va_S A0 H0 H locs → lv_has ls 13 [(0, .ref (a 0)), (1, .int x1), (2, .int x2), (4, .int x4), (5, .int x5), (8, .int x8), (9, .int x9), (10, .int x10), (11, .int x11), (12, .int x12)] → (∀ (H : Heap) (locs : List Loc) (ls : Array Slot), va_P D vwCl ([w6 cA a q.2.2] : List va_W).flatten H → va_D A0 ([w6 cA a q.2.2] : List va_W).flatten → va_S A0 H0 H locs → lv_has ls 13 [(0, .ref (a 0)), (1, .int x1), (2, .int x2), (4, .int x4), (5, .int x5), (8, .int x8), (9, .int x9), (10, .int x10), (11, .int q.1), (12, .int q.2.1)] → W p l e rmX6_heard s m args below meth c H locs 0 0 Q (F0 m 203 ls [])) → W p l e rmX6_heard s m args below meth c H locs 0 0 Q (F0 m 150 ls []) := by
  obtain ⟨hx, hb, hml, hown, hts, hr, hlk, hKK⟩ := id Z
  have hK := hKK.1
  intro n
  induction n with
  | zero =>
    intro x11 x12 σ q h
    rw [lp_X6_heard_150] at h
    cases h
  | succ n ih =>
    intro x11 x12 σ q h H locs ls hP hD hS hl kk
    rw [lp_X6_heard_150] at h
    refine lv_iload hx hb dX6_heard_150 (lv_at hl 9 rfl) ?_
    refine lv_iload hx hb dX6_heard_152 (lv_at hl 7 rfl) ?_
    refine lv_icmp_gt (tgt := 203) hx hb dX6_heard_154 (by decide) (fun hc19 => ?_) (fun hc19 => ?_)
    · rw [if_pos hc19] at h
      have h := Option.some.inj h
      subst h
      exact kk _ _ _ hP hD hS (lv_sub hl [0, 1, 2, 3, 4, 5, 6, 7, 8, 9] rfl)
    · rw [if_neg hc19] at h
      refine lv_aload_n hx hb dX6_heard_157 rfl (lv_at hl 0 rfl) ?_
      refine lv_iload hx hb dX6_heard_158 (lv_at hl 5 rfl) ?_
      refine lv_iload hx hb dX6_heard_160 (lv_at hl 6 rfl) ?_
      refine lv_iload hx hb dX6_heard_162 (lv_at hl 9 rfl) ?_
      obtain ⟨r20, hr20, h⟩ := bind_inv h
      refine kV (rest := []) (st1 := []) (cr := []) (cs' := [w6 cA a r20]) Z (c_X6_tells l D cA a σ x8 x9 x12 r20 hr20) 3 gX6_heard_X6_tells rfl hdX6_tells ⟨rfl, rfl⟩ ⟨Nat.le_of_ble_eq_true rfl, Nat.le_of_ble_eq_true rfl⟩ ⟨Nat.zero_le _, Nat.zero_le _⟩ hP hD hS hl.1 rfl rfl rfl (Nat.le_of_ble_eq_true rfl) 6 rfl rfl rfl [0] [] [0] rfl rfl rfl rfl rfl dX6_heard_164 (fun H locs hP hD hS => ?_)
      refine lv_iload hx hb dX6_heard_167 (lv_at hl 8 rfl) ?_
      refine lv_aload_n hx hb dX6_heard_169 rfl (lv_at hl 0 rfl) ?_
      refine lv_iload_n hx hb dX6_heard_170 rfl (lv_at hl 1 rfl) ?_
      refine lv_bipush (v := 24) hx hb dX6_heard_171 (by decide) ?_
      refine lv_iload_n hx hb dX6_heard_173 rfl (lv_at hl 2 rfl) ?_
      refine lv_imul hx hb dX6_heard_174 ?_
      refine lv_iload hx hb dX6_heard_175 (lv_at hl 3 rfl) ?_
      refine lv_iadd hx hb dX6_heard_177 ?_
      refine lv_iload hx hb dX6_heard_178 (lv_at hl 4 rfl) ?_
      obtain ⟨r21, hr21, h⟩ := bind_inv h
      refine kV (rest := [.int x11]) (st1 := [.int r21.1, .int x11]) (cr := []) (cs' := [w6 cA a r21.2]) Z (c_X6_isSo l D cA a r20 x1 ((24 * x2) + x4) x5 r21 hr21) 3 gX6_heard_X6_isSo rfl hdX6_isSo ⟨rfl, rfl⟩ ⟨Nat.le_of_ble_eq_true rfl, Nat.le_of_ble_eq_true rfl⟩ ⟨Nat.zero_le _, Nat.zero_le _⟩ hP hD hS hl.1 rfl rfl rfl (Nat.le_of_ble_eq_true rfl) 6 rfl rfl rfl [0] [] [0] rfl rfl rfl rfl rfl dX6_heard_180 (fun H locs hP hD hS => ?_)
      refine lv_if_eq (tgt := 193) hx hb dX6_heard_183 (by decide) (fun hc22 => ?_) (fun hc22 => ?_)
      · rw [if_pos hc22] at h
        refine lv_iconst (v := 0) hx hb dX6_heard_193 (by decide) ?_
        refine lv_ior hx hb dX6_heard_194 ?_
        refine lv_istore (lv' := [(11, .int (x11 ||| 0)), (0, .ref (a 0)), (1, .int x1), (2, .int x2), (4, .int x4), (5, .int x5), (8, .int x8), (9, .int x9), (10, .int x10), (12, .int x12)]) hx hb dX6_heard_195 hl (by decide) rfl (fun ls hl => ?_)
        refine lv_iinc (v := x12 + 1) (lv' := [(12, .int (x12 + 1)), (11, .int (x11 ||| 0)), (0, .ref (a 0)), (1, .int x1), (2, .int x2), (4, .int x4), (5, .int x5), (8, .int x8), (9, .int x9), (10, .int x10)]) hx hb dX6_heard_197 hl (k := 9) rfl rfl (by decide) rfl (fun ls hl => ?_)
        refine lv_goto (tgt := 150) hx hb dX6_heard_200 (by decide) ?_
        exact ih _ _ _ _ h _ _ _ hP hD hS (lv_sub hl [2, 3, 4, 5, 6, 7, 8, 9, 1, 0] rfl) kk
      · rw [if_neg hc22] at h
        refine lv_iconst (v := 1) hx hb dX6_heard_186 (by decide) ?_
        refine lv_iload hx hb dX6_heard_187 (lv_at hl 9 rfl) ?_
        refine lv_ishl hx hb dX6_heard_189 ?_
        refine lv_goto (tgt := 194) hx hb dX6_heard_190 (by decide) ?_
        refine lv_ior hx hb dX6_heard_194 ?_
        refine lv_istore (lv' := [(11, .int (x11 ||| (1 <<< (x12 &&& 31)))), (0, .ref (a 0)), (1, .int x1), (2, .int x2), (4, .int x4), (5, .int x5), (8, .int x8), (9, .int x9), (10, .int x10), (12, .int x12)]) hx hb dX6_heard_195 hl (by decide) rfl (fun ls hl => ?_)
        refine lv_iinc (v := x12 + 1) (lv' := [(12, .int (x12 + 1)), (11, .int (x11 ||| (1 <<< (x12 &&& 31)))), (0, .ref (a 0)), (1, .int x1), (2, .int x2), (4, .int x4), (5, .int x5), (8, .int x8), (9, .int x9), (10, .int x10)]) hx hb dX6_heard_197 hl (k := 9) rfl rfl (by decide) rfl (fun ls hl => ?_)
        refine lv_goto (tgt := 150) hx hb dX6_heard_200 (by decide) ?_
        exact ih _ _ _ _ h _ _ _ hP hD hS (lv_sub hl [2, 3, 4, 5, 6, 7, 8, 9, 1, 0] rfl) kk
set_option maxHeartbeats 4000000 in
set_option maxRecDepth 100000 in
theorem c_X6_heard (l : Launch) (D : va_G) (cA : Nat → ClassId) (a : Nat → Nat) (σ : St6) (x1 : Int32) (x2 : Int32) (x3 : Int32) (x4 : Int32) (x5 : Int32) (x6 : Int32) (res : Int32 × St6) (h : f_X6_heard σ x1 x2 x3 x4 x5 x6 = some res) : CT l D cA yX6_heard wsX6_heard rmX6_heard [.ref (a 0), .int x1, .int x2, .int x3, .int x4, .int x5, .int x6] [w6 cA a σ] [w6 cA a res.2] (some (.int res.1)) := by
  refine CT.start (cc := cX6_heard) (maxL := 13) (ret := (some .int)) (by decide) rfl (Nat.le_of_ble_eq_true rfl) ?_
  intro p e s m below meth c Z hP hD hS ls hl
  have Z : Cx p s m _ meth c cX6_heard 13 (some .int) wsX6_heard RX6 D cA := Z
  have hl : lv_has ls 13 [(0, .ref (a 0)), (1, .int x1), (2, .int x2), (3, .int x3), (4, .int x4), (5, .int x5), (6, .int x6)] := hl
  obtain ⟨hx, hb, hml, hown, hts, hr, hlk, hKK⟩ := id Z
  have hK := hKK.1
  rw [f_X6_heard] at h
  refine lv_aload_n hx hb dX6_heard_0 rfl (lv_at hl 0 rfl) ?_
  refine lv_iload_n hx hb dX6_heard_1 rfl (lv_at hl 1 rfl) ?_
  obtain ⟨r1, hr1, h⟩ := bind_inv h
  refine kV (rest := []) (st1 := [.int r1]) (cr := []) (cs' := [w6 cA a σ]) Z (c_X6_isPerson l D cA a σ x1 r1 hr1) 1 gX6_heard_X6_isPerson rfl hdX6_isPerson ⟨rfl, rfl⟩ ⟨Nat.le_of_ble_eq_true rfl, Nat.le_of_ble_eq_true rfl⟩ ⟨Nat.zero_le _, Nat.zero_le _⟩ hP hD hS hl.1 rfl rfl rfl (Nat.le_of_ble_eq_true rfl) 6 rfl rfl rfl [0] [] [0] rfl rfl rfl rfl rfl dX6_heard_2 (fun H locs hP hD hS => ?_)
  refine lv_if_eq (tgt := 54) hx hb dX6_heard_5 (by decide) (fun hc2 => ?_) (fun hc2 => ?_)
  · rw [if_pos hc2] at h
    refine lv_iconst (v := (-1)) hx hb dX6_heard_54 (by decide) ?_
    have h := Option.some.inj h
    subst h
    exact CT.iret Z hP hD hS dX6_heard_55
  · rw [if_neg hc2] at h
    refine lv_iload_n hx hb dX6_heard_8 rfl (lv_at hl 2 rfl) ?_
    obtain ⟨r3, hr3, h⟩ := bind_inv h
    refine kS (rest := []) (st1 := [.int r3]) (cr := [w6 cA a σ]) (cs' := [w6 cA a σ]) Z (c_X6_isSheet l D cA x2 r3 hr3) 1 gX6_heard_X6_isSheet rfl hdX6_isSheet ⟨rfl, rfl⟩ ⟨Nat.le_of_ble_eq_true rfl, Nat.le_of_ble_eq_true rfl⟩ ⟨Nat.zero_le _, Nat.zero_le _⟩ hP hD hS hl.1 rfl rfl rfl (Nat.le_of_ble_eq_true rfl) [] [0] [0] rfl rfl rfl rfl rfl dX6_heard_9 (fun H locs hP hD hS => ?_)
    refine lv_if_eq (tgt := 54) hx hb dX6_heard_12 (by decide) (fun hc4 => ?_) (fun hc4 => ?_)
    · rw [if_pos hc4] at h
      refine lv_iconst (v := (-1)) hx hb dX6_heard_54 (by decide) ?_
      have h := Option.some.inj h
      subst h
      exact CT.iret Z hP hD hS dX6_heard_55
    · rw [if_neg hc4] at h
      refine lv_iload_n hx hb dX6_heard_15 rfl (lv_at hl 3 rfl) ?_
      obtain ⟨r5, hr5, h⟩ := bind_inv h
      refine kS (rest := []) (st1 := [.int r5]) (cr := [w6 cA a σ]) (cs' := [w6 cA a σ]) Z (c_X6_isLane l D cA x3 r5 hr5) 1 gX6_heard_X6_isLane rfl hdX6_isLane ⟨rfl, rfl⟩ ⟨Nat.le_of_ble_eq_true rfl, Nat.le_of_ble_eq_true rfl⟩ ⟨Nat.zero_le _, Nat.zero_le _⟩ hP hD hS hl.1 rfl rfl rfl (Nat.le_of_ble_eq_true rfl) [] [0] [0] rfl rfl rfl rfl rfl dX6_heard_16 (fun H locs hP hD hS => ?_)
      refine lv_if_eq (tgt := 54) hx hb dX6_heard_19 (by decide) (fun hc6 => ?_) (fun hc6 => ?_)
      · rw [if_pos hc6] at h
        refine lv_iconst (v := (-1)) hx hb dX6_heard_54 (by decide) ?_
        have h := Option.some.inj h
        subst h
        exact CT.iret Z hP hD hS dX6_heard_55
      · rw [if_neg hc6] at h
        refine lv_iload hx hb dX6_heard_22 (lv_at hl 5 rfl) ?_
        refine lv_i2l (v := x5.toInt64) hx hb dX6_heard_24 rfl ?_
        refine lv_lconst (v := 1) hx hb dX6_heard_25 (by decide) ?_
        refine lv_ldc2 hx hb hown (hts _ ck_X6_heard_219) dX6_heard_26 ?_
        obtain ⟨r7, hr7, h⟩ := bind_inv h
        refine kS (rest := []) (st1 := [.int r7]) (cr := [w6 cA a σ]) (cs' := [w6 cA a σ]) Z (c_X6_in l D cA x5.toInt64 1 8 r7 hr7) 3 gX6_heard_X6_in rfl hdX6_in ⟨rfl, rfl⟩ ⟨Nat.le_of_ble_eq_true rfl, Nat.le_of_ble_eq_true rfl⟩ ⟨Nat.zero_le _, Nat.zero_le _⟩ hP hD hS hl.1 rfl rfl rfl (Nat.le_of_ble_eq_true rfl) [] [0] [0] rfl rfl rfl rfl rfl dX6_heard_29 (fun H locs hP hD hS => ?_)
        refine lv_if_eq (tgt := 54) hx hb dX6_heard_32 (by decide) (fun hc8 => ?_) (fun hc8 => ?_)
        · rw [if_pos hc8] at h
          refine lv_iconst (v := (-1)) hx hb dX6_heard_54 (by decide) ?_
          have h := Option.some.inj h
          subst h
          exact CT.iret Z hP hD hS dX6_heard_55
        · rw [if_neg hc8] at h
          refine lv_iload hx hb dX6_heard_35 (lv_at hl 6 rfl) ?_
          refine lv_i2l (v := x6.toInt64) hx hb dX6_heard_37 rfl ?_
          refine lv_lconst (v := 0) hx hb dX6_heard_38 (by decide) ?_
          refine lv_aload_n hx hb dX6_heard_39 rfl (lv_at hl 0 rfl) ?_
          refine va_get (D := D) (ci := 6) (v := .ref (a 1)) (C := RX6) (T := TX6) (N := 19) hx hb hts in_X6_heard_X6 hown hK hP 0 rfl rfl 0 (by decide) (hts _ lk_X6_heard_7) (fun _ h9 => h9) rfl dX6_heard_40 ?_
          refine lv_iconst (v := 0) hx hb dX6_heard_43 (by decide) ?_
          refine va_iald hx hb hK hP 1 0 rfl rfl (inB_in (by decide)) dX6_heard_44 ?_
          refine lv_iconst (v := 1) hx hb dX6_heard_45 (by decide) ?_
          refine lv_iadd hx hb dX6_heard_46 ?_
          refine lv_i2l (v := (((p6_now σ) (0 : Int32).toNatClampNeg) + 1).toInt64) hx hb dX6_heard_47 rfl ?_
          obtain ⟨r9, hr9, h⟩ := bind_inv h
          refine kS (rest := []) (st1 := [.int r9]) (cr := [w6 cA a σ]) (cs' := [w6 cA a σ]) Z (c_X6_in l D cA x6.toInt64 0 ((((p6_now σ) (0 : Int32).toNatClampNeg) + 1).toInt64) r9 hr9) 3 gX6_heard_X6_in rfl hdX6_in ⟨rfl, rfl⟩ ⟨Nat.le_of_ble_eq_true rfl, Nat.le_of_ble_eq_true rfl⟩ ⟨Nat.zero_le _, Nat.zero_le _⟩ hP hD hS hl.1 rfl rfl rfl (Nat.le_of_ble_eq_true rfl) [] [0] [0] rfl rfl rfl rfl rfl dX6_heard_48 (fun H locs hP hD hS => ?_)
          refine lv_if_ne (tgt := 56) hx hb dX6_heard_51 (by decide) (fun hc10 => ?_) (fun hc10 => ?_)
          · rw [if_neg hc10] at h
            refine lv_aload_n hx hb dX6_heard_56 rfl (lv_at hl 0 rfl) ?_
            refine lv_iload_n hx hb dX6_heard_57 rfl (lv_at hl 2 rfl) ?_
            refine lv_iload_n hx hb dX6_heard_58 rfl (lv_at hl 3 rfl) ?_
            refine lv_iload hx hb dX6_heard_59 (lv_at hl 4 rfl) ?_
            refine lv_iload hx hb dX6_heard_61 (lv_at hl 5 rfl) ?_
            obtain ⟨r11, hr11, h⟩ := bind_inv h
            refine kV (rest := []) (st1 := [.int r11]) (cr := []) (cs' := [w6 cA a σ]) Z (c_X6_why l D cA a σ x2 x3 x4 x5 r11 hr11) 4 gX6_heard_X6_why rfl hdX6_why ⟨rfl, rfl⟩ ⟨Nat.le_of_ble_eq_true rfl, Nat.le_of_ble_eq_true rfl⟩ ⟨Nat.zero_le _, Nat.zero_le _⟩ hP hD hS hl.1 rfl rfl rfl (Nat.le_of_ble_eq_true rfl) 6 rfl rfl rfl [0] [] [0] rfl rfl rfl rfl rfl dX6_heard_63 (fun H locs hP hD hS => ?_)
            refine lv_istore (lv' := [(7, .int r11), (0, .ref (a 0)), (1, .int x1), (2, .int x2), (3, .int x3), (4, .int x4), (5, .int x5), (6, .int x6)]) hx hb dX6_heard_66 hl (by decide) rfl (fun ls hl => ?_)
            refine lv_iload hx hb dX6_heard_68 (lv_at hl 0 rfl) ?_
            refine lv_if_ge (tgt := 76) hx hb dX6_heard_70 (by decide) (fun hc12 => ?_) (fun hc12 => ?_)
            · rw [if_pos hc12] at h
              refine lv_iload hx hb dX6_heard_76 (lv_at hl 7 rfl) ?_
              refine lv_iconst (v := 2) hx hb dX6_heard_78 (by decide) ?_
              refine lv_icmp_ge (tgt := 86) hx hb dX6_heard_79 (by decide) (fun hc13 => ?_) (fun hc13 => ?_)
              · rw [if_pos hc13] at h
                refine lv_iload hx hb dX6_heard_86 (lv_at hl 7 rfl) ?_
                refine lv_iconst (v := 2) hx hb dX6_heard_88 (by decide) ?_
                refine lv_isub hx hb dX6_heard_89 ?_
                refine lv_istore (lv' := [(8, .int (x6 - 2)), (7, .int r11), (0, .ref (a 0)), (1, .int x1), (2, .int x2), (3, .int x3), (4, .int x4), (5, .int x5), (6, .int x6)]) hx hb dX6_heard_90 hl (by decide) rfl (fun ls hl => ?_)
                refine lv_iload hx hb dX6_heard_92 (lv_at hl 8 rfl) ?_
                refine lv_iconst (v := 2) hx hb dX6_heard_94 (by decide) ?_
                refine lv_icmp_ge (tgt := 103) hx hb dX6_heard_95 (by decide) (fun hc14 => ?_) (fun hc14 => ?_)
                · rw [if_pos hc14] at h
                  refine lv_iconst (v := 3) hx hb dX6_heard_103 (by decide) ?_
                  refine lv_istore (lv' := [(9, .int 3), (8, .int (x6 - 2)), (7, .int r11), (0, .ref (a 0)), (1, .int x1), (2, .int x2), (3, .int x3), (4, .int x4), (5, .int x5), (6, .int x6)]) hx hb dX6_heard_104 hl (by decide) rfl (fun ls hl => ?_)
                  refine lv_iload hx hb dX6_heard_106 (lv_at hl 9 rfl) ?_
                  refine lv_if_ne (tgt := 115) hx hb dX6_heard_108 (by decide) (fun hc15 => ?_) (fun hc15 => ?_)
                  · rw [if_neg hc15] at h
                    refine lv_iload hx hb dX6_heard_115 (lv_at hl 9 rfl) ?_
                    refine lv_iconst (v := 1) hx hb dX6_heard_117 (by decide) ?_
                    refine lv_icmp_ne (tgt := 126) hx hb dX6_heard_118 (by decide) (fun hc16 => ?_) (fun hc16 => ?_)
                    · rw [if_neg hc16] at h
                      refine lv_bipush (v := 12) hx hb dX6_heard_126 (by decide) ?_
                      refine lv_istore (lv' := [(10, .int 12), (9, .int 3), (8, .int (x6 - 2)), (7, .int r11), (0, .ref (a 0)), (1, .int x1), (2, .int x2), (3, .int x3), (4, .int x4), (5, .int x5), (6, .int x6)]) hx hb dX6_heard_128 hl (by decide) rfl (fun ls hl => ?_)
                      refine lv_iconst (v := 0) hx hb dX6_heard_130 (by decide) ?_
                      refine lv_istore (lv' := [(11, .int 0), (10, .int 12), (9, .int 3), (8, .int (x6 - 2)), (7, .int r11), (0, .ref (a 0)), (1, .int x1), (2, .int x2), (3, .int x3), (4, .int x4), (5, .int x5), (6, .int x6)]) hx hb dX6_heard_131 hl (by decide) rfl (fun ls hl => ?_)
                      refine lv_aload_n hx hb dX6_heard_133 rfl (lv_at hl 5 rfl) ?_
                      obtain ⟨r17, hr17, h⟩ := bind_inv h
                      refine kV (rest := []) (st1 := []) (cr := []) (cs' := [w6 cA a r17]) Z (c_X6_asides l D cA a σ r17 hr17) 0 gX6_heard_X6_asides rfl hdX6_asides ⟨rfl, rfl⟩ ⟨Nat.le_of_ble_eq_true rfl, Nat.le_of_ble_eq_true rfl⟩ ⟨Nat.zero_le _, Nat.zero_le _⟩ hP hD hS hl.1 rfl rfl rfl (Nat.le_of_ble_eq_true rfl) 6 rfl rfl rfl [0] [] [0] rfl rfl rfl rfl rfl dX6_heard_134 (fun H locs hP hD hS => ?_)
                      refine lv_iload hx hb dX6_heard_137 (lv_at hl 11 rfl) ?_
                      refine lv_iconst (v := 2) hx hb dX6_heard_139 (by decide) ?_
                      refine lv_icmp_ge (tgt := 147) hx hb dX6_heard_140 (by decide) (fun hc18 => ?_) (fun hc18 => ?_)
                      · rw [if_pos hc18] at h
                        refine lv_iconst (v := 1) hx hb dX6_heard_147 (by decide) ?_
                        refine lv_istore (lv' := [(12, .int 1), (11, .int 0), (10, .int 12), (9, .int 3), (8, .int (x6 - 2)), (7, .int r11), (0, .ref (a 0)), (1, .int x1), (2, .int x2), (3, .int x3), (4, .int x4), (5, .int x5), (6, .int x6)]) hx hb dX6_heard_148 hl (by decide) rfl (fun ls hl => ?_)
                        obtain ⟨q23, hq23, h⟩ := bind_inv h
                        refine t_X6_heard_150 Z x1 x2 x4 x5 (x6 - 2) 3 12 FU _ _ _ _ hq23 _ _ _ hP hD hS (lv_sub hl [6, 7, 8, 10, 11, 4, 3, 2, 1, 0] rfl) (fun H locs ls hP hD hS hl => ?_)
                        refine lv_iload hx hb dX6_heard_203 (lv_at hl 8 rfl) ?_
                        have h := Option.some.inj h
                        subst h
                        exact CT.iret Z hP hD hS dX6_heard_205
                      · rw [if_neg hc18] at h
                        refine lv_iconst (v := 0) hx hb dX6_heard_143 (by decide) ?_
                        refine lv_goto (tgt := 148) hx hb dX6_heard_144 (by decide) ?_
                        refine lv_istore (lv' := [(12, .int 0), (11, .int 0), (10, .int 12), (9, .int 3), (8, .int (x6 - 2)), (7, .int r11), (0, .ref (a 0)), (1, .int x1), (2, .int x2), (3, .int x3), (4, .int x4), (5, .int x5), (6, .int x6)]) hx hb dX6_heard_148 hl (by decide) rfl (fun ls hl => ?_)
                        obtain ⟨q24, hq24, h⟩ := bind_inv h
                        refine t_X6_heard_150 Z x1 x2 x4 x5 (x6 - 2) 3 12 FU _ _ _ _ hq24 _ _ _ hP hD hS (lv_sub hl [6, 7, 8, 10, 11, 4, 3, 2, 1, 0] rfl) (fun H locs ls hP hD hS hl => ?_)
                        refine lv_iload hx hb dX6_heard_203 (lv_at hl 8 rfl) ?_
                        have h := Option.some.inj h
                        subst h
                        exact CT.iret Z hP hD hS dX6_heard_205
                    · rw [if_pos hc16] at h
                      refine lv_bipush (v := 30) hx hb dX6_heard_121 (by decide) ?_
                      refine lv_goto (tgt := 128) hx hb dX6_heard_123 (by decide) ?_
                      refine lv_istore (lv' := [(10, .int 30), (9, .int 3), (8, .int (x6 - 2)), (7, .int r11), (0, .ref (a 0)), (1, .int x1), (2, .int x2), (3, .int x3), (4, .int x4), (5, .int x5), (6, .int x6)]) hx hb dX6_heard_128 hl (by decide) rfl (fun ls hl => ?_)
                      refine lv_iconst (v := 0) hx hb dX6_heard_130 (by decide) ?_
                      refine lv_istore (lv' := [(11, .int 0), (10, .int 30), (9, .int 3), (8, .int (x6 - 2)), (7, .int r11), (0, .ref (a 0)), (1, .int x1), (2, .int x2), (3, .int x3), (4, .int x4), (5, .int x5), (6, .int x6)]) hx hb dX6_heard_131 hl (by decide) rfl (fun ls hl => ?_)
                      refine lv_aload_n hx hb dX6_heard_133 rfl (lv_at hl 5 rfl) ?_
                      obtain ⟨r25, hr25, h⟩ := bind_inv h
                      refine kV (rest := []) (st1 := []) (cr := []) (cs' := [w6 cA a r25]) Z (c_X6_asides l D cA a σ r25 hr25) 0 gX6_heard_X6_asides rfl hdX6_asides ⟨rfl, rfl⟩ ⟨Nat.le_of_ble_eq_true rfl, Nat.le_of_ble_eq_true rfl⟩ ⟨Nat.zero_le _, Nat.zero_le _⟩ hP hD hS hl.1 rfl rfl rfl (Nat.le_of_ble_eq_true rfl) 6 rfl rfl rfl [0] [] [0] rfl rfl rfl rfl rfl dX6_heard_134 (fun H locs hP hD hS => ?_)
                      refine lv_iload hx hb dX6_heard_137 (lv_at hl 11 rfl) ?_
                      refine lv_iconst (v := 2) hx hb dX6_heard_139 (by decide) ?_
                      refine lv_icmp_ge (tgt := 147) hx hb dX6_heard_140 (by decide) (fun hc26 => ?_) (fun hc26 => ?_)
                      · rw [if_pos hc26] at h
                        refine lv_iconst (v := 1) hx hb dX6_heard_147 (by decide) ?_
                        refine lv_istore (lv' := [(12, .int 1), (11, .int 0), (10, .int 30), (9, .int 3), (8, .int (x6 - 2)), (7, .int r11), (0, .ref (a 0)), (1, .int x1), (2, .int x2), (3, .int x3), (4, .int x4), (5, .int x5), (6, .int x6)]) hx hb dX6_heard_148 hl (by decide) rfl (fun ls hl => ?_)
                        obtain ⟨q27, hq27, h⟩ := bind_inv h
                        refine t_X6_heard_150 Z x1 x2 x4 x5 (x6 - 2) 3 30 FU _ _ _ _ hq27 _ _ _ hP hD hS (lv_sub hl [6, 7, 8, 10, 11, 4, 3, 2, 1, 0] rfl) (fun H locs ls hP hD hS hl => ?_)
                        refine lv_iload hx hb dX6_heard_203 (lv_at hl 8 rfl) ?_
                        have h := Option.some.inj h
                        subst h
                        exact CT.iret Z hP hD hS dX6_heard_205
                      · rw [if_neg hc26] at h
                        refine lv_iconst (v := 0) hx hb dX6_heard_143 (by decide) ?_
                        refine lv_goto (tgt := 148) hx hb dX6_heard_144 (by decide) ?_
                        refine lv_istore (lv' := [(12, .int 0), (11, .int 0), (10, .int 30), (9, .int 3), (8, .int (x6 - 2)), (7, .int r11), (0, .ref (a 0)), (1, .int x1), (2, .int x2), (3, .int x3), (4, .int x4), (5, .int x5), (6, .int x6)]) hx hb dX6_heard_148 hl (by decide) rfl (fun ls hl => ?_)
                        obtain ⟨q28, hq28, h⟩ := bind_inv h
                        refine t_X6_heard_150 Z x1 x2 x4 x5 (x6 - 2) 3 30 FU _ _ _ _ hq28 _ _ _ hP hD hS (lv_sub hl [6, 7, 8, 10, 11, 4, 3, 2, 1, 0] rfl) (fun H locs ls hP hD hS hl => ?_)
                        refine lv_iload hx hb dX6_heard_203 (lv_at hl 8 rfl) ?_
                        have h := Option.some.inj h
                        subst h
                        exact CT.iret Z hP hD hS dX6_heard_205
                  · rw [if_pos hc15] at h
                    refine lv_iconst (v := 4) hx hb dX6_heard_111 (by decide) ?_
                    refine lv_goto (tgt := 128) hx hb dX6_heard_112 (by decide) ?_
                    refine lv_istore (lv' := [(10, .int 4), (9, .int 3), (8, .int (x6 - 2)), (7, .int r11), (0, .ref (a 0)), (1, .int x1), (2, .int x2), (3, .int x3), (4, .int x4), (5, .int x5), (6, .int x6)]) hx hb dX6_heard_128 hl (by decide) rfl (fun ls hl => ?_)
                    refine lv_iconst (v := 0) hx hb dX6_heard_130 (by decide) ?_
                    refine lv_istore (lv' := [(11, .int 0), (10, .int 4), (9, .int 3), (8, .int (x6 - 2)), (7, .int r11), (0, .ref (a 0)), (1, .int x1), (2, .int x2), (3, .int x3), (4, .int x4), (5, .int x5), (6, .int x6)]) hx hb dX6_heard_131 hl (by decide) rfl (fun ls hl => ?_)
                    refine lv_aload_n hx hb dX6_heard_133 rfl (lv_at hl 5 rfl) ?_
                    obtain ⟨r29, hr29, h⟩ := bind_inv h
                    refine kV (rest := []) (st1 := []) (cr := []) (cs' := [w6 cA a r29]) Z (c_X6_asides l D cA a σ r29 hr29) 0 gX6_heard_X6_asides rfl hdX6_asides ⟨rfl, rfl⟩ ⟨Nat.le_of_ble_eq_true rfl, Nat.le_of_ble_eq_true rfl⟩ ⟨Nat.zero_le _, Nat.zero_le _⟩ hP hD hS hl.1 rfl rfl rfl (Nat.le_of_ble_eq_true rfl) 6 rfl rfl rfl [0] [] [0] rfl rfl rfl rfl rfl dX6_heard_134 (fun H locs hP hD hS => ?_)
                    refine lv_iload hx hb dX6_heard_137 (lv_at hl 11 rfl) ?_
                    refine lv_iconst (v := 2) hx hb dX6_heard_139 (by decide) ?_
                    refine lv_icmp_ge (tgt := 147) hx hb dX6_heard_140 (by decide) (fun hc30 => ?_) (fun hc30 => ?_)
                    · rw [if_pos hc30] at h
                      refine lv_iconst (v := 1) hx hb dX6_heard_147 (by decide) ?_
                      refine lv_istore (lv' := [(12, .int 1), (11, .int 0), (10, .int 4), (9, .int 3), (8, .int (x6 - 2)), (7, .int r11), (0, .ref (a 0)), (1, .int x1), (2, .int x2), (3, .int x3), (4, .int x4), (5, .int x5), (6, .int x6)]) hx hb dX6_heard_148 hl (by decide) rfl (fun ls hl => ?_)
                      obtain ⟨q31, hq31, h⟩ := bind_inv h
                      refine t_X6_heard_150 Z x1 x2 x4 x5 (x6 - 2) 3 4 FU _ _ _ _ hq31 _ _ _ hP hD hS (lv_sub hl [6, 7, 8, 10, 11, 4, 3, 2, 1, 0] rfl) (fun H locs ls hP hD hS hl => ?_)
                      refine lv_iload hx hb dX6_heard_203 (lv_at hl 8 rfl) ?_
                      have h := Option.some.inj h
                      subst h
                      exact CT.iret Z hP hD hS dX6_heard_205
                    · rw [if_neg hc30] at h
                      refine lv_iconst (v := 0) hx hb dX6_heard_143 (by decide) ?_
                      refine lv_goto (tgt := 148) hx hb dX6_heard_144 (by decide) ?_
                      refine lv_istore (lv' := [(12, .int 0), (11, .int 0), (10, .int 4), (9, .int 3), (8, .int (x6 - 2)), (7, .int r11), (0, .ref (a 0)), (1, .int x1), (2, .int x2), (3, .int x3), (4, .int x4), (5, .int x5), (6, .int x6)]) hx hb dX6_heard_148 hl (by decide) rfl (fun ls hl => ?_)
                      obtain ⟨q32, hq32, h⟩ := bind_inv h
                      refine t_X6_heard_150 Z x1 x2 x4 x5 (x6 - 2) 3 4 FU _ _ _ _ hq32 _ _ _ hP hD hS (lv_sub hl [6, 7, 8, 10, 11, 4, 3, 2, 1, 0] rfl) (fun H locs ls hP hD hS hl => ?_)
                      refine lv_iload hx hb dX6_heard_203 (lv_at hl 8 rfl) ?_
                      have h := Option.some.inj h
                      subst h
                      exact CT.iret Z hP hD hS dX6_heard_205
                · rw [if_neg hc14] at h
                  refine lv_iload hx hb dX6_heard_98 (lv_at hl 8 rfl) ?_
                  refine lv_goto (tgt := 104) hx hb dX6_heard_100 (by decide) ?_
                  refine lv_istore (lv' := [(9, .int x6), (8, .int (x6 - 2)), (7, .int r11), (0, .ref (a 0)), (1, .int x1), (2, .int x2), (3, .int x3), (4, .int x4), (5, .int x5), (6, .int x6)]) hx hb dX6_heard_104 hl (by decide) rfl (fun ls hl => ?_)
                  refine lv_iload hx hb dX6_heard_106 (lv_at hl 9 rfl) ?_
                  refine lv_if_ne (tgt := 115) hx hb dX6_heard_108 (by decide) (fun hc33 => ?_) (fun hc33 => ?_)
                  · rw [if_neg hc33] at h
                    refine lv_iload hx hb dX6_heard_115 (lv_at hl 9 rfl) ?_
                    refine lv_iconst (v := 1) hx hb dX6_heard_117 (by decide) ?_
                    refine lv_icmp_ne (tgt := 126) hx hb dX6_heard_118 (by decide) (fun hc34 => ?_) (fun hc34 => ?_)
                    · rw [if_neg hc34] at h
                      refine lv_bipush (v := 12) hx hb dX6_heard_126 (by decide) ?_
                      refine lv_istore (lv' := [(10, .int 12), (9, .int x6), (8, .int (x6 - 2)), (7, .int r11), (0, .ref (a 0)), (1, .int x1), (2, .int x2), (3, .int x3), (4, .int x4), (5, .int x5), (6, .int x6)]) hx hb dX6_heard_128 hl (by decide) rfl (fun ls hl => ?_)
                      refine lv_iconst (v := 0) hx hb dX6_heard_130 (by decide) ?_
                      refine lv_istore (lv' := [(11, .int 0), (10, .int 12), (9, .int x6), (8, .int (x6 - 2)), (7, .int r11), (0, .ref (a 0)), (1, .int x1), (2, .int x2), (3, .int x3), (4, .int x4), (5, .int x5), (6, .int x6)]) hx hb dX6_heard_131 hl (by decide) rfl (fun ls hl => ?_)
                      refine lv_aload_n hx hb dX6_heard_133 rfl (lv_at hl 5 rfl) ?_
                      obtain ⟨r35, hr35, h⟩ := bind_inv h
                      refine kV (rest := []) (st1 := []) (cr := []) (cs' := [w6 cA a r35]) Z (c_X6_asides l D cA a σ r35 hr35) 0 gX6_heard_X6_asides rfl hdX6_asides ⟨rfl, rfl⟩ ⟨Nat.le_of_ble_eq_true rfl, Nat.le_of_ble_eq_true rfl⟩ ⟨Nat.zero_le _, Nat.zero_le _⟩ hP hD hS hl.1 rfl rfl rfl (Nat.le_of_ble_eq_true rfl) 6 rfl rfl rfl [0] [] [0] rfl rfl rfl rfl rfl dX6_heard_134 (fun H locs hP hD hS => ?_)
                      refine lv_iload hx hb dX6_heard_137 (lv_at hl 11 rfl) ?_
                      refine lv_iconst (v := 2) hx hb dX6_heard_139 (by decide) ?_
                      refine lv_icmp_ge (tgt := 147) hx hb dX6_heard_140 (by decide) (fun hc36 => ?_) (fun hc36 => ?_)
                      · rw [if_pos hc36] at h
                        refine lv_iconst (v := 1) hx hb dX6_heard_147 (by decide) ?_
                        refine lv_istore (lv' := [(12, .int 1), (11, .int 0), (10, .int 12), (9, .int x6), (8, .int (x6 - 2)), (7, .int r11), (0, .ref (a 0)), (1, .int x1), (2, .int x2), (3, .int x3), (4, .int x4), (5, .int x5), (6, .int x6)]) hx hb dX6_heard_148 hl (by decide) rfl (fun ls hl => ?_)
                        obtain ⟨q37, hq37, h⟩ := bind_inv h
                        refine t_X6_heard_150 Z x1 x2 x4 x5 (x6 - 2) x6 12 FU _ _ _ _ hq37 _ _ _ hP hD hS (lv_sub hl [6, 7, 8, 10, 11, 4, 3, 2, 1, 0] rfl) (fun H locs ls hP hD hS hl => ?_)
                        refine lv_iload hx hb dX6_heard_203 (lv_at hl 8 rfl) ?_
                        have h := Option.some.inj h
                        subst h
                        exact CT.iret Z hP hD hS dX6_heard_205
                      · rw [if_neg hc36] at h
                        refine lv_iconst (v := 0) hx hb dX6_heard_143 (by decide) ?_
                        refine lv_goto (tgt := 148) hx hb dX6_heard_144 (by decide) ?_
                        refine lv_istore (lv' := [(12, .int 0), (11, .int 0), (10, .int 12), (9, .int x6), (8, .int (x6 - 2)), (7, .int r11), (0, .ref (a 0)), (1, .int x1), (2, .int x2), (3, .int x3), (4, .int x4), (5, .int x5), (6, .int x6)]) hx hb dX6_heard_148 hl (by decide) rfl (fun ls hl => ?_)
                        obtain ⟨q38, hq38, h⟩ := bind_inv h
                        refine t_X6_heard_150 Z x1 x2 x4 x5 (x6 - 2) x6 12 FU _ _ _ _ hq38 _ _ _ hP hD hS (lv_sub hl [6, 7, 8, 10, 11, 4, 3, 2, 1, 0] rfl) (fun H locs ls hP hD hS hl => ?_)
                        refine lv_iload hx hb dX6_heard_203 (lv_at hl 8 rfl) ?_
                        have h := Option.some.inj h
                        subst h
                        exact CT.iret Z hP hD hS dX6_heard_205
                    · rw [if_pos hc34] at h
                      refine lv_bipush (v := 30) hx hb dX6_heard_121 (by decide) ?_
                      refine lv_goto (tgt := 128) hx hb dX6_heard_123 (by decide) ?_
                      refine lv_istore (lv' := [(10, .int 30), (9, .int x6), (8, .int (x6 - 2)), (7, .int r11), (0, .ref (a 0)), (1, .int x1), (2, .int x2), (3, .int x3), (4, .int x4), (5, .int x5), (6, .int x6)]) hx hb dX6_heard_128 hl (by decide) rfl (fun ls hl => ?_)
                      refine lv_iconst (v := 0) hx hb dX6_heard_130 (by decide) ?_
                      refine lv_istore (lv' := [(11, .int 0), (10, .int 30), (9, .int x6), (8, .int (x6 - 2)), (7, .int r11), (0, .ref (a 0)), (1, .int x1), (2, .int x2), (3, .int x3), (4, .int x4), (5, .int x5), (6, .int x6)]) hx hb dX6_heard_131 hl (by decide) rfl (fun ls hl => ?_)
                      refine lv_aload_n hx hb dX6_heard_133 rfl (lv_at hl 5 rfl) ?_
                      obtain ⟨r39, hr39, h⟩ := bind_inv h
                      refine kV (rest := []) (st1 := []) (cr := []) (cs' := [w6 cA a r39]) Z (c_X6_asides l D cA a σ r39 hr39) 0 gX6_heard_X6_asides rfl hdX6_asides ⟨rfl, rfl⟩ ⟨Nat.le_of_ble_eq_true rfl, Nat.le_of_ble_eq_true rfl⟩ ⟨Nat.zero_le _, Nat.zero_le _⟩ hP hD hS hl.1 rfl rfl rfl (Nat.le_of_ble_eq_true rfl) 6 rfl rfl rfl [0] [] [0] rfl rfl rfl rfl rfl dX6_heard_134 (fun H locs hP hD hS => ?_)
                      refine lv_iload hx hb dX6_heard_137 (lv_at hl 11 rfl) ?_
                      refine lv_iconst (v := 2) hx hb dX6_heard_139 (by decide) ?_
                      refine lv_icmp_ge (tgt := 147) hx hb dX6_heard_140 (by decide) (fun hc40 => ?_) (fun hc40 => ?_)
                      · rw [if_pos hc40] at h
                        refine lv_iconst (v := 1) hx hb dX6_heard_147 (by decide) ?_
                        refine lv_istore (lv' := [(12, .int 1), (11, .int 0), (10, .int 30), (9, .int x6), (8, .int (x6 - 2)), (7, .int r11), (0, .ref (a 0)), (1, .int x1), (2, .int x2), (3, .int x3), (4, .int x4), (5, .int x5), (6, .int x6)]) hx hb dX6_heard_148 hl (by decide) rfl (fun ls hl => ?_)
                        obtain ⟨q41, hq41, h⟩ := bind_inv h
                        refine t_X6_heard_150 Z x1 x2 x4 x5 (x6 - 2) x6 30 FU _ _ _ _ hq41 _ _ _ hP hD hS (lv_sub hl [6, 7, 8, 10, 11, 4, 3, 2, 1, 0] rfl) (fun H locs ls hP hD hS hl => ?_)
                        refine lv_iload hx hb dX6_heard_203 (lv_at hl 8 rfl) ?_
                        have h := Option.some.inj h
                        subst h
                        exact CT.iret Z hP hD hS dX6_heard_205
                      · rw [if_neg hc40] at h
                        refine lv_iconst (v := 0) hx hb dX6_heard_143 (by decide) ?_
                        refine lv_goto (tgt := 148) hx hb dX6_heard_144 (by decide) ?_
                        refine lv_istore (lv' := [(12, .int 0), (11, .int 0), (10, .int 30), (9, .int x6), (8, .int (x6 - 2)), (7, .int r11), (0, .ref (a 0)), (1, .int x1), (2, .int x2), (3, .int x3), (4, .int x4), (5, .int x5), (6, .int x6)]) hx hb dX6_heard_148 hl (by decide) rfl (fun ls hl => ?_)
                        obtain ⟨q42, hq42, h⟩ := bind_inv h
                        refine t_X6_heard_150 Z x1 x2 x4 x5 (x6 - 2) x6 30 FU _ _ _ _ hq42 _ _ _ hP hD hS (lv_sub hl [6, 7, 8, 10, 11, 4, 3, 2, 1, 0] rfl) (fun H locs ls hP hD hS hl => ?_)
                        refine lv_iload hx hb dX6_heard_203 (lv_at hl 8 rfl) ?_
                        have h := Option.some.inj h
                        subst h
                        exact CT.iret Z hP hD hS dX6_heard_205
                  · rw [if_pos hc33] at h
                    refine lv_iconst (v := 4) hx hb dX6_heard_111 (by decide) ?_
                    refine lv_goto (tgt := 128) hx hb dX6_heard_112 (by decide) ?_
                    refine lv_istore (lv' := [(10, .int 4), (9, .int x6), (8, .int (x6 - 2)), (7, .int r11), (0, .ref (a 0)), (1, .int x1), (2, .int x2), (3, .int x3), (4, .int x4), (5, .int x5), (6, .int x6)]) hx hb dX6_heard_128 hl (by decide) rfl (fun ls hl => ?_)
                    refine lv_iconst (v := 0) hx hb dX6_heard_130 (by decide) ?_
                    refine lv_istore (lv' := [(11, .int 0), (10, .int 4), (9, .int x6), (8, .int (x6 - 2)), (7, .int r11), (0, .ref (a 0)), (1, .int x1), (2, .int x2), (3, .int x3), (4, .int x4), (5, .int x5), (6, .int x6)]) hx hb dX6_heard_131 hl (by decide) rfl (fun ls hl => ?_)
                    refine lv_aload_n hx hb dX6_heard_133 rfl (lv_at hl 5 rfl) ?_
                    obtain ⟨r43, hr43, h⟩ := bind_inv h
                    refine kV (rest := []) (st1 := []) (cr := []) (cs' := [w6 cA a r43]) Z (c_X6_asides l D cA a σ r43 hr43) 0 gX6_heard_X6_asides rfl hdX6_asides ⟨rfl, rfl⟩ ⟨Nat.le_of_ble_eq_true rfl, Nat.le_of_ble_eq_true rfl⟩ ⟨Nat.zero_le _, Nat.zero_le _⟩ hP hD hS hl.1 rfl rfl rfl (Nat.le_of_ble_eq_true rfl) 6 rfl rfl rfl [0] [] [0] rfl rfl rfl rfl rfl dX6_heard_134 (fun H locs hP hD hS => ?_)
                    refine lv_iload hx hb dX6_heard_137 (lv_at hl 11 rfl) ?_
                    refine lv_iconst (v := 2) hx hb dX6_heard_139 (by decide) ?_
                    refine lv_icmp_ge (tgt := 147) hx hb dX6_heard_140 (by decide) (fun hc44 => ?_) (fun hc44 => ?_)
                    · rw [if_pos hc44] at h
                      refine lv_iconst (v := 1) hx hb dX6_heard_147 (by decide) ?_
                      refine lv_istore (lv' := [(12, .int 1), (11, .int 0), (10, .int 4), (9, .int x6), (8, .int (x6 - 2)), (7, .int r11), (0, .ref (a 0)), (1, .int x1), (2, .int x2), (3, .int x3), (4, .int x4), (5, .int x5), (6, .int x6)]) hx hb dX6_heard_148 hl (by decide) rfl (fun ls hl => ?_)
                      obtain ⟨q45, hq45, h⟩ := bind_inv h
                      refine t_X6_heard_150 Z x1 x2 x4 x5 (x6 - 2) x6 4 FU _ _ _ _ hq45 _ _ _ hP hD hS (lv_sub hl [6, 7, 8, 10, 11, 4, 3, 2, 1, 0] rfl) (fun H locs ls hP hD hS hl => ?_)
                      refine lv_iload hx hb dX6_heard_203 (lv_at hl 8 rfl) ?_
                      have h := Option.some.inj h
                      subst h
                      exact CT.iret Z hP hD hS dX6_heard_205
                    · rw [if_neg hc44] at h
                      refine lv_iconst (v := 0) hx hb dX6_heard_143 (by decide) ?_
                      refine lv_goto (tgt := 148) hx hb dX6_heard_144 (by decide) ?_
                      refine lv_istore (lv' := [(12, .int 0), (11, .int 0), (10, .int 4), (9, .int x6), (8, .int (x6 - 2)), (7, .int r11), (0, .ref (a 0)), (1, .int x1), (2, .int x2), (3, .int x3), (4, .int x4), (5, .int x5), (6, .int x6)]) hx hb dX6_heard_148 hl (by decide) rfl (fun ls hl => ?_)
                      obtain ⟨q46, hq46, h⟩ := bind_inv h
                      refine t_X6_heard_150 Z x1 x2 x4 x5 (x6 - 2) x6 4 FU _ _ _ _ hq46 _ _ _ hP hD hS (lv_sub hl [6, 7, 8, 10, 11, 4, 3, 2, 1, 0] rfl) (fun H locs ls hP hD hS hl => ?_)
                      refine lv_iload hx hb dX6_heard_203 (lv_at hl 8 rfl) ?_
                      have h := Option.some.inj h
                      subst h
                      exact CT.iret Z hP hD hS dX6_heard_205
              · rw [if_neg hc13] at h
                refine lv_iload_n hx hb dX6_heard_82 rfl (lv_at hl 2 rfl) ?_
                refine lv_goto (tgt := 90) hx hb dX6_heard_83 (by decide) ?_
                refine lv_istore (lv' := [(8, .int x1), (7, .int r11), (0, .ref (a 0)), (1, .int x1), (2, .int x2), (3, .int x3), (4, .int x4), (5, .int x5), (6, .int x6)]) hx hb dX6_heard_90 hl (by decide) rfl (fun ls hl => ?_)
                refine lv_iload hx hb dX6_heard_92 (lv_at hl 8 rfl) ?_
                refine lv_iconst (v := 2) hx hb dX6_heard_94 (by decide) ?_
                refine lv_icmp_ge (tgt := 103) hx hb dX6_heard_95 (by decide) (fun hc47 => ?_) (fun hc47 => ?_)
                · rw [if_pos hc47] at h
                  refine lv_iconst (v := 3) hx hb dX6_heard_103 (by decide) ?_
                  refine lv_istore (lv' := [(9, .int 3), (8, .int x1), (7, .int r11), (0, .ref (a 0)), (1, .int x1), (2, .int x2), (3, .int x3), (4, .int x4), (5, .int x5), (6, .int x6)]) hx hb dX6_heard_104 hl (by decide) rfl (fun ls hl => ?_)
                  refine lv_iload hx hb dX6_heard_106 (lv_at hl 9 rfl) ?_
                  refine lv_if_ne (tgt := 115) hx hb dX6_heard_108 (by decide) (fun hc48 => ?_) (fun hc48 => ?_)
                  · rw [if_neg hc48] at h
                    refine lv_iload hx hb dX6_heard_115 (lv_at hl 9 rfl) ?_
                    refine lv_iconst (v := 1) hx hb dX6_heard_117 (by decide) ?_
                    refine lv_icmp_ne (tgt := 126) hx hb dX6_heard_118 (by decide) (fun hc49 => ?_) (fun hc49 => ?_)
                    · rw [if_neg hc49] at h
                      refine lv_bipush (v := 12) hx hb dX6_heard_126 (by decide) ?_
                      refine lv_istore (lv' := [(10, .int 12), (9, .int 3), (8, .int x1), (7, .int r11), (0, .ref (a 0)), (1, .int x1), (2, .int x2), (3, .int x3), (4, .int x4), (5, .int x5), (6, .int x6)]) hx hb dX6_heard_128 hl (by decide) rfl (fun ls hl => ?_)
                      refine lv_iconst (v := 0) hx hb dX6_heard_130 (by decide) ?_
                      refine lv_istore (lv' := [(11, .int 0), (10, .int 12), (9, .int 3), (8, .int x1), (7, .int r11), (0, .ref (a 0)), (1, .int x1), (2, .int x2), (3, .int x3), (4, .int x4), (5, .int x5), (6, .int x6)]) hx hb dX6_heard_131 hl (by decide) rfl (fun ls hl => ?_)
                      refine lv_aload_n hx hb dX6_heard_133 rfl (lv_at hl 5 rfl) ?_
                      obtain ⟨r50, hr50, h⟩ := bind_inv h
                      refine kV (rest := []) (st1 := []) (cr := []) (cs' := [w6 cA a r50]) Z (c_X6_asides l D cA a σ r50 hr50) 0 gX6_heard_X6_asides rfl hdX6_asides ⟨rfl, rfl⟩ ⟨Nat.le_of_ble_eq_true rfl, Nat.le_of_ble_eq_true rfl⟩ ⟨Nat.zero_le _, Nat.zero_le _⟩ hP hD hS hl.1 rfl rfl rfl (Nat.le_of_ble_eq_true rfl) 6 rfl rfl rfl [0] [] [0] rfl rfl rfl rfl rfl dX6_heard_134 (fun H locs hP hD hS => ?_)
                      refine lv_iload hx hb dX6_heard_137 (lv_at hl 11 rfl) ?_
                      refine lv_iconst (v := 2) hx hb dX6_heard_139 (by decide) ?_
                      refine lv_icmp_ge (tgt := 147) hx hb dX6_heard_140 (by decide) (fun hc51 => ?_) (fun hc51 => ?_)
                      · rw [if_pos hc51] at h
                        refine lv_iconst (v := 1) hx hb dX6_heard_147 (by decide) ?_
                        refine lv_istore (lv' := [(12, .int 1), (11, .int 0), (10, .int 12), (9, .int 3), (8, .int x1), (7, .int r11), (0, .ref (a 0)), (1, .int x1), (2, .int x2), (3, .int x3), (4, .int x4), (5, .int x5), (6, .int x6)]) hx hb dX6_heard_148 hl (by decide) rfl (fun ls hl => ?_)
                        obtain ⟨q52, hq52, h⟩ := bind_inv h
                        refine t_X6_heard_150 Z x1 x2 x4 x5 x1 3 12 FU _ _ _ _ hq52 _ _ _ hP hD hS (lv_sub hl [6, 7, 8, 10, 11, 4, 3, 2, 1, 0] rfl) (fun H locs ls hP hD hS hl => ?_)
                        refine lv_iload hx hb dX6_heard_203 (lv_at hl 8 rfl) ?_
                        have h := Option.some.inj h
                        subst h
                        exact CT.iret Z hP hD hS dX6_heard_205
                      · rw [if_neg hc51] at h
                        refine lv_iconst (v := 0) hx hb dX6_heard_143 (by decide) ?_
                        refine lv_goto (tgt := 148) hx hb dX6_heard_144 (by decide) ?_
                        refine lv_istore (lv' := [(12, .int 0), (11, .int 0), (10, .int 12), (9, .int 3), (8, .int x1), (7, .int r11), (0, .ref (a 0)), (1, .int x1), (2, .int x2), (3, .int x3), (4, .int x4), (5, .int x5), (6, .int x6)]) hx hb dX6_heard_148 hl (by decide) rfl (fun ls hl => ?_)
                        obtain ⟨q53, hq53, h⟩ := bind_inv h
                        refine t_X6_heard_150 Z x1 x2 x4 x5 x1 3 12 FU _ _ _ _ hq53 _ _ _ hP hD hS (lv_sub hl [6, 7, 8, 10, 11, 4, 3, 2, 1, 0] rfl) (fun H locs ls hP hD hS hl => ?_)
                        refine lv_iload hx hb dX6_heard_203 (lv_at hl 8 rfl) ?_
                        have h := Option.some.inj h
                        subst h
                        exact CT.iret Z hP hD hS dX6_heard_205
                    · rw [if_pos hc49] at h
                      refine lv_bipush (v := 30) hx hb dX6_heard_121 (by decide) ?_
                      refine lv_goto (tgt := 128) hx hb dX6_heard_123 (by decide) ?_
                      refine lv_istore (lv' := [(10, .int 30), (9, .int 3), (8, .int x1), (7, .int r11), (0, .ref (a 0)), (1, .int x1), (2, .int x2), (3, .int x3), (4, .int x4), (5, .int x5), (6, .int x6)]) hx hb dX6_heard_128 hl (by decide) rfl (fun ls hl => ?_)
                      refine lv_iconst (v := 0) hx hb dX6_heard_130 (by decide) ?_
                      refine lv_istore (lv' := [(11, .int 0), (10, .int 30), (9, .int 3), (8, .int x1), (7, .int r11), (0, .ref (a 0)), (1, .int x1), (2, .int x2), (3, .int x3), (4, .int x4), (5, .int x5), (6, .int x6)]) hx hb dX6_heard_131 hl (by decide) rfl (fun ls hl => ?_)
                      refine lv_aload_n hx hb dX6_heard_133 rfl (lv_at hl 5 rfl) ?_
                      obtain ⟨r54, hr54, h⟩ := bind_inv h
                      refine kV (rest := []) (st1 := []) (cr := []) (cs' := [w6 cA a r54]) Z (c_X6_asides l D cA a σ r54 hr54) 0 gX6_heard_X6_asides rfl hdX6_asides ⟨rfl, rfl⟩ ⟨Nat.le_of_ble_eq_true rfl, Nat.le_of_ble_eq_true rfl⟩ ⟨Nat.zero_le _, Nat.zero_le _⟩ hP hD hS hl.1 rfl rfl rfl (Nat.le_of_ble_eq_true rfl) 6 rfl rfl rfl [0] [] [0] rfl rfl rfl rfl rfl dX6_heard_134 (fun H locs hP hD hS => ?_)
                      refine lv_iload hx hb dX6_heard_137 (lv_at hl 11 rfl) ?_
                      refine lv_iconst (v := 2) hx hb dX6_heard_139 (by decide) ?_
                      refine lv_icmp_ge (tgt := 147) hx hb dX6_heard_140 (by decide) (fun hc55 => ?_) (fun hc55 => ?_)
                      · rw [if_pos hc55] at h
                        refine lv_iconst (v := 1) hx hb dX6_heard_147 (by decide) ?_
                        refine lv_istore (lv' := [(12, .int 1), (11, .int 0), (10, .int 30), (9, .int 3), (8, .int x1), (7, .int r11), (0, .ref (a 0)), (1, .int x1), (2, .int x2), (3, .int x3), (4, .int x4), (5, .int x5), (6, .int x6)]) hx hb dX6_heard_148 hl (by decide) rfl (fun ls hl => ?_)
                        obtain ⟨q56, hq56, h⟩ := bind_inv h
                        refine t_X6_heard_150 Z x1 x2 x4 x5 x1 3 30 FU _ _ _ _ hq56 _ _ _ hP hD hS (lv_sub hl [6, 7, 8, 10, 11, 4, 3, 2, 1, 0] rfl) (fun H locs ls hP hD hS hl => ?_)
                        refine lv_iload hx hb dX6_heard_203 (lv_at hl 8 rfl) ?_
                        have h := Option.some.inj h
                        subst h
                        exact CT.iret Z hP hD hS dX6_heard_205
                      · rw [if_neg hc55] at h
                        refine lv_iconst (v := 0) hx hb dX6_heard_143 (by decide) ?_
                        refine lv_goto (tgt := 148) hx hb dX6_heard_144 (by decide) ?_
                        refine lv_istore (lv' := [(12, .int 0), (11, .int 0), (10, .int 30), (9, .int 3), (8, .int x1), (7, .int r11), (0, .ref (a 0)), (1, .int x1), (2, .int x2), (3, .int x3), (4, .int x4), (5, .int x5), (6, .int x6)]) hx hb dX6_heard_148 hl (by decide) rfl (fun ls hl => ?_)
                        obtain ⟨q57, hq57, h⟩ := bind_inv h
                        refine t_X6_heard_150 Z x1 x2 x4 x5 x1 3 30 FU _ _ _ _ hq57 _ _ _ hP hD hS (lv_sub hl [6, 7, 8, 10, 11, 4, 3, 2, 1, 0] rfl) (fun H locs ls hP hD hS hl => ?_)
                        refine lv_iload hx hb dX6_heard_203 (lv_at hl 8 rfl) ?_
                        have h := Option.some.inj h
                        subst h
                        exact CT.iret Z hP hD hS dX6_heard_205
                  · rw [if_pos hc48] at h
                    refine lv_iconst (v := 4) hx hb dX6_heard_111 (by decide) ?_
                    refine lv_goto (tgt := 128) hx hb dX6_heard_112 (by decide) ?_
                    refine lv_istore (lv' := [(10, .int 4), (9, .int 3), (8, .int x1), (7, .int r11), (0, .ref (a 0)), (1, .int x1), (2, .int x2), (3, .int x3), (4, .int x4), (5, .int x5), (6, .int x6)]) hx hb dX6_heard_128 hl (by decide) rfl (fun ls hl => ?_)
                    refine lv_iconst (v := 0) hx hb dX6_heard_130 (by decide) ?_
                    refine lv_istore (lv' := [(11, .int 0), (10, .int 4), (9, .int 3), (8, .int x1), (7, .int r11), (0, .ref (a 0)), (1, .int x1), (2, .int x2), (3, .int x3), (4, .int x4), (5, .int x5), (6, .int x6)]) hx hb dX6_heard_131 hl (by decide) rfl (fun ls hl => ?_)
                    refine lv_aload_n hx hb dX6_heard_133 rfl (lv_at hl 5 rfl) ?_
                    obtain ⟨r58, hr58, h⟩ := bind_inv h
                    refine kV (rest := []) (st1 := []) (cr := []) (cs' := [w6 cA a r58]) Z (c_X6_asides l D cA a σ r58 hr58) 0 gX6_heard_X6_asides rfl hdX6_asides ⟨rfl, rfl⟩ ⟨Nat.le_of_ble_eq_true rfl, Nat.le_of_ble_eq_true rfl⟩ ⟨Nat.zero_le _, Nat.zero_le _⟩ hP hD hS hl.1 rfl rfl rfl (Nat.le_of_ble_eq_true rfl) 6 rfl rfl rfl [0] [] [0] rfl rfl rfl rfl rfl dX6_heard_134 (fun H locs hP hD hS => ?_)
                    refine lv_iload hx hb dX6_heard_137 (lv_at hl 11 rfl) ?_
                    refine lv_iconst (v := 2) hx hb dX6_heard_139 (by decide) ?_
                    refine lv_icmp_ge (tgt := 147) hx hb dX6_heard_140 (by decide) (fun hc59 => ?_) (fun hc59 => ?_)
                    · rw [if_pos hc59] at h
                      refine lv_iconst (v := 1) hx hb dX6_heard_147 (by decide) ?_
                      refine lv_istore (lv' := [(12, .int 1), (11, .int 0), (10, .int 4), (9, .int 3), (8, .int x1), (7, .int r11), (0, .ref (a 0)), (1, .int x1), (2, .int x2), (3, .int x3), (4, .int x4), (5, .int x5), (6, .int x6)]) hx hb dX6_heard_148 hl (by decide) rfl (fun ls hl => ?_)
                      obtain ⟨q60, hq60, h⟩ := bind_inv h
                      refine t_X6_heard_150 Z x1 x2 x4 x5 x1 3 4 FU _ _ _ _ hq60 _ _ _ hP hD hS (lv_sub hl [6, 7, 8, 10, 11, 4, 3, 2, 1, 0] rfl) (fun H locs ls hP hD hS hl => ?_)
                      refine lv_iload hx hb dX6_heard_203 (lv_at hl 8 rfl) ?_
                      have h := Option.some.inj h
                      subst h
                      exact CT.iret Z hP hD hS dX6_heard_205
                    · rw [if_neg hc59] at h
                      refine lv_iconst (v := 0) hx hb dX6_heard_143 (by decide) ?_
                      refine lv_goto (tgt := 148) hx hb dX6_heard_144 (by decide) ?_
                      refine lv_istore (lv' := [(12, .int 0), (11, .int 0), (10, .int 4), (9, .int 3), (8, .int x1), (7, .int r11), (0, .ref (a 0)), (1, .int x1), (2, .int x2), (3, .int x3), (4, .int x4), (5, .int x5), (6, .int x6)]) hx hb dX6_heard_148 hl (by decide) rfl (fun ls hl => ?_)
                      obtain ⟨q61, hq61, h⟩ := bind_inv h
                      refine t_X6_heard_150 Z x1 x2 x4 x5 x1 3 4 FU _ _ _ _ hq61 _ _ _ hP hD hS (lv_sub hl [6, 7, 8, 10, 11, 4, 3, 2, 1, 0] rfl) (fun H locs ls hP hD hS hl => ?_)
                      refine lv_iload hx hb dX6_heard_203 (lv_at hl 8 rfl) ?_
                      have h := Option.some.inj h
                      subst h
                      exact CT.iret Z hP hD hS dX6_heard_205
                · rw [if_neg hc47] at h
                  refine lv_iload hx hb dX6_heard_98 (lv_at hl 8 rfl) ?_
                  refine lv_goto (tgt := 104) hx hb dX6_heard_100 (by decide) ?_
                  refine lv_istore (lv' := [(9, .int x6), (8, .int x1), (7, .int r11), (0, .ref (a 0)), (1, .int x1), (2, .int x2), (3, .int x3), (4, .int x4), (5, .int x5), (6, .int x6)]) hx hb dX6_heard_104 hl (by decide) rfl (fun ls hl => ?_)
                  refine lv_iload hx hb dX6_heard_106 (lv_at hl 9 rfl) ?_
                  refine lv_if_ne (tgt := 115) hx hb dX6_heard_108 (by decide) (fun hc62 => ?_) (fun hc62 => ?_)
                  · rw [if_neg hc62] at h
                    refine lv_iload hx hb dX6_heard_115 (lv_at hl 9 rfl) ?_
                    refine lv_iconst (v := 1) hx hb dX6_heard_117 (by decide) ?_
                    refine lv_icmp_ne (tgt := 126) hx hb dX6_heard_118 (by decide) (fun hc63 => ?_) (fun hc63 => ?_)
                    · rw [if_neg hc63] at h
                      refine lv_bipush (v := 12) hx hb dX6_heard_126 (by decide) ?_
                      refine lv_istore (lv' := [(10, .int 12), (9, .int x6), (8, .int x1), (7, .int r11), (0, .ref (a 0)), (1, .int x1), (2, .int x2), (3, .int x3), (4, .int x4), (5, .int x5), (6, .int x6)]) hx hb dX6_heard_128 hl (by decide) rfl (fun ls hl => ?_)
                      refine lv_iconst (v := 0) hx hb dX6_heard_130 (by decide) ?_
                      refine lv_istore (lv' := [(11, .int 0), (10, .int 12), (9, .int x6), (8, .int x1), (7, .int r11), (0, .ref (a 0)), (1, .int x1), (2, .int x2), (3, .int x3), (4, .int x4), (5, .int x5), (6, .int x6)]) hx hb dX6_heard_131 hl (by decide) rfl (fun ls hl => ?_)
                      refine lv_aload_n hx hb dX6_heard_133 rfl (lv_at hl 5 rfl) ?_
                      obtain ⟨r64, hr64, h⟩ := bind_inv h
                      refine kV (rest := []) (st1 := []) (cr := []) (cs' := [w6 cA a r64]) Z (c_X6_asides l D cA a σ r64 hr64) 0 gX6_heard_X6_asides rfl hdX6_asides ⟨rfl, rfl⟩ ⟨Nat.le_of_ble_eq_true rfl, Nat.le_of_ble_eq_true rfl⟩ ⟨Nat.zero_le _, Nat.zero_le _⟩ hP hD hS hl.1 rfl rfl rfl (Nat.le_of_ble_eq_true rfl) 6 rfl rfl rfl [0] [] [0] rfl rfl rfl rfl rfl dX6_heard_134 (fun H locs hP hD hS => ?_)
                      refine lv_iload hx hb dX6_heard_137 (lv_at hl 11 rfl) ?_
                      refine lv_iconst (v := 2) hx hb dX6_heard_139 (by decide) ?_
                      refine lv_icmp_ge (tgt := 147) hx hb dX6_heard_140 (by decide) (fun hc65 => ?_) (fun hc65 => ?_)
                      · rw [if_pos hc65] at h
                        refine lv_iconst (v := 1) hx hb dX6_heard_147 (by decide) ?_
                        refine lv_istore (lv' := [(12, .int 1), (11, .int 0), (10, .int 12), (9, .int x6), (8, .int x1), (7, .int r11), (0, .ref (a 0)), (1, .int x1), (2, .int x2), (3, .int x3), (4, .int x4), (5, .int x5), (6, .int x6)]) hx hb dX6_heard_148 hl (by decide) rfl (fun ls hl => ?_)
                        obtain ⟨q66, hq66, h⟩ := bind_inv h
                        refine t_X6_heard_150 Z x1 x2 x4 x5 x1 x6 12 FU _ _ _ _ hq66 _ _ _ hP hD hS (lv_sub hl [6, 7, 8, 10, 11, 4, 3, 2, 1, 0] rfl) (fun H locs ls hP hD hS hl => ?_)
                        refine lv_iload hx hb dX6_heard_203 (lv_at hl 8 rfl) ?_
                        have h := Option.some.inj h
                        subst h
                        exact CT.iret Z hP hD hS dX6_heard_205
                      · rw [if_neg hc65] at h
                        refine lv_iconst (v := 0) hx hb dX6_heard_143 (by decide) ?_
                        refine lv_goto (tgt := 148) hx hb dX6_heard_144 (by decide) ?_
                        refine lv_istore (lv' := [(12, .int 0), (11, .int 0), (10, .int 12), (9, .int x6), (8, .int x1), (7, .int r11), (0, .ref (a 0)), (1, .int x1), (2, .int x2), (3, .int x3), (4, .int x4), (5, .int x5), (6, .int x6)]) hx hb dX6_heard_148 hl (by decide) rfl (fun ls hl => ?_)
                        obtain ⟨q67, hq67, h⟩ := bind_inv h
                        refine t_X6_heard_150 Z x1 x2 x4 x5 x1 x6 12 FU _ _ _ _ hq67 _ _ _ hP hD hS (lv_sub hl [6, 7, 8, 10, 11, 4, 3, 2, 1, 0] rfl) (fun H locs ls hP hD hS hl => ?_)
                        refine lv_iload hx hb dX6_heard_203 (lv_at hl 8 rfl) ?_
                        have h := Option.some.inj h
                        subst h
                        exact CT.iret Z hP hD hS dX6_heard_205
                    · rw [if_pos hc63] at h
                      refine lv_bipush (v := 30) hx hb dX6_heard_121 (by decide) ?_
                      refine lv_goto (tgt := 128) hx hb dX6_heard_123 (by decide) ?_
                      refine lv_istore (lv' := [(10, .int 30), (9, .int x6), (8, .int x1), (7, .int r11), (0, .ref (a 0)), (1, .int x1), (2, .int x2), (3, .int x3), (4, .int x4), (5, .int x5), (6, .int x6)]) hx hb dX6_heard_128 hl (by decide) rfl (fun ls hl => ?_)
                      refine lv_iconst (v := 0) hx hb dX6_heard_130 (by decide) ?_
                      refine lv_istore (lv' := [(11, .int 0), (10, .int 30), (9, .int x6), (8, .int x1), (7, .int r11), (0, .ref (a 0)), (1, .int x1), (2, .int x2), (3, .int x3), (4, .int x4), (5, .int x5), (6, .int x6)]) hx hb dX6_heard_131 hl (by decide) rfl (fun ls hl => ?_)
                      refine lv_aload_n hx hb dX6_heard_133 rfl (lv_at hl 5 rfl) ?_
                      obtain ⟨r68, hr68, h⟩ := bind_inv h
                      refine kV (rest := []) (st1 := []) (cr := []) (cs' := [w6 cA a r68]) Z (c_X6_asides l D cA a σ r68 hr68) 0 gX6_heard_X6_asides rfl hdX6_asides ⟨rfl, rfl⟩ ⟨Nat.le_of_ble_eq_true rfl, Nat.le_of_ble_eq_true rfl⟩ ⟨Nat.zero_le _, Nat.zero_le _⟩ hP hD hS hl.1 rfl rfl rfl (Nat.le_of_ble_eq_true rfl) 6 rfl rfl rfl [0] [] [0] rfl rfl rfl rfl rfl dX6_heard_134 (fun H locs hP hD hS => ?_)
                      refine lv_iload hx hb dX6_heard_137 (lv_at hl 11 rfl) ?_
                      refine lv_iconst (v := 2) hx hb dX6_heard_139 (by decide) ?_
                      refine lv_icmp_ge (tgt := 147) hx hb dX6_heard_140 (by decide) (fun hc69 => ?_) (fun hc69 => ?_)
                      · rw [if_pos hc69] at h
                        refine lv_iconst (v := 1) hx hb dX6_heard_147 (by decide) ?_
                        refine lv_istore (lv' := [(12, .int 1), (11, .int 0), (10, .int 30), (9, .int x6), (8, .int x1), (7, .int r11), (0, .ref (a 0)), (1, .int x1), (2, .int x2), (3, .int x3), (4, .int x4), (5, .int x5), (6, .int x6)]) hx hb dX6_heard_148 hl (by decide) rfl (fun ls hl => ?_)
                        obtain ⟨q70, hq70, h⟩ := bind_inv h
                        refine t_X6_heard_150 Z x1 x2 x4 x5 x1 x6 30 FU _ _ _ _ hq70 _ _ _ hP hD hS (lv_sub hl [6, 7, 8, 10, 11, 4, 3, 2, 1, 0] rfl) (fun H locs ls hP hD hS hl => ?_)
                        refine lv_iload hx hb dX6_heard_203 (lv_at hl 8 rfl) ?_
                        have h := Option.some.inj h
                        subst h
                        exact CT.iret Z hP hD hS dX6_heard_205
                      · rw [if_neg hc69] at h
                        refine lv_iconst (v := 0) hx hb dX6_heard_143 (by decide) ?_
                        refine lv_goto (tgt := 148) hx hb dX6_heard_144 (by decide) ?_
                        refine lv_istore (lv' := [(12, .int 0), (11, .int 0), (10, .int 30), (9, .int x6), (8, .int x1), (7, .int r11), (0, .ref (a 0)), (1, .int x1), (2, .int x2), (3, .int x3), (4, .int x4), (5, .int x5), (6, .int x6)]) hx hb dX6_heard_148 hl (by decide) rfl (fun ls hl => ?_)
                        obtain ⟨q71, hq71, h⟩ := bind_inv h
                        refine t_X6_heard_150 Z x1 x2 x4 x5 x1 x6 30 FU _ _ _ _ hq71 _ _ _ hP hD hS (lv_sub hl [6, 7, 8, 10, 11, 4, 3, 2, 1, 0] rfl) (fun H locs ls hP hD hS hl => ?_)
                        refine lv_iload hx hb dX6_heard_203 (lv_at hl 8 rfl) ?_
                        have h := Option.some.inj h
                        subst h
                        exact CT.iret Z hP hD hS dX6_heard_205
                  · rw [if_pos hc62] at h
                    refine lv_iconst (v := 4) hx hb dX6_heard_111 (by decide) ?_
                    refine lv_goto (tgt := 128) hx hb dX6_heard_112 (by decide) ?_
                    refine lv_istore (lv' := [(10, .int 4), (9, .int x6), (8, .int x1), (7, .int r11), (0, .ref (a 0)), (1, .int x1), (2, .int x2), (3, .int x3), (4, .int x4), (5, .int x5), (6, .int x6)]) hx hb dX6_heard_128 hl (by decide) rfl (fun ls hl => ?_)
                    refine lv_iconst (v := 0) hx hb dX6_heard_130 (by decide) ?_
                    refine lv_istore (lv' := [(11, .int 0), (10, .int 4), (9, .int x6), (8, .int x1), (7, .int r11), (0, .ref (a 0)), (1, .int x1), (2, .int x2), (3, .int x3), (4, .int x4), (5, .int x5), (6, .int x6)]) hx hb dX6_heard_131 hl (by decide) rfl (fun ls hl => ?_)
                    refine lv_aload_n hx hb dX6_heard_133 rfl (lv_at hl 5 rfl) ?_
                    obtain ⟨r72, hr72, h⟩ := bind_inv h
                    refine kV (rest := []) (st1 := []) (cr := []) (cs' := [w6 cA a r72]) Z (c_X6_asides l D cA a σ r72 hr72) 0 gX6_heard_X6_asides rfl hdX6_asides ⟨rfl, rfl⟩ ⟨Nat.le_of_ble_eq_true rfl, Nat.le_of_ble_eq_true rfl⟩ ⟨Nat.zero_le _, Nat.zero_le _⟩ hP hD hS hl.1 rfl rfl rfl (Nat.le_of_ble_eq_true rfl) 6 rfl rfl rfl [0] [] [0] rfl rfl rfl rfl rfl dX6_heard_134 (fun H locs hP hD hS => ?_)
                    refine lv_iload hx hb dX6_heard_137 (lv_at hl 11 rfl) ?_
                    refine lv_iconst (v := 2) hx hb dX6_heard_139 (by decide) ?_
                    refine lv_icmp_ge (tgt := 147) hx hb dX6_heard_140 (by decide) (fun hc73 => ?_) (fun hc73 => ?_)
                    · rw [if_pos hc73] at h
                      refine lv_iconst (v := 1) hx hb dX6_heard_147 (by decide) ?_
                      refine lv_istore (lv' := [(12, .int 1), (11, .int 0), (10, .int 4), (9, .int x6), (8, .int x1), (7, .int r11), (0, .ref (a 0)), (1, .int x1), (2, .int x2), (3, .int x3), (4, .int x4), (5, .int x5), (6, .int x6)]) hx hb dX6_heard_148 hl (by decide) rfl (fun ls hl => ?_)
                      obtain ⟨q74, hq74, h⟩ := bind_inv h
                      refine t_X6_heard_150 Z x1 x2 x4 x5 x1 x6 4 FU _ _ _ _ hq74 _ _ _ hP hD hS (lv_sub hl [6, 7, 8, 10, 11, 4, 3, 2, 1, 0] rfl) (fun H locs ls hP hD hS hl => ?_)
                      refine lv_iload hx hb dX6_heard_203 (lv_at hl 8 rfl) ?_
                      have h := Option.some.inj h
                      subst h
                      exact CT.iret Z hP hD hS dX6_heard_205
                    · rw [if_neg hc73] at h
                      refine lv_iconst (v := 0) hx hb dX6_heard_143 (by decide) ?_
                      refine lv_goto (tgt := 148) hx hb dX6_heard_144 (by decide) ?_
                      refine lv_istore (lv' := [(12, .int 0), (11, .int 0), (10, .int 4), (9, .int x6), (8, .int x1), (7, .int r11), (0, .ref (a 0)), (1, .int x1), (2, .int x2), (3, .int x3), (4, .int x4), (5, .int x5), (6, .int x6)]) hx hb dX6_heard_148 hl (by decide) rfl (fun ls hl => ?_)
                      obtain ⟨q75, hq75, h⟩ := bind_inv h
                      refine t_X6_heard_150 Z x1 x2 x4 x5 x1 x6 4 FU _ _ _ _ hq75 _ _ _ hP hD hS (lv_sub hl [6, 7, 8, 10, 11, 4, 3, 2, 1, 0] rfl) (fun H locs ls hP hD hS hl => ?_)
                      refine lv_iload hx hb dX6_heard_203 (lv_at hl 8 rfl) ?_
                      have h := Option.some.inj h
                      subst h
                      exact CT.iret Z hP hD hS dX6_heard_205
            · rw [if_neg hc12] at h
              refine lv_iload hx hb dX6_heard_73 (lv_at hl 0 rfl) ?_
              have h := Option.some.inj h
              subst h
              exact CT.iret Z hP hD hS dX6_heard_75
          · rw [if_pos hc10] at h
            refine lv_iconst (v := (-1)) hx hb dX6_heard_54 (by decide) ?_
            have h := Option.some.inj h
            subst h
            exact CT.iret Z hP hD hS dX6_heard_55

