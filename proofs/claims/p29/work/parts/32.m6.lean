-- X6.areThere
theorem lk_X6_areThere_19 : Cond.fieldLink RX6 19 "KeyedFeelingsModel" "read" "[I" ∈ wsX6_areThere := by decide +kernel
theorem in_X6_areThere_X6 : ∀ w ∈ wsX60, w ∈ wsX6_areThere := by decide +kernel
noncomputable def lp_X6_areThere_4 (σ : St6) (x1 : Int32) : Nat → Int32 → Int32 → Option (Int32 × Int32)
  | 0, _, _ => none
  | n + 1, x2, x3 => (if x1 ≤ x3 then some (x2, x3) else (if x2 = 0 then lp_X6_areThere_4 σ x1 n 0 (x3 + 1) else (if inB ((4 * x3) + 2) 24 = true then (if x1 ≤ ((p6_read σ) ((4 * x3) + 2).toNatClampNeg) then lp_X6_areThere_4 σ x1 n 0 (x3 + 1) else lp_X6_areThere_4 σ x1 n 1 (x3 + 1)) else none)))
noncomputable def f_X6_areThere (σ : St6) (x1 : Int32) : Option (Int32) := ((lp_X6_areThere_4 σ x1 FU 1 0).bind (fun q5 => (if q5.1 = 0 ∨ q5.1 = 1 then some q5.1 else none)))
noncomputable def rmX6_areThere : Room := { frames := 0, cells := 0, slots := 0, locals := 0 }
set_option maxHeartbeats 4000000 in
set_option maxRecDepth 100000 in
theorem t_X6_areThere_4 {p : Program} {l : Launch} {e : Env} {s : State} {m : MethodId} {args : Array Value} {below : List Frame} {meth : Method} {c : Code} {D : va_G} {cA : Nat → ClassId} {A0 : Nat → Prop} {H0 : Heap} {a : Nat → Nat} (Z : Cx p s m args meth c cX6_areThere 4 (some .boolean) wsX6_areThere RX6 D cA) (σ : St6) (x1 : Int32) {Q : State → Prop} : ∀ (n : Nat) (x2 : Int32) (x3 : Int32) (q : Int32 × Int32), lp_X6_areThere_4 σ x1 n x2 x3 = some q → ∀ (H : Heap) (locs : List Loc) (ls : Array Slot), va_P D vwCl ([w6 cA a σ] : List va_W).flatten H → va_D A0 ([w6 cA a σ] : List va_W).flatten → va_S A0 H0 H locs → lv_has ls 4 [(0, .ref (a 0)), (1, .int x1), (2, .int x2), (3, .int x3)] → (∀ (H : Heap) (locs : List Loc) (ls : Array Slot), va_P D vwCl ([w6 cA a σ] : List va_W).flatten H → va_D A0 ([w6 cA a σ] : List va_W).flatten → va_S A0 H0 H locs → lv_has ls 4 [(0, .ref (a 0)), (1, .int x1), (2, .int q.1), (3, .int q.2)] → W p l e rmX6_areThere s m args below meth c H locs 0 0 Q (F0 m 39 ls [])) → W p l e rmX6_areThere s m args below meth c H locs 0 0 Q (F0 m 4 ls []) := by
  obtain ⟨hx, hb, hml, hown, hts, hr, hlk, hKK⟩ := id Z
  have hK := hKK.1
  intro n
  induction n with
  | zero =>
    intro x2 x3 q h
    rw [lp_X6_areThere_4] at h
    cases h
  | succ n ih =>
    intro x2 x3 q h H locs ls hP hD hS hl kk
    rw [lp_X6_areThere_4] at h
    refine lv_iload_n hx hb dX6_areThere_4 rfl (lv_at hl 3 rfl) ?_
    refine lv_iload_n hx hb dX6_areThere_5 rfl (lv_at hl 1 rfl) ?_
    refine lv_icmp_ge (tgt := 39) hx hb dX6_areThere_6 (by decide) (fun hc1 => ?_) (fun hc1 => ?_)
    · rw [if_pos hc1] at h
      have h := Option.some.inj h
      subst h
      exact kk _ _ _ hP hD hS (lv_sub hl [0, 1, 2, 3] rfl)
    · rw [if_neg hc1] at h
      refine lv_iload_n hx hb dX6_areThere_9 rfl (lv_at hl 2 rfl) ?_
      refine lv_if_eq (tgt := 31) hx hb dX6_areThere_10 (by decide) (fun hc2 => ?_) (fun hc2 => ?_)
      · rw [if_pos hc2] at h
        refine lv_iconst (v := 0) hx hb dX6_areThere_31 (by decide) ?_
        refine lv_istore_n (lv' := [(2, .int 0), (0, .ref (a 0)), (1, .int x1), (3, .int x3)]) hx hb dX6_areThere_32 rfl hl (by decide) rfl (fun ls hl => ?_)
        refine lv_iinc (v := x3 + 1) (lv' := [(3, .int (x3 + 1)), (2, .int 0), (0, .ref (a 0)), (1, .int x1)]) hx hb dX6_areThere_33 hl (k := 3) rfl rfl (by decide) rfl (fun ls hl => ?_)
        refine lv_goto (tgt := 4) hx hb dX6_areThere_36 (by decide) ?_
        exact ih _ _ _ h _ _ _ hP hD hS (lv_sub hl [2, 3, 1, 0] rfl) kk
      · rw [if_neg hc2] at h
        refine lv_aload_n hx hb dX6_areThere_13 rfl (lv_at hl 0 rfl) ?_
        refine va_get (D := D) (ci := 6) (v := .ref (a 4)) (C := RX6) (T := TX6) (N := 19) hx hb hts in_X6_areThere_X6 hown hK hP 0 rfl rfl 6 (by decide) (hts _ lk_X6_areThere_19) (fun _ h9 => h9) rfl dX6_areThere_14 ?_
        refine lv_iconst (v := 4) hx hb dX6_areThere_17 (by decide) ?_
        refine lv_iload_n hx hb dX6_areThere_18 rfl (lv_at hl 3 rfl) ?_
        refine lv_imul hx hb dX6_areThere_19 ?_
        refine lv_iconst (v := 2) hx hb dX6_areThere_20 (by decide) ?_
        refine lv_iadd hx hb dX6_areThere_21 ?_
        obtain ⟨hg3, h⟩ := if_inv h
        refine va_iald hx hb hK hP 4 0 rfl rfl (inB_in hg3) dX6_areThere_22 ?_
        refine lv_iload_n hx hb dX6_areThere_23 rfl (lv_at hl 1 rfl) ?_
        refine lv_icmp_ge (tgt := 31) hx hb dX6_areThere_24 (by decide) (fun hc4 => ?_) (fun hc4 => ?_)
        · rw [if_pos hc4] at h
          refine lv_iconst (v := 0) hx hb dX6_areThere_31 (by decide) ?_
          refine lv_istore_n (lv' := [(2, .int 0), (0, .ref (a 0)), (1, .int x1), (3, .int x3)]) hx hb dX6_areThere_32 rfl hl (by decide) rfl (fun ls hl => ?_)
          refine lv_iinc (v := x3 + 1) (lv' := [(3, .int (x3 + 1)), (2, .int 0), (0, .ref (a 0)), (1, .int x1)]) hx hb dX6_areThere_33 hl (k := 3) rfl rfl (by decide) rfl (fun ls hl => ?_)
          refine lv_goto (tgt := 4) hx hb dX6_areThere_36 (by decide) ?_
          exact ih _ _ _ h _ _ _ hP hD hS (lv_sub hl [2, 3, 1, 0] rfl) kk
        · rw [if_neg hc4] at h
          refine lv_iconst (v := 1) hx hb dX6_areThere_27 (by decide) ?_
          refine lv_goto (tgt := 32) hx hb dX6_areThere_28 (by decide) ?_
          refine lv_istore_n (lv' := [(2, .int 1), (0, .ref (a 0)), (1, .int x1), (3, .int x3)]) hx hb dX6_areThere_32 rfl hl (by decide) rfl (fun ls hl => ?_)
          refine lv_iinc (v := x3 + 1) (lv' := [(3, .int (x3 + 1)), (2, .int 1), (0, .ref (a 0)), (1, .int x1)]) hx hb dX6_areThere_33 hl (k := 3) rfl rfl (by decide) rfl (fun ls hl => ?_)
          refine lv_goto (tgt := 4) hx hb dX6_areThere_36 (by decide) ?_
          exact ih _ _ _ h _ _ _ hP hD hS (lv_sub hl [2, 3, 1, 0] rfl) kk
set_option maxHeartbeats 4000000 in
set_option maxRecDepth 100000 in
theorem c_X6_areThere (l : Launch) (D : va_G) (cA : Nat → ClassId) (a : Nat → Nat) (σ : St6) (x1 : Int32) (res : Int32) (h : f_X6_areThere σ x1 = some res) : CT l D cA yX6_areThere wsX6_areThere rmX6_areThere [.ref (a 0), .int x1] [w6 cA a σ] [w6 cA a σ] (some (.int res)) := by
  refine CT.start (cc := cX6_areThere) (maxL := 4) (ret := (some .boolean)) (by decide) rfl (Nat.le_of_ble_eq_true rfl) ?_
  intro p e s m below meth c Z hP hD hS ls hl
  have Z : Cx p s m _ meth c cX6_areThere 4 (some .boolean) wsX6_areThere RX6 D cA := Z
  have hl : lv_has ls 4 [(0, .ref (a 0)), (1, .int x1)] := hl
  obtain ⟨hx, hb, hml, hown, hts, hr, hlk, hKK⟩ := id Z
  have hK := hKK.1
  rw [f_X6_areThere] at h
  refine lv_iconst (v := 1) hx hb dX6_areThere_0 (by decide) ?_
  refine lv_istore_n (lv' := [(2, .int 1), (0, .ref (a 0)), (1, .int x1)]) hx hb dX6_areThere_1 rfl hl (by decide) rfl (fun ls hl => ?_)
  refine lv_iconst (v := 0) hx hb dX6_areThere_2 (by decide) ?_
  refine lv_istore_n (lv' := [(3, .int 0), (2, .int 1), (0, .ref (a 0)), (1, .int x1)]) hx hb dX6_areThere_3 rfl hl (by decide) rfl (fun ls hl => ?_)
  obtain ⟨q5, hq5, h⟩ := bind_inv h
  refine t_X6_areThere_4 Z σ x1 FU _ _ _ hq5 _ _ _ hP hD hS (lv_sub hl [2, 3, 1, 0] rfl) (fun H locs ls hP hD hS hl => ?_)
  refine lv_iload_n hx hb dX6_areThere_39 rfl (lv_at hl 2 rfl) ?_
  obtain ⟨hg6, h⟩ := if_inv h
  have h := Option.some.inj h
  subst h
  exact CT.zret Z (nar_bool hg6) hP hD hS dX6_areThere_40

-- X6.close
theorem lk_X6_close_130 : Cond.fieldLink RX6 130 "KeyedFeelingsModel" "place" "I" ∈ wsX6_close := by decide +kernel
theorem in_X6_close_X6 : ∀ w ∈ wsX60, w ∈ wsX6_close := by decide +kernel
theorem lk_X6_close_133 : Cond.fieldLink RX6 133 "KeyedFeelingsModel" "isFault" "Z" ∈ wsX6_close := by decide +kernel
theorem lk_X6_close_127 : Cond.fieldLink RX6 127 "KeyedFeelingsModel" "typed" "I" ∈ wsX6_close := by decide +kernel
theorem lk_X6_close_7 : Cond.fieldLink RX6 7 "KeyedFeelingsModel" "now" "[I" ∈ wsX6_close := by decide +kernel
theorem lk_X6_close_19 : Cond.fieldLink RX6 19 "KeyedFeelingsModel" "read" "[I" ∈ wsX6_close := by decide +kernel
noncomputable def lp_X6_close_102 (x1 : Int32) : Nat → Int32 → St6 → Option (Int32 × St6)
  | 0, _, _ => none
  | n + 1, x2, σ => (if x1 ≤ x2 then some (x2, σ) else (if inB (4 * x2) 24 = true then (if inB ((4 * x2) + 1) 24 = true then (if inB ((4 * x2) + 2) 24 = true then (if inB ((4 * x2) + 3) 24 = true then ((f_X6_personComes σ ((p6_read σ) (4 * x2).toNatClampNeg) ((p6_read σ) ((4 * x2) + 1).toNatClampNeg) ((p6_read σ) ((4 * x2) + 2).toNatClampNeg) ((p6_read σ) ((4 * x2) + 3).toNatClampNeg)).bind (fun r16 => lp_X6_close_102 x1 n (x2 + 1) r16)) else none) else none) else none) else none))
noncomputable def f_X6_close (σ : St6) : Option (Int32 × St6) := ((f_X6_peopleRead (s6_isFault (s6_place σ 0) 0)).bind (fun r1 => (if (p6_isFault r1.2) = 0 then ((f_X6_here r1.2).bind (fun r5 => (if r5.1 = 0 then ((f_X6_areThere (s6_isFault r5.2 0) r1.1).bind (fun r8 => (if r8 = 0 then some ((-20) - (p6_typed r5.2), (s6_isFault (s6_place (s6_typed r5.2 0) (p6_typed r5.2)) 1)) else ((lp_X6_close_102 r1.1 FU 0 (s6_isFault (s6_typed (s6_now r5.2 (upd (upd (p6_now r5.2) ((0 : Int32).toNatClampNeg) 0) ((1 : Int32).toNatClampNeg) 0)) 0) 0)).bind (fun q17 => some (r1.1, q17.2)))))) else some ((-20) - (p6_place r5.2), (s6_isFault (s6_typed r5.2 0) 1))))) else some ((-20) - (p6_place r1.2), (s6_isFault (s6_typed r1.2 0) 1)))))
noncomputable def rmX6_close : Room := { frames := 3, cells := 0, slots := 0, locals := 76 }
set_option maxHeartbeats 4000000 in
set_option maxRecDepth 100000 in
theorem t_X6_close_102 {p : Program} {l : Launch} {e : Env} {s : State} {m : MethodId} {args : Array Value} {below : List Frame} {meth : Method} {c : Code} {D : va_G} {cA : Nat → ClassId} {A0 : Nat → Prop} {H0 : Heap} {a : Nat → Nat} (Z : Cx p s m args meth c cX6_close 3 (some .int) wsX6_close RX6 D cA) (x1 : Int32) {Q : State → Prop} : ∀ (n : Nat) (x2 : Int32) (σ : St6) (q : Int32 × St6), lp_X6_close_102 x1 n x2 σ = some q → ∀ (H : Heap) (locs : List Loc) (ls : Array Slot), va_P D vwCl ([w6 cA a σ] : List va_W).flatten H → va_D A0 ([w6 cA a σ] : List va_W).flatten → va_S A0 H0 H locs → lv_has ls 3 [(0, .ref (a 0)), (1, .int x1), (2, .int x2)] → (∀ (H : Heap) (locs : List Loc) (ls : Array Slot), va_P D vwCl ([w6 cA a q.2] : List va_W).flatten H → va_D A0 ([w6 cA a q.2] : List va_W).flatten → va_S A0 H0 H locs → lv_has ls 3 [(0, .ref (a 0)), (1, .int x1), (2, .int q.1)] → W p l e rmX6_close s m args below meth c H locs 0 0 Q (F0 m 155 ls [])) → W p l e rmX6_close s m args below meth c H locs 0 0 Q (F0 m 102 ls []) := by
  obtain ⟨hx, hb, hml, hown, hts, hr, hlk, hKK⟩ := id Z
  have hK := hKK.1
  intro n
  induction n with
  | zero =>
    intro x2 σ q h
    rw [lp_X6_close_102] at h
    cases h
  | succ n ih =>
    intro x2 σ q h H locs ls hP hD hS hl kk
    rw [lp_X6_close_102] at h
    refine lv_iload_n hx hb dX6_close_102 rfl (lv_at hl 2 rfl) ?_
    refine lv_iload_n hx hb dX6_close_103 rfl (lv_at hl 1 rfl) ?_
    refine lv_icmp_ge (tgt := 155) hx hb dX6_close_104 (by decide) (fun hc11 => ?_) (fun hc11 => ?_)
    · rw [if_pos hc11] at h
      have h := Option.some.inj h
      subst h
      exact kk _ _ _ hP hD hS (lv_sub hl [0, 1, 2] rfl)
    · rw [if_neg hc11] at h
      refine lv_aload_n hx hb dX6_close_107 rfl (lv_at hl 0 rfl) ?_
      refine lv_aload_n hx hb dX6_close_108 rfl (lv_at hl 0 rfl) ?_
      refine va_get (D := D) (ci := 6) (v := .ref (a 4)) (C := RX6) (T := TX6) (N := 19) hx hb hts in_X6_close_X6 hown hK hP 0 rfl rfl 6 (by decide) (hts _ lk_X6_close_19) (fun _ h9 => h9) rfl dX6_close_109 ?_
      refine lv_iconst (v := 4) hx hb dX6_close_112 (by decide) ?_
      refine lv_iload_n hx hb dX6_close_113 rfl (lv_at hl 2 rfl) ?_
      refine lv_imul hx hb dX6_close_114 ?_
      obtain ⟨hg12, h⟩ := if_inv h
      refine va_iald hx hb hK hP 4 0 rfl rfl (inB_in hg12) dX6_close_115 ?_
      refine lv_aload_n hx hb dX6_close_116 rfl (lv_at hl 0 rfl) ?_
      refine va_get (D := D) (ci := 6) (v := .ref (a 4)) (C := RX6) (T := TX6) (N := 19) hx hb hts in_X6_close_X6 hown hK hP 0 rfl rfl 6 (by decide) (hts _ lk_X6_close_19) (fun _ h9 => h9) rfl dX6_close_117 ?_
      refine lv_iconst (v := 4) hx hb dX6_close_120 (by decide) ?_
      refine lv_iload_n hx hb dX6_close_121 rfl (lv_at hl 2 rfl) ?_
      refine lv_imul hx hb dX6_close_122 ?_
      refine lv_iconst (v := 1) hx hb dX6_close_123 (by decide) ?_
      refine lv_iadd hx hb dX6_close_124 ?_
      obtain ⟨hg13, h⟩ := if_inv h
      refine va_iald hx hb hK hP 4 0 rfl rfl (inB_in hg13) dX6_close_125 ?_
      refine lv_aload_n hx hb dX6_close_126 rfl (lv_at hl 0 rfl) ?_
      refine va_get (D := D) (ci := 6) (v := .ref (a 4)) (C := RX6) (T := TX6) (N := 19) hx hb hts in_X6_close_X6 hown hK hP 0 rfl rfl 6 (by decide) (hts _ lk_X6_close_19) (fun _ h9 => h9) rfl dX6_close_127 ?_
      refine lv_iconst (v := 4) hx hb dX6_close_130 (by decide) ?_
      refine lv_iload_n hx hb dX6_close_131 rfl (lv_at hl 2 rfl) ?_
      refine lv_imul hx hb dX6_close_132 ?_
      refine lv_iconst (v := 2) hx hb dX6_close_133 (by decide) ?_
      refine lv_iadd hx hb dX6_close_134 ?_
      obtain ⟨hg14, h⟩ := if_inv h
      refine va_iald hx hb hK hP 4 0 rfl rfl (inB_in hg14) dX6_close_135 ?_
      refine lv_aload_n hx hb dX6_close_136 rfl (lv_at hl 0 rfl) ?_
      refine va_get (D := D) (ci := 6) (v := .ref (a 4)) (C := RX6) (T := TX6) (N := 19) hx hb hts in_X6_close_X6 hown hK hP 0 rfl rfl 6 (by decide) (hts _ lk_X6_close_19) (fun _ h9 => h9) rfl dX6_close_137 ?_
      refine lv_iconst (v := 4) hx hb dX6_close_140 (by decide) ?_
      refine lv_iload_n hx hb dX6_close_141 rfl (lv_at hl 2 rfl) ?_
      refine lv_imul hx hb dX6_close_142 ?_
      refine lv_iconst (v := 3) hx hb dX6_close_143 (by decide) ?_
      refine lv_iadd hx hb dX6_close_144 ?_
      obtain ⟨hg15, h⟩ := if_inv h
      refine va_iald hx hb hK hP 4 0 rfl rfl (inB_in hg15) dX6_close_145 ?_
      obtain ⟨r16, hr16, h⟩ := bind_inv h
      refine kV (rest := []) (st1 := []) (cr := []) (cs' := [w6 cA a r16]) Z (c_X6_personComes l D cA a σ ((p6_read σ) (4 * x2).toNatClampNeg) ((p6_read σ) ((4 * x2) + 1).toNatClampNeg) ((p6_read σ) ((4 * x2) + 2).toNatClampNeg) ((p6_read σ) ((4 * x2) + 3).toNatClampNeg) r16 hr16) 4 gX6_close_X6_personComes rfl hdX6_personComes ⟨rfl, rfl⟩ ⟨Nat.le_of_ble_eq_true rfl, Nat.le_of_ble_eq_true rfl⟩ ⟨Nat.zero_le _, Nat.zero_le _⟩ hP hD hS hl.1 rfl rfl rfl (Nat.le_of_ble_eq_true rfl) 6 rfl rfl rfl [0] [] [0] rfl rfl rfl rfl rfl dX6_close_146 (fun H locs hP hD hS => ?_)
      refine lv_iinc (v := x2 + 1) (lv' := [(2, .int (x2 + 1)), (0, .ref (a 0)), (1, .int x1)]) hx hb dX6_close_149 hl (k := 2) rfl rfl (by decide) rfl (fun ls hl => ?_)
      refine lv_goto (tgt := 102) hx hb dX6_close_152 (by decide) ?_
      exact ih _ _ _ h _ _ _ hP hD hS (lv_sub hl [1, 2, 0] rfl) kk
set_option maxHeartbeats 4000000 in
set_option maxRecDepth 100000 in
theorem c_X6_close (l : Launch) (D : va_G) (cA : Nat → ClassId) (a : Nat → Nat) (σ : St6) (res : Int32 × St6) (h : f_X6_close σ = some res) : CT l D cA yX6_close wsX6_close rmX6_close [.ref (a 0)] [w6 cA a σ] [w6 cA a res.2] (some (.int res.1)) := by
  refine CT.start (cc := cX6_close) (maxL := 3) (ret := (some .int)) (by decide) rfl (Nat.le_of_ble_eq_true rfl) ?_
  intro p e s m below meth c Z hP hD hS ls hl
  have Z : Cx p s m _ meth c cX6_close 3 (some .int) wsX6_close RX6 D cA := Z
  have hl : lv_has ls 3 [(0, .ref (a 0))] := hl
  obtain ⟨hx, hb, hml, hown, hts, hr, hlk, hKK⟩ := id Z
  have hK := hKK.1
  rw [f_X6_close] at h
  refine lv_aload_n hx hb dX6_close_0 rfl (lv_at hl 0 rfl) ?_
  refine lv_iconst (v := 0) hx hb dX6_close_1 (by decide) ?_
  refine va_put (D := D) (ci := 6) (v := .int 0) (ty := .int) (C := RX6) (T := TX6) (N := 19) hx hb hts in_X6_close_X6 tyX6 tyX6_ok nmX6 hown hK hP hD hS 0 rfl rfl 4 (by decide) (hts _ lk_X6_close_130) (fun _ h9 => h9) rfl (tyX6_ok 4 (by decide)) rfl rfl (Nat.le_of_ble_eq_true rfl) dX6_close_2 (fun H locs hP hD hS => ?_)
  have hP : va_P D vwCl ([w6 cA a (s6_place σ 0)] : List va_W).flatten H := hP
  have hD : va_D _ ([w6 cA a (s6_place σ 0)] : List va_W).flatten := hD
  refine lv_aload_n hx hb dX6_close_5 rfl (lv_at hl 0 rfl) ?_
  refine lv_iconst (v := 0) hx hb dX6_close_6 (by decide) ?_
  refine va_put (D := D) (ci := 6) (v := .int 0) (ty := .boolean) (C := RX6) (T := TX6) (N := 19) hx hb hts in_X6_close_X6 tyX6 tyX6_ok nmX6 hown hK hP hD hS 0 rfl rfl 5 (by decide) (hts _ lk_X6_close_133) (fun _ h9 => h9) rfl (tyX6_ok 5 (by decide)) (nar_bool (by decide)) (fit_bool (by decide)) (Nat.le_of_ble_eq_true rfl) dX6_close_7 (fun H locs hP hD hS => ?_)
  have hP : va_P D vwCl ([w6 cA a (s6_isFault (s6_place σ 0) 0)] : List va_W).flatten H := hP
  have hD : va_D _ ([w6 cA a (s6_isFault (s6_place σ 0) 0)] : List va_W).flatten := hD
  refine lv_aload_n hx hb dX6_close_10 rfl (lv_at hl 0 rfl) ?_
  obtain ⟨r1, hr1, h⟩ := bind_inv h
  refine kV (rest := []) (st1 := [.int r1.1]) (cr := []) (cs' := [w6 cA a r1.2]) Z (c_X6_peopleRead l D cA a (s6_isFault (s6_place σ 0) 0) r1 hr1) 0 gX6_close_X6_peopleRead rfl hdX6_peopleRead ⟨rfl, rfl⟩ ⟨Nat.le_of_ble_eq_true rfl, Nat.le_of_ble_eq_true rfl⟩ ⟨Nat.zero_le _, Nat.zero_le _⟩ hP hD hS hl.1 rfl rfl rfl (Nat.le_of_ble_eq_true rfl) 6 rfl rfl rfl [0] [] [0] rfl rfl rfl rfl rfl dX6_close_11 (fun H locs hP hD hS => ?_)
  refine lv_istore_n (lv' := [(1, .int r1.1), (0, .ref (a 0))]) hx hb dX6_close_14 rfl hl (by decide) rfl (fun ls hl => ?_)
  refine lv_aload_n hx hb dX6_close_15 rfl (lv_at hl 1 rfl) ?_
  refine lv_aload_n hx hb dX6_close_16 rfl (lv_at hl 1 rfl) ?_
  refine va_get (D := D) (ci := 6) (v := .int (p6_isFault r1.2)) (C := RX6) (T := TX6) (N := 19) hx hb hts in_X6_close_X6 hown hK hP 0 rfl rfl 5 (by decide) (hts _ lk_X6_close_133) (fun _ h9 => h9) rfl dX6_close_17 ?_
  refine lv_if_ne (tgt := 30) hx hb dX6_close_20 (by decide) (fun hc2 => ?_) (fun hc2 => ?_)
  · rw [if_neg hc2] at h
    refine lv_iconst (v := 1) hx hb dX6_close_30 (by decide) ?_
    refine lv_goto (tgt := 35) hx hb dX6_close_31 (by decide) ?_
    refine va_put (D := D) (ci := 6) (v := .int 1) (ty := .boolean) (C := RX6) (T := TX6) (N := 19) hx hb hts in_X6_close_X6 tyX6 tyX6_ok nmX6 hown hK hP hD hS 0 rfl rfl 5 (by decide) (hts _ lk_X6_close_133) (fun _ h9 => h9) rfl (tyX6_ok 5 (by decide)) (nar_bool (by decide)) (fit_bool (by decide)) (Nat.le_of_ble_eq_true rfl) dX6_close_35 (fun H locs hP hD hS => ?_)
    have hP : va_P D vwCl ([w6 cA a (s6_isFault r1.2 1)] : List va_W).flatten H := hP
    have hD : va_D _ ([w6 cA a (s6_isFault r1.2 1)] : List va_W).flatten := hD
    refine lv_aload_n hx hb dX6_close_38 rfl (lv_at hl 1 rfl) ?_
    refine va_get (D := D) (ci := 6) (v := .int 1) (C := RX6) (T := TX6) (N := 19) hx hb hts in_X6_close_X6 hown hK hP 0 rfl rfl 5 (by decide) (hts _ lk_X6_close_133) (fun _ h9 => h9) rfl dX6_close_39 ?_
    refine lv_if_ne (tgt := 66) hx hb dX6_close_42 (by decide) (fun hc3 => ?_) (fun hc3 => ?_)
    · refine lv_aload_n hx hb dX6_close_66 rfl (lv_at hl 1 rfl) ?_
      refine lv_iconst (v := 0) hx hb dX6_close_67 (by decide) ?_
      refine va_put (D := D) (ci := 6) (v := .int 0) (ty := .int) (C := RX6) (T := TX6) (N := 19) hx hb hts in_X6_close_X6 tyX6 tyX6_ok nmX6 hown hK hP hD hS 0 rfl rfl 3 (by decide) (hts _ lk_X6_close_127) (fun _ h9 => h9) rfl (tyX6_ok 3 (by decide)) rfl rfl (Nat.le_of_ble_eq_true rfl) dX6_close_68 (fun H locs hP hD hS => ?_)
      have hP : va_P D vwCl ([w6 cA a (s6_isFault (s6_typed r1.2 0) 1)] : List va_W).flatten H := hP
      have hD : va_D _ ([w6 cA a (s6_isFault (s6_typed r1.2 0) 1)] : List va_W).flatten := hD
      refine lv_aload_n hx hb dX6_close_71 rfl (lv_at hl 1 rfl) ?_
      refine va_get (D := D) (ci := 6) (v := .int 1) (C := RX6) (T := TX6) (N := 19) hx hb hts in_X6_close_X6 hown hK hP 0 rfl rfl 5 (by decide) (hts _ lk_X6_close_133) (fun _ h9 => h9) rfl dX6_close_72 ?_
      refine lv_if_eq (tgt := 86) hx hb dX6_close_75 (by decide) (fun hc4 => ?_) (fun hc4 => ?_)
      · exact absurd hc4 (by decide)
      · refine lv_bipush (v := (-20)) hx hb dX6_close_78 (by decide) ?_
        refine lv_aload_n hx hb dX6_close_80 rfl (lv_at hl 1 rfl) ?_
        refine va_get (D := D) (ci := 6) (v := .int (p6_place r1.2)) (C := RX6) (T := TX6) (N := 19) hx hb hts in_X6_close_X6 hown hK hP 0 rfl rfl 4 (by decide) (hts _ lk_X6_close_130) (fun _ h9 => h9) rfl dX6_close_81 ?_
        refine lv_isub hx hb dX6_close_84 ?_
        have h := Option.some.inj h
        subst h
        exact CT.iret Z hP hD hS dX6_close_85
    · exact absurd hc3 (by decide)
  · rw [if_pos hc2] at h
    refine lv_aload_n hx hb dX6_close_23 rfl (lv_at hl 1 rfl) ?_
    obtain ⟨r5, hr5, h⟩ := bind_inv h
    refine kV (rest := [.ref (a 0)]) (st1 := [.int r5.1, .ref (a 0)]) (cr := []) (cs' := [w6 cA a r5.2]) Z (c_X6_here l D cA a r1.2 r5 hr5) 0 gX6_close_X6_here rfl hdX6_here ⟨rfl, rfl⟩ ⟨Nat.le_of_ble_eq_true rfl, Nat.le_of_ble_eq_true rfl⟩ ⟨Nat.zero_le _, Nat.zero_le _⟩ hP hD hS hl.1 rfl rfl rfl (Nat.le_of_ble_eq_true rfl) 6 rfl rfl rfl [0] [] [0] rfl rfl rfl rfl rfl dX6_close_24 (fun H locs hP hD hS => ?_)
    refine lv_if_eq (tgt := 34) hx hb dX6_close_27 (by decide) (fun hc6 => ?_) (fun hc6 => ?_)
    · rw [if_pos hc6] at h
      refine lv_iconst (v := 0) hx hb dX6_close_34 (by decide) ?_
      refine va_put (D := D) (ci := 6) (v := .int 0) (ty := .boolean) (C := RX6) (T := TX6) (N := 19) hx hb hts in_X6_close_X6 tyX6 tyX6_ok nmX6 hown hK hP hD hS 0 rfl rfl 5 (by decide) (hts _ lk_X6_close_133) (fun _ h9 => h9) rfl (tyX6_ok 5 (by decide)) (nar_bool (by decide)) (fit_bool (by decide)) (Nat.le_of_ble_eq_true rfl) dX6_close_35 (fun H locs hP hD hS => ?_)
      have hP : va_P D vwCl ([w6 cA a (s6_isFault r5.2 0)] : List va_W).flatten H := hP
      have hD : va_D _ ([w6 cA a (s6_isFault r5.2 0)] : List va_W).flatten := hD
      refine lv_aload_n hx hb dX6_close_38 rfl (lv_at hl 1 rfl) ?_
      refine va_get (D := D) (ci := 6) (v := .int 0) (C := RX6) (T := TX6) (N := 19) hx hb hts in_X6_close_X6 hown hK hP 0 rfl rfl 5 (by decide) (hts _ lk_X6_close_133) (fun _ h9 => h9) rfl dX6_close_39 ?_
      refine lv_if_ne (tgt := 66) hx hb dX6_close_42 (by decide) (fun hc7 => ?_) (fun hc7 => ?_)
      · exact absurd hc7 (by decide)
      · refine lv_aload_n hx hb dX6_close_45 rfl (lv_at hl 1 rfl) ?_
        refine lv_iload_n hx hb dX6_close_46 rfl (lv_at hl 0 rfl) ?_
        obtain ⟨r8, hr8, h⟩ := bind_inv h
        refine kV (rest := []) (st1 := [.int r8]) (cr := []) (cs' := [w6 cA a (s6_isFault r5.2 0)]) Z (c_X6_areThere l D cA a (s6_isFault r5.2 0) r1.1 r8 hr8) 1 gX6_close_X6_areThere rfl hdX6_areThere ⟨rfl, rfl⟩ ⟨Nat.le_of_ble_eq_true rfl, Nat.le_of_ble_eq_true rfl⟩ ⟨Nat.zero_le _, Nat.zero_le _⟩ hP hD hS hl.1 rfl rfl rfl (Nat.le_of_ble_eq_true rfl) 6 rfl rfl rfl [0] [] [0] rfl rfl rfl rfl rfl dX6_close_47 (fun H locs hP hD hS => ?_)
        refine lv_if_ne (tgt := 66) hx hb dX6_close_50 (by decide) (fun hc9 => ?_) (fun hc9 => ?_)
        · rw [if_neg hc9] at h
          refine lv_aload_n hx hb dX6_close_66 rfl (lv_at hl 1 rfl) ?_
          refine lv_iconst (v := 0) hx hb dX6_close_67 (by decide) ?_
          refine va_put (D := D) (ci := 6) (v := .int 0) (ty := .int) (C := RX6) (T := TX6) (N := 19) hx hb hts in_X6_close_X6 tyX6 tyX6_ok nmX6 hown hK hP hD hS 0 rfl rfl 3 (by decide) (hts _ lk_X6_close_127) (fun _ h9 => h9) rfl (tyX6_ok 3 (by decide)) rfl rfl (Nat.le_of_ble_eq_true rfl) dX6_close_68 (fun H locs hP hD hS => ?_)
          have hP : va_P D vwCl ([w6 cA a (s6_isFault (s6_typed r5.2 0) 0)] : List va_W).flatten H := hP
          have hD : va_D _ ([w6 cA a (s6_isFault (s6_typed r5.2 0) 0)] : List va_W).flatten := hD
          refine lv_aload_n hx hb dX6_close_71 rfl (lv_at hl 1 rfl) ?_
          refine va_get (D := D) (ci := 6) (v := .int 0) (C := RX6) (T := TX6) (N := 19) hx hb hts in_X6_close_X6 hown hK hP 0 rfl rfl 5 (by decide) (hts _ lk_X6_close_133) (fun _ h9 => h9) rfl dX6_close_72 ?_
          refine lv_if_eq (tgt := 86) hx hb dX6_close_75 (by decide) (fun hc10 => ?_) (fun hc10 => ?_)
          · refine lv_aload_n hx hb dX6_close_86 rfl (lv_at hl 1 rfl) ?_
            refine va_get (D := D) (ci := 6) (v := .ref (a 1)) (C := RX6) (T := TX6) (N := 19) hx hb hts in_X6_close_X6 hown hK hP 0 rfl rfl 0 (by decide) (hts _ lk_X6_close_7) (fun _ h9 => h9) rfl dX6_close_87 ?_
            refine lv_iconst (v := 0) hx hb dX6_close_90 (by decide) ?_
            refine lv_iconst (v := 0) hx hb dX6_close_91 (by decide) ?_
            refine va_iast hx hb hK hP hD hS 1 0 rfl rfl (inB_in (by decide)) dX6_close_92 (fun H locs hP hD hS => ?_)
            have hP : va_P D vwCl ([w6 cA a (s6_isFault (s6_typed (s6_now r5.2 (upd (p6_now r5.2) ((0 : Int32).toNatClampNeg) 0)) 0) 0)] : List va_W).flatten H := hP
            have hD : va_D _ ([w6 cA a (s6_isFault (s6_typed (s6_now r5.2 (upd (p6_now r5.2) ((0 : Int32).toNatClampNeg) 0)) 0) 0)] : List va_W).flatten := hD
            refine lv_aload_n hx hb dX6_close_93 rfl (lv_at hl 1 rfl) ?_
            refine va_get (D := D) (ci := 6) (v := .ref (a 1)) (C := RX6) (T := TX6) (N := 19) hx hb hts in_X6_close_X6 hown hK hP 0 rfl rfl 0 (by decide) (hts _ lk_X6_close_7) (fun _ h9 => h9) rfl dX6_close_94 ?_
            refine lv_iconst (v := 1) hx hb dX6_close_97 (by decide) ?_
            refine lv_iconst (v := 0) hx hb dX6_close_98 (by decide) ?_
            refine va_iast hx hb hK hP hD hS 1 0 rfl rfl (inB_in (by decide)) dX6_close_99 (fun H locs hP hD hS => ?_)
            have hP : va_P D vwCl ([w6 cA a (s6_isFault (s6_typed (s6_now r5.2 (upd (upd (p6_now r5.2) ((0 : Int32).toNatClampNeg) 0) ((1 : Int32).toNatClampNeg) 0)) 0) 0)] : List va_W).flatten H := hP
            have hD : va_D _ ([w6 cA a (s6_isFault (s6_typed (s6_now r5.2 (upd (upd (p6_now r5.2) ((0 : Int32).toNatClampNeg) 0) ((1 : Int32).toNatClampNeg) 0)) 0) 0)] : List va_W).flatten := hD
            refine lv_iconst (v := 0) hx hb dX6_close_100 (by decide) ?_
            refine lv_istore_n (lv' := [(2, .int 0), (1, .int r1.1), (0, .ref (a 0))]) hx hb dX6_close_101 rfl hl (by decide) rfl (fun ls hl => ?_)
            obtain ⟨q17, hq17, h⟩ := bind_inv h
            refine t_X6_close_102 Z r1.1 FU _ _ _ hq17 _ _ _ hP hD hS (lv_sub hl [2, 1, 0] rfl) (fun H locs ls hP hD hS hl => ?_)
            refine lv_iload_n hx hb dX6_close_155 rfl (lv_at hl 1 rfl) ?_
            have h := Option.some.inj h
            subst h
            exact CT.iret Z hP hD hS dX6_close_156
          · exact absurd hc10 (by decide)
        · rw [if_pos hc9] at h
          refine lv_aload_n hx hb dX6_close_53 rfl (lv_at hl 1 rfl) ?_
          refine lv_iconst (v := 1) hx hb dX6_close_54 (by decide) ?_
          refine va_put (D := D) (ci := 6) (v := .int 1) (ty := .boolean) (C := RX6) (T := TX6) (N := 19) hx hb hts in_X6_close_X6 tyX6 tyX6_ok nmX6 hown hK hP hD hS 0 rfl rfl 5 (by decide) (hts _ lk_X6_close_133) (fun _ h9 => h9) rfl (tyX6_ok 5 (by decide)) (nar_bool (by decide)) (fit_bool (by decide)) (Nat.le_of_ble_eq_true rfl) dX6_close_55 (fun H locs hP hD hS => ?_)
          have hP : va_P D vwCl ([w6 cA a (s6_isFault r5.2 1)] : List va_W).flatten H := hP
          have hD : va_D _ ([w6 cA a (s6_isFault r5.2 1)] : List va_W).flatten := hD
          refine lv_aload_n hx hb dX6_close_58 rfl (lv_at hl 1 rfl) ?_
          refine lv_aload_n hx hb dX6_close_59 rfl (lv_at hl 1 rfl) ?_
          refine va_get (D := D) (ci := 6) (v := .int (p6_typed r5.2)) (C := RX6) (T := TX6) (N := 19) hx hb hts in_X6_close_X6 hown hK hP 0 rfl rfl 3 (by decide) (hts _ lk_X6_close_127) (fun _ h9 => h9) rfl dX6_close_60 ?_
          refine va_put (D := D) (ci := 6) (v := .int (p6_typed r5.2)) (ty := .int) (C := RX6) (T := TX6) (N := 19) hx hb hts in_X6_close_X6 tyX6 tyX6_ok nmX6 hown hK hP hD hS 0 rfl rfl 4 (by decide) (hts _ lk_X6_close_130) (fun _ h9 => h9) rfl (tyX6_ok 4 (by decide)) rfl rfl (Nat.le_of_ble_eq_true rfl) dX6_close_63 (fun H locs hP hD hS => ?_)
          have hP : va_P D vwCl ([w6 cA a (s6_isFault (s6_place r5.2 (p6_typed r5.2)) 1)] : List va_W).flatten H := hP
          have hD : va_D _ ([w6 cA a (s6_isFault (s6_place r5.2 (p6_typed r5.2)) 1)] : List va_W).flatten := hD
          refine lv_aload_n hx hb dX6_close_66 rfl (lv_at hl 1 rfl) ?_
          refine lv_iconst (v := 0) hx hb dX6_close_67 (by decide) ?_
          refine va_put (D := D) (ci := 6) (v := .int 0) (ty := .int) (C := RX6) (T := TX6) (N := 19) hx hb hts in_X6_close_X6 tyX6 tyX6_ok nmX6 hown hK hP hD hS 0 rfl rfl 3 (by decide) (hts _ lk_X6_close_127) (fun _ h9 => h9) rfl (tyX6_ok 3 (by decide)) rfl rfl (Nat.le_of_ble_eq_true rfl) dX6_close_68 (fun H locs hP hD hS => ?_)
          have hP : va_P D vwCl ([w6 cA a (s6_isFault (s6_place (s6_typed r5.2 0) (p6_typed r5.2)) 1)] : List va_W).flatten H := hP
          have hD : va_D _ ([w6 cA a (s6_isFault (s6_place (s6_typed r5.2 0) (p6_typed r5.2)) 1)] : List va_W).flatten := hD
          refine lv_aload_n hx hb dX6_close_71 rfl (lv_at hl 1 rfl) ?_
          refine va_get (D := D) (ci := 6) (v := .int 1) (C := RX6) (T := TX6) (N := 19) hx hb hts in_X6_close_X6 hown hK hP 0 rfl rfl 5 (by decide) (hts _ lk_X6_close_133) (fun _ h9 => h9) rfl dX6_close_72 ?_
          refine lv_if_eq (tgt := 86) hx hb dX6_close_75 (by decide) (fun hc18 => ?_) (fun hc18 => ?_)
          · exact absurd hc18 (by decide)
          · refine lv_bipush (v := (-20)) hx hb dX6_close_78 (by decide) ?_
            refine lv_aload_n hx hb dX6_close_80 rfl (lv_at hl 1 rfl) ?_
            refine va_get (D := D) (ci := 6) (v := .int (p6_typed r5.2)) (C := RX6) (T := TX6) (N := 19) hx hb hts in_X6_close_X6 hown hK hP 0 rfl rfl 4 (by decide) (hts _ lk_X6_close_130) (fun _ h9 => h9) rfl dX6_close_81 ?_
            refine lv_isub hx hb dX6_close_84 ?_
            have h := Option.some.inj h
            subst h
            exact CT.iret Z hP hD hS dX6_close_85
    · rw [if_neg hc6] at h
      refine lv_iconst (v := 1) hx hb dX6_close_30 (by decide) ?_
      refine lv_goto (tgt := 35) hx hb dX6_close_31 (by decide) ?_
      refine va_put (D := D) (ci := 6) (v := .int 1) (ty := .boolean) (C := RX6) (T := TX6) (N := 19) hx hb hts in_X6_close_X6 tyX6 tyX6_ok nmX6 hown hK hP hD hS 0 rfl rfl 5 (by decide) (hts _ lk_X6_close_133) (fun _ h9 => h9) rfl (tyX6_ok 5 (by decide)) (nar_bool (by decide)) (fit_bool (by decide)) (Nat.le_of_ble_eq_true rfl) dX6_close_35 (fun H locs hP hD hS => ?_)
      have hP : va_P D vwCl ([w6 cA a (s6_isFault r5.2 1)] : List va_W).flatten H := hP
      have hD : va_D _ ([w6 cA a (s6_isFault r5.2 1)] : List va_W).flatten := hD
      refine lv_aload_n hx hb dX6_close_38 rfl (lv_at hl 1 rfl) ?_
      refine va_get (D := D) (ci := 6) (v := .int 1) (C := RX6) (T := TX6) (N := 19) hx hb hts in_X6_close_X6 hown hK hP 0 rfl rfl 5 (by decide) (hts _ lk_X6_close_133) (fun _ h9 => h9) rfl dX6_close_39 ?_
      refine lv_if_ne (tgt := 66) hx hb dX6_close_42 (by decide) (fun hc19 => ?_) (fun hc19 => ?_)
      · refine lv_aload_n hx hb dX6_close_66 rfl (lv_at hl 1 rfl) ?_
        refine lv_iconst (v := 0) hx hb dX6_close_67 (by decide) ?_
        refine va_put (D := D) (ci := 6) (v := .int 0) (ty := .int) (C := RX6) (T := TX6) (N := 19) hx hb hts in_X6_close_X6 tyX6 tyX6_ok nmX6 hown hK hP hD hS 0 rfl rfl 3 (by decide) (hts _ lk_X6_close_127) (fun _ h9 => h9) rfl (tyX6_ok 3 (by decide)) rfl rfl (Nat.le_of_ble_eq_true rfl) dX6_close_68 (fun H locs hP hD hS => ?_)
        have hP : va_P D vwCl ([w6 cA a (s6_isFault (s6_typed r5.2 0) 1)] : List va_W).flatten H := hP
        have hD : va_D _ ([w6 cA a (s6_isFault (s6_typed r5.2 0) 1)] : List va_W).flatten := hD
        refine lv_aload_n hx hb dX6_close_71 rfl (lv_at hl 1 rfl) ?_
        refine va_get (D := D) (ci := 6) (v := .int 1) (C := RX6) (T := TX6) (N := 19) hx hb hts in_X6_close_X6 hown hK hP 0 rfl rfl 5 (by decide) (hts _ lk_X6_close_133) (fun _ h9 => h9) rfl dX6_close_72 ?_
        refine lv_if_eq (tgt := 86) hx hb dX6_close_75 (by decide) (fun hc20 => ?_) (fun hc20 => ?_)
        · exact absurd hc20 (by decide)
        · refine lv_bipush (v := (-20)) hx hb dX6_close_78 (by decide) ?_
          refine lv_aload_n hx hb dX6_close_80 rfl (lv_at hl 1 rfl) ?_
          refine va_get (D := D) (ci := 6) (v := .int (p6_place r5.2)) (C := RX6) (T := TX6) (N := 19) hx hb hts in_X6_close_X6 hown hK hP 0 rfl rfl 4 (by decide) (hts _ lk_X6_close_130) (fun _ h9 => h9) rfl dX6_close_81 ?_
          refine lv_isub hx hb dX6_close_84 ?_
          have h := Option.some.inj h
          subst h
          exact CT.iret Z hP hD hS dX6_close_85
      · exact absurd hc19 (by decide)

-- X6.notes
theorem lk_X6_notes_90 : Cond.fieldLink RX6 90 "KeyedFeelingsModel" "undos" "I" ∈ wsX6_notes := by decide +kernel
theorem in_X6_notes_X6 : ∀ w ∈ wsX60, w ∈ wsX6_notes := by decide +kernel
theorem lk_X6_notes_22 : Cond.fieldLink RX6 22 "KeyedFeelingsModel" "undone" "[I" ∈ wsX6_notes := by decide +kernel
theorem lk_X6_notes_7 : Cond.fieldLink RX6 7 "KeyedFeelingsModel" "now" "[I" ∈ wsX6_notes := by decide +kernel
noncomputable def lp_X6_notes_48  : Nat → Int32 → St6 → Option (Int32 × St6)
  | 0, _, _ => none
  | n + 1, x1, σ => (if 27 ≤ x1 then some (x1, σ) else (if inB x1 27 = true then (if inB ((27 * (p6_undos σ)) + x1) 216 = true then lp_X6_notes_48  n (x1 + 1) (s6_undone σ (upd (p6_undone σ) (((27 * (p6_undos σ)) + x1).toNatClampNeg) ((p6_now σ) x1.toNatClampNeg))) else none) else none))
noncomputable def lp_X6_notes_12  : Nat → Int32 → St6 → Option (Int32 × St6)
  | 0, _, _ => none
  | n + 1, x1, σ => (if 216 ≤ x1 then some (x1, σ) else (if inB x1 216 = true then (if inB (x1 - 27) 216 = true then lp_X6_notes_12  n (x1 + 1) (s6_undone σ (upd (p6_undone σ) ((x1 - 27).toNatClampNeg) ((p6_undone σ) x1.toNatClampNeg))) else none) else none))
noncomputable def f_X6_notes (σ : St6) : Option (St6) := (if (p6_undos σ) = 8 then ((lp_X6_notes_12  FU 27 σ).bind (fun q9 => ((lp_X6_notes_48  FU 0 (s6_undos q9.2 7)).bind (fun q10 => some (s6_undos q10.2 ((p6_undos q10.2) + 1)))))) else ((lp_X6_notes_48  FU 0 σ).bind (fun q5 => some (s6_undos q5.2 ((p6_undos q5.2) + 1)))))
noncomputable def rmX6_notes : Room := { frames := 0, cells := 0, slots := 0, locals := 0 }
set_option maxHeartbeats 4000000 in
set_option maxRecDepth 100000 in
theorem t_X6_notes_48 {p : Program} {l : Launch} {e : Env} {s : State} {m : MethodId} {args : Array Value} {below : List Frame} {meth : Method} {c : Code} {D : va_G} {cA : Nat → ClassId} {A0 : Nat → Prop} {H0 : Heap} {a : Nat → Nat} (Z : Cx p s m args meth c cX6_notes 2 none wsX6_notes RX6 D cA)  {Q : State → Prop} : ∀ (n : Nat) (x1 : Int32) (σ : St6) (q : Int32 × St6), lp_X6_notes_48  n x1 σ = some q → ∀ (H : Heap) (locs : List Loc) (ls : Array Slot), va_P D vwCl ([w6 cA a σ] : List va_W).flatten H → va_D A0 ([w6 cA a σ] : List va_W).flatten → va_S A0 H0 H locs → lv_has ls 2 [(0, .ref (a 0)), (1, .int x1)] → (∀ (H : Heap) (locs : List Loc) (ls : Array Slot), va_P D vwCl ([w6 cA a q.2] : List va_W).flatten H → va_D A0 ([w6 cA a q.2] : List va_W).flatten → va_S A0 H0 H locs → lv_has ls 2 [(0, .ref (a 0)), (1, .int q.1)] → W p l e rmX6_notes s m args below meth c H locs 0 0 Q (F0 m 80 ls [])) → W p l e rmX6_notes s m args below meth c H locs 0 0 Q (F0 m 48 ls []) := by
  obtain ⟨hx, hb, hml, hown, hts, hr, hlk, hKK⟩ := id Z
  have hK := hKK.1
  intro n
  induction n with
  | zero =>
    intro x1 σ q h
    rw [lp_X6_notes_48] at h
    cases h
  | succ n ih =>
    intro x1 σ q h H locs ls hP hD hS hl kk
    rw [lp_X6_notes_48] at h
    refine lv_iload_n hx hb dX6_notes_48 rfl (lv_at hl 1 rfl) ?_
    refine lv_bipush (v := 27) hx hb dX6_notes_49 (by decide) ?_
    refine lv_icmp_ge (tgt := 80) hx hb dX6_notes_51 (by decide) (fun hc2 => ?_) (fun hc2 => ?_)
    · rw [if_pos hc2] at h
      have h := Option.some.inj h
      subst h
      exact kk _ _ _ hP hD hS (lv_sub hl [0, 1] rfl)
    · rw [if_neg hc2] at h
      refine lv_aload_n hx hb dX6_notes_54 rfl (lv_at hl 0 rfl) ?_
      refine va_get (D := D) (ci := 6) (v := .ref (a 5)) (C := RX6) (T := TX6) (N := 19) hx hb hts in_X6_notes_X6 hown hK hP 0 rfl rfl 7 (by decide) (hts _ lk_X6_notes_22) (fun _ h9 => h9) rfl dX6_notes_55 ?_
      refine lv_bipush (v := 27) hx hb dX6_notes_58 (by decide) ?_
      refine lv_aload_n hx hb dX6_notes_60 rfl (lv_at hl 0 rfl) ?_
      refine va_get (D := D) (ci := 6) (v := .int (p6_undos σ)) (C := RX6) (T := TX6) (N := 19) hx hb hts in_X6_notes_X6 hown hK hP 0 rfl rfl 8 (by decide) (hts _ lk_X6_notes_90) (fun _ h9 => h9) rfl dX6_notes_61 ?_
      refine lv_imul hx hb dX6_notes_64 ?_
      refine lv_iload_n hx hb dX6_notes_65 rfl (lv_at hl 1 rfl) ?_
      refine lv_iadd hx hb dX6_notes_66 ?_
      refine lv_aload_n hx hb dX6_notes_67 rfl (lv_at hl 0 rfl) ?_
      refine va_get (D := D) (ci := 6) (v := .ref (a 1)) (C := RX6) (T := TX6) (N := 19) hx hb hts in_X6_notes_X6 hown hK hP 0 rfl rfl 0 (by decide) (hts _ lk_X6_notes_7) (fun _ h9 => h9) rfl dX6_notes_68 ?_
      refine lv_iload_n hx hb dX6_notes_71 rfl (lv_at hl 1 rfl) ?_
      obtain ⟨hg3, h⟩ := if_inv h
      refine va_iald hx hb hK hP 1 0 rfl rfl (inB_in hg3) dX6_notes_72 ?_
      obtain ⟨hg4, h⟩ := if_inv h
      refine va_iast hx hb hK hP hD hS 5 0 rfl rfl (inB_in hg4) dX6_notes_73 (fun H locs hP hD hS => ?_)
      have hP : va_P D vwCl ([w6 cA a (s6_undone σ (upd (p6_undone σ) (((27 * (p6_undos σ)) + x1).toNatClampNeg) ((p6_now σ) x1.toNatClampNeg)))] : List va_W).flatten H := hP
      have hD : va_D _ ([w6 cA a (s6_undone σ (upd (p6_undone σ) (((27 * (p6_undos σ)) + x1).toNatClampNeg) ((p6_now σ) x1.toNatClampNeg)))] : List va_W).flatten := hD
      refine lv_iinc (v := x1 + 1) (lv' := [(1, .int (x1 + 1)), (0, .ref (a 0))]) hx hb dX6_notes_74 hl (k := 1) rfl rfl (by decide) rfl (fun ls hl => ?_)
      refine lv_goto (tgt := 48) hx hb dX6_notes_77 (by decide) ?_
      exact ih _ _ _ h _ _ _ hP hD hS (lv_sub hl [1, 0] rfl) kk
set_option maxHeartbeats 4000000 in
set_option maxRecDepth 100000 in
theorem t_X6_notes_12 {p : Program} {l : Launch} {e : Env} {s : State} {m : MethodId} {args : Array Value} {below : List Frame} {meth : Method} {c : Code} {D : va_G} {cA : Nat → ClassId} {A0 : Nat → Prop} {H0 : Heap} {a : Nat → Nat} (Z : Cx p s m args meth c cX6_notes 2 none wsX6_notes RX6 D cA)  {Q : State → Prop} : ∀ (n : Nat) (x1 : Int32) (σ : St6) (q : Int32 × St6), lp_X6_notes_12  n x1 σ = some q → ∀ (H : Heap) (locs : List Loc) (ls : Array Slot), va_P D vwCl ([w6 cA a σ] : List va_W).flatten H → va_D A0 ([w6 cA a σ] : List va_W).flatten → va_S A0 H0 H locs → lv_has ls 2 [(0, .ref (a 0)), (1, .int x1)] → (∀ (H : Heap) (locs : List Loc) (ls : Array Slot), va_P D vwCl ([w6 cA a q.2] : List va_W).flatten H → va_D A0 ([w6 cA a q.2] : List va_W).flatten → va_S A0 H0 H locs → lv_has ls 2 [(0, .ref (a 0)), (1, .int q.1)] → W p l e rmX6_notes s m args below meth c H locs 0 0 Q (F0 m 40 ls [])) → W p l e rmX6_notes s m args below meth c H locs 0 0 Q (F0 m 12 ls []) := by
  obtain ⟨hx, hb, hml, hown, hts, hr, hlk, hKK⟩ := id Z
  have hK := hKK.1
  intro n
  induction n with
  | zero =>
    intro x1 σ q h
    rw [lp_X6_notes_12] at h
    cases h
  | succ n ih =>
    intro x1 σ q h H locs ls hP hD hS hl kk
    rw [lp_X6_notes_12] at h
    refine lv_iload_n hx hb dX6_notes_12 rfl (lv_at hl 1 rfl) ?_
    refine lv_sipush (v := 216) hx hb dX6_notes_13 (by decide) ?_
    refine lv_icmp_ge (tgt := 40) hx hb dX6_notes_16 (by decide) (fun hc6 => ?_) (fun hc6 => ?_)
    · rw [if_pos hc6] at h
      have h := Option.some.inj h
      subst h
      exact kk _ _ _ hP hD hS (lv_sub hl [0, 1] rfl)
    · rw [if_neg hc6] at h
      refine lv_aload_n hx hb dX6_notes_19 rfl (lv_at hl 0 rfl) ?_
      refine va_get (D := D) (ci := 6) (v := .ref (a 5)) (C := RX6) (T := TX6) (N := 19) hx hb hts in_X6_notes_X6 hown hK hP 0 rfl rfl 7 (by decide) (hts _ lk_X6_notes_22) (fun _ h9 => h9) rfl dX6_notes_20 ?_
      refine lv_iload_n hx hb dX6_notes_23 rfl (lv_at hl 1 rfl) ?_
      refine lv_bipush (v := 27) hx hb dX6_notes_24 (by decide) ?_
      refine lv_isub hx hb dX6_notes_26 ?_
      refine lv_aload_n hx hb dX6_notes_27 rfl (lv_at hl 0 rfl) ?_
      refine va_get (D := D) (ci := 6) (v := .ref (a 5)) (C := RX6) (T := TX6) (N := 19) hx hb hts in_X6_notes_X6 hown hK hP 0 rfl rfl 7 (by decide) (hts _ lk_X6_notes_22) (fun _ h9 => h9) rfl dX6_notes_28 ?_
      refine lv_iload_n hx hb dX6_notes_31 rfl (lv_at hl 1 rfl) ?_
      obtain ⟨hg7, h⟩ := if_inv h
      refine va_iald hx hb hK hP 5 0 rfl rfl (inB_in hg7) dX6_notes_32 ?_
      obtain ⟨hg8, h⟩ := if_inv h
      refine va_iast hx hb hK hP hD hS 5 0 rfl rfl (inB_in hg8) dX6_notes_33 (fun H locs hP hD hS => ?_)
      have hP : va_P D vwCl ([w6 cA a (s6_undone σ (upd (p6_undone σ) ((x1 - 27).toNatClampNeg) ((p6_undone σ) x1.toNatClampNeg)))] : List va_W).flatten H := hP
      have hD : va_D _ ([w6 cA a (s6_undone σ (upd (p6_undone σ) ((x1 - 27).toNatClampNeg) ((p6_undone σ) x1.toNatClampNeg)))] : List va_W).flatten := hD
      refine lv_iinc (v := x1 + 1) (lv' := [(1, .int (x1 + 1)), (0, .ref (a 0))]) hx hb dX6_notes_34 hl (k := 1) rfl rfl (by decide) rfl (fun ls hl => ?_)
      refine lv_goto (tgt := 12) hx hb dX6_notes_37 (by decide) ?_
      exact ih _ _ _ h _ _ _ hP hD hS (lv_sub hl [1, 0] rfl) kk
set_option maxHeartbeats 4000000 in
set_option maxRecDepth 100000 in
theorem c_X6_notes (l : Launch) (D : va_G) (cA : Nat → ClassId) (a : Nat → Nat) (σ : St6) (res : St6) (h : f_X6_notes σ = some res) : CT l D cA yX6_notes wsX6_notes rmX6_notes [.ref (a 0)] [w6 cA a σ] [w6 cA a res] none := by
  refine CT.start (cc := cX6_notes) (maxL := 2) (ret := none) (by decide) rfl (Nat.le_of_ble_eq_true rfl) ?_
  intro p e s m below meth c Z hP hD hS ls hl
  have Z : Cx p s m _ meth c cX6_notes 2 none wsX6_notes RX6 D cA := Z
  have hl : lv_has ls 2 [(0, .ref (a 0))] := hl
  obtain ⟨hx, hb, hml, hown, hts, hr, hlk, hKK⟩ := id Z
  have hK := hKK.1
  rw [f_X6_notes] at h
  refine lv_aload_n hx hb dX6_notes_0 rfl (lv_at hl 0 rfl) ?_
  refine va_get (D := D) (ci := 6) (v := .int (p6_undos σ)) (C := RX6) (T := TX6) (N := 19) hx hb hts in_X6_notes_X6 hown hK hP 0 rfl rfl 8 (by decide) (hts _ lk_X6_notes_90) (fun _ h9 => h9) rfl dX6_notes_1 ?_
  refine lv_bipush (v := 8) hx hb dX6_notes_4 (by decide) ?_
  refine lv_icmp_ne (tgt := 46) hx hb dX6_notes_6 (by decide) (fun hc1 => ?_) (fun hc1 => ?_)
  · rw [if_neg hc1] at h
    refine lv_iconst (v := 0) hx hb dX6_notes_46 (by decide) ?_
    refine lv_istore_n (lv' := [(1, .int 0), (0, .ref (a 0))]) hx hb dX6_notes_47 rfl hl (by decide) rfl (fun ls hl => ?_)
    obtain ⟨q5, hq5, h⟩ := bind_inv h
    refine t_X6_notes_48 Z  FU _ _ _ hq5 _ _ _ hP hD hS (lv_sub hl [1, 0] rfl) (fun H locs ls hP hD hS hl => ?_)
    refine lv_aload_n hx hb dX6_notes_80 rfl (lv_at hl 0 rfl) ?_
    refine lv_dup hx hb dX6_notes_81 rfl ?_
    refine va_get (D := D) (ci := 6) (v := .int (p6_undos q5.2)) (C := RX6) (T := TX6) (N := 19) hx hb hts in_X6_notes_X6 hown hK hP 0 rfl rfl 8 (by decide) (hts _ lk_X6_notes_90) (fun _ h9 => h9) rfl dX6_notes_82 ?_
    refine lv_iconst (v := 1) hx hb dX6_notes_85 (by decide) ?_
    refine lv_iadd hx hb dX6_notes_86 ?_
    refine va_put (D := D) (ci := 6) (v := .int ((p6_undos q5.2) + 1)) (ty := .int) (C := RX6) (T := TX6) (N := 19) hx hb hts in_X6_notes_X6 tyX6 tyX6_ok nmX6 hown hK hP hD hS 0 rfl rfl 8 (by decide) (hts _ lk_X6_notes_90) (fun _ h9 => h9) rfl (tyX6_ok 8 (by decide)) rfl rfl (Nat.le_of_ble_eq_true rfl) dX6_notes_87 (fun H locs hP hD hS => ?_)
    have hP : va_P D vwCl ([w6 cA a (s6_undos q5.2 ((p6_undos q5.2) + 1))] : List va_W).flatten H := hP
    have hD : va_D _ ([w6 cA a (s6_undos q5.2 ((p6_undos q5.2) + 1))] : List va_W).flatten := hD
    have h := Option.some.inj h
    subst h
    exact CT.vret Z hP hD hS dX6_notes_90
  · rw [if_pos hc1] at h
    refine lv_bipush (v := 27) hx hb dX6_notes_9 (by decide) ?_
    refine lv_istore_n (lv' := [(1, .int 27), (0, .ref (a 0))]) hx hb dX6_notes_11 rfl hl (by decide) rfl (fun ls hl => ?_)
    obtain ⟨q9, hq9, h⟩ := bind_inv h
    refine t_X6_notes_12 Z  FU _ _ _ hq9 _ _ _ hP hD hS (lv_sub hl [1, 0] rfl) (fun H locs ls hP hD hS hl => ?_)
    refine lv_aload_n hx hb dX6_notes_40 rfl (lv_at hl 0 rfl) ?_
    refine lv_bipush (v := 7) hx hb dX6_notes_41 (by decide) ?_
    refine va_put (D := D) (ci := 6) (v := .int 7) (ty := .int) (C := RX6) (T := TX6) (N := 19) hx hb hts in_X6_notes_X6 tyX6 tyX6_ok nmX6 hown hK hP hD hS 0 rfl rfl 8 (by decide) (hts _ lk_X6_notes_90) (fun _ h9 => h9) rfl (tyX6_ok 8 (by decide)) rfl rfl (Nat.le_of_ble_eq_true rfl) dX6_notes_43 (fun H locs hP hD hS => ?_)
    have hP : va_P D vwCl ([w6 cA a (s6_undos q9.2 7)] : List va_W).flatten H := hP
    have hD : va_D _ ([w6 cA a (s6_undos q9.2 7)] : List va_W).flatten := hD
    refine lv_iconst (v := 0) hx hb dX6_notes_46 (by decide) ?_
    refine lv_istore_n (lv' := [(1, .int 0), (0, .ref (a 0))]) hx hb dX6_notes_47 rfl hl (by decide) rfl (fun ls hl => ?_)
    obtain ⟨q10, hq10, h⟩ := bind_inv h
    refine t_X6_notes_48 Z  FU _ _ _ hq10 _ _ _ hP hD hS (lv_sub hl [1, 0] rfl) (fun H locs ls hP hD hS hl => ?_)
    refine lv_aload_n hx hb dX6_notes_80 rfl (lv_at hl 0 rfl) ?_
    refine lv_dup hx hb dX6_notes_81 rfl ?_
    refine va_get (D := D) (ci := 6) (v := .int (p6_undos q10.2)) (C := RX6) (T := TX6) (N := 19) hx hb hts in_X6_notes_X6 hown hK hP 0 rfl rfl 8 (by decide) (hts _ lk_X6_notes_90) (fun _ h9 => h9) rfl dX6_notes_82 ?_
    refine lv_iconst (v := 1) hx hb dX6_notes_85 (by decide) ?_
    refine lv_iadd hx hb dX6_notes_86 ?_
    refine va_put (D := D) (ci := 6) (v := .int ((p6_undos q10.2) + 1)) (ty := .int) (C := RX6) (T := TX6) (N := 19) hx hb hts in_X6_notes_X6 tyX6 tyX6_ok nmX6 hown hK hP hD hS 0 rfl rfl 8 (by decide) (hts _ lk_X6_notes_90) (fun _ h9 => h9) rfl (tyX6_ok 8 (by decide)) rfl rfl (Nat.le_of_ble_eq_true rfl) dX6_notes_87 (fun H locs hP hD hS => ?_)
    have hP : va_P D vwCl ([w6 cA a (s6_undos q10.2 ((p6_undos q10.2) + 1))] : List va_W).flatten H := hP
    have hD : va_D _ ([w6 cA a (s6_undos q10.2 ((p6_undos q10.2) + 1))] : List va_W).flatten := hD
    have h := Option.some.inj h
    subst h
    exact CT.vret Z hP hD hS dX6_notes_90

-- X6.hours
theorem ck_X6_hours_140 : Cond.constantLong RX6 140 48 ∈ wsX6_hours := by decide +kernel
theorem lk_X6_hours_7 : Cond.fieldLink RX6 7 "KeyedFeelingsModel" "now" "[I" ∈ wsX6_hours := by decide +kernel
theorem in_X6_hours_X6 : ∀ w ∈ wsX60, w ∈ wsX6_hours := by decide +kernel
noncomputable def lp_X6_hours_33 (x1 : Int32) : Nat → Int32 → St6 → Option (Int32 × St6)
  | 0, _, _ => none
  | n + 1, x2, σ => (if x1 ≤ x2 then some (x2, σ) else ((f_X6_notes σ).bind (fun r5 => ((f_X6_goesBy r5 0).bind (fun r6 => lp_X6_hours_33 x1 n (x2 + 1) r6)))))
noncomputable def f_X6_hours (σ : St6) (x1 : Int32) : Option (Int32 × St6) := ((f_X6_in x1.toInt64 1 48).bind (fun r1 => (if r1 = 0 then some ((-1), σ) else (if (((p6_now σ) (1 : Int32).toNatClampNeg) + x1) ≤ 9999 then ((lp_X6_hours_33 x1 FU 0 σ).bind (fun q7 => ((f_X6_stopped q7.2).bind (fun r8 => some (r8, q7.2))))) else some ((-3), σ)))))
noncomputable def rmX6_hours : Room := { frames := 5, cells := 0, slots := 0, locals := 112 }
set_option maxHeartbeats 4000000 in
set_option maxRecDepth 100000 in
theorem t_X6_hours_33 {p : Program} {l : Launch} {e : Env} {s : State} {m : MethodId} {args : Array Value} {below : List Frame} {meth : Method} {c : Code} {D : va_G} {cA : Nat → ClassId} {A0 : Nat → Prop} {H0 : Heap} {a : Nat → Nat} (Z : Cx p s m args meth c cX6_hours 3 (some .int) wsX6_hours RX6 D cA) (x1 : Int32) {Q : State → Prop} : ∀ (n : Nat) (x2 : Int32) (σ : St6) (q : Int32 × St6), lp_X6_hours_33 x1 n x2 σ = some q → ∀ (H : Heap) (locs : List Loc) (ls : Array Slot), va_P D vwCl ([w6 cA a σ] : List va_W).flatten H → va_D A0 ([w6 cA a σ] : List va_W).flatten → va_S A0 H0 H locs → lv_has ls 3 [(0, .ref (a 0)), (1, .int x1), (2, .int x2)] → (∀ (H : Heap) (locs : List Loc) (ls : Array Slot), va_P D vwCl ([w6 cA a q.2] : List va_W).flatten H → va_D A0 ([w6 cA a q.2] : List va_W).flatten → va_S A0 H0 H locs → lv_has ls 3 [(0, .ref (a 0)), (1, .int x1), (2, .int q.1)] → W p l e rmX6_hours s m args below meth c H locs 0 0 Q (F0 m 53 ls [])) → W p l e rmX6_hours s m args below meth c H locs 0 0 Q (F0 m 33 ls []) := by
  obtain ⟨hx, hb, hml, hown, hts, hr, hlk, hKK⟩ := id Z
  have hK := hKK.1
  intro n
  induction n with
  | zero =>
    intro x2 σ q h
    rw [lp_X6_hours_33] at h
    cases h
  | succ n ih =>
    intro x2 σ q h H locs ls hP hD hS hl kk
    rw [lp_X6_hours_33] at h
    refine lv_iload_n hx hb dX6_hours_33 rfl (lv_at hl 2 rfl) ?_
    refine lv_iload_n hx hb dX6_hours_34 rfl (lv_at hl 1 rfl) ?_
    refine lv_icmp_ge (tgt := 53) hx hb dX6_hours_35 (by decide) (fun hc4 => ?_) (fun hc4 => ?_)
    · rw [if_pos hc4] at h
      have h := Option.some.inj h
      subst h
      exact kk _ _ _ hP hD hS (lv_sub hl [0, 1, 2] rfl)
    · rw [if_neg hc4] at h
      refine lv_aload_n hx hb dX6_hours_38 rfl (lv_at hl 0 rfl) ?_
      obtain ⟨r5, hr5, h⟩ := bind_inv h
      refine kV (rest := []) (st1 := []) (cr := []) (cs' := [w6 cA a r5]) Z (c_X6_notes l D cA a σ r5 hr5) 0 gX6_hours_X6_notes rfl hdX6_notes ⟨rfl, rfl⟩ ⟨Nat.le_of_ble_eq_true rfl, Nat.le_of_ble_eq_true rfl⟩ ⟨Nat.zero_le _, Nat.zero_le _⟩ hP hD hS hl.1 rfl rfl rfl (Nat.le_of_ble_eq_true rfl) 6 rfl rfl rfl [0] [] [0] rfl rfl rfl rfl rfl dX6_hours_39 (fun H locs hP hD hS => ?_)
      refine lv_aload_n hx hb dX6_hours_42 rfl (lv_at hl 0 rfl) ?_
      refine lv_iconst (v := 0) hx hb dX6_hours_43 (by decide) ?_
      obtain ⟨r6, hr6, h⟩ := bind_inv h
      refine kV (rest := []) (st1 := []) (cr := []) (cs' := [w6 cA a r6]) Z (c_X6_goesBy l D cA a r5 0 r6 hr6) 1 gX6_hours_X6_goesBy rfl hdX6_goesBy ⟨rfl, rfl⟩ ⟨Nat.le_of_ble_eq_true rfl, Nat.le_of_ble_eq_true rfl⟩ ⟨Nat.zero_le _, Nat.zero_le _⟩ hP hD hS hl.1 rfl rfl rfl (Nat.le_of_ble_eq_true rfl) 6 rfl rfl rfl [0] [] [0] rfl rfl rfl rfl rfl dX6_hours_44 (fun H locs hP hD hS => ?_)
      refine lv_iinc (v := x2 + 1) (lv' := [(2, .int (x2 + 1)), (0, .ref (a 0)), (1, .int x1)]) hx hb dX6_hours_47 hl (k := 2) rfl rfl (by decide) rfl (fun ls hl => ?_)
      refine lv_goto (tgt := 33) hx hb dX6_hours_50 (by decide) ?_
      exact ih _ _ _ h _ _ _ hP hD hS (lv_sub hl [1, 2, 0] rfl) kk
set_option maxHeartbeats 4000000 in
set_option maxRecDepth 100000 in
theorem c_X6_hours (l : Launch) (D : va_G) (cA : Nat → ClassId) (a : Nat → Nat) (σ : St6) (x1 : Int32) (res : Int32 × St6) (h : f_X6_hours σ x1 = some res) : CT l D cA yX6_hours wsX6_hours rmX6_hours [.ref (a 0), .int x1] [w6 cA a σ] [w6 cA a res.2] (some (.int res.1)) := by
  refine CT.start (cc := cX6_hours) (maxL := 3) (ret := (some .int)) (by decide) rfl (Nat.le_of_ble_eq_true rfl) ?_
  intro p e s m below meth c Z hP hD hS ls hl
  have Z : Cx p s m _ meth c cX6_hours 3 (some .int) wsX6_hours RX6 D cA := Z
  have hl : lv_has ls 3 [(0, .ref (a 0)), (1, .int x1)] := hl
  obtain ⟨hx, hb, hml, hown, hts, hr, hlk, hKK⟩ := id Z
  have hK := hKK.1
  rw [f_X6_hours] at h
  refine lv_iload_n hx hb dX6_hours_0 rfl (lv_at hl 1 rfl) ?_
  refine lv_i2l (v := x1.toInt64) hx hb dX6_hours_1 rfl ?_
  refine lv_lconst (v := 1) hx hb dX6_hours_2 (by decide) ?_
  refine lv_ldc2 hx hb hown (hts _ ck_X6_hours_140) dX6_hours_3 ?_
  obtain ⟨r1, hr1, h⟩ := bind_inv h
  refine kS (rest := []) (st1 := [.int r1]) (cr := [w6 cA a σ]) (cs' := [w6 cA a σ]) Z (c_X6_in l D cA x1.toInt64 1 48 r1 hr1) 3 gX6_hours_X6_in rfl hdX6_in ⟨rfl, rfl⟩ ⟨Nat.le_of_ble_eq_true rfl, Nat.le_of_ble_eq_true rfl⟩ ⟨Nat.zero_le _, Nat.zero_le _⟩ hP hD hS hl.1 rfl rfl rfl (Nat.le_of_ble_eq_true rfl) [] [0] [0] rfl rfl rfl rfl rfl dX6_hours_6 (fun H locs hP hD hS => ?_)
  refine lv_if_ne (tgt := 14) hx hb dX6_hours_9 (by decide) (fun hc2 => ?_) (fun hc2 => ?_)
  · rw [if_neg hc2] at h
    refine lv_aload_n hx hb dX6_hours_14 rfl (lv_at hl 0 rfl) ?_
    refine va_get (D := D) (ci := 6) (v := .ref (a 1)) (C := RX6) (T := TX6) (N := 19) hx hb hts in_X6_hours_X6 hown hK hP 0 rfl rfl 0 (by decide) (hts _ lk_X6_hours_7) (fun _ h9 => h9) rfl dX6_hours_15 ?_
    refine lv_iconst (v := 1) hx hb dX6_hours_18 (by decide) ?_
    refine va_iald hx hb hK hP 1 0 rfl rfl (inB_in (by decide)) dX6_hours_19 ?_
    refine lv_iload_n hx hb dX6_hours_20 rfl (lv_at hl 1 rfl) ?_
    refine lv_iadd hx hb dX6_hours_21 ?_
    refine lv_sipush (v := 9999) hx hb dX6_hours_22 (by decide) ?_
    refine lv_icmp_le (tgt := 31) hx hb dX6_hours_25 (by decide) (fun hc3 => ?_) (fun hc3 => ?_)
    · rw [if_pos hc3] at h
      refine lv_iconst (v := 0) hx hb dX6_hours_31 (by decide) ?_
      refine lv_istore_n (lv' := [(2, .int 0), (0, .ref (a 0)), (1, .int x1)]) hx hb dX6_hours_32 rfl hl (by decide) rfl (fun ls hl => ?_)
      obtain ⟨q7, hq7, h⟩ := bind_inv h
      refine t_X6_hours_33 Z x1 FU _ _ _ hq7 _ _ _ hP hD hS (lv_sub hl [1, 2, 0] rfl) (fun H locs ls hP hD hS hl => ?_)
      refine lv_aload_n hx hb dX6_hours_53 rfl (lv_at hl 0 rfl) ?_
      obtain ⟨r8, hr8, h⟩ := bind_inv h
      refine kV (rest := []) (st1 := [.int r8]) (cr := []) (cs' := [w6 cA a q7.2]) Z (c_X6_stopped l D cA a q7.2 r8 hr8) 0 gX6_hours_X6_stopped rfl hdX6_stopped ⟨rfl, rfl⟩ ⟨Nat.le_of_ble_eq_true rfl, Nat.le_of_ble_eq_true rfl⟩ ⟨Nat.zero_le _, Nat.zero_le _⟩ hP hD hS hl.1 rfl rfl rfl (Nat.le_of_ble_eq_true rfl) 6 rfl rfl rfl [0] [] [0] rfl rfl rfl rfl rfl dX6_hours_54 (fun H locs hP hD hS => ?_)
      have h := Option.some.inj h
      subst h
      exact CT.iret Z hP hD hS dX6_hours_57
    · rw [if_neg hc3] at h
      refine lv_bipush (v := (-3)) hx hb dX6_hours_28 (by decide) ?_
      have h := Option.some.inj h
      subst h
      exact CT.iret Z hP hD hS dX6_hours_30
  · rw [if_pos hc2] at h
    refine lv_iconst (v := (-1)) hx hb dX6_hours_12 (by decide) ?_
    have h := Option.some.inj h
    subst h
    exact CT.iret Z hP hD hS dX6_hours_13

-- X6.lent
noncomputable def f_X6_lent (σ : St6) (x1 : Int32) (x2 : Int32) : Option (St6) := ((f_X6_turns σ x1).bind (fun r1 => (if (r1 + x2) ≤ 30 then ((f_X6_tells σ x1 1 (r1 + x2)).bind (fun r3 => some r3)) else ((f_X6_tells σ x1 1 30).bind (fun r4 => some r4)))))
noncomputable def rmX6_lent : Room := { frames := 2, cells := 0, slots := 0, locals := 43 }
set_option maxHeartbeats 4000000 in
set_option maxRecDepth 100000 in
theorem c_X6_lent (l : Launch) (D : va_G) (cA : Nat → ClassId) (a : Nat → Nat) (σ : St6) (x1 : Int32) (x2 : Int32) (res : St6) (h : f_X6_lent σ x1 x2 = some res) : CT l D cA yX6_lent wsX6_lent rmX6_lent [.ref (a 0), .int x1, .int x2] [w6 cA a σ] [w6 cA a res] none := by
  refine CT.start (cc := cX6_lent) (maxL := 4) (ret := none) (by decide) rfl (Nat.le_of_ble_eq_true rfl) ?_
  intro p e s m below meth c Z hP hD hS ls hl
  have Z : Cx p s m _ meth c cX6_lent 4 none wsX6_lent RX6 D cA := Z
  have hl : lv_has ls 4 [(0, .ref (a 0)), (1, .int x1), (2, .int x2)] := hl
  obtain ⟨hx, hb, hml, hown, hts, hr, hlk, hKK⟩ := id Z
  have hK := hKK.1
  rw [f_X6_lent] at h
  refine lv_aload_n hx hb dX6_lent_0 rfl (lv_at hl 0 rfl) ?_
  refine lv_iload_n hx hb dX6_lent_1 rfl (lv_at hl 1 rfl) ?_
  obtain ⟨r1, hr1, h⟩ := bind_inv h
  refine kV (rest := []) (st1 := [.int r1]) (cr := []) (cs' := [w6 cA a σ]) Z (c_X6_turns l D cA a σ x1 r1 hr1) 1 gX6_lent_X6_turns rfl hdX6_turns ⟨rfl, rfl⟩ ⟨Nat.le_of_ble_eq_true rfl, Nat.le_of_ble_eq_true rfl⟩ ⟨Nat.zero_le _, Nat.zero_le _⟩ hP hD hS hl.1 rfl rfl rfl (Nat.le_of_ble_eq_true rfl) 6 rfl rfl rfl [0] [] [0] rfl rfl rfl rfl rfl dX6_lent_2 (fun H locs hP hD hS => ?_)
  refine lv_iload_n hx hb dX6_lent_5 rfl (lv_at hl 2 rfl) ?_
  refine lv_iadd hx hb dX6_lent_6 ?_
  refine lv_istore_n (lv' := [(3, .int (r1 + x2)), (0, .ref (a 0)), (1, .int x1), (2, .int x2)]) hx hb dX6_lent_7 rfl hl (by decide) rfl (fun ls hl => ?_)
  refine lv_aload_n hx hb dX6_lent_8 rfl (lv_at hl 1 rfl) ?_
  refine lv_iload_n hx hb dX6_lent_9 rfl (lv_at hl 2 rfl) ?_
  refine lv_iconst (v := 1) hx hb dX6_lent_10 (by decide) ?_
  refine lv_iload_n hx hb dX6_lent_11 rfl (lv_at hl 0 rfl) ?_
  refine lv_bipush (v := 30) hx hb dX6_lent_12 (by decide) ?_
  refine lv_icmp_le (tgt := 22) hx hb dX6_lent_14 (by decide) (fun hc2 => ?_) (fun hc2 => ?_)
  · rw [if_pos hc2] at h
    refine lv_iload_n hx hb dX6_lent_22 rfl (lv_at hl 0 rfl) ?_
    obtain ⟨r3, hr3, h⟩ := bind_inv h
    refine kV (rest := []) (st1 := []) (cr := []) (cs' := [w6 cA a r3]) Z (c_X6_tells l D cA a σ x1 1 (r1 + x2) r3 hr3) 3 gX6_lent_X6_tells rfl hdX6_tells ⟨rfl, rfl⟩ ⟨Nat.le_of_ble_eq_true rfl, Nat.le_of_ble_eq_true rfl⟩ ⟨Nat.zero_le _, Nat.zero_le _⟩ hP hD hS hl.1 rfl rfl rfl (Nat.le_of_ble_eq_true rfl) 6 rfl rfl rfl [0] [] [0] rfl rfl rfl rfl rfl dX6_lent_23 (fun H locs hP hD hS => ?_)
    have h := Option.some.inj h
    subst h
    exact CT.vret Z hP hD hS dX6_lent_26
  · rw [if_neg hc2] at h
    refine lv_bipush (v := 30) hx hb dX6_lent_17 (by decide) ?_
    refine lv_goto (tgt := 23) hx hb dX6_lent_19 (by decide) ?_
    obtain ⟨r4, hr4, h⟩ := bind_inv h
    refine kV (rest := []) (st1 := []) (cr := []) (cs' := [w6 cA a r4]) Z (c_X6_tells l D cA a σ x1 1 30 r4 hr4) 3 gX6_lent_X6_tells rfl hdX6_tells ⟨rfl, rfl⟩ ⟨Nat.le_of_ble_eq_true rfl, Nat.le_of_ble_eq_true rfl⟩ ⟨Nat.zero_le _, Nat.zero_le _⟩ hP hD hS hl.1 rfl rfl rfl (Nat.le_of_ble_eq_true rfl) 6 rfl rfl rfl [0] [] [0] rfl rfl rfl rfl rfl dX6_lent_23 (fun H locs hP hD hS => ?_)
    have h := Option.some.inj h
    subst h
    exact CT.vret Z hP hD hS dX6_lent_26

-- X6.lend
theorem ck_X6_lend_96 : Cond.constantLong RX6 96 30 ∈ wsX6_lend := by decide +kernel
noncomputable def f_X6_lend (σ : St6) (x1 : Int32) (x2 : Int32) : Option (Int32 × St6) := ((f_X6_isPerson σ x1).bind (fun r1 => (if r1 = 0 then some ((-1), σ) else ((f_X6_in x2.toInt64 1 30).bind (fun r3 => (if r3 = 0 then some ((-1), σ) else ((f_X6_turns σ x1).bind (fun r5 => (if r5 = 30 then some ((-2), σ) else ((f_X6_notes σ).bind (fun r7 => ((f_X6_lent r7 x1 x2).bind (fun r8 => ((f_X6_turns r8 x1).bind (fun r9 => some (r9, r8))))))))))))))))
noncomputable def rmX6_lend : Room := { frames := 3, cells := 0, slots := 0, locals := 66 }
set_option maxHeartbeats 4000000 in
set_option maxRecDepth 100000 in
theorem c_X6_lend (l : Launch) (D : va_G) (cA : Nat → ClassId) (a : Nat → Nat) (σ : St6) (x1 : Int32) (x2 : Int32) (res : Int32 × St6) (h : f_X6_lend σ x1 x2 = some res) : CT l D cA yX6_lend wsX6_lend rmX6_lend [.ref (a 0), .int x1, .int x2] [w6 cA a σ] [w6 cA a res.2] (some (.int res.1)) := by
  refine CT.start (cc := cX6_lend) (maxL := 3) (ret := (some .int)) (by decide) rfl (Nat.le_of_ble_eq_true rfl) ?_
  intro p e s m below meth c Z hP hD hS ls hl
  have Z : Cx p s m _ meth c cX6_lend 3 (some .int) wsX6_lend RX6 D cA := Z
  have hl : lv_has ls 3 [(0, .ref (a 0)), (1, .int x1), (2, .int x2)] := hl
  obtain ⟨hx, hb, hml, hown, hts, hr, hlk, hKK⟩ := id Z
  have hK := hKK.1
  rw [f_X6_lend] at h
  refine lv_aload_n hx hb dX6_lend_0 rfl (lv_at hl 0 rfl) ?_
  refine lv_iload_n hx hb dX6_lend_1 rfl (lv_at hl 1 rfl) ?_
  obtain ⟨r1, hr1, h⟩ := bind_inv h
  refine kV (rest := []) (st1 := [.int r1]) (cr := []) (cs' := [w6 cA a σ]) Z (c_X6_isPerson l D cA a σ x1 r1 hr1) 1 gX6_lend_X6_isPerson rfl hdX6_isPerson ⟨rfl, rfl⟩ ⟨Nat.le_of_ble_eq_true rfl, Nat.le_of_ble_eq_true rfl⟩ ⟨Nat.zero_le _, Nat.zero_le _⟩ hP hD hS hl.1 rfl rfl rfl (Nat.le_of_ble_eq_true rfl) 6 rfl rfl rfl [0] [] [0] rfl rfl rfl rfl rfl dX6_lend_2 (fun H locs hP hD hS => ?_)
  refine lv_if_eq (tgt := 20) hx hb dX6_lend_5 (by decide) (fun hc2 => ?_) (fun hc2 => ?_)
  · rw [if_pos hc2] at h
    refine lv_iconst (v := (-1)) hx hb dX6_lend_20 (by decide) ?_
    have h := Option.some.inj h
    subst h
    exact CT.iret Z hP hD hS dX6_lend_21
  · rw [if_neg hc2] at h
    refine lv_iload_n hx hb dX6_lend_8 rfl (lv_at hl 2 rfl) ?_
    refine lv_i2l (v := x2.toInt64) hx hb dX6_lend_9 rfl ?_
    refine lv_lconst (v := 1) hx hb dX6_lend_10 (by decide) ?_
    refine lv_ldc2 hx hb hown (hts _ ck_X6_lend_96) dX6_lend_11 ?_
    obtain ⟨r3, hr3, h⟩ := bind_inv h
    refine kS (rest := []) (st1 := [.int r3]) (cr := [w6 cA a σ]) (cs' := [w6 cA a σ]) Z (c_X6_in l D cA x2.toInt64 1 30 r3 hr3) 3 gX6_lend_X6_in rfl hdX6_in ⟨rfl, rfl⟩ ⟨Nat.le_of_ble_eq_true rfl, Nat.le_of_ble_eq_true rfl⟩ ⟨Nat.zero_le _, Nat.zero_le _⟩ hP hD hS hl.1 rfl rfl rfl (Nat.le_of_ble_eq_true rfl) [] [0] [0] rfl rfl rfl rfl rfl dX6_lend_14 (fun H locs hP hD hS => ?_)
    refine lv_if_ne (tgt := 22) hx hb dX6_lend_17 (by decide) (fun hc4 => ?_) (fun hc4 => ?_)
    · rw [if_neg hc4] at h
      refine lv_aload_n hx hb dX6_lend_22 rfl (lv_at hl 0 rfl) ?_
      refine lv_iload_n hx hb dX6_lend_23 rfl (lv_at hl 1 rfl) ?_
      obtain ⟨r5, hr5, h⟩ := bind_inv h
      refine kV (rest := []) (st1 := [.int r5]) (cr := []) (cs' := [w6 cA a σ]) Z (c_X6_turns l D cA a σ x1 r5 hr5) 1 gX6_lend_X6_turns rfl hdX6_turns ⟨rfl, rfl⟩ ⟨Nat.le_of_ble_eq_true rfl, Nat.le_of_ble_eq_true rfl⟩ ⟨Nat.zero_le _, Nat.zero_le _⟩ hP hD hS hl.1 rfl rfl rfl (Nat.le_of_ble_eq_true rfl) 6 rfl rfl rfl [0] [] [0] rfl rfl rfl rfl rfl dX6_lend_24 (fun H locs hP hD hS => ?_)
      refine lv_bipush (v := 30) hx hb dX6_lend_27 (by decide) ?_
      refine lv_icmp_ne (tgt := 35) hx hb dX6_lend_29 (by decide) (fun hc6 => ?_) (fun hc6 => ?_)
      · rw [if_neg hc6] at h
        refine lv_aload_n hx hb dX6_lend_35 rfl (lv_at hl 0 rfl) ?_
        obtain ⟨r7, hr7, h⟩ := bind_inv h
        refine kV (rest := []) (st1 := []) (cr := []) (cs' := [w6 cA a r7]) Z (c_X6_notes l D cA a σ r7 hr7) 0 gX6_lend_X6_notes rfl hdX6_notes ⟨rfl, rfl⟩ ⟨Nat.le_of_ble_eq_true rfl, Nat.le_of_ble_eq_true rfl⟩ ⟨Nat.zero_le _, Nat.zero_le _⟩ hP hD hS hl.1 rfl rfl rfl (Nat.le_of_ble_eq_true rfl) 6 rfl rfl rfl [0] [] [0] rfl rfl rfl rfl rfl dX6_lend_36 (fun H locs hP hD hS => ?_)
        refine lv_aload_n hx hb dX6_lend_39 rfl (lv_at hl 0 rfl) ?_
        refine lv_iload_n hx hb dX6_lend_40 rfl (lv_at hl 1 rfl) ?_
        refine lv_iload_n hx hb dX6_lend_41 rfl (lv_at hl 2 rfl) ?_
        obtain ⟨r8, hr8, h⟩ := bind_inv h
        refine kV (rest := []) (st1 := []) (cr := []) (cs' := [w6 cA a r8]) Z (c_X6_lent l D cA a r7 x1 x2 r8 hr8) 2 gX6_lend_X6_lent rfl hdX6_lent ⟨rfl, rfl⟩ ⟨Nat.le_of_ble_eq_true rfl, Nat.le_of_ble_eq_true rfl⟩ ⟨Nat.zero_le _, Nat.zero_le _⟩ hP hD hS hl.1 rfl rfl rfl (Nat.le_of_ble_eq_true rfl) 6 rfl rfl rfl [0] [] [0] rfl rfl rfl rfl rfl dX6_lend_42 (fun H locs hP hD hS => ?_)
        refine lv_aload_n hx hb dX6_lend_45 rfl (lv_at hl 0 rfl) ?_
        refine lv_iload_n hx hb dX6_lend_46 rfl (lv_at hl 1 rfl) ?_
        obtain ⟨r9, hr9, h⟩ := bind_inv h
        refine kV (rest := []) (st1 := [.int r9]) (cr := []) (cs' := [w6 cA a r8]) Z (c_X6_turns l D cA a r8 x1 r9 hr9) 1 gX6_lend_X6_turns rfl hdX6_turns ⟨rfl, rfl⟩ ⟨Nat.le_of_ble_eq_true rfl, Nat.le_of_ble_eq_true rfl⟩ ⟨Nat.zero_le _, Nat.zero_le _⟩ hP hD hS hl.1 rfl rfl rfl (Nat.le_of_ble_eq_true rfl) 6 rfl rfl rfl [0] [] [0] rfl rfl rfl rfl rfl dX6_lend_47 (fun H locs hP hD hS => ?_)
        have h := Option.some.inj h
        subst h
        exact CT.iret Z hP hD hS dX6_lend_50
      · rw [if_pos hc6] at h
        refine lv_bipush (v := (-2)) hx hb dX6_lend_32 (by decide) ?_
        have h := Option.some.inj h
        subst h
        exact CT.iret Z hP hD hS dX6_lend_34
    · rw [if_pos hc4] at h
      refine lv_iconst (v := (-1)) hx hb dX6_lend_20 (by decide) ?_
      have h := Option.some.inj h
      subst h
      exact CT.iret Z hP hD hS dX6_lend_21

-- X6.tell
noncomputable def f_X6_tell (σ : St6) (x1 : Int32) (x2 : Int32) : Option (Int32 × St6) := ((f_X6_isPerson σ x1).bind (fun r1 => (if r1 = 0 then some ((-1), σ) else (if x2 = (-4) then (if x2 = x1 then some ((-1), σ) else ((f_X6_whom σ x1).bind (fun r5 => (if r5 = x2 then some ((-2), σ) else ((f_X6_notes σ).bind (fun r7 => ((f_X6_tells r7 x1 2 x2).bind (fun r8 => some (r5, r8))))))))) else ((f_X6_isPerson σ x2).bind (fun r9 => (if r9 = 0 then some ((-1), σ) else (if x2 = x1 then some ((-1), σ) else ((f_X6_whom σ x1).bind (fun r12 => (if r12 = x2 then some ((-2), σ) else ((f_X6_notes σ).bind (fun r14 => ((f_X6_tells r14 x1 2 x2).bind (fun r15 => some (r12, r15))))))))))))))))
noncomputable def rmX6_tell : Room := { frames := 2, cells := 0, slots := 0, locals := 46 }
set_option maxHeartbeats 4000000 in
set_option maxRecDepth 100000 in
theorem c_X6_tell (l : Launch) (D : va_G) (cA : Nat → ClassId) (a : Nat → Nat) (σ : St6) (x1 : Int32) (x2 : Int32) (res : Int32 × St6) (h : f_X6_tell σ x1 x2 = some res) : CT l D cA yX6_tell wsX6_tell rmX6_tell [.ref (a 0), .int x1, .int x2] [w6 cA a σ] [w6 cA a res.2] (some (.int res.1)) := by
  refine CT.start (cc := cX6_tell) (maxL := 4) (ret := (some .int)) (by decide) rfl (Nat.le_of_ble_eq_true rfl) ?_
  intro p e s m below meth c Z hP hD hS ls hl
  have Z : Cx p s m _ meth c cX6_tell 4 (some .int) wsX6_tell RX6 D cA := Z
  have hl : lv_has ls 4 [(0, .ref (a 0)), (1, .int x1), (2, .int x2)] := hl
  obtain ⟨hx, hb, hml, hown, hts, hr, hlk, hKK⟩ := id Z
  have hK := hKK.1
  rw [f_X6_tell] at h
  refine lv_aload_n hx hb dX6_tell_0 rfl (lv_at hl 0 rfl) ?_
  refine lv_iload_n hx hb dX6_tell_1 rfl (lv_at hl 1 rfl) ?_
  obtain ⟨r1, hr1, h⟩ := bind_inv h
  refine kV (rest := []) (st1 := [.int r1]) (cr := []) (cs' := [w6 cA a σ]) Z (c_X6_isPerson l D cA a σ x1 r1 hr1) 1 gX6_tell_X6_isPerson rfl hdX6_isPerson ⟨rfl, rfl⟩ ⟨Nat.le_of_ble_eq_true rfl, Nat.le_of_ble_eq_true rfl⟩ ⟨Nat.zero_le _, Nat.zero_le _⟩ hP hD hS hl.1 rfl rfl rfl (Nat.le_of_ble_eq_true rfl) 6 rfl rfl rfl [0] [] [0] rfl rfl rfl rfl rfl dX6_tell_2 (fun H locs hP hD hS => ?_)
  refine lv_if_eq (tgt := 27) hx hb dX6_tell_5 (by decide) (fun hc2 => ?_) (fun hc2 => ?_)
  · rw [if_pos hc2] at h
    refine lv_iconst (v := (-1)) hx hb dX6_tell_27 (by decide) ?_
    have h := Option.some.inj h
    subst h
    exact CT.iret Z hP hD hS dX6_tell_28
  · rw [if_neg hc2] at h
    refine lv_iload_n hx hb dX6_tell_8 rfl (lv_at hl 2 rfl) ?_
    refine lv_bipush (v := (-4)) hx hb dX6_tell_9 (by decide) ?_
    refine lv_icmp_eq (tgt := 22) hx hb dX6_tell_11 (by decide) (fun hc3 => ?_) (fun hc3 => ?_)
    · rw [if_pos hc3] at h
      refine lv_iload_n hx hb dX6_tell_22 rfl (lv_at hl 2 rfl) ?_
      refine lv_iload_n hx hb dX6_tell_23 rfl (lv_at hl 1 rfl) ?_
      refine lv_icmp_ne (tgt := 29) hx hb dX6_tell_24 (by decide) (fun hc4 => ?_) (fun hc4 => ?_)
      · rw [if_neg hc4] at h
        refine lv_aload_n hx hb dX6_tell_29 rfl (lv_at hl 0 rfl) ?_
        refine lv_iload_n hx hb dX6_tell_30 rfl (lv_at hl 1 rfl) ?_
        obtain ⟨r5, hr5, h⟩ := bind_inv h
        refine kV (rest := []) (st1 := [.int r5]) (cr := []) (cs' := [w6 cA a σ]) Z (c_X6_whom l D cA a σ x1 r5 hr5) 1 gX6_tell_X6_whom rfl hdX6_whom ⟨rfl, rfl⟩ ⟨Nat.le_of_ble_eq_true rfl, Nat.le_of_ble_eq_true rfl⟩ ⟨Nat.zero_le _, Nat.zero_le _⟩ hP hD hS hl.1 rfl rfl rfl (Nat.le_of_ble_eq_true rfl) 6 rfl rfl rfl [0] [] [0] rfl rfl rfl rfl rfl dX6_tell_31 (fun H locs hP hD hS => ?_)
        refine lv_istore_n (lv' := [(3, .int r5), (0, .ref (a 0)), (1, .int x1), (2, .int x2)]) hx hb dX6_tell_34 rfl hl (by decide) rfl (fun ls hl => ?_)
        refine lv_iload_n hx hb dX6_tell_35 rfl (lv_at hl 0 rfl) ?_
        refine lv_iload_n hx hb dX6_tell_36 rfl (lv_at hl 3 rfl) ?_
        refine lv_icmp_ne (tgt := 43) hx hb dX6_tell_37 (by decide) (fun hc6 => ?_) (fun hc6 => ?_)
        · rw [if_neg hc6] at h
          refine lv_aload_n hx hb dX6_tell_43 rfl (lv_at hl 1 rfl) ?_
          obtain ⟨r7, hr7, h⟩ := bind_inv h
          refine kV (rest := []) (st1 := []) (cr := []) (cs' := [w6 cA a r7]) Z (c_X6_notes l D cA a σ r7 hr7) 0 gX6_tell_X6_notes rfl hdX6_notes ⟨rfl, rfl⟩ ⟨Nat.le_of_ble_eq_true rfl, Nat.le_of_ble_eq_true rfl⟩ ⟨Nat.zero_le _, Nat.zero_le _⟩ hP hD hS hl.1 rfl rfl rfl (Nat.le_of_ble_eq_true rfl) 6 rfl rfl rfl [0] [] [0] rfl rfl rfl rfl rfl dX6_tell_44 (fun H locs hP hD hS => ?_)
          refine lv_aload_n hx hb dX6_tell_47 rfl (lv_at hl 1 rfl) ?_
          refine lv_iload_n hx hb dX6_tell_48 rfl (lv_at hl 2 rfl) ?_
          refine lv_iconst (v := 2) hx hb dX6_tell_49 (by decide) ?_
          refine lv_iload_n hx hb dX6_tell_50 rfl (lv_at hl 3 rfl) ?_
          obtain ⟨r8, hr8, h⟩ := bind_inv h
          refine kV (rest := []) (st1 := []) (cr := []) (cs' := [w6 cA a r8]) Z (c_X6_tells l D cA a r7 x1 2 x2 r8 hr8) 3 gX6_tell_X6_tells rfl hdX6_tells ⟨rfl, rfl⟩ ⟨Nat.le_of_ble_eq_true rfl, Nat.le_of_ble_eq_true rfl⟩ ⟨Nat.zero_le _, Nat.zero_le _⟩ hP hD hS hl.1 rfl rfl rfl (Nat.le_of_ble_eq_true rfl) 6 rfl rfl rfl [0] [] [0] rfl rfl rfl rfl rfl dX6_tell_51 (fun H locs hP hD hS => ?_)
          refine lv_iload_n hx hb dX6_tell_54 rfl (lv_at hl 0 rfl) ?_
          have h := Option.some.inj h
          subst h
          exact CT.iret Z hP hD hS dX6_tell_55
        · rw [if_pos hc6] at h
          refine lv_bipush (v := (-2)) hx hb dX6_tell_40 (by decide) ?_
          have h := Option.some.inj h
          subst h
          exact CT.iret Z hP hD hS dX6_tell_42
      · rw [if_pos hc4] at h
        refine lv_iconst (v := (-1)) hx hb dX6_tell_27 (by decide) ?_
        have h := Option.some.inj h
        subst h
        exact CT.iret Z hP hD hS dX6_tell_28
    · rw [if_neg hc3] at h
      refine lv_aload_n hx hb dX6_tell_14 rfl (lv_at hl 0 rfl) ?_
      refine lv_iload_n hx hb dX6_tell_15 rfl (lv_at hl 2 rfl) ?_
      obtain ⟨r9, hr9, h⟩ := bind_inv h
      refine kV (rest := []) (st1 := [.int r9]) (cr := []) (cs' := [w6 cA a σ]) Z (c_X6_isPerson l D cA a σ x2 r9 hr9) 1 gX6_tell_X6_isPerson rfl hdX6_isPerson ⟨rfl, rfl⟩ ⟨Nat.le_of_ble_eq_true rfl, Nat.le_of_ble_eq_true rfl⟩ ⟨Nat.zero_le _, Nat.zero_le _⟩ hP hD hS hl.1 rfl rfl rfl (Nat.le_of_ble_eq_true rfl) 6 rfl rfl rfl [0] [] [0] rfl rfl rfl rfl rfl dX6_tell_16 (fun H locs hP hD hS => ?_)
      refine lv_if_eq (tgt := 27) hx hb dX6_tell_19 (by decide) (fun hc10 => ?_) (fun hc10 => ?_)
      · rw [if_pos hc10] at h
        refine lv_iconst (v := (-1)) hx hb dX6_tell_27 (by decide) ?_
        have h := Option.some.inj h
        subst h
        exact CT.iret Z hP hD hS dX6_tell_28
      · rw [if_neg hc10] at h
        refine lv_iload_n hx hb dX6_tell_22 rfl (lv_at hl 2 rfl) ?_
        refine lv_iload_n hx hb dX6_tell_23 rfl (lv_at hl 1 rfl) ?_
        refine lv_icmp_ne (tgt := 29) hx hb dX6_tell_24 (by decide) (fun hc11 => ?_) (fun hc11 => ?_)
        · rw [if_neg hc11] at h
          refine lv_aload_n hx hb dX6_tell_29 rfl (lv_at hl 0 rfl) ?_
          refine lv_iload_n hx hb dX6_tell_30 rfl (lv_at hl 1 rfl) ?_
          obtain ⟨r12, hr12, h⟩ := bind_inv h
          refine kV (rest := []) (st1 := [.int r12]) (cr := []) (cs' := [w6 cA a σ]) Z (c_X6_whom l D cA a σ x1 r12 hr12) 1 gX6_tell_X6_whom rfl hdX6_whom ⟨rfl, rfl⟩ ⟨Nat.le_of_ble_eq_true rfl, Nat.le_of_ble_eq_true rfl⟩ ⟨Nat.zero_le _, Nat.zero_le _⟩ hP hD hS hl.1 rfl rfl rfl (Nat.le_of_ble_eq_true rfl) 6 rfl rfl rfl [0] [] [0] rfl rfl rfl rfl rfl dX6_tell_31 (fun H locs hP hD hS => ?_)
          refine lv_istore_n (lv' := [(3, .int r12), (0, .ref (a 0)), (1, .int x1), (2, .int x2)]) hx hb dX6_tell_34 rfl hl (by decide) rfl (fun ls hl => ?_)
          refine lv_iload_n hx hb dX6_tell_35 rfl (lv_at hl 0 rfl) ?_
          refine lv_iload_n hx hb dX6_tell_36 rfl (lv_at hl 3 rfl) ?_
          refine lv_icmp_ne (tgt := 43) hx hb dX6_tell_37 (by decide) (fun hc13 => ?_) (fun hc13 => ?_)
          · rw [if_neg hc13] at h
            refine lv_aload_n hx hb dX6_tell_43 rfl (lv_at hl 1 rfl) ?_
            obtain ⟨r14, hr14, h⟩ := bind_inv h
            refine kV (rest := []) (st1 := []) (cr := []) (cs' := [w6 cA a r14]) Z (c_X6_notes l D cA a σ r14 hr14) 0 gX6_tell_X6_notes rfl hdX6_notes ⟨rfl, rfl⟩ ⟨Nat.le_of_ble_eq_true rfl, Nat.le_of_ble_eq_true rfl⟩ ⟨Nat.zero_le _, Nat.zero_le _⟩ hP hD hS hl.1 rfl rfl rfl (Nat.le_of_ble_eq_true rfl) 6 rfl rfl rfl [0] [] [0] rfl rfl rfl rfl rfl dX6_tell_44 (fun H locs hP hD hS => ?_)
            refine lv_aload_n hx hb dX6_tell_47 rfl (lv_at hl 1 rfl) ?_
            refine lv_iload_n hx hb dX6_tell_48 rfl (lv_at hl 2 rfl) ?_
            refine lv_iconst (v := 2) hx hb dX6_tell_49 (by decide) ?_
            refine lv_iload_n hx hb dX6_tell_50 rfl (lv_at hl 3 rfl) ?_
            obtain ⟨r15, hr15, h⟩ := bind_inv h
            refine kV (rest := []) (st1 := []) (cr := []) (cs' := [w6 cA a r15]) Z (c_X6_tells l D cA a r14 x1 2 x2 r15 hr15) 3 gX6_tell_X6_tells rfl hdX6_tells ⟨rfl, rfl⟩ ⟨Nat.le_of_ble_eq_true rfl, Nat.le_of_ble_eq_true rfl⟩ ⟨Nat.zero_le _, Nat.zero_le _⟩ hP hD hS hl.1 rfl rfl rfl (Nat.le_of_ble_eq_true rfl) 6 rfl rfl rfl [0] [] [0] rfl rfl rfl rfl rfl dX6_tell_51 (fun H locs hP hD hS => ?_)
            refine lv_iload_n hx hb dX6_tell_54 rfl (lv_at hl 0 rfl) ?_
            have h := Option.some.inj h
            subst h
            exact CT.iret Z hP hD hS dX6_tell_55
          · rw [if_pos hc13] at h
            refine lv_bipush (v := (-2)) hx hb dX6_tell_40 (by decide) ?_
            have h := Option.some.inj h
            subst h
            exact CT.iret Z hP hD hS dX6_tell_42
        · rw [if_pos hc11] at h
          refine lv_iconst (v := (-1)) hx hb dX6_tell_27 (by decide) ?_
          have h := Option.some.inj h
          subst h
          exact CT.iret Z hP hD hS dX6_tell_28

-- X6.cut
theorem ck_X6_cut_164 : Cond.constantLong RX6 164 12 ∈ wsX6_cut := by decide +kernel
noncomputable def f_X6_cut (σ : St6) (x1 : Int32) (x2 : Int32) : Option (Int32 × St6) := ((f_X6_isPerson σ x1).bind (fun r1 => (if r1 = 0 then some ((-1), σ) else ((f_X6_in x2.toInt64 1 12).bind (fun r3 => (if r3 = 0 then some ((-1), σ) else ((f_X6_told σ x1 3).bind (fun r5 => (if r5 = x2 then some ((-2), σ) else ((f_X6_notes σ).bind (fun r7 => ((f_X6_tells r7 x1 3 x2).bind (fun r8 => some (r5, r8))))))))))))))
noncomputable def rmX6_cut : Room := { frames := 2, cells := 0, slots := 0, locals := 46 }
set_option maxHeartbeats 4000000 in
set_option maxRecDepth 100000 in
theorem c_X6_cut (l : Launch) (D : va_G) (cA : Nat → ClassId) (a : Nat → Nat) (σ : St6) (x1 : Int32) (x2 : Int32) (res : Int32 × St6) (h : f_X6_cut σ x1 x2 = some res) : CT l D cA yX6_cut wsX6_cut rmX6_cut [.ref (a 0), .int x1, .int x2] [w6 cA a σ] [w6 cA a res.2] (some (.int res.1)) := by
  refine CT.start (cc := cX6_cut) (maxL := 4) (ret := (some .int)) (by decide) rfl (Nat.le_of_ble_eq_true rfl) ?_
  intro p e s m below meth c Z hP hD hS ls hl
  have Z : Cx p s m _ meth c cX6_cut 4 (some .int) wsX6_cut RX6 D cA := Z
  have hl : lv_has ls 4 [(0, .ref (a 0)), (1, .int x1), (2, .int x2)] := hl
  obtain ⟨hx, hb, hml, hown, hts, hr, hlk, hKK⟩ := id Z
  have hK := hKK.1
  rw [f_X6_cut] at h
  refine lv_aload_n hx hb dX6_cut_0 rfl (lv_at hl 0 rfl) ?_
  refine lv_iload_n hx hb dX6_cut_1 rfl (lv_at hl 1 rfl) ?_
  obtain ⟨r1, hr1, h⟩ := bind_inv h
  refine kV (rest := []) (st1 := [.int r1]) (cr := []) (cs' := [w6 cA a σ]) Z (c_X6_isPerson l D cA a σ x1 r1 hr1) 1 gX6_cut_X6_isPerson rfl hdX6_isPerson ⟨rfl, rfl⟩ ⟨Nat.le_of_ble_eq_true rfl, Nat.le_of_ble_eq_true rfl⟩ ⟨Nat.zero_le _, Nat.zero_le _⟩ hP hD hS hl.1 rfl rfl rfl (Nat.le_of_ble_eq_true rfl) 6 rfl rfl rfl [0] [] [0] rfl rfl rfl rfl rfl dX6_cut_2 (fun H locs hP hD hS => ?_)
  refine lv_if_eq (tgt := 20) hx hb dX6_cut_5 (by decide) (fun hc2 => ?_) (fun hc2 => ?_)
  · rw [if_pos hc2] at h
    refine lv_iconst (v := (-1)) hx hb dX6_cut_20 (by decide) ?_
    have h := Option.some.inj h
    subst h
    exact CT.iret Z hP hD hS dX6_cut_21
  · rw [if_neg hc2] at h
    refine lv_iload_n hx hb dX6_cut_8 rfl (lv_at hl 2 rfl) ?_
    refine lv_i2l (v := x2.toInt64) hx hb dX6_cut_9 rfl ?_
    refine lv_lconst (v := 1) hx hb dX6_cut_10 (by decide) ?_
    refine lv_ldc2 hx hb hown (hts _ ck_X6_cut_164) dX6_cut_11 ?_
    obtain ⟨r3, hr3, h⟩ := bind_inv h
    refine kS (rest := []) (st1 := [.int r3]) (cr := [w6 cA a σ]) (cs' := [w6 cA a σ]) Z (c_X6_in l D cA x2.toInt64 1 12 r3 hr3) 3 gX6_cut_X6_in rfl hdX6_in ⟨rfl, rfl⟩ ⟨Nat.le_of_ble_eq_true rfl, Nat.le_of_ble_eq_true rfl⟩ ⟨Nat.zero_le _, Nat.zero_le _⟩ hP hD hS hl.1 rfl rfl rfl (Nat.le_of_ble_eq_true rfl) [] [0] [0] rfl rfl rfl rfl rfl dX6_cut_14 (fun H locs hP hD hS => ?_)
    refine lv_if_ne (tgt := 22) hx hb dX6_cut_17 (by decide) (fun hc4 => ?_) (fun hc4 => ?_)
    · rw [if_neg hc4] at h
      refine lv_aload_n hx hb dX6_cut_22 rfl (lv_at hl 0 rfl) ?_
      refine lv_iload_n hx hb dX6_cut_23 rfl (lv_at hl 1 rfl) ?_
      refine lv_iconst (v := 3) hx hb dX6_cut_24 (by decide) ?_
      obtain ⟨r5, hr5, h⟩ := bind_inv h
      refine kV (rest := []) (st1 := [.int r5]) (cr := []) (cs' := [w6 cA a σ]) Z (c_X6_told l D cA a σ x1 3 r5 hr5) 2 gX6_cut_X6_told rfl hdX6_told ⟨rfl, rfl⟩ ⟨Nat.le_of_ble_eq_true rfl, Nat.le_of_ble_eq_true rfl⟩ ⟨Nat.zero_le _, Nat.zero_le _⟩ hP hD hS hl.1 rfl rfl rfl (Nat.le_of_ble_eq_true rfl) 6 rfl rfl rfl [0] [] [0] rfl rfl rfl rfl rfl dX6_cut_25 (fun H locs hP hD hS => ?_)
      refine lv_istore_n (lv' := [(3, .int r5), (0, .ref (a 0)), (1, .int x1), (2, .int x2)]) hx hb dX6_cut_28 rfl hl (by decide) rfl (fun ls hl => ?_)
      refine lv_iload_n hx hb dX6_cut_29 rfl (lv_at hl 0 rfl) ?_
      refine lv_iload_n hx hb dX6_cut_30 rfl (lv_at hl 3 rfl) ?_
      refine lv_icmp_ne (tgt := 37) hx hb dX6_cut_31 (by decide) (fun hc6 => ?_) (fun hc6 => ?_)
      · rw [if_neg hc6] at h
        refine lv_aload_n hx hb dX6_cut_37 rfl (lv_at hl 1 rfl) ?_
        obtain ⟨r7, hr7, h⟩ := bind_inv h
        refine kV (rest := []) (st1 := []) (cr := []) (cs' := [w6 cA a r7]) Z (c_X6_notes l D cA a σ r7 hr7) 0 gX6_cut_X6_notes rfl hdX6_notes ⟨rfl, rfl⟩ ⟨Nat.le_of_ble_eq_true rfl, Nat.le_of_ble_eq_true rfl⟩ ⟨Nat.zero_le _, Nat.zero_le _⟩ hP hD hS hl.1 rfl rfl rfl (Nat.le_of_ble_eq_true rfl) 6 rfl rfl rfl [0] [] [0] rfl rfl rfl rfl rfl dX6_cut_38 (fun H locs hP hD hS => ?_)
        refine lv_aload_n hx hb dX6_cut_41 rfl (lv_at hl 1 rfl) ?_
        refine lv_iload_n hx hb dX6_cut_42 rfl (lv_at hl 2 rfl) ?_
        refine lv_iconst (v := 3) hx hb dX6_cut_43 (by decide) ?_
        refine lv_iload_n hx hb dX6_cut_44 rfl (lv_at hl 3 rfl) ?_
        obtain ⟨r8, hr8, h⟩ := bind_inv h
        refine kV (rest := []) (st1 := []) (cr := []) (cs' := [w6 cA a r8]) Z (c_X6_tells l D cA a r7 x1 3 x2 r8 hr8) 3 gX6_cut_X6_tells rfl hdX6_tells ⟨rfl, rfl⟩ ⟨Nat.le_of_ble_eq_true rfl, Nat.le_of_ble_eq_true rfl⟩ ⟨Nat.zero_le _, Nat.zero_le _⟩ hP hD hS hl.1 rfl rfl rfl (Nat.le_of_ble_eq_true rfl) 6 rfl rfl rfl [0] [] [0] rfl rfl rfl rfl rfl dX6_cut_45 (fun H locs hP hD hS => ?_)
        refine lv_iload_n hx hb dX6_cut_48 rfl (lv_at hl 0 rfl) ?_
        have h := Option.some.inj h
        subst h
        exact CT.iret Z hP hD hS dX6_cut_49
      · rw [if_pos hc6] at h
        refine lv_bipush (v := (-2)) hx hb dX6_cut_34 (by decide) ?_
        have h := Option.some.inj h
        subst h
        exact CT.iret Z hP hD hS dX6_cut_36
    · rw [if_pos hc4] at h
      refine lv_iconst (v := (-1)) hx hb dX6_cut_20 (by decide) ?_
      have h := Option.some.inj h
      subst h
      exact CT.iret Z hP hD hS dX6_cut_21

-- X6.drift
theorem ck_X6_drift_140 : Cond.constantLong RX6 140 48 ∈ wsX6_drift := by decide +kernel
theorem lk_X6_drift_7 : Cond.fieldLink RX6 7 "KeyedFeelingsModel" "now" "[I" ∈ wsX6_drift := by decide +kernel
theorem in_X6_drift_X6 : ∀ w ∈ wsX60, w ∈ wsX6_drift := by decide +kernel
theorem ck_X6_drift_166 : Cond.constantLong RX6 166 1103515245 ∈ wsX6_drift := by decide +kernel
theorem ck_X6_drift_168 : Cond.constantLong RX6 168 12345 ∈ wsX6_drift := by decide +kernel
theorem ck_X6_drift_170 : Cond.constantLong RX6 170 2147483647 ∈ wsX6_drift := by decide +kernel
theorem ck_X6_drift_172 : Cond.constant RX6 172 65536 ∈ wsX6_drift := by decide +kernel
noncomputable def lp_X6_drift_33 (x1 : Int32) : Nat → Int32 → St6 → Option (Int32 × St6)
  | 0, _, _ => none
  | n + 1, x2, σ => (if x1 ≤ x2 then some (x2, σ) else ((f_X6_notes σ).bind (fun r5 => (if ((upd (p6_now r5) ((2 : Int32).toNatClampNeg) (((((((p6_now r5) (2 : Int32).toNatClampNeg).toInt64) * 1103515245) + 12345) &&& 2147483647).toInt32)) (0 : Int32).toNatClampNeg) ≤ 0 then ((f_X6_goesBy (s6_now r5 (upd (p6_now r5) ((2 : Int32).toNatClampNeg) (((((((p6_now r5) (2 : Int32).toNatClampNeg).toInt64) * 1103515245) + 12345) &&& 2147483647).toInt32))) 0).bind (fun r7 => lp_X6_drift_33 x1 n (x2 + 1) r7)) else (if ((((upd (p6_now r5) ((2 : Int32).toNatClampNeg) (((((((p6_now r5) (2 : Int32).toNatClampNeg).toInt64) * 1103515245) + 12345) &&& 2147483647).toInt32)) (2 : Int32).toNatClampNeg) / 65536) - (((upd (p6_now r5) ((2 : Int32).toNatClampNeg) (((((((p6_now r5) (2 : Int32).toNatClampNeg).toInt64) * 1103515245) + 12345) &&& 2147483647).toInt32)) (2 : Int32).toNatClampNeg) / 65536) / 4 * 4) = 0 then (if ¬ ((upd (p6_now r5) ((2 : Int32).toNatClampNeg) (((((((p6_now r5) (2 : Int32).toNatClampNeg).toInt64) * 1103515245) + 12345) &&& 2147483647).toInt32)) (0 : Int32).toNatClampNeg) = 0 then ((f_X6_lent (s6_now r5 (upd (p6_now r5) ((2 : Int32).toNatClampNeg) (((((((p6_now r5) (2 : Int32).toNatClampNeg).toInt64) * 1103515245) + 12345) &&& 2147483647).toInt32))) ((((upd (p6_now r5) ((2 : Int32).toNatClampNeg) (((((((p6_now r5) (2 : Int32).toNatClampNeg).toInt64) * 1103515245) + 12345) &&& 2147483647).toInt32)) (2 : Int32).toNatClampNeg) / 128) - (((upd (p6_now r5) ((2 : Int32).toNatClampNeg) (((((((p6_now r5) (2 : Int32).toNatClampNeg).toInt64) * 1103515245) + 12345) &&& 2147483647).toInt32)) (2 : Int32).toNatClampNeg) / 128) / ((upd (p6_now r5) ((2 : Int32).toNatClampNeg) (((((((p6_now r5) (2 : Int32).toNatClampNeg).toInt64) * 1103515245) + 12345) &&& 2147483647).toInt32)) (0 : Int32).toNatClampNeg) * ((upd (p6_now r5) ((2 : Int32).toNatClampNeg) (((((((p6_now r5) (2 : Int32).toNatClampNeg).toInt64) * 1103515245) + 12345) &&& 2147483647).toInt32)) (0 : Int32).toNatClampNeg)) 3).bind (fun r11 => ((f_X6_goesBy r11 0).bind (fun r12 => lp_X6_drift_33 x1 n (x2 + 1) r12)))) else none) else ((f_X6_goesBy (s6_now r5 (upd (p6_now r5) ((2 : Int32).toNatClampNeg) (((((((p6_now r5) (2 : Int32).toNatClampNeg).toInt64) * 1103515245) + 12345) &&& 2147483647).toInt32))) 0).bind (fun r9 => lp_X6_drift_33 x1 n (x2 + 1) r9)))))))
noncomputable def f_X6_drift (σ : St6) (x1 : Int32) : Option (Int32 × St6) := ((f_X6_in x1.toInt64 1 48).bind (fun r1 => (if r1 = 0 then some ((-1), σ) else (if (((p6_now σ) (1 : Int32).toNatClampNeg) + x1) ≤ 9999 then ((lp_X6_drift_33 x1 FU 0 σ).bind (fun q13 => ((f_X6_stopped q13.2).bind (fun r14 => some (r14, q13.2))))) else some ((-3), σ)))))
noncomputable def rmX6_drift : Room := { frames := 5, cells := 0, slots := 0, locals := 112 }
set_option maxHeartbeats 4000000 in
set_option maxRecDepth 100000 in
theorem t_X6_drift_33 {p : Program} {l : Launch} {e : Env} {s : State} {m : MethodId} {args : Array Value} {below : List Frame} {meth : Method} {c : Code} {D : va_G} {cA : Nat → ClassId} {A0 : Nat → Prop} {H0 : Heap} {a : Nat → Nat} (Z : Cx p s m args meth c cX6_drift 3 (some .int) wsX6_drift RX6 D cA) (x1 : Int32) {Q : State → Prop} : ∀ (n : Nat) (x2 : Int32) (σ : St6) (q : Int32 × St6), lp_X6_drift_33 x1 n x2 σ = some q → ∀ (H : Heap) (locs : List Loc) (ls : Array Slot), va_P D vwCl ([w6 cA a σ] : List va_W).flatten H → va_D A0 ([w6 cA a σ] : List va_W).flatten → va_S A0 H0 H locs → lv_has ls 3 [(0, .ref (a 0)), (1, .int x1), (2, .int x2)] → (∀ (H : Heap) (locs : List Loc) (ls : Array Slot), va_P D vwCl ([w6 cA a q.2] : List va_W).flatten H → va_D A0 ([w6 cA a q.2] : List va_W).flatten → va_S A0 H0 H locs → lv_has ls 3 [(0, .ref (a 0)), (1, .int x1), (2, .int q.1)] → W p l e rmX6_drift s m args below meth c H locs 0 0 Q (F0 m 124 ls [])) → W p l e rmX6_drift s m args below meth c H locs 0 0 Q (F0 m 33 ls []) := by
  obtain ⟨hx, hb, hml, hown, hts, hr, hlk, hKK⟩ := id Z
  have hK := hKK.1
  intro n
  induction n with
  | zero =>
    intro x2 σ q h
    rw [lp_X6_drift_33] at h
    cases h
  | succ n ih =>
    intro x2 σ q h H locs ls hP hD hS hl kk
    rw [lp_X6_drift_33] at h
    refine lv_iload_n hx hb dX6_drift_33 rfl (lv_at hl 2 rfl) ?_
    refine lv_iload_n hx hb dX6_drift_34 rfl (lv_at hl 1 rfl) ?_
    refine lv_icmp_ge (tgt := 124) hx hb dX6_drift_35 (by decide) (fun hc4 => ?_) (fun hc4 => ?_)
    · rw [if_pos hc4] at h
      have h := Option.some.inj h
      subst h
      exact kk _ _ _ hP hD hS (lv_sub hl [0, 1, 2] rfl)
    · rw [if_neg hc4] at h
      refine lv_aload_n hx hb dX6_drift_38 rfl (lv_at hl 0 rfl) ?_
      obtain ⟨r5, hr5, h⟩ := bind_inv h
      refine kV (rest := []) (st1 := []) (cr := []) (cs' := [w6 cA a r5]) Z (c_X6_notes l D cA a σ r5 hr5) 0 gX6_drift_X6_notes rfl hdX6_notes ⟨rfl, rfl⟩ ⟨Nat.le_of_ble_eq_true rfl, Nat.le_of_ble_eq_true rfl⟩ ⟨Nat.zero_le _, Nat.zero_le _⟩ hP hD hS hl.1 rfl rfl rfl (Nat.le_of_ble_eq_true rfl) 6 rfl rfl rfl [0] [] [0] rfl rfl rfl rfl rfl dX6_drift_39 (fun H locs hP hD hS => ?_)
      refine lv_aload_n hx hb dX6_drift_42 rfl (lv_at hl 0 rfl) ?_
      refine va_get (D := D) (ci := 6) (v := .ref (a 1)) (C := RX6) (T := TX6) (N := 19) hx hb hts in_X6_drift_X6 hown hK hP 0 rfl rfl 0 (by decide) (hts _ lk_X6_drift_7) (fun _ h9 => h9) rfl dX6_drift_43 ?_
      refine lv_iconst (v := 2) hx hb dX6_drift_46 (by decide) ?_
      refine lv_aload_n hx hb dX6_drift_47 rfl (lv_at hl 0 rfl) ?_
      refine va_get (D := D) (ci := 6) (v := .ref (a 1)) (C := RX6) (T := TX6) (N := 19) hx hb hts in_X6_drift_X6 hown hK hP 0 rfl rfl 0 (by decide) (hts _ lk_X6_drift_7) (fun _ h9 => h9) rfl dX6_drift_48 ?_
      refine lv_iconst (v := 2) hx hb dX6_drift_51 (by decide) ?_
      refine va_iald hx hb hK hP 1 0 rfl rfl (inB_in (by decide)) dX6_drift_52 ?_
      refine lv_i2l (v := ((p6_now r5) (2 : Int32).toNatClampNeg).toInt64) hx hb dX6_drift_53 rfl ?_
      refine lv_ldc2 hx hb hown (hts _ ck_X6_drift_166) dX6_drift_54 ?_
      refine lv_lmul hx hb dX6_drift_57 ?_
      refine lv_ldc2 hx hb hown (hts _ ck_X6_drift_168) dX6_drift_58 ?_
      refine lv_ladd hx hb dX6_drift_61 ?_
      refine lv_ldc2 hx hb hown (hts _ ck_X6_drift_170) dX6_drift_62 ?_
      refine lv_land hx hb dX6_drift_65 ?_
      refine lv_l2i (v := ((((((p6_now r5) (2 : Int32).toNatClampNeg).toInt64) * 1103515245) + 12345) &&& 2147483647).toInt32) hx hb dX6_drift_66 rfl ?_
      refine va_iast hx hb hK hP hD hS 1 0 rfl rfl (inB_in (by decide)) dX6_drift_67 (fun H locs hP hD hS => ?_)
      have hP : va_P D vwCl ([w6 cA a (s6_now r5 (upd (p6_now r5) ((2 : Int32).toNatClampNeg) (((((((p6_now r5) (2 : Int32).toNatClampNeg).toInt64) * 1103515245) + 12345) &&& 2147483647).toInt32)))] : List va_W).flatten H := hP
      have hD : va_D _ ([w6 cA a (s6_now r5 (upd (p6_now r5) ((2 : Int32).toNatClampNeg) (((((((p6_now r5) (2 : Int32).toNatClampNeg).toInt64) * 1103515245) + 12345) &&& 2147483647).toInt32)))] : List va_W).flatten := hD
      refine lv_aload_n hx hb dX6_drift_68 rfl (lv_at hl 0 rfl) ?_
      refine va_get (D := D) (ci := 6) (v := .ref (a 1)) (C := RX6) (T := TX6) (N := 19) hx hb hts in_X6_drift_X6 hown hK hP 0 rfl rfl 0 (by decide) (hts _ lk_X6_drift_7) (fun _ h9 => h9) rfl dX6_drift_69 ?_
      refine lv_iconst (v := 0) hx hb dX6_drift_72 (by decide) ?_
      refine va_iald hx hb hK hP 1 0 rfl rfl (inB_in (by decide)) dX6_drift_73 ?_
      refine lv_if_le (tgt := 113) hx hb dX6_drift_74 (by decide) (fun hc6 => ?_) (fun hc6 => ?_)
      · rw [if_pos hc6] at h
        refine lv_aload_n hx hb dX6_drift_113 rfl (lv_at hl 0 rfl) ?_
        refine lv_iconst (v := 0) hx hb dX6_drift_114 (by decide) ?_
        obtain ⟨r7, hr7, h⟩ := bind_inv h
        refine kV (rest := []) (st1 := []) (cr := []) (cs' := [w6 cA a r7]) Z (c_X6_goesBy l D cA a (s6_now r5 (upd (p6_now r5) ((2 : Int32).toNatClampNeg) (((((((p6_now r5) (2 : Int32).toNatClampNeg).toInt64) * 1103515245) + 12345) &&& 2147483647).toInt32))) 0 r7 hr7) 1 gX6_drift_X6_goesBy rfl hdX6_goesBy ⟨rfl, rfl⟩ ⟨Nat.le_of_ble_eq_true rfl, Nat.le_of_ble_eq_true rfl⟩ ⟨Nat.zero_le _, Nat.zero_le _⟩ hP hD hS hl.1 rfl rfl rfl (Nat.le_of_ble_eq_true rfl) 6 rfl rfl rfl [0] [] [0] rfl rfl rfl rfl rfl dX6_drift_115 (fun H locs hP hD hS => ?_)
        refine lv_iinc (v := x2 + 1) (lv' := [(2, .int (x2 + 1)), (0, .ref (a 0)), (1, .int x1)]) hx hb dX6_drift_118 hl (k := 2) rfl rfl (by decide) rfl (fun ls hl => ?_)
        refine lv_goto (tgt := 33) hx hb dX6_drift_121 (by decide) ?_
        exact ih _ _ _ h _ _ _ hP hD hS (lv_sub hl [1, 2, 0] rfl) kk
      · rw [if_neg hc6] at h
        refine lv_aload_n hx hb dX6_drift_77 rfl (lv_at hl 0 rfl) ?_
        refine va_get (D := D) (ci := 6) (v := .ref (a 1)) (C := RX6) (T := TX6) (N := 19) hx hb hts in_X6_drift_X6 hown hK hP 0 rfl rfl 0 (by decide) (hts _ lk_X6_drift_7) (fun _ h9 => h9) rfl dX6_drift_78 ?_
        refine lv_iconst (v := 2) hx hb dX6_drift_81 (by decide) ?_
        refine va_iald hx hb hK hP 1 0 rfl rfl (inB_in (by decide)) dX6_drift_82 ?_
        refine lv_ldc hx hb hown (hts _ ck_X6_drift_172) dX6_drift_83 ?_
        refine lv_idiv hx hb dX6_drift_85 (by decide) ?_
        refine lv_iconst (v := 4) hx hb dX6_drift_86 (by decide) ?_
        refine lv_irem hx hb dX6_drift_87 (by decide) ?_
        refine lv_if_ne (tgt := 113) hx hb dX6_drift_88 (by decide) (fun hc8 => ?_) (fun hc8 => ?_)
        · rw [if_neg hc8] at h
          refine lv_aload_n hx hb dX6_drift_113 rfl (lv_at hl 0 rfl) ?_
          refine lv_iconst (v := 0) hx hb dX6_drift_114 (by decide) ?_
          obtain ⟨r9, hr9, h⟩ := bind_inv h
          refine kV (rest := []) (st1 := []) (cr := []) (cs' := [w6 cA a r9]) Z (c_X6_goesBy l D cA a (s6_now r5 (upd (p6_now r5) ((2 : Int32).toNatClampNeg) (((((((p6_now r5) (2 : Int32).toNatClampNeg).toInt64) * 1103515245) + 12345) &&& 2147483647).toInt32))) 0 r9 hr9) 1 gX6_drift_X6_goesBy rfl hdX6_goesBy ⟨rfl, rfl⟩ ⟨Nat.le_of_ble_eq_true rfl, Nat.le_of_ble_eq_true rfl⟩ ⟨Nat.zero_le _, Nat.zero_le _⟩ hP hD hS hl.1 rfl rfl rfl (Nat.le_of_ble_eq_true rfl) 6 rfl rfl rfl [0] [] [0] rfl rfl rfl rfl rfl dX6_drift_115 (fun H locs hP hD hS => ?_)
          refine lv_iinc (v := x2 + 1) (lv' := [(2, .int (x2 + 1)), (0, .ref (a 0)), (1, .int x1)]) hx hb dX6_drift_118 hl (k := 2) rfl rfl (by decide) rfl (fun ls hl => ?_)
          refine lv_goto (tgt := 33) hx hb dX6_drift_121 (by decide) ?_
          exact ih _ _ _ h _ _ _ hP hD hS (lv_sub hl [1, 2, 0] rfl) kk
        · rw [if_pos hc8] at h
          refine lv_aload_n hx hb dX6_drift_91 rfl (lv_at hl 0 rfl) ?_
          refine lv_aload_n hx hb dX6_drift_92 rfl (lv_at hl 0 rfl) ?_
          refine va_get (D := D) (ci := 6) (v := .ref (a 1)) (C := RX6) (T := TX6) (N := 19) hx hb hts in_X6_drift_X6 hown hK hP 0 rfl rfl 0 (by decide) (hts _ lk_X6_drift_7) (fun _ h9 => h9) rfl dX6_drift_93 ?_
          refine lv_iconst (v := 2) hx hb dX6_drift_96 (by decide) ?_
          refine va_iald hx hb hK hP 1 0 rfl rfl (inB_in (by decide)) dX6_drift_97 ?_
          refine lv_sipush (v := 128) hx hb dX6_drift_98 (by decide) ?_
          refine lv_idiv hx hb dX6_drift_101 (by decide) ?_
          refine lv_aload_n hx hb dX6_drift_102 rfl (lv_at hl 0 rfl) ?_
          refine va_get (D := D) (ci := 6) (v := .ref (a 1)) (C := RX6) (T := TX6) (N := 19) hx hb hts in_X6_drift_X6 hown hK hP 0 rfl rfl 0 (by decide) (hts _ lk_X6_drift_7) (fun _ h9 => h9) rfl dX6_drift_103 ?_
          refine lv_iconst (v := 0) hx hb dX6_drift_106 (by decide) ?_
          refine va_iald hx hb hK hP 1 0 rfl rfl (inB_in (by decide)) dX6_drift_107 ?_
          obtain ⟨hg10, h⟩ := if_inv h
          refine lv_irem hx hb dX6_drift_108 hg10 ?_
          refine lv_iconst (v := 3) hx hb dX6_drift_109 (by decide) ?_
          obtain ⟨r11, hr11, h⟩ := bind_inv h
          refine kV (rest := []) (st1 := []) (cr := []) (cs' := [w6 cA a r11]) Z (c_X6_lent l D cA a (s6_now r5 (upd (p6_now r5) ((2 : Int32).toNatClampNeg) (((((((p6_now r5) (2 : Int32).toNatClampNeg).toInt64) * 1103515245) + 12345) &&& 2147483647).toInt32))) ((((upd (p6_now r5) ((2 : Int32).toNatClampNeg) (((((((p6_now r5) (2 : Int32).toNatClampNeg).toInt64) * 1103515245) + 12345) &&& 2147483647).toInt32)) (2 : Int32).toNatClampNeg) / 128) - (((upd (p6_now r5) ((2 : Int32).toNatClampNeg) (((((((p6_now r5) (2 : Int32).toNatClampNeg).toInt64) * 1103515245) + 12345) &&& 2147483647).toInt32)) (2 : Int32).toNatClampNeg) / 128) / ((upd (p6_now r5) ((2 : Int32).toNatClampNeg) (((((((p6_now r5) (2 : Int32).toNatClampNeg).toInt64) * 1103515245) + 12345) &&& 2147483647).toInt32)) (0 : Int32).toNatClampNeg) * ((upd (p6_now r5) ((2 : Int32).toNatClampNeg) (((((((p6_now r5) (2 : Int32).toNatClampNeg).toInt64) * 1103515245) + 12345) &&& 2147483647).toInt32)) (0 : Int32).toNatClampNeg)) 3 r11 hr11) 2 gX6_drift_X6_lent rfl hdX6_lent ⟨rfl, rfl⟩ ⟨Nat.le_of_ble_eq_true rfl, Nat.le_of_ble_eq_true rfl⟩ ⟨Nat.zero_le _, Nat.zero_le _⟩ hP hD hS hl.1 rfl rfl rfl (Nat.le_of_ble_eq_true rfl) 6 rfl rfl rfl [0] [] [0] rfl rfl rfl rfl rfl dX6_drift_110 (fun H locs hP hD hS => ?_)
          refine lv_aload_n hx hb dX6_drift_113 rfl (lv_at hl 0 rfl) ?_
          refine lv_iconst (v := 0) hx hb dX6_drift_114 (by decide) ?_
          obtain ⟨r12, hr12, h⟩ := bind_inv h
          refine kV (rest := []) (st1 := []) (cr := []) (cs' := [w6 cA a r12]) Z (c_X6_goesBy l D cA a r11 0 r12 hr12) 1 gX6_drift_X6_goesBy rfl hdX6_goesBy ⟨rfl, rfl⟩ ⟨Nat.le_of_ble_eq_true rfl, Nat.le_of_ble_eq_true rfl⟩ ⟨Nat.zero_le _, Nat.zero_le _⟩ hP hD hS hl.1 rfl rfl rfl (Nat.le_of_ble_eq_true rfl) 6 rfl rfl rfl [0] [] [0] rfl rfl rfl rfl rfl dX6_drift_115 (fun H locs hP hD hS => ?_)
          refine lv_iinc (v := x2 + 1) (lv' := [(2, .int (x2 + 1)), (0, .ref (a 0)), (1, .int x1)]) hx hb dX6_drift_118 hl (k := 2) rfl rfl (by decide) rfl (fun ls hl => ?_)
          refine lv_goto (tgt := 33) hx hb dX6_drift_121 (by decide) ?_
          exact ih _ _ _ h _ _ _ hP hD hS (lv_sub hl [1, 2, 0] rfl) kk
set_option maxHeartbeats 4000000 in
set_option maxRecDepth 100000 in
theorem c_X6_drift (l : Launch) (D : va_G) (cA : Nat → ClassId) (a : Nat → Nat) (σ : St6) (x1 : Int32) (res : Int32 × St6) (h : f_X6_drift σ x1 = some res) : CT l D cA yX6_drift wsX6_drift rmX6_drift [.ref (a 0), .int x1] [w6 cA a σ] [w6 cA a res.2] (some (.int res.1)) := by
  refine CT.start (cc := cX6_drift) (maxL := 3) (ret := (some .int)) (by decide) rfl (Nat.le_of_ble_eq_true rfl) ?_
  intro p e s m below meth c Z hP hD hS ls hl
  have Z : Cx p s m _ meth c cX6_drift 3 (some .int) wsX6_drift RX6 D cA := Z
  have hl : lv_has ls 3 [(0, .ref (a 0)), (1, .int x1)] := hl
  obtain ⟨hx, hb, hml, hown, hts, hr, hlk, hKK⟩ := id Z
  have hK := hKK.1
  rw [f_X6_drift] at h
  refine lv_iload_n hx hb dX6_drift_0 rfl (lv_at hl 1 rfl) ?_
  refine lv_i2l (v := x1.toInt64) hx hb dX6_drift_1 rfl ?_
  refine lv_lconst (v := 1) hx hb dX6_drift_2 (by decide) ?_
  refine lv_ldc2 hx hb hown (hts _ ck_X6_drift_140) dX6_drift_3 ?_
  obtain ⟨r1, hr1, h⟩ := bind_inv h
  refine kS (rest := []) (st1 := [.int r1]) (cr := [w6 cA a σ]) (cs' := [w6 cA a σ]) Z (c_X6_in l D cA x1.toInt64 1 48 r1 hr1) 3 gX6_drift_X6_in rfl hdX6_in ⟨rfl, rfl⟩ ⟨Nat.le_of_ble_eq_true rfl, Nat.le_of_ble_eq_true rfl⟩ ⟨Nat.zero_le _, Nat.zero_le _⟩ hP hD hS hl.1 rfl rfl rfl (Nat.le_of_ble_eq_true rfl) [] [0] [0] rfl rfl rfl rfl rfl dX6_drift_6 (fun H locs hP hD hS => ?_)
  refine lv_if_ne (tgt := 14) hx hb dX6_drift_9 (by decide) (fun hc2 => ?_) (fun hc2 => ?_)
  · rw [if_neg hc2] at h
    refine lv_aload_n hx hb dX6_drift_14 rfl (lv_at hl 0 rfl) ?_
    refine va_get (D := D) (ci := 6) (v := .ref (a 1)) (C := RX6) (T := TX6) (N := 19) hx hb hts in_X6_drift_X6 hown hK hP 0 rfl rfl 0 (by decide) (hts _ lk_X6_drift_7) (fun _ h9 => h9) rfl dX6_drift_15 ?_
    refine lv_iconst (v := 1) hx hb dX6_drift_18 (by decide) ?_
    refine va_iald hx hb hK hP 1 0 rfl rfl (inB_in (by decide)) dX6_drift_19 ?_
    refine lv_iload_n hx hb dX6_drift_20 rfl (lv_at hl 1 rfl) ?_
    refine lv_iadd hx hb dX6_drift_21 ?_
    refine lv_sipush (v := 9999) hx hb dX6_drift_22 (by decide) ?_
    refine lv_icmp_le (tgt := 31) hx hb dX6_drift_25 (by decide) (fun hc3 => ?_) (fun hc3 => ?_)
    · rw [if_pos hc3] at h
      refine lv_iconst (v := 0) hx hb dX6_drift_31 (by decide) ?_
      refine lv_istore_n (lv' := [(2, .int 0), (0, .ref (a 0)), (1, .int x1)]) hx hb dX6_drift_32 rfl hl (by decide) rfl (fun ls hl => ?_)
      obtain ⟨q13, hq13, h⟩ := bind_inv h
      refine t_X6_drift_33 Z x1 FU _ _ _ hq13 _ _ _ hP hD hS (lv_sub hl [1, 2, 0] rfl) (fun H locs ls hP hD hS hl => ?_)
      refine lv_aload_n hx hb dX6_drift_124 rfl (lv_at hl 0 rfl) ?_
      obtain ⟨r14, hr14, h⟩ := bind_inv h
      refine kV (rest := []) (st1 := [.int r14]) (cr := []) (cs' := [w6 cA a q13.2]) Z (c_X6_stopped l D cA a q13.2 r14 hr14) 0 gX6_drift_X6_stopped rfl hdX6_stopped ⟨rfl, rfl⟩ ⟨Nat.le_of_ble_eq_true rfl, Nat.le_of_ble_eq_true rfl⟩ ⟨Nat.zero_le _, Nat.zero_le _⟩ hP hD hS hl.1 rfl rfl rfl (Nat.le_of_ble_eq_true rfl) 6 rfl rfl rfl [0] [] [0] rfl rfl rfl rfl rfl dX6_drift_125 (fun H locs hP hD hS => ?_)
      have h := Option.some.inj h
      subst h
      exact CT.iret Z hP hD hS dX6_drift_128
    · rw [if_neg hc3] at h
      refine lv_bipush (v := (-3)) hx hb dX6_drift_28 (by decide) ?_
      have h := Option.some.inj h
      subst h
      exact CT.iret Z hP hD hS dX6_drift_30
  · rw [if_pos hc2] at h
    refine lv_iconst (v := (-1)) hx hb dX6_drift_12 (by decide) ?_
    have h := Option.some.inj h
    subst h
    exact CT.iret Z hP hD hS dX6_drift_13

-- X6.undo
theorem lk_X6_undo_90 : Cond.fieldLink RX6 90 "KeyedFeelingsModel" "undos" "I" ∈ wsX6_undo := by decide +kernel
theorem in_X6_undo_X6 : ∀ w ∈ wsX60, w ∈ wsX6_undo := by decide +kernel
theorem lk_X6_undo_7 : Cond.fieldLink RX6 7 "KeyedFeelingsModel" "now" "[I" ∈ wsX6_undo := by decide +kernel
theorem lk_X6_undo_22 : Cond.fieldLink RX6 22 "KeyedFeelingsModel" "undone" "[I" ∈ wsX6_undo := by decide +kernel
noncomputable def lp_X6_undo_22  : Nat → Int32 → St6 → Option (Int32 × St6)
  | 0, _, _ => none
  | n + 1, x1, σ => (if 27 ≤ x1 then some (x1, σ) else (if inB ((27 * (p6_undos σ)) + x1) 216 = true then (if inB x1 27 = true then lp_X6_undo_22  n (x1 + 1) (s6_now σ (upd (p6_now σ) x1.toNatClampNeg ((p6_undone σ) ((27 * (p6_undos σ)) + x1).toNatClampNeg))) else none) else none))
noncomputable def f_X6_undo (σ : St6) : Option (Int32 × St6) := (if (p6_undos σ) = 0 then some ((-4), σ) else ((lp_X6_undo_22  FU 0 (s6_undos σ ((p6_undos σ) - 1))).bind (fun q5 => some (p6_undos q5.2, q5.2))))
noncomputable def rmX6_undo : Room := { frames := 0, cells := 0, slots := 0, locals := 0 }
set_option maxHeartbeats 4000000 in
set_option maxRecDepth 100000 in
theorem t_X6_undo_22 {p : Program} {l : Launch} {e : Env} {s : State} {m : MethodId} {args : Array Value} {below : List Frame} {meth : Method} {c : Code} {D : va_G} {cA : Nat → ClassId} {A0 : Nat → Prop} {H0 : Heap} {a : Nat → Nat} (Z : Cx p s m args meth c cX6_undo 2 (some .int) wsX6_undo RX6 D cA)  {Q : State → Prop} : ∀ (n : Nat) (x1 : Int32) (σ : St6) (q : Int32 × St6), lp_X6_undo_22  n x1 σ = some q → ∀ (H : Heap) (locs : List Loc) (ls : Array Slot), va_P D vwCl ([w6 cA a σ] : List va_W).flatten H → va_D A0 ([w6 cA a σ] : List va_W).flatten → va_S A0 H0 H locs → lv_has ls 2 [(0, .ref (a 0)), (1, .int x1)] → (∀ (H : Heap) (locs : List Loc) (ls : Array Slot), va_P D vwCl ([w6 cA a q.2] : List va_W).flatten H → va_D A0 ([w6 cA a q.2] : List va_W).flatten → va_S A0 H0 H locs → lv_has ls 2 [(0, .ref (a 0)), (1, .int q.1)] → W p l e rmX6_undo s m args below meth c H locs 0 0 Q (F0 m 54 ls [])) → W p l e rmX6_undo s m args below meth c H locs 0 0 Q (F0 m 22 ls []) := by
  obtain ⟨hx, hb, hml, hown, hts, hr, hlk, hKK⟩ := id Z
  have hK := hKK.1
  intro n
  induction n with
  | zero =>
    intro x1 σ q h
    rw [lp_X6_undo_22] at h
    cases h
  | succ n ih =>
    intro x1 σ q h H locs ls hP hD hS hl kk
    rw [lp_X6_undo_22] at h
    refine lv_iload_n hx hb dX6_undo_22 rfl (lv_at hl 1 rfl) ?_
    refine lv_bipush (v := 27) hx hb dX6_undo_23 (by decide) ?_
    refine lv_icmp_ge (tgt := 54) hx hb dX6_undo_25 (by decide) (fun hc2 => ?_) (fun hc2 => ?_)
    · rw [if_pos hc2] at h
      have h := Option.some.inj h
      subst h
      exact kk _ _ _ hP hD hS (lv_sub hl [0, 1] rfl)
    · rw [if_neg hc2] at h
      refine lv_aload_n hx hb dX6_undo_28 rfl (lv_at hl 0 rfl) ?_
      refine va_get (D := D) (ci := 6) (v := .ref (a 1)) (C := RX6) (T := TX6) (N := 19) hx hb hts in_X6_undo_X6 hown hK hP 0 rfl rfl 0 (by decide) (hts _ lk_X6_undo_7) (fun _ h9 => h9) rfl dX6_undo_29 ?_
      refine lv_iload_n hx hb dX6_undo_32 rfl (lv_at hl 1 rfl) ?_
      refine lv_aload_n hx hb dX6_undo_33 rfl (lv_at hl 0 rfl) ?_
      refine va_get (D := D) (ci := 6) (v := .ref (a 5)) (C := RX6) (T := TX6) (N := 19) hx hb hts in_X6_undo_X6 hown hK hP 0 rfl rfl 7 (by decide) (hts _ lk_X6_undo_22) (fun _ h9 => h9) rfl dX6_undo_34 ?_
      refine lv_bipush (v := 27) hx hb dX6_undo_37 (by decide) ?_
      refine lv_aload_n hx hb dX6_undo_39 rfl (lv_at hl 0 rfl) ?_
      refine va_get (D := D) (ci := 6) (v := .int (p6_undos σ)) (C := RX6) (T := TX6) (N := 19) hx hb hts in_X6_undo_X6 hown hK hP 0 rfl rfl 8 (by decide) (hts _ lk_X6_undo_90) (fun _ h9 => h9) rfl dX6_undo_40 ?_
      refine lv_imul hx hb dX6_undo_43 ?_
      refine lv_iload_n hx hb dX6_undo_44 rfl (lv_at hl 1 rfl) ?_
      refine lv_iadd hx hb dX6_undo_45 ?_
      obtain ⟨hg3, h⟩ := if_inv h
      refine va_iald hx hb hK hP 5 0 rfl rfl (inB_in hg3) dX6_undo_46 ?_
      obtain ⟨hg4, h⟩ := if_inv h
      refine va_iast hx hb hK hP hD hS 1 0 rfl rfl (inB_in hg4) dX6_undo_47 (fun H locs hP hD hS => ?_)
      have hP : va_P D vwCl ([w6 cA a (s6_now σ (upd (p6_now σ) x1.toNatClampNeg ((p6_undone σ) ((27 * (p6_undos σ)) + x1).toNatClampNeg)))] : List va_W).flatten H := hP
      have hD : va_D _ ([w6 cA a (s6_now σ (upd (p6_now σ) x1.toNatClampNeg ((p6_undone σ) ((27 * (p6_undos σ)) + x1).toNatClampNeg)))] : List va_W).flatten := hD
      refine lv_iinc (v := x1 + 1) (lv' := [(1, .int (x1 + 1)), (0, .ref (a 0))]) hx hb dX6_undo_48 hl (k := 1) rfl rfl (by decide) rfl (fun ls hl => ?_)
      refine lv_goto (tgt := 22) hx hb dX6_undo_51 (by decide) ?_
      exact ih _ _ _ h _ _ _ hP hD hS (lv_sub hl [1, 0] rfl) kk
set_option maxHeartbeats 4000000 in
set_option maxRecDepth 100000 in
theorem c_X6_undo (l : Launch) (D : va_G) (cA : Nat → ClassId) (a : Nat → Nat) (σ : St6) (res : Int32 × St6) (h : f_X6_undo σ = some res) : CT l D cA yX6_undo wsX6_undo rmX6_undo [.ref (a 0)] [w6 cA a σ] [w6 cA a res.2] (some (.int res.1)) := by
  refine CT.start (cc := cX6_undo) (maxL := 2) (ret := (some .int)) (by decide) rfl (Nat.le_of_ble_eq_true rfl) ?_
  intro p e s m below meth c Z hP hD hS ls hl
  have Z : Cx p s m _ meth c cX6_undo 2 (some .int) wsX6_undo RX6 D cA := Z
  have hl : lv_has ls 2 [(0, .ref (a 0))] := hl
  obtain ⟨hx, hb, hml, hown, hts, hr, hlk, hKK⟩ := id Z
  have hK := hKK.1
  rw [f_X6_undo] at h
  refine lv_aload_n hx hb dX6_undo_0 rfl (lv_at hl 0 rfl) ?_
  refine va_get (D := D) (ci := 6) (v := .int (p6_undos σ)) (C := RX6) (T := TX6) (N := 19) hx hb hts in_X6_undo_X6 hown hK hP 0 rfl rfl 8 (by decide) (hts _ lk_X6_undo_90) (fun _ h9 => h9) rfl dX6_undo_1 ?_
  refine lv_if_ne (tgt := 10) hx hb dX6_undo_4 (by decide) (fun hc1 => ?_) (fun hc1 => ?_)
  · rw [if_neg hc1] at h
    refine lv_aload_n hx hb dX6_undo_10 rfl (lv_at hl 0 rfl) ?_
    refine lv_dup hx hb dX6_undo_11 rfl ?_
    refine va_get (D := D) (ci := 6) (v := .int (p6_undos σ)) (C := RX6) (T := TX6) (N := 19) hx hb hts in_X6_undo_X6 hown hK hP 0 rfl rfl 8 (by decide) (hts _ lk_X6_undo_90) (fun _ h9 => h9) rfl dX6_undo_12 ?_
    refine lv_iconst (v := 1) hx hb dX6_undo_15 (by decide) ?_
    refine lv_isub hx hb dX6_undo_16 ?_
    refine va_put (D := D) (ci := 6) (v := .int ((p6_undos σ) - 1)) (ty := .int) (C := RX6) (T := TX6) (N := 19) hx hb hts in_X6_undo_X6 tyX6 tyX6_ok nmX6 hown hK hP hD hS 0 rfl rfl 8 (by decide) (hts _ lk_X6_undo_90) (fun _ h9 => h9) rfl (tyX6_ok 8 (by decide)) rfl rfl (Nat.le_of_ble_eq_true rfl) dX6_undo_17 (fun H locs hP hD hS => ?_)
    have hP : va_P D vwCl ([w6 cA a (s6_undos σ ((p6_undos σ) - 1))] : List va_W).flatten H := hP
    have hD : va_D _ ([w6 cA a (s6_undos σ ((p6_undos σ) - 1))] : List va_W).flatten := hD
    refine lv_iconst (v := 0) hx hb dX6_undo_20 (by decide) ?_
    refine lv_istore_n (lv' := [(1, .int 0), (0, .ref (a 0))]) hx hb dX6_undo_21 rfl hl (by decide) rfl (fun ls hl => ?_)
    obtain ⟨q5, hq5, h⟩ := bind_inv h
    refine t_X6_undo_22 Z  FU _ _ _ hq5 _ _ _ hP hD hS (lv_sub hl [1, 0] rfl) (fun H locs ls hP hD hS hl => ?_)
    refine lv_aload_n hx hb dX6_undo_54 rfl (lv_at hl 0 rfl) ?_
    refine va_get (D := D) (ci := 6) (v := .int (p6_undos q5.2)) (C := RX6) (T := TX6) (N := 19) hx hb hts in_X6_undo_X6 hown hK hP 0 rfl rfl 8 (by decide) (hts _ lk_X6_undo_90) (fun _ h9 => h9) rfl dX6_undo_55 ?_
    have h := Option.some.inj h
    subst h
    exact CT.iret Z hP hD hS dX6_undo_58
  · rw [if_pos hc1] at h
    refine lv_bipush (v := (-4)) hx hb dX6_undo_7 (by decide) ?_
    have h := Option.some.inj h
    subst h
    exact CT.iret Z hP hD hS dX6_undo_9

-- X6.seed
theorem lk_X6_seed_7 : Cond.fieldLink RX6 7 "KeyedFeelingsModel" "now" "[I" ∈ wsX6_seed := by decide +kernel
theorem in_X6_seed_X6 : ∀ w ∈ wsX60, w ∈ wsX6_seed := by decide +kernel
noncomputable def f_X6_seed (σ : St6) (x1 : Int32) : Option (Int32 × St6) := (if 0 ≤ x1 then some ((p6_now σ) (2 : Int32).toNatClampNeg, (s6_now σ (upd (p6_now σ) ((2 : Int32).toNatClampNeg) x1))) else some ((-1), σ))
noncomputable def rmX6_seed : Room := { frames := 0, cells := 0, slots := 0, locals := 0 }
set_option maxHeartbeats 4000000 in
set_option maxRecDepth 100000 in
theorem c_X6_seed (l : Launch) (D : va_G) (cA : Nat → ClassId) (a : Nat → Nat) (σ : St6) (x1 : Int32) (res : Int32 × St6) (h : f_X6_seed σ x1 = some res) : CT l D cA yX6_seed wsX6_seed rmX6_seed [.ref (a 0), .int x1] [w6 cA a σ] [w6 cA a res.2] (some (.int res.1)) := by
  refine CT.start (cc := cX6_seed) (maxL := 3) (ret := (some .int)) (by decide) rfl (Nat.le_of_ble_eq_true rfl) ?_
  intro p e s m below meth c Z hP hD hS ls hl
  have Z : Cx p s m _ meth c cX6_seed 3 (some .int) wsX6_seed RX6 D cA := Z
  have hl : lv_has ls 3 [(0, .ref (a 0)), (1, .int x1)] := hl
  obtain ⟨hx, hb, hml, hown, hts, hr, hlk, hKK⟩ := id Z
  have hK := hKK.1
  rw [f_X6_seed] at h
  refine lv_iload_n hx hb dX6_seed_0 rfl (lv_at hl 1 rfl) ?_
  refine lv_if_ge (tgt := 6) hx hb dX6_seed_1 (by decide) (fun hc1 => ?_) (fun hc1 => ?_)
  · rw [if_pos hc1] at h
    refine lv_aload_n hx hb dX6_seed_6 rfl (lv_at hl 0 rfl) ?_
    refine va_get (D := D) (ci := 6) (v := .ref (a 1)) (C := RX6) (T := TX6) (N := 19) hx hb hts in_X6_seed_X6 hown hK hP 0 rfl rfl 0 (by decide) (hts _ lk_X6_seed_7) (fun _ h9 => h9) rfl dX6_seed_7 ?_
    refine lv_iconst (v := 2) hx hb dX6_seed_10 (by decide) ?_
    refine va_iald hx hb hK hP 1 0 rfl rfl (inB_in (by decide)) dX6_seed_11 ?_
    refine lv_istore_n (lv' := [(2, .int ((p6_now σ) (2 : Int32).toNatClampNeg)), (0, .ref (a 0)), (1, .int x1)]) hx hb dX6_seed_12 rfl hl (by decide) rfl (fun ls hl => ?_)
    refine lv_aload_n hx hb dX6_seed_13 rfl (lv_at hl 1 rfl) ?_
    refine va_get (D := D) (ci := 6) (v := .ref (a 1)) (C := RX6) (T := TX6) (N := 19) hx hb hts in_X6_seed_X6 hown hK hP 0 rfl rfl 0 (by decide) (hts _ lk_X6_seed_7) (fun _ h9 => h9) rfl dX6_seed_14 ?_
    refine lv_iconst (v := 2) hx hb dX6_seed_17 (by decide) ?_
    refine lv_iload_n hx hb dX6_seed_18 rfl (lv_at hl 2 rfl) ?_
    refine va_iast hx hb hK hP hD hS 1 0 rfl rfl (inB_in (by decide)) dX6_seed_19 (fun H locs hP hD hS => ?_)
    have hP : va_P D vwCl ([w6 cA a (s6_now σ (upd (p6_now σ) ((2 : Int32).toNatClampNeg) x1))] : List va_W).flatten H := hP
    have hD : va_D _ ([w6 cA a (s6_now σ (upd (p6_now σ) ((2 : Int32).toNatClampNeg) x1))] : List va_W).flatten := hD
    refine lv_iload_n hx hb dX6_seed_20 rfl (lv_at hl 0 rfl) ?_
    have h := Option.some.inj h
    subst h
    exact CT.iret Z hP hD hS dX6_seed_21
  · rw [if_neg hc1] at h
    refine lv_iconst (v := (-1)) hx hb dX6_seed_4 (by decide) ?_
    have h := Option.some.inj h
    subst h
    exact CT.iret Z hP hD hS dX6_seed_5

-- X6.asides
theorem lk_X6_asides_25 : Cond.fieldLink RX6 25 "KeyedFeelingsModel" "aside" "[I" ∈ wsX6_asides := by decide +kernel
theorem in_X6_asides_X6 : ∀ w ∈ wsX60, w ∈ wsX6_asides := by decide +kernel
theorem lk_X6_asides_7 : Cond.fieldLink RX6 7 "KeyedFeelingsModel" "now" "[I" ∈ wsX6_asides := by decide +kernel
noncomputable def lp_X6_asides_2  : Nat → Int32 → St6 → Option (Int32 × St6)
  | 0, _, _ => none
  | n + 1, x1, σ => (if 27 ≤ x1 then some (x1, σ) else (if inB x1 27 = true then (if inB x1 27 = true then lp_X6_asides_2  n (x1 + 1) (s6_aside σ (upd (p6_aside σ) x1.toNatClampNeg ((p6_now σ) x1.toNatClampNeg))) else none) else none))
noncomputable def f_X6_asides (σ : St6) : Option (St6) := ((lp_X6_asides_2  FU 0 σ).bind (fun q4 => some q4.2))
noncomputable def rmX6_asides : Room := { frames := 0, cells := 0, slots := 0, locals := 0 }
set_option maxHeartbeats 4000000 in
set_option maxRecDepth 100000 in
theorem t_X6_asides_2 {p : Program} {l : Launch} {e : Env} {s : State} {m : MethodId} {args : Array Value} {below : List Frame} {meth : Method} {c : Code} {D : va_G} {cA : Nat → ClassId} {A0 : Nat → Prop} {H0 : Heap} {a : Nat → Nat} (Z : Cx p s m args meth c cX6_asides 2 none wsX6_asides RX6 D cA)  {Q : State → Prop} : ∀ (n : Nat) (x1 : Int32) (σ : St6) (q : Int32 × St6), lp_X6_asides_2  n x1 σ = some q → ∀ (H : Heap) (locs : List Loc) (ls : Array Slot), va_P D vwCl ([w6 cA a σ] : List va_W).flatten H → va_D A0 ([w6 cA a σ] : List va_W).flatten → va_S A0 H0 H locs → lv_has ls 2 [(0, .ref (a 0)), (1, .int x1)] → (∀ (H : Heap) (locs : List Loc) (ls : Array Slot), va_P D vwCl ([w6 cA a q.2] : List va_W).flatten H → va_D A0 ([w6 cA a q.2] : List va_W).flatten → va_S A0 H0 H locs → lv_has ls 2 [(0, .ref (a 0)), (1, .int q.1)] → W p l e rmX6_asides s m args below meth c H locs 0 0 Q (F0 m 26 ls [])) → W p l e rmX6_asides s m args below meth c H locs 0 0 Q (F0 m 2 ls []) := by
  obtain ⟨hx, hb, hml, hown, hts, hr, hlk, hKK⟩ := id Z
  have hK := hKK.1
  intro n
  induction n with
  | zero =>
    intro x1 σ q h
    rw [lp_X6_asides_2] at h
    cases h
  | succ n ih =>
    intro x1 σ q h H locs ls hP hD hS hl kk
    rw [lp_X6_asides_2] at h
    refine lv_iload_n hx hb dX6_asides_2 rfl (lv_at hl 1 rfl) ?_
    refine lv_bipush (v := 27) hx hb dX6_asides_3 (by decide) ?_
    refine lv_icmp_ge (tgt := 26) hx hb dX6_asides_5 (by decide) (fun hc1 => ?_) (fun hc1 => ?_)
    · rw [if_pos hc1] at h
      have h := Option.some.inj h
      subst h
      exact kk _ _ _ hP hD hS (lv_sub hl [0, 1] rfl)
    · rw [if_neg hc1] at h
      refine lv_aload_n hx hb dX6_asides_8 rfl (lv_at hl 0 rfl) ?_
      refine va_get (D := D) (ci := 6) (v := .ref (a 6)) (C := RX6) (T := TX6) (N := 19) hx hb hts in_X6_asides_X6 hown hK hP 0 rfl rfl 9 (by decide) (hts _ lk_X6_asides_25) (fun _ h9 => h9) rfl dX6_asides_9 ?_
      refine lv_iload_n hx hb dX6_asides_12 rfl (lv_at hl 1 rfl) ?_
      refine lv_aload_n hx hb dX6_asides_13 rfl (lv_at hl 0 rfl) ?_
      refine va_get (D := D) (ci := 6) (v := .ref (a 1)) (C := RX6) (T := TX6) (N := 19) hx hb hts in_X6_asides_X6 hown hK hP 0 rfl rfl 0 (by decide) (hts _ lk_X6_asides_7) (fun _ h9 => h9) rfl dX6_asides_14 ?_
      refine lv_iload_n hx hb dX6_asides_17 rfl (lv_at hl 1 rfl) ?_
      obtain ⟨hg2, h⟩ := if_inv h
      refine va_iald hx hb hK hP 1 0 rfl rfl (inB_in hg2) dX6_asides_18 ?_
      obtain ⟨hg3, h⟩ := if_inv h
      refine va_iast hx hb hK hP hD hS 6 0 rfl rfl (inB_in hg3) dX6_asides_19 (fun H locs hP hD hS => ?_)
      have hP : va_P D vwCl ([w6 cA a (s6_aside σ (upd (p6_aside σ) x1.toNatClampNeg ((p6_now σ) x1.toNatClampNeg)))] : List va_W).flatten H := hP
      have hD : va_D _ ([w6 cA a (s6_aside σ (upd (p6_aside σ) x1.toNatClampNeg ((p6_now σ) x1.toNatClampNeg)))] : List va_W).flatten := hD
      refine lv_iinc (v := x1 + 1) (lv' := [(1, .int (x1 + 1)), (0, .ref (a 0))]) hx hb dX6_asides_20 hl (k := 1) rfl rfl (by decide) rfl (fun ls hl => ?_)
      refine lv_goto (tgt := 2) hx hb dX6_asides_23 (by decide) ?_
      exact ih _ _ _ h _ _ _ hP hD hS (lv_sub hl [1, 0] rfl) kk
set_option maxHeartbeats 4000000 in
set_option maxRecDepth 100000 in
theorem c_X6_asides (l : Launch) (D : va_G) (cA : Nat → ClassId) (a : Nat → Nat) (σ : St6) (res : St6) (h : f_X6_asides σ = some res) : CT l D cA yX6_asides wsX6_asides rmX6_asides [.ref (a 0)] [w6 cA a σ] [w6 cA a res] none := by
  refine CT.start (cc := cX6_asides) (maxL := 2) (ret := none) (by decide) rfl (Nat.le_of_ble_eq_true rfl) ?_
  intro p e s m below meth c Z hP hD hS ls hl
  have Z : Cx p s m _ meth c cX6_asides 2 none wsX6_asides RX6 D cA := Z
  have hl : lv_has ls 2 [(0, .ref (a 0))] := hl
  obtain ⟨hx, hb, hml, hown, hts, hr, hlk, hKK⟩ := id Z
  have hK := hKK.1
  rw [f_X6_asides] at h
  refine lv_iconst (v := 0) hx hb dX6_asides_0 (by decide) ?_
  refine lv_istore_n (lv' := [(1, .int 0), (0, .ref (a 0))]) hx hb dX6_asides_1 rfl hl (by decide) rfl (fun ls hl => ?_)
  obtain ⟨q4, hq4, h⟩ := bind_inv h
  refine t_X6_asides_2 Z  FU _ _ _ hq4 _ _ _ hP hD hS (lv_sub hl [1, 0] rfl) (fun H locs ls hP hD hS hl => ?_)
  have h := Option.some.inj h
  subst h
  exact CT.vret Z hP hD hS dX6_asides_26

-- X6.backs
theorem lk_X6_backs_7 : Cond.fieldLink RX6 7 "KeyedFeelingsModel" "now" "[I" ∈ wsX6_backs := by decide +kernel
theorem in_X6_backs_X6 : ∀ w ∈ wsX60, w ∈ wsX6_backs := by decide +kernel
theorem lk_X6_backs_25 : Cond.fieldLink RX6 25 "KeyedFeelingsModel" "aside" "[I" ∈ wsX6_backs := by decide +kernel
noncomputable def lp_X6_backs_2  : Nat → Int32 → St6 → Option (Int32 × St6)
  | 0, _, _ => none
  | n + 1, x1, σ => (if 27 ≤ x1 then some (x1, σ) else (if inB x1 27 = true then (if inB x1 27 = true then lp_X6_backs_2  n (x1 + 1) (s6_now σ (upd (p6_now σ) x1.toNatClampNeg ((p6_aside σ) x1.toNatClampNeg))) else none) else none))
noncomputable def f_X6_backs (σ : St6) : Option (St6) := ((lp_X6_backs_2  FU 0 σ).bind (fun q4 => some q4.2))
noncomputable def rmX6_backs : Room := { frames := 0, cells := 0, slots := 0, locals := 0 }
set_option maxHeartbeats 4000000 in
set_option maxRecDepth 100000 in
theorem t_X6_backs_2 {p : Program} {l : Launch} {e : Env} {s : State} {m : MethodId} {args : Array Value} {below : List Frame} {meth : Method} {c : Code} {D : va_G} {cA : Nat → ClassId} {A0 : Nat → Prop} {H0 : Heap} {a : Nat → Nat} (Z : Cx p s m args meth c cX6_backs 2 none wsX6_backs RX6 D cA)  {Q : State → Prop} : ∀ (n : Nat) (x1 : Int32) (σ : St6) (q : Int32 × St6), lp_X6_backs_2  n x1 σ = some q → ∀ (H : Heap) (locs : List Loc) (ls : Array Slot), va_P D vwCl ([w6 cA a σ] : List va_W).flatten H → va_D A0 ([w6 cA a σ] : List va_W).flatten → va_S A0 H0 H locs → lv_has ls 2 [(0, .ref (a 0)), (1, .int x1)] → (∀ (H : Heap) (locs : List Loc) (ls : Array Slot), va_P D vwCl ([w6 cA a q.2] : List va_W).flatten H → va_D A0 ([w6 cA a q.2] : List va_W).flatten → va_S A0 H0 H locs → lv_has ls 2 [(0, .ref (a 0)), (1, .int q.1)] → W p l e rmX6_backs s m args below meth c H locs 0 0 Q (F0 m 26 ls [])) → W p l e rmX6_backs s m args below meth c H locs 0 0 Q (F0 m 2 ls []) := by
  obtain ⟨hx, hb, hml, hown, hts, hr, hlk, hKK⟩ := id Z
  have hK := hKK.1
  intro n
  induction n with
  | zero =>
    intro x1 σ q h
    rw [lp_X6_backs_2] at h
    cases h
  | succ n ih =>
    intro x1 σ q h H locs ls hP hD hS hl kk
    rw [lp_X6_backs_2] at h
    refine lv_iload_n hx hb dX6_backs_2 rfl (lv_at hl 1 rfl) ?_
    refine lv_bipush (v := 27) hx hb dX6_backs_3 (by decide) ?_
    refine lv_icmp_ge (tgt := 26) hx hb dX6_backs_5 (by decide) (fun hc1 => ?_) (fun hc1 => ?_)
    · rw [if_pos hc1] at h
      have h := Option.some.inj h
      subst h
      exact kk _ _ _ hP hD hS (lv_sub hl [0, 1] rfl)
    · rw [if_neg hc1] at h
      refine lv_aload_n hx hb dX6_backs_8 rfl (lv_at hl 0 rfl) ?_
      refine va_get (D := D) (ci := 6) (v := .ref (a 1)) (C := RX6) (T := TX6) (N := 19) hx hb hts in_X6_backs_X6 hown hK hP 0 rfl rfl 0 (by decide) (hts _ lk_X6_backs_7) (fun _ h9 => h9) rfl dX6_backs_9 ?_
      refine lv_iload_n hx hb dX6_backs_12 rfl (lv_at hl 1 rfl) ?_
      refine lv_aload_n hx hb dX6_backs_13 rfl (lv_at hl 0 rfl) ?_
      refine va_get (D := D) (ci := 6) (v := .ref (a 6)) (C := RX6) (T := TX6) (N := 19) hx hb hts in_X6_backs_X6 hown hK hP 0 rfl rfl 9 (by decide) (hts _ lk_X6_backs_25) (fun _ h9 => h9) rfl dX6_backs_14 ?_
      refine lv_iload_n hx hb dX6_backs_17 rfl (lv_at hl 1 rfl) ?_
      obtain ⟨hg2, h⟩ := if_inv h
      refine va_iald hx hb hK hP 6 0 rfl rfl (inB_in hg2) dX6_backs_18 ?_
      obtain ⟨hg3, h⟩ := if_inv h
      refine va_iast hx hb hK hP hD hS 1 0 rfl rfl (inB_in hg3) dX6_backs_19 (fun H locs hP hD hS => ?_)
      have hP : va_P D vwCl ([w6 cA a (s6_now σ (upd (p6_now σ) x1.toNatClampNeg ((p6_aside σ) x1.toNatClampNeg)))] : List va_W).flatten H := hP
      have hD : va_D _ ([w6 cA a (s6_now σ (upd (p6_now σ) x1.toNatClampNeg ((p6_aside σ) x1.toNatClampNeg)))] : List va_W).flatten := hD
      refine lv_iinc (v := x1 + 1) (lv' := [(1, .int (x1 + 1)), (0, .ref (a 0))]) hx hb dX6_backs_20 hl (k := 1) rfl rfl (by decide) rfl (fun ls hl => ?_)
      refine lv_goto (tgt := 2) hx hb dX6_backs_23 (by decide) ?_
      exact ih _ _ _ h _ _ _ hP hD hS (lv_sub hl [1, 0] rfl) kk
set_option maxHeartbeats 4000000 in
set_option maxRecDepth 100000 in
theorem c_X6_backs (l : Launch) (D : va_G) (cA : Nat → ClassId) (a : Nat → Nat) (σ : St6) (res : St6) (h : f_X6_backs σ = some res) : CT l D cA yX6_backs wsX6_backs rmX6_backs [.ref (a 0)] [w6 cA a σ] [w6 cA a res] none := by
  refine CT.start (cc := cX6_backs) (maxL := 2) (ret := none) (by decide) rfl (Nat.le_of_ble_eq_true rfl) ?_
  intro p e s m below meth c Z hP hD hS ls hl
  have Z : Cx p s m _ meth c cX6_backs 2 none wsX6_backs RX6 D cA := Z
  have hl : lv_has ls 2 [(0, .ref (a 0))] := hl
  obtain ⟨hx, hb, hml, hown, hts, hr, hlk, hKK⟩ := id Z
  have hK := hKK.1
  rw [f_X6_backs] at h
  refine lv_iconst (v := 0) hx hb dX6_backs_0 (by decide) ?_
  refine lv_istore_n (lv' := [(1, .int 0), (0, .ref (a 0))]) hx hb dX6_backs_1 rfl hl (by decide) rfl (fun ls hl => ?_)
  obtain ⟨q4, hq4, h⟩ := bind_inv h
  refine t_X6_backs_2 Z  FU _ _ _ hq4 _ _ _ hP hD hS (lv_sub hl [1, 0] rfl) (fun H locs ls hP hD hS hl => ?_)
  have h := Option.some.inj h
  subst h
  exact CT.vret Z hP hD hS dX6_backs_26

-- X6.ahead
theorem ck_X6_ahead_173 : Cond.constantLong RX6 173 80 ∈ wsX6_ahead := by decide +kernel
noncomputable def f_X6_ahead (σ : St6) (x1 : Int32) (x2 : Int32) : Option (Int32 × St6) := ((f_X6_isPerson σ x1).bind (fun r1 => (if r1 = 0 then some ((-1), σ) else ((f_X6_in x2.toInt64 0 80).bind (fun r3 => (if r3 = 0 then some ((-1), σ) else ((f_X6_asides σ).bind (fun r5 => ((f_X6_goesOn r5 x2).bind (fun r6 => ((f_X6_turns r6 x1).bind (fun r7 => ((f_X6_backs r6).bind (fun r8 => some (r7, r8)))))))))))))))
noncomputable def rmX6_ahead : Room := { frames := 6, cells := 0, slots := 0, locals := 134 }
set_option maxHeartbeats 4000000 in
set_option maxRecDepth 100000 in
theorem c_X6_ahead (l : Launch) (D : va_G) (cA : Nat → ClassId) (a : Nat → Nat) (σ : St6) (x1 : Int32) (x2 : Int32) (res : Int32 × St6) (h : f_X6_ahead σ x1 x2 = some res) : CT l D cA yX6_ahead wsX6_ahead rmX6_ahead [.ref (a 0), .int x1, .int x2] [w6 cA a σ] [w6 cA a res.2] (some (.int res.1)) := by
  refine CT.start (cc := cX6_ahead) (maxL := 4) (ret := (some .int)) (by decide) rfl (Nat.le_of_ble_eq_true rfl) ?_
  intro p e s m below meth c Z hP hD hS ls hl
  have Z : Cx p s m _ meth c cX6_ahead 4 (some .int) wsX6_ahead RX6 D cA := Z
  have hl : lv_has ls 4 [(0, .ref (a 0)), (1, .int x1), (2, .int x2)] := hl
  obtain ⟨hx, hb, hml, hown, hts, hr, hlk, hKK⟩ := id Z
  have hK := hKK.1
  rw [f_X6_ahead] at h
  refine lv_aload_n hx hb dX6_ahead_0 rfl (lv_at hl 0 rfl) ?_
  refine lv_iload_n hx hb dX6_ahead_1 rfl (lv_at hl 1 rfl) ?_
  obtain ⟨r1, hr1, h⟩ := bind_inv h
  refine kV (rest := []) (st1 := [.int r1]) (cr := []) (cs' := [w6 cA a σ]) Z (c_X6_isPerson l D cA a σ x1 r1 hr1) 1 gX6_ahead_X6_isPerson rfl hdX6_isPerson ⟨rfl, rfl⟩ ⟨Nat.le_of_ble_eq_true rfl, Nat.le_of_ble_eq_true rfl⟩ ⟨Nat.zero_le _, Nat.zero_le _⟩ hP hD hS hl.1 rfl rfl rfl (Nat.le_of_ble_eq_true rfl) 6 rfl rfl rfl [0] [] [0] rfl rfl rfl rfl rfl dX6_ahead_2 (fun H locs hP hD hS => ?_)
  refine lv_if_eq (tgt := 20) hx hb dX6_ahead_5 (by decide) (fun hc2 => ?_) (fun hc2 => ?_)
  · rw [if_pos hc2] at h
    refine lv_iconst (v := (-1)) hx hb dX6_ahead_20 (by decide) ?_
    have h := Option.some.inj h
    subst h
    exact CT.iret Z hP hD hS dX6_ahead_21
  · rw [if_neg hc2] at h
    refine lv_iload_n hx hb dX6_ahead_8 rfl (lv_at hl 2 rfl) ?_
    refine lv_i2l (v := x2.toInt64) hx hb dX6_ahead_9 rfl ?_
    refine lv_lconst (v := 0) hx hb dX6_ahead_10 (by decide) ?_
    refine lv_ldc2 hx hb hown (hts _ ck_X6_ahead_173) dX6_ahead_11 ?_
    obtain ⟨r3, hr3, h⟩ := bind_inv h
    refine kS (rest := []) (st1 := [.int r3]) (cr := [w6 cA a σ]) (cs' := [w6 cA a σ]) Z (c_X6_in l D cA x2.toInt64 0 80 r3 hr3) 3 gX6_ahead_X6_in rfl hdX6_in ⟨rfl, rfl⟩ ⟨Nat.le_of_ble_eq_true rfl, Nat.le_of_ble_eq_true rfl⟩ ⟨Nat.zero_le _, Nat.zero_le _⟩ hP hD hS hl.1 rfl rfl rfl (Nat.le_of_ble_eq_true rfl) [] [0] [0] rfl rfl rfl rfl rfl dX6_ahead_14 (fun H locs hP hD hS => ?_)
    refine lv_if_ne (tgt := 22) hx hb dX6_ahead_17 (by decide) (fun hc4 => ?_) (fun hc4 => ?_)
    · rw [if_neg hc4] at h
      refine lv_aload_n hx hb dX6_ahead_22 rfl (lv_at hl 0 rfl) ?_
      obtain ⟨r5, hr5, h⟩ := bind_inv h
      refine kV (rest := []) (st1 := []) (cr := []) (cs' := [w6 cA a r5]) Z (c_X6_asides l D cA a σ r5 hr5) 0 gX6_ahead_X6_asides rfl hdX6_asides ⟨rfl, rfl⟩ ⟨Nat.le_of_ble_eq_true rfl, Nat.le_of_ble_eq_true rfl⟩ ⟨Nat.zero_le _, Nat.zero_le _⟩ hP hD hS hl.1 rfl rfl rfl (Nat.le_of_ble_eq_true rfl) 6 rfl rfl rfl [0] [] [0] rfl rfl rfl rfl rfl dX6_ahead_23 (fun H locs hP hD hS => ?_)
      refine lv_aload_n hx hb dX6_ahead_26 rfl (lv_at hl 0 rfl) ?_
      refine lv_iload_n hx hb dX6_ahead_27 rfl (lv_at hl 2 rfl) ?_
      obtain ⟨r6, hr6, h⟩ := bind_inv h
      refine kV (rest := []) (st1 := []) (cr := []) (cs' := [w6 cA a r6]) Z (c_X6_goesOn l D cA a r5 x2 r6 hr6) 1 gX6_ahead_X6_goesOn rfl hdX6_goesOn ⟨rfl, rfl⟩ ⟨Nat.le_of_ble_eq_true rfl, Nat.le_of_ble_eq_true rfl⟩ ⟨Nat.zero_le _, Nat.zero_le _⟩ hP hD hS hl.1 rfl rfl rfl (Nat.le_of_ble_eq_true rfl) 6 rfl rfl rfl [0] [] [0] rfl rfl rfl rfl rfl dX6_ahead_28 (fun H locs hP hD hS => ?_)
      refine lv_aload_n hx hb dX6_ahead_31 rfl (lv_at hl 0 rfl) ?_
      refine lv_iload_n hx hb dX6_ahead_32 rfl (lv_at hl 1 rfl) ?_
      obtain ⟨r7, hr7, h⟩ := bind_inv h
      refine kV (rest := []) (st1 := [.int r7]) (cr := []) (cs' := [w6 cA a r6]) Z (c_X6_turns l D cA a r6 x1 r7 hr7) 1 gX6_ahead_X6_turns rfl hdX6_turns ⟨rfl, rfl⟩ ⟨Nat.le_of_ble_eq_true rfl, Nat.le_of_ble_eq_true rfl⟩ ⟨Nat.zero_le _, Nat.zero_le _⟩ hP hD hS hl.1 rfl rfl rfl (Nat.le_of_ble_eq_true rfl) 6 rfl rfl rfl [0] [] [0] rfl rfl rfl rfl rfl dX6_ahead_33 (fun H locs hP hD hS => ?_)
      refine lv_istore_n (lv' := [(3, .int r7), (0, .ref (a 0)), (1, .int x1), (2, .int x2)]) hx hb dX6_ahead_36 rfl hl (by decide) rfl (fun ls hl => ?_)
      refine lv_aload_n hx hb dX6_ahead_37 rfl (lv_at hl 1 rfl) ?_
      obtain ⟨r8, hr8, h⟩ := bind_inv h
      refine kV (rest := []) (st1 := []) (cr := []) (cs' := [w6 cA a r8]) Z (c_X6_backs l D cA a r6 r8 hr8) 0 gX6_ahead_X6_backs rfl hdX6_backs ⟨rfl, rfl⟩ ⟨Nat.le_of_ble_eq_true rfl, Nat.le_of_ble_eq_true rfl⟩ ⟨Nat.zero_le _, Nat.zero_le _⟩ hP hD hS hl.1 rfl rfl rfl (Nat.le_of_ble_eq_true rfl) 6 rfl rfl rfl [0] [] [0] rfl rfl rfl rfl rfl dX6_ahead_38 (fun H locs hP hD hS => ?_)
      refine lv_iload_n hx hb dX6_ahead_41 rfl (lv_at hl 0 rfl) ?_
      have h := Option.some.inj h
      subst h
      exact CT.iret Z hP hD hS dX6_ahead_42
    · rw [if_pos hc4] at h
      refine lv_iconst (v := (-1)) hx hb dX6_ahead_20 (by decide) ?_
      have h := Option.some.inj h
      subst h
      exact CT.iret Z hP hD hS dX6_ahead_21

