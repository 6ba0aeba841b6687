noncomputable abbrev StA : Type := Nat → Int64
noncomputable abbrev pA_arr (σ : StA) : Nat → Int64 := σ
noncomputable abbrev sA_arr (_ : StA) (v : Nat → Int64) : StA := v
noncomputable def wA (cA : Nat → ClassId) (g : Nat → Nat) (σ : StA) : va_W := [(g 0, .inl (cA 1, 24, .inr (.inl σ)))]
theorem hdJ7_fill_d0a16 : yJ7_fill_d0a16.cls = RJ7 ∧ yJ7_fill_d0a16.cls ≠ "java/lang/invoke/MethodHandle" ∧ yJ7_fill_d0a16.cls ≠ "java/lang/invoke/VarHandle" ∧ (parseMethodDescriptor yJ7_fill_d0a16.desc).map (fun d => d.parameters.length) = some 2 := by decide +kernel
-- J7.fill_d0a16
noncomputable def lp_J7_fill_d0a16_6 (x1 : Int64) (x4 : Int32) : Nat → Int32 → StA → Option (Int32 × StA)
  | 0, _, _ => none
  | n + 1, x3, σ => (if x4 ≤ x3 then some (x3, σ) else (if inB x3 24 = true then lp_J7_fill_d0a16_6 x1 x4 n (x3 + 1) (sA_arr σ (vp_updL (pA_arr σ) x3.toNatClampNeg x1)) else none))
noncomputable def f_J7_fill_d0a16 (σ : StA) (x1 : Int64) : Option (StA) := ((lp_J7_fill_d0a16_6 x1 24 FU 0 σ).bind (fun q3 => some q3.2))
noncomputable def rmJ7_fill_d0a16 : Room := { frames := 0, cells := 0, slots := 0, locals := 0 }
set_option maxHeartbeats 4000000 in
set_option maxRecDepth 100000 in
theorem t_J7_fill_d0a16_6 {p : Program} {l : Launch} {e : Env} {s : State} {m : MethodId} {args : Array Value} {below : List Frame} {meth : Method} {c : Code} {D : va_G} {cA : Nat → ClassId} {A0 : Nat → Prop} {H0 : Heap} {g : Nat → Nat} (Z : Cx p s m args meth c cJ7_fill_d0a16 5 none wsJ7_fill_d0a16 RJ7 D cA) (x1 : Int64) (x4 : Int32) {Q : State → Prop} : ∀ (n : Nat) (x3 : Int32) (σ : StA) (q : Int32 × StA), lp_J7_fill_d0a16_6 x1 x4 n x3 σ = some q → ∀ (H : Heap) (locs : List Loc) (ls : Array Slot), va_P D vwCl ([wA cA g σ] : List va_W).flatten H → va_D A0 ([wA cA g σ] : List va_W).flatten → va_S A0 H0 H locs → lv_has ls 5 [(0, .ref (g 0)), (1, .long x1), (3, .int x3), (4, .int x4)] → (∀ (H : Heap) (locs : List Loc) (ls : Array Slot), va_P D vwCl ([wA cA g q.2] : List va_W).flatten H → va_D A0 ([wA cA g q.2] : List va_W).flatten → va_S A0 H0 H locs → lv_has ls 5 [(0, .ref (g 0)), (1, .long x1), (3, .int q.1), (4, .int x4)] → W p l e rmJ7_fill_d0a16 s m args below meth c H locs 0 0 Q (F0 m 22 ls [])) → W p l e rmJ7_fill_d0a16 s m args below meth c H locs 0 0 Q (F0 m 6 ls []) := by
  obtain ⟨hx, hb, hml, hown, hts, hr, hlk, hKK⟩ := id Z
  have hK := hKK.1
  intro n
  induction n with
  | zero =>
    intro x3 σ q h
    rw [lp_J7_fill_d0a16_6] at h
    cases h
  | succ n ih =>
    intro x3 σ q h H locs ls hP hD hS hl kk
    rw [lp_J7_fill_d0a16_6] at h
    refine lv_iload_n hx hb dJ7_fill_d0a16_6 rfl (lv_at hl 2 rfl) ?_
    refine lv_iload hx hb dJ7_fill_d0a16_7 (lv_at hl 3 rfl) ?_
    refine lv_icmp_ge (tgt := 22) hx hb dJ7_fill_d0a16_9 (by decide) (fun hc1 => ?_) (fun hc1 => ?_)
    · rw [if_pos hc1] at h
      have h := Option.some.inj h
      subst h
      exact kk _ _ _ hP hD hS (lv_sub hl [0, 1, 2, 3] rfl)
    · rw [if_neg hc1] at h
      refine lv_aload_n hx hb dJ7_fill_d0a16_12 rfl (lv_at hl 0 rfl) ?_
      refine lv_iload_n hx hb dJ7_fill_d0a16_13 rfl (lv_at hl 2 rfl) ?_
      refine lv_lload_n hx hb dJ7_fill_d0a16_14 rfl (lv_at hl 1 rfl) ?_
      obtain ⟨hg2, h⟩ := if_inv h
      refine va_last hx hb hK hP hD hS 0 1 rfl rfl (inB_in hg2) dJ7_fill_d0a16_15 (fun H locs hP hD hS => ?_)
      have hP : va_P D vwCl ([wA cA g (sA_arr σ (vp_updL (pA_arr σ) x3.toNatClampNeg x1))] : List va_W).flatten H := hP
      have hD : va_D _ ([wA cA g (sA_arr σ (vp_updL (pA_arr σ) x3.toNatClampNeg x1))] : List va_W).flatten := hD
      refine lv_iinc (v := x3 + 1) (lv' := [(3, .int (x3 + 1)), (0, .ref (g 0)), (1, .long x1), (4, .int x4)]) hx hb dJ7_fill_d0a16_16 hl (k := 2) rfl rfl (by decide) rfl (fun ls hl => ?_)
      refine lv_goto (tgt := 6) hx hb dJ7_fill_d0a16_19 (by decide) ?_
      exact ih _ _ _ h _ _ _ hP hD hS (lv_sub hl [1, 2, 0, 3] rfl) kk
set_option maxHeartbeats 4000000 in
set_option maxRecDepth 100000 in
theorem c_J7_fill_d0a16 (l : Launch) (D : va_G) (cA : Nat → ClassId) (g : Nat → Nat) (σ : StA) (x1 : Int64) (res : StA) (h : f_J7_fill_d0a16 σ x1 = some res) : CT l D cA yJ7_fill_d0a16 wsJ7_fill_d0a16 rmJ7_fill_d0a16 [.ref (g 0), .long x1] [wA cA g σ] [wA cA g res] none := by
  refine CT.start (cc := cJ7_fill_d0a16) (maxL := 5) (ret := none) (by decide) rfl (Nat.le_of_ble_eq_true rfl) ?_
  intro p e s m below meth c Z hP hD hS ls hl
  have Z : Cx p s m _ meth c cJ7_fill_d0a16 5 none wsJ7_fill_d0a16 RJ7 D cA := Z
  have hl : lv_has ls 5 [(0, .ref (g 0)), (1, .long x1)] := hl
  obtain ⟨hx, hb, hml, hown, hts, hr, hlk, hKK⟩ := id Z
  have hK := hKK.1
  rw [f_J7_fill_d0a16] at h
  refine lv_iconst (v := 0) hx hb dJ7_fill_d0a16_0 (by decide) ?_
  refine lv_istore_n (lv' := [(3, .int 0), (0, .ref (g 0)), (1, .long x1)]) hx hb dJ7_fill_d0a16_1 rfl hl (by decide) rfl (fun ls hl => ?_)
  refine lv_aload_n hx hb dJ7_fill_d0a16_2 rfl (lv_at hl 1 rfl) ?_
  refine va_alen hx hb hK hP 0 1 rfl rfl (v := 24) rfl dJ7_fill_d0a16_3 ?_
  refine lv_istore (lv' := [(4, .int 24), (3, .int 0), (0, .ref (g 0)), (1, .long x1)]) hx hb dJ7_fill_d0a16_4 hl (by decide) rfl (fun ls hl => ?_)
  obtain ⟨q3, hq3, h⟩ := bind_inv h
  refine t_J7_fill_d0a16_6 Z x1 24 FU _ _ _ hq3 _ _ _ hP hD hS (lv_sub hl [2, 3, 1, 0] rfl) (fun H locs ls hP hD hS hl => ?_)
  have h := Option.some.inj h
  subst h
  exact CT.vret Z hP hD hS dJ7_fill_d0a16_22
