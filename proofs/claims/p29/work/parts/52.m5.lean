-- X5.isSheet
noncomputable def f_X5_isSheet (x0 : Int32) : Option (Int32) := (if x0 < 0 then some 0 else (if 4 ≤ x0 then some 0 else some 1))
noncomputable def rmX5_isSheet : Room := { frames := 0, cells := 0, slots := 0, locals := 0 }
set_option maxHeartbeats 4000000 in
set_option maxRecDepth 100000 in
theorem c_X5_isSheet (l : Launch) (D : va_G) (cA : Nat → ClassId)  (x0 : Int32) (res : Int32) (h : f_X5_isSheet x0 = some res) : CT l D cA yX5_isSheet wsX5_isSheet rmX5_isSheet [.int x0] [] [] (some (.int res)) := by
  refine CT.start (cc := cX5_isSheet) (maxL := 1) (ret := (some .boolean)) (by decide) rfl (Nat.le_of_ble_eq_true rfl) ?_
  intro p e s m below meth c Z hP hD hS ls hl
  have Z : Cx p s m _ meth c cX5_isSheet 1 (some .boolean) wsX5_isSheet RX5 D cA := Z
  have hl : lv_has ls 1 [(0, .int x0)] := hl
  obtain ⟨hx, hb, hml, hown, hts, hr, hlk, hKK⟩ := id Z
  have hK := hKK.1
  rw [f_X5_isSheet] at h
  refine lv_iload_n hx hb dX5_isSheet_0 rfl (lv_at hl 0 rfl) ?_
  refine lv_if_lt (tgt := 13) hx hb dX5_isSheet_1 (by decide) (fun hc1 => ?_) (fun hc1 => ?_)
  · rw [if_pos hc1] at h
    refine lv_iconst (v := 0) hx hb dX5_isSheet_13 (by decide) ?_
    have h := Option.some.inj h
    subst h
    exact CT.zret Z (nar_bool (Or.inl rfl)) hP hD hS dX5_isSheet_14
  · rw [if_neg hc1] at h
    refine lv_iload_n hx hb dX5_isSheet_4 rfl (lv_at hl 0 rfl) ?_
    refine lv_iconst (v := 4) hx hb dX5_isSheet_5 (by decide) ?_
    refine lv_icmp_ge (tgt := 13) hx hb dX5_isSheet_6 (by decide) (fun hc2 => ?_) (fun hc2 => ?_)
    · rw [if_pos hc2] at h
      refine lv_iconst (v := 0) hx hb dX5_isSheet_13 (by decide) ?_
      have h := Option.some.inj h
      subst h
      exact CT.zret Z (nar_bool (Or.inl rfl)) hP hD hS dX5_isSheet_14
    · rw [if_neg hc2] at h
      refine lv_iconst (v := 1) hx hb dX5_isSheet_9 (by decide) ?_
      refine lv_goto (tgt := 14) hx hb dX5_isSheet_10 (by decide) ?_
      have h := Option.some.inj h
      subst h
      exact CT.zret Z (nar_bool (Or.inr rfl)) hP hD hS dX5_isSheet_14

-- X5.isLane
noncomputable def f_X5_isLane (x0 : Int32) : Option (Int32) := (if x0 < 0 then some 0 else (if 4 ≤ x0 then some 0 else some 1))
noncomputable def rmX5_isLane : Room := { frames := 0, cells := 0, slots := 0, locals := 0 }
set_option maxHeartbeats 4000000 in
set_option maxRecDepth 100000 in
theorem c_X5_isLane (l : Launch) (D : va_G) (cA : Nat → ClassId)  (x0 : Int32) (res : Int32) (h : f_X5_isLane x0 = some res) : CT l D cA yX5_isLane wsX5_isLane rmX5_isLane [.int x0] [] [] (some (.int res)) := by
  refine CT.start (cc := cX5_isLane) (maxL := 1) (ret := (some .boolean)) (by decide) rfl (Nat.le_of_ble_eq_true rfl) ?_
  intro p e s m below meth c Z hP hD hS ls hl
  have Z : Cx p s m _ meth c cX5_isLane 1 (some .boolean) wsX5_isLane RX5 D cA := Z
  have hl : lv_has ls 1 [(0, .int x0)] := hl
  obtain ⟨hx, hb, hml, hown, hts, hr, hlk, hKK⟩ := id Z
  have hK := hKK.1
  rw [f_X5_isLane] at h
  refine lv_iload_n hx hb dX5_isLane_0 rfl (lv_at hl 0 rfl) ?_
  refine lv_if_lt (tgt := 13) hx hb dX5_isLane_1 (by decide) (fun hc1 => ?_) (fun hc1 => ?_)
  · rw [if_pos hc1] at h
    refine lv_iconst (v := 0) hx hb dX5_isLane_13 (by decide) ?_
    have h := Option.some.inj h
    subst h
    exact CT.zret Z (nar_bool (Or.inl rfl)) hP hD hS dX5_isLane_14
  · rw [if_neg hc1] at h
    refine lv_iload_n hx hb dX5_isLane_4 rfl (lv_at hl 0 rfl) ?_
    refine lv_iconst (v := 4) hx hb dX5_isLane_5 (by decide) ?_
    refine lv_icmp_ge (tgt := 13) hx hb dX5_isLane_6 (by decide) (fun hc2 => ?_) (fun hc2 => ?_)
    · rw [if_pos hc2] at h
      refine lv_iconst (v := 0) hx hb dX5_isLane_13 (by decide) ?_
      have h := Option.some.inj h
      subst h
      exact CT.zret Z (nar_bool (Or.inl rfl)) hP hD hS dX5_isLane_14
    · rw [if_neg hc2] at h
      refine lv_iconst (v := 1) hx hb dX5_isLane_9 (by decide) ?_
      refine lv_goto (tgt := 14) hx hb dX5_isLane_10 (by decide) ?_
      have h := Option.some.inj h
      subst h
      exact CT.zret Z (nar_bool (Or.inr rfl)) hP hD hS dX5_isLane_14

