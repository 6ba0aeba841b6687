theorem in_X3_begin_X3 : ∀ w ∈ wsX30, w ∈ wsX3_begin := by decide +kernel
theorem lk_X3_begin_9 : Cond.fieldLink RX3 9 "KeyedFeelings$Sheet" "lane" "I" ∈ wsX3_begin := by decide +kernel
theorem lk_X3_begin_15 : Cond.fieldLink RX3 15 "KeyedFeelings$Sheet" "size" "I" ∈ wsX3_begin := by decide +kernel
theorem lk_X3_begin_18 : Cond.fieldLink RX3 18 "KeyedFeelings$Sheet" "items" "[J" ∈ wsX3_begin := by decide +kernel
theorem at_arrL {D : va_G} {cl : List vw_C} {a n : Nat} {c : ClassId} {f g : Nat → Int64} {H : Heap} (h : ∀ j, j < n → f j = g j) (hh : va_at D cl (a, .inl (c, n, .inr (.inl f))) H) : va_at D cl (a, .inl (c, n, .inr (.inl g))) H := by
  have hh : H[a]? = some (vp_cell c (n, .inr (.inl f))) := hh
  show H[a]? = some (vp_cell c (n, .inr (.inl g)))
  rw [hh, vp_cell_l, vp_cell_l, arrV_congr (fun j hj => by rw [h j hj])]
theorem fill_lp (v : Int64) : ∀ (k n : Nat) (f : Nat → Int64), k ≤ 24 → 24 - k < n → ∃ g, lp_J7_fill_d0a16_6 v 24 n (nI k) f = some (24, g) ∧ ∀ j, j < 24 → g j = if k ≤ j then v else f j := by
  intro k n
  induction n generalizing k with
  | zero => intro f h1 h2; omega
  | succ n ih =>
    intro f h1 h2
    rw [lp_J7_fill_d0a16_6]
    by_cases hk : k = 24
    · subst hk
      rw [if_pos (show (24 : Int32) ≤ nI 24 by decide)]
      refine ⟨f, rfl, fun j hj => by rw [if_neg (by omega)]⟩
    · rw [if_neg (show ¬ (24 : Int32) ≤ nI k from nI_ge (show k < 24 by omega) (by decide)), if_pos (inB_nI (show k < 24 by omega) (by decide)), nI_clamp (by omega), nI_1]
      obtain ⟨g, hg1, hg2⟩ := ih (k + 1) (sA_arr f (vp_updL (pA_arr f) k v)) (by omega) (by omega)
      refine ⟨g, hg1, fun j hj => ?_⟩
      rw [hg2 j hj]
      by_cases hj2 : k ≤ j
      · rw [if_pos hj2]
        by_cases hj3 : k + 1 ≤ j
        · rw [if_pos hj3]
        · rw [if_neg hj3]
          have e : j = k := by omega
          subst e
          simp [vp_updL]
      · rw [if_neg hj2, if_neg (by omega)]
        simp only [sA_arr, pA_arr, vp_updL]
        rw [if_neg (by omega)]
/-- fill: every item is v -/
theorem c_fill (l : Launch) (D : va_G) (cA : Nat → ClassId) (g : Nat → Nat) (f : StA) (v : Int64) : CT l D cA yJ7_fill_d0a16 wsJ7_fill_d0a16 rmJ7_fill_d0a16 [.ref (g 0), .long v] [wA cA g f] [wA cA g (fun _ => v)] none := by
  obtain ⟨r, h1, h2⟩ := fill_lp v 0 FU f (by decide) (by decide)
  refine CT.post (c_J7_fill_d0a16 l D cA g f v r (by rw [f_J7_fill_d0a16]; rw [show (0 : Int32) = nI 0 from rfl, h1]; rfl)) (fun H hh => ?_) rfl
  rw [Pc_iff] at hh ⊢
  simp only [wA, List.forall_mem_cons] at hh ⊢
  exact ⟨⟨at_arrL (fun j hj => by rw [h2 j hj, if_pos (Nat.zero_le j)]) hh.1.1, hh.1.2⟩, hh.2⟩
noncomputable def f_X3_begin (s : St3) (x1 x2 : Int32) : Option St3 := some (x1, x2, fun _ => 0)
noncomputable def rmX3_begin : Room := { frames := 1, cells := 0, slots := 0, locals := 24 }
set_option maxHeartbeats 4000000 in
set_option maxRecDepth 100000 in
theorem c_X3_begin (l : Launch) (D : va_G) (cA : Nat → ClassId) (a : Nat → Nat) (σ : St3) (x1 x2 : Int32) (res : St3) (h : f_X3_begin σ x1 x2 = some res) : CT l D cA yX3_begin wsX3_begin rmX3_begin [.ref (a 0), .int x1, .int x2] [w3 cA a σ] [w3 cA a res] none := by
  have h := Option.some.inj h
  subst h
  refine CT.start (cc := cX3_begin) (maxL := 3) (ret := none) (by decide) rfl (Nat.le_of_ble_eq_true rfl) ?_
  intro p e s m below meth c Z hP hD hS ls hl
  have Z : Cx p s m _ meth c cX3_begin 3 none wsX3_begin RX3 D cA := Z
  have hl : lv_has ls 3 [(0, .ref (a 0)), (1, .int x1), (2, .int x2)] := hl
  obtain ⟨hx, hb, hml, hown, hts, hr, hlk, hKK⟩ := id Z
  have hK := hKK.1
  refine lv_aload_n hx hb dX3_begin_0 rfl (lv_at hl 0 rfl) ?_
  refine lv_iload_n hx hb dX3_begin_1 rfl (lv_at hl 1 rfl) ?_
  refine va_put (D := D) (ci := 3) (v := .int x1) (ty := .int) (C := RX3) (T := TX3) (N := 3) hx hb hts in_X3_begin_X3 tyX3 tyX3_ok nmX3 hown hK hP hD hS 0 rfl rfl 0 (by decide) (hts _ lk_X3_begin_9) (fun _ h9 => h9) rfl (tyX3_ok 0 (by decide)) rfl rfl (Nat.le_of_ble_eq_true rfl) dX3_begin_2 (fun H locs hP hD hS => ?_)
  have hP : va_P D vwCl ([w3 cA a (s3_lane σ x1)] : List va_W).flatten H := hP
  have hD : va_D _ ([w3 cA a (s3_lane σ x1)] : List va_W).flatten := hD
  refine lv_aload_n hx hb dX3_begin_5 rfl (lv_at hl 0 rfl) ?_
  refine lv_iload_n hx hb dX3_begin_6 rfl (lv_at hl 2 rfl) ?_
  refine va_put (D := D) (ci := 3) (v := .int x2) (ty := .int) (C := RX3) (T := TX3) (N := 3) hx hb hts in_X3_begin_X3 tyX3 tyX3_ok nmX3 hown hK hP hD hS 0 rfl rfl 1 (by decide) (hts _ lk_X3_begin_15) (fun _ h9 => h9) rfl (tyX3_ok 1 (by decide)) rfl rfl (Nat.le_of_ble_eq_true rfl) dX3_begin_7 (fun H locs hP hD hS => ?_)
  have hP : va_P D vwCl ([[(a 0, .inr (3, [.int x1, .int x2, .ref (a 1)]))], wA cA (fun _ => a 1) (p3_items σ)] : List va_W).flatten H := hP
  have hD : va_D _ ([[(a 0, .inr (3, [.int x1, .int x2, .ref (a 1)]))], wA cA (fun _ => a 1) (p3_items σ)] : List va_W).flatten := hD
  refine lv_aload_n hx hb dX3_begin_10 rfl (lv_at hl 0 rfl) ?_
  refine va_get (D := D) (ci := 3) (v := .ref (a 1)) (C := RX3) (T := TX3) (N := 3) hx hb hts in_X3_begin_X3 hown hK hP 0 rfl rfl 2 (by decide) (hts _ lk_X3_begin_18) (fun _ h9 => h9) rfl dX3_begin_11 ?_
  refine lv_lconst (v := 0) hx hb dX3_begin_14 (by decide) ?_
  refine kS (rest := []) (st1 := []) (cr := [[(a 0, .inr (3, [.int x1, .int x2, .ref (a 1)]))]]) (cs' := [[(a 0, .inr (3, [.int x1, .int x2, .ref (a 1)]))], wA cA (fun _ => a 1) (fun _ => 0)]) Z (c_fill l D cA (fun _ => a 1) (p3_items σ) 0) 2 gX3_begin_J7_fill_d0a16 rfl hdJ7_fill_d0a16 ⟨rfl, rfl⟩ ⟨Nat.le_of_ble_eq_true rfl, Nat.le_of_ble_eq_true rfl⟩ ⟨Nat.zero_le _, Nat.zero_le _⟩ hP hD hS hl.1 rfl rfl rfl (Nat.le_of_ble_eq_true rfl) [1] [0] [0, 1] rfl rfl rfl rfl rfl dX3_begin_15 (fun H locs hP hD hS => ?_)
  have hP : va_P D vwCl ([w3 cA a (x1, x2, fun _ => 0)] : List va_W).flatten H := hP
  have hD : va_D _ ([w3 cA a (x1, x2, fun _ => 0)] : List va_W).flatten := hD
  exact CT.vret Z hP hD hS dX3_begin_18
