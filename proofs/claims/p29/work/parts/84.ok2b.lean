/-! People, on -/
theorem ok_woundBy {σ : St2} {N : Nat} (hs : p2_size σ = nI N) (hN : N ≤ 6) (x : Int32) : ok (fun _ => True) (f_X2_woundBy σ x) := by
  unfold f_X2_woundBy
  refine ok_b (P := fun _ => True) ?_ (fun a _ => ok_s trivial)
  refine ok_loop0 (fun n y s => lp_X2_woundBy_4 σ x n s y) N (by omega) (fun _ _ => True) (fun _ => True) 0 trivial ?_ ?_
  · intro n s _
    show ok _ (lp_X2_woundBy_4 σ x (n + 1) s (nI N))
    rw [lp_X2_woundBy_4]
    exact ok_i (fun _ => ok_s trivial) (fun h => absurd (sz_ge hs) h)
  · intro n k s hk _ ih
    show ok _ (lp_X2_woundBy_4 σ x (n + 1) s (nI k))
    rw [lp_X2_woundBy_4]
    refine ok_i (fun h => absurd h (sz_lt hs hk (by omega))) (fun _ => ?_)
    refine ok_g (rg_in (rg_nI (by omega)) (by decide)) ?_
    exact ok_i (fun _ => ih _ trivial) (fun _ => ih _ trivial)
theorem ok_turnsTogether {σ : St2} {N : Nat} (hs : p2_size σ = nI N) (hN : N ≤ 6) : ok (fun _ => True) (f_X2_turnsTogether σ) := by
  unfold f_X2_turnsTogether
  refine ok_b (P := fun _ => True) ?_ (fun a _ => ok_s trivial)
  refine ok_loop0 (fun n y s => lp_X2_turnsTogether_4 σ n s y) N (by omega) (fun _ _ => True) (fun _ => True) 0 trivial ?_ ?_
  · intro n s _
    show ok _ (lp_X2_turnsTogether_4 σ (n + 1) s (nI N))
    rw [lp_X2_turnsTogether_4]
    exact ok_i (fun _ => ok_s trivial) (fun h => absurd (sz_ge hs) h)
  · intro n k s hk _ ih
    show ok _ (lp_X2_turnsTogether_4 σ (n + 1) s (nI k))
    rw [lp_X2_turnsTogether_4]
    refine ok_i (fun h => absurd h (sz_lt hs hk (by omega))) (fun _ => ?_)
    exact ok_g (rg_in (rg_nI (by omega)) (by decide)) (ih _ trivial)
theorem ok_hasTurnsOf {σ τ : St2} {N : Nat} (hs : p2_size σ = nI N) (hN : N ≤ 6) : ok (fun _ => True) (f_X2_hasTurnsOf σ τ) := by
  unfold f_X2_hasTurnsOf
  refine ok_loop0 (fun n y (_ : Unit) => lp_X2_hasTurnsOf_2 σ τ n y) N (by omega) (fun _ _ => True) (fun _ => True) () trivial ?_ ?_
  · intro n s _
    show ok _ (lp_X2_hasTurnsOf_2 σ τ (n + 1) (nI N))
    rw [lp_X2_hasTurnsOf_2]
    exact ok_i (fun _ => ok_s trivial) (fun h => absurd (sz_ge hs) h)
  · intro n k s hk _ ih
    show ok _ (lp_X2_hasTurnsOf_2 σ τ (n + 1) (nI k))
    rw [lp_X2_hasTurnsOf_2]
    refine ok_i (fun h => absurd h (sz_lt hs hk (by omega))) (fun _ => ?_)
    refine ok_g (rg_in (rg_nI (by omega)) (by decide)) (ok_g (rg_in (rg_nI (by omega)) (by decide)) ?_)
    exact ok_i (fun _ => ih () trivial) (fun _ => ok_s trivial)
theorem ok_without {σ : St2} {N : Nat} (hs : p2_size σ = nI N) (hN : N ≤ 6) : ok (fun _ => True) (f_X2_without σ) := by
  unfold f_X2_without
  refine ok_b (P := fun _ => True) ?_ (fun a _ => ok_s trivial)
  refine ok_loop0 (fun n y s => lp_X2_without_4 σ n s y) N (by omega) (fun _ _ => True) (fun _ => True) 0 trivial ?_ ?_
  · intro n s _
    show ok _ (lp_X2_without_4 σ (n + 1) s (nI N))
    rw [lp_X2_without_4]
    exact ok_i (fun _ => ok_s trivial) (fun h => absurd (sz_ge hs) h)
  · intro n k s hk _ ih
    show ok _ (lp_X2_without_4 σ (n + 1) s (nI k))
    rw [lp_X2_without_4]
    refine ok_i (fun h => absurd h (sz_lt hs hk (by omega))) (fun _ => ?_)
    refine ok_b (ok_woundBy hs hN _) (fun a _ => ?_)
    exact ok_i (fun _ => ih _ trivial) (fun _ => ih _ trivial)
theorem ok_behind {σ : St2} {N : Nat} (hs : p2_size σ = nI N) (hN : N ≤ 6) {x : Int32} (hx : rg x 6) : ok (fun _ => True) (f_X2_behind σ x) := by
  unfold f_X2_behind
  refine ok_b (P := fun _ => True) ?_ (fun a _ => ok_s trivial)
  refine ok_loop0 (fun n y (s : Int32 × Int32) => lp_X2_behind_7 σ n s.1 s.2 y) N (by omega) (fun _ s => rg s.2 6) (fun _ => True) (0, x) hx ?_ ?_
  · intro n s _
    show ok _ (lp_X2_behind_7 σ (n + 1) s.1 s.2 (nI N))
    rw [lp_X2_behind_7]
    exact ok_i (fun _ => ok_s trivial) (fun h => absurd (sz_ge hs) h)
  · intro n k s hk hI ih
    show ok _ (lp_X2_behind_7 σ (n + 1) s.1 s.2 (nI k))
    rw [lp_X2_behind_7]
    refine ok_i (fun h => absurd h (sz_lt hs hk (by omega))) (fun _ => ?_)
    refine ok_g (rg_in hI (by decide)) ?_
    refine ok_b (ok_has hs hN _) (fun r hr => ?_)
    refine ok_i (fun _ => ok_s trivial) (fun h => ok_g (rg_in hI (by decide)) ?_)
    rcases hr with hr | ⟨-, hr⟩
    · exact absurd hr h
    · exact ih (_, _) (rg_up hr hN)
theorem ok_ring {σ : St2} {N : Nat} (hs : p2_size σ = nI N) (hN : N ≤ 6) : ok (fun _ => True) (f_X2_ring σ) := by
  unfold f_X2_ring
  refine ok_b (P := fun _ => True) ?_ (fun a _ => ok_s trivial)
  refine ok_loop0 (fun n y s => lp_X2_ring_4 σ n s y) N (by omega) (fun _ _ => True) (fun _ => True) 0 trivial ?_ ?_
  · intro n s _
    show ok _ (lp_X2_ring_4 σ (n + 1) s (nI N))
    rw [lp_X2_ring_4]
    exact ok_i (fun _ => ok_s trivial) (fun h => absurd (sz_ge hs) h)
  · intro n k s hk _ ih
    show ok _ (lp_X2_ring_4 σ (n + 1) s (nI k))
    rw [lp_X2_ring_4]
    refine ok_i (fun h => absurd h (sz_lt hs hk (by omega))) (fun _ => ?_)
    exact ok_b (ok_behind hs hN (rg_nI (by omega))) (fun a _ => ih _ trivial)
theorem ok_heads {σ : St2} {N : Nat} (hs : p2_size σ = nI N) (hN : N ≤ 6) (x : Int32) : ok (fun _ => True) (f_X2_heads σ x) := by
  unfold f_X2_heads
  refine ok_b (P := fun _ => True) ?_ (fun a _ => ok_s trivial)
  refine ok_loop0 (fun n y s => lp_X2_heads_4 σ x n s y) N (by omega) (fun _ _ => True) (fun _ => True) 0 trivial ?_ ?_
  · intro n s _
    show ok _ (lp_X2_heads_4 σ x (n + 1) s (nI N))
    rw [lp_X2_heads_4]
    exact ok_i (fun _ => ok_s trivial) (fun h => absurd (sz_ge hs) h)
  · intro n k s hk _ ih
    show ok _ (lp_X2_heads_4 σ x (n + 1) s (nI k))
    rw [lp_X2_heads_4]
    refine ok_i (fun h => absurd h (sz_lt hs hk (by omega))) (fun _ => ?_)
    repeat' first
      | exact ih _ trivial
      | refine ok_i (fun _ => ?_) (fun _ => ?_)
      | refine ok_b (ok_behind hs hN (rg_nI (by omega))) (fun a _ => ?_)
      | refine ok_b (ok_woundBy hs hN _) (fun a _ => ?_)
theorem ok_isWindingHour {σ : St2} : ok (fun _ => True) (f_X2_isWindingHour σ) := by
  unfold f_X2_isWindingHour
  exact ok_i (fun _ => ok_s trivial) (fun _ => ok_s trivial)
/-- bits below k -/
noncomputable def lo (s : Int32) (k : Nat) : Prop := ∃ m : Nat, m < 2 ^ k ∧ s = nI m
theorem lo_0 : lo 0 0 := ⟨0, by decide, rfl⟩
theorem lo_up {s : Int32} {k : Nat} (h : lo s k) : lo (s ||| 0) (k + 1) := by
  obtain ⟨m, hm, rfl⟩ := h
  refine ⟨m, by have := Nat.pow_lt_pow_right (a := 2) (by decide) (Nat.lt_succ_self k); omega, ?_⟩
  exact Int32.or_zero
theorem sh1 : ∀ k, k < 7 → (1 : Int32) <<< (nI k &&& 31) = nI (2 ^ k) := by decide +kernel
theorem nI_or (a b : Nat) : nI a ||| nI b = nI (a ||| b) := by
  apply Int32.toBitVec_inj.mp
  rw [Int32.toBitVec_or]
  show BitVec.ofNat 32 a ||| BitVec.ofNat 32 b = BitVec.ofNat 32 (a ||| b)
  rw [BitVec.ofNat_or]
theorem lo_set {s : Int32} {k : Nat} (h : lo s k) (hk : k < 7) : lo (s ||| ((1 : Int32) <<< (nI k &&& 31))) (k + 1) := by
  obtain ⟨m, hm, rfl⟩ := h
  refine ⟨m ||| 2 ^ k, ?_, ?_⟩
  · exact Nat.or_lt_two_pow (Nat.lt_trans hm (Nat.pow_lt_pow_right (by decide) (Nat.lt_succ_self k))) (Nat.pow_lt_pow_right (by decide) (Nat.lt_succ_self k))
  · rw [sh1 k hk, nI_or]
theorem lo_64 {s : Int32} {k : Nat} (h : lo s k) (hk : k ≤ 6) : rg s 64 := by
  obtain ⟨m, hm, rfl⟩ := h
  exact ⟨m, Nat.lt_of_lt_of_le hm (Nat.pow_le_pow_right (by decide) hk), rfl⟩
theorem ok_winders {σ : St2} {N : Nat} (hs : p2_size σ = nI N) (hN : N ≤ 6) : ok (fun r => rg r 64) (f_X2_winders σ) := by
  unfold f_X2_winders
  refine ok_b (P := fun q => lo q.1 N) ?_ (fun a h => ok_s (lo_64 h hN))
  refine ok_loop0 (fun n y s => lp_X2_winders_4 σ n s y) N (by omega) (fun k s => lo s k) (fun q => lo q.1 N) 0 lo_0 ?_ ?_
  · intro n s hI
    show ok _ (lp_X2_winders_4 σ (n + 1) s (nI N))
    rw [lp_X2_winders_4]
    exact ok_i (fun _ => ok_s hI) (fun h => absurd (sz_ge hs) h)
  · intro n k s hk hI ih
    show ok _ (lp_X2_winders_4 σ (n + 1) s (nI k))
    rw [lp_X2_winders_4]
    refine ok_i (fun h => absurd h (sz_lt hs hk (by omega))) (fun _ => ?_)
    refine ok_b (ok_isStopped (rg_nI (by omega))) (fun a _ => ?_)
    refine ok_i (fun _ => ok_g (rg_in (rg_nI (by omega)) (by decide)) ?_) (fun _ => ih _ (lo_up hI))
    exact ok_b (ok_has hs hN _) (fun a _ => ok_i (fun _ => ih _ (lo_up hI)) (fun _ => ih _ (lo_set hI (by omega))))
theorem ok_addTurns {σ : St2} {x : Int32} (hx : rg x 6) (y : Int32) : ok (fun r => p2_size r = p2_size σ) (f_X2_addTurns σ x y) := by
  unfold f_X2_addTurns
  exact ok_g (rg_in hx (by decide)) (ok_g (rg_in hx (by decide)) (ok_s rfl))
theorem ok_wind {σ : St2} {N : Nat} (hs : p2_size σ = nI N) (hN : N ≤ 6) (x : Int32) : ok (fun r => p2_size r = nI N) (f_X2_wind σ x) := by
  unfold f_X2_wind
  refine ok_b (P := fun q => p2_size q.2 = nI N) ?_ (fun a h => ok_s h)
  refine ok_loop0 (fun n y s => lp_X2_wind_2 x n y s) N (by omega) (fun _ s => p2_size s = nI N) (fun q => p2_size q.2 = nI N) σ hs ?_ ?_
  · intro n s hI
    show ok _ (lp_X2_wind_2 x (n + 1) (nI N) s)
    rw [lp_X2_wind_2]
    exact ok_i (fun _ => ok_s hI) (fun h => absurd (sz_ge hI) h)
  · intro n k s hk hI ih
    show ok _ (lp_X2_wind_2 x (n + 1) (nI k) s)
    rw [lp_X2_wind_2]
    refine ok_i (fun h => absurd h (sz_lt hI hk (by omega))) (fun _ => ?_)
    refine ok_i (fun _ => ih _ hI) (fun _ => ok_g (rg_in (rg_nI (by omega)) (by decide)) ?_)
    refine ok_b (ok_has hI hN _) (fun r hr => ?_)
    refine ok_i (fun _ => ih _ hI) (fun h => ?_)
    rcases hr with hr | ⟨-, hr⟩
    · exact absurd hr h
    · refine ok_g (rg_in (rg_nI (by omega)) (by decide)) (ok_g (rg_in (rg_nI (by omega)) (by decide)) ?_)
      exact ok_b (ok_addTurns (rg_up hr hN) _) (fun a ha => ih _ (ha.trans hI))
theorem ok_runsConcern {σ : St2} : ok (fun _ => True) (f_X2_runsConcern σ) := by
  unfold f_X2_runsConcern
  exact ok_i (fun _ => ok_s trivial) (fun _ => ok_s trivial)
theorem ok_runsTender {σ : St2} : ok (fun _ => True) (f_X2_runsTender σ) := by
  unfold f_X2_runsTender
  exact ok_i (fun _ => ok_s trivial) (fun _ => ok_s trivial)
theorem ok_windsOneOf {σ : St2} {x : Int32} (hx : rg x 6) (y : Int32) : ok (fun _ => True) (f_X2_windsOneOf σ x y) := by
  unfold f_X2_windsOneOf
  exact ok_g (rg_in hx (by decide)) (ok_i (fun _ => ok_s trivial) (fun _ => ok_g (rg_in hx (by decide)) (ok_i (fun _ => ok_s trivial) (fun _ => ok_s trivial))))
theorem ok_runsOff {σ : St2} {N : Nat} (hs : p2_size σ = nI N) (hN : N ≤ 6) {x : Int32} (hx : rg x 6) (y : Int32) : ok (fun _ => True) (f_X2_runsOff σ x y) := by
  unfold f_X2_runsOff
  refine ok_i (fun _ => ok_g (rg_in hx (by decide)) ?_) (fun _ => ok_s trivial)
  refine ok_i (fun _ => ok_b ok_runsConcern (fun a _ => ok_s trivial)) (fun _ => ?_)
  refine ok_i (fun _ => ok_b ok_runsTender (fun a _ => ok_s trivial)) (fun _ => ?_)
  refine ok_i (fun _ => ok_b ok_runsConcern (fun a _ => ok_b (ok_windsOneOf hx _) (fun b _ => ok_i (fun _ => ok_s trivial) (fun _ => ok_s trivial)))) (fun _ => ?_)
  exact ok_i (fun _ => ok_b ok_runsTender (fun a _ => ok_b (ok_woundBy hs hN _) (fun b _ => ok_i (fun _ => ok_s trivial) (fun _ => ok_s trivial)))) (fun _ => ok_s trivial)
theorem ok_run {σ : St2} {N : Nat} (hs : p2_size σ = nI N) (hN : N ≤ 6) : ok (fun r => p2_size r = nI N) (f_X2_run σ) := by
  unfold f_X2_run
  refine ok_b (ok_stopped hs hN) (fun x _ => ?_)
  refine ok_b (P := fun q => p2_size q.2 = nI N) ?_ (fun a h => ok_s h)
  refine ok_loop0 (fun n y s => lp_X2_run_7 x n y s) N (by omega) (fun _ s => p2_size s = nI N) (fun q => p2_size q.2 = nI N) σ hs ?_ ?_
  · intro n s hI
    show ok _ (lp_X2_run_7 x (n + 1) (nI N) s)
    rw [lp_X2_run_7]
    exact ok_i (fun _ => ok_s hI) (fun h => absurd (sz_ge hI) h)
  · intro n k s hk hI ih
    show ok _ (lp_X2_run_7 x (n + 1) (nI k) s)
    rw [lp_X2_run_7]
    refine ok_i (fun h => absurd h (sz_lt hI hk (by omega))) (fun _ => ?_)
    refine ok_g (rg_in (rg_nI (by omega)) (by decide)) ?_
    refine ok_b (ok_runsOff hI hN (rg_nI (by omega)) _) (fun r _ => ?_)
    exact ok_g (rg_in (rg_nI (by omega)) (by decide)) (ih _ hI)
theorem ok_passHour {σ : St2} {N : Nat} (hs : p2_size σ = nI N) (hN : N ≤ 6) : ok (fun r => p2_size r = nI N) (f_X2_passHour σ) := by
  unfold f_X2_passHour
  refine ok_b ok_isWindingHour (fun a _ => ?_)
  refine ok_i (fun _ => ok_b (ok_run hs hN) (fun r h => ok_s h)) (fun _ => ?_)
  refine ok_b (ok_winders hs hN) (fun w _ => ?_)
  exact ok_b (ok_wind hs hN _) (fun r h => ok_b (ok_run h hN) (fun r h => ok_s h))
theorem ok_passHours {σ : St2} {N : Nat} (hs : p2_size σ = nI N) (hN : N ≤ 6) {x : Int32} {K : Nat} (hx : x = nI K) (hK : K ≤ 1000) : ok (fun r => p2_size r = nI N) (f_X2_passHours σ x) := by
  unfold f_X2_passHours
  refine ok_b (P := fun q => p2_size q.2 = nI N) ?_ (fun a h => ok_s h)
  refine ok_loop0 (fun n y s => lp_X2_passHours_2 x n y s) K (by omega) (fun _ s => p2_size s = nI N) (fun q => p2_size q.2 = nI N) σ hs ?_ ?_
  · intro n s hI
    show ok _ (lp_X2_passHours_2 x (n + 1) (nI K) s)
    rw [lp_X2_passHours_2]
    exact ok_i (fun _ => ok_s hI) (fun h => absurd (sz_ge hx) h)
  · intro n k s hk hI ih
    show ok _ (lp_X2_passHours_2 x (n + 1) (nI k) s)
    rw [lp_X2_passHours_2]
    refine ok_i (fun h => absurd h (sz_lt hx hk (by omega))) (fun _ => ?_)
    exact ok_b (ok_passHour hI hN) (fun r h => ih _ h)
theorem ok_passUntil {σ : St2} {N : Nat} (hs : p2_size σ = nI N) (hN : N ≤ 6) (y : Int32) {x : Int32} {K : Nat} (hx : x = nI K) (hK : K ≤ 1000) : ok (fun r => p2_size r.2 = nI N) (f_X2_passUntilStopped σ y x) := by
  unfold f_X2_passUntilStopped
  refine ok_loop0 (fun n z s => lp_X2_passUntilStopped_2 y x n z s) K (by omega) (fun _ s => p2_size s = nI N) (fun q => p2_size q.2 = nI N) σ hs ?_ ?_
  · intro n s hI
    show ok _ (lp_X2_passUntilStopped_2 y x (n + 1) (nI K) s)
    rw [lp_X2_passUntilStopped_2]
    refine ok_i (fun _ => ?_) (fun h => absurd (sz_ge hx) h)
    exact ok_b (ok_stopped hI hN) (fun r _ => ok_i (fun _ => ok_s hI) (fun _ => ok_s hI))
  · intro n k s hk hI ih
    show ok _ (lp_X2_passUntilStopped_2 y x (n + 1) (nI k) s)
    rw [lp_X2_passUntilStopped_2]
    refine ok_i (fun h => absurd h (sz_lt hx hk (by omega))) (fun _ => ?_)
    refine ok_b (ok_stopped hI hN) (fun r _ => ok_i (fun _ => ok_s hI) (fun _ => ?_))
    exact ok_b (ok_passHour hI hN) (fun r h => ih _ h)
theorem nextD_pos (d : Int32) : ∃ k : Nat, k < 2 ^ 31 ∧ nextD d = nI k := by
  unfold nextD
  generalize d * 1103515245 + 12345 = e
  obtain ⟨j, hj, h⟩ := pk_andE e (m := 2147483647) 31 (by decide)
  exact ⟨j, hj, h⟩
theorem ok_lendByDraw {σ : St2} {N : Nat} (hs : p2_size σ = nI N) (hN : N ≤ 6) : ok (fun r => p2_size r = nI N) (f_X2_lendByDraw σ) := by
  unfold f_X2_lendByDraw
  refine ok_n (fun y hy => ?_)
  obtain ⟨k, hk, he⟩ := nextD_pos (p2_draw σ)
  rw [he] at hy
  refine ok_i (fun _ => ok_s hs) (fun h0 => ok_i (fun _ => ?_) (fun _ => ok_s hs))
  have hN0 : 0 < N := by
    rcases Nat.eq_zero_or_pos N with h | h
    · subst h; exact absurd (by rw [hs]; decide) h0
    · exact h
  refine ok_g (by rw [hs]; exact nI_ne0 hN0 (by omega)) ?_
  refine ok_b (ok_addTurns ?_ _) (fun r h => ok_s (h.trans hs))
  rw [hy, hs, show (128 : Int32) = nI 128 from rfl, pk_div hk (by decide) (by decide), pk_rem (by omega) hN0 (by omega)]
  exact ⟨_, Nat.lt_of_lt_of_le (Nat.mod_lt _ hN0) hN, rfl⟩
theorem ok_join {σ : St2} {N : Nat} (hs : p2_size σ = nI N) (hN : N ≤ 6) (x y : Int32) : ok (fun r => (r = (-3, σ) ∧ N = 6) ∨ (N < 6 ∧ p2_size r.2 = nI (N + 1) ∧ r.1 = nI N)) (f_X2_join σ x y) := by
  unfold f_X2_join
  refine ok_i (fun h => ?_) (fun h => ok_s (Or.inl ⟨rfl, ?_⟩))
  · have hN6 : N < 6 := by
      rcases Nat.lt_or_ge N 6 with q | q
      · exact q
      · exact absurd h (by rw [hs]; exact nI_nlt q (by omega))
    have hb : inB (p2_size σ) 6 = true := by rw [hs]; exact inB_nI hN6 (by decide)
    refine ok_g hb (ok_g hb (ok_g hb (ok_g hb (ok_s (Or.inr ⟨hN6, ?_, ?_⟩)))))
    · show p2_size σ + 1 = _; rw [hs, nI_1]
    · show p2_size σ + 1 - 1 = _; rw [hs, nI_1, nI_pred]
  · rcases Nat.lt_or_ge N 6 with q | q
    · exact absurd (by rw [hs]; exact nI_lt q (by decide)) h
    · omega
