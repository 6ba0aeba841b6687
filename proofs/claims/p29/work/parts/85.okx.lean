/-! THE CLASS'S OTHER FUNCTIONS COME TO AN ANSWER -/
noncomputable def G2 (p : St2) : Prop := ∃ N : Nat, N ≤ 6 ∧ p2_size p = nI N
noncomputable def G1 (q : St1) : Prop := rg (p1_next q) 8 ∧ ∀ i, i < 8 → G2 (p1_ms q i)
theorem G2.of {p r : St2} (h : G2 p) (e : p2_size r = p2_size p) : G2 r := by
  obtain ⟨N, h1, h2⟩ := h
  exact ⟨N, h1, e.trans h2⟩
theorem okG_keep {q : St1} {p : St2} (hq : G1 q) (hp : G2 p) : ok G1 (f_X1_keep q p) := by
  unfold f_X1_keep
  refine ok_g (rg_in hq.1 (by decide)) (ok_s ⟨?_, fun i hi => ?_⟩)
  · obtain ⟨j, hj, e⟩ := hq.1
    show rg ((p1_next q + 1) - (p1_next q + 1) / 8 * 8) 8
    rw [e, nI_1, show (8 : Int32) = nI 8 from rfl, pk_rem (by omega) (by decide) (by decide)]
    exact ⟨_, Nat.mod_lt _ (by decide), rfl⟩
  · show G2 (va_up (p1_ms q) _ p i)
    unfold va_up
    by_cases h : i = (p1_next q).toNatClampNeg
    · rw [if_pos h]; exact hp
    · rw [if_neg h]; exact hq.2 i hi
theorem okG_empty {q : St1} (hq : G1 q) : ok G1 (f_X1_empty q) := ok_s hq
theorem okG_takeBack {q : St1} {p : St2} (hq : G1 q) : ok (fun r => G1 r.1 ∧ G2 r.2) (f_X1_takeBack q p) := by
  unfold f_X1_takeBack
  obtain ⟨j, hj, e⟩ := hq.1
  have hr : rg (p1_next q + 8 - 1 - (p1_next q + 8 - 1) / 8 * 8) 8 := by
    rw [e, show nI j + 8 - 1 = nI (j + 7) from by rw [show (8 : Int32) = nI (7 + 1) from rfl, nI_add, show j + (7 + 1) = (j + 7) + 1 from rfl, nI_pred], show (8 : Int32) = nI 8 from rfl, pk_rem (by omega) (by decide) (by decide)]
    exact ⟨_, Nat.mod_lt _ (by decide), rfl⟩
  exact ok_g (rg_in hr (by decide)) (ok_s ⟨⟨hr, hq.2⟩, hq.2 _ (rg_cl hr (by decide))⟩)
theorem okG_has {p : St2} (hp : G2 p) (x : Int32) : ok (fun r => r = 0 ∨ (r = 1 ∧ rg x 6)) (f_X2_has p x) := by
  obtain ⟨N, hN, hs⟩ := hp
  exact ok_w (ok_has hs hN x) (fun a h => h.imp id (fun h => ⟨h.1, rg_up h.2 hN⟩))
theorem has_yes {r : Int32} {P : Prop} (h : r = 0 ∨ (r = 1 ∧ P)) (h0 : ¬ r = 0) : P := by
  rcases h with h | h
  · exact absurd h h0
  · exact h.2
theorem okG_stopped {p : St2} (hp : G2 p) : ok (fun _ => True) (f_X2_stopped p) := by obtain ⟨N, hN, hs⟩ := hp; exact ok_stopped hs hN
theorem okG_woundBy {p : St2} (hp : G2 p) (x : Int32) : ok (fun _ => True) (f_X2_woundBy p x) := by obtain ⟨N, hN, hs⟩ := hp; exact ok_woundBy hs hN x
theorem okG_runsOff {p : St2} (hp : G2 p) {x : Int32} (hx : rg x 6) (y : Int32) : ok (fun _ => True) (f_X2_runsOff p x y) := by obtain ⟨N, hN, hs⟩ := hp; exact ok_runsOff hs hN hx y
theorem okG_turnsTogether {p : St2} (hp : G2 p) : ok (fun _ => True) (f_X2_turnsTogether p) := by obtain ⟨N, hN, hs⟩ := hp; exact ok_turnsTogether hs hN
theorem okG_ring {p : St2} (hp : G2 p) : ok (fun _ => True) (f_X2_ring p) := by obtain ⟨N, hN, hs⟩ := hp; exact ok_ring hs hN
theorem okG_without {p : St2} (hp : G2 p) : ok (fun _ => True) (f_X2_without p) := by obtain ⟨N, hN, hs⟩ := hp; exact ok_without hs hN
theorem okG_behind {p : St2} (hp : G2 p) {x : Int32} (hx : rg x 6) : ok (fun _ => True) (f_X2_behind p x) := by obtain ⟨N, hN, hs⟩ := hp; exact ok_behind hs hN hx
theorem okG_heads {p : St2} (hp : G2 p) (x : Int32) : ok (fun _ => True) (f_X2_heads p x) := by obtain ⟨N, hN, hs⟩ := hp; exact ok_heads hs hN x
theorem okG_passHour {p : St2} (hp : G2 p) : ok G2 (f_X2_passHour p) := by obtain ⟨N, hN, hs⟩ := hp; exact ok_w (ok_passHour hs hN) (fun a h => ⟨N, hN, h⟩)
theorem okG_lendByDraw {p : St2} (hp : G2 p) : ok G2 (f_X2_lendByDraw p) := by obtain ⟨N, hN, hs⟩ := hp; exact ok_w (ok_lendByDraw hs hN) (fun a h => ⟨N, hN, h⟩)
theorem okG_addTurns {p : St2} (hp : G2 p) {x : Int32} (hx : rg x 6) (y : Int32) : ok G2 (f_X2_addTurns p x y) := ok_w (ok_addTurns hx y) (fun a h => hp.of h)
theorem okG_passHours {p : St2} (hp : G2 p) {x : Int32} {K : Nat} (hx : x = nI K) (hK : K ≤ 1000) : ok G2 (f_X2_passHours p x) := by obtain ⟨N, hN, hs⟩ := hp; exact ok_w (ok_passHours hs hN hx hK) (fun a h => ⟨N, hN, h⟩)
theorem okG_passUntil {p : St2} (hp : G2 p) (y : Int32) {x : Int32} {K : Nat} (hx : x = nI K) (hK : K ≤ 1000) : ok (fun r => G2 r.2) (f_X2_passUntilStopped p y x) := by obtain ⟨N, hN, hs⟩ := hp; exact ok_w (ok_passUntil hs hN y hx hK) (fun a h => ⟨N, hN, h⟩)
theorem okG_hasTurnsOf {p q : St2} (hp : G2 p) : ok (fun _ => True) (f_X2_hasTurnsOf p q) := by obtain ⟨N, hN, hs⟩ := hp; exact ok_hasTurnsOf hs hN
theorem okG_winders {p : St2} (hp : G2 p) : ok (fun r => rg r 64) (f_X2_winders p) := by obtain ⟨N, hN, hs⟩ := hp; exact ok_winders hs hN
theorem okG_wind {p : St2} (hp : G2 p) (x : Int32) : ok G2 (f_X2_wind p x) := by obtain ⟨N, hN, hs⟩ := hp; exact ok_w (ok_wind hs hN x) (fun a h => ⟨N, hN, h⟩)
theorem okG_run {p : St2} (hp : G2 p) : ok G2 (f_X2_run p) := by obtain ⟨N, hN, hs⟩ := hp; exact ok_w (ok_run hs hN) (fun a h => ⟨N, hN, h⟩)
theorem okG_join {p : St2} (hp : G2 p) (x y : Int32) : ok (fun r => G2 r.2 ∧ (r.1 = -3 ∨ rg r.1 6)) (f_X2_join p x y) := by
  obtain ⟨N, hN, hs⟩ := hp
  refine ok_w (ok_join hs hN x y) (fun a h => ?_)
  rcases h with ⟨h, -⟩ | ⟨h1, h2, h3⟩
  · rw [h]; exact ⟨⟨N, hN, hs⟩, Or.inl rfl⟩
  · exact ⟨⟨N + 1, by omega, h2⟩, Or.inr ⟨N, h1, h3⟩⟩
-- the class's own, over people and past
theorem okx_person (κ : St5) {nw : St2} {ps : St1} (h1 : G2 nw) (h2 : G1 ps) (x1 x2 : Int32) : ok (fun r => G2 r.2.1 ∧ G1 r.2.2) (f_X5_person κ nw ps x1 x2) := by
  unfold f_X5_person
  refine ok_i (fun _ => ok_s ⟨h1, h2⟩) (fun _ => ok_i (fun _ => ok_s ⟨h1, h2⟩) (fun _ => ok_i (fun _ => ok_s ⟨h1, h2⟩) (fun _ => ok_i (fun _ => ok_i (fun _ => ?_) (fun _ => ok_s ⟨h1, h2⟩)) (fun _ => ok_s ⟨h1, h2⟩))))
  exact ok_b (okG_empty h2) (fun a ha => ok_b (okG_join h1 _ _) (fun r hr => ok_s ⟨hr.1, ha⟩))
theorem okx_of (κ : St5) {nw : St2} (h1 : G2 nw) (x1 x2 : Int32) : ok (fun _ => True) (f_X5_of κ nw x1 x2) := by
  unfold f_X5_of
  refine ok_b (okG_has h1 x1) (fun r hr => ok_i (fun _ => ok_s trivial) (fun h => ?_))
  have hx := has_yes hr h
  have hg := rg_in hx (by decide)
  refine ok_i (fun _ => ok_g hg (ok_s trivial)) (fun _ => ok_i (fun _ => ok_g hg (ok_s trivial)) (fun _ => ok_i (fun _ => ok_g hg (ok_s trivial)) (fun _ => ok_i (fun _ => ok_g hg (ok_s trivial)) (fun _ => ok_i (fun _ => ?_) (fun _ => ok_i (fun _ => ok_b (okG_woundBy h1 _) (fun _ _ => ok_s trivial)) (fun _ => ok_s trivial))))))
  exact ok_b (okG_stopped h1) (fun a _ => ok_b (okG_runsOff h1 hx _) (fun _ _ => ok_s trivial))
theorem okx_count (κ : St5) {nw : St2} {ps : St1} (h1 : G2 nw) (x1 : Int32) : ok (fun _ => True) (f_X5_count κ nw ps x1) := by
  unfold f_X5_count
  refine ok_i (fun _ => ok_s trivial) (fun _ => ok_i (fun _ => ok_s trivial) (fun _ => ok_i (fun _ => ok_b (okG_stopped h1) (fun _ _ => ok_s trivial)) (fun _ => ok_i (fun _ => ok_b (okG_turnsTogether h1) (fun _ _ => ok_s trivial)) (fun _ => ok_i (fun _ => ok_b (okG_ring h1) (fun _ _ => ok_s trivial)) (fun _ => ok_i (fun _ => ok_b (okG_without h1) (fun _ _ => ok_s trivial)) (fun _ => ok_i (fun _ => ok_b ok_isWindingHour (fun _ _ => ok_i (fun _ => ok_s trivial) (fun _ => ok_s trivial))) (fun _ => ok_i (fun _ => ok_s trivial) (fun _ => ok_s trivial))))))))
theorem rg1 {x : Int32} {n : Nat} (h0 : ¬ x < 1) (h1 : x ≤ nI n) (hn : n < 2 ^ 31) : ∃ K : Nat, 1 ≤ K ∧ K ≤ n ∧ x = nI K := by
  have h0' : ¬ x < 0 := fun h => h0 (Int32.lt_trans h (by decide))
  obtain ⟨j, hj, e⟩ := nI_of h0'
  subst e
  have h2 : j ≤ n := by
    rcases Nat.lt_or_ge n j with q | q
    · exact absurd h1 (nI_ge q hj)
    · exact q
  refine ⟨j, ?_, h2, rfl⟩
  rcases Nat.eq_zero_or_pos j with q | q
  · subst q; exact absurd (by decide) h0
  · exact q
theorem rg0 {x : Int32} {n : Nat} (h0 : ¬ x < 0) (h1 : x ≤ nI n) (hn : n < 2 ^ 31) : ∃ K : Nat, K ≤ n ∧ x = nI K := by
  obtain ⟨j, hj, e⟩ := nI_of h0
  subst e
  refine ⟨j, ?_, rfl⟩
  rcases Nat.lt_or_ge n j with q | q
  · exact absurd h1 (nI_ge q hj)
  · exact q
theorem okx_spend (κ : St5) {nw : St2} {ps : St1} (h1 : G2 nw) (h2 : G1 ps) (x1 x2 : Int32) : ok (fun r => G2 r.2.1 ∧ G1 r.2.2) (f_X5_spend κ nw ps x1 x2) := by
  unfold f_X5_spend
  refine ok_i (fun _ => ok_s ⟨h1, h2⟩) (fun ha => ok_i (fun hb => ok_i (fun _ => ?_) (fun _ => ok_s ⟨h1, h2⟩)) (fun _ => ok_s ⟨h1, h2⟩))
  obtain ⟨K, hK1, hK2, hx⟩ := rg1 ha (n := 48) hb (by decide)
  refine ok_b (P := fun q => G2 q.2.1 ∧ G1 q.2.2) ?_ (fun q hq => ok_b (okG_stopped hq.1) (fun _ _ => ok_s hq))
  refine ok_loop0 (fun n y (s : St2 × St1) => lp_X5_spend_33 κ x1 x2 n y s.1 s.2) K (by omega) (fun _ s => G2 s.1 ∧ G1 s.2) (fun q => G2 q.2.1 ∧ G1 q.2.2) (nw, ps) ⟨h1, h2⟩ ?_ ?_
  · intro n s hI
    show ok _ (lp_X5_spend_33 κ x1 x2 (n + 1) (nI K) s.1 s.2)
    rw [lp_X5_spend_33]
    exact ok_i (fun _ => ok_s hI) (fun h => absurd (sz_ge hx) h)
  · intro n k s hk hI ih
    show ok _ (lp_X5_spend_33 κ x1 x2 (n + 1) (nI k) s.1 s.2)
    rw [lp_X5_spend_33]
    refine ok_i (fun h => absurd h (sz_lt hx hk (by omega))) (fun _ => ?_)
    refine ok_b (okG_keep hI.2 hI.1) (fun q hq => ?_)
    refine ok_i (fun _ => ok_b (okG_passHour hI.1) (fun a ha => ih (a, q) ⟨ha, hq⟩)) (fun _ => ?_)
    exact ok_b (okG_lendByDraw hI.1) (fun a ha => ok_b (okG_passHour ha) (fun b hb => ih (b, q) ⟨hb, hq⟩))
theorem okx_hours (κ : St5) {nw : St2} {ps : St1} (h1 : G2 nw) (h2 : G1 ps) (x1 : Int32) : ok (fun r => G2 r.2.1 ∧ G1 r.2.2) (f_X5_hours κ nw ps x1) := by
  unfold f_X5_hours
  exact ok_b (okx_spend κ h1 h2 _ _) (fun r h => ok_s h)
theorem okx_drift (κ : St5) {nw : St2} {ps : St1} (h1 : G2 nw) (h2 : G1 ps) (x1 : Int32) : ok (fun r => G2 r.2.1 ∧ G1 r.2.2) (f_X5_drift κ nw ps x1) := by
  unfold f_X5_drift
  exact ok_b (okx_spend κ h1 h2 _ _) (fun r h => ok_s h)
theorem okx_lend (κ : St5) {nw : St2} {ps : St1} (h1 : G2 nw) (h2 : G1 ps) (x1 x2 : Int32) : ok (fun r => G2 r.2.1 ∧ G1 r.2.2) (f_X5_lend κ nw ps x1 x2) := by
  unfold f_X5_lend
  refine ok_b (okG_has h1 x1) (fun r hr => ok_i (fun _ => ok_s ⟨h1, h2⟩) (fun h => ?_))
  have hx := has_yes hr h
  have hg := rg_in hx (by decide)
  refine ok_i (fun _ => ok_s ⟨h1, h2⟩) (fun _ => ok_i (fun _ => ok_g hg (ok_i (fun _ => ?_) (fun _ => ok_s ⟨h1, h2⟩))) (fun _ => ok_s ⟨h1, h2⟩))
  exact ok_b (okG_keep h2 h1) (fun q hq => ok_b (okG_addTurns h1 hx _) (fun a ha => ok_g hg (ok_s ⟨ha, hq⟩)))
theorem okx_tell (κ : St5) {nw : St2} {ps : St1} (h1 : G2 nw) (h2 : G1 ps) (x1 x2 : Int32) : ok (fun r => G2 r.2.1 ∧ G1 r.2.2) (f_X5_tell κ nw ps x1 x2) := by
  unfold f_X5_tell
  refine ok_b (okG_has h1 x1) (fun r hr => ok_i (fun _ => ok_s ⟨h1, h2⟩) (fun h => ?_))
  have hx := has_yes hr h
  have hg := rg_in hx (by decide)
  refine ok_i (fun _ => ok_s ⟨h1, h2⟩) (fun _ => ok_i (fun _ => ok_g hg (ok_i (fun _ => ok_s ⟨h1, h2⟩) (fun _ => ok_b (okG_keep h2 h1) (fun q hq => ok_g hg (ok_s ⟨h1, hq⟩))))) (fun _ => ?_))
  exact ok_b (okG_has h1 x2) (fun r _ => ok_i (fun _ => ok_s ⟨h1, h2⟩) (fun _ => ok_g hg (ok_i (fun _ => ok_s ⟨h1, h2⟩) (fun _ => ok_b (okG_keep h2 h1) (fun q hq => ok_g hg (ok_s ⟨h1, hq⟩))))))
theorem okx_cut (κ : St5) {nw : St2} {ps : St1} (h1 : G2 nw) (h2 : G1 ps) (x1 x2 : Int32) : ok (fun r => G2 r.2.1 ∧ G1 r.2.2) (f_X5_cut κ nw ps x1 x2) := by
  unfold f_X5_cut
  refine ok_b (okG_has h1 x1) (fun r hr => ok_i (fun _ => ok_s ⟨h1, h2⟩) (fun h => ?_))
  have hx := has_yes hr h
  have hg := rg_in hx (by decide)
  exact ok_i (fun _ => ok_s ⟨h1, h2⟩) (fun _ => ok_i (fun _ => ok_g hg (ok_i (fun _ => ok_s ⟨h1, h2⟩) (fun _ => ok_b (okG_keep h2 h1) (fun q hq => ok_g hg (ok_s ⟨h1, hq⟩))))) (fun _ => ok_s ⟨h1, h2⟩))
theorem okx_undo (κ : St5) {nw : St2} {ps : St1} (h1 : G2 nw) (h2 : G1 ps) : ok (fun r => G2 r.2.1 ∧ G1 r.2.2) (f_X5_undo κ nw ps) := by
  unfold f_X5_undo
  exact ok_i (fun _ => ok_s ⟨h1, h2⟩) (fun _ => ok_b (okG_takeBack h2) (fun r h => ok_s ⟨h.2, h.1⟩))
theorem okx_seed (κ : St5) {nw : St2} (h1 : G2 nw) (x1 : Int32) : ok (fun r => G2 r.2) (f_X5_seed κ nw x1) := by
  unfold f_X5_seed
  exact ok_i (fun _ => ok_s h1) (fun _ => ok_s h1)
theorem okx_ahead (κ : St5) {nw tr : St2} (h1 : G2 nw) (h2 : G2 tr) (x1 x2 : Int32) : ok (fun r => G2 r.2) (f_X5_ahead κ nw tr x1 x2) := by
  unfold f_X5_ahead
  refine ok_b (okG_has h1 x1) (fun r hr => ok_i (fun _ => ok_s h2) (fun h => ok_i (fun _ => ok_s h2) (fun ha => ok_i (fun hb => ?_) (fun _ => ok_s h2))))
  obtain ⟨K, hK, hx⟩ := rg0 ha (n := 80) hb (by decide)
  exact ok_b (okG_passHours h1 hx (by omega)) (fun q hq => ok_g (rg_in (has_yes hr h) (by decide)) (ok_s hq))
theorem okx_then (κ : St5) {nw tr : St2} (h1 : G2 nw) (h2 : G2 tr) (x1 : Int32) : ok (fun r => G2 r.2) (f_X5_then κ nw tr x1) := by
  unfold f_X5_then
  refine ok_i (fun _ => ok_s h2) (fun ha => ok_i (fun hb => ?_) (fun _ => ok_s h2))
  obtain ⟨K, hK, hx⟩ := rg0 ha (n := 80) hb (by decide)
  exact ok_b (okG_passHours h1 hx (by omega)) (fun q hq => ok_b (okG_stopped hq) (fun _ _ => ok_s hq))
theorem okx_stops (κ : St5) {nw tr : St2} (h1 : G2 nw) (h2 : G2 tr) (x1 : Int32) : ok (fun r => G2 r.2) (f_X5_stops κ nw tr x1) := by
  unfold f_X5_stops
  exact ok_b (okG_has h1 x1) (fun r hr => ok_i (fun _ => ok_s h2) (fun h => ok_b (okG_passUntil h1 _ (K := 80) rfl (by decide)) (fun q hq => ok_s hq)))
theorem okx_all (κ : St5) {nw tr : St2} (h1 : G2 nw) : ok (fun r => G2 r.2) (f_X5_all κ nw tr) := by
  unfold f_X5_all f_X2_everybody
  exact ok_b (P := fun _ => True) (ok_s trivial) (fun a _ => ok_b (okG_passUntil h1 _ (K := 80) rfl (by decide)) (fun q hq => ok_s hq))
theorem okx_ever (κ : St5) {nw tr : St2} (h1 : G2 nw) : ok (fun r => G2 r.2) (f_X5_ever κ nw tr) := by
  unfold f_X5_ever
  refine ok_b (okG_stopped h1) (fun z _ => ?_)
  refine ok_b (P := fun q => G2 q.2.2) ?_ (fun q hq => ok_s hq)
  refine ok_loop0 (fun n y (s : Int32 × St2) => lp_X5_ever_21 κ nw n s.1 y s.2) 80 (by decide) (fun _ s => G2 s.2) (fun q => G2 q.2.2) (z, nw) h1 ?_ ?_
  · intro n s hI
    show ok _ (lp_X5_ever_21 κ nw (n + 1) s.1 (nI 80) s.2)
    rw [lp_X5_ever_21]
    exact ok_i (fun _ => ok_s hI) (fun h => absurd (by decide) h)
  · intro n k s hk hI ih
    show ok _ (lp_X5_ever_21 κ nw (n + 1) s.1 (nI k) s.2)
    rw [lp_X5_ever_21]
    refine ok_i (fun h => absurd h (nI_ge hk (by decide))) (fun _ => ?_)
    exact ok_b (okG_passHour hI) (fun a ha => ok_b (okG_stopped ha) (fun b _ => ih (_, a) ha))
theorem okx_chain (κ : St5) {nw : St2} (h1 : G2 nw) (x1 x2 : Int32) : ok (fun _ => True) (f_X5_chain κ nw x1 x2) := by
  unfold f_X5_chain
  refine ok_b (okG_has h1 x1) (fun r hr => ok_i (fun _ => ok_s trivial) (fun h => ok_i (fun _ => ok_s trivial) (fun _ => ok_i (fun _ => ?_) (fun _ => ok_s trivial))))
  exact ok_i (fun _ => ok_b (okG_behind h1 (has_yes hr h)) (fun _ _ => ok_s trivial)) (fun _ => ok_b (okG_heads h1 _) (fun _ _ => ok_s trivial))
theorem okx_isAdvised (x : Int32) : ok (fun r => r = 0 ∨ (r = 1 ∧ ∃ K : Nat, 1 ≤ K ∧ K ≤ 40 ∧ x = nI K)) (f_X5_isAdvised x) := by
  unfold f_X5_isAdvised
  refine ok_i (fun _ => ok_s (Or.inl rfl)) (fun ha => ok_i (fun _ => ok_s (Or.inl rfl)) (fun hb => ok_s (Or.inr ⟨rfl, ?_⟩)))
  exact rg1 ha (n := 40) (Int32.not_lt.mp hb) (by decide)
theorem ok_bitCount (x : Int32) : ok (fun r => rg r 64) (f_J6_bitCount_0f7a4 x) := by
  unfold f_J6_bitCount_0f7a4
  refine ok_n (fun y1 _ => ok_n (fun y2 _ => ok_n (fun y3 _ => ok_n (fun y4 _ => ok_n (fun y5 _ => ok_s ?_)))))
  obtain ⟨j, hj, e⟩ := pk_andE y5 (m := 63) 6 (by decide)
  exact ⟨j, hj, e⟩
theorem okx_lends (κ : St5) {nw tr : St2} (h1 : G2 nw) (h2 : G2 tr) (x1 x2 x3 : Int32) : ok (fun r => G2 r.2) (f_X5_lends κ nw tr x1 x2 x3) := by
  unfold f_X5_lends
  refine ok_b (okx_isAdvised x1) (fun r hr => ok_i (fun _ => ok_s h2) (fun h => ok_i (fun _ => ok_s h2) (fun _ => ok_i (fun _ => ok_s h2) (fun _ => ok_i (fun _ => ok_s h2) (fun _ => ok_i (fun _ => ?_) (fun _ => ok_s h2))))))
  obtain ⟨K, hK1, hK2, hx⟩ := has_yes hr h
  obtain ⟨N, hN, hs⟩ := id h1
  refine ok_b (P := fun q => G2 q.2.2.2) ?_ (fun q hq => ok_i (fun _ => ok_s hq) (fun _ => ok_i (fun _ => ok_s hq) (fun _ => ok_s hq)))
  refine ok_loop0 (fun n y (s : Int32 × Int32 × St2) => lp_X5_lends_40 κ nw x1 x2 x3 n s.1 s.2.1 y s.2.2) N (by omega) (fun _ s => G2 s.2.2) (fun q => G2 q.2.2.2) (-4, 7, tr) h2 ?_ ?_
  · intro n s hI
    show ok _ (lp_X5_lends_40 κ nw x1 x2 x3 (n + 1) s.1 s.2.1 (nI N) s.2.2)
    rw [lp_X5_lends_40]
    exact ok_i (fun _ => ok_s hI) (fun h => absurd (sz_ge hs) h)
  · intro n k s hk hI ih
    show ok _ (lp_X5_lends_40 κ nw x1 x2 x3 (n + 1) s.1 s.2.1 (nI k) s.2.2)
    rw [lp_X5_lends_40]
    refine ok_i (fun h => absurd h (sz_lt hs hk (by omega))) (fun _ => ?_)
    refine ok_b (okG_addTurns h1 (rg_nI (by omega)) _) (fun a ha => ok_b (okG_passHours ha hx (by omega)) (fun b hb => ok_b (okG_stopped hb) (fun c _ => ok_b (ok_bitCount c) (fun d _ => ?_))))
    exact ok_i (fun _ => ih (_, _, b) hb) (fun _ => ih (_, _, b) hb)
theorem okx_stoppedIfTold (κ : St5) {nw : St2} (tr : St2) (h1 : G2 nw) {x1 : Int32} (hx : rg x1 6) (x2 : Int32) {x3 : Int32} {K : Nat} (h3 : x3 = nI K) (hK : K ≤ 1000) : ok (fun r => G2 r.2) (f_X5_stoppedIfTold κ nw tr x1 x2 x3) := by
  unfold f_X5_stoppedIfTold
  refine ok_g (rg_in hx (by decide)) ?_
  refine ok_b (okG_passHours (p := s2_winds nw (upd (p2_winds nw) x1.toNatClampNeg x2)) h1 h3 hK) (fun b hb => ok_b (okG_stopped hb) (fun c _ => ok_b (ok_bitCount c) (fun d _ => ok_s hb)))
theorem okx_instead (κ : St5) {nw tr : St2} (h1 : G2 nw) (h2 : G2 tr) (x1 x2 x3 : Int32) : ok (fun r => G2 r.2) (f_X5_instead κ nw tr x1 x2 x3) := by
  unfold f_X5_instead
  refine ok_b (okG_has h1 x1) (fun r hr => ok_i (fun _ => ok_s h2) (fun h => ok_b (okx_isAdvised x2) (fun r2 hr2 => ok_i (fun _ => ok_s h2) (fun hh => ok_i (fun _ => ok_s h2) (fun _ => ok_i (fun _ => ?_) (fun _ => ok_s h2))))))
  obtain ⟨K, hK1, hK2, hx⟩ := has_yes hr2 hh
  have hp := has_yes hr h
  obtain ⟨N, hN, hs⟩ := id h1
  refine ok_b (okx_stoppedIfTold κ tr h1 hp _ hx (by omega)) (fun z hz => ?_)
  refine ok_b (P := fun q => G2 q.2.2.2) ?_ (fun q hq => ok_i (fun _ => ok_s hq) (fun _ => ok_s hq))
  refine ok_loop0 (fun n y (s : Int32 × Int32 × St2) => lp_X5_instead_46 κ nw x1 x2 x3 n s.1 s.2.1 y s.2.2) N (by omega) (fun _ s => G2 s.2.2) (fun q => G2 q.2.2.2) (-4, z.1, z.2) hz ?_ ?_
  · intro n s hI
    show ok _ (lp_X5_instead_46 κ nw x1 x2 x3 (n + 1) s.1 s.2.1 (nI N) s.2.2)
    rw [lp_X5_instead_46]
    exact ok_i (fun _ => ok_s hI) (fun h => absurd (sz_ge hs) h)
  · intro n k s hk hI ih
    show ok _ (lp_X5_instead_46 κ nw x1 x2 x3 (n + 1) s.1 s.2.1 (nI k) s.2.2)
    rw [lp_X5_instead_46]
    refine ok_i (fun h => absurd h (sz_lt hs hk (by omega))) (fun _ => ?_)
    refine ok_i (fun _ => ok_i (fun _ => ih (_, _, _) hI) (fun _ => ih (_, _, _) hI)) (fun _ => ?_)
    exact ok_b (okx_stoppedIfTold κ _ h1 hp _ hx (by omega)) (fun b hb => ok_i (fun _ => ih (s.1, s.2.1, b.2) hb) (fun _ => ih (nI k, b.1, b.2) hb))
theorem okx_needs (κ : St5) {nw tr : St2} (h1 : G2 nw) (h2 : G2 tr) (x1 x2 : Int32) : ok (fun r => G2 r.2) (f_X5_needs κ nw tr x1 x2) := by
  unfold f_X5_needs
  refine ok_b (okG_has h1 x1) (fun r hr => ok_i (fun _ => ok_s h2) (fun h => ok_b (okx_isAdvised x2) (fun r2 hr2 => ok_i (fun _ => ok_s h2) (fun hh => ?_))))
  obtain ⟨K, hK1, hK2, hx⟩ := has_yes hr2 hh
  have hp := has_yes hr h
  refine ok_loop0 (fun n y (s : St2) => lp_X5_needs_22 κ nw x1 x2 n y s) 31 (by decide) (fun _ s => G2 s) (fun q => G2 q.2) tr h2 ?_ ?_
  · intro n s hI
    show ok _ (lp_X5_needs_22 κ nw x1 x2 (n + 1) (nI 31) s)
    rw [lp_X5_needs_22]
    exact ok_i (fun _ => ok_s hI) (fun h => absurd (by decide) h)
  · intro n k s hk hI ih
    show ok _ (lp_X5_needs_22 κ nw x1 x2 (n + 1) (nI k) s)
    rw [lp_X5_needs_22]
    refine ok_i (fun h => absurd h (nI_nlt (show k ≤ 30 by omega) (by decide))) (fun _ => ok_g (rg_in hp (by decide)) ?_)
    exact ok_b (okG_passUntil (p := s2_turns nw (upd (p2_turns nw) x1.toNatClampNeg (nI k))) h1 _ hx (by omega)) (fun b hb => ok_i (fun _ => ok_s hb) (fun _ => ih _ hb))
theorem okx_again (κ : St5) {nw tr : St2} (h1 : G2 nw) : ok (fun r => G2 r.2) (f_X5_again κ nw tr) := by
  unfold f_X5_again
  refine ok_loop (fun n y (s : St2) => lp_X5_again_13 κ nw n y s) 11 (fun _ s => G2 s) (fun q => G2 q.2) ?_ ?_ FU 1 nw (by decide) (by decide) h1
  · intro n s hI
    show ok _ (lp_X5_again_13 κ nw (n + 1) (nI 11) s)
    rw [lp_X5_again_13]
    exact ok_i (fun _ => ok_s hI) (fun h => absurd (by decide) h)
  · intro n k s hk hI ih
    show ok _ (lp_X5_again_13 κ nw (n + 1) (nI k) s)
    rw [lp_X5_again_13]
    refine ok_i (fun h => absurd h (nI_nlt (show k ≤ 10 by omega) (by decide))) (fun _ => ?_)
    exact ok_b (okG_passHours hI (K := 24) rfl (by decide)) (fun a ha => ok_b (okG_hasTurnsOf ha) (fun b _ => ok_i (fun _ => ih _ ha) (fun _ => ok_s ha)))
theorem okx_image (κ : St5) {nw kn : St2} {ps kp : St1} (h1 : G2 nw) (h2 : G1 ps) : ok (fun r => G2 r.2.2.1 ∧ G1 r.2.2.2) (f_X5_image κ nw ps kn kp) := by
  unfold f_X5_image
  exact ok_s ⟨h1, h2⟩
theorem okx_restore (κ : St5) {nw kn : St2} {ps kp : St1} (h1 : G2 nw) (h2 : G1 ps) (h3 : G2 kn) (h4 : G1 kp) : ok (fun r => G2 r.2.1 ∧ G1 r.2.2) (f_X5_restore κ nw ps kn kp) := by
  unfold f_X5_restore
  exact ok_i (fun _ => ok_s ⟨h1, h2⟩) (fun _ => ok_s ⟨h3, h4⟩)
