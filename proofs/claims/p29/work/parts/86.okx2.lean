/-! forget, match, tape, sheets of the class -/
theorem ok_power (x0 : Int32) {x1 : Int32} (h : x1 ≤ 0 ∨ ∃ K : Nat, K ≤ 64 ∧ x1 = nI K) : ok (fun _ => True) (f_X5_power x0 x1) := by
  unfold f_X5_power
  refine ok_b (P := fun _ => True) ?_ (fun a _ => ok_s trivial)
  rcases h with h | ⟨K, hK, hx⟩
  · rw [show FU = 99999 + 1 from rfl, lp_X5_power_4]
    exact ok_i (fun _ => ok_s trivial) (fun hh => absurd h hh)
  · refine ok_loop0 (fun n y s => lp_X5_power_4 x0 x1 n s y) K (by omega) (fun _ _ => True) (fun _ => True) 1 trivial ?_ ?_
    · intro n s _
      show ok _ (lp_X5_power_4 x0 x1 (n + 1) s (nI K))
      rw [lp_X5_power_4]
      exact ok_i (fun _ => ok_s trivial) (fun h => absurd (sz_ge hx) h)
    · intro n k s hk _ ih
      show ok _ (lp_X5_power_4 x0 x1 (n + 1) s (nI k))
      rw [lp_X5_power_4]
      exact ok_i (fun h => absurd h (sz_lt hx hk (by omega))) (fun _ => ih _ trivial)
theorem rg_pow {x : Int32} (h : rg x 64) : x ≤ 0 ∨ ∃ K : Nat, K ≤ 64 ∧ x = nI K := by
  obtain ⟨k, hk, e⟩ := h
  exact Or.inr ⟨k, by omega, e⟩
theorem rg_dif {x y : Int32} (hx : rg x 64) (hy : rg y 64) : x - y ≤ 0 ∨ ∃ K : Nat, K ≤ 64 ∧ x - y = nI K := by
  obtain ⟨a, ha, rfl⟩ := hx
  obtain ⟨b, hb, rfl⟩ := hy
  rcases Nat.lt_or_ge a b with h | h
  · left
    exact Int32.le_of_lt (pk_sneg (by omega) h)
  · right
    exact ⟨a - b, by omega, pk_sub h⟩
theorem ok_ways (x0 x1 x2 : Int32) : ok (fun _ => True) (f_X5_waysToForget x0 x1 x2) := by
  unfold f_X5_waysToForget
  exact ok_b (ok_bitCount _) (fun a ha => ok_b (ok_power _ (rg_pow ha)) (fun b _ => ok_b (ok_bitCount _) (fun c hc => ok_b (ok_power _ (rg_dif hc ha)) (fun d _ => ok_s trivial))))
theorem ok_gcd (x y : Int32) : ok (fun _ => True) (f_X5_greatestDivisor x y) := by
  unfold f_X5_greatestDivisor
  refine ok_b (P := fun _ => True) ?_ (fun a _ => ok_s trivial)
  refine ok_loop0 (fun n z (s : Int32 × Int32) => lp_X5_greatestDivisor_7 n s.1 s.2 z) 100 (by decide) (fun _ _ => True) (fun _ => True) (x, y) trivial ?_ ?_
  · intro n s _
    show ok _ (lp_X5_greatestDivisor_7 (n + 1) s.1 s.2 (nI 100))
    rw [lp_X5_greatestDivisor_7]
    exact ok_i (fun _ => ok_s trivial) (fun h => absurd (by decide) h)
  · intro n k s hk _ ih
    show ok _ (lp_X5_greatestDivisor_7 (n + 1) s.1 s.2 (nI k))
    rw [lp_X5_greatestDivisor_7]
    refine ok_i (fun h => absurd h (nI_ge hk (by decide))) (fun _ => ok_i (fun _ => ok_s trivial) (fun h => ok_g ?_ (ih (_, _) trivial)))
    intro e
    rw [e] at h
    exact h (by decide)
theorem ok_flp (κ : St5) {nw : St2} (h1 : G2 nw) {x1 : Int32} (hx : rg x1 6) (x2 x3 : Int32) {x4 : Int32} (h4 : rg x4 64) {tr : St2} (h2 : G2 tr) : ok (fun q => G2 q.2.2) (lp_X5_forget_61 κ nw x1 x2 x3 x4 FU 0 0 tr) := by
  obtain ⟨w, hw, e⟩ := h4
  refine ok_loop0 (fun n z (s : Int32 × St2) => lp_X5_forget_61 κ nw x1 x2 x3 x4 n s.1 z s.2) (w + 1) (by omega) (fun _ s => G2 s.2) (fun q => G2 q.2.2) (0, tr) h2 ?_ ?_
  · intro n s hI
    show ok _ (lp_X5_forget_61 κ nw x1 x2 x3 x4 (n + 1) s.1 (nI (w + 1)) s.2)
    rw [lp_X5_forget_61]
    exact ok_i (fun _ => ok_s hI) (fun h => absurd (by rw [e]; exact nI_lt (Nat.lt_succ_self w) (by omega)) h)
  · intro n k s hk hI ih
    show ok _ (lp_X5_forget_61 κ nw x1 x2 x3 x4 (n + 1) s.1 (nI k) s.2)
    rw [lp_X5_forget_61]
    refine ok_i (fun h => absurd h (by rw [e]; exact nI_nlt (show k ≤ w by omega) (by omega))) (fun _ => ok_i (fun _ => ?_) (fun _ => ih (_, _) hI))
    refine ok_b (okG_wind h1 _) (fun a ha => ok_b (okG_run ha) (fun b hb => ok_b (ok_isStopped hx) (fun c _ => ?_)))
    exact ok_i (fun _ => ih (_, b) hb) (fun _ => ok_b (ok_ways _ _ _) (fun d _ => ih (_, b) hb))
theorem max1 (r : Int32) : ¬ (if r < 1 then (1 : Int32) else r) = 0 := by
  by_cases h : r < 1
  · rw [if_pos h]; decide
  · rw [if_neg h]
    intro e
    rw [e] at h
    exact h (by decide)
theorem okx_forget (κ : St5) {nw tr : St2} (h1 : G2 nw) (h2 : G2 tr) (x1 x2 x3 : Int32) : ok (fun r => G2 r.2) (f_X5_forget κ nw tr x1 x2 x3) := by
  unfold f_X5_forget
  refine ok_b (okG_has h1 x1) (fun r hr => ok_i (fun _ => ok_s h2) (fun h => ok_i (fun _ => ok_s h2) (fun _ => ok_i (fun _ => ok_s h2) (fun _ => ok_i (fun _ => ok_s h2) (fun _ => ok_i (fun _ => ?_) (fun _ => ok_s h2))))))
  have hx := has_yes hr h
  refine ok_b ok_isWindingHour (fun a _ => ok_i (fun _ => ?_) (fun _ => ?_))
  · refine ok_b (ok_flp κ h1 hx x2 x3 (x4 := 0) ⟨0, by decide, rfl⟩ h2) (fun q hq => ok_b (ok_bitCount _) (fun c hc => ok_b (ok_power _ (rg_pow hc)) (fun d _ => ok_b (ok_gcd _ _) (fun g _ => ?_))))
    exact ok_i (fun _ => ok_g (max1 g) (ok_s hq)) (fun _ => ok_g (max1 g) (ok_s hq))
  · refine ok_b (okG_winders h1) (fun w hw => ok_b (ok_flp κ h1 hx x2 x3 hw h2) (fun q hq => ok_b (ok_bitCount _) (fun c hc => ok_b (ok_power _ (rg_pow hc)) (fun d _ => ok_b (ok_gcd _ _) (fun g _ => ?_)))))
    exact ok_i (fun _ => ok_g (max1 g) (ok_s hq)) (fun _ => ok_g (max1 g) (ok_s hq))
theorem ok_choose {τ : St2} {N : Nat} (hs : p2_size τ = nI N) (hN : N ≤ 6) : ∀ (d p : Nat) (σ : St0) (x3 x4 : Int32), N < p + d → 1 ≤ d → p ≤ N → ok (fun _ => True) (f_X0_choose d σ τ (nI p) x3 x4) := by
  intro d
  induction d with
  | zero => intro p σ x3 x4 _ h; omega
  | succ d ihd =>
    intro p σ x3 x4 hd _ hp
    show ok _ (g_X0_choose (f_X0_choose d) σ τ (nI p) x3 x4)
    unfold g_X0_choose
    refine ok_i (fun _ => ok_i (fun hlt => ?_) (fun _ => ok_g (by decide) (ok_s trivial))) (fun _ => ok_s trivial)
    have hpN : p < N := by
      rcases Nat.lt_or_ge p N with q | q
      · exact q
      · exact absurd hlt (by rw [hs]; exact nI_nlt q (by omega))
    refine ok_b (P := fun _ => True) ?_ (fun a _ => ok_s trivial)
    refine ok_loop0 (fun n z s => lp_X0_choose_43 (f_X0_choose d) τ (nI p) x3 x4 n z s) N (by omega) (fun _ _ => True) (fun _ => True) σ trivial ?_ ?_
    · intro n s _
      show ok _ (lp_X0_choose_43 (f_X0_choose d) τ (nI p) x3 x4 (n + 1) (nI N) s)
      rw [lp_X0_choose_43]
      exact ok_i (fun _ => ok_s trivial) (fun h => absurd (sz_ge hs) h)
    · intro n k s hk _ ih
      show ok _ (lp_X0_choose_43 (f_X0_choose d) τ (nI p) x3 x4 (n + 1) (nI k) s)
      rw [lp_X0_choose_43]
      have hg : inB (nI p) 6 = true := inB_nI (by omega) (by decide)
      refine ok_i (fun h => absurd h (sz_lt hs hk (by omega))) (fun _ => ok_i (fun _ => ih _ trivial) (fun _ => ok_i (fun _ => ok_g hg (ok_g hg ?_)) (fun _ => ih _ trivial)))
      rw [nI_1 p]
      exact ok_i (fun _ => ok_b (ihd (p + 1) _ _ _ (by omega) (by omega) (by omega)) (fun a _ => ih _ trivial)) (fun _ => ok_b (ihd (p + 1) _ _ _ (by omega) (by omega) (by omega)) (fun a _ => ih _ trivial))
theorem okx_match (κ : St5) {nw : St2} {mt : St0} (h1 : G2 nw) (x1 : Int32) : ok (fun _ => True) (f_X5_match κ nw mt x1) := by
  unfold f_X5_match
  obtain ⟨N, hN, hs⟩ := id h1
  have hf : ok (fun _ => True) (f_X0_find mt nw) := by
    unfold f_X0_find
    exact ok_b (ok_choose hs hN 8 0 _ _ _ (by omega) (by decide) (Nat.zero_le _)) (fun a _ => ok_s trivial)
  refine ok_i (fun _ => ok_i (fun h1 => ok_b hf (fun a _ => ok_i (fun _ => ok_s trivial) (fun h => absurd h1 h))) (fun _ => ?_)) (fun _ => ok_s trivial)
  exact ok_b (okG_has h1 x1) (fun r hr => ok_i (fun _ => ok_s trivial) (fun h => ok_b hf (fun a _ => ok_i (fun _ => ok_s trivial) (fun _ => ok_g (rg_in (has_yes hr h) (by decide)) (ok_s trivial)))))
-- the tape
noncomputable def J4 (T : Nat) (σ : St4) : Prop := p4_size σ = nI T ∧ ∃ pl : Nat, pl ≤ T ∧ p4_place σ = nI pl
noncomputable def J4s (T : Nat) (σ : St4) : Prop := p4_size σ = nI T ∧ ∃ pl : Nat, pl < T ∧ p4_place σ = nI pl
theorem J4s.le {T : Nat} {σ : St4} (h : J4s T σ) : J4 T σ := ⟨h.1, by obtain ⟨pl, h1, h2⟩ := h.2; exact ⟨pl, by omega, h2⟩⟩
theorem J4s.next {T : Nat} {σ : St4} (h : J4s T σ) : J4 T (s4_place σ (p4_place σ + 1)) := by
  obtain ⟨h0, pl, h1, h2⟩ := h
  exact ⟨h0, pl + 1, by omega, by show p4_place σ + 1 = _; rw [h2, nI_1]⟩
theorem ok_letterHere {T : Nat} (hT : T ≤ 60) {σ : St4} (h : J4 T σ) : ok (fun r => J4 T r.2 ∧ (r.1 = -1 ∨ J4s T r.2)) (f_X4_letterHere σ) := by
  unfold f_X4_letterHere
  have hl : ∀ (n : Nat) (s : St4) (pl : Nat), p4_size s = nI T → p4_place s = nI pl → pl ≤ T → T - pl < n → ok (J4 T) (lp_X4_letterHere_0 n s) := by
    intro n
    induction n with
    | zero => intro s pl _ _ _ h; omega
    | succ n ih =>
      intro s pl h1 h2 h3 h4
      rw [lp_X4_letterHere_0]
      refine ok_i (fun _ => ok_s ⟨h1, pl, h3, h2⟩) (fun hc => ?_)
      have hlt : pl < T := by
        rcases Nat.lt_or_ge pl T with q | q
        · exact q
        · exact absurd (by rw [h1, h2]; exact nI_le q (by omega)) hc
      refine ok_g (by rw [h2]; exact inB_nI (show pl < 60 by omega) (by decide)) (ok_i (fun _ => ?_) (fun _ => ok_s ⟨h1, pl, h3, h2⟩))
      exact ih _ (pl + 1) h1 (by show p4_place s + 1 = _; rw [h2, nI_1]) (by omega) (by omega)
  obtain ⟨h1, pl, h2, h3⟩ := h
  refine ok_b (hl FU σ pl h1 h3 h2 (by unfold FU; omega)) (fun q hq => ?_)
  refine ok_i (fun _ => ok_s ⟨hq, Or.inl rfl⟩) (fun hc => ?_)
  obtain ⟨g1, pl2, g2, g3⟩ := hq
  have hlt : pl2 < T := by
    rcases Nat.lt_or_ge pl2 T with q | q
    · exact q
    · exact absurd (by rw [g1, g3]; exact nI_le q (by omega)) hc
  exact ok_g (by rw [g3]; exact inB_nI (show pl2 < 60 by omega) (by decide)) (ok_s ⟨⟨g1, pl2, g2, g3⟩, Or.inr ⟨g1, pl2, hlt, g3⟩⟩)
theorem ok_take {T : Nat} (hT : T ≤ 60) {σ : St4} (h : J4 T σ) (x : Int32) (hx : ¬ x = -1) : ok (fun r => J4 T r.2) (f_X4_take σ x) := by
  unfold f_X4_take
  refine ok_b (ok_letterHere hT h) (fun r hr => ok_i (fun hc => ?_) (fun _ => ok_s ?_))
  · rcases hr.2 with q | q
    · exact absurd (hc.symm.trans q) hx
    · exact ok_s q.next
  · obtain ⟨g1, pl, g2, g3⟩ := hr.1
    exact ⟨g1, pl, g2, by show p4_place r.2 + 0 = _; rw [g3]; exact Int32.add_zero _⟩
theorem ok_takeDigit {T : Nat} (hT : T ≤ 60) {σ : St4} (h : J4 T σ) : ok (fun r => J4 T r.2) (f_X4_takeDigit σ) := by
  unfold f_X4_takeDigit
  obtain ⟨h1, pl, h2, h3⟩ := id h
  refine ok_i (fun _ => ok_s h) (fun hc => ?_)
  have hlt : pl < T := by
    rcases Nat.lt_or_ge pl T with q | q
    · exact q
    · exact absurd (by rw [h1, h3]; exact nI_le q (by omega)) hc
  have hg : inB (p4_place σ) 60 = true := by rw [h3]; exact inB_nI (show pl < 60 by omega) (by decide)
  refine ok_g hg (ok_i (fun _ => ok_s h) (fun _ => ok_g hg (ok_i (fun _ => ?_) (fun _ => ok_s h))))
  refine ok_g ?_ (ok_s ?_)
  · rw [h3, nI_1, nI_pred]; exact inB_nI (show pl < 60 by omega) (by decide)
  · exact J4s.next ⟨h1, pl, hlt, h3⟩
theorem ok_takeNumber {T : Nat} (hT : T ≤ 60) {σ : St4} (h : J4 T σ) (x1 x2 : Int32) : ok (fun r => J4 T r.2) (f_X4_takeNumber σ x1 x2) := by
  unfold f_X4_takeNumber
  refine ok_b (ok_letterHere hT h) (fun r1 hr1 => ok_b (ok_takeDigit hT hr1.1) (fun r2 hr2 => ?_))
  have back : ∀ s : St4, J4 T s → J4 T (s4_place s (p4_place r1.2)) := fun s hs => ⟨hs.1, hr1.1.2⟩
  refine ok_i (fun _ => ok_i (fun _ => ok_s (back _ hr2)) (fun _ => ok_i (fun _ => ok_s hr2) (fun _ => ok_s (back _ hr2)))) (fun _ => ?_)
  refine ok_b (ok_takeDigit hT hr2) (fun r4 hr4 => ?_)
  refine ok_i (fun _ => ok_i (fun _ => ok_s (back _ hr4)) (fun _ => ok_i (fun _ => ok_s hr4) (fun _ => ok_s (back _ hr4)))) (fun _ => ?_)
  exact ok_i (fun _ => ok_s (back _ hr4)) (fun _ => ok_i (fun _ => ok_s hr4) (fun _ => ok_s (back _ hr4)))
theorem ok_readWinding {T : Nat} (hT : T ≤ 60) {σ : St4} (h : J4 T σ) {τ : St2} (hτ : G2 τ) {x : Int32} (hx : x = -3 ∨ rg x 6) : ok (fun r => J4 T r.2.1 ∧ G2 r.2.2) (f_X4_readWinding σ τ x) := by
  unfold f_X4_readWinding
  refine ok_b (ok_letterHere hT h) (fun r hr => ok_i (fun _ => ok_s ⟨hr.1, hτ⟩) (fun ha => ok_i (fun _ => ok_s ⟨hr.1, hτ⟩) (fun _ => ok_i (fun _ => ok_s ⟨hr.1, hτ⟩) (fun _ => ok_i (fun hc => ?_) (fun _ => ok_s ⟨hr.1, hτ⟩)))))
  have hx6 : rg x 6 := by
    rcases hx with q | q
    · rw [q] at hc; exact absurd hc (by decide)
    · exact q
  have hs : J4s T r.2 := by
    rcases hr.2 with q | q
    · rw [q] at ha; exact absurd (by decide) ha
    · exact q
  refine ok_b (ok_take hT hs.next 58 (by decide)) (fun r6 h6 => ok_i (fun _ => ok_s ⟨h6, hτ⟩) (fun _ => ok_b (ok_takeNumber hT h6 _ _) (fun r8 h8 => ok_i (fun _ => ok_s ⟨h8, hτ⟩) (fun _ => ?_))))
  exact ok_g (rg_in hx6 (by decide)) (ok_g (rg_in hx6 (by decide)) (ok_s ⟨h8, hτ⟩))
theorem kind_m1 : f_kind (-1) = -1 := by decide
theorem ok_readPerson {T : Nat} (hT : T ≤ 60) {σ : St4} (h : J4 T σ) {τ : St2} (hτ : G2 τ) : ok (fun r => J4 T r.2.1 ∧ G2 r.2.2) (f_X4_readPerson σ τ) := by
  unfold f_X4_readPerson
  refine ok_b (ok_letterHere hT h) (fun r hr => ok_i (fun ha => ?_) (fun _ => ok_s ⟨hr.1, hτ⟩))
  have hs : J4s T r.2 := by
    rcases hr.2 with q | q
    · rw [q, kind_m1] at ha; exact absurd ha (by decide)
    · exact q
  refine ok_b (ok_takeNumber hT hs.next _ _) (fun r3 h3 => ok_i (fun _ => ok_s ⟨h3, hτ⟩) (fun _ => ?_))
  refine ok_b (okG_join hτ _ _) (fun r5 h5 => ok_b (ok_take hT h3 62 (by decide)) (fun r6 h6 => ok_i (fun _ => ok_s ⟨h6, h5.1⟩) (fun _ => ?_)))
  exact ok_b (ok_readWinding hT h6 h5.1 h5.2) (fun r8 h8 => ok_i (fun _ => ok_s h8) (fun _ => ok_s h8))
theorem ok_allWound {τ : St2} (hτ : G2 τ) : ok (fun _ => True) (f_X4_allWoundAreThere τ) := by
  unfold f_X4_allWoundAreThere
  obtain ⟨N, hN, hs⟩ := id hτ
  refine ok_loop0 (fun n z (_ : Unit) => lp_X4_allWoundAreThere_2 τ n z) N (by omega) (fun _ _ => True) (fun _ => True) () trivial ?_ ?_
  · intro n s _
    show ok _ (lp_X4_allWoundAreThere_2 τ (n + 1) (nI N))
    rw [lp_X4_allWoundAreThere_2]
    exact ok_i (fun _ => ok_s trivial) (fun h => absurd (sz_ge hs) h)
  · intro n k s hk _ ih
    show ok _ (lp_X4_allWoundAreThere_2 τ (n + 1) (nI k))
    rw [lp_X4_allWoundAreThere_2]
    have hg : inB (nI k) 6 = true := inB_nI (by omega) (by decide)
    refine ok_i (fun h => absurd h (sz_lt hs hk (by omega))) (fun _ => ok_g hg (ok_i (fun _ => ih () trivial) (fun _ => ok_g hg ?_)))
    exact ok_b (okG_has hτ _) (fun r _ => ok_i (fun _ => ok_s trivial) (fun _ => ih () trivial))
theorem ok_readClose {T : Nat} (hT : T ≤ 60) {σ : St4} (h : p4_size σ = nI T) {τ : St2} (hτ : G2 τ) : ok (fun r => p4_size r.2.1 = nI T ∧ G2 r.2.2) (f_X4_readClose σ τ) := by
  unfold f_X4_readClose
  refine ok_loop0 (fun n z (s : St4 × St2) => lp_X4_readClose_7 n z s.1 s.2) 6 (by decide) (fun _ s => J4 T s.1 ∧ G2 s.2) (fun r => p4_size r.2.1 = nI T ∧ G2 r.2.2) (s4_place σ 0, τ) ⟨⟨h, 0, Nat.zero_le _, rfl⟩, hτ⟩ ?_ ?_
  · intro n s hI
    show ok _ (lp_X4_readClose_7 (n + 1) (nI 6) s.1 s.2)
    rw [lp_X4_readClose_7]
    refine ok_i (fun _ => ?_) (fun h => absurd (by decide) h)
    exact ok_b (ok_letterHere hT hI.1) (fun r hr => ok_i (fun _ => ok_b (ok_allWound hI.2) (fun a _ => ok_i (fun _ => ok_s ⟨hr.1.1, hI.2⟩) (fun _ => ok_s ⟨hr.1.1, hI.2⟩))) (fun _ => ok_s ⟨hr.1.1, hI.2⟩))
  · intro n k s hk hI ih
    show ok _ (lp_X4_readClose_7 (n + 1) (nI k) s.1 s.2)
    rw [lp_X4_readClose_7]
    refine ok_i (fun h => absurd h (nI_ge hk (by decide))) (fun _ => ok_i (fun _ => ?_) (fun _ => ?_))
    · exact ok_b (ok_readPerson hT hI.1 hI.2) (fun r hr => ok_i (fun _ => ok_s ⟨hr.1.1, hr.2⟩) (fun _ => ih (_, _) hr))
    · refine ok_b (ok_take hT hI.1 44 (by decide)) (fun r9 h9 => ok_i (fun _ => ?_) (fun _ => ?_))
      · exact ok_b (ok_letterHere hT h9) (fun r hr => ok_i (fun _ => ok_b (ok_allWound hI.2) (fun a _ => ok_i (fun _ => ok_s ⟨hr.1.1, hI.2⟩) (fun _ => ok_s ⟨hr.1.1, hI.2⟩))) (fun _ => ok_s ⟨hr.1.1, hI.2⟩))
      · exact ok_b (ok_readPerson hT h9 hI.2) (fun r hr => ok_i (fun _ => ok_s ⟨hr.1.1, hr.2⟩) (fun _ => ih (_, _) hr))
theorem okx_close (κ : St5) {nw tr : St2} {ps : St1} {tp : St4} {T : Nat} (hT : T ≤ 60) (h1 : G2 nw) (h2 : G1 ps) (h4 : p4_size tp = nI T) : ok (fun r => G2 r.2.1 ∧ G1 r.2.2.1 ∧ G2 r.2.2.2.1 ∧ p4_size r.2.2.2.2 = 0) (f_X5_close κ nw ps tr tp) := by
  unfold f_X5_close f_X2_empty f_X4_empty
  refine ok_b (P := G2) (ok_s ⟨0, by decide, rfl⟩) (fun e he => ok_b (ok_readClose hT h4 he) (fun r hr => ok_b (P := fun q => p4_size q = 0) (ok_s rfl) (fun q hq => ok_i (fun _ => ok_s ⟨h1, h2, hr.2, hq⟩) (fun _ => ?_))))
  exact ok_b (okG_empty h2) (fun z hz => ok_s ⟨hr.2, hz, hr.2, hq⟩)
