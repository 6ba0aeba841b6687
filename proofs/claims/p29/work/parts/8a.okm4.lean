/-! THE REFERENCE: what is foretold -/
section
variable {t : Int32} {ln sz : Nat → Int32}
theorem ia_stoppedBehind {N : Nat} {σ : St6} (h : IA t ln sz N σ) {x : Int32} (hx : rg x 50001) : ok (fun q => IA t ln sz N q.2 ∧ rg q.1 64) (f_X6_stoppedBehind σ x) := by
  unfold f_X6_stoppedBehind
  exact ok_b (ia_goesOn h hx) (fun s hs => ok_b (okm_stopped hs.1) (fun r hr => ok_b (ia_backs hs) (fun s2 h2 => ok_s ⟨h2, hr⟩)))
theorem okm_ahead {σ : St6} (h : IM t ln sz σ) (x y : Int32) : ok (fun q => IM t ln sz q.2) (f_X6_ahead σ x y) := by
  unfold f_X6_ahead
  obtain ⟨N, hN, e⟩ := h.people
  refine ok_b (okm_isPerson h x) (fun r hr => ok_i (fun _ => ok_s h) (fun h0 => ?_))
  have hx := (hr.resolve_left h0).2
  refine ok_b (ok_in _ _ _) (fun r2 hr2 => ok_i (fun _ => ok_s h) (fun h1 => ?_))
  have hy := rg_ask hr2 h1 (H := 80) (by decide) (by decide) (by decide)
  exact ok_b (ia_asides h e) (fun s1 h1 => ok_b (ia_goesOn h1 (rg_up hy (by decide))) (fun s2 h2 => ok_b (okm_turns s2 hx) (fun _ _ => ok_b (ia_backs h2) (fun s3 h3 => ok_s h3.1))))
theorem okm_then {σ : St6} (h : IM t ln sz σ) (y : Int32) : ok (fun q => IM t ln sz q.2) (f_X6_then σ y) := by
  unfold f_X6_then
  obtain ⟨N, hN, e⟩ := h.people
  refine ok_b (ok_in _ _ _) (fun r2 hr2 => ok_i (fun _ => ok_s h) (fun h1 => ?_))
  have hy := rg_ask hr2 h1 (H := 80) (by decide) (by decide) (by decide)
  exact ok_b (ia_asides h e) (fun s1 h1 => ok_b (ia_stoppedBehind h1 (rg_up hy (by decide))) (fun q hq => ok_s hq.1.1))
theorem okm_whenAll {σ : St6} (h : IM t ln sz σ) (x : Int32) : ok (fun q => IM t ln sz q.2) (f_X6_whenAll σ x) := by
  unfold f_X6_whenAll
  obtain ⟨N, hN, e⟩ := h.people
  refine ok_b (ia_asides h e) (fun s1 h1 => ok_b (P := fun q => IA t ln sz N q.2) ?_ (fun q hq => ok_b (ia_backs hq) (fun s2 h2 => ok_i (fun _ => ok_s h2.1) (fun _ => ok_s h2.1))))
  exact lpG (fun n z s => lp_X6_whenAll_6 x n z s) 81 (by decide) (fun _ s => IA t ln sz N s) _ (fun n z s => rfl) (fun _ _ _ => rfl) (fun s hs => ok_s hs) (fun n k s hk hs ih => ok_b (okm_stopped hs.1) (fun r _ => ok_i (fun _ => ok_s hs) (fun _ => ok_b (ia_goesBy hs 0) (fun s2 h2 => ih _ h2)))) s1 h1
theorem okm_stops {σ : St6} (h : IM t ln sz σ) (x : Int32) : ok (fun q => IM t ln sz q.2) (f_X6_stops σ x) := by
  unfold f_X6_stops
  exact ok_b (okm_isPerson h x) (fun r hr => ok_i (fun _ => ok_s h) (fun h0 => ok_b (okm_whenAll h _) (fun q hq => ok_s hq)))
theorem okm_all {σ : St6} (h : IM t ln sz σ) : ok (fun q => IM t ln sz q.2) (f_X6_all σ) := by
  unfold f_X6_all
  exact ok_b (okm_whenAll h _) (fun q hq => ok_s hq)
theorem okm_ever {σ : St6} (h : IM t ln sz σ) : ok (fun q => IM t ln sz q.2) (f_X6_ever σ) := by
  unfold f_X6_ever
  obtain ⟨N, hN, e⟩ := h.people
  refine ok_b (ia_asides h e) (fun s1 h1 => ok_b (okm_stopped h1.1) (fun r _ => ok_b (P := fun q => IA t ln sz N q.2.2) ?_ (fun q hq => ok_b (ia_backs hq) (fun s2 h2 => ok_s h2.1))))
  exact lpG (fun n z (s : Int32 × St6) => lp_X6_ever_11 n s.1 z s.2) 80 (by decide) (fun _ s => IA t ln sz N s.2) _ (fun n z s => rfl) (fun _ _ _ => rfl) (fun s hs => ok_s hs) (fun n k s hk hs ih => ok_b (ia_goesBy hs 0) (fun s2 h2 => ok_b (okm_stopped h2.1) (fun r5 _ => ih (s.1 ||| r5, s2) h2))) (r, s1) h1
theorem okm_chain {σ : St6} (h : IM t ln sz σ) (x y : Int32) : ok (fun _ => True) (f_X6_chain σ x y) := by
  unfold f_X6_chain
  obtain ⟨N, hN, e⟩ := h.people
  refine ok_b (okm_isPerson h x) (fun r hr => ok_i (fun _ => ok_s trivial) (fun h0 => ?_))
  have hx := (hr.resolve_left h0).2
  refine ok_b (ok_in _ _ _) (fun r2 hr2 => ok_i (fun _ => ok_s trivial) (fun h1 => ok_i (fun _ => ok_b (okm_behind h hx) (fun _ _ => ok_s trivial)) (fun _ => ok_b (P := fun _ => True) ?_ (fun _ _ => ok_s trivial))))
  refine lpG (fun n z a => lp_X6_chain_35 σ x n a z) N (by omega) (fun _ _ => True) _ (fun n z s => rfl) (fun _ _ _ => e) (fun s hs => ok_s trivial) (fun n k s hk hs ih => ?_) 0 trivial
  refine ok_i (fun _ => ok_b (okm_windersOf h _) (fun _ _ => ok_i (fun _ => ih _ trivial) (fun _ => ih _ trivial))) (fun _ => ok_b (okm_behind h (rg_nI (by omega))) (fun _ _ => ok_i (fun _ => ok_b (okm_windersOf h _) (fun _ _ => ok_i (fun _ => ih _ trivial) (fun _ => ih _ trivial))) (fun _ => ih _ trivial)))
theorem okm_lends {σ : St6} (h : IM t ln sz σ) (x y w : Int32) : ok (fun q => IM t ln sz q.2) (f_X6_lends σ x y w) := by
  unfold f_X6_lends
  obtain ⟨N, hN, e⟩ := h.people
  refine ok_b (ok_in _ _ _) (fun r hr => ok_i (fun _ => ok_s h) (fun h0 => ?_))
  have hx := rg_ask hr h0 (H := 40) (by decide) (by decide) (by decide)
  refine ok_b (ok_in _ _ _) (fun _ _ => ok_i (fun _ => ok_s h) (fun _ => ok_b (ok_in _ _ _) (fun _ _ => ok_i (fun _ => ok_s h) (fun _ => ?_))))
  refine ok_b (ia_asides h e) (fun s1 h1 => ok_b (P := fun q => IA t ln sz N q.2.2.2) ?_ (fun q hq => ok_i (fun _ => ok_s hq.1) (fun _ => ok_i (fun _ => ok_s hq.1) (fun _ => ok_s hq.1))))
  refine lpG (fun n z (s : Int32 × Int32 × St6) => lp_X6_lends_51 x y w n s.1 s.2.1 z s.2.2) N (by omega) (fun _ s => IA t ln sz N s.2.2) _ (fun n z s => rfl) (fun _ s hs => hs.2.1) (fun s hs => ok_s hs) (fun n k s hk hs ih => ?_) ((-4), 99, s1) h1
  refine ok_b (km_lent hs.1 (rg_nI (by omega)) y) (fun s2 h2 => ok_b (ia_stoppedBehind (hs.k h2) (rg_up hx (by decide))) (fun q hq => ok_b (okm_many hq.2) (fun m _ => ?_)))
  exact ok_i (fun _ => ok_i (fun _ => ih (s.1, s.2.1, q.2) hq.1) (fun _ => ih (s.1, m, q.2) hq.1)) (fun _ => ok_i (fun _ => ih (nI k, s.2.1, q.2) hq.1) (fun _ => ih (nI k, m, q.2) hq.1))
theorem okm_instead {σ : St6} (h : IM t ln sz σ) (x y w : Int32) : ok (fun q => IM t ln sz q.2) (f_X6_instead σ x y w) := by
  unfold f_X6_instead
  obtain ⟨N, hN, e⟩ := h.people
  refine ok_b (okm_isPerson h x) (fun r hr => ok_i (fun _ => ok_s h) (fun h0 => ?_))
  have hx := (hr.resolve_left h0).2
  refine ok_b (ok_in _ _ _) (fun r2 hr2 => ok_i (fun _ => ok_s h) (fun h1 => ?_))
  have hy := rg_up (rg_ask hr2 h1 (H := 40) (by decide) (by decide) (by decide)) (m := 50001) (by decide)
  refine ok_b (ok_in _ _ _) (fun _ _ => ok_i (fun _ => ok_s h) (fun _ => ?_))
  refine ok_b (ia_asides h e) (fun s1 h1 => ok_b (km_tells2 h1.1 hx (Or.inl rfl)) (fun s2 h2 => ok_b (ia_stoppedBehind (h1.k h2) hy) (fun q0 hq0 => ok_b (okm_many hq0.2) (fun m0 _ => ok_b (P := fun q => IA t ln sz N q.2.2.2) ?_ (fun q hq => ok_i (fun _ => ok_s hq.1) (fun _ => ok_s hq.1))))))
  refine lpG (fun n z (s : Int32 × Int32 × St6) => lp_X6_instead_61 x y w n s.1 s.2.1 z s.2.2) N (by omega) (fun _ s => IA t ln sz N s.2.2) _ (fun n z s => rfl) (fun _ s hs => hs.2.1) (fun s hs => ok_s hs) (fun n k s hk hs ih => ?_) ((-4), m0, q0.2) hq0.1
  refine ok_i (fun _ => ih s hs) (fun _ => ok_b (km_tells2 hs.1 hx (Or.inr (rg_nI (by omega)))) (fun s2 h2 => ok_b (ia_stoppedBehind (hs.k h2) hy) (fun q hq => ok_b (okm_many hq.2) (fun m _ => ?_))))
  exact ok_i (fun _ => ok_i (fun _ => ih (s.1, s.2.1, q.2) hq.1) (fun _ => ih (s.1, m, q.2) hq.1)) (fun _ => ok_i (fun _ => ih (nI k, s.2.1, q.2) hq.1) (fun _ => ih (nI k, m, q.2) hq.1))
theorem okm_needs68 {N M : Nat} (hM : M ≤ 50000) {x v : Int32} (hx : rg x 6) {s : St6} (hs : IA t ln sz N s) (b : Int32) : ok (fun q => IA t ln sz N q.2.2) (lp_X6_needs_68 x (nI M) v FU b 0 s) := by
  refine lpG (fun n z (s : Int32 × St6) => lp_X6_needs_68 x (nI M) v n s.1 z s.2) M hM (fun _ s => IA t ln sz N s.2) _ (fun n z s => rfl) (fun _ s hs => rfl) (fun s hs => ok_s hs) (fun n k s hk hs ih => ?_) (b, s) hs
  exact ok_b (ia_goesBy hs 0) (fun s2 h2 => ok_i (fun _ => ih (0, s2) h2) (fun _ => ok_b (okm_isStopped s2 hx) (fun _ _ => ok_i (fun _ => ih (1, s2) h2) (fun _ => ih (0, s2) h2))))
theorem okm_needs {σ : St6} (h : IM t ln sz σ) (x y : Int32) : ok (fun q => IM t ln sz q.2) (f_X6_needs σ x y) := by
  unfold f_X6_needs
  obtain ⟨N, hN, e⟩ := h.people
  refine ok_b (okm_isPerson h x) (fun r hr => ok_i (fun _ => ok_s h) (fun h0 => ?_))
  have hx := (hr.resolve_left h0).2
  refine ok_b (ok_in _ _ _) (fun r2 hr2 => ok_i (fun _ => ok_s h) (fun h1 => ?_))
  obtain ⟨M, hM, rfl⟩ := rg_ask hr2 h1 (H := 40) (by decide) (by decide) (by decide)
  refine ok_b (ia_asides h e) (fun s1 h1 => ok_b (P := fun q => IA t ln sz N q.2.2) ?_ (fun q hq => ok_s hq.1))
  refine lpG (fun n z (s : Int32 × St6) => lp_X6_needs_32 x (nI M) n s.1 z s.2) 31 (by decide) (fun _ s => IA t ln sz N s.2) _ (fun n z s => rfl) (fun _ s hs => rfl) (fun s hs => ok_s hs) (fun n k s hk hs ih => ?_) ((-4), s1) h1
  refine ok_i (fun _ => ok_b (km_tells1 hs.1 hx _) (fun s2 h2 => ?_)) (fun _ => ok_s hs)
  exact ok_i (fun _ => ok_b (okm_needs68 (by omega) hx (hs.k h2) 0) (fun q hq => ok_i (fun _ => ok_b (ia_backs hq) (fun s3 h3 => ih ((-4), s3) h3)) (fun _ => ok_b (ia_backs hq) (fun s3 h3 => ih (nI k, s3) h3)))) (fun _ => ok_b (okm_needs68 (by omega) hx (hs.k h2) 1) (fun q hq => ok_i (fun _ => ok_b (ia_backs hq) (fun s3 h3 => ih ((-4), s3) h3)) (fun _ => ok_b (ia_backs hq) (fun s3 h3 => ih (nI k, s3) h3))))
theorem okm_changesL {x : Int32} (hx : ¬ x = 0) : ∀ k n (s : St6) (a b c d : Int32), k ≤ 6 → k < n → IM t ln sz s → ok (fun q => IM t ln sz q.2.2.2.2.2 ∧ p6_now q.2.2.2.2.2 = p6_now s) (lp_X6_changes_23 x n a b c d (nI k + (-1)) s) := by
  intro k
  induction k with
  | zero =>
    intro n s a b c d _ hn h
    obtain ⟨n, rfl⟩ : ∃ m, n = m + 1 := ⟨n - 1, by omega⟩
    rw [lp_X6_changes_23, if_pos (by decide)]
    exact ok_s ⟨h, rfl⟩
  | succ k ih =>
    intro n s a b c d hk hn h
    obtain ⟨n, rfl⟩ : ∃ m, n = m + 1 := ⟨n - 1, by omega⟩
    rw [pk_m1, lp_X6_changes_23, if_neg (nI_pos (by omega))]
    have hk6 : k < 6 := by omega
    have hi : inB (nI k) 6 = true := inB_nI hk6 (by decide)
    refine ok_g hx (ok_g hi (ok_g hx (ok_g hi ?_)))
    have hW : ∀ f, IM t ln sz (s6_would s f) := fun f => h
    have st : ∀ a b c d f, ok (fun q => IM t ln sz q.2.2.2.2.2 ∧ p6_now q.2.2.2.2.2 = p6_now s) (lp_X6_changes_23 x n a b c d (nI k + (-1)) (s6_would s f)) := fun a b c d f => ih n (s6_would s f) a b c d (by omega) (by omega) (hW f)
    refine ok_i (fun _ => ok_g hi (ok_b (okm_whom (hW _) (rg_nI hk6)) (fun _ _ => ok_i (fun _ => st _ _ _ _ _) (fun _ => st _ _ _ _ _)))) (fun _ => ok_g hi (ok_i (fun _ => ok_g hi (ok_b (okm_whom (hW _) (rg_nI hk6)) (fun _ _ => ok_i (fun _ => st _ _ _ _ _) (fun _ => st _ _ _ _ _)))) (fun _ => ok_g hi (ok_b (okm_whom (hW _) (rg_nI hk6)) (fun _ _ => ok_i (fun _ => st _ _ _ _ _) (fun _ => st _ _ _ _ _))))))
theorem okm_changes {σ : St6} (h : IM t ln sz σ) (h2 : (2 : Int32) ≤ p6_now σ ((0 : Int32).toNatClampNeg)) (x : Int32) : ok (fun q => IM t ln sz q.2 ∧ p6_now q.2 = p6_now σ) (f_X6_changes σ x) := by
  obtain ⟨N, hN, e⟩ := h.people
  unfold f_X6_changes
  rw [e] at h2 ⊢
  have h2' : 2 ≤ N := (nI_leI (a := 2) (by decide) (by omega)).mp h2
  have em : nI N - 1 = nI N + (-1) := Int32.sub_eq_add_neg _ _
  rw [em]
  refine ok_b (okm_changesL (nI_ne0 (by omega) (by omega)) N FU σ x 0 0 1 hN (by unfold FU; omega) h) (fun q hq => ?_)
  exact ok_i (fun _ => ok_s hq) (fun _ => ok_i (fun _ => ok_s hq) (fun _ => ok_s hq))
theorem okm_match101 {s : St6} (h : IM t ln sz s) (a b c d : Int32) : ok (fun q => IM t ln sz q.2 ∧ p6_now q.2 = p6_now s) (lp_X6_match_101 a b c d FU 0 s) :=
  lpG (fun n z s => lp_X6_match_101 a b c d n z s) 6 (by decide) (fun _ s' => IM t ln sz s' ∧ p6_now s' = p6_now s) _ (fun n z s => rfl) (fun _ _ _ => rfl) (fun s hs => ok_s hs) (fun n k s hk hs ih => ok_g (inB_nI hk (by decide)) (ok_g (inB_nI hk (by decide)) (ih _ hs))) s ⟨h, rfl⟩
theorem pow_all : ∀ N, N ≤ 6 → N ^ N ≤ 50000 := by decide
theorem okm_match {σ : St6} (h : IM t ln sz σ) (x : Int32) : ok (fun q => IM t ln sz q.2) (f_X6_match σ x) := by
  obtain ⟨N, hN, e⟩ := h.people
  unfold f_X6_match
  refine ok_b (ok_in _ _ _) (fun r hr => ok_i (fun _ => ok_s h) (fun h0 => ok_i (fun h2 => ?_) (fun _ => ok_s h)))
  have hx := hr.resolve_left h0
  refine ok_b (P := fun q => q.1 = nI (N ^ N)) ?_ (fun q5 h5 => ?_)
  · refine lpG (fun n z a => lp_X6_match_39 σ x n a z) N (by omega) (fun k a => a = nI (N ^ k)) _ (fun n z s => rfl) (fun _ _ _ => e) (fun s hs => ok_s hs) (fun n k s hk hs ih => ih _ ?_) 1 rfl
    rw [hs, e, nI_mul, Nat.pow_succ]
  · rw [h5]
    refine ok_b (P := fun q => IM t ln sz q.2.2) ?_ (fun q hq => ok_i (fun hp => ok_g ?_ (ok_s hq)) (fun _ => ok_s hq))
    · refine ok_w (P := fun q => IM t ln sz q.2.2 ∧ p6_now q.2.2 = p6_now σ) ?_ (fun q hq => hq.1)
      refine lpG (fun n z (s : Int32 × St6) => lp_X6_match_70 x (nI (N ^ N)) n s.1 z s.2) (N ^ N) (pow_all N hN) (fun _ s => IM t ln sz s.2 ∧ p6_now s.2 = p6_now σ) _ (fun n z s => rfl) (fun _ s hs => rfl) (fun s hs => ok_s hs) (fun n k s hk hs ih => ?_) (99, σ) ⟨h, rfl⟩
      refine ok_b (okm_changes hs.1 (by rw [hs.2]; exact h2) _) (fun q hq => ?_)
      refine ok_i (fun _ => ih (s.1, q.2) ⟨hq.1, hq.2.trans hs.2⟩) (fun _ => ok_i (fun _ => ih (s.1, q.2) ⟨hq.1, hq.2.trans hs.2⟩) (fun _ => ?_))
      exact ok_b (okm_match101 hq.1 _ _ _ _) (fun q2 hq2 => ih (q.1, q2.2) ⟨hq2.1, hq2.2.trans (hq.2.trans hs.2)⟩)
    · have h3 := hx.2.2
      rw [w64, w64, e] at h3
      have h4 : (nI N - 1).toInt = (N : Int) - 1 := pk_sub_toInt (a := N) (b := 1) (by omega) (by decide)
      rw [h4] at h3
      have hp' : (0 : Int) ≤ x.toInt := Int32.le_iff_toInt_le.mp hp
      exact rg_in (rg_int (n := 5) hp' (by omega) (by decide)) (by decide)
theorem okm_isAsAside {σ : St6} (h : IM t ln sz σ) : ok (fun _ => True) (f_X6_isAsAside σ) := by
  obtain ⟨N, hN, e⟩ := h.people
  unfold f_X6_isAsAside
  refine ok_b (P := fun q => q.1 = 0 ∨ q.1 = 1) ?_ (fun q hq => ok_g hq (ok_s trivial))
  refine lpG (fun n z a => lp_X6_isAsAside_4 σ n a z) N (by omega) (fun k a => a = 0 ∨ a = 1) _ (fun n z s => rfl) (fun _ _ _ => e) (fun s hs => ok_s hs) (fun n k s hk hs ih => ?_) 1 (Or.inr rfl)
  refine ok_i (fun _ => ih _ (Or.inl rfl)) (fun _ => ok_b (okm_turns σ (rg_nI (by omega))) (fun _ _ => ok_g ?_ (ok_i (fun _ => ih _ (Or.inr rfl)) (fun _ => ih _ (Or.inl rfl)))))
  have := told_ix (p := k) (w := 1) (by omega) (by decide)
  rw [show (1 : Int32) = nI 1 from rfl, this]
  exact inB_nI (by omega) (by decide)
theorem okm_againL {N : Nat} : ∀ m n k (a : Int32) (s : St6), k + m = 11 → m < n → IA t ln sz N s → ok (fun q => IA t ln sz N q.2.2) (lp_X6_again_10 n a (nI (24 * k)) s) := by
  intro m
  induction m with
  | zero =>
    intro n k a s hk hn h
    obtain ⟨n, rfl⟩ : ∃ m, n = m + 1 := ⟨n - 1, by omega⟩
    have : k = 11 := by omega
    subst this
    rw [lp_X6_again_10, if_pos (by decide)]
    exact ok_s h
  | succ m ih =>
    intro n k a s hk hn h
    obtain ⟨n, rfl⟩ : ∃ m, n = m + 1 := ⟨n - 1, by omega⟩
    rw [lp_X6_again_10]
    have e24 : nI (24 * k) + 24 = nI (24 * (k + 1)) := by
      rw [show (24 : Int32) = nI 24 from rfl, nI_add, Nat.mul_succ]
    rw [e24]
    refine ok_i (fun _ => ok_s h) (fun _ => ok_i (fun _ => ok_b (ia_goesOn h ⟨24, by decide, rfl⟩) (fun s2 h2 => ok_b (okm_isAsAside h2.1) (fun _ _ => ok_i (fun _ => ih n (k + 1) _ s2 (by omega) (by omega) h2) (fun _ => ih n (k + 1) _ s2 (by omega) (by omega) h2)))) (fun _ => ok_s h))
theorem okm_again {σ : St6} (h : IM t ln sz σ) : ok (fun q => IM t ln sz q.2) (f_X6_again σ) := by
  obtain ⟨N, hN, e⟩ := h.people
  unfold f_X6_again
  exact ok_b (ia_asides h e) (fun s1 h1 => ok_b (okm_againL 10 FU 1 (-4) s1 (by decide) (by unfold FU; omega) h1) (fun q hq => ok_b (ia_backs hq) (fun s2 h2 => ok_s h2.1)))
theorem image2_ok (σ : St6) : ok (fun q => q.2 = s6_kept σ (cpf (p6_kept σ) (p6_now σ) 0 0 27)) (lp_X6_image_2 FU 0 σ) := by
  refine lpG (fun n z s => lp_X6_image_2 n z s) 27 (by decide) (fun k s => s = s6_kept σ (cpf (p6_kept σ) (p6_now σ) 0 0 k)) _ (fun n z s => rfl) (fun _ _ _ => rfl) (fun s hs => ok_s hs) (fun n k s hk hs ih => ?_) σ (by rw [cpf_0])
  refine ok_g (inB_nI hk (by decide)) (ok_g (inB_nI (by omega) (by decide)) (ih _ ?_))
  rw [hs, ← cpf_s, nI_clamp (by omega)]
  simp only [Nat.zero_add]
theorem image28_ok (σ : St6) : ok (fun q => q.2 = s6_kept σ (cpf (p6_kept σ) (p6_undone σ) 27 0 216)) (lp_X6_image_28 FU 0 σ) := by
  refine lpG (fun n z s => lp_X6_image_28 n z s) 216 (by decide) (fun k s => s = s6_kept σ (cpf (p6_kept σ) (p6_undone σ) 27 0 k)) _ (fun n z s => rfl) (fun _ _ _ => rfl) (fun s hs => ok_s hs) (fun n k s hk hs ih => ?_) σ (by rw [cpf_0])
  have ei : 27 + nI k = nI (27 + k) := by rw [show (27 : Int32) = nI 27 from rfl, nI_add]
  rw [ei]
  refine ok_g (inB_nI hk (by decide)) (ok_g (inB_nI (by omega) (by decide)) (ih _ ?_))
  rw [hs, ← cpf_s, nI_clamp (by omega), nI_clamp (by omega)]
  simp only [Nat.zero_add]
theorem okm_image {σ : St6} (h : IM t ln sz σ) : ok (fun q => IM t ln sz q.2) (f_X6_image σ) := by
  unfold f_X6_image
  refine ok_b (image2_ok σ) (fun q hq => ?_)
  rw [hq]
  refine ok_b (image28_ok _) (fun q2 hq2 => ok_s ?_)
  rw [hq2]
  refine ⟨h.1, h.2.1, h.2.2.1, h.2.2.2.1, fun k hk => ?_, h.2.1, h.2.2.2.2.2.2⟩
  show gd (cpf (cpf (p6_kept σ) (p6_now σ) 0 0 27) (p6_undone σ) 27 0 216) (27 * k)
  rcases Nat.eq_zero_or_pos k with q | q
  · subst q
    exact gd_out (gd_in (b := 0) (c := 0) (d := 0) h.1 (by decide)) (by omega)
  · have := gd_in (f := cpf (p6_kept σ) (p6_now σ) 0 0 27) (g := p6_undone σ) (b := 27) (c := 0) (k := 216) (d := 27 * (k - 1)) (by rw [Nat.zero_add]; exact h.2.2.1 (k - 1) (by omega)) (by omega)
    rwa [show 27 + 27 * (k - 1) = 27 * k by omega] at this
theorem restore12_ok (σ : St6) : ok (fun q => q.2 = s6_now σ (cpf (p6_now σ) (p6_kept σ) 0 0 27)) (lp_X6_restore_12 FU 0 σ) := by
  refine lpG (fun n z s => lp_X6_restore_12 n z s) 27 (by decide) (fun k s => s = s6_now σ (cpf (p6_now σ) (p6_kept σ) 0 0 k)) _ (fun n z s => rfl) (fun _ _ _ => rfl) (fun s hs => ok_s hs) (fun n k s hk hs ih => ?_) σ (by rw [cpf_0])
  refine ok_g (inB_nI (by omega) (by decide)) (ok_g (inB_nI hk (by decide)) (ih _ ?_))
  rw [hs, ← cpf_s, nI_clamp (by omega)]
  simp only [Nat.zero_add]
theorem restore38_ok (σ : St6) : ok (fun q => q.2 = s6_undone σ (cpf (p6_undone σ) (p6_kept σ) 0 27 216)) (lp_X6_restore_38 FU 0 σ) := by
  refine lpG (fun n z s => lp_X6_restore_38 n z s) 216 (by decide) (fun k s => s = s6_undone σ (cpf (p6_undone σ) (p6_kept σ) 0 27 k)) _ (fun n z s => rfl) (fun _ _ _ => rfl) (fun s hs => ok_s hs) (fun n k s hk hs ih => ?_) σ (by rw [cpf_0])
  have ei : 27 + nI k = nI (27 + k) := by rw [show (27 : Int32) = nI 27 from rfl, nI_add]
  rw [ei]
  refine ok_g (inB_nI (by omega) (by decide)) (ok_g (inB_nI hk (by decide)) (ih _ ?_))
  rw [hs, ← cpf_s, nI_clamp (by omega), nI_clamp (by omega)]
  simp only [Nat.zero_add]
theorem okm_restore {σ : St6} (h : IM t ln sz σ) : ok (fun q => IM t ln sz q.2) (f_X6_restore σ) := by
  unfold f_X6_restore
  refine ok_i (fun _ => ok_s h) (fun _ => ?_)
  refine ok_b (restore12_ok σ) (fun q hq => ?_)
  rw [hq]
  refine ok_b (restore38_ok _) (fun q2 hq2 => ok_s ?_)
  rw [hq2]
  refine ⟨?_, h.2.2.2.2.2.1, fun k hk => ?_, h.2.2.2.1, h.2.2.2.2.1, h.2.2.2.2.2.1, h.2.2.2.2.2.2⟩
  · exact gd_in (b := 0) (c := 0) (d := 0) (h.2.2.2.2.1 0 (by decide)) (by decide)
  · show gd (cpf (p6_undone σ) (p6_kept σ) 0 27 216) (27 * k)
    have := gd_in (f := p6_undone σ) (g := p6_kept σ) (b := 0) (c := 27) (k := 216) (d := 27 * k) (by rw [show 27 + 27 * k = 27 * (k + 1) by omega]; exact h.2.2.2.2.1 (k + 1) (by omega)) (by omega)
    rwa [Nat.zero_add] at this
end
