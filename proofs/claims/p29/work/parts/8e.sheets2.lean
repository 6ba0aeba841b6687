/-! SHEETS: what is heard, filmed, copied -/
theorem ok_suppose (κ : St5) {tr : St2} (h : G2 tr) {x1 : Int32} (hx : rg x1 6) (x2 x3 : Int32) : ok G2 (f_X5_suppose κ tr x1 x2 x3) := by
  unfold f_X5_suppose
  have hi := rg_in hx (n := 6) (by decide)
  refine ok_i (fun _ => ok_g hi (ok_s h)) (fun _ => ok_i (fun _ => ok_g hi (ok_s h)) (fun _ => ok_b (okG_has h _) (fun r hr => ok_i (fun _ => ok_s h) (fun h0 => ok_g (rg_in (has_yes hr h0) (by decide)) (ok_s h)))))
theorem ok_trialRunsAs (κ : St5) {tr : St2} (h : G2 tr) (sh : St3) {x1 : Int32} (hx : rg x1 6) {I K : Nat} (hIK : I + K ≤ 24) : ok (fun q => G2 q.2) (f_X5_trialRunsAs κ tr sh x1 (nI I) (nI K)) := by
  unfold f_X5_trialRunsAs
  refine lpG (fun n z s => lp_X5_trialRunsAs_3 κ sh x1 (nI I) (nI K) n z s) K (by omega) (fun _ s => G2 s) _ (fun n z s => rfl) (fun _ _ _ => rfl) (fun s hs => ok_s hs) (fun n k s hk hs ih => ?_) tr h
  refine ok_b (okG_passHour hs) (fun s2 h2 => ok_g ?_ (ok_g (rg_in hx (by decide)) (ok_i (fun _ => ih _ h2) (fun _ => ok_s h2))))
  rw [nI_add]; exact inB_nI (by omega) (by decide)
theorem ok_guesses41 (κ : St5) {nw tr : St2} (h : G2 nw) (ht : G2 tr) (sh : St3) {x1 : Int32} (hx : rg x1 6) (x2 : Int32) {I K m b : Nat} (hIK : I + K ≤ 24) (hm : m ≤ 30) (hb : b ≤ 1) : ok (fun q => G2 q.2.2) (lp_X5_guessesHeard_41 κ nw sh x1 x2 (nI I) (nI K) (nI m) FU 0 (nI b) tr) := by
  refine ok_loop (fun n z (s : Int32 × St2) => lp_X5_guessesHeard_41 κ nw sh x1 x2 (nI I) (nI K) (nI m) n s.1 z s.2) (m + 1) (fun _ s => G2 s.2) _ ?_ ?_ FU b (0, tr) (by omega) (by unfold FU; omega) ht
  · intro n s hs
    show ok _ (lp_X5_guessesHeard_41 κ nw sh x1 x2 (nI I) (nI K) (nI m) (n + 1) s.1 (nI (m + 1)) s.2)
    rw [lp_X5_guessesHeard_41, if_pos (nI_lt (by omega) (by omega))]
    exact ok_s hs
  · intro n k s hk hs ih
    show ok _ (lp_X5_guessesHeard_41 κ nw sh x1 x2 (nI I) (nI K) (nI m) (n + 1) s.1 (nI k) s.2)
    rw [lp_X5_guessesHeard_41, if_neg (nI_nlt (by omega) (by omega))]
    exact ok_b (ok_suppose κ h hx x2 _) (fun s2 h2 => ok_b (ok_trialRunsAs κ h2 sh hx hIK) (fun q hq => ok_i (fun _ => ih (s.1, q.2) hq) (fun _ => ih (_, q.2) hq)))
theorem ok_guesses (κ : St5) {nw tr : St2} (h : G2 nw) (ht : G2 tr) (sh : St3) {x1 : Int32} (hx : rg x1 6) (x2 : Int32) {I K : Nat} (hIK : I + K ≤ 24) : ok (fun q => G2 q.2) (f_X5_guessesHeard κ nw tr sh x1 x2 (nI I) (nI K)) := by
  unfold f_X5_guessesHeard
  have L : ∀ m b : Nat, m ≤ 30 → b ≤ 1 → ok (fun q => G2 q.2.2) (lp_X5_guessesHeard_41 κ nw sh x1 x2 (nI I) (nI K) (nI m) FU 0 (nI b) tr) := fun m b hm hb => ok_guesses41 κ h ht sh hx x2 hIK hm hb
  exact ok_i (fun _ => ok_i (fun _ => ok_b (L 4 0 (by decide) (by decide)) (fun q hq => ok_s hq)) (fun _ => ok_i (fun _ => ok_b (L 30 0 (by decide) (by decide)) (fun q hq => ok_s hq)) (fun _ => ok_b (L 12 0 (by decide) (by decide)) (fun q hq => ok_s hq)))) (fun _ => ok_i (fun _ => ok_b (L 4 1 (by decide) (by decide)) (fun q hq => ok_s hq)) (fun _ => ok_i (fun _ => ok_b (L 30 1 (by decide) (by decide)) (fun q hq => ok_s hq)) (fun _ => ok_b (L 12 1 (by decide) (by decide)) (fun q hq => ok_s hq))))
theorem shq_ok (x : Int32) : ok (fun r => r = 0 ∨ (r = 1 ∧ rg x 4)) (f_X5_isSheet x) := by
  rcases shq x with ⟨k, hk, e, h1, _⟩ | ⟨h1, _⟩
  · exact ⟨1, h1, Or.inr ⟨rfl, k, hk, e⟩⟩
  · exact ⟨0, h1, Or.inl rfl⟩
theorem shq_okm (x : Int32) : ok (fun r => r = 0 ∨ (r = 1 ∧ rg x 4)) (f_X6_isSheet x) := by
  rcases shq x with ⟨k, hk, e, _, h1⟩ | ⟨_, h1⟩
  · exact ⟨1, h1, Or.inr ⟨rfl, k, hk, e⟩⟩
  · exact ⟨0, h1, Or.inl rfl⟩
theorem lnq_ok (x : Int32) : ok (fun r => r = 0 ∨ (r = 1 ∧ rg x 4)) (f_X5_isLane x) := shq_ok x
theorem lnq_okm (x : Int32) : ok (fun r => r = 0 ∨ (r = 1 ∧ rg x 4)) (f_X6_isLane x) := shq_okm x
theorem okx_heard (κ : St5) {nw tr : St2} (h1 : G2 nw) (h2 : G2 tr) (us : StS) {sh : St3} {l z : Int32} (hR : R3 sh l z) (x1 x2 x3 x4 x5 x6 : Int32) : ok (fun q => G2 q.2) (f_X5_heard κ nw tr us sh x1 x2 x3 x4 x5 x6) := by
  unfold f_X5_heard
  refine ok_b (okG_has h1 x1) (fun r hr => ok_i (fun _ => ok_s h2) (fun h0 => ?_))
  refine ok_b (shq_ok x2) (fun r3 hr3 => ok_i (fun _ => ok_s h2) (fun h3 => ?_))
  refine ok_b (lnq_ok x3) (fun r5 _ => ok_i (fun _ => ok_s h2) (fun _ => ok_i (fun _ => ok_s h2) (fun _ => ok_i (fun _ => ?_) (fun _ => ok_s h2))))
  refine ok_i (fun _ => ok_s h2) (fun _ => ok_i (fun _ => ?_) (fun _ => ok_s h2))
  have hi := rg_in (has_yes hr3 h3) (n := 4) (by decide)
  obtain ⟨r12, e12, -, -, hr0⟩ := why_eq hR x3 x4 x5
  refine ok_g hi (ok_b (P := fun r => r = r12) ⟨r12, e12, rfl⟩ (fun r er => ok_i (fun hz => ok_g hi ?_) (fun _ => ok_s h2)))
  obtain ⟨I, K, S, rfl, rfl, hIK, hS, -, -, -, -⟩ := hr0 (er ▸ hz)
  exact ok_b (ok_guesses κ h1 h2 sh (has_yes hr h0) x6 (by omega)) (fun q hq => ok_s hq)
theorem okx_film (κ : St5) {nw tr : St2} (h1 : G2 nw) (h2 : G2 tr) (us : StS) {sh : St3} {l z : Int32} (hR : R3 sh l z) (x1 x2 x3 x4 x5 : Int32) : ok (fun q => G2 q.2.1 ∧ SQ q.2.2 sh) (f_X5_film κ nw tr us sh x1 x2 x3 x4 x5) := by
  unfold f_X5_film
  have d : G2 tr ∧ SQ sh sh := ⟨h2, rfl, rfl⟩
  refine ok_b (okG_has h1 x1) (fun r hr => ok_i (fun _ => ok_s d) (fun h0 => ok_i (fun _ => ok_s d) (fun _ => ok_i (fun _ => ok_s d) (fun _ => ?_))))
  refine ok_b (shq_ok x3) (fun r3 hr3 => ok_i (fun _ => ok_s d) (fun h3 => ?_))
  refine ok_b (lnq_ok x4) (fun r5 _ => ok_i (fun _ => ok_s d) (fun _ => ?_))
  have hi := rg_in (has_yes hr3 h3) (n := 4) (by decide)
  obtain ⟨r12, e12, -, -, hr0⟩ := why_eq hR x4 x5 x2
  refine ok_g hi (ok_b (P := fun r => r = r12) ⟨r12, e12, rfl⟩ (fun r er => ok_i (fun hz => ?_) (fun _ => ok_s d)))
  obtain ⟨I, K, S, rfl, rfl, hIK, hS, -, -, -, -⟩ := hr0 (er ▸ hz)
  refine ok_b (P := fun q => G2 q.2.1 ∧ SQ q.2.2 sh) ?_ (fun q hq => ok_s hq)
  refine lpG (fun n z (s : St2 × St3) => lp_X5_film_77 κ nw us x1 (nI K) x3 (nI I) n z s.1 s.2) K (by omega) (fun _ s => G2 s.1 ∧ SQ s.2 sh) _ (fun n z s => rfl) (fun _ _ _ => rfl) (fun s hs => ok_s hs) (fun n k s hk hs ih => ?_) (nw, sh) ⟨h1, rfl, rfl⟩
  refine ok_b (okG_passHour hs.1) (fun s2 h2 => ok_g hi (ok_g (rg_in (has_yes hr h0) (by decide)) (ok_b (ok_put s.2 ?_ _) (fun s3 h3 => ih (s2, s3) ⟨h2, h3.1.trans hs.2.1, h3.2.trans hs.2.2⟩))))
  rw [nI_add]; exact rg_nI (by omega)
section
variable {t : Int32} {ln sz : Nat → Int32}
theorem KM.it {s : St6} (h : IM t ln sz s) (f : Nat → Int64) : IM t ln sz (s6_items s f) := h
theorem ia_isSo {N : Nat} {s : St6} (h : IA t ln sz N s) {x1 : Int32} (hx : rg x1 6) {J K : Nat} (hJ : J + K ≤ 96) : ok (fun q => IA t ln sz N q.2) (f_X6_isSo s x1 (nI J) (nI K)) := by
  unfold f_X6_isSo
  refine ok_b (P := fun q => IA t ln sz N q.2.2 ∧ (q.1 = 0 ∨ q.1 = 1)) ?_ (fun q hq => ok_b (ia_backs hq.1) (fun s2 h2 => ok_g hq.2 (ok_s h2)))
  refine lpG (fun n z (s : Int32 × St6) => lp_X6_isSo_6 x1 (nI J) (nI K) n s.1 z s.2) K (by omega) (fun _ s => IA t ln sz N s.2 ∧ (s.1 = 0 ∨ s.1 = 1)) _ (fun n z s => rfl) (fun _ _ _ => rfl) (fun s hs => ok_s hs) (fun n k s hk hs ih => ?_) (1, s) ⟨h, Or.inr rfl⟩
  refine ok_b (ia_goesBy hs.1 0) (fun s2 h2 => ok_i (fun _ => ih (0, s2) ⟨h2, Or.inl rfl⟩) (fun _ => ok_b (okm_turns s2 hx) (fun _ _ => ok_g ?_ (ok_i (fun _ => ih (1, s2) ⟨h2, Or.inr rfl⟩) (fun _ => ih (0, s2) ⟨h2, Or.inl rfl⟩)))))
  rw [nI_add]; exact inB_nI (by omega) (by decide)
theorem ia_heard150 {N : Nat} {s : St6} (h : IA t ln sz N s) {x1 x8 : Int32} (hx : rg x1 6) (hx8 : rg x8 6) {w : Nat} (hw : w < 4) (hw2 : w ≠ 2) {k4 I K m b : Nat} (hk4 : k4 < 4) (hIK : I + K ≤ 24) (hm : m ≤ 30) (hb : b ≤ 1) : ok (fun q => IA t ln sz N q.2.2) (lp_X6_heard_150 x1 (nI k4) (nI I) (nI K) x8 (nI w) (nI m) FU 0 (nI b) s) := by
  refine ok_loop (fun n z (s : Int32 × St6) => lp_X6_heard_150 x1 (nI k4) (nI I) (nI K) x8 (nI w) (nI m) n s.1 z s.2) (m + 1) (fun _ s => IA t ln sz N s.2) _ ?_ ?_ FU b (0, s) (by omega) (by unfold FU; omega) h
  · intro n s hs
    show ok _ (lp_X6_heard_150 x1 (nI k4) (nI I) (nI K) x8 (nI w) (nI m) (n + 1) s.1 (nI (m + 1)) s.2)
    rw [lp_X6_heard_150, if_pos (nI_lt (by omega) (by omega))]
    exact ok_s hs
  · intro n k s hk hs ih
    show ok _ (lp_X6_heard_150 x1 (nI k4) (nI I) (nI K) x8 (nI w) (nI m) (n + 1) s.1 (nI k) s.2)
    rw [lp_X6_heard_150, if_neg (nI_nlt (by omega) (by omega))]
    have ei : 24 * nI k4 + nI I = nI (24 * k4 + I) := by rw [show (24 : Int32) = nI 24 from rfl, nI_mul, nI_add]
    rw [ei]
    exact ok_b (km_tells hs.1 hx8 hw hw2 _) (fun s2 h2 => ok_b (ia_isSo (hs.k h2) hx (by omega)) (fun q hq => ok_i (fun _ => ih (_, q.2) hq) (fun _ => ih (_, q.2) hq)))
theorem okm_heard {σ : St6} (h : IM t ln sz σ) (hR : ∀ k, k < 4 → ∃ s, R3 s (ln k) (sz k)) (x1 x2 x3 x4 x5 x6 : Int32) : ok (fun q => IM t ln sz q.2) (f_X6_heard σ x1 x2 x3 x4 x5 x6) := by
  obtain ⟨N, hN, e⟩ := h.people
  unfold f_X6_heard
  refine ok_b (okm_isPerson h x1) (fun r hr => ok_i (fun _ => ok_s h) (fun h0 => ?_))
  refine ok_b (shq_okm x2) (fun r3 hr3 => ok_i (fun _ => ok_s h) (fun h3 => ?_))
  refine ok_b (lnq_okm x3) (fun r5 _ => ok_i (fun _ => ok_s h) (fun _ => ?_))
  refine ok_b (ok_in _ _ _) (fun r7 _ => ok_i (fun _ => ok_s h) (fun _ => ?_))
  refine ok_b (ok_in _ _ _) (fun r9 hr9 => ok_i (fun _ => ok_s h) (fun h9 => ?_))
  have hx := (hr.resolve_left h0).2
  obtain ⟨k4, hk4, rfl⟩ := has_yes hr3 h3
  obtain ⟨V, hV, rfl⟩ := rg_ask hr9 h9 (H := 7) (by decide) (by rw [w64, e, nI_1, nI_toInt (by omega)]; omega) (by decide)
  obtain ⟨sh, hRk⟩ := hR k4 hk4
  obtain ⟨r12, -, e12, hneg, hr0⟩ := why_eq hRk x3 x4 x5
  refine ok_b (P := fun r => r = r12) ⟨r12, e12 σ k4 hk4 (by rw [h.2.2.2.2.2.2.2.2.1]) (by rw [h.2.2.2.2.2.2.2.2.2]), rfl⟩ (fun r er => ?_)
  subst er
  refine ok_i (fun hz => ?_) (fun _ => ok_s h)
  have hz0 : r = 0 := by
    rcases hneg with q | q
    · exact q
    · have h1 := Int32.lt_iff_toInt_lt.mp q.1
      have h2 := Int32.le_iff_toInt_le.mp hz
      omega
  obtain ⟨I, K, S, rfl, rfl, hIK, hS, -, -, -, -⟩ := hr0 hz0
  have hIK' : I + K ≤ 24 := by omega
  by_cases h2 : 2 ≤ V
  · have c2 : (2 : Int32) ≤ nI V := nI_le (a := 2) h2 (by omega)
    have c0 : ¬ nI V = 0 := nI_ne0 (by omega) (by omega)
    have c1 : ¬ nI V = 1 := fun q => by have := (nI_eq (b := 1) (by omega) (by decide)).mp q; omega
    have e2 : nI V - 2 = nI (V - 2) := pk_sub (b := 2) h2
    simp only [if_pos c2, if_neg c0, if_neg c1]
    rw [e2]
    exact ok_b (ia_asides h e) (fun s1 h1 => ok_b (ia_heard150 (w := 3) (m := 12) (b := 1) h1 hx (rg_nI (by omega)) (by decide) (by decide) hk4 hIK' (by decide) (by decide)) (fun q hq => ok_s hq.1))
  · have c2 : ¬ (2 : Int32) ≤ nI V := nI_ge (b := 2) (by omega) (by decide)
    rcases (show V = 0 ∨ V = 1 by omega) with rfl | rfl
    · have c0 : nI 0 = 0 := rfl
      simp only [if_neg c2, if_pos c0]
      exact ok_b (ia_asides h e) (fun s1 h1 => ok_b (ia_heard150 (w := 0) (m := 4) (b := 0) h1 hx hx (by decide) (by decide) hk4 hIK' (by decide) (by decide)) (fun q hq => ok_s hq.1))
    · have c0 : ¬ nI 1 = 0 := by decide
      have c1 : nI 1 = 1 := rfl
      simp only [if_neg c2, if_neg c0, if_pos c1]
      exact ok_b (ia_asides h e) (fun s1 h1 => ok_b (ia_heard150 (w := 1) (m := 30) (b := 0) h1 hx hx (by decide) (by decide) hk4 hIK' (by decide) (by decide)) (fun q hq => ok_s hq.1))
theorem okm_film {σ : St6} (h : IM t ln sz σ) (hR : ∀ k, k < 4 → ∃ s, R3 s (ln k) (sz k)) (x1 x2 x3 x4 x5 : Int32) : ok (fun q => IM t ln sz q.2) (f_X6_film σ x1 x2 x3 x4 x5) := by
  obtain ⟨N, hN, e⟩ := h.people
  unfold f_X6_film
  refine ok_b (okm_isPerson h x1) (fun r hr => ok_i (fun _ => ok_s h) (fun h0 => ?_))
  refine ok_b (ok_in _ _ _) (fun r7 _ => ok_i (fun _ => ok_s h) (fun _ => ?_))
  refine ok_b (shq_okm x3) (fun r3 hr3 => ok_i (fun _ => ok_s h) (fun h3 => ?_))
  refine ok_b (lnq_okm x4) (fun r5 _ => ok_i (fun _ => ok_s h) (fun _ => ?_))
  have hx := (hr.resolve_left h0).2
  obtain ⟨k4, hk4, rfl⟩ := has_yes hr3 h3
  obtain ⟨sh, hRk⟩ := hR k4 hk4
  obtain ⟨r12, -, e12, hneg, hr0⟩ := why_eq hRk x4 x5 x2
  refine ok_b (P := fun r => r = r12) ⟨r12, e12 σ k4 hk4 (by rw [h.2.2.2.2.2.2.2.2.1]) (by rw [h.2.2.2.2.2.2.2.2.2]), rfl⟩ (fun r er => ?_)
  subst er
  refine ok_i (fun hz => ?_) (fun _ => ok_s h)
  have hz0 : r = 0 := by
    rcases hneg with q | q
    · exact q
    · have h1 := Int32.lt_iff_toInt_lt.mp q.1
      have h2 := Int32.le_iff_toInt_le.mp hz
      omega
  obtain ⟨I, K, S, rfl, rfl, hIK, hS, -, -, -, -⟩ := hr0 hz0
  refine ok_b (ia_asides h e) (fun s1 h1 => ok_b (P := fun q => IA t ln sz N q.2) ?_ (fun q hq => ok_b (ia_backs hq) (fun s2 h2 => ok_s h2.1)))
  refine lpG (fun n z s => lp_X6_film_64 x1 (nI K) (nI k4) (nI I) n z s) K (by omega) (fun _ s => IA t ln sz N s) _ (fun n z s => rfl) (fun _ _ _ => rfl) (fun s hs => ok_s hs) (fun n k s hk hs ih => ?_) s1 h1
  refine ok_b (ia_goesBy hs 0) (fun s2 h2 => ok_b (okm_turns s2 hx) (fun _ _ => ok_g ?_ (ih _ h2)))
  rw [show (24 : Int32) = nI 24 from rfl, nI_mul, nI_add, nI_add]; exact inB_nI (by omega) (by decide)
end
