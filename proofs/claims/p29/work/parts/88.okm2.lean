/-! THE REFERENCE: the hour, the people, the past -/
theorem lpG {τ β : Type} (lp : Nat → Int32 → τ → Option β) (N : Nat) (hN : N ≤ 50000) (I : Nat → τ → Prop) (Q : β → Prop) {bd : τ → Int32} {ex : Int32 → τ → Option β} {body : Nat → Int32 → τ → Option β} (he : ∀ n x s, lp (n + 1) x s = if bd s ≤ x then ex x s else body n x s) (hbd : ∀ k s, I k s → bd s = nI N) (hex : ∀ s, I N s → ok Q (ex (nI N) s)) (hb : ∀ n k s, k < N → I k s → (∀ s', I (k + 1) s' → ok Q (lp n (nI k + 1) s')) → ok Q (body n (nI k) s)) (s : τ) (h0 : I 0 s) : ok Q (lp FU 0 s) := by
  refine ok_loop0 lp N hN I Q s h0 ?_ ?_
  · intro n s hs
    rw [he, if_pos (sz_ge (hbd N s hs))]
    exact hex s hs
  · intro n k s hk hs ih
    rw [he, if_neg (sz_lt (hbd k s hs) hk hN)]
    exact hb n k s hk hs ih
noncomputable def KM (t : Int32) (ln sz : Nat → Int32) (σ r : St6) : Prop := IM t ln sz r ∧ p6_now r 0 = p6_now σ 0 ∧ p6_aside r = p6_aside σ
section
variable {t : Int32} {ln sz : Nat → Int32}
theorem KM.refl {σ : St6} (h : IM t ln sz σ) : KM t ln sz σ σ := ⟨h, rfl, rfl⟩
theorem KM.trans {a b c : St6} (h1 : KM t ln sz a b) (h2 : KM t ln sz b c) : KM t ln sz a c := ⟨h2.1, h2.2.1.trans h1.2.1, h2.2.2.trans h1.2.2⟩
theorem KM.ch {σ s : St6} (h : KM t ln sz σ s) (c : Nat → Int32) : KM t ln sz σ (s6_change s c) := h
theorem KM.bd {σ s : St6} (h : KM t ln sz σ s) {N : Nat} (e : p6_now σ ((0 : Int32).toNatClampNeg) = nI N) : p6_now s ((0 : Int32).toNatClampNeg) = nI N := h.2.1.trans e
theorem km_tells {σ : St6} (h : IM t ln sz σ) {x : Int32} (hx : rg x 6) {w : Nat} (hw : w < 4) (hw2 : w ≠ 2) (v : Int32) : ok (KM t ln sz σ) (f_X6_tells σ x (nI w) v) := by
  obtain ⟨p, hp, rfl⟩ := hx
  rw [tells_eq σ hp hw]
  refine ok_s ⟨h.now (gd_upd h.1 (by omega) (fun q hq => by omega) v), ?_, rfl⟩
  show upd (p6_now σ) (3 + 4 * p + w) v 0 = _
  unfold upd; rw [if_neg (by omega)]
theorem km_tells0 {σ : St6} (h : IM t ln sz σ) {x : Int32} (hx : rg x 6) (v : Int32) : ok (KM t ln sz σ) (f_X6_tells σ x 0 v) := km_tells h hx (w := 0) (by decide) (by decide) v
theorem km_tells1 {σ : St6} (h : IM t ln sz σ) {x : Int32} (hx : rg x 6) (v : Int32) : ok (KM t ln sz σ) (f_X6_tells σ x 1 v) := km_tells h hx (w := 1) (by decide) (by decide) v
theorem km_tells3 {σ : St6} (h : IM t ln sz σ) {x : Int32} (hx : rg x 6) (v : Int32) : ok (KM t ln sz σ) (f_X6_tells σ x 3 v) := km_tells h hx (w := 3) (by decide) (by decide) v
theorem km_tells2 {σ : St6} (h : IM t ln sz σ) {x : Int32} (hx : rg x 6) {v : Int32} (hv : wk v) : ok (KM t ln sz σ) (f_X6_tells σ x 2 v) := by
  obtain ⟨p, hp, rfl⟩ := hx
  rw [show (2 : Int32) = nI 2 from rfl, tells_eq σ hp (by decide), show 3 + 4 * p + 2 = 5 + 4 * p by omega]
  refine ok_s ⟨h.now (gd_updW h.1 hp hv), ?_, rfl⟩
  show upd (p6_now σ) (5 + 4 * p) v 0 = _
  unfold upd; rw [if_neg (by omega)]
theorem okm_told0 (σ : St6) {x : Int32} (hx : rg x 6) : ok (fun _ => True) (f_X6_told σ x 0) := okm_told σ hx (w := 0) (by decide)
theorem okm_told3 (σ : St6) {x : Int32} (hx : rg x 6) : ok (fun _ => True) (f_X6_told σ x 3) := okm_told σ hx (w := 3) (by decide)
theorem okm_runs {σ : St6} (h : IM t ln sz σ) {x : Int32} (hx : rg x 6) : ok (fun _ => True) (f_X6_runs σ x) := by
  unfold f_X6_runs
  obtain ⟨p, hp, rfl⟩ := hx
  have hw := gd_wk h.1 hp
  simp only [whom_eq σ hp, Option.bind_some]
  repeat' (with_reducible first
    | exact ok_s trivial
    | refine ok_b (okm_isStopped σ (rg_nI hp)) (fun _ _ => ?_)
    | refine ok_b (okm_told0 σ (rg_nI hp)) (fun _ _ => ?_)
    | refine ok_b (okm_windersOf h _) (fun _ _ => ?_)
    | refine ok_b (okm_isStopped σ (wk_rg hw (by assumption))) (fun _ _ => ?_)
    | refine ok_i (fun _ => ?_) (fun _ => ?_))
theorem okm_isWinding (σ : St6) : ok (fun r => r = 0 ∨ r = 1) (f_X6_isWinding σ) := by
  unfold f_X6_isWinding
  exact ok_i (fun _ => ok_s (Or.inr rfl)) (fun _ => ok_s (Or.inl rfl))
theorem km_winds {σ : St6} (h : IM t ln sz σ) (x : Int32) : ok (KM t ln sz σ) (f_X6_winds σ x) := by
  obtain ⟨N, hN, e⟩ := h.people
  unfold f_X6_winds
  refine ok_b (P := fun q => KM t ln sz σ q.2) ?_ (fun q hq => ok_b (P := fun q => KM t ln sz σ q.2) ?_ (fun q1 hq1 => ok_b (P := fun q => KM t ln sz σ q.2) ?_ (fun q2 hq2 => ok_s hq2)))
  · exact lpG (fun n z s => lp_X6_winds_2 x n z s) 6 (by decide) (fun _ s => KM t ln sz σ s) _ (fun n z s => rfl) (fun _ _ _ => rfl) (fun s hs => ok_s hs) (fun n k s hk hs ih => ok_g (inB_nI hk (by decide)) (ih _ (hs.ch _))) σ (KM.refl h)
  · refine lpG (fun n z s => lp_X6_winds_23 x n z s) N (by omega) (fun _ s => KM t ln sz σ s) _ (fun n z s => rfl) (fun _ s hs => hs.bd e) (fun s hs => ok_s hs) (fun n k s hk hs ih => ?_) q.2 hq
    have hk6 : k < 6 := by omega
    have hw := gd_wk hs.1.1 hk6
    simp only [whom_eq s hk6, Option.bind_some]
    refine ok_b (okm_isStopped s (rg_nI hk6)) (fun r _ => ok_i (fun _ => ok_i (fun _ => ih _ hs) (fun h4 => ok_i (fun _ => ?_) (fun _ => ih _ hs))) (fun _ => ih _ hs))
    have hi := rg_in (wk_rg hw h4) (n := 6) (by decide)
    exact ok_g hi (ok_b (okm_told3 s (rg_nI hk6)) (fun _ _ => ok_g hi (ih _ (hs.ch _))))
  · refine lpG (fun n z s => lp_X6_winds_86 n z s) N (by omega) (fun _ s => KM t ln sz σ s) _ (fun n z s => rfl) (fun _ s hs => hs.bd e) (fun s hs => ok_s hs) (fun n k s hk hs ih => ?_) q1.2 hq1
    have hk6 : k < 6 := by omega
    refine ok_b (okm_turns s (rg_nI hk6)) (fun r _ => ok_g (inB_nI hk6 (by decide)) (ok_i (fun _ => ?_) (fun _ => ?_)))
    · exact ok_b (km_tells1 hs.1 (rg_nI hk6) _) (fun s' h' => ih _ (hs.trans h'))
    · exact ok_b (km_tells1 hs.1 (rg_nI hk6) _) (fun s' h' => ih _ (hs.trans h'))
theorem km_g14 {σ s : St6} (h : KM t ln sz σ s) : ok (fun q => KM t ln sz σ q.2) (lp_X6_goesBy_14 FU 0 s) := by
  obtain ⟨N, hN, e⟩ := h.1.people
  refine ok_w (P := fun q => KM t ln sz s q.2) ?_ (fun q hq => h.trans hq)
  refine lpG (fun n z s => lp_X6_goesBy_14 n z s) N (by omega) (fun _ s' => KM t ln sz s s') _ (fun n z s => rfl) (fun _ s hs => hs.bd e) (fun s hs => ok_s hs) (fun n k s hk hs ih => ?_) s (KM.refl h.1)
  exact ok_b (okm_runs hs.1 (rg_nI (by omega))) (fun r _ => ok_g (inB_nI (by omega) (by decide)) (ih _ (hs.ch _)))
theorem km_g43 {σ s : St6} (h : KM t ln sz σ s) : ok (fun q => KM t ln sz σ q.2) (lp_X6_goesBy_43 FU 0 s) := by
  obtain ⟨N, hN, e⟩ := h.1.people
  refine ok_w (P := fun q => KM t ln sz s q.2) ?_ (fun q hq => h.trans hq)
  refine lpG (fun n z s => lp_X6_goesBy_43 n z s) N (by omega) (fun _ s' => KM t ln sz s s') _ (fun n z s => rfl) (fun _ s hs => hs.bd e) (fun s hs => ok_s hs) (fun n k s hk hs ih => ?_) s (KM.refl h.1)
  have hk6 : k < 6 := by omega
  refine ok_b (okm_turns s (rg_nI hk6)) (fun r _ => ok_g (inB_nI hk6 (by decide)) (ok_i (fun _ => ?_) (fun _ => ?_)))
  · exact ok_b (km_tells1 hs.1 (rg_nI hk6) _) (fun s' h' => ih _ (hs.trans h'))
  · exact ok_b (km_tells1 hs.1 (rg_nI hk6) _) (fun s' h' => ih _ (hs.trans h'))
theorem KM.w1 {σ s : St6} (h : KM t ln sz σ s) (v : Int32) : KM t ln sz σ (s6_now s (upd (p6_now s) ((1 : Int32).toNatClampNeg) v)) := by
  refine ⟨h.1.now (gd_upd h.1.1 (by decide) (fun p hp => ?_) v), ?_, h.2.2⟩
  · show 1 ≠ 5 + 4 * p
    omega
  · refine Eq.trans ?_ h.2.1
    show upd (p6_now s) 1 v 0 = _
    unfold upd; rw [if_neg (by decide)]
theorem KM.w2 {σ s : St6} (h : KM t ln sz σ s) (v : Int32) : KM t ln sz σ (s6_now s (upd (p6_now s) ((2 : Int32).toNatClampNeg) v)) := by
  refine ⟨h.1.now (gd_upd h.1.1 (by decide) (fun p hp => ?_) v), ?_, h.2.2⟩
  · show 2 ≠ 5 + 4 * p
    omega
  · refine Eq.trans ?_ h.2.1
    show upd (p6_now s) 2 v 0 = _
    unfold upd; rw [if_neg (by decide)]
theorem km_goesBy {σ : St6} (h : IM t ln sz σ) (x : Int32) : ok (KM t ln sz σ) (f_X6_goesBy σ x) := by
  unfold f_X6_goesBy
  refine ok_b (okm_isWinding σ) (fun r _ => ok_i (fun _ => ?_) (fun _ => ?_))
  · exact ok_b (km_g14 (KM.refl h)) (fun q hq => ok_b (km_g43 hq) (fun q2 hq2 => ok_s (hq2.w1 _)))
  · exact ok_b (km_winds h x) (fun s hs => ok_b (km_g14 hs) (fun q hq => ok_b (km_g43 hq) (fun q2 hq2 => ok_s (hq2.w1 _))))
theorem km_goesOn {σ : St6} (h : IM t ln sz σ) {x : Int32} (hx : rg x 50001) : ok (KM t ln sz σ) (f_X6_goesOn σ x) := by
  obtain ⟨M, hM, rfl⟩ := hx
  unfold f_X6_goesOn
  refine ok_b (P := fun q => KM t ln sz σ q.2) ?_ (fun q hq => ok_s hq)
  exact lpG (fun n z s => lp_X6_goesOn_2 (nI M) n z s) M (by omega) (fun _ s => KM t ln sz σ s) _ (fun n z s => rfl) (fun _ _ _ => rfl) (fun s hs => ok_s hs) (fun n k s hk hs ih => ok_b (km_goesBy hs.1 0) (fun s' h' => ih _ (hs.trans h'))) σ (KM.refl h)
theorem okm_stopped {σ : St6} (h : IM t ln sz σ) : ok (fun r => rg r 64) (f_X6_stopped σ) := by
  obtain ⟨N, hN, e⟩ := h.people
  unfold f_X6_stopped
  refine ok_b (P := fun q => lo q.1 N) ?_ (fun a h => ok_s (lo_64 h hN))
  refine lpG (fun n z a => lp_X6_stopped_4 σ n a z) N (by omega) (fun k a => lo a k) _ (fun n z s => rfl) (fun _ _ _ => e) (fun s hs => ok_s hs) (fun n k s hk hs ih => ?_) 0 lo_0
  exact ok_b (okm_isStopped σ (rg_nI (by omega))) (fun r _ => ok_i (fun _ => ih _ (lo_up hs)) (fun _ => ih _ (lo_set hs (by omega))))
theorem many_some : ∀ S, S < 64 → (f_X6_many (nI S)).isSome = true := by decide +kernel
theorem okm_many {x : Int32} (hx : rg x 64) : ok (fun _ => True) (f_X6_many x) := by
  obtain ⟨S, hS, rfl⟩ := hx
  have := many_some S hS
  obtain ⟨a, ha⟩ := Option.isSome_iff_exists.mp this
  exact ⟨a, ha, trivial⟩
theorem okm_personComes {σ : St6} (h : IM t ln sz σ) {N : Nat} (hN : N < 6) (e : p6_now σ 0 = nI N) (k v : Int32) {w : Int32} (hw : wk w) (y : Int32) : ok (fun r => IM t ln sz r ∧ p6_now r 0 = nI (N + 1)) (f_X6_personComes σ k v w y) := by
  have e' : p6_now σ ((0 : Int32).toNatClampNeg) = nI N := e
  unfold f_X6_personComes
  rw [e']
  have hr : rg (nI N) 6 := rg_nI hN
  refine ok_b (km_tells0 h hr _) (fun r1 h1 => ok_b (km_tells1 h1.1 hr _) (fun r2 h2 => ok_b (km_tells2 h2.1 hr hw) (fun r3 h3 => ok_b (km_tells3 h3.1 hr _) (fun r4 h4 => ok_s ?_))))
  have e4 : p6_now r4 0 = nI N := (h4.2.1.trans (h3.2.1.trans (h2.2.1.trans h1.2.1))).trans e
  have e5 : p6_now r4 0 + 1 = nI (N + 1) := by rw [e4, nI_1]
  refine ⟨⟨⟨?_, fun p hp => ?_⟩, ⟨0, by decide, rfl⟩, h4.1.2.2⟩, ?_⟩
  · show rg (upd (p6_now r4) 0 (p6_now r4 0 + 1) 0) 7
    rw [pk_us, e5]; exact rg_nI (by omega)
  · show wk (upd (p6_now r4) 0 (p6_now r4 0 + 1) (0 + 5 + 4 * p))
    rw [pk_un (by omega)]; exact h4.1.1.2 p hp
  · show upd (p6_now r4) 0 (p6_now r4 0 + 1) 0 = _
    rw [pk_us, e5]
theorem okm_person {σ : St6} (h : IM t ln sz σ) (x y : Int32) : ok (fun q => IM t ln sz q.2) (f_X6_person σ x y) := by
  obtain ⟨N, hN, e⟩ := h.people
  unfold f_X6_person
  refine ok_b (ok_in _ _ _) (fun _ _ => ok_i (fun _ => ok_s h) (fun _ => ok_b (ok_in _ _ _) (fun _ _ => ok_i (fun _ => ok_s h) (fun _ => ok_i (fun _ => ok_s h) (fun h6 => ?_)))))
  have hN6 : N < 6 := by
    rcases Nat.lt_or_eq_of_le hN with q | q
    · exact q
    · exact absurd (by rw [e, q]; rfl) h6
  exact ok_b (okm_personComes h hN6 e x y (Or.inl rfl) 1) (fun r hr => ok_s hr.1)
theorem okm_of {σ : St6} (h : IM t ln sz σ) (x y : Int32) : ok (fun _ => True) (f_X6_of σ x y) := by
  unfold f_X6_of
  refine ok_b (okm_isPerson h x) (fun r hr => ok_i (fun _ => ok_s trivial) (fun h0 => ?_))
  have hx := hr.resolve_left h0 |>.2
  refine ok_b (ok_in _ _ _) (fun r2 hr2 => ok_i (fun _ => ok_s trivial) (fun h1 => ?_))
  have hy := hr2.resolve_left h1
  refine ok_i (fun _ => ok_i (fun _ => ok_b (okm_runs h hx) (fun _ _ => ok_s trivial)) (fun _ => ok_b (okm_windersOf h x) (fun _ _ => ok_s trivial))) (fun h4 => ?_)
  have h0' : (0 : Int) ≤ y.toInt := by have := hy.2.1; rw [w64] at this; exact this
  have hy4 : rg y 4 := rg_of (fun q => by have := Int32.lt_iff_toInt_lt.mp q; simp at this; omega) h4 (by decide)
  obtain ⟨w, hw, rfl⟩ := hy4
  exact ok_b (okm_told σ hx hw) (fun _ _ => ok_s trivial)
theorem bit_set : ∀ A, A < 64 → ∀ j, j < 6 → ((nI A >>> (nI j &&& 31)) &&& 1) = 0 → (nI A ||| ((1 : Int32) <<< (nI j &&& 31))) = nI (A + 2 ^ j) ∧ A + 2 ^ j < 64 := by decide +kernel
theorem okm_behindL {σ : St6} (h : IM t ln sz σ) : ∀ n A x, A < 64 → 64 - A < n → wk x → ok (fun _ => True) (lp_X6_behind_8 σ n (nI A) x) := by
  intro n
  induction n with
  | zero => intro A x _ h2; omega
  | succ n ih =>
    intro A x hA h2 hx
    rw [lp_X6_behind_8]
    refine ok_i (fun _ => ok_s trivial) (fun h4 => ?_)
    obtain ⟨j, hj, rfl⟩ := wk_rg hx h4
    refine ok_i (fun hb => ?_) (fun _ => ok_s trivial)
    refine ok_b (okm_whom h (rg_nI hj)) (fun w hw => ?_)
    obtain ⟨e, hl⟩ := bit_set A hA j hj hb
    rw [e]
    have : 0 < 2 ^ j := Nat.pow_pos (by decide)
    exact ih _ _ hl (by omega) hw
theorem okm_behind {σ : St6} (h : IM t ln sz σ) {x : Int32} (hx : rg x 6) : ok (fun _ => True) (f_X6_behind σ x) := by
  unfold f_X6_behind
  exact ok_b (okm_whom h hx) (fun w hw => ok_b (okm_behindL h FU 0 w (by decide) (by unfold FU; omega) hw) (fun _ _ => ok_s trivial))
theorem okm_ring {σ : St6} (h : IM t ln sz σ) : ok (fun _ => True) (f_X6_ring σ) := by
  obtain ⟨N, hN, e⟩ := h.people
  unfold f_X6_ring
  refine ok_b (P := fun _ => True) ?_ (fun a h => ok_s trivial)
  exact lpG (fun n z a => lp_X6_ring_4 σ n a z) N (by omega) (fun _ _ => True) _ (fun n z s => rfl) (fun _ _ _ => e) (fun s hs => ok_s trivial) (fun n k s hk hs ih => ok_b (okm_behind h (rg_nI (by omega))) (fun _ _ => ok_i (fun _ => ih _ trivial) (fun _ => ih _ trivial))) 0 trivial
theorem okm_without {σ : St6} (h : IM t ln sz σ) : ok (fun _ => True) (f_X6_without σ) := by
  obtain ⟨N, hN, e⟩ := h.people
  unfold f_X6_without
  refine ok_b (P := fun _ => True) ?_ (fun a h => ok_s trivial)
  exact lpG (fun n z a => lp_X6_without_4 σ n a z) N (by omega) (fun _ _ => True) _ (fun n z s => rfl) (fun _ _ _ => e) (fun s hs => ok_s trivial) (fun n k s hk hs ih => ok_b (okm_windersOf h _) (fun _ _ => ok_i (fun _ => ih _ trivial) (fun _ => ih _ trivial))) 0 trivial
theorem okm_turnsAll {σ : St6} (h : IM t ln sz σ) : ok (fun _ => True) (f_X6_turnsAll σ) := by
  obtain ⟨N, hN, e⟩ := h.people
  unfold f_X6_turnsAll
  refine ok_b (P := fun _ => True) ?_ (fun a h => ok_s trivial)
  exact lpG (fun n z a => lp_X6_turnsAll_4 σ n a z) N (by omega) (fun _ _ => True) _ (fun n z s => rfl) (fun _ _ _ => e) (fun s hs => ok_s trivial) (fun n k s hk hs ih => ok_b (okm_turns σ (rg_nI (by omega))) (fun _ _ => ih _ trivial)) 0 trivial
theorem okm_count {σ : St6} (h : IM t ln sz σ) (x : Int32) : ok (fun _ => True) (f_X6_count σ x) := by
  unfold f_X6_count
  refine ok_i (fun e => ok_g (by rw [e]; decide) (ok_s trivial)) (fun _ => ok_i (fun e => ok_g (by rw [e]; decide) (ok_s trivial)) (fun _ => ?_))
  refine ok_i (fun _ => ok_b (okm_stopped h) (fun _ _ => ok_s trivial)) (fun _ => ?_)
  refine ok_i (fun _ => ok_b (okm_turnsAll h) (fun _ _ => ok_s trivial)) (fun _ => ?_)
  refine ok_i (fun _ => ok_b (okm_ring h) (fun _ _ => ok_s trivial)) (fun _ => ?_)
  refine ok_i (fun _ => ok_b (okm_without h) (fun _ _ => ok_s trivial)) (fun _ => ?_)
  refine ok_i (fun _ => ok_b (okm_isWinding σ) (fun _ _ => ok_i (fun _ => ok_s trivial) (fun _ => ok_s trivial))) (fun _ => ?_)
  exact ok_i (fun _ => ok_s trivial) (fun _ => ok_s trivial)
end
