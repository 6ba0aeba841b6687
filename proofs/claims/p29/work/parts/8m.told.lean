/-! THE FULL RELATION: what is told of now -/
noncomputable def AV (fx fm : Option Int32) : Prop := ∃ r, fx = some r ∧ fm = some r
theorem av_mk {fx fm : Option Int32} {r : Int32} (h1 : fx = some r) (h2 : fm = some r) : AV fx fm := ⟨r, h1, h2⟩
theorem bit_shr1 : ∀ A, A < 64 → ∀ j, j < 6 → (((nI A >>> (nI j &&& 31)) &&& 1) = 1 ↔ A.testBit j = true) := by decide +kernel
theorem bc_or : ∀ A, A < 64 → ∀ j, j < 6 → A.testBit j = false → bcN (A ||| 2 ^ j) = bcN A + 1 := by decide +kernel
theorem bc_full : ∀ N, N < 7 → ∀ A, A < 64 → A < 2 ^ N → bcN A = N → ∀ j, j < N → A.testBit j = true := by decide +kernel
/-- one step along whom they wind -/
noncomputable def bnx (p : St2) (s : Nat × Int32) : Nat × Int32 := if s.2 = -4 then s else (s.1 ||| 2 ^ s.2.toNatClampNeg, p2_winds p s.2.toNatClampNeg)
noncomputable def bwk (p : St2) (w : Int32) : Nat → Nat × Int32
  | 0 => (0, w)
  | k + 1 => bnx p (bwk p w k)
noncomputable def bhN (N : Nat) (p : St2) (i : Nat) : Nat := (bwk p (p2_winds p i) N).1
noncomputable def clo (N : Nat) (p : St2) (s : Nat × Int32) : Prop := (s.2 = -4 ∨ ∃ w, w < N ∧ s.2 = nI w ∧ s.1.testBit w = true) ∧ ∀ q, q < N → s.1.testBit q = true → p2_winds p q = -4 ∨ ∃ v, v < N ∧ p2_winds p q = nI v ∧ s.1.testBit v = true
theorem or_self_bit {A w : Nat} (h : A.testBit w = true) : A ||| 2 ^ w = A := by
  apply Nat.eq_of_testBit_eq
  intro i
  rw [Nat.testBit_or]
  by_cases e : w = i
  · subst e; rw [h, Bool.true_or]
  · rw [Nat.testBit_two_pow_of_ne e, Bool.or_false]
theorem clo.nx {N : Nat} {p : St2} {s : Nat × Int32} (hN : N ≤ 6) (h : clo N p s) : (bnx p s).1 = s.1 ∧ clo N p (bnx p s) := by
  unfold bnx
  rcases h.1 with e | ⟨w, hw, e, t⟩
  · rw [if_pos e]; exact ⟨rfl, h⟩
  · rw [if_neg (by rw [e]; exact nI_m4 (by omega)), e, nI_clamp (by omega), or_self_bit t]
    exact ⟨rfl, h.2 w hw t, h.2⟩
theorem clo.st {N : Nat} {p : St2} {w : Int32} (hN : N ≤ 6) {k : Nat} (h : clo N p (bwk p w k)) : ∀ m, (bwk p w (k + m)).1 = (bwk p w k).1 ∧ clo N p (bwk p w (k + m)) := by
  intro m
  induction m with
  | zero => exact ⟨rfl, h⟩
  | succ m ih =>
    have := ih.2.nx hN
    exact ⟨this.1.trans ih.1, this.2⟩
noncomputable def bJ (N : Nat) (p : St2) (s : Nat × Int32) : Prop := s.1 < 2 ^ N ∧ (s.2 = -4 ∨ rg s.2 N) ∧ ∀ q, q < N → s.1.testBit q = true → p2_winds p q = -4 ∨ p2_winds p q = s.2 ∨ ∃ v, v < N ∧ p2_winds p q = nI v ∧ s.1.testBit v = true
theorem bJ.nx {N : Nat} {p : St2} (hc : CPo N p) {s : Nat × Int32} (h : bJ N p s) : bJ N p (bnx p s) := by
  have hN := hc.1
  unfold bnx
  by_cases e : s.2 = -4
  · rw [if_pos e]; exact h
  · rw [if_neg e]
    obtain ⟨w, hw, ew⟩ := h.2.1.resolve_left e
    rw [ew, nI_clamp (by omega)]
    refine ⟨Nat.or_lt_two_pow h.1 (Nat.pow_lt_pow_right (by decide) hw), (hc.2.2 w hw).2.2.1, fun q hq t => ?_⟩
    have tw : (s.1 ||| 2 ^ w).testBit w = true := by rw [Nat.testBit_or, Nat.testBit_two_pow_self, Bool.or_true]
    by_cases eq : q = w
    · rw [eq]; exact Or.inr (Or.inl rfl)
    · have t' : s.1.testBit q = true := by
        have t2 : (s.1 ||| 2 ^ w).testBit q = true := t
        rw [Nat.testBit_or, Nat.testBit_two_pow_of_ne (fun c => eq c.symm), Bool.or_false] at t2
        exact t2
      rcases h.2.2 q hq t' with a | a | ⟨v, hv, a, b⟩
      · exact Or.inl a
      · exact Or.inr (Or.inr ⟨w, hw, a.trans ew, tw⟩)
      · refine Or.inr (Or.inr ⟨v, hv, a, ?_⟩)
        show (s.1 ||| 2 ^ w).testBit v = true
        rw [Nat.testBit_or, b, Bool.true_or]
theorem bJ.wk {N : Nat} {p : St2} (hc : CPo N p) {w : Int32} (hw : w = -4 ∨ rg w N) : ∀ k, bJ N p (bwk p w k) := by
  intro k
  induction k with
  | zero => exact ⟨Nat.two_pow_pos N, hw, fun q _ t => by
      have t2 : (0 : Nat).testBit q = true := t
      rw [Nat.zero_testBit] at t2; cases t2⟩
  | succ k ih => exact ih.nx hc
theorem bJ.clo1 {N : Nat} {p : St2} {s : Nat × Int32} (h : bJ N p s) (e : s.2 = -4) : clo N p s := ⟨Or.inl e, fun q hq t => by
  rcases h.2.2 q hq t with a | a | a
  · exact Or.inl a
  · exact Or.inl (a.trans e)
  · exact Or.inr a⟩
theorem bJ.clo2 {N : Nat} {p : St2} {s : Nat × Int32} (h : bJ N p s) {w : Nat} (hw : w < N) (e : s.2 = nI w) (t : s.1.testBit w = true) : clo N p s := ⟨Or.inr ⟨w, hw, e, t⟩, fun q hq tq => by
  rcases h.2.2 q hq tq with a | a | a
  · exact Or.inl a
  · exact Or.inr ⟨w, hw, a.trans e, t⟩
  · exact Or.inr a⟩
theorem bst_N {N : Nat} {p : St2} {w : Int32} (hN : N ≤ 6) {k : Nat} (hk : k ≤ N) (h : clo N p (bwk p w k)) : (bwk p w N).1 = (bwk p w k).1 := by
  have := (h.st hN (N - k)).1
  rw [show k + (N - k) = N by omega] at this
  exact this
theorem p64 {N A : Nat} (hN : N ≤ 6) (h : A < 2 ^ N) : A < 64 := Nat.lt_of_lt_of_le h (Nat.pow_le_pow_right (n := 2) (by decide) hN)
section
variable {N : Nat} {p : St2} {σ : St6}
theorem bh_lt (hc : CPo N p) {i : Nat} (hi : i < N) : bhN N p i < 64 := p64 hc.1 (bJ.wk hc (hc.2.2 i hi).2.2.1 N).1
theorem c_behind (hc : CPo N p) {i : Nat} (hi : i < N) : f_X2_behind p (nI i) = some (nI (bhN N p i)) := by
  have hN := hc.1
  have hw0 := (hc.2.2 i hi).2.2.1
  have hJ := fun k => bJ.wk hc hw0 k
  unfold f_X2_behind
  refine ok_eq (ok_b (P := fun q => q.1 = nI (bhN N p i)) ?_ (fun q hq => ok_s hq))
  refine lpG (fun m z (s : Int32 × Int32) => lp_X2_behind_7 p m s.1 s.2 z) N (by omega) (fun k s => s.1 = nI (bwk p (p2_winds p i) k).1 ∧ ∃ j, j < N ∧ s.2 = nI j ∧ p2_winds p j = (bwk p (p2_winds p i) k).2) _ (fun m z s => rfl) (fun _ _ _ => hc.2.1) (fun s hs => ok_s hs.1) (fun m k s hk hs ih => ?_) (0, nI i) ⟨rfl, i, hi, rfl, rfl⟩
  obtain ⟨e1, j, hj, e2, e3⟩ := hs
  rw [e2, if_pos (inB_nI (show j < 6 by omega) (by decide)), if_pos (inB_nI (show j < 6 by omega) (by decide)), nI_clamp (by omega), bd_eq (c_has hc.2.1 hN (hc.2.2 j hj).2.2.1)]
  by_cases e4 : p2_winds p j = -4
  · rw [if_pos e4, if_pos rfl]
    refine ok_s (e1.trans ?_)
    unfold bhN
    rw [bst_N hN (by omega) ((hJ k).clo1 (by rw [← e3]; exact e4))]
  · rw [if_neg e4, if_neg (by decide)]
    obtain ⟨w, hw, ew⟩ := (hc.2.2 j hj).2.2.1.resolve_left e4
    have hb : bwk p (p2_winds p i) (k + 1) = ((bwk p (p2_winds p i) k).1 ||| 2 ^ w, p2_winds p w) := by
      show bnx p (bwk p (p2_winds p i) k) = _
      unfold bnx
      rw [← e3, if_neg e4, ew, nI_clamp (by omega)]
    rw [ew]
    refine ih (_, _) ⟨?_, w, hw, rfl, by rw [hb]⟩
    show s.1 ||| ((1 : Int32) <<< (nI w &&& 31)) = _
    rw [e1, hb, sh1 w (by omega), nI_or]
theorem m_behind (h : PMo N p (p6_now σ) 0) {i : Nat} (hi : i < N) : f_X6_behind σ (nI i) = some (nI (bhN N p i)) := by
  have hN := h.1
  have hc := h.cp
  have hw0 := (hc.2.2 i hi).2.2.1
  have hJ := fun k => bJ.wk hc hw0 k
  unfold f_X6_behind
  rw [bd_eq (h.whom hi)]
  refine ok_eq (ok_b (P := fun q => q.1 = nI (bhN N p i)) ?_ (fun q hq => ok_s hq))
  have stop : ∀ (m k : Nat) (s : Int32 × Int32), k ≤ N → s.1 = nI (bwk p (p2_winds p i) k).1 → s.2 = (bwk p (p2_winds p i) k).2 → ((bwk p (p2_winds p i) k).2 = -4 ∨ ∃ w, w < N ∧ (bwk p (p2_winds p i) k).2 = nI w ∧ (bwk p (p2_winds p i) k).1.testBit w = true) → ok (fun q => q.1 = nI (bhN N p i)) (lp_X6_behind_8 σ (m + 1) s.1 s.2) := by
    intro m k s hk e1 e2 hs
    show ok _ (if s.2 = -4 then some (s.1, s.2) else _)
    rcases hs with e | ⟨w, hw, e, t⟩
    · rw [if_pos (e2.trans e)]
      refine ok_s (e1.trans ?_)
      unfold bhN
      rw [bst_N hN hk ((hJ k).clo1 e)]
    · rw [e2, e, if_neg (nI_m4 (by omega)), e1, if_neg (fun c => by
        have := (bit_shr _ (p64 hN (hJ k).1) w (by omega)).mp c
        rw [t] at this; cases this)]
      refine ok_s ?_
      show nI _ = _
      unfold bhN
      rw [bst_N hN hk ((hJ k).clo2 hw e t)]
  refine ok_loop0 (fun m _ (s : Int32 × Int32) => lp_X6_behind_8 σ m s.1 s.2) N (by omega) (fun k s => s.1 = nI (bwk p (p2_winds p i) k).1 ∧ s.2 = (bwk p (p2_winds p i) k).2 ∧ bcN (bwk p (p2_winds p i) k).1 = k) _ (0, p2_winds p i) ⟨rfl, rfl, by show bcN 0 = 0; decide⟩ ?_ ?_
  · intro m s hs
    refine stop m N s (Nat.le_refl _) hs.1 hs.2.1 ?_
    rcases (hJ N).2.1 with e | ⟨w, hw, e⟩
    · exact Or.inl e
    · exact Or.inr ⟨w, hw, e, bc_full N (by omega) _ (p64 hN (hJ N).1) (hJ N).1 hs.2.2 w hw⟩
  · intro m k s hk hs ih
    rcases (hJ k).2.1 with e | ⟨w, hw, e⟩
    · exact stop m k s (by omega) hs.1 hs.2.1 (Or.inl e)
    · cases ht : (bwk p (p2_winds p i) k).1.testBit w
      · show ok _ (if s.2 = -4 then _ else (if ((s.1 >>> (s.2 &&& 31)) &&& 1) = 0 then ((f_X6_whom σ s.2).bind (fun r4 => lp_X6_behind_8 σ m (s.1 ||| (1 <<< (s.2 &&& 31))) r4)) else some (s.1, s.2)))
        have hb : bwk p (p2_winds p i) (k + 1) = ((bwk p (p2_winds p i) k).1 ||| 2 ^ w, p2_winds p w) := by
          show bnx p (bwk p (p2_winds p i) k) = _
          unfold bnx
          rw [e, if_neg (nI_m4 (by omega)), nI_clamp (by omega)]
        rw [hs.2.1, e, if_neg (nI_m4 (by omega)), hs.1, if_pos ((bit_shr _ (p64 hN (hJ k).1) w (by omega)).mpr ht), bd_eq (h.whom hw)]
        refine ih (_, _) ⟨?_, by rw [hb], by rw [hb]; show bcN (_ ||| 2 ^ w) = _; rw [bc_or _ (p64 hN (hJ k).1) w (by omega) ht, hs.2.2]⟩
        show nI (bwk p (p2_winds p i) k).1 ||| ((1 : Int32) <<< (nI w &&& 31)) = _
        rw [hb, sh1 w (by omega), nI_or]
      · exact stop m k s (by omega) hs.1 hs.2.1 (Or.inr ⟨w, hw, e, ht⟩)
theorem av_ring (h : PMo N p (p6_now σ) 0) : AV (f_X2_ring p) (f_X6_ring σ) := by
  have hN := h.1
  have hc := h.cp
  unfold f_X2_ring f_X6_ring
  refine av_mk (r := nI (bset (fun i => (bhN N p i).testBit i) N)) (ok_eq (ok_b (P := fun q => q.1 = nI (bset (fun i => (bhN N p i).testBit i) N)) ?_ (fun q hq => ok_s hq))) (ok_eq (ok_b (P := fun q => q.1 = nI (bset (fun i => (bhN N p i).testBit i) N)) ?_ (fun q hq => ok_s hq)))
  · refine lpG (fun m z s => lp_X2_ring_4 p m s z) N (by omega) (fun k s => s = nI (bset (fun i => (bhN N p i).testBit i) k)) _ (fun m z s => rfl) (fun _ _ _ => hc.2.1) (fun s hs => ok_s hs) (fun m k s hk hs ih => ?_) 0 rfl
    rw [bd_eq (c_behind hc hk)]
    refine ih _ ?_
    cases ht : (bhN N p k).testBit k
    · rw [(bit_and _ (bh_lt hc hk) k (by omega)).mpr ht]
      exact bs_n hs ht
    · rw [(bit_full _ (bh_lt hc hk) k (by omega)).mpr ht]
      exact bs_y hs (by omega) ht
  · refine lpG (fun m z s => lp_X6_ring_4 σ m s z) N (by omega) (fun k s => s = nI (bset (fun i => (bhN N p i).testBit i) k)) _ (fun m z s => rfl) (fun _ _ _ => h.n) (fun s hs => ok_s hs) (fun m k s hk hs ih => ?_) 0 rfl
    rw [bd_eq (m_behind h hk)]
    cases ht : (bhN N p k).testBit k
    · rw [if_neg (fun c => by rw [(bit_shr1 _ (bh_lt hc hk) k (by omega)).mp c] at ht; cases ht)]
      exact ih _ (bs_n hs ht)
    · rw [if_pos ((bit_shr1 _ (bh_lt hc hk) k (by omega)).mpr ht)]
      exact ih _ (bs_y hs (by omega) ht)
theorem av_turns (h : PMo N p (p6_now σ) 0) : AV (f_X2_turnsTogether p) (f_X6_turnsAll σ) := by
  have hN := h.1
  unfold f_X2_turnsTogether f_X6_turnsAll
  have hsum : ∃ S : Nat → Int32, S 0 = 0 ∧ ∀ k, S (k + 1) = S k + p2_turns p k := ⟨fun k => Nat.rec 0 (fun k s => s + p2_turns p k) k, rfl, fun _ => rfl⟩
  obtain ⟨S, S0, Ss⟩ := hsum
  refine av_mk (r := S N) (ok_eq (ok_b (P := fun q => q.1 = S N) ?_ (fun q hq => ok_s hq))) (ok_eq (ok_b (P := fun q => q.1 = S N) ?_ (fun q hq => ok_s hq)))
  · refine lpG (fun m z s => lp_X2_turnsTogether_4 p m s z) N (by omega) (fun k s => s = S k) _ (fun m z s => rfl) (fun _ _ _ => h.2.1) (fun s hs => ok_s hs) (fun m k s hk hs ih => ?_) 0 S0.symm
    rw [if_pos (inB_nI (show k < 6 by omega) (by decide)), nI_clamp (by omega)]
    exact ih _ (by rw [hs, Ss])
  · refine lpG (fun m z s => lp_X6_turnsAll_4 σ m s z) N (by omega) (fun k s => s = S k) _ (fun m z s => rfl) (fun _ _ _ => h.n) (fun s hs => ok_s hs) (fun m k s hk hs ih => ?_) 0 S0.symm
    rw [bd_eq (h.turns hk)]
    exact ih _ (by rw [hs, Ss])
theorem av_without (h : PMo N p (p6_now σ) 0) : AV (f_X2_without p) (f_X6_without σ) := by
  have hN := h.1
  unfold f_X2_without f_X6_without
  have hsum : ∃ S : Nat → Int32, S 0 = 0 ∧ ∀ k, S (k + 1) = if nI (wbN N p (nI k)) = 0 then S k + 1 else S k + 0 := ⟨fun k => Nat.rec 0 (fun k s => if nI (wbN N p (nI k)) = 0 then s + 1 else s + 0) k, rfl, fun _ => rfl⟩
  obtain ⟨S, S0, Ss⟩ := hsum
  refine av_mk (r := S N) (ok_eq (ok_b (P := fun q => q.1 = S N) ?_ (fun q hq => ok_s hq))) (ok_eq (ok_b (P := fun q => q.1 = S N) ?_ (fun q hq => ok_s hq)))
  · refine lpG (fun m z s => lp_X2_without_4 p m s z) N (by omega) (fun k s => s = S k) _ (fun m z s => rfl) (fun _ _ _ => h.2.1) (fun s hs => ok_s hs) (fun m k s hk hs ih => ?_) 0 S0.symm
    rw [bd_eq (c_woundBy h.2.1 hN _)]
    have := Ss k
    by_cases e : nI (wbN N p (nI k)) = 0
    · rw [if_pos e] at this ⊢
      exact ih _ (by rw [hs, this])
    · rw [if_neg e] at this ⊢
      exact ih _ (by rw [hs, this])
  · refine lpG (fun m z s => lp_X6_without_4 σ m s z) N (by omega) (fun k s => s = S k) _ (fun m z s => rfl) (fun _ _ _ => h.n) (fun s hs => ok_s hs) (fun m k s hk hs ih => ?_) 0 S0.symm
    rw [bd_eq (m_windersOf h _)]
    have := Ss k
    by_cases e : nI (wbN N p (nI k)) = 0
    · rw [if_pos e] at this ⊢
      exact ih _ (by rw [hs, this])
    · rw [if_neg e] at this ⊢
      exact ih _ (by rw [hs, this])
theorem av_bind {fx fm : Option Int32} (h : AV fx fm) : AV (fx.bind (fun r => some r)) (fm.bind (fun r => some r)) := by
  obtain ⟨r, h1, h2⟩ := h
  rw [h1, h2]; exact ⟨r, rfl, rfl⟩
theorem q_count (h : PMo N p (p6_now σ) 0) (κ : St5) (ps : St1) (hu : p1_size ps = p6_undos σ) (x1 : Int32) : AV (f_X5_count κ p ps x1) (f_X6_count σ x1) := by
  have hN := h.1
  unfold f_X5_count f_X6_count
  by_cases e0 : x1 = 0
  · subst e0
    rw [if_pos rfl, if_pos rfl, if_pos (by decide)]
    exact av_mk rfl (by rw [h.n, h.2.1])
  rw [if_neg e0, if_neg e0]
  by_cases e1 : x1 = 1
  · subst e1
    rw [if_pos rfl, if_pos rfl, if_pos (by decide)]
    refine av_mk rfl ?_
    have hh : p6_now σ ((1 : Int32).toNatClampNeg) = p2_hour p := h.2.2.2.1.symm
    rw [hh]
  rw [if_neg e1, if_neg e1]
  by_cases e2 : x1 = 2
  · rw [if_pos e2, if_pos e2]
    exact av_bind (av_mk (c_stopped h.2.1 hN) (m_stopped h))
  rw [if_neg e2, if_neg e2]
  by_cases e3 : x1 = 3
  · rw [if_pos e3, if_pos e3]
    exact av_bind (av_turns h)
  rw [if_neg e3, if_neg e3]
  by_cases e4 : x1 = 4
  · rw [if_pos e4, if_pos e4]
    exact av_bind (av_ring h)
  rw [if_neg e4, if_neg e4]
  by_cases e5 : x1 = 5
  · rw [if_pos e5, if_pos e5]
    exact av_bind (av_without h)
  rw [if_neg e5, if_neg e5]
  by_cases e6 : x1 = 6
  · rw [if_pos e6, if_pos e6]
    unfold f_X2_isWindingHour f_X6_isWinding
    have hh : p6_now σ ((1 : Int32).toNatClampNeg) = p2_hour p := h.2.2.2.1.symm
    rw [hh]
    by_cases e8 : p2_hour p - p2_hour p / 8 * 8 = 0
    · rw [if_pos e8]; exact ⟨1, rfl, rfl⟩
    · rw [if_neg e8]; exact ⟨0, rfl, rfl⟩
  rw [if_neg e6, if_neg e6]
  by_cases e7 : x1 = 7
  · rw [if_pos e7, if_pos e7, hu]; exact ⟨_, rfl, rfl⟩
  · rw [if_neg e7, if_neg e7]; exact ⟨_, rfl, rfl⟩
theorem q_of (h : PMo N p (p6_now σ) 0) (κ : St5) (x1 x2 : Int32) : AV (f_X5_of κ p x1 x2) (f_X6_of σ x1 x2) := by
  have hN := h.1
  have hc := h.cp
  unfold f_X5_of f_X6_of
  rcases pq h x1 with ⟨a, ha, rfl, e1, e2⟩ | ⟨e1, e2⟩
  rotate_left
  · rw [bd_eq e1, bd_eq e2, i0, i0]
    exact ⟨_, rfl, rfl⟩
  rw [bd_eq e1, bd_eq e2, i1, i1]
  have hi6 := inB_nI (show a < 6 by omega) (show 6 < 2 ^ 31 by decide)
  have hcl : (nI a).toNatClampNeg = a := nI_clamp (by omega)
  rw [if_pos hi6, if_pos hi6, if_pos hi6, if_pos hi6, hcl]
  rcases inqN x2 0 5 (a' := 0) (b' := 5) (by decide) rfl rfl with ⟨w, -, hw, rfl, e3⟩ | ⟨hx, e3⟩
  · rw [bd_eq e3, i1]
    rcases (show w = 0 ∨ w = 1 ∨ w = 2 ∨ w = 3 ∨ w = 4 ∨ w = 5 by omega) with rfl | rfl | rfl | rfl | rfl | rfl
    · rw [if_pos (show nI 0 = (0 : Int32) from rfl), if_neg (by decide), told_eq σ (show a < 6 by omega) (by decide)]
      refine av_mk rfl ?_
      rw [show 3 + 4 * a + 0 = 3 + 4 * a from rfl, h.kd ha]; rfl
    · rw [if_neg (by decide), if_pos (show nI 1 = (1 : Int32) from rfl), if_neg (by decide), told_eq σ (show a < 6 by omega) (by decide)]
      refine av_mk rfl ?_
      rw [show 3 + 4 * a + 1 = 4 + 4 * a by omega, h.tn ha]; rfl
    · rw [if_neg (by decide), if_neg (by decide), if_pos (show nI 2 = (2 : Int32) from rfl), if_neg (by decide), told_eq σ (show a < 6 by omega) (by decide)]
      refine av_mk rfl ?_
      rw [show 3 + 4 * a + 2 = 5 + 4 * a by omega, h.wd ha]; rfl
    · rw [if_neg (by decide), if_neg (by decide), if_neg (by decide), if_pos (show nI 3 = (3 : Int32) from rfl), if_neg (by decide), told_eq σ (show a < 6 by omega) (by decide)]
      refine av_mk rfl ?_
      rw [show 3 + 4 * a + 3 = 6 + 4 * a by omega, h.ky ha]; rfl
    · rw [if_neg (by decide), if_neg (by decide), if_neg (by decide), if_neg (by decide), if_pos (show nI 4 = (4 : Int32) from rfl), if_pos (by decide), if_pos (show nI 4 = (4 : Int32) from rfl), bd_eq (c_stopped h.2.1 hN)]
      refine av_bind (av_mk (r := rn N p a) ?_ (m_runs h ha))
      rw [c_runsOff h.2.1 hN (stN_64 hN p) (show a < 6 by omega) (hc.2.2 a ha).1 (hc.2.2 a ha).2.2.1, rn_A hc ha]
    · rw [if_neg (by decide), if_neg (by decide), if_neg (by decide), if_neg (by decide), if_neg (by decide), if_pos (show nI 5 = (5 : Int32) from rfl), if_pos (by decide), if_neg (by decide)]
      exact av_bind (av_mk (c_woundBy h.2.1 hN _) (m_windersOf h _))
  · rw [bd_eq e3, i0]
    have ne : ∀ v, v ≤ 5 → ¬ x2 = nI v := by
      intro v hv c
      subst c
      rcases hx with q | q
      · exact nI_nlt (a := v) (b := 0) (Nat.zero_le _) (by omega) q
      · exact nI_nlt (a := 5) (b := v) hv (by decide) q
    rw [if_neg (show ¬ x2 = (0 : Int32) from ne 0 (by decide)), if_neg (show ¬ x2 = (1 : Int32) from ne 1 (by decide)), if_neg (show ¬ x2 = (2 : Int32) from ne 2 (by decide)), if_neg (show ¬ x2 = (3 : Int32) from ne 3 (by decide)), if_neg (show ¬ x2 = (4 : Int32) from ne 4 (by decide)), if_neg (show ¬ x2 = (5 : Int32) from ne 5 (by decide))]
    exact ⟨_, rfl, rfl⟩
theorem q_chain (h : PMo N p (p6_now σ) 0) (κ : St5) (x1 x2 : Int32) : AV (f_X5_chain κ p x1 x2) (f_X6_chain σ x1 x2) := by
  have hN := h.1
  have hc := h.cp
  unfold f_X5_chain f_X6_chain
  rcases pq h x1 with ⟨a, ha, rfl, e1, e2⟩ | ⟨e1, e2⟩
  rotate_left
  · rw [bd_eq e1, bd_eq e2, i0, i0]
    exact ⟨_, rfl, rfl⟩
  rw [bd_eq e1, bd_eq e2, i1, i1]
  rcases inqN x2 0 1 (a' := 0) (b' := 1) (by decide) rfl rfl with ⟨w, -, hw, rfl, e3⟩ | ⟨hx, e3⟩
  rotate_left
  · rw [bd_eq e3, i0]
    exact av_mk (r := -1) (gd1 hx) rfl
  rw [bd_eq e3, i1, if_neg (show ¬ nI w < (0 : Int32) from nI_pos (by omega)), if_pos (show nI w ≤ (1 : Int32) from nI_le (b := 1) hw (by decide))]
  by_cases h0 : nI w = 0
  · rw [if_pos h0, if_pos h0]
    exact av_bind (av_mk (c_behind hc ha) (m_behind h ha))
  rw [if_neg h0, if_neg h0]
  refine av_mk (r := nI (bset (fun i => (decide (i = a) || (bhN N p i).testBit a) && decide (nI (wbN N p (nI i)) = 0)) N)) ?_ ?_
  · unfold f_X2_heads
    rw [show ∀ {x : Option (Int32 × Int32)}, ((x.bind (fun q12 => some q12.1)).bind (fun r6 => some r6)) = x.bind (fun q12 => some q12.1) from fun {x} => by cases x <;> rfl]
    refine ok_eq (ok_b (P := fun q => q.1 = nI (bset (fun i => (decide (i = a) || (bhN N p i).testBit a) && decide (nI (wbN N p (nI i)) = 0)) N)) ?_ (fun q hq => ok_s hq))
    refine lpG (fun m z s => lp_X2_heads_4 p (nI a) m s z) N (by omega) (fun k s => s = nI (bset (fun i => (decide (i = a) || (bhN N p i).testBit a) && decide (nI (wbN N p (nI i)) = 0)) k)) _ (fun m z s => rfl) (fun _ _ _ => h.2.1) (fun s hs => ok_s hs) (fun m k s hk hs ih => ?_) 0 rfl
    have wb : (decide (k = a) || (bhN N p k).testBit a) = true → ok (fun q => q.1 = nI (bset (fun i => (decide (i = a) || (bhN N p i).testBit a) && decide (nI (wbN N p (nI i)) = 0)) N)) ((f_X2_woundBy p (nI k)).bind (fun r4 => (if r4 = 0 then lp_X2_heads_4 p (nI a) m (s ||| (1 <<< (nI k &&& 31))) (nI k + 1) else lp_X2_heads_4 p (nI a) m (s ||| 0) (nI k + 1)))) := by
      intro ht
      rw [bd_eq (c_woundBy h.2.1 hN _)]
      by_cases e : nI (wbN N p (nI k)) = 0
      · rw [if_pos e]
        exact ih _ (bs_y hs (by omega) (by rw [ht, decide_eq_true e]; rfl))
      · rw [if_neg e]
        exact ih _ (bs_n hs (by rw [decide_eq_false e, Bool.and_false]))
    by_cases e : k = a
    · rw [if_pos (by rw [e])]
      exact wb (by rw [decide_eq_true e, Bool.true_or])
    · rw [if_neg (fun q => e ((nI_eq (by omega) (by omega)).mp q)), bd_eq (c_behind hc hk)]
      cases ht : (bhN N p k).testBit a
      · rw [if_pos ((bit_and _ (bh_lt hc hk) a (by omega)).mpr ht)]
        exact ih _ (bs_n hs (by rw [decide_eq_false e, ht]; rfl))
      · rw [if_neg (fun q => by rw [(bit_and _ (bh_lt hc hk) a (by omega)).mp q] at ht; cases ht)]
        exact wb (by rw [ht, Bool.or_true])
  · refine ok_eq (ok_b (P := fun q => q.1 = nI (bset (fun i => (decide (i = a) || (bhN N p i).testBit a) && decide (nI (wbN N p (nI i)) = 0)) N)) ?_ (fun q hq => ok_s hq))
    refine lpG (fun m z s => lp_X6_chain_35 σ (nI a) m s z) N (by omega) (fun k s => s = nI (bset (fun i => (decide (i = a) || (bhN N p i).testBit a) && decide (nI (wbN N p (nI i)) = 0)) k)) _ (fun m z s => rfl) (fun _ _ _ => h.n) (fun s hs => ok_s hs) (fun m k s hk hs ih => ?_) 0 rfl
    have wb : (decide (k = a) || (bhN N p k).testBit a) = true → ok (fun q => q.1 = nI (bset (fun i => (decide (i = a) || (bhN N p i).testBit a) && decide (nI (wbN N p (nI i)) = 0)) N)) ((f_X6_windersOf σ (nI k)).bind (fun r4 => (if r4 = 0 then lp_X6_chain_35 σ (nI a) m (s ||| (1 <<< (nI k &&& 31))) (nI k + 1) else lp_X6_chain_35 σ (nI a) m (s ||| 0) (nI k + 1)))) := by
      intro ht
      rw [bd_eq (m_windersOf h _)]
      by_cases e : nI (wbN N p (nI k)) = 0
      · rw [if_pos e]
        exact ih _ (bs_y hs (by omega) (by rw [ht, decide_eq_true e]; rfl))
      · rw [if_neg e]
        exact ih _ (bs_n hs (by rw [decide_eq_false e, Bool.and_false]))
    by_cases e : k = a
    · rw [if_pos (by rw [e])]
      exact wb (by rw [decide_eq_true e, Bool.true_or])
    · rw [if_neg (fun q => e ((nI_eq (by omega) (by omega)).mp q)), bd_eq (m_behind h hk)]
      cases ht : (bhN N p k).testBit a
      · rw [if_neg (fun q => by rw [(bit_shr1 _ (bh_lt hc hk) a (by omega)).mp q] at ht; cases ht)]
        exact ih _ (bs_n hs (by rw [decide_eq_false e, ht]; rfl))
      · rw [if_pos ((bit_shr1 _ (bh_lt hc hk) a (by omega)).mpr ht)]
        exact wb (by rw [ht, Bool.or_true])
end
