/-! THE FULL RELATION: people of one moment -/
noncomputable def bset (P : Nat → Bool) : Nat → Nat
  | 0 => 0
  | k + 1 => bset P k ||| (if P k = true then 2 ^ k else 0)
theorem bset_lt (P : Nat → Bool) : ∀ k, bset P k < 2 ^ k := by
  intro k
  induction k with
  | zero => exact Nat.lt_of_lt_of_le (by decide : 0 < 1) (Nat.le_refl _)
  | succ k ih =>
    show bset P k ||| (if P k = true then 2 ^ k else 0) < 2 ^ (k + 1)
    have h2 : (2 : Nat) ^ k < 2 ^ (k + 1) := Nat.pow_lt_pow_right (by decide) (Nat.lt_succ_self k)
    refine Nat.or_lt_two_pow (Nat.lt_trans ih h2) ?_
    by_cases h : P k = true
    · rw [if_pos h]; exact h2
    · rw [if_neg h]; exact Nat.lt_of_le_of_lt (Nat.zero_le _) h2
theorem bset_bit (P : Nat → Bool) : ∀ k j, j < k → (bset P k).testBit j = P j := by
  intro k
  induction k with
  | zero => intro j h; omega
  | succ k ih =>
    intro j hj
    show (bset P k ||| (if P k = true then 2 ^ k else 0)).testBit j = P j
    rw [Nat.testBit_or]
    by_cases e : j = k
    · subst e
      rw [Nat.testBit_lt_two_pow (bset_lt P j)]
      by_cases h : P j = true
      · rw [if_pos h, Nat.testBit_two_pow_self, h]; rfl
      · rw [if_neg h, Nat.zero_testBit]
        cases hp : P j
        · rfl
        · exact absurd hp h
    · rw [ih j (by omega)]
      by_cases h : P k = true
      · rw [if_pos h, Nat.testBit_two_pow_of_ne (by omega), Bool.or_false]
      · rw [if_neg h, Nat.zero_testBit, Bool.or_false]
theorem bset_64 (P : Nat → Bool) {k : Nat} (h : k ≤ 6) : bset P k < 64 := Nat.lt_of_lt_of_le (bset_lt P k) (Nat.pow_le_pow_right (by decide) h)
theorem bset_cg {P Q : Nat → Bool} : ∀ k, (∀ i, i < k → P i = Q i) → bset P k = bset Q k := by
  intro k
  induction k with
  | zero => intro _; rfl
  | succ k ih =>
    intro h
    show bset P k ||| (if P k = true then 2 ^ k else 0) = bset Q k ||| (if Q k = true then 2 ^ k else 0)
    rw [ih (fun i hi => h i (by omega)), h k (by omega)]
theorem bit_and : ∀ A, A < 64 → ∀ j, j < 6 → ((nI A &&& ((1 : Int32) <<< (nI j &&& 31))) = 0 ↔ A.testBit j = false) := by decide +kernel
theorem bit_shr : ∀ A, A < 64 → ∀ j, j < 6 → (((nI A >>> (nI j &&& 31)) &&& 1) = 0 ↔ A.testBit j = false) := by decide +kernel
theorem bs_y {P : Nat → Bool} {k : Nat} {a : Int32} (h : a = nI (bset P k)) (hk : k < 7) (hp : P k = true) : a ||| ((1 : Int32) <<< (nI k &&& 31)) = nI (bset P (k + 1)) := by
  rw [h, sh1 k hk, nI_or]
  show _ = nI (bset P k ||| (if P k = true then 2 ^ k else 0))
  rw [if_pos hp]
theorem bs_n {P : Nat → Bool} {k : Nat} {a : Int32} (h : a = nI (bset P k)) (hp : P k = false) : a ||| 0 = nI (bset P (k + 1)) := by
  rw [h]
  show _ = nI (bset P k ||| (if P k = true then 2 ^ k else 0))
  rw [if_neg (by rw [hp]; decide), Nat.or_zero]
  exact Int32.or_zero
theorem ok_eq {α : Type} {x : Option α} {v : α} (h : ok (fun r => r = v) x) : x = some v := by
  obtain ⟨a, e, rfl⟩ := h
  exact e
theorem eq_ok {α : Type} {x : Option α} {v : α} (h : x = some v) : ok (fun r => r = v) x := ⟨v, h, rfl⟩
theorem ok_and {α : Type} {P Q : α → Prop} {x : Option α} (h1 : ok P x) (h2 : ok Q x) : ok (fun a => P a ∧ Q a) x := by
  obtain ⟨a, e, h⟩ := h1
  obtain ⟨b, e', h'⟩ := h2
  rw [e] at e'
  cases Option.some.inj e'
  exact ⟨a, e, h, h'⟩
/-- bind of a known answer -/
theorem bd_eq {α β : Type} {x : Option α} {v : α} {f : α → Option β} (h : x = some v) : x.bind f = f v := by rw [h]; rfl
/-- one person, as the class and as the reference have him -/
noncomputable def PI (N : Nat) (p : St2) (f : Nat → Int32) (b i : Nat) : Prop := p2_kinds p i = f (b + 3 + 4 * i) ∧ p2_turns p i = f (b + 4 + 4 * i) ∧ p2_winds p i = f (b + 5 + 4 * i) ∧ p2_keys p i = f (b + 6 + 4 * i) ∧ rg (p2_kinds p i) 5 ∧ rg (p2_turns p i) 31 ∧ (p2_winds p i = -4 ∨ rg (p2_winds p i) N) ∧ rg (p2_keys p i) 13
/-- a moment, as the class and as the reference have it -/
noncomputable def PMo (N : Nat) (p : St2) (f : Nat → Int32) (b : Nat) : Prop := N ≤ 6 ∧ p2_size p = nI N ∧ f b = nI N ∧ p2_hour p = f (b + 1) ∧ p2_draw p = f (b + 2) ∧ ∀ i, i < N → PI N p f b i
theorem PMo.cg {N : Nat} {p : St2} {f g : Nat → Int32} {b c : Nat} (h : PMo N p f b) (e : ∀ i, i < 27 → f (b + i) = g (c + i)) : PMo N p g c := by
  obtain ⟨h1, h2, h3, h4, h5, h6⟩ := h
  have e0 := e 0 (by decide)
  rw [Nat.add_zero, Nat.add_zero] at e0
  refine ⟨h1, h2, by rw [← e0]; exact h3, by rw [← e 1 (by decide)]; exact h4, by rw [← e 2 (by decide)]; exact h5, fun i hi => ?_⟩
  obtain ⟨a1, a2, a3, a4, a5⟩ := h6 i hi
  have x3 := e (3 + 4 * i) (by omega)
  have x4 := e (4 + 4 * i) (by omega)
  have x5 := e (5 + 4 * i) (by omega)
  have x6 := e (6 + 4 * i) (by omega)
  rw [← Nat.add_assoc, ← Nat.add_assoc] at x3 x4 x5 x6
  exact ⟨a1.trans x3, a2.trans x4, a3.trans x5, a4.trans x6, a5⟩
section
variable {N : Nat} {p : St2} {σ : St6}
theorem PMo.n (h : PMo N p (p6_now σ) 0) : p6_now σ ((0 : Int32).toNatClampNeg) = nI N := h.2.2.1
theorem PMo.kd (h : PMo N p (p6_now σ) 0) {i : Nat} (hi : i < N) : p6_now σ (3 + 4 * i) = p2_kinds p i := by
  have := (h.2.2.2.2.2 i hi).1
  rw [Nat.zero_add] at this; exact this.symm
theorem PMo.tn (h : PMo N p (p6_now σ) 0) {i : Nat} (hi : i < N) : p6_now σ (4 + 4 * i) = p2_turns p i := by
  have := (h.2.2.2.2.2 i hi).2.1
  rw [Nat.zero_add] at this; exact this.symm
theorem PMo.wd (h : PMo N p (p6_now σ) 0) {i : Nat} (hi : i < N) : p6_now σ (5 + 4 * i) = p2_winds p i := by
  have := (h.2.2.2.2.2 i hi).2.2.1
  rw [Nat.zero_add] at this; exact this.symm
theorem PMo.ky (h : PMo N p (p6_now σ) 0) {i : Nat} (hi : i < N) : p6_now σ (6 + 4 * i) = p2_keys p i := by
  have := (h.2.2.2.2.2 i hi).2.2.2.1
  rw [Nat.zero_add] at this; exact this.symm
theorem PMo.turns (h : PMo N p (p6_now σ) 0) {i : Nat} (hi : i < N) : f_X6_turns σ (nI i) = some (p2_turns p i) := by
  rw [turns_eq σ (by have := h.1; omega), h.tn hi]
theorem PMo.whom (h : PMo N p (p6_now σ) 0) {i : Nat} (hi : i < N) : f_X6_whom σ (nI i) = some (p2_winds p i) := by
  rw [whom_eq σ (by have := h.1; omega), h.wd hi]
theorem PMo.stop (h : PMo N p (p6_now σ) 0) {i : Nat} (hi : i < N) : f_X6_isStopped σ (nI i) = some (if p2_turns p i = 0 then 1 else 0) := by
  rw [stop_eq σ (by have := h.1; omega), h.tn hi]
theorem PMo.kind (h : PMo N p (p6_now σ) 0) {i : Nat} (hi : i < N) : f_X6_told σ (nI i) 0 = some (p2_kinds p i) := by
  rw [show (0 : Int32) = nI 0 from rfl, told_eq σ (by have := h.1; omega) (by decide), Nat.add_zero, h.kd hi]
theorem PMo.key (h : PMo N p (p6_now σ) 0) {i : Nat} (hi : i < N) : f_X6_told σ (nI i) 3 = some (p2_keys p i) := by
  rw [show (3 : Int32) = nI 3 from rfl, told_eq σ (by have := h.1; omega) (by decide), show 3 + 4 * i + 3 = 6 + 4 * i by omega, h.ky hi]
/-- who is stopped -/
noncomputable def stN (N : Nat) (p : St2) : Nat := bset (fun i => decide (p2_turns p i = 0)) N
/-- who winds x -/
noncomputable def wbN (N : Nat) (p : St2) (x : Int32) : Nat := bset (fun q => decide (p2_winds p q = x)) N
theorem c_stop {i : Nat} (hi : i < 6) : f_X2_isStopped p (nI i) = some (if p2_turns p i = 0 then 1 else 0) := by
  unfold f_X2_isStopped
  rw [if_pos (inB_nI hi (by decide)), nI_clamp (by omega)]
  by_cases h : p2_turns p i = 0
  · rw [if_pos h, if_pos h]
  · rw [if_neg h, if_neg h]
theorem c_stopped (hs : p2_size p = nI N) (hN : N ≤ 6) : f_X2_stopped p = some (nI (stN N p)) := by
  unfold f_X2_stopped
  refine ok_eq (ok_b (P := fun q => q.1 = nI (stN N p)) ?_ (fun q hq => ok_s hq))
  refine lpG (fun n z a => lp_X2_stopped_4 p n a z) N (by omega) (fun k a => a = nI (bset (fun i => decide (p2_turns p i = 0)) k)) _ (fun n z s => rfl) (fun _ _ _ => hs) (fun s hs => ok_s hs) (fun n k s hk hs ih => ?_) 0 rfl
  rw [bd_eq (c_stop (by omega))]
  by_cases h : p2_turns p k = 0
  · rw [if_pos h, if_neg (by decide)]
    exact ih _ (bs_y hs (by omega) (decide_eq_true h))
  · rw [if_neg h, if_pos rfl]
    exact ih _ (bs_n hs (decide_eq_false h))
theorem m_stopped (h : PMo N p (p6_now σ) 0) : f_X6_stopped σ = some (nI (stN N p)) := by
  unfold f_X6_stopped
  have hN := h.1
  refine ok_eq (ok_b (P := fun q => q.1 = nI (stN N p)) ?_ (fun q hq => ok_s hq))
  refine lpG (fun n z a => lp_X6_stopped_4 σ n a z) N (by omega) (fun k a => a = nI (bset (fun i => decide (p2_turns p i = 0)) k)) _ (fun n z s => rfl) (fun _ _ _ => h.n) (fun s hs => ok_s hs) (fun n k s hk hs ih => ?_) 0 rfl
  rw [bd_eq (h.stop hk)]
  by_cases h : p2_turns p k = 0
  · rw [if_pos h, if_neg (by decide)]
    exact ih _ (bs_y hs (by omega) (decide_eq_true h))
  · rw [if_neg h, if_pos rfl]
    exact ih _ (bs_n hs (decide_eq_false h))
theorem c_woundBy (hs : p2_size p = nI N) (hN : N ≤ 6) (x : Int32) : f_X2_woundBy p x = some (nI (wbN N p x)) := by
  unfold f_X2_woundBy
  refine ok_eq (ok_b (P := fun q => q.1 = nI (wbN N p x)) ?_ (fun q hq => ok_s hq))
  refine lpG (fun n z a => lp_X2_woundBy_4 p x n a z) N (by omega) (fun k a => a = nI (bset (fun q => decide (p2_winds p q = x)) k)) _ (fun n z s => rfl) (fun _ _ _ => hs) (fun s hs => ok_s hs) (fun n k s hk hs ih => ?_) 0 rfl
  rw [if_pos (inB_nI (show k < 6 by omega) (by decide)), nI_clamp (by omega)]
  by_cases h : p2_winds p k = x
  · rw [if_pos h]
    exact ih _ (bs_y hs (by omega) (decide_eq_true h))
  · rw [if_neg h]
    exact ih _ (bs_n hs (decide_eq_false h))
theorem m_windersOf (h : PMo N p (p6_now σ) 0) (x : Int32) : f_X6_windersOf σ x = some (nI (wbN N p x)) := by
  unfold f_X6_windersOf
  have hN := h.1
  refine ok_eq (ok_b (P := fun q => q.1 = nI (wbN N p x)) ?_ (fun q hq => ok_s hq))
  refine lpG (fun n z a => lp_X6_windersOf_4 σ x n a z) N (by omega) (fun k a => a = nI (bset (fun q => decide (p2_winds p q = x)) k)) _ (fun n z s => rfl) (fun _ _ _ => h.n) (fun s hs => ok_s hs) (fun n k s hk hs ih => ?_) 0 rfl
  rw [bd_eq (h.whom hk)]
  by_cases h : p2_winds p k = x
  · rw [if_pos h]
    exact ih _ (bs_y hs (by omega) (decide_eq_true h))
  · rw [if_neg h]
    exact ih _ (bs_n hs (decide_eq_false h))
theorem c_has (hs : p2_size p = nI N) (hN : N ≤ 6) {w : Int32} (hw : w = -4 ∨ rg w N) : f_X2_has p w = some (if w = -4 then 0 else 1) := by
  unfold f_X2_has
  rcases hw with e | ⟨j, hj, e⟩
  · subst e
    rw [if_pos (by decide), if_pos rfl]
  · subst e
    rw [if_neg (nI_pos (by omega)), hs, if_neg (nI_ge hj (by omega)), if_neg (fun q => by
      have := nI_toInt (n := j) (by omega)
      rw [q] at this
      have h4 : (-4 : Int32).toInt = -4 := rfl
      omega)]
end
-- what runs off
noncomputable def cc (h : Int32) : Int32 := if h - h / 2 * 2 = 0 then 2 else 1
noncomputable def td (h : Int32) : Int32 := if h - h / 3 * 3 = 0 then 0 else 1
noncomputable def rnV (h kd : Int32) (st ws nw : Bool) : Int32 := if st = true then 0 else if kd = 0 then 1 else if kd = 1 then cc h else if kd = 2 then td h else if kd = 3 then cc h + (if ws = true then 2 else 0) else (if nw = true then 2 * td h else td h)
theorem cc_rg (h : Int32) : cc h = 1 ∨ cc h = 2 := by
  unfold cc
  by_cases e : h - h / 2 * 2 = 0
  · rw [if_pos e]; exact Or.inr rfl
  · rw [if_neg e]; exact Or.inl rfl
theorem td_rg (h : Int32) : td h = 0 ∨ td h = 1 := by
  unfold td
  by_cases e : h - h / 3 * 3 = 0
  · rw [if_pos e]; exact Or.inl rfl
  · rw [if_neg e]; exact Or.inr rfl
theorem rn_rg (h kd : Int32) (st ws nw : Bool) : rg (rnV h kd st ws nw) 5 := by
  unfold rnV
  by_cases h1 : st = true
  · rw [if_pos h1]; exact ⟨0, by decide, rfl⟩
  rw [if_neg h1]
  by_cases h2 : kd = 0
  · rw [if_pos h2]; exact ⟨1, by decide, rfl⟩
  rw [if_neg h2]
  by_cases h3 : kd = 1
  · rw [if_pos h3]
    rcases cc_rg h with e | e <;> rw [e]
    · exact ⟨1, by decide, rfl⟩
    · exact ⟨2, by decide, rfl⟩
  rw [if_neg h3]
  by_cases h4 : kd = 2
  · rw [if_pos h4]
    rcases td_rg h with e | e <;> rw [e]
    · exact ⟨0, by decide, rfl⟩
    · exact ⟨1, by decide, rfl⟩
  rw [if_neg h4]
  by_cases h5 : kd = 3
  · rw [if_pos h5]
    by_cases h6 : ws = true
    · rw [if_pos h6]
      rcases cc_rg h with e | e <;> rw [e]
      · exact ⟨3, by decide, rfl⟩
      · exact ⟨4, by decide, rfl⟩
    · rw [if_neg h6]
      rcases cc_rg h with e | e <;> rw [e]
      · exact ⟨1, by decide, rfl⟩
      · exact ⟨2, by decide, rfl⟩
  rw [if_neg h5]
  by_cases h6 : nw = true
  · rw [if_pos h6]
    rcases td_rg h with e | e <;> rw [e]
    · exact ⟨0, by decide, rfl⟩
    · exact ⟨2, by decide, rfl⟩
  · rw [if_neg h6]
    rcases td_rg h with e | e <;> rw [e]
    · exact ⟨0, by decide, rfl⟩
    · exact ⟨1, by decide, rfl⟩
theorem c_concern (p : St2) : f_X2_runsConcern p = some (cc (p2_hour p)) := by
  unfold f_X2_runsConcern cc
  by_cases e : p2_hour p - p2_hour p / 2 * 2 = 0
  · rw [if_pos e, if_pos e]
  · rw [if_neg e, if_neg e]
theorem c_tender (p : St2) : f_X2_runsTender p = some (td (p2_hour p)) := by
  unfold f_X2_runsTender td
  by_cases e : p2_hour p - p2_hour p / 3 * 3 = 0
  · rw [if_pos e, if_pos e]
  · rw [if_neg e, if_neg e]
/-- whom one winds is stopped -/
noncomputable def wsB (p : St2) (A : Nat) (i : Nat) : Bool := decide (¬ p2_winds p i = -4) && A.testBit (p2_winds p i).toNatClampNeg
theorem c_windsOneOf {N : Nat} {p : St2} (hN : N ≤ 6) {A : Nat} (hA : A < 64) {i : Nat} (hi : i < 6) (hw : p2_winds p i = -4 ∨ rg (p2_winds p i) N) : f_X2_windsOneOf p (nI i) (nI A) = some (if wsB p A i = true then 1 else 0) := by
  unfold f_X2_windsOneOf wsB
  rw [if_pos (inB_nI hi (by decide)), if_pos (inB_nI hi (by decide)), nI_clamp (by omega)]
  by_cases e : p2_winds p i = -4
  · rw [if_pos e, decide_eq_false (fun q => q e)]; rfl
  · rw [if_neg e, decide_eq_true e]
    obtain ⟨j, hj, ej⟩ := hw.resolve_left e
    rw [ej, nI_clamp (by omega), Bool.true_and]
    have hb := bit_and A hA j (by omega)
    cases ht : A.testBit j
    · rw [if_pos (hb.mpr ht)]; rfl
    · rw [if_neg (fun q => by rw [hb.mp q] at ht; cases ht)]; rfl
theorem c_runsOff {N : Nat} {p : St2} (hs : p2_size p = nI N) (hN : N ≤ 6) {A : Nat} (hA : A < 64) {i : Nat} (hi : i < 6) (hk : rg (p2_kinds p i) 5) (hw : p2_winds p i = -4 ∨ rg (p2_winds p i) N) : f_X2_runsOff p (nI i) (nI A) = some (rnV (p2_hour p) (p2_kinds p i) (A.testBit i) (wsB p A i) (decide (nI (wbN N p (nI i)) = 0))) := by
  unfold f_X2_runsOff rnV
  have hb := bit_and A hA i hi
  cases ht : A.testBit i
  · rw [if_pos (hb.mpr ht), if_pos (inB_nI hi (by decide)), nI_clamp (by omega), if_neg (show ¬ false = true by decide)]
    obtain ⟨k, hk5, ek⟩ := hk
    rw [ek]
    rcases (show k = 0 ∨ k = 1 ∨ k = 2 ∨ k = 3 ∨ k = 4 by omega) with rfl | rfl | rfl | rfl | rfl
    · rfl
    · rw [if_pos (show nI 1 = (1 : Int32) from rfl), bd_eq (c_concern p)]; rfl
    · rw [if_neg (by decide), if_pos (show nI 2 = (2 : Int32) from rfl), bd_eq (c_tender p)]; rfl
    · rw [if_neg (by decide), if_neg (by decide), if_pos (show nI 3 = (3 : Int32) from rfl), bd_eq (c_concern p), bd_eq (c_windsOneOf hN hA hi hw)]
      cases hws : wsB p A i
      · rfl
      · rfl
    · rw [if_neg (by decide), if_neg (by decide), if_neg (by decide), if_pos (show nI 4 = (4 : Int32) from rfl), bd_eq (c_tender p), bd_eq (c_woundBy hs hN _)]
      by_cases hz : nI (wbN N p (nI i)) = 0
      · rw [if_pos hz, decide_eq_true hz, if_neg (by decide), if_neg (by decide), if_neg (by decide), if_neg (by decide), if_pos rfl]
        rcases td_rg (p2_hour p) with e | e <;> rw [e] <;> rfl
      · rw [if_neg hz, decide_eq_false hz, if_neg (by decide), if_neg (by decide), if_neg (by decide), if_neg (by decide), if_neg (by decide)]
        rcases td_rg (p2_hour p) with e | e <;> rw [e] <;> rfl
  · rw [if_neg (fun q => by rw [hb.mp q] at ht; cases ht), if_pos rfl]
/-- what runs off of i -/
noncomputable def rn (N : Nat) (p : St2) (i : Nat) : Int32 := rnV (p2_hour p) (p2_kinds p i) (decide (p2_turns p i = 0)) (decide (¬ p2_winds p i = -4) && decide (p2_turns p (p2_winds p i).toNatClampNeg = 0)) (decide (nI (wbN N p (nI i)) = 0))
theorem m_runs {N : Nat} {p : St2} {σ : St6} (h : PMo N p (p6_now σ) 0) {i : Nat} (hi : i < N) : f_X6_runs σ (nI i) = some (rn N p i) := by
  have hN := h.1
  have hh : p6_now σ ((1 : Int32).toNatClampNeg) = p2_hour p := h.2.2.2.1.symm
  obtain ⟨_, _, _, _, hk, _, hw, _⟩ := h.2.2.2.2.2 i hi
  have key : ∀ (C D : Int32), (C = cc (p2_hour p)) → (D = td (p2_hour p)) → ((f_X6_isStopped σ (nI i)).bind (fun r46 => (if r46 = 0 then ((f_X6_told σ (nI i) 0).bind (fun r48 => (if r48 = 0 then some 1 else (if r48 = 1 then some C else (if r48 = 2 then some D else (if r48 = 3 then ((f_X6_whom σ (nI i)).bind (fun r53 => (if r53 = (-4) then some (C + 0) else ((f_X6_whom σ (nI i)).bind (fun r55 => ((f_X6_isStopped σ r55).bind (fun r56 => (if r56 = 0 then some (C + 0) else some (C + 2))))))))) else ((f_X6_windersOf σ (nI i)).bind (fun r58 => (if r58 = 0 then some (2 * D) else some D))))))))) else some 0))) = some (rn N p i) := by
    intro C D hC hD
    rw [bd_eq (h.stop hi)]
    unfold rn rnV
    by_cases ht : p2_turns p i = 0
    · rw [if_pos ht, if_neg (by decide), decide_eq_true ht, if_pos rfl]
    rw [if_neg ht, if_pos rfl, decide_eq_false ht, if_neg (show ¬ false = true by decide), bd_eq (h.kind hi)]
    obtain ⟨k, hk5, ek⟩ := hk
    rw [ek, ← hC, ← hD]
    rcases (show k = 0 ∨ k = 1 ∨ k = 2 ∨ k = 3 ∨ k = 4 by omega) with rfl | rfl | rfl | rfl | rfl
    · rfl
    · rfl
    · rfl
    · rw [if_neg (by decide), if_neg (by decide), if_neg (by decide), if_pos (show nI 3 = (3 : Int32) from rfl), if_neg (by decide), if_neg (by decide), if_neg (by decide), if_pos (show nI 3 = (3 : Int32) from rfl), bd_eq (h.whom hi)]
      by_cases e : p2_winds p i = -4
      · rw [if_pos e, decide_eq_false (fun q => q e)]; rfl
      · rw [if_neg e, bd_eq (h.whom hi), decide_eq_true e]
        obtain ⟨j, hj, ej⟩ := hw.resolve_left e
        rw [ej, bd_eq (h.stop hj), nI_clamp (by omega)]
        by_cases hz : p2_turns p j = 0
        · rw [if_pos hz, decide_eq_true hz]; rfl
        · rw [if_neg hz, decide_eq_false hz]; rfl
    · rw [if_neg (by decide), if_neg (by decide), if_neg (by decide), if_neg (by decide), if_neg (by decide), if_neg (by decide), if_neg (by decide), if_neg (by decide), bd_eq (m_windersOf h _)]
      by_cases hz : nI (wbN N p (nI i)) = 0
      · rw [if_pos hz, decide_eq_true hz]; rfl
      · rw [if_neg hz, decide_eq_false hz]; rfl
  unfold f_X6_runs
  rw [hh]
  by_cases e2 : p2_hour p - p2_hour p / 2 * 2 = 0
  · rw [if_pos e2]
    have hC : (2 : Int32) = cc (p2_hour p) := by unfold cc; rw [if_pos e2]
    by_cases e3 : p2_hour p - p2_hour p / 3 * 3 = 0
    · rw [if_pos e3]
      exact key 2 0 hC (by unfold td; rw [if_pos e3])
    · rw [if_neg e3]
      exact key 2 1 hC (by unfold td; rw [if_neg e3])
  · rw [if_neg e2]
    have hC : (1 : Int32) = cc (p2_hour p) := by unfold cc; rw [if_neg e2]
    by_cases e3 : p2_hour p - p2_hour p / 3 * 3 = 0
    · rw [if_pos e3]
      exact key 1 0 hC (by unfold td; rw [if_pos e3])
    · rw [if_neg e3]
      exact key 1 1 hC (by unfold td; rw [if_neg e3])
