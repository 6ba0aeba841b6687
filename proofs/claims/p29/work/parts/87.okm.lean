/-! THE REFERENCE'S FUNCTIONS COME TO AN ANSWER -/
theorem fb_rng (x : Int32) : -2147483648 ≤ x.toInt ∧ x.toInt < 2147483648 := by
  have h1 := Int32.le_toInt x
  have h2 := Int32.toInt_lt x
  omega
theorem fb_bmod {z : Int} (h1 : -2147483648 ≤ z) (h2 : z < 2147483648) : z.bmod (2 ^ 32) = z := by
  rw [Int.bmod_eq_of_le (by omega) (by omega)]
theorem fb_addI {x y : Int32} (h1 : -2147483648 ≤ x.toInt + y.toInt) (h2 : x.toInt + y.toInt < 2147483648) : (x + y).toInt = x.toInt + y.toInt := by
  rw [Int32.toInt_add, fb_bmod h1 h2]
theorem fb_subI {x y : Int32} (h1 : -2147483648 ≤ x.toInt - y.toInt) (h2 : x.toInt - y.toInt < 2147483648) : (x - y).toInt = x.toInt - y.toInt := by
  rw [Int32.toInt_sub, fb_bmod h1 h2]
theorem in_eq (x lo hi : Int64) : f_X6_in x lo hi = some (if lo.toInt ≤ x.toInt ∧ x.toInt ≤ hi.toInt then 1 else 0) := by
  unfold f_X6_in lg_cmp
  simp only [gt_iff_lt, Int64.lt_iff_toInt_lt, ← Int64.toInt_inj]
  by_cases h1 : lo.toInt < x.toInt
  · rw [if_pos h1, if_neg (by decide)]
    by_cases h2 : hi.toInt < x.toInt
    · rw [if_pos h2, if_pos (by decide), if_neg (by omega)]
    · rw [if_neg h2]
      by_cases h3 : x.toInt = hi.toInt
      · rw [if_pos h3, if_neg (by decide), if_pos (by omega)]
      · rw [if_neg h3, if_neg (by decide), if_pos (by omega)]
  · rw [if_neg h1]
    by_cases h2 : x.toInt = lo.toInt
    · rw [if_pos h2, if_neg (by decide)]
      by_cases h3 : hi.toInt < x.toInt
      · rw [if_pos h3, if_pos (by decide), if_neg (by omega)]
      · rw [if_neg h3]
        by_cases h4 : x.toInt = hi.toInt
        · rw [if_pos h4, if_neg (by decide), if_pos (by omega)]
        · rw [if_neg h4, if_neg (by decide), if_pos (by omega)]
    · rw [if_neg h2, if_pos (by decide), if_neg (by omega)]
theorem w64 (x : Int32) : x.toInt64.toInt = x.toInt := by simp
theorem ok_in (x lo hi : Int64) : ok (fun r => r = 0 ∨ (r = 1 ∧ lo.toInt ≤ x.toInt ∧ x.toInt ≤ hi.toInt)) (f_X6_in x lo hi) := by
  rw [in_eq]
  refine ok_s ?_
  by_cases h : lo.toInt ≤ x.toInt ∧ x.toInt ≤ hi.toInt
  · rw [if_pos h]; exact Or.inr ⟨rfl, h⟩
  · rw [if_neg h]; exact Or.inl rfl
theorem rg_int {x : Int32} {n : Nat} (h0 : 0 ≤ x.toInt) (h1 : x.toInt ≤ n) (hn : n < 2 ^ 31) : rg x (n + 1) := by
  have h : ¬ x < 0 := fun h => by have := Int32.lt_iff_toInt_lt.mp h; simp at this; omega
  obtain ⟨j, hj, e⟩ := nI_of h
  subst e
  rw [nI_toInt hj] at h1
  exact ⟨j, by omega, rfl⟩
/-- whom one winds: nobody, or one of six -/
noncomputable def wk (v : Int32) : Prop := v = -4 ∨ rg v 6
/-- a moment that stands in a row from place b on -/
noncomputable def gd (f : Nat → Int32) (b : Nat) : Prop := rg (f b) 7 ∧ ∀ p, p < 6 → wk (f (b + 5 + 4 * p))
/-- what holds of the reference between calls; t: how many letters; ln, sz: lanes and sizes -/
noncomputable def IM (t : Int32) (ln sz : Nat → Int32) (σ : St6) : Prop :=
  gd (p6_now σ) 0 ∧ rg (p6_undos σ) 9 ∧ (∀ k, k < 8 → gd (p6_undone σ) (27 * k)) ∧ gd (p6_aside σ) 0 ∧ (∀ k, k < 9 → gd (p6_kept σ) (27 * k)) ∧ rg (p6_keptUndos σ) 9 ∧ (∀ p, p < 6 → wk (p6_read σ (4 * p + 2))) ∧ p6_typed σ = t ∧ p6_lanes σ = ln ∧ p6_sizes σ = sz
theorem nI_mul (a b : Nat) : nI a * nI b = nI (a * b) := pk_mul a b
theorem told_ix {p w : Nat} (hp : p < 6) (hw : w < 4) : (3 + 4 * nI p) + nI w = nI (3 + 4 * p + w) := by
  rw [show (3 : Int32) = nI 3 from rfl, show (4 : Int32) = nI 4 from rfl, nI_mul, nI_add, nI_add]
theorem told_eq (σ : St6) {p w : Nat} (hp : p < 6) (hw : w < 4) : f_X6_told σ (nI p) (nI w) = some (p6_now σ (3 + 4 * p + w)) := by
  unfold f_X6_told
  rw [told_ix hp hw, if_pos (inB_nI (by omega) (by decide)), nI_clamp (by omega)]
theorem tells_eq (σ : St6) {p w : Nat} (hp : p < 6) (hw : w < 4) (v : Int32) : f_X6_tells σ (nI p) (nI w) v = some (s6_now σ (upd (p6_now σ) (3 + 4 * p + w) v)) := by
  unfold f_X6_tells
  rw [told_ix hp hw, if_pos (inB_nI (by omega) (by decide)), nI_clamp (by omega)]
theorem turns_eq (σ : St6) {p : Nat} (hp : p < 6) : f_X6_turns σ (nI p) = some (p6_now σ (4 + 4 * p)) := by
  unfold f_X6_turns
  rw [show (1 : Int32) = nI 1 from rfl, told_eq σ hp (by decide), show 3 + 4 * p + 1 = 4 + 4 * p by omega]; rfl
theorem whom_eq (σ : St6) {p : Nat} (hp : p < 6) : f_X6_whom σ (nI p) = some (p6_now σ (5 + 4 * p)) := by
  unfold f_X6_whom
  rw [show (2 : Int32) = nI 2 from rfl, told_eq σ hp (by decide), show 3 + 4 * p + 2 = 5 + 4 * p by omega]; rfl
theorem stop_eq (σ : St6) {p : Nat} (hp : p < 6) : f_X6_isStopped σ (nI p) = some (if p6_now σ (4 + 4 * p) = 0 then 1 else 0) := by
  unfold f_X6_isStopped
  rw [turns_eq σ hp]
  show (if p6_now σ (4 + 4 * p) = 0 then some 1 else some 0) = _
  by_cases h : p6_now σ (4 + 4 * p) = 0
  · rw [if_pos h, if_pos h]
  · rw [if_neg h, if_neg h]
theorem okm_told (σ : St6) {x : Int32} (hx : rg x 6) {w : Nat} (hw : w < 4) : ok (fun _ => True) (f_X6_told σ x (nI w)) := by
  obtain ⟨p, hp, rfl⟩ := hx
  rw [told_eq σ hp hw]; exact ok_s trivial
theorem okm_turns (σ : St6) {x : Int32} (hx : rg x 6) : ok (fun _ => True) (f_X6_turns σ x) := by
  obtain ⟨p, hp, rfl⟩ := hx
  rw [turns_eq σ hp]; exact ok_s trivial
theorem okm_isStopped (σ : St6) {x : Int32} (hx : rg x 6) : ok (fun r => r = 0 ∨ r = 1) (f_X6_isStopped σ x) := by
  obtain ⟨p, hp, rfl⟩ := hx
  rw [stop_eq σ hp]
  refine ok_s ?_
  by_cases h : p6_now σ (4 + 4 * p) = 0
  · rw [if_pos h]; exact Or.inr rfl
  · rw [if_neg h]; exact Or.inl rfl
theorem gd_wk {f : Nat → Int32} (h : gd f 0) {p : Nat} (hp : p < 6) : wk (f (5 + 4 * p)) := by
  have := h.2 p hp
  rwa [show 0 + 5 + 4 * p = 5 + 4 * p by omega] at this
theorem okm_whom {t : Int32} {ln sz : Nat → Int32} {σ : St6} (h : IM t ln sz σ) {x : Int32} (hx : rg x 6) : ok wk (f_X6_whom σ x) := by
  obtain ⟨p, hp, rfl⟩ := hx
  rw [whom_eq σ hp]; exact ok_s (gd_wk h.1 hp)
theorem now0 : ((0 : Int32).toNatClampNeg) = 0 := rfl
theorem now1 : ((1 : Int32).toNatClampNeg) = 1 := rfl
theorem now2 : ((2 : Int32).toNatClampNeg) = 2 := rfl
theorem IM.people {t : Int32} {ln sz : Nat → Int32} {σ : St6} (h : IM t ln sz σ) : ∃ N : Nat, N ≤ 6 ∧ p6_now σ ((0 : Int32).toNatClampNeg) = nI N := by
  obtain ⟨N, hN, e⟩ := h.1.1
  exact ⟨N, by omega, e⟩
/-- a write to a turn, a kind or a key leaves all that -/
theorem gd_upd {f : Nat → Int32} (h : gd f 0) {i : Nat} (hi : i ≠ 0) (hi2 : ∀ p, p < 6 → i ≠ 5 + 4 * p) (v : Int32) : gd (upd f i v) 0 := by
  refine ⟨?_, fun p hp => ?_⟩
  · show rg (upd f i v 0) 7
    unfold upd; rw [if_neg (Ne.symm hi)]; exact h.1
  · show wk (upd f i v (0 + 5 + 4 * p))
    unfold upd; rw [if_neg (by have := hi2 p hp; omega)]; exact h.2 p hp
theorem gd_updW {f : Nat → Int32} (h : gd f 0) {q : Nat} (hq : q < 6) {v : Int32} (hv : wk v) : gd (upd f (5 + 4 * q) v) 0 := by
  refine ⟨?_, fun p hp => ?_⟩
  · show rg (upd f (5 + 4 * q) v 0) 7
    unfold upd; rw [if_neg (by omega)]; exact h.1
  · show wk (upd f (5 + 4 * q) v (0 + 5 + 4 * p))
    unfold upd
    by_cases e : 0 + 5 + 4 * p = 5 + 4 * q
    · rw [if_pos e]; exact hv
    · rw [if_neg e]; exact h.2 p hp
theorem IM.now {t : Int32} {ln sz : Nat → Int32} {σ : St6} (h : IM t ln sz σ) {f : Nat → Int32} (hf : gd f 0) : IM t ln sz (s6_now σ f) := ⟨hf, h.2⟩
theorem okm_tells {t : Int32} {ln sz : Nat → Int32} {σ : St6} (h : IM t ln sz σ) {x : Int32} (hx : rg x 6) {w : Nat} (hw : w < 4) (hw2 : w ≠ 2) (v : Int32) : ok (fun r => IM t ln sz r ∧ p6_now r 0 = p6_now σ 0) (f_X6_tells σ x (nI w) v) := by
  obtain ⟨p, hp, rfl⟩ := hx
  rw [tells_eq σ hp hw]
  refine ok_s ⟨h.now (gd_upd h.1 (by omega) (fun q hq => by omega) v), ?_⟩
  show upd (p6_now σ) (3 + 4 * p + w) v 0 = _
  unfold upd; rw [if_neg (by omega)]
theorem okm_tellsW {t : Int32} {ln sz : Nat → Int32} {σ : St6} (h : IM t ln sz σ) {x : Int32} (hx : rg x 6) {v : Int32} (hv : wk v) : ok (fun r => IM t ln sz r ∧ p6_now r 0 = p6_now σ 0) (f_X6_tells σ x 2 v) := by
  obtain ⟨p, hp, rfl⟩ := hx
  rw [show (2 : Int32) = nI 2 from rfl, tells_eq σ hp (by decide), show 3 + 4 * p + 2 = 5 + 4 * p by omega]
  refine ok_s ⟨h.now (gd_updW h.1 hp hv), ?_⟩
  show upd (p6_now σ) (5 + 4 * p) v 0 = _
  unfold upd; rw [if_neg (by omega)]
theorem okm_isPerson {t : Int32} {ln sz : Nat → Int32} {σ : St6} (h : IM t ln sz σ) (x : Int32) : ok (fun r => r = 0 ∨ (r = 1 ∧ rg x 6)) (f_X6_isPerson σ x) := by
  unfold f_X6_isPerson
  obtain ⟨N, hN, e⟩ := h.people
  refine ok_b (ok_in _ _ _) (fun r hr => ?_)
  refine ok_g (hr.imp id (fun h => h.1)) (ok_s ?_)
  rcases hr with q | ⟨q, h1, h2⟩
  · exact Or.inl q
  · refine Or.inr ⟨q, ?_⟩
    rw [w64] at h1 h2
    rw [w64, e] at h2
    have h3 : (nI N - 1).toInt = (N : Int) - 1 := by
      have := pk_sub_toInt (a := N) (b := 1) (by omega) (by decide)
      exact this
    rw [h3] at h2
    have h1' : (0 : Int) ≤ x.toInt := h1
    exact rg_up (rg_int (n := 5) h1' (by omega) (by decide)) (by decide)
theorem okm_windersOf {t : Int32} {ln sz : Nat → Int32} {σ : St6} (h : IM t ln sz σ) (x : Int32) : ok (fun _ => True) (f_X6_windersOf σ x) := by
  unfold f_X6_windersOf
  obtain ⟨N, hN, e⟩ := h.people
  refine ok_b (P := fun _ => True) ?_ (fun a _ => ok_s trivial)
  refine ok_loop0 (fun n z s => lp_X6_windersOf_4 σ x n s z) N (by omega) (fun _ _ => True) (fun _ => True) 0 trivial ?_ ?_
  · intro n s _
    show ok _ (lp_X6_windersOf_4 σ x (n + 1) s (nI N))
    rw [lp_X6_windersOf_4]
    exact ok_i (fun _ => ok_s trivial) (fun h => absurd (sz_ge e) h)
  · intro n k s hk _ ih
    show ok _ (lp_X6_windersOf_4 σ x (n + 1) s (nI k))
    rw [lp_X6_windersOf_4]
    refine ok_i (fun h => absurd h (sz_lt e hk (by omega))) (fun _ => ?_)
    exact ok_b (okm_whom h (rg_nI (by omega))) (fun a _ => ok_i (fun _ => ih _ trivial) (fun _ => ih _ trivial))
theorem wk_rg {v : Int32} (h : wk v) (h4 : ¬ v = -4) : rg v 6 := by
  rcases h with q | q
  · exact absurd q h4
  · exact q
