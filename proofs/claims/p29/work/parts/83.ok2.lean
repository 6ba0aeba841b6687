/-! THE FUNCTIONS COME TO AN ANSWER: People -/
noncomputable def ok {α : Type} (P : α → Prop) (x : Option α) : Prop := ∃ a, x = some a ∧ P a
theorem ok_s {α : Type} {P : α → Prop} {a : α} (h : P a) : ok P (some a) := ⟨a, rfl, h⟩
theorem ok_b {α β : Type} {P : α → Prop} {Q : β → Prop} {x : Option α} {f : α → Option β} (hx : ok P x) (hf : ∀ a, P a → ok Q (f a)) : ok Q (x.bind f) := by
  obtain ⟨a, rfl, h⟩ := hx
  exact hf a h
theorem ok_i {α : Type} {Q : α → Prop} {c : Prop} [Decidable c] {a b : Option α} (h1 : c → ok Q a) (h2 : ¬ c → ok Q b) : ok Q (if c then a else b) := by
  by_cases hc : c
  · rw [if_pos hc]; exact h1 hc
  · rw [if_neg hc]; exact h2 hc
theorem ok_g {α : Type} {Q : α → Prop} {c : Prop} [Decidable c] {a : Option α} (hc : c) (h : ok Q a) : ok Q (if c then a else none) := by
  rw [if_pos hc]; exact h
theorem ok_w {α : Type} {P Q : α → Prop} {x : Option α} (h : ok P x) (hPQ : ∀ a, P a → Q a) : ok Q x := by
  obtain ⟨a, h1, h2⟩ := h
  exact ⟨a, h1, hPQ a h2⟩
theorem ok_n {α : Type} {Q : α → Prop} {x : Int32} {k : Int32 → Option α} (h : ∀ y, y = x → ok Q (k y)) : ok Q (nam x k) := h x rfl
noncomputable def rg (x : Int32) (n : Nat) : Prop := ∃ k : Nat, k < n ∧ x = nI k
theorem rg_nI {k n : Nat} (h : k < n) : rg (nI k) n := ⟨k, h, rfl⟩
theorem rg_in {x : Int32} {n : Nat} (h : rg x n) (hn : n < 2 ^ 31) : inB x n = true := by
  obtain ⟨k, hk, rfl⟩ := h
  exact inB_nI hk hn
theorem rg_up {x : Int32} {n m : Nat} (h : rg x n) (hm : n ≤ m) : rg x m := by
  obtain ⟨k, hk, rfl⟩ := h
  exact ⟨k, by omega, rfl⟩
theorem rg_cl {x : Int32} {n : Nat} (h : rg x n) (hn : n < 2 ^ 31) : x.toNatClampNeg < n := by
  obtain ⟨k, hk, rfl⟩ := h
  rw [nI_clamp (by omega)]; exact hk
theorem rg_of {x : Int32} {n : Nat} (h0 : ¬ x < 0) (h1 : ¬ nI n ≤ x) (hn : n < 2 ^ 31) : rg x n := by
  rcases pk_ix x hn with h | h | h
  · exact absurd h h0
  · exact absurd h h1
  · exact h
theorem ok_loop {σ β : Type} (lp : Nat → Int32 → σ → Option β) (N : Nat) (I : Nat → σ → Prop) (Q : β → Prop)
    (hexit : ∀ n s, I N s → ok Q (lp (n + 1) (nI N) s))
    (hstep : ∀ n k s, k < N → I k s → (∀ s', I (k + 1) s' → ok Q (lp n (nI k + 1) s')) → ok Q (lp (n + 1) (nI k) s)) :
    ∀ n k s, k ≤ N → N - k < n → I k s → ok Q (lp n (nI k) s) := by
  intro n
  induction n with
  | zero => intro k s h1 h2; omega
  | succ n ih =>
    intro k s h1 h2 hI
    by_cases hk : k = N
    · subst hk; exact hexit n s hI
    · refine hstep n k s (by omega) hI (fun s' hI' => ?_)
      rw [nI_1]
      exact ih (k + 1) s' (by omega) (by omega) hI'
theorem ok_loop0 {σ β : Type} (lp : Nat → Int32 → σ → Option β) (N : Nat) (hN : N ≤ 50000) (I : Nat → σ → Prop) (Q : β → Prop) (s : σ) (h0 : I 0 s)
    (hexit : ∀ n s, I N s → ok Q (lp (n + 1) (nI N) s))
    (hstep : ∀ n k s, k < N → I k s → (∀ s', I (k + 1) s' → ok Q (lp n (nI k + 1) s')) → ok Q (lp (n + 1) (nI k) s)) : ok Q (lp FU 0 s) :=
  ok_loop lp N I Q hexit hstep FU 0 s (Nat.zero_le _) (by unfold FU; omega) h0
-- sizes
theorem sz_lt {x : Int32} {N k : Nat} (h : x = nI N) (hk : k < N) (hN : N ≤ 50000) : ¬ x ≤ nI k := by rw [h]; exact nI_ge hk (by omega)
theorem sz_ge {x : Int32} {N : Nat} (h : x = nI N) : x ≤ nI N := by rw [h]; exact Int32.le_refl _
theorem ok_has {σ : St2} {N : Nat} (hs : p2_size σ = nI N) (hN : N ≤ 6) (x : Int32) : ok (fun r => r = 0 ∨ (r = 1 ∧ rg x N)) (f_X2_has σ x) := by
  unfold f_X2_has
  refine ok_i (fun _ => ok_s (Or.inl rfl)) (fun h0 => ok_i (fun _ => ok_s (Or.inl rfl)) (fun h1 => ok_s (Or.inr ⟨rfl, ?_⟩)))
  exact rg_of h0 (by rw [← hs]; exact h1) (by omega)
theorem ok_isStopped {σ : St2} {x : Int32} (hx : rg x 6) : ok (fun r => r = 0 ∨ r = 1) (f_X2_isStopped σ x) := by
  unfold f_X2_isStopped
  exact ok_g (rg_in hx (by decide)) (ok_i (fun _ => ok_s (Or.inr rfl)) (fun _ => ok_s (Or.inl rfl)))
theorem ok_stopped {σ : St2} {N : Nat} (hs : p2_size σ = nI N) (hN : N ≤ 6) : ok (fun _ => True) (f_X2_stopped σ) := by
  unfold f_X2_stopped
  refine ok_b (P := fun _ => True) ?_ (fun a _ => ok_s trivial)
  refine ok_loop0 (fun n x s => lp_X2_stopped_4 σ n s x) N (by omega) (fun _ _ => True) (fun _ => True) 0 trivial ?_ ?_
  · intro n s _
    show ok _ (lp_X2_stopped_4 σ (n + 1) s (nI N))
    rw [lp_X2_stopped_4]
    exact ok_i (fun _ => ok_s trivial) (fun h => absurd (sz_ge hs) h)
  · intro n k s hk _ ih
    show ok _ (lp_X2_stopped_4 σ (n + 1) s (nI k))
    rw [lp_X2_stopped_4]
    refine ok_i (fun h => absurd h (sz_lt hs hk (by omega))) (fun _ => ?_)
    refine ok_b (ok_isStopped (rg_nI (by omega))) (fun a _ => ?_)
    exact ok_i (fun _ => ih _ trivial) (fun _ => ih _ trivial)
