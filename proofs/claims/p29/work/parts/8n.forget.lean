/-! THE FULL RELATION: the odds of forgetting -/
theorem fg_sub : ∀ W, W < 64 → ∀ f, f < 64 → ((nI f &&& nI W) = nI f ↔ Nat.land f W = f) ∧ ((nI f &&& (nI W ^^^ (-1))) = 0 ↔ Nat.land f W = f) := by decide +kernel
theorem fg_and : ∀ W, W < 64 → ∀ f, f < 64 → (nI W &&& (nI f ^^^ (-1))) = nI (W &&& (63 ^^^ f)) ∧ (W &&& (63 ^^^ f)) < 64 := by decide +kernel
theorem fg_bits : ∀ W, W < 64 → ∀ f, f < 64 → ∀ q, q < 6 → (W &&& (63 ^^^ f)).testBit q = (W.testBit q && !(f.testBit q)) := by decide +kernel
theorem fg_le : ∀ W, W < 64 → ∀ f, f < 64 → Nat.land f W = f → f ≤ W ∧ bcN f ≤ bcN W := by decide +kernel
/-- how many of the first k are in a set, and how many of these forget, and how many don't -/
noncomputable def eF (W f : Nat) : Nat → Nat
  | 0 => 0
  | k + 1 => eF W f k + (if W.testBit k && f.testBit k then 1 else 0)
noncomputable def eR (W f : Nat) : Nat → Nat
  | 0 => 0
  | k + 1 => eR W f k + (if W.testBit k && !(f.testBit k) then 1 else 0)
theorem fg_e : ∀ W, W < 64 → ∀ f, f < 64 → Nat.land f W = f → eF W f 6 = bcN f ∧ eR W f 6 = bcN W - bcN f := by decide +kernel
noncomputable def ways (W f C : Nat) : Nat := C ^ bcN f * (10 - C) ^ (bcN W - bcN f)
/-- ways of all that forget, among the first k sets -/
noncomputable def sbK (W C D c : Nat) : Nat → Nat
  | 0 => 0
  | k + 1 => sbK W C D c k + (if Nat.land k W = k then C ^ bcN k * D ^ (c - bcN k) else 0)
set_option maxRecDepth 100000 in
theorem sb_all : ∀ W, W < 64 → ∀ C, C < 11 → sbK W C (10 - C) (bcN W) 64 = 10 ^ bcN W := by decide +kernel
theorem c_power {x : Int32} {C : Nat} (hx : x = nI C) {e : Nat} (he : e ≤ 64) : f_X5_power x (nI e) = some (nI (C ^ e)) := by
  unfold f_X5_power
  refine ok_eq (ok_b (P := fun q => q.1 = nI (C ^ e)) ?_ (fun q hq => ok_s hq))
  refine lpG (fun m z s => lp_X5_power_4 x (nI e) m s z) e (by omega) (fun k s => s = nI (C ^ k)) _ (fun m z s => rfl) (fun _ _ _ => rfl) (fun s hs => ok_s hs) (fun m k s hk hs ih => ?_) 1 rfl
  exact ih _ (by rw [hs, hx, nI_mul, Nat.pow_succ])
theorem c_ways {W f C : Nat} (hW : W < 64) (hf : f < 64) (hs : Nat.land f W = f) (hC : C ≤ 10) : f_X5_waysToForget (nI W) (nI f) (nI C) = some (nI (ways W f C)) := by
  unfold f_X5_waysToForget ways
  have h1 := bc_dec f hf
  have h2 := bc_dec W hW
  have h3 := (fg_le W hW f hf hs).2
  rw [bd_eq h1.1, bd_eq (c_power rfl (by omega)), bd_eq h2.1, pk_sub h3, bd_eq (c_power (C := 10 - C) (show (10 : Int32) - nI C = nI (10 - C) from pk_sub (a := 10) hC) (by omega)), nI_mul]
theorem c_gcd : ∀ m n a b st, a < 2 ^ 31 → b ≤ a → 0 < a → a * b < 2 ^ m → m < n → st + m < 100 → ok (fun q => q.1 = nI (Nat.gcd a b)) (lp_X5_greatestDivisor_7 n (nI a) (nI b) (nI st)) := by
  intro m
  induction m with
  | zero =>
    intro n a b st ha hb h0 hm hn hst
    obtain ⟨n, rfl⟩ : ∃ m, n = m + 1 := ⟨n - 1, by omega⟩
    have hb0 : b = 0 := by
      rcases Nat.eq_zero_or_pos b with q | q
      · exact q
      · have := Nat.mul_pos h0 q
        simp at hm
        omega
    subst hb0
    rw [lp_X5_greatestDivisor_7, if_neg (show ¬ (100 : Int32) ≤ nI st from nI_ge (b := 100) (by omega) (by decide)), if_pos (show nI 0 ≤ (0 : Int32) by decide)]
    exact ok_s (by rw [Nat.gcd_zero_right])
  | succ m ih =>
    intro n a b st ha hb h0 hm hn hst
    obtain ⟨n, rfl⟩ : ∃ m, n = m + 1 := ⟨n - 1, by omega⟩
    rw [lp_X5_greatestDivisor_7, if_neg (show ¬ (100 : Int32) ≤ nI st from nI_ge (b := 100) (by omega) (by decide))]
    rcases Nat.eq_zero_or_pos b with q | hb1
    · subst q
      rw [if_pos (show nI 0 ≤ (0 : Int32) by decide)]
      exact ok_s (by rw [Nat.gcd_zero_right])
    · rw [if_neg (nI_nle hb1 (by omega)), if_pos (nI_ne0 hb1 (by omega)), pk_rem ha hb1 (by omega), nI_1]
      have hr : a % b < b := Nat.mod_lt _ hb1
      have hd : b * (a / b) + a % b = a := Nat.div_add_mod a b
      have hq : 1 ≤ a / b := Nat.div_pos hb hb1
      have hbq : b * 1 ≤ b * (a / b) := Nat.mul_le_mul_left b hq
      have h2 : 2 * (a % b) ≤ a := by omega
      have h3 : b * (2 * (a % b)) ≤ b * a := Nat.mul_le_mul_left b h2
      have h4 : b * a = a * b := Nat.mul_comm _ _
      have h5 : b * (2 * (a % b)) = 2 * (b * (a % b)) := by rw [Nat.mul_left_comm]
      rw [Nat.pow_succ] at hm
      refine ok_w (ih n b (a % b) (st + 1) (by omega) (by omega) hb1 (by omega) (by omega) (by omega)) (fun q hq => ?_)
      rw [hq, Nat.gcd_comm a b, Nat.gcd_rec b a, Nat.gcd_comm]
theorem m_gcd (σ : St6) (x3 x5 x6 : Int32) : ∀ m n a b, a < 2 ^ 31 → b ≤ a → 0 < a → a * b < 2 ^ m → m < n → ok (fun q => q.1 = nI (Nat.gcd a b)) (lp_X6_forget_232 σ x3 x5 x6 n (nI a) (nI b)) := by
  intro m
  induction m with
  | zero =>
    intro n a b ha hb h0 hm hn
    obtain ⟨n, rfl⟩ : ∃ m, n = m + 1 := ⟨n - 1, by omega⟩
    have hb0 : b = 0 := by
      rcases Nat.eq_zero_or_pos b with q | q
      · exact q
      · have := Nat.mul_pos h0 q
        simp at hm
        omega
    subst hb0
    rw [lp_X6_forget_232, if_pos nI_0]
    exact ok_s (by rw [Nat.gcd_zero_right])
  | succ m ih =>
    intro n a b ha hb h0 hm hn
    obtain ⟨n, rfl⟩ : ∃ m, n = m + 1 := ⟨n - 1, by omega⟩
    rw [lp_X6_forget_232]
    rcases Nat.eq_zero_or_pos b with q | hb1
    · subst q
      rw [if_pos nI_0]
      exact ok_s (by rw [Nat.gcd_zero_right])
    · rw [if_neg (nI_ne0 hb1 (by omega)), if_pos (nI_ne0 hb1 (by omega)), pk_rem ha hb1 (by omega)]
      have hr : a % b < b := Nat.mod_lt _ hb1
      have hd : b * (a / b) + a % b = a := Nat.div_add_mod a b
      have hq : 1 ≤ a / b := Nat.div_pos hb hb1
      have hbq : b * 1 ≤ b * (a / b) := Nat.mul_le_mul_left b hq
      have h2 : 2 * (a % b) ≤ a := by omega
      have h3 : b * (2 * (a % b)) ≤ b * a := Nat.mul_le_mul_left b h2
      have h4 : b * a = a * b := Nat.mul_comm _ _
      have h5 : b * (2 * (a % b)) = 2 * (b * (a % b)) := by rw [Nat.mul_left_comm]
      rw [Nat.pow_succ] at hm
      refine ok_w (ih n b (a % b) (by omega) (by omega) hb1 (by omega) (by omega)) (fun q hq => ?_)
      rw [hq, Nat.gcd_comm a b, Nat.gcd_rec b a, Nat.gcd_comm]
theorem gcd_step {A B : Nat} : Nat.gcd B (A % B) = Nat.gcd A B := by
  rw [Nat.gcd_comm A B, Nat.gcd_rec B A, Nat.gcd_comm]
theorem c_gcd0 {A B : Nat} (hB : 0 < B) (hA : A ≤ B) (h6 : B ≤ 1000000) : f_X5_greatestDivisor (nI A) (nI B) = some (nI (Nat.gcd A B)) := by
  unfold f_X5_greatestDivisor
  refine ok_eq (ok_b (P := fun q => q.1 = nI (Nat.gcd A B)) ?_ (fun q hq => ok_s hq))
  obtain ⟨n, hn⟩ : ∃ n, FU = n + 1 := ⟨99999, rfl⟩
  have hn2 : 62 < n := by unfold FU at hn; omega
  have hr : A % B < B := Nat.mod_lt _ hB
  have hm : B * (A % B) < 2 ^ 20 * 2 ^ 20 := Nat.mul_lt_mul'' (by omega) (by omega)
  rw [hn, lp_X5_greatestDivisor_7, if_neg (by decide), if_neg (nI_nle hB (by omega)), if_pos (nI_ne0 hB (by omega)), pk_rem (by omega) hB (by omega), show (0 : Int32) + 1 = nI 1 from rfl]
  refine ok_w (c_gcd 40 n B (A % B) 1 (by omega) (by omega) hB (by rw [show (40 : Nat) = 20 + 20 from rfl, Nat.pow_add]; exact hm) (by omega) (by decide)) (fun q hq => ?_)
  rw [hq, gcd_step]
theorem m_gcd0 (σ : St6) (x3 x5 x6 : Int32) {A B : Nat} (hB : 0 < B) (hA : A ≤ B) (h6 : B ≤ 1000000) : ok (fun q => q.1 = nI (Nat.gcd A B)) (lp_X6_forget_232 σ x3 x5 x6 FU (nI A) (nI B)) := by
  obtain ⟨n, hn⟩ : ∃ n, FU = n + 1 := ⟨99999, rfl⟩
  have hn2 : 62 < n := by unfold FU at hn; omega
  have hr : A % B < B := Nat.mod_lt _ hB
  have hm : B * (A % B) < 2 ^ 20 * 2 ^ 20 := Nat.mul_lt_mul'' (by omega) (by omega)
  rw [hn, lp_X6_forget_232, if_neg (nI_ne0 hB (by omega)), if_pos (nI_ne0 hB (by omega)), pk_rem (by omega) hB (by omega)]
  refine ok_w (m_gcd σ x3 x5 x6 40 n B (A % B) (by omega) (by omega) hB (by rw [show (40 : Nat) = 20 + 20 from rfl, Nat.pow_add]; exact hm) (by omega)) (fun q hq => ?_)
  rw [hq, gcd_step]
theorem m_part (σ : St6) (x1 x3 x5 x6 : Int32) {W f C : Nat} (hW : W < 64) (hf : f < 64) (hs : Nat.land f W = f) (hC : C ≤ 10) : ok (fun q => q.1 = nI (ways W f C)) (lp_X6_forget_131 σ x1 (nI C) x3 (nI W) x5 x6 (nI f) FU 1 0) := by
  have he := fg_e W hW f hf hs
  refine ok_w (P := fun q => q.1 = nI (C ^ eF W f 6 * (10 - C) ^ eR W f 6)) ?_ (fun q hq => by rw [hq, he.1, he.2]; rfl)
  refine lpG (fun m z a => lp_X6_forget_131 σ x1 (nI C) x3 (nI W) x5 x6 (nI f) m a z) 6 (by decide) (fun k a => a = nI (C ^ eF W f k * (10 - C) ^ eR W f k)) _ (fun m z s => rfl) (fun _ _ _ => rfl) (fun s hs => ok_s hs) (fun m k s hk hs ih => ?_) 1 rfl
  have e1 : eF W f (k + 1) = eF W f k + (if W.testBit k && f.testBit k then 1 else 0) := rfl
  have e2 : eR W f (k + 1) = eR W f k + (if W.testBit k && !(f.testBit k) then 1 else 0) := rfl
  cases hw : W.testBit k
  · rw [if_pos ((bit_shr W hW k hk).mpr hw)]
    refine ih _ ?_
    rw [e1, e2, hw, hs]
    show nI _ * nI 1 = _
    rw [nI_mul, Nat.mul_one]; rfl
  · rw [if_neg (fun c => by rw [(bit_shr W hW k hk).mp c] at hw; cases hw)]
    cases hq : f.testBit k
    · rw [if_neg (fun c => by rw [(bit_shr1 f hf k hk).mp c] at hq; cases hq)]
      refine ih _ ?_
      rw [e1, e2, hw, hq, hs, show (10 : Int32) - nI C = nI (10 - C) from pk_sub (a := 10) hC, nI_mul]
      show nI _ = nI (C ^ (eF W f k + 0) * (10 - C) ^ (eR W f k + 1))
      rw [Nat.add_zero, Nat.pow_succ, Nat.mul_assoc]
    · rw [if_pos ((bit_shr1 f hf k hk).mpr hq)]
      refine ih _ ?_
      rw [e1, e2, hw, hq, hs, nI_mul]
      show nI _ = nI (C ^ (eF W f k + 1) * (10 - C) ^ (eR W f k + 0))
      rw [Nat.pow_succ, Nat.mul_assoc, Nat.mul_assoc, Nat.mul_comm C]; rfl
section
variable {N : Nat} {p : St2} {σ : St6}
/-- those who'd wind this hour -/
noncomputable def fgW (N : Nat) (p : St2) : Nat := if p2_hour p - p2_hour p / 8 * 8 = 0 then bset (fun q => decide (¬ p2_turns p q = 0) && decide (¬ p2_winds p q = -4)) N else 0
theorem fgW_64 (hN : N ≤ 6) (p : St2) : fgW N p < 64 := by
  unfold fgW
  by_cases h8 : p2_hour p - p2_hour p / 8 * 8 = 0
  · rw [if_pos h8]; exact bset_64 _ hN
  · rw [if_neg h8]; decide
theorem wnd_none (h : CPo N p) : wndP N (fun _ => false) p = p := by
  have hw : ∀ k, wtn p (fun _ => false) k = wtn p (fun _ => false) 0 := by
    intro k
    induction k with
    | zero => rfl
    | succ k ih => rw [← ih]; funext i; exact wtn_no (fun c => absurd c.1 (by decide))
  unfold wndP
  rw [hw N, wtn_0 h]
/-- the hour when a set forgets -/
theorem fg_hour (h : CPo N p) {f : Nat} (hf : f < 64) : (f_X2_wind p (nI (fgW N p) &&& (nI f ^^^ (-1)))).bind (fun r12 => f_X2_run r12) = some (goP N (nI f) p) := by
  have hN := h.1
  have hW := fgW_64 hN p
  have hA := fg_and _ hW f hf
  rw [hA.1, bd_eq (c_wind h hA.2), c_run (h.wnd _)]
  unfold goP
  by_cases h8 : p2_hour p - p2_hour p / 8 * 8 = 0
  · rw [if_pos h8]
    have e : wndP N (fun q => (fgW N p &&& (63 ^^^ f)).testBit q && decide (¬ p2_winds p q = -4)) p = wndP N (Bm p (nI f)) p := wndP_cg (fun q hq => by
      rw [fg_bits _ hW f hf q (by omega)]
      have e1 : fgW N p = bset (fun q => decide (¬ p2_turns p q = 0) && decide (¬ p2_winds p q = -4)) N := by unfold fgW; rw [if_pos h8]
      rw [e1, bset_bit _ N q hq]
      unfold Bm
      have hb := bit_shr f hf q (by omega)
      have e2 : decide (((nI f >>> (nI q &&& 31)) &&& 1) = 0) = !(f.testBit q) := by
        cases ht : f.testBit q
        · rw [decide_eq_true (hb.mpr ht)]; rfl
        · rw [decide_eq_false (fun c => by rw [hb.mp c] at ht; cases ht)]; rfl
      rw [e2]
      cases decide (¬ p2_turns p q = 0) <;> cases decide (¬ p2_winds p q = -4) <;> cases f.testBit q <;> rfl)
    rw [e]
  · rw [if_neg h8]
    have e1 : fgW N p = 0 := by unfold fgW; rw [if_neg h8]
    have e : wndP N (fun q => (fgW N p &&& (63 ^^^ f)).testBit q && decide (¬ p2_winds p q = -4)) p = wndP N (fun _ => false) p := wndP_cg (fun q hq => by
      rw [fg_bits _ hW f hf q (by omega), e1, Nat.zero_testBit]; rfl)
    rw [e, wnd_none h]
/-- the ways in which one stops -/
noncomputable def saK (N : Nat) (p : St2) (a W C : Nat) : Nat → Nat
  | 0 => 0
  | k + 1 => saK N p a W C k + (if Nat.land k W = k ∧ p2_turns (goP N (nI k) p) a = 0 then ways W k C else 0)
theorem sa_le (N : Nat) (p : St2) (a W C : Nat) : ∀ k, saK N p a W C k ≤ sbK W C (10 - C) (bcN W) k := by
  intro k
  induction k with
  | zero => exact Nat.le_refl _
  | succ k ih =>
    show saK N p a W C k + (if Nat.land k W = k ∧ p2_turns (goP N (nI k) p) a = 0 then ways W k C else 0) ≤ sbK W C (10 - C) (bcN W) k + (if Nat.land k W = k then C ^ bcN k * (10 - C) ^ (bcN W - bcN k) else 0)
    by_cases h1 : Nat.land k W = k
    · rw [if_pos h1]
      by_cases h2 : p2_turns (goP N (nI k) p) a = 0
      · rw [if_pos ⟨h1, h2⟩]; unfold ways; omega
      · rw [if_neg (fun c => h2 c.2)]; omega
    · rw [if_neg (fun c => h1 c.1), if_neg h1]; omega
theorem sa_top (N : Nat) (p : St2) (a C : Nat) {W : Nat} (hW : W < 64) : ∀ m, W + 1 + m ≤ 64 → saK N p a W C (W + 1 + m) = saK N p a W C (W + 1) := by
  intro m
  induction m with
  | zero => intro _; rfl
  | succ m ih =>
    intro hm
    show saK N p a W C (W + 1 + m) + (if Nat.land (W + 1 + m) W = W + 1 + m ∧ _ then _ else 0) = _
    rw [if_neg (fun c => by have := (fg_le W hW (W + 1 + m) (by omega) c.1).1; omega), Nat.add_zero, ih (by omega)]
theorem c_fl (h : PMo N p (p6_now σ) 0) (κ : St5) (tr : St2) {a C : Nat} (ha : a < N) (hC : C ≤ 10) (x3 : Int32) : ok (fun q => q.1 = nI (saK N p a (fgW N p) C 64)) (lp_X5_forget_61 κ p (nI a) (nI C) x3 (nI (fgW N p)) FU 0 0 tr) := by
  have hN := h.1
  have hc := h.cp
  have hW := fgW_64 hN p
  rw [show saK N p a (fgW N p) C 64 = saK N p a (fgW N p) C (fgW N p + 1) from by
    have := sa_top N p a C hW (63 - fgW N p) (by omega)
    rw [show fgW N p + 1 + (63 - fgW N p) = 64 by omega] at this
    exact this]
  generalize hWe : fgW N p = W at hW
  refine ok_loop0 (fun m z (s : Int32 × St2) => lp_X5_forget_61 κ p (nI a) (nI C) x3 (nI W) m s.1 z s.2) (W + 1) (by omega) (fun k s => s.1 = nI (saK N p a W C k)) _ (0, tr) rfl ?_ ?_
  · intro m s hs
    show ok _ (if nI W < nI (W + 1) then some (s.1, nI (W + 1), s.2) else _)
    rw [if_pos (nI_lt (by omega) (by omega))]
    exact ok_s hs
  · intro m k s hk hs ih
    show ok _ (if nI W < nI k then _ else (if (nI k &&& nI W) = nI k then ((f_X2_wind p (nI W &&& (nI k ^^^ (-1)))).bind (fun r12 => ((f_X2_run r12).bind (fun r13 => ((f_X2_isStopped r13 (nI a)).bind (fun r14 => (if r14 = 0 then lp_X5_forget_61 κ p (nI a) (nI C) x3 (nI W) m (s.1 + 0) (nI k + 1) r13 else ((f_X5_waysToForget (nI W) (nI k) (nI C)).bind (fun r16 => lp_X5_forget_61 κ p (nI a) (nI C) x3 (nI W) m (s.1 + r16) (nI k + 1) r13))))))))) else lp_X5_forget_61 κ p (nI a) (nI C) x3 (nI W) m s.1 (nI k + 1) s.2))
    rw [if_neg (nI_nlt (by omega) (by omega))]
    have hsa : saK N p a W C (k + 1) = saK N p a W C k + (if Nat.land k W = k ∧ p2_turns (goP N (nI k) p) a = 0 then ways W k C else 0) := rfl
    by_cases h1 : Nat.land k W = k
    · rw [if_pos ((fg_sub W hW k (by omega)).1.mpr h1)]
      have hh := fg_hour hc (f := k) (by omega)
      rw [hWe] at hh
      obtain ⟨r12, e12, e13⟩ : ∃ r12, f_X2_wind p (nI W &&& (nI k ^^^ (-1))) = some r12 ∧ f_X2_run r12 = some (goP N (nI k) p) := by
        cases hx : f_X2_wind p (nI W &&& (nI k ^^^ (-1))) with
        | none => rw [hx] at hh; cases hh
        | some r => rw [hx] at hh; exact ⟨r, rfl, hh⟩
      rw [bd_eq e12, bd_eq e13, bd_eq (c_stop (p := goP N (nI k) p) (show a < 6 by omega))]
      by_cases h2 : p2_turns (goP N (nI k) p) a = 0
      · rw [if_pos h2, if_neg (by decide), bd_eq (c_ways hW (by omega) h1 hC)]
        refine ih (_, _) ?_
        show s.1 + _ = _
        rw [hsa, if_pos ⟨h1, h2⟩, hs, nI_add]
      · rw [if_neg h2, if_pos rfl]
        refine ih (_, _) ?_
        show s.1 + 0 = _
        rw [hsa, if_neg (fun c => h2 c.2), Nat.add_zero, hs]
        exact Int32.add_zero _
    · rw [if_neg (fun c => h1 ((fg_sub W hW k (by omega)).1.mp c))]
      refine ih (_, _) ?_
      show s.1 = _
      rw [hsa, if_neg (fun c => h1 c.1), Nat.add_zero, hs]
theorem m_fl {r : St6} (h : PMo N p (p6_now σ) 0) (hm : MA σ r) (hq : MQu σ r) {a C : Nat} (ha : a < N) (hC : C ≤ 10) (x3 : Int32) : ok (fun q => q.1 = nI (saK N p a (fgW N p) C 64) ∧ q.2.1 = nI (sbK (fgW N p) C (10 - C) (bcN (fgW N p)) 64) ∧ MQu σ q.2.2.2) (lp_X6_forget_108 (nI a) (nI C) x3 (nI (fgW N p)) FU 0 0 0 r) := by
  have hN := h.1
  have hW := fgW_64 hN p
  generalize hWe : fgW N p = W at hW
  refine lpG (fun m z (s : Int32 × Int32 × St6) => lp_X6_forget_108 (nI a) (nI C) x3 (nI W) m s.1 s.2.1 z s.2.2) 64 (by decide) (fun k s => s.1 = nI (saK N p a W C k) ∧ s.2.1 = nI (sbK W C (10 - C) (bcN W) k) ∧ MA σ s.2.2 ∧ MQu σ s.2.2) _ (fun m z s => rfl) (fun _ _ _ => rfl) (fun s hs => ok_s ⟨hs.1, hs.2.1, hs.2.2.2⟩) (fun m k s hk hs ih => ?_) (0, 0, r) ⟨rfl, rfl, hm, hq⟩
  have hsa : saK N p a W C (k + 1) = saK N p a W C k + (if Nat.land k W = k ∧ p2_turns (goP N (nI k) p) a = 0 then ways W k C else 0) := rfl
  have hsb : sbK W C (10 - C) (bcN W) (k + 1) = sbK W C (10 - C) (bcN W) k + (if Nat.land k W = k then ways W k C else 0) := rfl
  by_cases h1 : Nat.land k W = k
  · rw [if_pos ((fg_sub W hW k (by omega)).2.mpr h1)]
    refine ok_b (m_part s.2.2 (nI a) x3 s.1 s.2.1 hW (by omega) h1 hC) (fun q hq => ok_b (m_goesBy (hs.2.2.2.pr h) (nI k)) (fun t ht => ?_))
    rw [bd_eq (ht.2.stop ha)]
    have hb := bks (hs.2.2.1.sn ht.1)
    by_cases h2 : p2_turns (goP N (nI k) p) a = 0
    · rw [if_pos h2, if_neg (by decide)]
      refine ok_b hb (fun u hu => ih (_, _, _) ⟨?_, ?_, hu.1, hu.2⟩)
      · show s.1 + q.1 = _
        rw [hsa, if_pos ⟨h1, h2⟩, hs.1, hq, nI_add]
      · show s.2.1 + q.1 = _
        rw [hsb, if_pos h1, hs.2.1, hq, nI_add]
    · rw [if_neg h2, if_pos rfl]
      refine ok_b hb (fun u hu => ih (_, _, _) ⟨?_, ?_, hu.1, hu.2⟩)
      · show s.1 + 0 = _
        rw [hsa, if_neg (fun c => h2 c.2), Nat.add_zero, hs.1]
        exact Int32.add_zero _
      · show s.2.1 + q.1 = _
        rw [hsb, if_pos h1, hs.2.1, hq, nI_add]
  · rw [if_neg (fun c => h1 ((fg_sub W hW k (by omega)).2.mp c))]
    refine ih (_, _, _) ⟨?_, ?_, hs.2.2⟩
    · show s.1 = _
      rw [hsa, if_neg (fun c => h1 c.1), Nat.add_zero, hs.1]
    · show s.2.1 = _
      rw [hsb, if_neg h1, Nat.add_zero, hs.2.1]
theorem m_fw (h : PMo N p (p6_now σ) 0) (x1 x2 x3 : Int32) : ok (fun q => q.1 = nI (fgW N p)) (lp_X6_forget_38 σ x1 x2 x3 FU 0 0) := by
  have hN := h.1
  have hh : p6_now σ ((1 : Int32).toNatClampNeg) = p2_hour p := h.2.2.2.1.symm
  unfold fgW
  by_cases h8 : p2_hour p - p2_hour p / 8 * 8 = 0
  · rw [if_pos h8]
    refine lpG (fun m z a => lp_X6_forget_38 σ x1 x2 x3 m a z) N (by omega) (fun k a => a = nI (bset (fun q => decide (¬ p2_turns p q = 0) && decide (¬ p2_winds p q = -4)) k)) _ (fun m z s => rfl) (fun _ _ _ => h.n) (fun s hs => ok_s hs) (fun m k s hk hs ih => ?_) 0 rfl
    have hw : f_X6_isWinding σ = some 1 := by unfold f_X6_isWinding; rw [hh, if_pos h8]
    rw [bd_eq hw, if_neg (by decide), bd_eq (h.stop hk)]
    by_cases h0 : p2_turns p k = 0
    · rw [if_pos h0, if_neg (by decide)]
      exact ih _ (bs_n hs (by rw [decide_eq_false (show ¬ ¬ p2_turns p k = 0 from fun q => q h0), Bool.false_and]))
    · rw [if_neg h0, if_pos rfl, bd_eq (h.whom hk)]
      by_cases h4 : p2_winds p k = -4
      · rw [if_pos h4]
        exact ih _ (bs_n hs (by rw [decide_eq_false (show ¬ ¬ p2_winds p k = -4 from fun q => q h4), Bool.and_false]))
      · rw [if_neg h4]
        exact ih _ (bs_y hs (by omega) (by rw [decide_eq_true h0, decide_eq_true h4]; rfl))
  · rw [if_neg h8]
    refine lpG (fun m z a => lp_X6_forget_38 σ x1 x2 x3 m a z) N (by omega) (fun k a => a = nI 0) _ (fun m z s => rfl) (fun _ _ _ => h.n) (fun s hs => ok_s hs) (fun m k s hk hs ih => ?_) 0 rfl
    have hw : f_X6_isWinding σ = some 0 := by unfold f_X6_isWinding; rw [hh, if_neg h8]
    rw [bd_eq hw, if_pos rfl]
    exact ih _ (by rw [hs]; rfl)
theorem q_forget (h : PMo N p (p6_now σ) 0) (κ : St5) (tr : St2) (x1 x2 x3 : Int32) : AL σ (f_X5_forget κ p tr x1 x2 x3) (f_X6_forget σ x1 x2 x3) := by
  have hN := h.1
  have hc := h.cp
  have hW := fgW_64 hN p
  have hB := bc_dec _ hW
  unfold f_X5_forget f_X6_forget
  rcases pq h x1 with ⟨a, ha, rfl, e1, e2⟩ | ⟨e1, e2⟩
  rotate_left
  · rw [bd_eq e1, bd_eq e2, i0, i0]
    exact al_same
  rw [bd_eq e1, bd_eq e2, i1, i1]
  rcases inqN x2 0 10 (a' := 0) (b' := 10) (by decide) rfl rfl with ⟨C, -, hC, rfl, e3⟩ | ⟨hx, e3⟩
  rotate_left
  · rw [bd_eq e3, i0]
    exact al_mk (r := -1) (t := tr) (gd2 hx) (ok_s ⟨rfl, MQu.refl σ⟩)
  rw [bd_eq e3, i1, if_neg (show ¬ nI C < (0 : Int32) from nI_pos (by omega)), if_neg (show ¬ (10 : Int32) < nI C from nI_nlt (a := 10) hC (by decide))]
  rcases inqN x3 0 1 (a' := 0) (b' := 1) (by decide) rfl rfl with ⟨w, -, hw, rfl, e4⟩ | ⟨hx, e4⟩
  rotate_left
  · rw [bd_eq e4, i0]
    exact al_mk (r := -1) (t := tr) (gd1 hx) (ok_s ⟨rfl, MQu.refl σ⟩)
  rw [bd_eq e4, i1, if_neg (show ¬ nI w < (0 : Int32) from nI_pos (by omega)), if_pos (show nI w ≤ (1 : Int32) from nI_le (b := 1) hw (by decide))]
  have hAB : saK N p a (fgW N p) C 64 ≤ 10 ^ bcN (fgW N p) := by
    have := sa_le N p a (fgW N p) C 64
    rw [sb_all _ hW C (by omega)] at this
    exact this
  have hP : 10 ^ bcN (fgW N p) ≤ 10 ^ 6 := Nat.pow_le_pow_right (by decide) (by omega)
  have h0P : 0 < 10 ^ bcN (fgW N p) := Nat.pow_pos (by decide)
  have hG : 0 < Nat.gcd (saK N p a (fgW N p) C 64) (10 ^ bcN (fgW N p)) := Nat.gcd_pos_of_pos_right _ h0P
  have hGl : Nat.gcd (saK N p a (fgW N p) C 64) (10 ^ bcN (fgW N p)) ≤ 10 ^ 6 := Nat.le_trans (Nat.le_of_dvd h0P (Nat.gcd_dvd_right _ _)) hP
  have hG31 : Nat.gcd (saK N p a (fgW N p) C 64) (10 ^ bcN (fgW N p)) < 2 ^ 31 := Nat.lt_of_le_of_lt hGl (by decide)
  have cls : ok (fun q => q.1 = if nI w = 0 then nI (saK N p a (fgW N p) C 64) / nI (Nat.gcd (saK N p a (fgW N p) C 64) (10 ^ bcN (fgW N p))) else nI (10 ^ bcN (fgW N p)) / nI (Nat.gcd (saK N p a (fgW N p) C 64) (10 ^ bcN (fgW N p)))) ((lp_X5_forget_61 κ p (nI a) (nI C) (nI w) (nI (fgW N p)) FU 0 0 tr).bind (fun q25 => ((f_J6_bitCount_0f7a4 (nI (fgW N p))).bind (fun r26 => ((f_X5_power 10 r26).bind (fun r27 => ((f_X5_greatestDivisor q25.1 r27).bind (fun r28 => (if nI w = 0 then (if ¬ (if r28 < 1 then 1 else r28) = 0 then some (q25.1 / (if r28 < 1 then 1 else r28), q25.2.2) else none) else (if ¬ (if r28 < 1 then 1 else r28) = 0 then some (r27 / (if r28 < 1 then 1 else r28), q25.2.2) else none)))))))))) := by
    refine ok_b (c_fl h κ tr ha hC (nI w)) (fun q hq => ?_)
    rw [bd_eq hB.1, bd_eq (c_power (x := 10) (C := 10) rfl (by omega)), hq, bd_eq (c_gcd0 h0P hAB (by omega))]
    have hg1 : (if nI (Nat.gcd (saK N p a (fgW N p) C 64) (10 ^ bcN (fgW N p))) < 1 then (1 : Int32) else nI (Nat.gcd (saK N p a (fgW N p) C 64) (10 ^ bcN (fgW N p)))) = nI (Nat.gcd (saK N p a (fgW N p) C 64) (10 ^ bcN (fgW N p))) := if_neg (nI_nlt (b := 1) hG hG31)
    rw [hg1, if_pos (nI_ne0 hG hG31), if_pos (nI_ne0 hG hG31)]
    by_cases h0 : nI w = 0
    · rw [if_pos h0, if_pos h0]; exact ok_s rfl
    · rw [if_neg h0, if_neg h0]; exact ok_s rfl
  refine al_ok (fun r => r = if nI w = 0 then nI (saK N p a (fgW N p) C 64) / nI (Nat.gcd (saK N p a (fgW N p) C 64) (10 ^ bcN (fgW N p))) else nI (10 ^ bcN (fgW N p)) / nI (Nat.gcd (saK N p a (fgW N p) C 64) (10 ^ bcN (fgW N p)))) (fun a b ha hb => ha.trans hb.symm) ?_ ?_
  · unfold f_X2_isWindingHour
    by_cases h8 : p2_hour p - p2_hour p / 8 * 8 = 0
    · rw [if_pos h8, bd_eq (v := (1 : Int32)) rfl, i1, bd_eq (c_winders hc)]
      have e1 : bset (fun q => decide (¬ p2_turns p q = 0) && decide (¬ p2_winds p q = -4)) N = fgW N p := by unfold fgW; rw [if_pos h8]
      rw [e1]
      exact cls
    · rw [if_neg h8, bd_eq (v := (0 : Int32)) rfl, i0]
      have e1 : (0 : Int32) = nI (fgW N p) := by unfold fgW; rw [if_neg h8]; rfl
      have := cls
      rw [← e1] at this
      exact this
  · refine ok_b (m_fw h _ _ _) (fun q14 hq14 => ?_)
    rw [hq14]
    refine ok_b (asd σ) (fun r hr => ok_b (m_fl h hr.1 hr.2.1 ha hC (nI w)) (fun q hq => ?_))
    rw [hq.1, hq.2.1, sb_all _ hW C (by omega)]
    refine ok_b (m_gcd0 _ _ _ _ h0P hAB (by omega)) (fun g hg => ?_)
    rw [hg, if_pos (nI_ne0 hG hG31), if_pos (nI_ne0 hG hG31)]
    by_cases h0 : nI w = 0
    · rw [if_pos h0, if_pos h0]; exact ok_s ⟨rfl, hq.2.2⟩
    · rw [if_neg h0, if_neg h0]; exact ok_s ⟨rfl, hq.2.2⟩
end
