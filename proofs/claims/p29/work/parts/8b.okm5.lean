/-! THE REFERENCE: forget -/
theorem bit01 : ∀ W, W < 64 → ∀ k, k < 6 → ((nI W >>> (nI k &&& 31)) &&& 1) = 0 ∨ ((nI W >>> (nI k &&& 31)) &&& 1) = 1 := by decide +kernel
theorem bit00 : ∀ k, k < 6 → ¬ (((nI 0) >>> (nI k &&& 31)) &&& 1) = 1 := by decide +kernel
theorem set_self : ∀ W, W < 64 → (nI W &&& (nI W ^^^ (-1))) = 0 ∧ (nI 0 &&& (nI W ^^^ (-1))) = 0 := by decide +kernel
section
variable {t : Int32} {ln sz : Nat → Int32}
theorem f131_ok (σ : St6) (x1 x3 x5 x6 : Int32) {C W S : Nat} (hC : C ≤ 10) (hW : W < 64) : ok (fun q => ∃ A, q.1 = nI A ∧ A ≤ 10 ^ 6 ∧ ((C < 10 ∧ S = 0) ∨ (1 ≤ C ∧ S = W) → 0 < A)) (lp_X6_forget_131 σ x1 (nI C) x3 (nI W) x5 x6 (nI S) FU 1 0) := by
  refine lpG (fun n z a => lp_X6_forget_131 σ x1 (nI C) x3 (nI W) x5 x6 (nI S) n a z) 6 (by decide) (fun k a => ∃ A, a = nI A ∧ A ≤ 10 ^ k ∧ ((C < 10 ∧ S = 0) ∨ (1 ≤ C ∧ S = W) → 0 < A)) _ (fun n z s => rfl) (fun _ _ _ => rfl) (fun s hs => ok_s hs) (fun n k s hk hs ih => ?_) 1 ⟨1, rfl, Nat.le_refl _, fun _ => by decide⟩
  obtain ⟨A, e, hA, hp⟩ := hs
  have hpw : 10 ^ k ≤ 10 ^ (k + 1) := Nat.pow_le_pow_right (by decide) (by omega)
  refine ok_i (fun _ => ih _ ⟨A, ?_, by omega, hp⟩) (fun hb => ok_i (fun h1 => ih _ ⟨A * C, ?_, ?_, fun hc => ?_⟩) (fun h1 => ih _ ⟨A * (10 - C), ?_, ?_, fun hc => ?_⟩))
  · rw [e]; exact Int32.mul_one _
  · rw [e, nI_mul]
  · rw [Nat.pow_succ]; exact Nat.mul_le_mul hA hC
  · rcases hc with hc | hc
    · rw [hc.2] at h1
      exact absurd h1 (bit00 k hk)
    · exact Nat.mul_pos (hp (Or.inr hc)) hc.1
  · rw [e, show (10 : Int32) = nI 10 from rfl, pk_sub hC, nI_mul]
  · rw [Nat.pow_succ]; exact Nat.mul_le_mul hA (by omega)
  · rcases hc with hc | hc
    · exact Nat.mul_pos (hp (Or.inl hc)) (by omega)
    · rw [hc.2] at h1
      rcases bit01 W hW k hk with q | q
      · exact absurd q hb
      · exact absurd q h1
theorem gcdL (σ : St6) (x3 x5 x6 : Int32) : ∀ m n a b, a < 2 ^ 31 → b ≤ a → 0 < a → a * b < 2 ^ m → m < n → ok (fun q => ¬ q.1 = 0) (lp_X6_forget_232 σ x3 x5 x6 n (nI a) (nI b)) := by
  intro m
  induction m with
  | zero =>
    intro n a b ha hb h0 hm hn
    obtain ⟨n, rfl⟩ : ∃ m, n = m + 1 := ⟨n - 1, by omega⟩
    have hb0 : b = 0 := by
      rcases Nat.eq_zero_or_pos b with q | q
      · exact q
      · have := Nat.mul_pos h0 q
        simp at hm
        omega
    subst hb0
    rw [lp_X6_forget_232, if_pos nI_0]
    exact ok_s (nI_ne0 h0 ha)
  | succ m ih =>
    intro n a b ha hb h0 hm hn
    obtain ⟨n, rfl⟩ : ∃ m, n = m + 1 := ⟨n - 1, by omega⟩
    rw [lp_X6_forget_232]
    refine ok_i (fun _ => ok_s (nI_ne0 h0 ha)) (fun hb0 => ok_g hb0 ?_)
    have hb1 : 0 < b := by
      rcases Nat.eq_zero_or_pos b with q | q
      · subst q; exact absurd nI_0 hb0
      · exact q
    rw [pk_rem ha hb1 (by omega)]
    have hr : a % b < b := Nat.mod_lt _ hb1
    have hd : b * (a / b) + a % b = a := Nat.div_add_mod a b
    have hq : 1 ≤ a / b := Nat.div_pos hb hb1
    have hbq : b * 1 ≤ b * (a / b) := Nat.mul_le_mul_left b hq
    have h2 : 2 * (a % b) ≤ a := by omega
    have h3 : b * (2 * (a % b)) ≤ b * a := Nat.mul_le_mul_left b h2
    have h4 : b * a = a * b := Nat.mul_comm _ _
    have h5 : b * (2 * (a % b)) = 2 * (b * (a % b)) := by rw [Nat.mul_left_comm]
    rw [Nat.pow_succ] at hm
    exact ih n b (a % b) (by omega) (by omega) hb1 (by omega) (by omega)
theorem f232_ok (σ : St6) (x3 x5 x6 : Int32) {A B : Nat} (hB : 0 < B) (hAB : A ≤ B) (h31 : B < 2 ^ 31) : ok (fun q => ¬ q.1 = 0) (lp_X6_forget_232 σ x3 x5 x6 FU (nI A) (nI B)) := by
  obtain ⟨n, hn⟩ : ∃ n, FU = n + 1 := ⟨99999, rfl⟩
  have hn2 : 62 < n := by unfold FU at hn; omega
  rw [hn, lp_X6_forget_232]
  have hb0 := nI_ne0 hB h31
  rw [if_neg hb0]
  refine ok_g hb0 ?_
  rw [pk_rem (by omega) hB h31]
  have hr : A % B < B := Nat.mod_lt _ hB
  have hm : B * (A % B) < 2 ^ 31 * 2 ^ 31 := Nat.mul_lt_mul'' h31 (by omega)
  exact gcdL σ x3 x5 x6 62 n B (A % B) h31 (by omega) hB (by rw [show (62 : Nat) = 31 + 31 from rfl, Nat.pow_add]; exact hm) hn2
theorem okm_forget {σ : St6} (h : IM t ln sz σ) (x y w : Int32) : ok (fun q => IM t ln sz q.2) (f_X6_forget σ x y w) := by
  obtain ⟨N, hN, e⟩ := h.people
  unfold f_X6_forget
  refine ok_b (okm_isPerson h x) (fun r hr => ok_i (fun _ => ok_s h) (fun h0 => ?_))
  have hx := (hr.resolve_left h0).2
  refine ok_b (ok_in _ _ _) (fun r2 hr2 => ok_i (fun _ => ok_s h) (fun h1 => ?_))
  obtain ⟨C, hC, rfl⟩ := rg_ask hr2 h1 (H := 10) (by decide) (by decide) (by decide)
  refine ok_b (ok_in _ _ _) (fun _ _ => ok_i (fun _ => ok_s h) (fun _ => ?_))
  refine ok_b (P := fun q => lo q.1 N) ?_ (fun q14 hq14 => ?_)
  · refine lpG (fun n z a => lp_X6_forget_38 σ x (nI C) w n a z) N (by omega) (fun k a => lo a k) _ (fun n z s => rfl) (fun _ _ _ => e) (fun s hs => ok_s hs) (fun n k s hk hs ih => ?_) 0 lo_0
    have hk6 : k < 6 := by omega
    exact ok_b (okm_isWinding σ) (fun _ _ => ok_i (fun _ => ih _ (lo_up hs)) (fun _ => ok_b (okm_isStopped σ (rg_nI hk6)) (fun _ _ => ok_i (fun _ => ok_b (okm_whom h (rg_nI hk6)) (fun _ _ => ok_i (fun _ => ih _ (lo_up hs)) (fun _ => ih _ (lo_set hs (by omega))))) (fun _ => ih _ (lo_up hs)))))
  · obtain ⟨W, hW, eW⟩ := lo_64 hq14 hN
    rw [eW]
    refine ok_b (ia_asides h e) (fun s1 h1 => ok_b (P := fun q => IM t ln sz q.2.2.2 ∧ ∃ A B, q.1 = nI A ∧ q.2.1 = nI B ∧ A ≤ B ∧ B < 2 ^ 31 ∧ 0 < B) ?_ (fun q27 hq => ?_))
    · refine ok_w (P := fun q => IA t ln sz N q.2.2.2 ∧ ∃ A B, q.1 = nI A ∧ q.2.1 = nI B ∧ A ≤ B ∧ B ≤ 64 * 1000000 ∧ (C < 10 → 0 < 64 → 0 < B) ∧ (1 ≤ C → W < 64 → 0 < B)) ?_ (fun q hq => ?_)
      · refine lpG (fun n z (s : Int32 × Int32 × St6) => lp_X6_forget_108 x (nI C) w (nI W) n s.1 s.2.1 z s.2.2) 64 (by decide) (fun k s => IA t ln sz N s.2.2 ∧ ∃ A B, s.1 = nI A ∧ s.2.1 = nI B ∧ A ≤ B ∧ B ≤ k * 1000000 ∧ (C < 10 → 0 < k → 0 < B) ∧ (1 ≤ C → W < k → 0 < B)) _ (fun n z s => rfl) (fun _ s hs => rfl) (fun s hs => ok_s hs) (fun n k s hk hs ih => ?_) (0, 0, s1) ⟨h1, 0, 0, rfl, rfl, Nat.le_refl _, by omega, fun _ q => absurd q (by decide), fun _ q => absurd q (by omega)⟩
        obtain ⟨ha, A, B, eA, eB, hAB, hB, hz, hw⟩ := hs
        refine ok_i (fun _ => ?_) (fun hn => ih (s.1, s.2.1, s.2.2) ⟨ha, A, B, eA, eB, hAB, Nat.le_trans hB (Nat.mul_le_mul_right 1000000 (Nat.le_succ k)), fun c _ => ?_, fun c _ => ?_⟩)
        · refine ok_b (f131_ok s.2.2 x w s.1 s.2.1 (by omega) hW) (fun q hq => ok_b (ia_goesBy ha _) (fun s2 h2 => ok_b (okm_isStopped s2 hx) (fun _ _ => ?_)))
          obtain ⟨P, eP, hP', hp0⟩ := hq
          have hP : P ≤ 1000000 := Nat.le_trans hP' (by decide)
          have hBP : B + P ≤ (k + 1) * 1000000 := by rw [Nat.succ_mul]; exact Nat.add_le_add hB hP
          have hz' : C < 10 → 0 < k + 1 → 0 < B + P := fun c _ => by
            rcases Nat.eq_zero_or_pos k with k0 | k0
            · have := hp0 (Or.inl ⟨c, k0⟩); omega
            · have := hz c k0; omega
          have hw' : 1 ≤ C → W < k + 1 → 0 < B + P := fun c hk' => by
            by_cases hkW : k = W
            · have := hp0 (Or.inr ⟨c, hkW⟩); omega
            · have := hw c (by omega); omega
          refine ok_i (fun _ => ok_b (ia_backs h2) (fun s3 h3 => ih (_, _, s3) ⟨h3, A, B + P, ?_, ?_, by omega, hBP, hz', hw'⟩)) (fun _ => ok_b (ia_backs h2) (fun s3 h3 => ih (_, _, s3) ⟨h3, A + P, B + P, ?_, ?_, by omega, hBP, hz', hw'⟩))
          · show s.1 + 0 = nI A
            rw [eA]; exact Int32.add_zero _
          · show s.2.1 + q.1 = nI (B + P)
            rw [eB, eP, nI_add]
          · show s.1 + q.1 = nI (A + P)
            rw [eA, eP, nI_add]
          · show s.2.1 + q.1 = nI (B + P)
            rw [eB, eP, nI_add]
        · rcases Nat.eq_zero_or_pos k with k0 | k0
          · subst k0; exact absurd (set_self W hW).2 hn
          · exact hz c k0
        · by_cases hkW : k = W
          · subst hkW; exact absurd (set_self k hW).1 hn
          · exact hw c (by omega)
      · obtain ⟨ha, A, B, eA, eB, hAB, hB, hz, hw⟩ := hq
        refine ⟨ha.1, A, B, eA, eB, hAB, Nat.lt_of_le_of_lt hB (by decide), ?_⟩
        by_cases hC9 : C < 10
        · exact hz hC9 (by decide)
        · exact hw (by omega) hW
    · obtain ⟨hi, A, B, eA, eB, hAB, hB31, hB0⟩ := hq
      rw [eA, eB]
      refine ok_b (f232_ok _ _ _ _ hB0 hAB hB31) (fun q30 hq30 => ?_)
      exact ok_i (fun _ => ok_g hq30 (ok_s hi)) (fun _ => ok_g hq30 (ok_s hi))
end
