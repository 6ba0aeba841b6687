/-- what a copy makes of the two sides -/
noncomputable def CI (s1 s2 : St3) (k j : Nat) (M : St6) (s' : St3) (M' : St6) : Prop := (s' = s2 ∧ M' = M) ∨ ∃ I J K mv f, I + K ≤ 24 ∧ J + K ≤ 24 ∧ s' = s3_items s2 (va_cpy (p3_items s1) (p3_items s2) I J K) ∧ M' = s6_items (s6_moved M mv) f ∧ ∀ x, f x = if 24 * j + J ≤ x ∧ x < 24 * j + J + K then p6_items M (24 * k + I + (x - (24 * j + J))) else p6_items M x
theorem copy_cor2 {t : Int32} {ln sz : Nat → Int32} {M : St6} (hM : IM t ln sz M) {s1 s2 : St3} {k j : Nat} (hk : k < 4) (hj : j < 4) (R1 : R3 s1 (ln k) (sz k)) (R2 : R3 s2 (ln j) (sz j)) (b d n : Int32) : ∃ (r : Int32) (s' : St3) (M' : St6), CI s1 s2 k j M s' M' ∧ f_X6_copy M (nI k) b (nI j) d n = some (r, M') ∧ f_X5_copy 0 () s1 s2 (nI k) b (nI j) d n = some (r, s') := by
  have hik := inB_nI hk (n := 4) (by decide)
  have hij := inB_nI hj (n := 4) (by decide)
  have e1 : f_X6_isSheet (nI k) = some 1 := by
    rcases shq (nI k) with ⟨_, _, _, _, e⟩ | ⟨e, _⟩
    · exact e
    · unfold f_X5_isSheet at e
      rw [if_neg (nI_pos (by omega)), if_neg (show ¬ (4 : Int32) ≤ nI k from nI_ge (b := 4) hk (by decide))] at e
      exact absurd (Option.some.inj e) (by decide)
  have e2 : f_X6_isSheet (nI j) = some 1 := by
    rcases shq (nI j) with ⟨_, _, _, _, e⟩ | ⟨e, _⟩
    · exact e
    · unfold f_X5_isSheet at e
      rw [if_neg (nI_pos (by omega)), if_neg (show ¬ (4 : Int32) ≤ nI j from nI_ge (b := 4) hj (by decide))] at e
      exact absurd (Option.some.inj e) (by decide)
  have e3 : f_X5_isSheet (nI k) = some 1 := by
    unfold f_X5_isSheet
    rw [if_neg (nI_pos (by omega)), if_neg (show ¬ (4 : Int32) ≤ nI k from nI_ge (b := 4) hk (by decide))]
  have e4 : f_X5_isSheet (nI j) = some 1 := by
    unfold f_X5_isSheet
    rw [if_neg (nI_pos (by omega)), if_neg (show ¬ (4 : Int32) ≤ nI j from nI_ge (b := 4) hj (by decide))]
  have hck : (nI k).toNatClampNeg = k := nI_clamp (by omega)
  have hcj : (nI j).toNatClampNeg = j := nI_clamp (by omega)
  have el : p6_lanes M = ln := hM.2.2.2.2.2.2.2.2.1
  have ez : p6_sizes M = sz := hM.2.2.2.2.2.2.2.2.2
  unfold f_X6_copy f_X5_copy
  rw [e1, e2, e3, e4, hck, hcj, el]
  simp only [Option.bind_some, n10, ↓reduceIte, hik, hij]
  rcases R1.miss with ⟨m1, c1⟩ | ⟨m1, c1, c1', l1, S1, hS1, z1⟩
  · rw [m1, if_pos c1]
    simp only [Option.bind_some, n10, ↓reduceIte]
    exact ⟨-11, s2, M, Or.inl ⟨rfl, rfl⟩, rfl, rfl⟩
  · rw [m1, if_neg c1]
    simp only [Option.bind_some, ↓reduceIte]
    rcases R2.miss with ⟨m2, c2⟩ | ⟨m2, c2, c2', l2, S2, hS2, z2⟩
    · have hn : ¬ (0 : Int32) ≤ ln j := fun q => by
        have a1 := Int32.lt_iff_toInt_lt.mp c2
        have a2 := Int32.le_iff_toInt_le.mp q
        omega
      rw [m2, if_neg hn]
      simp only [Option.bind_some, n10, ↓reduceIte]
      exact ⟨-11, s2, M, Or.inl ⟨rfl, rfl⟩, rfl, rfl⟩
    · rw [m2, if_pos c2']
      simp only [Option.bind_some, ↓reduceIte]
      obtain ⟨r, w1, w2, w3, w4⟩ := why_eq R2 (ln k) d n
      obtain ⟨r', v1, v2, v3, v4⟩ := why_eq R1 (ln k) b n
      rw [w2 M j hj (by rw [el]) (by rw [ez]), v2 M k hk (by rw [el]) (by rw [ez])]
      simp only [Option.bind_some]
      by_cases hl : p3_lane s1 = p3_lane s2
      · rw [if_pos hl]
        have hl2 : ln k = p3_lane s2 := l1.trans hl
        rw [hl2] at w1
        rw [l1] at v1
        rcases holds_eq z1 hS1 b n with ⟨a1, a2⟩ | ⟨a1, a2⟩
        · have er' : r' = -13 := by rw [v1] at a2; exact Option.some.inj a2
          rw [a1]
          simp only [Option.bind_some, ↓reduceIte]
          by_cases hr : r = 0
          · rw [if_pos hr, er', if_neg (by decide)]
            exact ⟨-13, s2, M, Or.inl ⟨rfl, rfl⟩, rfl, rfl⟩
          · have er : r = -13 := by
              rcases holds_eq z2 hS2 d n with ⟨b1, b2⟩ | ⟨b1, b2⟩
              · rw [w1] at b2; exact Option.some.inj b2
              · rw [w1] at b2; exact absurd (Option.some.inj b2) hr
            rw [if_neg hr, er, if_neg (by decide)]
            exact ⟨-13, s2, M, Or.inl ⟨rfl, rfl⟩, rfl, rfl⟩
        · have er' : r' = 0 := by rw [v1] at a2; exact Option.some.inj a2
          rw [a1]
          simp only [Option.bind_some, n10, ↓reduceIte]
          rcases holds_eq z2 hS2 d n with ⟨b1, b2⟩ | ⟨b1, b2⟩
          · have er : r = -13 := by rw [w1] at b2; exact Option.some.inj b2
            rw [b1, er, if_neg (by decide), if_neg (by decide)]
            exact ⟨-13, s2, M, Or.inl ⟨rfl, rfl⟩, rfl, rfl⟩
          · have er : r = 0 := by rw [w1] at b2; exact Option.some.inj b2
            obtain ⟨J, K, S, eJ, eK, hJK, hS, -, -, -, -⟩ := w4 er
            obtain ⟨I, K', S', eI, eK', hIK, hS', -, -, -, -⟩ := v4 er'
            subst eJ
            subst eI
            subst eK
            have hKK : K = K' := by
              by_cases q : K < 2 ^ 31
              · by_cases q' : K' < 2 ^ 31
                · exact (nI_eq q q').mp eK'
                · omega
              · omega
            subst hKK
            obtain ⟨mv, f, em, hm⟩ := m_copyL hk hj (I := I) (J := J) (K := K) (by omega) (by omega) M
            rw [b1, er, er', if_pos rfl, if_pos (by decide), em]
            simp only [Option.bind_some, n10, ↓reduceIte]
            rw [if_pos ⟨nI_pos (by omega), nI_pos (by omega), nI_pos (by omega), by rw [nI_clamp (by omega), nI_clamp (by omega)]; omega, by rw [nI_clamp (by omega), nI_clamp (by omega)]; omega⟩]
            refine ⟨nI K, s3_items s2 (va_cpy (p3_items s1) (p3_items s2) (nI I).toNatClampNeg (nI J).toNatClampNeg (nI K).toNatClampNeg), s6_items (s6_moved M mv) f, Or.inr ⟨I, J, K, mv, f, by omega, by omega, ?_, rfl, hm⟩, rfl, rfl⟩
            rw [nI_clamp (by omega), nI_clamp (by omega), nI_clamp (by omega)]
      · rw [if_neg hl]
        have er : r = -12 := by
          have : f_X3_refusal s2 (ln k) d n = some (-12) := by
            unfold f_X3_refusal
            rw [m2]
            simp only [Option.bind_some, ↓reduceIte]
            rw [if_neg (fun q => hl (by rw [q]; exact l1.symm))]
          rw [w1] at this
          exact Option.some.inj this
        rw [er, if_neg (by decide), if_neg (by decide)]
        exact ⟨-12, s2, M, Or.inl ⟨rfl, rfl⟩, rfl, rfl⟩
theorem ci_r2 {X : SX} {M M' : St6} (h : R2 X M) {k j : Nat} (hk : k < 4) (hj : j < 4) {s' : St3} (hc : CI (xsh X k) (xsh X j) k j M s' M') : R2 (sxsh X (va_up (xsh X) j s')) M' := by
  rcases hc with ⟨rfl, rfl⟩ | ⟨I, J, K, mv, f, h1, h2, rfl, rfl, hf⟩
  · rw [sx_same]; exact h
  · refine r2_it h (k := j) _ mv f (p6_lanes M) (p6_sizes M) (fun i hi => ?_) (fun s i hs hk' hi => ?_)
    · show va_cpy (p3_items (xsh X k)) (p3_items (xsh X j)) I J K i = f (24 * j + i)
      unfold va_cpy
      rw [hf]
      by_cases e : J ≤ i ∧ i < J + K
      · rw [if_pos e, if_pos (by omega), h.2.2.2.2.2 k hk (I + (i - J)) (by omega)]
        show p6_items M (24 * k + (I + (i - J))) = _
        rw [show 24 * k + (I + (i - J)) = 24 * k + I + (24 * j + i - (24 * j + J)) by omega]
      · rw [if_neg e, if_neg (by omega)]
        exact h.2.2.2.2.2 j hj i hi
    · rw [hf, if_neg (by omega)]
theorem s2_copy {X : SX} {M : St6} (hI : Inv1 X M) (h : R2 X M) (a b d e n : Int32) : S2 (FX_copy X a b d e n) (f_X6_copy M a b d e n) := by
  obtain ⟨T, ln, sz, hT, c, hM⟩ := hI
  have un : ∀ s, f_X5_copyS (xk X) () s a b d e n = f_X5_copy 0 () s s a b d e n := fun s => rfl
  have uk : ∀ s s', f_X5_copy (xk X) () s s' a b d e n = f_X5_copy 0 () s s' a b d e n := fun s s' => rfl
  unfold FX_copy
  by_cases hs : sj a = sj d
  · rw [if_pos hs, un]
    rcases shq a with ⟨k, hk, rfl, e1, e2⟩ | ⟨e1, e2⟩
    · rcases shq d with ⟨j, hj, rfl, e3, e4⟩ | ⟨e3, e4⟩
      · rw [sj_nI hk, sj_nI hj] at hs
        subst hs
        rw [sj_nI hk]
        obtain ⟨r, s', M', h1, h3, h4⟩ := copy_cor2 hM hk hk (c.2.2.2.2.2.2 k hk) (c.2.2.2.2.2.2 k hk) b e n
        rw [h4, h3]
        exact ⟨r, _, M', rfl, rfl, ci_r2 h hk hk h1⟩
      · unfold f_X5_copy f_X6_copy
        rw [e1, e2, e3, e4]
        simp only [Option.bind_some, n10, ↓reduceIte]
        exact ⟨-1, X, M, by rw [sx_same], rfl, h⟩
    · unfold f_X5_copy f_X6_copy
      rw [e1, e2]
      exact ⟨-1, X, M, by show some (_, sxsh X (va_up (xsh X) (sj a) (xsh X (sj a)))) = _; rw [sx_same], rfl, h⟩
  · rw [if_neg hs, uk]
    rcases shq a with ⟨k, hk, rfl, e1, e2⟩ | ⟨e1, e2⟩
    · rcases shq d with ⟨j, hj, rfl, e3, e4⟩ | ⟨e3, e4⟩
      · rw [sj_nI hk, sj_nI hj]
        obtain ⟨r, s', M', h1, h3, h4⟩ := copy_cor2 hM hk hj (c.2.2.2.2.2.2 k hk) (c.2.2.2.2.2.2 j hj) b e n
        rw [h4, h3]
        exact ⟨r, _, M', rfl, rfl, ci_r2 h hk hj h1⟩
      · unfold f_X5_copy f_X6_copy
        rw [e1, e2, e3, e4]
        simp only [Option.bind_some, n10, ↓reduceIte]
        exact ⟨-1, X, M, by rw [sx_same], rfl, h⟩
    · unfold f_X5_copy f_X6_copy
      rw [e1, e2]
      exact ⟨-1, X, M, by show some (_, sxsh X (va_up (xsh X) (sj d) (xsh X (sj d)))) = _; rw [sx_same], rfl, h⟩
