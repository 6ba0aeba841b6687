/-! COPY: class and reference alike -/
theorem holds_eq {s : St3} {S : Nat} (e : p3_size s = nI S) (hS : S ≤ 24) (i n : Int32) : (f_X3_holds s i n = some 0 ∧ f_X3_refusal s (p3_lane s) i n = some (-13)) ∨ (f_X3_holds s i n = some 1 ∧ f_X3_refusal s (p3_lane s) i n = some 0) := by
  have hb : f_X3_holds s i n = some 0 ∨ f_X3_holds s i n = some 1 := by
    unfold f_X3_holds
    by_cases h1 : i < 0
    · rw [if_pos h1]; exact Or.inl rfl
    · rw [if_neg h1]
      by_cases h2 : n < 0
      · rw [if_pos h2]; exact Or.inl rfl
      · rw [if_neg h2]
        by_cases h3 : p3_size s - n < i
        · rw [if_pos h3]; exact Or.inl rfl
        · rw [if_neg h3]; exact Or.inr rfl
  have hm : f_X3_isMissing s = some 0 := by
    unfold f_X3_isMissing
    rw [if_neg (by rw [e]; exact nIm1 hS)]
  unfold f_X3_refusal
  rw [hm]
  rcases hb with hb | hb
  · exact Or.inl ⟨hb, by rw [hb]; simp⟩
  · exact Or.inr ⟨hb, by rw [hb]; simp⟩
theorem R3.miss {s : St3} {l z : Int32} (h : R3 s l z) : (f_X3_isMissing s = some 1 ∧ l < 0) ∨ (f_X3_isMissing s = some 0 ∧ ¬ l < 0 ∧ (0 : Int32) ≤ l ∧ l = p3_lane s ∧ ∃ S : Nat, S ≤ 24 ∧ p3_size s = nI S) := by
  unfold f_X3_isMissing
  rcases h with ⟨h1, h2⟩ | ⟨S, hS, h1, h2, h3, h4⟩
  · exact Or.inl ⟨by rw [if_pos h1], h2⟩
  · refine Or.inr ⟨by rw [if_neg (by rw [h1]; exact nIm1 hS)], h4, ?_, h3, S, hS, h1⟩
    have : ¬ l.toInt < (0 : Int32).toInt := fun q => h4 (Int32.lt_iff_toInt_lt.mpr q)
    exact Int32.le_iff_toInt_le.mpr (by omega)
theorem okm_copyL {t : Int32} {ln sz : Nat → Int32} {M : St6} (h : IM t ln sz M) {k j I J K : Nat} (hk : k < 4) (hj : j < 4) (h1 : I + K ≤ 24) (h2 : J + K ≤ 24) : ∃ M', ((lp_X6_copy_91 (nI k) (nI I) (nI j) (nI J) (nI K) FU 0 M).bind (fun q24 => ((lp_X6_copy_128 (nI j) (nI J) (nI K) FU 0 q24.2).bind (fun q25 => some (nI K, q25.2))))) = some (nI K, M') ∧ IM t ln sz M' := by
  obtain ⟨q, e1, hq⟩ := lpG (fun n z s => lp_X6_copy_91 (nI k) (nI I) (nI j) (nI J) (nI K) n z s) K (by omega) (fun _ s => IM t ln sz s) (fun q => IM t ln sz q.2) (fun n z s => rfl) (fun _ _ _ => rfl) (fun s hs => ok_s hs) (fun n i s hi hs ih => ok_g (by rw [show (24 : Int32) = nI 24 from rfl, nI_mul, nI_add, nI_add]; exact inB_nI (by omega) (by decide)) (ok_g (inB_nI (by omega) (by decide)) (ih _ hs))) M h
  obtain ⟨q2, e2, hq2⟩ := lpG (fun n z s => lp_X6_copy_128 (nI j) (nI J) (nI K) n z s) K (by omega) (fun _ s => IM t ln sz s) (fun q => IM t ln sz q.2) (fun n z s => rfl) (fun _ _ _ => rfl) (fun s hs => ok_s hs) (fun n i s hi hs ih => ok_g (inB_nI (by omega) (by decide)) (ok_g (by rw [show (24 : Int32) = nI 24 from rfl, nI_mul, nI_add, nI_add]; exact inB_nI (by omega) (by decide)) (ih _ hs))) q.2 hq
  have e1' : lp_X6_copy_91 (nI k) (nI I) (nI j) (nI J) (nI K) FU 0 M = some q := e1
  have e2' : lp_X6_copy_128 (nI j) (nI J) (nI K) FU 0 q.2 = some q2 := e2
  refine ⟨q2.2, ?_, hq2⟩
  rw [e1']
  simp only [Option.bind_some]
  rw [e2']
  rfl
/-- what is copied between two sheets, the same or not -/
theorem copy_core {t : Int32} {ln sz : Nat → Int32} {M : St6} (hM : IM t ln sz M) {s1 s2 : St3} {k j : Nat} (hk : k < 4) (hj : j < 4) (R1 : R3 s1 (ln k) (sz k)) (R2 : R3 s2 (ln j) (sz j)) (b d n : Int32) : ∃ (r : Int32) (s' : St3) (M' : St6), SQ s' s2 ∧ IM t ln sz M' ∧ f_X6_copy M (nI k) b (nI j) d n = some (r, M') ∧ f_X5_copy 0 () s1 s2 (nI k) b (nI j) d n = some (r, s') := by
  have hik := inB_nI hk (n := 4) (by decide)
  have hij := inB_nI hj (n := 4) (by decide)
  have e1 : f_X6_isSheet (nI k) = some 1 := by
    rcases shq (nI k) with ⟨_, _, _, _, e⟩ | ⟨e, _⟩
    · exact e
    · unfold f_X5_isSheet at e
      rw [if_neg (nI_pos (by omega)), if_neg (show ¬ (4 : Int32) ≤ nI k from nI_ge (b := 4) hk (by decide))] at e
      exact absurd (Option.some.inj e) (by decide)
  have e2 : f_X6_isSheet (nI j) = some 1 := by
    rcases shq (nI j) with ⟨_, _, _, _, e⟩ | ⟨e, _⟩
    · exact e
    · unfold f_X5_isSheet at e
      rw [if_neg (nI_pos (by omega)), if_neg (show ¬ (4 : Int32) ≤ nI j from nI_ge (b := 4) hj (by decide))] at e
      exact absurd (Option.some.inj e) (by decide)
  have e3 : f_X5_isSheet (nI k) = some 1 := by
    unfold f_X5_isSheet
    rw [if_neg (nI_pos (by omega)), if_neg (show ¬ (4 : Int32) ≤ nI k from nI_ge (b := 4) hk (by decide))]
  have e4 : f_X5_isSheet (nI j) = some 1 := by
    unfold f_X5_isSheet
    rw [if_neg (nI_pos (by omega)), if_neg (show ¬ (4 : Int32) ≤ nI j from nI_ge (b := 4) hj (by decide))]
  have hck : (nI k).toNatClampNeg = k := nI_clamp (by omega)
  have hcj : (nI j).toNatClampNeg = j := nI_clamp (by omega)
  have el : p6_lanes M = ln := hM.2.2.2.2.2.2.2.2.1
  have ez : p6_sizes M = sz := hM.2.2.2.2.2.2.2.2.2
  unfold f_X6_copy f_X5_copy
  rw [e1, e2, e3, e4, hck, hcj, el]
  simp only [Option.bind_some, n10, ↓reduceIte, hik, hij]
  rcases R1.miss with ⟨m1, c1⟩ | ⟨m1, c1, c1', l1, S1, hS1, z1⟩
  · rw [m1, if_pos c1]
    simp only [Option.bind_some, n10, ↓reduceIte]
    exact ⟨-11, s2, M, ⟨rfl, rfl⟩, hM, rfl, rfl⟩
  · rw [m1, if_neg c1]
    simp only [Option.bind_some, ↓reduceIte]
    rcases R2.miss with ⟨m2, c2⟩ | ⟨m2, c2, c2', l2, S2, hS2, z2⟩
    · have hn : ¬ (0 : Int32) ≤ ln j := fun q => by
        have a1 := Int32.lt_iff_toInt_lt.mp c2
        have a2 := Int32.le_iff_toInt_le.mp q
        omega
      rw [m2, if_neg hn]
      simp only [Option.bind_some, n10, ↓reduceIte]
      exact ⟨-11, s2, M, ⟨rfl, rfl⟩, hM, rfl, rfl⟩
    · rw [m2, if_pos c2']
      simp only [Option.bind_some, ↓reduceIte]
      obtain ⟨r, w1, w2, w3, w4⟩ := why_eq R2 (ln k) d n
      obtain ⟨r', v1, v2, v3, v4⟩ := why_eq R1 (ln k) b n
      rw [w2 M j hj (by rw [el]) (by rw [ez]), v2 M k hk (by rw [el]) (by rw [ez])]
      simp only [Option.bind_some]
      by_cases hl : p3_lane s1 = p3_lane s2
      · rw [if_pos hl]
        have hl2 : ln k = p3_lane s2 := l1.trans hl
        rw [hl2] at w1
        rw [l1] at v1
        rcases holds_eq z1 hS1 b n with ⟨a1, a2⟩ | ⟨a1, a2⟩
        · have er' : r' = -13 := by rw [v1] at a2; exact Option.some.inj a2
          rw [a1]
          simp only [Option.bind_some, ↓reduceIte]
          by_cases hr : r = 0
          · rw [if_pos hr, er', if_neg (by decide)]
            exact ⟨-13, s2, M, ⟨rfl, rfl⟩, hM, rfl, rfl⟩
          · have er : r = -13 := by
              rcases holds_eq z2 hS2 d n with ⟨b1, b2⟩ | ⟨b1, b2⟩
              · rw [w1] at b2; exact Option.some.inj b2
              · rw [w1] at b2; exact absurd (Option.some.inj b2) hr
            rw [if_neg hr, er, if_neg (by decide)]
            exact ⟨-13, s2, M, ⟨rfl, rfl⟩, hM, rfl, rfl⟩
        · have er' : r' = 0 := by rw [v1] at a2; exact Option.some.inj a2
          rw [a1]
          simp only [Option.bind_some, n10, ↓reduceIte]
          rcases holds_eq z2 hS2 d n with ⟨b1, b2⟩ | ⟨b1, b2⟩
          · have er : r = -13 := by rw [w1] at b2; exact Option.some.inj b2
            rw [b1, er, if_neg (by decide), if_neg (by decide)]
            exact ⟨-13, s2, M, ⟨rfl, rfl⟩, hM, rfl, rfl⟩
          · have er : r = 0 := by rw [w1] at b2; exact Option.some.inj b2
            obtain ⟨J, K, S, eJ, eK, hJK, hS, -, -, -, -⟩ := w4 er
            obtain ⟨I, K', S', eI, eK', hIK, hS', -, -, -, -⟩ := v4 er'
            subst eJ
            subst eI
            subst eK
            have hKK : K = K' := by
              by_cases q : K < 2 ^ 31
              · by_cases q' : K' < 2 ^ 31
                · exact (nI_eq q q').mp eK'
                · omega
              · omega
            subst hKK
            obtain ⟨M', em, hm⟩ := okm_copyL hM hk hj (I := I) (J := J) (K := K) (by omega) (by omega)
            rw [b1, er, er', if_pos rfl, if_pos (by decide), em]
            simp only [Option.bind_some, n10, ↓reduceIte]
            rw [if_pos ⟨nI_pos (by omega), nI_pos (by omega), nI_pos (by omega), by rw [nI_clamp (by omega), nI_clamp (by omega)]; omega, by rw [nI_clamp (by omega), nI_clamp (by omega)]; omega⟩]
            exact ⟨nI K, s3_items s2 (va_cpy (p3_items s1) (p3_items s2) (nI I).toNatClampNeg (nI J).toNatClampNeg (nI K).toNatClampNeg), M', ⟨rfl, rfl⟩, hm, rfl, rfl⟩
      · rw [if_neg hl]
        have er : r = -12 := by
          have : f_X3_refusal s2 (ln k) d n = some (-12) := by
            unfold f_X3_refusal
            rw [m2]
            simp only [Option.bind_some, ↓reduceIte]
            rw [if_neg (fun q => hl (by rw [q]; exact l1.symm))]
          rw [w1] at this
          exact Option.some.inj this
        rw [er, if_neg (by decide), if_neg (by decide)]
        exact ⟨-12, s2, M, ⟨rfl, rfl⟩, hM, rfl, rfl⟩
theorem s1_copy {X : SX} {M : St6} (h : Inv1 X M) (a b d e n : Int32) : ∃ (r : Int32) (X' : SX) (M' : St6), FX_copy X a b d e n = some (r, X') ∧ f_X6_copy M a b d e n = some (r, M') ∧ Inv1 X' M' := by
  obtain ⟨T, ln, sz, hT, c, hM⟩ := h
  have up : ∀ k s M', SQ s (xsh X k) → IM (nI T) ln sz M' → Inv1 (sxsh X (va_up (xsh X) k s)) M' := fun k s M' hs hm => ⟨T, ln, sz, hT, ⟨c.1, c.2.1, c.2.2.1, c.2.2.2.1, c.2.2.2.2.1, c.2.2.2.2.2.1, cg_up c hs⟩, hm⟩
  have un : ∀ s, f_X5_copyS (xk X) () s a b d e n = f_X5_copy 0 () s s a b d e n := fun s => rfl
  have uk : ∀ s s', f_X5_copy (xk X) () s s' a b d e n = f_X5_copy 0 () s s' a b d e n := fun s s' => rfl
  unfold FX_copy
  by_cases hs : sj a = sj d
  · rw [if_pos hs, un]
    rcases shq a with ⟨k, hk, rfl, e1, e2⟩ | ⟨e1, e2⟩
    · rcases shq d with ⟨j, hj, rfl, e3, e4⟩ | ⟨e3, e4⟩
      · rw [sj_nI hk, sj_nI hj] at hs
        subst hs
        rw [sj_nI hk]
        obtain ⟨r, s', M', h1, h2, h3, h4⟩ := copy_core hM hk hk (c.2.2.2.2.2.2 k hk) (c.2.2.2.2.2.2 k hk) b e n
        rw [h4, h3]
        exact ⟨r, _, M', rfl, rfl, up k s' M' h1 h2⟩
      · unfold f_X5_copy f_X6_copy
        rw [e1, e2, e3, e4]
        simp only [Option.bind_some, n10, ↓reduceIte]
        exact ⟨-1, _, M, rfl, rfl, up _ _ _ ⟨rfl, rfl⟩ hM⟩
    · unfold f_X5_copy f_X6_copy
      rw [e1, e2]
      exact ⟨-1, _, M, rfl, rfl, up _ _ _ ⟨rfl, rfl⟩ hM⟩
  · rw [if_neg hs, uk]
    rcases shq a with ⟨k, hk, rfl, e1, e2⟩ | ⟨e1, e2⟩
    · rcases shq d with ⟨j, hj, rfl, e3, e4⟩ | ⟨e3, e4⟩
      · rw [sj_nI hk, sj_nI hj]
        obtain ⟨r, s', M', h1, h2, h3, h4⟩ := copy_core hM hk hj (c.2.2.2.2.2.2 k hk) (c.2.2.2.2.2.2 j hj) b e n
        rw [h4, h3]
        exact ⟨r, _, M', rfl, rfl, up j s' M' h1 h2⟩
      · unfold f_X5_copy f_X6_copy
        rw [e1, e2, e3, e4]
        simp only [Option.bind_some, n10, ↓reduceIte]
        exact ⟨-1, _, M, rfl, rfl, up _ _ _ ⟨rfl, rfl⟩ hM⟩
    · unfold f_X5_copy f_X6_copy
      rw [e1, e2]
      exact ⟨-1, _, M, rfl, rfl, up _ _ _ ⟨rfl, rfl⟩ hM⟩
