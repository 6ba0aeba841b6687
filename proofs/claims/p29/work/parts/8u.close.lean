/-! THE FULL RELATION: a close -/
section
variable {M : St6} {c : St4} {T : Nat}
theorem flt1 (R : Nat → Int32) (P : Nat) : ¬ p6_isFault (mS M R 1 P) = 0 := by show ¬ (1 : Int32) = 0; decide
theorem jF235 (rec : Int32 → St6 → Option (Int32 × St6)) (x1 x3 x4 x5 x6 : Int32) (R : Nat → Int32) (P : Nat) : jn_X6_peopleRead_j235 rec x1 x3 x4 x5 x6 (mS M R 1 P) = rec (x1 + 1) (mS M R 1 P) := by
  unfold jn_X6_peopleRead_j235
  rw [if_neg (flt1 R P)]
theorem jF223 (rec : Int32 → St6 → Option (Int32 × St6)) (x1 x3 x4 x5 y : Int32) (R : Nat → Int32) (P : Nat) : jn_X6_peopleRead_j223 rec x1 x3 x4 x5 y (mS M R 1 P) = rec (x1 + 1) (mS M R 1 P) := by
  unfold jn_X6_peopleRead_j223
  rw [bd_eq (mustF R y P), bd_eq (numF R 1 12 P)]
  exact jF235 rec x1 x3 x4 x5 0 R P
theorem jF198 (rec : Int32 → St6 → Option (Int32 × St6)) (x1 x3 x4 x5 y : Int32) (R : Nat → Int32) (P : Nat) : jn_X6_peopleRead_j198 rec x1 x3 x4 x5 y (mS M R 1 P) = rec (x1 + 1) (mS M R 1 P) := by
  unfold jn_X6_peopleRead_j198
  rw [bd_eq (mustF R y P), if_neg (flt1 R P)]
  exact jF223 rec x1 x3 x4 x5 0 R P
theorem jF119 (rec : Int32 → St6 → Option (Int32 × St6)) (x1 x3 y : Int32) (R : Nat → Int32) (P : Nat) : jn_X6_peopleRead_j119 rec x1 x3 y (mS M R 1 P) = rec (x1 + 1) (mS M R 1 P) := by
  unfold jn_X6_peopleRead_j119
  rw [bd_eq (mustF R y P), bd_eq (numF R 0 30 P), if_neg (flt1 R P)]
  exact jF235 rec x1 x3 0 (-4) 1 R P
theorem jF108 (rec : Int32 → St6 → Option (Int32 × St6)) (x1 y : Int32) (R : Nat → Int32) (P : Nat) : jn_X6_peopleRead_j108 rec x1 y (mS M R 1 P) = rec (x1 + 1) (mS M R 1 P) := by
  unfold jn_X6_peopleRead_j108
  by_cases h : y < 0
  · rw [if_pos h]; exact jF119 rec x1 y 0 R P
  · rw [if_neg h]; exact jF119 rec x1 y 1 R P
theorem jF41 (rec : Int32 → St6 → Option (Int32 × St6)) (x1 : Int32) (R : Nat → Int32) (P : Nat) : jn_X6_peopleRead_j41 rec x1 (mS M R 1 P) = rec (x1 + 1) (mS M R 1 P) := by
  unfold jn_X6_peopleRead_j41 jn_X6_peopleRead_j56
  rw [if_neg (flt1 R P), if_neg (by decide), if_neg (by decide), if_neg (by decide), if_neg (by decide), if_neg (by decide)]
  exact jF108 rec x1 (-1) R P
noncomputable def up4 (R : Nat → Int32) (k : Nat) (a b d e : Int32) : Nat → Int32 := upd (upd (upd (upd R (4 * k) a) (4 * k + 1) b) (4 * k + 2) d) (4 * k + 3) e
theorem up4_o {R : Nat → Int32} {k : Nat} {a b d e : Int32} {j : Nat} (h : j < 4 * k) : up4 R k a b d e j = R j := by
  unfold up4
  rw [pk_un (by omega), pk_un (by omega), pk_un (by omega), pk_un (by omega)]
theorem up4_k (R : Nat → Int32) (k : Nat) (a b d e : Int32) : up4 R k a b d e (4 * k) = a ∧ up4 R k a b d e (4 * k + 1) = b ∧ up4 R k a b d e (4 * k + 2) = d ∧ up4 R k a b d e (4 * k + 3) = e := by
  unfold up4
  refine ⟨?_, ?_, ?_, ?_⟩
  · rw [pk_un (by omega), pk_un (by omega), pk_un (by omega), pk_us]
  · rw [pk_un (by omega), pk_un (by omega), pk_us]
  · rw [pk_un (by omega), pk_us]
  · rw [pk_us]
theorem j235ok (rec : Int32 → St6 → Option (Int32 × St6)) {k : Nat} (hk : k < 6) (a b d e : Int32) (R : Nat → Int32) (P : Nat) : jn_X6_peopleRead_j235 rec (nI k) a b d e (mS M R 0 P) = rec (nI k + 1) (mS M (up4 R k a b d e) 0 P) := by
  unfold jn_X6_peopleRead_j235
  have i0' : 4 * nI k = nI (4 * k) := by rw [show (4 : Int32) = nI 4 from rfl, nI_mul]
  have i1' : nI (4 * k) + 1 = nI (4 * k + 1) := nI_1 _
  have i2' : nI (4 * k) + 2 = nI (4 * k + 2) := nI_add _ 2
  have i3' : nI (4 * k) + 3 = nI (4 * k + 3) := nI_add _ 3
  rw [if_pos (show p6_isFault (mS M R 0 P) = 0 from rfl), i0', i1', i2', i3', if_pos (inB_nI (show 4 * k < 24 by omega) (by decide)), if_pos (inB_nI (show 4 * k + 1 < 24 by omega) (by decide)), if_pos (inB_nI (show 4 * k + 2 < 24 by omega) (by decide)), if_pos (inB_nI (show 4 * k + 3 < 24 by omega) (by decide)), nI_clamp (by omega), nI_clamp (by omega), nI_clamp (by omega), nI_clamp (by omega)]
  rfl
/-- people read, on both sides -/
noncomputable def TR (k : Nat) (τ : St2) (R : Nat → Int32) : Prop := k ≤ 6 ∧ p2_size τ = nI k ∧ p2_hour τ = 0 ∧ ∀ i, i < k → p2_kinds τ i = R (4 * i) ∧ p2_turns τ i = R (4 * i + 1) ∧ p2_winds τ i = R (4 * i + 2) ∧ p2_keys τ i = R (4 * i + 3) ∧ rg (p2_kinds τ i) 5 ∧ rg (p2_turns τ i) 31 ∧ (p2_winds τ i = -4 ∨ rg (p2_winds τ i) 6) ∧ rg (p2_keys τ i) 13
theorem TR.add {k : Nat} {τ τ' : St2} {R : Nat → Int32} (h : TR k τ R) (hk : k < 6) {a b d e : Int32} (ha : rg a 5) (hb : rg b 31) (hd : d = -4 ∨ rg d 6) (he : rg e 13) (h1 : p2_size τ' = nI (k + 1)) (h2 : p2_hour τ' = p2_hour τ) (h3 : p2_kinds τ' = upd (p2_kinds τ) k a) (h4 : p2_turns τ' = upd (p2_turns τ) k b) (h5 : p2_winds τ' k = d ∧ ∀ i, i < k → p2_winds τ' i = p2_winds τ i) (h6 : p2_keys τ' k = e ∧ ∀ i, i < k → p2_keys τ' i = p2_keys τ i) : TR (k + 1) τ' (up4 R k a b d e) := by
  refine ⟨by omega, h1, h2.trans h.2.2.1, fun i hi => ?_⟩
  rw [h3, h4]
  by_cases ei : i = k
  · subst ei
    obtain ⟨u1, u2, u3, u4⟩ := up4_k R i a b d e
    rw [u1, u2, u3, u4, pk_us, pk_us, h5.1, h6.1]
    exact ⟨rfl, rfl, rfl, rfl, ha, hb, hd, he⟩
  · have hi' : i < k := by omega
    rw [pk_un ei, pk_un ei, h5.2 i hi', h6.2 i hi', up4_o (by omega), up4_o (by omega), up4_o (by omega), up4_o (by omega)]
    exact h.2.2.2 i hi'
theorem windR (h : TP c M T) {τ : St2} (R : Nat → Int32) {k P : Nat} (hk : k < 6) (hP : P ≤ T) (rec : Int32 → St6 → Option (Int32 × St6)) (x3 x4 : Int32) : ∃ P', P' ≤ T ∧ ((f_X4_readWinding (cS c P) τ (nI k) = some (0, cS c P', τ) ∧ ((f_X6_here (mS M R 0 P)).bind (fun r22 => ((f_X6_in ((r22.1 - 48).toInt64) 0 5).bind (fun r23 => (if r23 = 0 then jn_X6_peopleRead_j198 rec (nI k) x3 x4 (r22.1 - 48) 0 r22.2 else (if (r22.1 - 48) = nI k then jn_X6_peopleRead_j198 rec (nI k) x3 x4 (r22.1 - 48) 0 r22.2 else jn_X6_peopleRead_j198 rec (nI k) x3 x4 (r22.1 - 48) 1 r22.2)))))) = rec (nI k + 1) (mS M R 1 P')) ∨ ∃ o y, o < 6 ∧ 1 ≤ y ∧ y < 13 ∧ f_X4_readWinding (cS c P) τ (nI k) = some (1, cS c P', s2_keys (s2_winds τ (upd (p2_winds τ) k (nI o))) (upd (p2_keys τ) k (nI y))) ∧ ((f_X6_here (mS M R 0 P)).bind (fun r22 => ((f_X6_in ((r22.1 - 48).toInt64) 0 5).bind (fun r23 => (if r23 = 0 then jn_X6_peopleRead_j198 rec (nI k) x3 x4 (r22.1 - 48) 0 r22.2 else (if (r22.1 - 48) = nI k then jn_X6_peopleRead_j198 rec (nI k) x3 x4 (r22.1 - 48) 0 r22.2 else jn_X6_peopleRead_j198 rec (nI k) x3 x4 (r22.1 - 48) 1 r22.2)))))) = rec (nI k + 1) (mS M (up4 R k x3 x4 (nI o) (nI y)) 0 P')) := by
  obtain ⟨Q, a1, a2, a3, a4⟩ := hereR h R 0 hP
  have hQ := a2.1
  have j0 : ∀ (x5 : Int32) (Q : Nat), jn_X6_peopleRead_j198 rec (nI k) x3 x4 x5 0 (mS M R 0 Q) = rec (nI k + 1) (mS M R 1 Q) := by
    intro x5 Q
    unfold jn_X6_peopleRead_j198
    rw [bd_eq (must0 R Q), if_neg (flt1 R Q)]
    exact jF223 rec (nI k) x3 x4 x5 0 R Q
  unfold f_X4_readWinding
  rw [bd_eq a3, bd_eq a4]
  rcases vq h a2 with ⟨_, v1, v2⟩ | ⟨hQT, l, hl1, hl2, v1, v2⟩
  · refine ⟨Q, hQ, Or.inl ⟨?_, ?_⟩⟩
    · rw [v1, if_pos (show ((-1 : Int32), cS c Q).1 - 48 < 0 from (by decide : (-1 : Int32) - 48 < 0))]
    · rw [v2]
      have : f_X6_in ((0 - 48 : Int32).toInt64) 0 5 = some 0 := by decide +kernel
      rw [bd_eq this, i0]
      exact j0 _ Q
  · rw [v1, v2]
    have ei : (nI l - 48 : Int32).toInt = (l : Int) - 48 := pk_sub_toInt (a := l) (b := 48) (by omega) (by decide)
    have ein : f_X6_in ((nI l - 48 : Int32).toInt64) 0 5 = some (if 48 ≤ l ∧ l ≤ 53 then 1 else 0) := by
      rw [in_eq, w64, ei, show (0 : Int64).toInt = 0 from rfl, show (5 : Int64).toInt = 5 from rfl]
      by_cases hc : 48 ≤ l ∧ l ≤ 53
      · rw [if_pos hc, if_pos (by omega)]
      · rw [if_neg hc, if_neg (by omega)]
    rw [bd_eq ein]
    by_cases hlo : l < 48
    · refine ⟨Q, hQ, Or.inl ⟨?_, ?_⟩⟩
      · rw [if_pos (show nI l - 48 < (0 : Int32) from Int32.lt_iff_toInt_lt.mpr (by rw [ei]; show (l : Int) - 48 < 0; omega))]
      · rw [if_neg (show ¬ (48 ≤ l ∧ l ≤ 53) by omega), i0]
        exact j0 _ Q
    · have eo : nI l - 48 = nI (l - 48) := pk_sub (b := 48) (by omega)
      rw [eo, if_neg (show ¬ nI (l - 48) < (0 : Int32) from nI_pos (by omega))]
      by_cases hhi : 53 < l
      · refine ⟨Q, hQ, Or.inl ⟨?_, ?_⟩⟩
        · rw [if_pos (show (6 : Int32) ≤ nI (l - 48) from nI_le (a := 6) (by omega) (by omega))]
        · rw [if_neg (show ¬ (48 ≤ l ∧ l ≤ 53) by omega), i0]
          exact j0 _ Q
      · rw [if_neg (show ¬ (6 : Int32) ≤ nI (l - 48) from nI_ge (b := 6) (by omega) (by decide)), if_pos (show 48 ≤ l ∧ l ≤ 53 by omega), i1]
        by_cases hself : l - 48 = k
        · refine ⟨Q, hQ, Or.inl ⟨?_, ?_⟩⟩
          · rw [if_pos (by rw [hself])]
          · rw [if_pos (by rw [hself])]
            exact j0 _ Q
        · have hns : ¬ nI (l - 48) = nI k := fun q => hself ((nI_eq (by omega) (by omega)).mp q)
          rw [if_neg hns, if_neg hns, if_pos (nI_pos' (show k < 2 ^ 31 by omega))]
          have ec1 : s4_place (cS c Q) (p4_place (cS c Q) + 1) = cS c (Q + 1) := by
            show s4_place c (nI Q + 1) = _
            rw [nI_1]; rfl
          rw [ec1]
          obtain ⟨P1, b1, b2, hb⟩ := takeR h R 0 (show Q + 1 ≤ T by omega) 58 (by decide) (by decide)
          have jm : ∀ x5, jn_X6_peopleRead_j198 rec (nI k) x3 x4 x5 1 (mS M R 0 Q) = ((f_X6_here (mS M R 0 (Q + 1))).bind (fun r29 => (if r29.1 = 58 then jn_X6_peopleRead_j223 rec (nI k) x3 x4 x5 1 r29.2 else jn_X6_peopleRead_j223 rec (nI k) x3 x4 x5 0 r29.2))) := by
            intro x5
            unfold jn_X6_peopleRead_j198
            rw [bd_eq (must1 R Q), if_pos (show p6_isFault (mS M R 0 (Q + 1)) = 0 from rfl)]
          rw [jm]
          rcases hb with ⟨hPT1, t1, t2⟩ | ⟨t1, v, t2, t3⟩
          · have t1' : f_X4_take (cS c (Q + 1)) 58 = some (1, cS c (P1 + 1)) := t1
            rw [bd_eq t1', i1, bd_eq t2, if_pos (show nI 58 = (58 : Int32) from rfl)]
            obtain ⟨P2, hP2, hn⟩ := numR h R (lo := 1) (hi := 12) (show P1 + 1 ≤ T by omega) (by decide) (x1 := 1) (x2 := 12) rfl rfl (by decide)
            unfold jn_X6_peopleRead_j223
            rw [bd_eq (must1 R P1)]
            rcases hn with ⟨n1, v, n2⟩ | ⟨y, hy1, hy2, n1, n2⟩
            · refine ⟨P2, hP2, Or.inl ⟨?_, ?_⟩⟩
              · rw [bd_eq n1, if_pos (show (-1 : Int32) = -1 from rfl)]
              · rw [bd_eq n2]
                exact jF235 rec (nI k) x3 x4 _ v R P2
            · refine ⟨P2, hP2, Or.inr ⟨l - 48, y, by omega, hy1, by omega, ?_, ?_⟩⟩
              · rw [bd_eq n1, if_neg (fun q => by
                  have := nI_toInt (n := y) (by omega)
                  have q' : nI y = -1 := q
                  rw [q'] at this
                  have h4 : (-1 : Int32).toInt = -1 := rfl
                  omega), if_pos (inB_nI hk (by decide)), if_pos (inB_nI hk (by decide)), nI_clamp (by omega)]
              · rw [bd_eq n2]
                exact j235ok rec hk x3 x4 _ _ R P2
          · have t1' : f_X4_take (cS c (Q + 1)) 58 = some (0, cS c P1) := t1
            have t3' : ¬ v = (58 : Int32) := t3
            refine ⟨P1, b2.1, Or.inl ⟨?_, ?_⟩⟩
            · rw [bd_eq t1', i0]
            · rw [bd_eq t2, if_neg t3']
              unfold jn_X6_peopleRead_j223
              rw [bd_eq (must0 R P1), bd_eq (numF R 1 12 P1)]
              exact jF235 rec (nI k) x3 x4 _ 0 R P1
theorem kindR (h : TP c M T) {Q : Nat} (hs : stp M T Q) : (∃ kd, kd < 5 ∧ Q < T ∧ f_kind (cv M T Q) = nI kd ∧ ∀ rec k s, jn_X6_peopleRead_j56 rec k (mv0 M T Q) s = jn_X6_peopleRead_j119 rec k (nI kd) 1 s) ∨ (¬ (0 : Int32) ≤ f_kind (cv M T Q) ∧ ∀ rec k s, jn_X6_peopleRead_j56 rec k (mv0 M T Q) s = jn_X6_peopleRead_j119 rec k (-1) 0 s) := by
  have n0 : ¬ (0 : Int32) ≤ -1 := by decide
  rcases vq h hs with ⟨_, v1, v2⟩ | ⟨hQT, l, hl1, hl2, v1, v2⟩
  · rw [v1, v2]
    refine Or.inr ⟨by decide, fun rec k s => ?_⟩
    unfold jn_X6_peopleRead_j56 jn_X6_peopleRead_j108
    rw [if_neg (by decide), if_neg (by decide), if_neg (by decide), if_neg (by decide), if_neg (by decide), if_pos (by decide)]
  · rw [v1, v2]
    by_cases c1 : l = 103
    · subst c1
      refine Or.inl ⟨0, by decide, hQT, by decide, fun rec k s => ?_⟩
      unfold jn_X6_peopleRead_j56 jn_X6_peopleRead_j108
      rw [if_pos (by decide), if_neg (by decide)]; rfl
    by_cases c2 : l = 99
    · subst c2
      refine Or.inl ⟨1, by decide, hQT, by decide, fun rec k s => ?_⟩
      unfold jn_X6_peopleRead_j56 jn_X6_peopleRead_j108
      rw [if_neg (by decide), if_pos (by decide), if_neg (by decide)]; rfl
    by_cases c3 : l = 116
    · subst c3
      refine Or.inl ⟨2, by decide, hQT, by decide, fun rec k s => ?_⟩
      unfold jn_X6_peopleRead_j56 jn_X6_peopleRead_j108
      rw [if_neg (by decide), if_neg (by decide), if_pos (by decide), if_neg (by decide)]; rfl
    by_cases c4 : l = 112
    · subst c4
      refine Or.inl ⟨3, by decide, hQT, by decide, fun rec k s => ?_⟩
      unfold jn_X6_peopleRead_j56 jn_X6_peopleRead_j108
      rw [if_neg (by decide), if_neg (by decide), if_neg (by decide), if_pos (by decide), if_neg (by decide)]; rfl
    by_cases c5 : l = 108
    · subst c5
      refine Or.inl ⟨4, by decide, hQT, by decide, fun rec k s => ?_⟩
      unfold jn_X6_peopleRead_j56 jn_X6_peopleRead_j108
      rw [if_neg (by decide), if_neg (by decide), if_neg (by decide), if_neg (by decide), if_pos (by decide), if_neg (by decide)]; rfl
    have ne : ∀ v, v < 127 → ¬ l = v → ¬ nI l = nI v := fun v hv q c => q ((nI_eq (by omega) (by omega)).mp c)
    have d1 : ¬ nI l = (103 : Int32) := ne 103 (by decide) c1
    have d2 : ¬ nI l = (99 : Int32) := ne 99 (by decide) c2
    have d3 : ¬ nI l = (116 : Int32) := ne 116 (by decide) c3
    have d4 : ¬ nI l = (112 : Int32) := ne 112 (by decide) c4
    have d5 : ¬ nI l = (108 : Int32) := ne 108 (by decide) c5
    refine Or.inr ⟨?_, fun rec k s => ?_⟩
    · unfold f_kind
      rw [if_neg (fun q => d1 q.symm), if_neg (fun q => d2 q.symm), if_neg (fun q => d3 q.symm), if_neg (fun q => d4 q.symm), if_neg (fun q => d5 q.symm)]
      exact n0
    · unfold jn_X6_peopleRead_j56 jn_X6_peopleRead_j108
      rw [if_neg d1, if_neg d2, if_neg d3, if_neg d4, if_neg d5, if_pos (by decide)]
theorem personR (h : TP c M T) {τ : St2} {R : Nat → Int32} {k P : Nat} (hk : k < 6) (hP : P ≤ T) (ht : TR k τ R) (rec : Int32 → St6 → Option (Int32 × St6)) : ∃ P' τ', P' ≤ T ∧ ((f_X4_readPerson (cS c P) τ = some (0, cS c P', τ') ∧ jn_X6_peopleRead_j41 rec (nI k) (mS M R 0 P) = rec (nI k + 1) (mS M R 1 P')) ∨ ∃ R', TR (k + 1) τ' R' ∧ f_X4_readPerson (cS c P) τ = some (1, cS c P', τ') ∧ jn_X6_peopleRead_j41 rec (nI k) (mS M R 0 P) = rec (nI k + 1) (mS M R' 0 P')) := by
  obtain ⟨Q, a1, a2, a3, a4⟩ := hereR h R 0 hP
  have hQ := a2.1
  unfold f_X4_readPerson jn_X6_peopleRead_j41
  rw [bd_eq a3, if_pos (show p6_isFault (mS M R 0 P) = 0 from rfl), bd_eq a4]
  rcases kindR h a2 with ⟨kd, hkd, hQT, k1, k2⟩ | ⟨k1, k2⟩
  rotate_left
  · refine ⟨Q, τ, hQ, Or.inl ⟨?_, ?_⟩⟩
    · rw [if_neg k1]
    · rw [k2]
      unfold jn_X6_peopleRead_j119
      rw [bd_eq (must0 R Q), bd_eq (numF R 0 30 Q), if_neg (flt1 R Q)]
      exact jF235 rec (nI k) _ _ _ _ R Q
  rw [k2, k1, if_pos (nI_pos' (show kd < 2 ^ 31 by omega))]
  have ec1 : s4_place (cS c Q) (p4_place (cS c Q) + 1) = cS c (Q + 1) := by
    show s4_place c (nI Q + 1) = _
    rw [nI_1]; rfl
  rw [ec1]
  unfold jn_X6_peopleRead_j119
  rw [bd_eq (must1 R Q)]
  obtain ⟨P1, hP1, hn⟩ := numR h R (lo := 0) (hi := 30) (show Q + 1 ≤ T by omega) (by decide) (x1 := 0) (x2 := 30) rfl rfl (by decide)
  rcases hn with ⟨n1, v, n2⟩ | ⟨t, ht1, ht2, n1, n2⟩
  · refine ⟨P1, τ, hP1, Or.inl ⟨?_, ?_⟩⟩
    · rw [bd_eq n1, if_pos (show (-1 : Int32) = -1 from rfl)]
    · rw [bd_eq n2, if_neg (flt1 R P1)]
      exact jF235 rec (nI k) _ _ _ _ R P1
  have nt1 : ¬ nI t = -1 := fun q => by
    have := nI_toInt (n := t) (by omega)
    rw [q] at this
    have h4 : (-1 : Int32).toInt = -1 := rfl
    omega
  rw [bd_eq n1, if_neg nt1, bd_eq n2, if_pos (show p6_isFault (mS M R 0 P1) = 0 from rfl), bd_eq (c_join ht.2.1 hk (nI kd) (nI t))]
  obtain ⟨P2, b1, b2, hb⟩ := takeR h R 0 hP1 62 (by decide) (by decide)
  rcases hb with ⟨hPT2, t1, t2⟩ | ⟨t1, v, t2, t3⟩
  · have t1' : f_X4_take (cS c P1) 62 = some (1, cS c (P2 + 1)) := t1
    rw [bd_eq t1', i1, bd_eq t2, if_pos (show nI 62 = (62 : Int32) from rfl)]
    have em : s6_place (mS M R 0 P2) (p6_place (mS M R 0 P2) + 1) = mS M R 0 (P2 + 1) := by
      show s6_isFault (s6_place (s6_read M R) (nI P2 + 1)) 0 = _
      rw [nI_1]; rfl
    rw [em]
    obtain ⟨P3, hP3, hw⟩ := windR h (τ := joinP τ k (nI kd) (nI t)) R hk (show P2 + 1 ≤ T by omega) rec (nI kd) (nI t)
    rcases hw with ⟨w1, w2⟩ | ⟨o, y, ho, hy1, hy2, w1, w2⟩
    · exact ⟨P3, _, hP3, Or.inl ⟨by rw [bd_eq w1, i0], w2⟩⟩
    · refine ⟨P3, _, hP3, Or.inr ⟨_, ?_, by rw [bd_eq w1, i1], w2⟩⟩
      refine ht.add hk (rg_nI hkd) (rg_nI (show t < 31 by omega)) (Or.inr (rg_nI ho)) (rg_nI hy2) rfl rfl rfl rfl ⟨?_, fun i hi => ?_⟩ ⟨?_, fun i hi => ?_⟩
      · show upd (upd (p2_winds τ) k (-4)) k (nI o) k = _
        exact pk_us
      · show upd (upd (p2_winds τ) k (-4)) k (nI o) i = _
        rw [pk_un (by omega), pk_un (by omega)]
      · show upd (upd (p2_keys τ) k 1) k (nI y) k = _
        exact pk_us
      · show upd (upd (p2_keys τ) k 1) k (nI y) i = _
        rw [pk_un (by omega), pk_un (by omega)]
  · have t1' : f_X4_take (cS c P1) 62 = some (0, cS c P2) := t1
    have t3' : ¬ v = (62 : Int32) := t3
    refine ⟨P2, _, b2.1, Or.inr ⟨_, ?_, by rw [bd_eq t1', i0], by rw [bd_eq t2, if_neg t3']; exact j235ok rec hk _ _ _ _ R P2⟩⟩
    refine ht.add hk (rg_nI hkd) (rg_nI (show t < 31 by omega)) (Or.inl rfl) ⟨1, by decide, rfl⟩ rfl rfl rfl rfl ⟨?_, fun i hi => ?_⟩ ⟨?_, fun i hi => ?_⟩
    · show upd (p2_winds τ) k (-4) k = _
      exact pk_us
    · show upd (p2_winds τ) k (-4) i = _
      rw [pk_un (by omega)]
    · show upd (p2_keys τ) k 1 k = _
      exact pk_us
    · show upd (p2_keys τ) k 1 i = _
      rw [pk_un (by omega)]
/-- what the reading comes to, on both sides: a fault at a place, or people up to a place -/
noncomputable def CR (c : St4) (M : St6) (T : Nat) (fx : Option (Int32 × St4 × St2)) (fm : Option (Int32 × St6)) : Prop := ∃ P' τ' R' m, P' ≤ T ∧ ((fx = some (0, cS c P', τ') ∧ fm = some (nI m, mS M R' 1 P')) ∨ (1 ≤ m ∧ stp M T P' ∧ TR m τ' R' ∧ fm = some (nI m, mS M R' 0 P') ∧ fx = (if cv M T P' = -1 then ((f_X4_allWoundAreThere τ').bind (fun r4 => (if r4 = 0 then some (0, cS c P', τ') else some (1, cS c P', τ')))) else some (0, cS c P', τ'))))
theorem closeL (h : TP c M T) : ∀ m n k P τ R, k + m = 6 → m + 1 < n → P ≤ T → TR k τ R → CR c M T (lp_X4_readClose_7 n (nI k) (cS c P) τ) (lp_X6_peopleRead_2 n (nI k) (mS M R 0 P)) := by
  intro m
  induction m with
  | zero =>
    intro n k P τ R hk hn hP ht
    obtain ⟨n, rfl⟩ : ∃ m, n = m + 1 := ⟨n - 1, by omega⟩
    obtain ⟨n, rfl⟩ : ∃ m, n = m + 1 := ⟨n - 1, by omega⟩
    have hk6 : k = 6 := by omega
    subst hk6
    obtain ⟨Q, a1, a2, a3, a4⟩ := hereR h R 0 hP
    rw [lp_X4_readClose_7, lp_X6_peopleRead_2, if_pos (show (6 : Int32) ≤ nI 6 by decide), bd_eq a3, if_pos (show p6_isFault (mS M R 0 P) = 0 from rfl), if_neg (show ¬ nI 6 = (0 : Int32) by decide), bd_eq a4]
    rcases vch h a2 44 (by decide) (by decide) with ⟨b1, b2, b3⟩ | ⟨b2, b3⟩
    · have b2' : ¬ cv M T Q = -1 := by rw [b2]; decide
      refine ⟨Q, τ, R, 7, a2.1, Or.inl ⟨by rw [if_neg (show ¬ (cv M T Q, cS c Q).1 = -1 from b2')], ?_⟩⟩
      rw [if_pos (show mv0 M T Q = (44 : Int32) from b3)]
      unfold jn_X6_peopleRead_j22
      rw [if_neg (show ¬ nI 6 ≤ (0 : Int32) by decide), if_pos (show (6 : Int32) ≤ nI 6 by decide), bd_eq (must0 R Q), jF41]
      show lp_X6_peopleRead_2 (n + 1) (nI 6 + 1) (mS M R 1 Q) = _
      rw [lp_X6_peopleRead_2, if_neg (flt1 R Q)]; rfl
    · refine ⟨Q, τ, R, 6, a2.1, Or.inr ⟨by decide, a2, ht, ?_, rfl⟩⟩
      rw [if_neg (show ¬ mv0 M T Q = (44 : Int32) from b3)]
  | succ m ih =>
    intro n k P τ R hk hn hP ht
    obtain ⟨n, rfl⟩ : ∃ m, n = m + 1 := ⟨n - 1, by omega⟩
    have hk5 : k < 6 := by omega
    have fault : ∀ (P' : Nat) (R' : Nat → Int32), lp_X6_peopleRead_2 n (nI k + 1) (mS M R' 1 P') = some (nI (k + 1), mS M R' 1 P') := by
      intro P' R'
      obtain ⟨n, rfl⟩ : ∃ m, n = m + 1 := ⟨n - 1, by omega⟩
      rw [lp_X6_peopleRead_2, if_neg (flt1 R' P'), nI_1]
    rw [lp_X4_readClose_7, lp_X6_peopleRead_2, if_neg (show ¬ (6 : Int32) ≤ nI k from nI_ge (b := 6) hk5 (by decide)), if_pos (show p6_isFault (mS M R 0 P) = 0 from rfl)]
    by_cases hk0 : k = 0
    · subst hk0
      rw [if_pos (show nI 0 ≤ (0 : Int32) by decide), if_pos (show nI 0 = (0 : Int32) from rfl)]
      unfold jn_X6_peopleRead_j22
      rw [if_pos (show nI 0 ≤ (0 : Int32) by decide)]
      obtain ⟨P', τ', hP', hp⟩ := personR h hk5 hP ht (lp_X6_peopleRead_2 n)
      rcases hp with ⟨p1, p2⟩ | ⟨R', ht', p1, p2⟩
      · exact ⟨P', τ', R, 0 + 1, hP', Or.inl ⟨by rw [bd_eq p1, i0], by rw [p2]; exact fault P' R⟩⟩
      · rw [bd_eq p1, i1, p2]
        have := ih n 1 P' τ' R' (by omega) (by omega) hP' ht'
        exact this
    · have nk0 : ¬ nI k ≤ (0 : Int32) := nI_nle (by omega) (by omega)
      have nk0' : ¬ nI k = (0 : Int32) := nI_ne0 (by omega) (by omega)
      rw [if_neg nk0, if_neg nk0']
      obtain ⟨Q, b1, b2, hb⟩ := takeR h R 0 hP 44 (by decide) (by decide)
      rcases hb with ⟨hQT, t1, t2⟩ | ⟨t1, v, t2, t3⟩
      · have t1' : f_X4_take (cS c P) 44 = some (1, cS c (Q + 1)) := t1
        rw [bd_eq t1', i1, bd_eq t2, if_pos (show nI 44 = (44 : Int32) from rfl)]
        unfold jn_X6_peopleRead_j22
        rw [if_neg nk0, if_neg (show ¬ (6 : Int32) ≤ nI k from nI_ge (b := 6) hk5 (by decide)), bd_eq (must1 R Q)]
        obtain ⟨P', τ', hP', hp⟩ := personR h hk5 (show Q + 1 ≤ T by omega) ht (lp_X6_peopleRead_2 n)
        rcases hp with ⟨p1, p2⟩ | ⟨R', ht', p1, p2⟩
        · exact ⟨P', τ', R, k + 1, hP', Or.inl ⟨by rw [bd_eq p1, i0], by rw [p2]; exact fault P' R⟩⟩
        · rw [bd_eq p1, i1, p2, nI_1]
          exact ih n (k + 1) P' τ' R' (by omega) (by omega) hP' ht'
      · have t1' : f_X4_take (cS c P) 44 = some (0, cS c Q) := t1
        rw [bd_eq t1', i0, bd_eq (hereS h R 0 b2).1, bd_eq t2, if_neg (show ¬ v = (44 : Int32) from t3)]
        exact ⟨Q, τ, R, k, b2.1, Or.inr ⟨by omega, b2, ht, rfl, rfl⟩⟩
theorem c_there {m : Nat} {τ : St2} {R : Nat → Int32} (ht : TR m τ R) : (f_X4_allWoundAreThere τ = some 1 ∧ ∀ i, i < m → p2_winds τ i = -4 ∨ rg (p2_winds τ i) m) ∨ (f_X4_allWoundAreThere τ = some 0 ∧ ∃ i, i < m ∧ ∃ o, m ≤ o ∧ o < 6 ∧ p2_winds τ i = nI o) := by
  have hm := ht.1
  have key : ok (fun r => (r = 1 ∧ ∀ i, i < m → p2_winds τ i = -4 ∨ rg (p2_winds τ i) m) ∨ (r = 0 ∧ ∃ i, i < m ∧ ∃ o, m ≤ o ∧ o < 6 ∧ p2_winds τ i = nI o)) (f_X4_allWoundAreThere τ) := by
    unfold f_X4_allWoundAreThere
    refine lpG (fun n z (s : Unit) => lp_X4_allWoundAreThere_2 τ n z) m (by omega) (fun k _ => ∀ i, i < k → p2_winds τ i = -4 ∨ rg (p2_winds τ i) m) _ (fun n z s => rfl) (fun _ _ _ => ht.2.1) (fun s hs => ok_s (Or.inl ⟨rfl, hs⟩)) (fun n k s hk hs ih => ?_) () (fun i hi => by omega)
    rw [if_pos (inB_nI (show k < 6 by omega) (by decide)), if_pos (inB_nI (show k < 6 by omega) (by decide)), nI_clamp (by omega)]
    have nxt : (p2_winds τ k = -4 ∨ rg (p2_winds τ k) m) → ∀ i, i < k + 1 → p2_winds τ i = -4 ∨ rg (p2_winds τ i) m := fun q i hi => by
      by_cases e : i = k
      · rw [e]; exact q
      · exact hs i (by omega)
    by_cases h4 : p2_winds τ k = -4
    · rw [if_pos h4]
      exact ih () (nxt (Or.inl h4))
    · rw [if_neg h4]
      obtain ⟨_, _, _, _, _, _, hw, _⟩ := ht.2.2.2 k hk
      obtain ⟨o, ho, eo⟩ := hw.resolve_left h4
      rw [eo]
      unfold f_X2_has
      rw [if_neg (nI_pos (by omega)), ht.2.1]
      by_cases hom : o < m
      · rw [if_neg (nI_ge hom (by omega)), bd_eq (v := (1 : Int32)) rfl, i1]
        exact ih () (nxt (Or.inr ⟨o, hom, eo⟩))
      · rw [if_pos (nI_le (by omega) (by omega)), bd_eq (v := (0 : Int32)) rfl, i0]
        exact ok_s (Or.inr ⟨rfl, k, hk, o, by omega, ho, eo⟩)
  obtain ⟨r, e, hr⟩ := key
  rcases hr with ⟨q, l⟩ | ⟨q, l⟩
  · exact Or.inl ⟨by rw [e, q], l⟩
  · exact Or.inr ⟨by rw [e, q], l⟩
theorem m_there {m : Nat} {τ : St2} {R : Nat → Int32} (ht : TR m τ R) (F : Int32) (P : Nat) : ((∀ i, i < m → p2_winds τ i = -4 ∨ rg (p2_winds τ i) m) → f_X6_areThere (mS M R F P) (nI m) = some 1) ∧ ((∃ i, i < m ∧ ∃ o, m ≤ o ∧ o < 6 ∧ p2_winds τ i = nI o) → f_X6_areThere (mS M R F P) (nI m) = some 0) := by
  have hm := ht.1
  have key : ok (fun r => (r = 1 ∧ ∀ i, i < m → ¬ nI m ≤ R (4 * i + 2)) ∨ (r = 0 ∧ ∃ i, i < m ∧ nI m ≤ R (4 * i + 2))) (f_X6_areThere (mS M R F P) (nI m)) := by
    unfold f_X6_areThere
    refine ok_b (P := fun z => (z.1 = 1 ∧ ∀ i, i < m → ¬ nI m ≤ R (4 * i + 2)) ∨ (z.1 = 0 ∧ ∃ i, i < m ∧ nI m ≤ R (4 * i + 2))) ?_ (fun z hz => ?_)
    · refine lpG (fun n z s => lp_X6_areThere_4 (mS M R F P) (nI m) n s z) m (by omega) (fun k s => (s = 1 ∧ ∀ i, i < k → ¬ nI m ≤ R (4 * i + 2)) ∨ (s = 0 ∧ ∃ i, i < m ∧ nI m ≤ R (4 * i + 2))) _ (fun n z s => rfl) (fun _ _ _ => rfl) (fun s hs => ok_s hs) (fun n k s hk hs ih => ?_) 1 (Or.inl ⟨rfl, fun i hi => by omega⟩)
      have e2 : 4 * nI k + 2 = nI (4 * k + 2) := by
        rw [show (4 : Int32) = nI 4 from rfl, nI_mul]; exact nI_add _ 2
      have er : p6_read (mS M R F P) ((nI (4 * k + 2)).toNatClampNeg) = R (4 * k + 2) := by
        show R ((nI (4 * k + 2)).toNatClampNeg) = _
        rw [nI_clamp (by omega)]
      rcases hs with ⟨e, l⟩ | ⟨e, l⟩
      · rw [if_neg (by rw [e]; decide), e2, if_pos (inB_nI (show 4 * k + 2 < 24 by omega) (by decide)), er]
        by_cases q : nI m ≤ R (4 * k + 2)
        · rw [if_pos q]
          exact ih _ (Or.inr ⟨rfl, k, hk, q⟩)
        · rw [if_neg q]
          refine ih _ (Or.inl ⟨rfl, fun i hi => ?_⟩)
          by_cases ei : i = k
          · rw [ei]; exact q
          · exact l i (by omega)
      · rw [if_pos e]
        exact ih _ (Or.inr ⟨rfl, l⟩)
    · rcases hz with ⟨e, l⟩ | ⟨e, l⟩
      · rw [if_pos (Or.inr e)]; exact ok_s (Or.inl ⟨e, l⟩)
      · rw [if_pos (Or.inl e)]; exact ok_s (Or.inr ⟨e, l⟩)
  obtain ⟨r, e, hr⟩ := key
  have wR : ∀ i, i < m → p2_winds τ i = R (4 * i + 2) := fun i hi => (ht.2.2.2 i hi).2.2.1
  refine ⟨fun hall => ?_, fun ⟨i, hi, o, ho, ho6, eo⟩ => ?_⟩
  · rcases hr with ⟨q, l⟩ | ⟨q, i, hi, l⟩
    · rw [e, q]
    · rw [← wR i hi] at l
      rcases hall i hi with w | ⟨o, ho, eo⟩
      · rw [w] at l
        have := Int32.le_iff_toInt_le.mp l
        rw [nI_toInt (by omega)] at this
        have h4 : (-4 : Int32).toInt = -4 := rfl
        omega
      · rw [eo] at l
        exact absurd l (nI_ge ho (by omega))
  · rcases hr with ⟨q, l⟩ | ⟨q, l⟩
    · exact absurd (by rw [← wR i hi, eo]; exact nI_le ho (by omega)) (l i hi)
    · rw [e, q]
/-- the row of the reference when i have come -/
noncomputable def cN (f R : Nat → Int32) : Nat → Nat → Int32
  | 0 => upd (upd f 0 0) 1 0
  | i + 1 => comeN (cN f R i) i (R (4 * i)) (R (4 * i + 1)) (R (4 * i + 2)) (R (4 * i + 3))
theorem cN_f (f R : Nat → Int32) : ∀ i, cN f R i 0 = nI i ∧ cN f R i 1 = 0 ∧ cN f R i 2 = f 2 ∧ ∀ j, j < i → cN f R i (3 + 4 * j + 0) = R (4 * j) ∧ cN f R i (3 + 4 * j + 1) = R (4 * j + 1) ∧ cN f R i (3 + 4 * j + 2) = R (4 * j + 2) ∧ cN f R i (3 + 4 * j + 3) = R (4 * j + 3) := by
  intro i
  induction i with
  | zero =>
    refine ⟨?_, pk_us, ?_, fun j hj => by omega⟩
    · show upd (upd f 0 0) 1 0 0 = _
      rw [pk_un (by decide), pk_us]; rfl
    · show upd (upd f 0 0) 1 0 2 = _
      rw [pk_un (by decide), pk_un (by decide)]
  | succ i ih =>
    obtain ⟨h0, h1, h2, h3⟩ := ih
    refine ⟨comeN_0 _ _ _ _ _ _, ?_, ?_, fun j hj => ?_⟩
    · show comeN (cN f R i) i _ _ _ _ 1 = 0
      rw [comeN_o (by decide) (by omega), h1]
    · show comeN (cN f R i) i _ _ _ _ 2 = _
      rw [comeN_o (by decide) (by omega), h2]
    · by_cases e : j = i
      · subst e
        exact comeN_k _ j _ _ _ _
      · obtain ⟨a1, a2, a3, a4⟩ := h3 j (by omega)
        show comeN (cN f R i) i _ _ _ _ _ = _ ∧ comeN (cN f R i) i _ _ _ _ _ = _ ∧ comeN (cN f R i) i _ _ _ _ _ = _ ∧ comeN (cN f R i) i _ _ _ _ _ = _
        rw [comeN_o (by omega) (by omega), comeN_o (by omega) (by omega), comeN_o (by omega) (by omega), comeN_o (by omega) (by omega)]
        exact ⟨a1, a2, a3, a4⟩
theorem m_closeL {m : Nat} (hm : m ≤ 6) (h1 : 1 ≤ m) (S : St6) (f : Nat → Int32) (hS : p6_now S = upd (upd f 0 0) 1 0) : ok (fun z => z.2 = s6_undos (s6_now S (cN f (p6_read S) m)) 0) (lp_X6_close_102 (nI m) FU 0 S) := by
  refine ok_w (P := fun z => ∃ u, z.2 = s6_undos (s6_now S (cN f (p6_read S) m)) u ∧ (0 < m → u = 0)) ?_ (fun z hz => by
    obtain ⟨u, e, hu⟩ := hz
    rw [e, hu (by omega)])
  refine lpG (fun n z s => lp_X6_close_102 (nI m) n z s) m (by omega) (fun k s => ∃ u, s = s6_undos (s6_now S (cN f (p6_read S) k)) u ∧ (0 < k → u = 0)) _ (fun n z s => rfl) (fun _ _ _ => rfl) (fun s hs => ok_s hs) (fun n k s hk hs ih => ?_) S ⟨p6_undos S, ?_, fun q => by omega⟩
  · obtain ⟨u, rfl, hu⟩ := hs
    have i0' : 4 * nI k = nI (4 * k) := by rw [show (4 : Int32) = nI 4 from rfl, nI_mul]
    have i1' : nI (4 * k) + 1 = nI (4 * k + 1) := nI_1 _
    have i2' : nI (4 * k) + 2 = nI (4 * k + 2) := nI_add _ 2
    have i3' : nI (4 * k) + 3 = nI (4 * k + 3) := nI_add _ 3
    have hc := m_comes (r := s6_undos (s6_now S (cN f (p6_read S) k)) u) (N := k) (by omega) (cN_f f (p6_read S) k).1 (p6_read S (4 * k)) (p6_read S (4 * k + 1)) (p6_read S (4 * k + 2)) (p6_read S (4 * k + 3))
    rw [i0', i1', i2', i3', if_pos (inB_nI (show 4 * k < 24 by omega) (by decide)), if_pos (inB_nI (show 4 * k + 1 < 24 by omega) (by decide)), if_pos (inB_nI (show 4 * k + 2 < 24 by omega) (by decide)), if_pos (inB_nI (show 4 * k + 3 < 24 by omega) (by decide)), nI_clamp (by omega), nI_clamp (by omega), nI_clamp (by omega), nI_clamp (by omega)]
    have hc' : f_X6_personComes (s6_undos (s6_now S (cN f (p6_read S) k)) u) (p6_read (s6_undos (s6_now S (cN f (p6_read S) k)) u) (4 * k)) (p6_read (s6_undos (s6_now S (cN f (p6_read S) k)) u) (4 * k + 1)) (p6_read (s6_undos (s6_now S (cN f (p6_read S) k)) u) (4 * k + 2)) (p6_read (s6_undos (s6_now S (cN f (p6_read S) k)) u) (4 * k + 3)) = _ := hc
    rw [bd_eq hc']
    exact ih _ ⟨0, rfl, fun _ => rfl⟩
  · show S = s6_undos (s6_now S (upd (upd f 0 0) 1 0)) (p6_undos S)
    rw [← hS]
end
theorem s2_close {X : SX} {M : St6} (h : R2 X M) : S2 (FX_close X) (f_X6_close M) := by
  obtain ⟨⟨N, hp⟩, hu, hk, hi, ⟨T, hT, e1, e2, hl⟩, hs⟩ := h
  have hTP : TP (xtp X) M T := ⟨hT, e1, e2, hl⟩
  have ht0 : TR 0 (s2_hour (s2_size (xtr X) 0) 0) (p6_read M) := ⟨by decide, rfl, rfl, fun i hi => by omega⟩
  have hcr := closeL hTP 6 FU 0 0 (s2_hour (s2_size (xtr X) 0) 0) (p6_read M) (by decide) (by unfold FU; omega) (Nat.zero_le _) ht0
  obtain ⟨P, τ, R, m, hP, hc⟩ := hcr
  have hP60 : P ≤ 60 := by omega
  have tape0 : ∃ T : Nat, T ≤ 60 ∧ (0 : Int32) = nI T ∧ (0 : Int32) = nI T ∧ ∀ i, i < T → p4_letters (xtp X) i = p6_tape M i ∧ ltr (p6_tape M i) := ⟨0, by decide, rfl, rfl, fun i hi => by omega⟩
  unfold FX_close f_X5_close f_X6_close f_X4_readClose f_X4_empty f_X6_peopleRead
  have ee : f_X2_empty (xtr X) = some (s2_hour (s2_size (xtr X) 0) 0) := rfl
  rw [bd_eq ee]
  have failC : ∀ τ', ((some ((0 : Int32), cS (xtp X) P, τ')).bind (fun r2 => ((some (s4_size r2.2.1 0)).bind (fun r3 => (if r2.1 = 0 then some ((-20) - (p4_place r2.2.1), xnw X, xps X, r2.2.2, r3) else ((f_X1_empty (xps X)).bind (fun r6 => some (p2_size r2.2.2, (s2_draw r2.2.2 (p2_draw (xnw X))), r6, (s2_draw r2.2.2 (p2_draw (xnw X))), r3)))))))) = some ((-20) - nI P, xnw X, xps X, τ', s4_size (cS (xtp X) P) 0) := fun τ' => rfl
  rcases hc with ⟨c1, c2⟩ | ⟨hm1, hst, htr, c2, c1⟩
  · have c1' : lp_X4_readClose_7 FU 0 (s4_place (xtp X) 0) (s2_hour (s2_size (xtr X) 0) 0) = some (0, cS (xtp X) P, τ) := c1
    have c2' : lp_X6_peopleRead_2 FU 0 (s6_isFault (s6_place M 0) 0) = some (nI m, mS M R 1 P) := c2
    rw [c1', failC, c2']
    refine ⟨(-20) - nI P, _, s6_isFault (s6_typed (mS M R 1 P) 0) 1, rfl, ?_, ⟨N, hp⟩, hu, hk, hi, tape0, hs⟩
    have hmod : ∀ {k : Int32 × St6 → Option (Int32 × St6)}, ((some (nI m, mS M R 1 P)).bind (fun q37 => some (q37.1, q37.2))).bind k = k (nI m, mS M R 1 P) := fun {k} => rfl
    rw [hmod, if_neg (flt1 R P)]
    rfl
  · have c1' : lp_X4_readClose_7 FU 0 (s4_place (xtp X) 0) (s2_hour (s2_size (xtr X) 0) 0) = _ := c1
    have c2' : lp_X6_peopleRead_2 FU 0 (s6_isFault (s6_place M 0) 0) = some (nI m, mS M R 0 P) := c2
    have hm6 := htr.1
    rw [c1', c2']
    have hmod : ∀ {k : Int32 × St6 → Option (Int32 × St6)}, ((some (nI m, mS M R 0 P)).bind (fun q37 => some (q37.1, q37.2))).bind k = k (nI m, mS M R 0 P) := fun {k} => rfl
    rw [hmod, if_pos (show p6_isFault (mS M R 0 P) = 0 from rfl), bd_eq (hereS hTP R 0 hst).2]
    rcases vq hTP hst with ⟨hPT, v1, v2⟩ | ⟨hPT, l, hl1, hl2, v1, v2⟩
    · rw [v1, if_pos (show (-1 : Int32) = -1 from rfl), v2, i0]
      have efs : s6_isFault (mS M R 0 P) 0 = mS M R 0 P := rfl
      rw [efs]
      rcases c_there htr with ⟨t1, t2⟩ | ⟨t1, t2⟩
      · rw [bd_eq t1, i1, bd_eq ((m_there htr 0 P).1 t2), i1]
        obtain ⟨z, ez, hz⟩ := m_closeL hm6 hm1 (s6_isFault (s6_typed (s6_now (mS M R 0 P) (upd (upd (p6_now (mS M R 0 P)) ((0 : Int32).toNatClampNeg) 0) ((1 : Int32).toNatClampNeg) 0)) 0) 0) (p6_now M) rfl
        rw [bd_eq ez]
        obtain ⟨g0, g1, g2, g3⟩ := cN_f (p6_now M) R m
        refine ⟨nI m, sxtp (sxtr (sxps (sxnw X (s2_draw τ (p2_draw (xnw X)))) (s1_size (xps X) 0)) (s2_draw τ (p2_draw (xnw X)))) (s4_size (cS (xtp X) P) 0), z.2, ?_, rfl, ?_⟩
        · rw [← htr.2.1]; rfl
        · rw [hz]
          refine ⟨⟨m, hm6, htr.2.1, g0, ?_, ?_, fun i hi => ?_⟩, hu.none, hk, hi, tape0, hs⟩
          · show p2_hour τ = cN (p6_now M) R m (0 + 1)
            rw [g1]; exact htr.2.2.1
          · show p2_draw (xnw X) = cN (p6_now M) R m (0 + 2)
            rw [g2]; exact hp.2.2.2.2.1
          · obtain ⟨b1, b2, b3, b4, b5, b6, b7, b8⟩ := htr.2.2.2 i hi
            obtain ⟨d1, d2, d3, d4⟩ := g3 i hi
            refine ⟨?_, ?_, ?_, ?_, b5, b6, t2 i hi, b8⟩
            · show p2_kinds τ i = cN (p6_now M) R m (0 + 3 + 4 * i)
              rw [show 0 + 3 + 4 * i = 3 + 4 * i + 0 by omega, d1]; exact b1
            · show p2_turns τ i = cN (p6_now M) R m (0 + 4 + 4 * i)
              rw [show 0 + 4 + 4 * i = 3 + 4 * i + 1 by omega, d2]; exact b2
            · show p2_winds τ i = cN (p6_now M) R m (0 + 5 + 4 * i)
              rw [show 0 + 5 + 4 * i = 3 + 4 * i + 2 by omega, d3]; exact b3
            · show p2_keys τ i = cN (p6_now M) R m (0 + 6 + 4 * i)
              rw [show 0 + 6 + 4 * i = 3 + 4 * i + 3 by omega, d4]; exact b4
      · rw [bd_eq t1, i0, failC, bd_eq ((m_there htr 0 P).2 t2), i0]
        have e2' : p6_typed M = nI T := e2
        refine ⟨(-20) - nI P, _, s6_isFault (s6_place (s6_typed (mS M R 0 P) 0) (nI P)) 1, rfl, ?_, ⟨N, hp⟩, hu, hk, hi, tape0, hs⟩
        show some ((-20) - p6_typed M, s6_isFault (s6_place (s6_typed (mS M R 0 P) 0) (p6_typed M)) 1) = _
        rw [e2', ← hPT]
    · have n1 : ¬ cv M T P = -1 := by
        rw [v1]
        intro q
        have := congrArg Int32.toInt q
        rw [nI_toInt (by omega)] at this
        have h3 : (-1 : Int32).toInt = -1 := rfl
        omega
      have n0 : ¬ mv0 M T P = 0 := by
        rw [v2]; exact nI_ne0 (by omega) (by omega)
      rw [if_neg n1, failC, if_neg n0]
      exact ⟨(-20) - nI P, _, _, rfl, rfl, ⟨N, hp⟩, hu, hk, hi, tape0, hs⟩
