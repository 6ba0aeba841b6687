/-! SHEETS AND TAPE: class and reference alike -/
theorem lgc_le (a b : Int64) : (lg_cmp a b ≤ 0) ↔ a.toInt ≤ b.toInt := by
  unfold lg_cmp
  simp only [gt_iff_lt, Int64.lt_iff_toInt_lt, ← Int64.toInt_inj]
  by_cases h1 : b.toInt < a.toInt
  · rw [if_pos h1]
    exact ⟨fun h => absurd h (by decide), fun h => by omega⟩
  · rw [if_neg h1]
    by_cases h2 : a.toInt = b.toInt
    · rw [if_pos h2]
      exact ⟨fun _ => by omega, fun _ => by decide⟩
    · rw [if_neg h2]
      exact ⟨fun _ => by omega, fun _ => by decide⟩
theorem shq (x : Int32) : (∃ k, k < 4 ∧ x = nI k ∧ f_X5_isSheet x = some 1 ∧ f_X6_isSheet x = some 1) ∨ (f_X5_isSheet x = some 0 ∧ f_X6_isSheet x = some 0) := by
  unfold f_X5_isSheet f_X6_isSheet
  rw [in_eq, w64]
  have z0 : (0 : Int64).toInt = 0 := rfl
  have z3 : (3 : Int64).toInt = 3 := rfl
  rw [z0, z3]
  rcases pk_ix x (n := 4) (by decide) with h | h | ⟨j, hj, rfl⟩
  · right
    have := Int32.lt_iff_toInt_lt.mp h
    have e0 : (0 : Int32).toInt = 0 := rfl
    rw [if_pos h, if_neg (by omega)]
    exact ⟨rfl, rfl⟩
  · right
    have := Int32.le_iff_toInt_le.mp h
    have e4 : (nI 4).toInt = 4 := rfl
    have e0 : (0 : Int32).toInt = 0 := rfl
    rw [if_neg (fun q => by have := Int32.lt_iff_toInt_lt.mp q; omega), if_pos (show (4 : Int32) ≤ x from h), if_neg (by omega)]
    exact ⟨rfl, rfl⟩
  · left
    refine ⟨j, hj, rfl, ?_, ?_⟩
    · rw [if_neg (nI_pos (by omega)), if_neg (show ¬ (4 : Int32) ≤ nI j from nI_ge (b := 4) hj (by decide))]
    · rw [nI_toInt (by omega), if_pos (by omega)]; rfl
theorem lnq (x : Int32) : (∃ k, k < 4 ∧ x = nI k ∧ f_X5_isLane x = some 1 ∧ f_X6_isLane x = some 1) ∨ (f_X5_isLane x = some 0 ∧ f_X6_isLane x = some 0) := shq x
theorem sj_nI {k : Nat} (h : k < 4) : sj (nI k) = k := by
  unfold sj; rw [if_pos (inB_nI h (by decide)), nI_clamp (by omega)]
/-- a sheet as the reference has it -/
noncomputable def R3 (s : St3) (l z : Int32) : Prop := (p3_size s = -1 ∧ l < 0) ∨ (∃ S : Nat, S ≤ 24 ∧ p3_size s = nI S ∧ z = nI S ∧ l = p3_lane s ∧ ¬ l < 0)
theorem nIm1 {S : Nat} (h : S ≤ 24) : ¬ nI S = -1 := by
  intro e
  have h1 := nI_toInt (n := S) (by omega)
  rw [e] at h1
  have : (-1 : Int32).toInt = -1 := rfl
  omega
/-- the first ground of refusal -/
theorem why_eq {s : St3} {l z : Int32} (h : R3 s l z) (lane i n : Int32) : ∃ r : Int32, f_X3_refusal s lane i n = some r ∧ (∀ (M : St6) (k : Nat), k < 4 → p6_lanes M k = l → p6_sizes M k = z → f_X6_why M (nI k) lane i n = some r) ∧ (r = 0 ∨ (r < 0 ∧ ¬ r = 0)) ∧ (r = 0 → ∃ I K S : Nat, i = nI I ∧ n = nI K ∧ I + K ≤ S ∧ S ≤ 24 ∧ p3_size s = nI S ∧ z = nI S ∧ p3_lane s = lane ∧ l = lane) := by
  unfold f_X3_refusal f_X3_isMissing f_X3_holds f_X6_why
  rcases h with ⟨h1, h2⟩ | ⟨S, hS, e1, e2, e3, h4⟩
  · refine ⟨-11, ?_, fun M k hk hl hz => ?_, Or.inr ⟨by decide, by decide⟩, fun q => absurd q (by decide)⟩
    · rw [if_pos h1]; rfl
    · rw [if_pos (inB_nI hk (by decide)), nI_clamp (by omega), hl, if_neg (fun q => by have := Int32.lt_iff_toInt_lt.mp h2; have := Int32.le_iff_toInt_le.mp q; omega)]
  · have hl0 : (0 : Int32) ≤ l := by
      have : ¬ l.toInt < (0 : Int32).toInt := fun q => h4 (Int32.lt_iff_toInt_lt.mpr q)
      exact Int32.le_iff_toInt_le.mpr (by omega)
    by_cases hln : l = lane
    · rw [if_neg (by rw [e1]; exact nIm1 hS)]
      simp only [Option.bind_some]
      rw [if_pos trivial, if_pos (by rw [← e3]; exact hln)]
      by_cases hi : i < 0
      · refine ⟨-13, ?_, fun M k hk hl hz => ?_, Or.inr ⟨by decide, by decide⟩, fun q => absurd q (by decide)⟩
        · rw [if_pos hi]; rfl
        · rw [if_pos (inB_nI hk (by decide)), nI_clamp (by omega), hl, if_pos hl0, if_pos (inB_nI hk (by decide)), if_pos hln, if_pos hi]
      · by_cases hn : n < 0
        · refine ⟨-13, ?_, fun M k hk hl hz => ?_, Or.inr ⟨by decide, by decide⟩, fun q => absurd q (by decide)⟩
          · rw [if_neg hi, if_pos hn]; rfl
          · rw [if_pos (inB_nI hk (by decide)), nI_clamp (by omega), hl, if_pos hl0, if_pos (inB_nI hk (by decide)), if_pos hln, if_neg hi, if_pos hn]
        · obtain ⟨I, hI, rfl⟩ := nI_of hi
          obtain ⟨K, hK, rfl⟩ := nI_of hn
          have hd : (nI S - nI K).toInt = (S : Int) - K := by
            rw [fb_subI (by rw [nI_toInt (by omega), nI_toInt hK]; omega) (by rw [nI_toInt (by omega), nI_toInt hK]; omega), nI_toInt (by omega), nI_toInt hK]
          have ha : ((nI I).toInt64 + (nI K).toInt64).toInt = (I : Int) + K := by
            rw [Int64.toInt_add, w64, w64, nI_toInt hI, nI_toInt hK, Int.bmod_eq_of_le (by omega) (by omega)]
          have hz64 : (nI S).toInt64.toInt = (S : Int) := by rw [w64, nI_toInt (by omega)]
          by_cases hh : I + K ≤ S
          · refine ⟨0, ?_, fun M k hk hl hz => ?_, Or.inl rfl, fun _ => ⟨I, K, S, rfl, rfl, hh, hS, e1, e2, by rw [← e3]; exact hln, hln⟩⟩
            · rw [if_neg hi, if_neg hn, e1, if_neg (fun q => by have := Int32.lt_iff_toInt_lt.mp q; rw [hd, nI_toInt hI] at this; omega)]; rfl
            · rw [if_pos (inB_nI hk (by decide)), nI_clamp (by omega), hl, if_pos hl0, if_pos (inB_nI hk (by decide)), if_pos hln, if_neg hi, if_neg hn, if_pos (inB_nI hk (by decide)), hz, e2, if_pos ((lgc_le _ _).mpr (by rw [ha, hz64]; omega))]
          · refine ⟨-13, ?_, fun M k hk hl hz => ?_, Or.inr ⟨by decide, by decide⟩, fun q => absurd q (by decide)⟩
            · rw [if_neg hi, if_neg hn, e1, if_pos (Int32.lt_iff_toInt_lt.mpr (by rw [hd, nI_toInt hI]; omega))]; rfl
            · rw [if_pos (inB_nI hk (by decide)), nI_clamp (by omega), hl, if_pos hl0, if_pos (inB_nI hk (by decide)), if_pos hln, if_neg hi, if_neg hn, if_pos (inB_nI hk (by decide)), hz, e2, if_neg (fun q => by have := (lgc_le _ _).mp q; rw [ha, hz64] at this; omega)]
    · refine ⟨-12, ?_, fun M k hk hl hz => ?_, Or.inr ⟨by decide, by decide⟩, fun q => absurd q (by decide)⟩
      · rw [if_neg (by rw [e1]; exact nIm1 hS)]
        simp only [Option.bind_some]
        rw [if_pos trivial, if_neg (by rw [← e3]; exact hln)]
      · rw [if_pos (inB_nI hk (by decide)), nI_clamp (by omega), hl, if_pos hl0, if_pos (inB_nI hk (by decide)), if_neg hln]
/-- lane and size as before -/
noncomputable def SQ (a b : St3) : Prop := p3_lane a = p3_lane b ∧ p3_size a = p3_size b
theorem R3.sq {a b : St3} {l z : Int32} (h : R3 b l z) (q : SQ a b) : R3 a l z := by
  unfold R3; rw [q.1, q.2]; exact h
theorem ok_put (s : St3) {x : Int32} (hx : rg x 24) (v : Int64) : ok (fun r => SQ r s) (f_X3_put s x v) := by
  unfold f_X3_put
  have hi := rg_in hx (by decide)
  exact ok_i (fun _ => ok_g hi (ok_s ⟨rfl, rfl⟩)) (fun _ => ok_i (fun _ => ok_g hi (ok_s ⟨rfl, rfl⟩)) (fun _ => ok_i (fun _ => ok_g hi (ok_s ⟨rfl, rfl⟩)) (fun _ => ok_g hi (ok_s ⟨rfl, rfl⟩))))
theorem type_eq {ln sz : Nat → Int32} {T : Nat} (hT : T ≤ 60) {tp : St4} (h : p4_size tp = nI T) {M : St6} (hM : IM (nI T) ln sz M) (κ : St5) (x : Int32) : ∃ (r : Int32) (T' : Nat) (tp' : St4) (M' : St6), T' ≤ 60 ∧ f_X5_type κ tp x = some (r, tp') ∧ f_X6_type M x = some (r, M') ∧ p4_size tp' = nI T' ∧ IM (nI T') ln sz M' := by
  unfold f_X5_type f_X6_type f_X4_isFull f_X4_append
  rw [in_eq, w64]
  have z0 : (32 : Int64).toInt = 32 := rfl
  have z3 : (126 : Int64).toInt = 126 := rfl
  have y0 : (32 : Int32).toInt = 32 := rfl
  have y3 : (126 : Int32).toInt = 126 := rfl
  rw [z0, z3]
  simp only [Option.bind_some]
  have ety : p6_typed M = nI T := hM.ty
  by_cases hc : 32 ≤ x.toInt ∧ x.toInt ≤ 126
  · rw [if_pos hc, if_neg (show ¬ (1 : Int32) = 0 by decide), if_neg (show ¬ x < 32 from fun q => by have := Int32.lt_iff_toInt_lt.mp q; omega), if_pos (show x ≤ 126 from Int32.le_iff_toInt_le.mpr (by omega)), h, ety]
    by_cases h60 : T = 60
    · subst h60
      refine ⟨-3, 60, tp, M, by decide, ?_, ?_, h, hM⟩
      · rw [if_neg (by decide)]; rfl
      · rw [if_pos (show nI 60 = (60 : Int32) from rfl)]
    · have hlt : T < 60 := by omega
      have hcl : (nI T).toNatClampNeg = T := nI_clamp (by omega)
      refine ⟨nI (T + 1), T + 1, s4_size (s4_letters tp (upd (p4_letters tp) T x)) (nI (T + 1)), s6_typed (s6_tape M (upd (p6_tape M) T x)) (nI (T + 1)), by omega, ?_, ?_, rfl, ?_⟩
      · rw [if_pos (show nI T < (60 : Int32) from nI_lt (b := 60) hlt (by decide))]
        simp only [Option.bind_some]
        rw [if_pos trivial, if_neg (show ¬ (60 : Int32) ≤ nI T from nI_ge (b := 60) hlt (by decide)), if_pos (inB_nI hlt (by decide)), hcl, nI_1]
        rfl
      · rw [if_neg (show ¬ nI T = (60 : Int32) from fun q => h60 ((nI_eq (b := 60) (by omega) (by decide)).mp q)), if_pos (inB_nI hlt (by decide)), hcl, nI_1]
      · exact IM.typed (t := nI T) (s := s6_tape M (upd (p6_tape M) T x)) hM (nI (T + 1))
  · rw [if_neg hc, if_pos rfl]
    refine ⟨-1, T, tp, M, hT, ?_, rfl, h, hM⟩
    by_cases h1 : x < 32
    · rw [if_pos h1]
    · rw [if_neg h1, if_neg (fun q => by
        have h1' : ¬ x.toInt < (32 : Int32).toInt := fun q => h1 (Int32.lt_iff_toInt_lt.mpr q)
        have := Int32.le_iff_toInt_le.mp q
        omega)]
