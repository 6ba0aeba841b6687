/-! THE FULL RELATION: how a close is read -/
noncomputable def mS (M : St6) (R : Nat → Int32) (F : Int32) (P : Nat) : St6 := s6_isFault (s6_place (s6_read M R) (nI P)) F
noncomputable def cS (c : St4) (P : Nat) : St4 := s4_place c (nI P)
/-- the tape on both sides -/
noncomputable def TP (c : St4) (M : St6) (T : Nat) : Prop := T ≤ 60 ∧ p4_size c = nI T ∧ p6_typed M = nI T ∧ ∀ i, i < T → p4_letters c i = p6_tape M i ∧ ltr (p6_tape M i)
/-- a place where no blank stands -/
noncomputable def stp (M : St6) (T P : Nat) : Prop := P ≤ T ∧ (P < T → ¬ p6_tape M P = 32)
noncomputable def cv (M : St6) (T P : Nat) : Int32 := if P < T then p6_tape M P else -1
noncomputable def mv0 (M : St6) (T P : Nat) : Int32 := if P < T then p6_tape M P else 0
section
variable {M : St6} {c : St4} {T : Nat}
theorem hereL (h : TP c M T) (R : Nat → Int32) (F : Int32) : ∀ m n P, P + m = T → m < n → ∃ P', P ≤ P' ∧ stp M T P' ∧ lp_X4_letterHere_0 n (cS c P) = some (cS c P') ∧ lp_X6_here_0 n (mS M R F P) = some (mS M R F P') := by
  obtain ⟨hT, e1, e2, hl⟩ := h
  intro m
  induction m with
  | zero =>
    intro n P hP hn
    obtain ⟨n, rfl⟩ : ∃ m, n = m + 1 := ⟨n - 1, by omega⟩
    have hPT : P = T := by omega
    subst hPT
    refine ⟨P, Nat.le_refl _, ⟨Nat.le_refl _, fun q => absurd q (Nat.lt_irrefl _)⟩, ?_, ?_⟩
    · rw [lp_X4_letterHere_0, if_pos (show p4_size (cS c P) ≤ p4_place (cS c P) by show p4_size c ≤ nI P; rw [e1]; exact Int32.le_refl _)]
    · rw [lp_X6_here_0, if_pos (show p6_typed (mS M R F P) ≤ p6_place (mS M R F P) by show p6_typed M ≤ nI P; rw [e2]; exact Int32.le_refl _)]
  | succ m ih =>
    intro n P hP hn
    obtain ⟨n, rfl⟩ : ∃ m, n = m + 1 := ⟨n - 1, by omega⟩
    have hPT : P < T := by omega
    have hi : inB (nI P) 60 = true := inB_nI (by omega) (by decide)
    have hcl : (nI P).toNatClampNeg = P := nI_clamp (by omega)
    have k1 : ¬ p4_size (cS c P) ≤ p4_place (cS c P) := by
      show ¬ p4_size c ≤ nI P
      rw [e1]; exact nI_ge hPT (by omega)
    have k2 : ¬ p6_typed (mS M R F P) ≤ p6_place (mS M R F P) := by
      show ¬ p6_typed M ≤ nI P
      rw [e2]; exact nI_ge hPT (by omega)
    rw [lp_X4_letterHere_0, lp_X6_here_0, if_neg k1, if_neg k2, if_pos (show inB (p4_place (cS c P)) 60 = true from hi), if_pos (show inB (p6_place (mS M R F P)) 60 = true from hi)]
    have l1 : p4_letters (cS c P) ((p4_place (cS c P)).toNatClampNeg) = p6_tape M P := by
      show p4_letters c ((nI P).toNatClampNeg) = _
      rw [hcl]; exact (hl P hPT).1
    have l2 : p6_tape (mS M R F P) ((p6_place (mS M R F P)).toNatClampNeg) = p6_tape M P := by
      show p6_tape M ((nI P).toNatClampNeg) = _
      rw [hcl]
    rw [l1, l2]
    by_cases h32 : p6_tape M P = 32
    · rw [if_pos h32, if_pos h32]
      obtain ⟨P', a1, a2, a3, a4⟩ := ih n (P + 1) (by omega) (by omega)
      refine ⟨P', by omega, a2, ?_, ?_⟩
      · show lp_X4_letterHere_0 n (s4_place c (nI P + 1)) = _
        rw [nI_1]; exact a3
      · show lp_X6_here_0 n (s6_isFault (s6_place (s6_read M R) (nI P + 1)) F) = _
        rw [nI_1]; exact a4
    · rw [if_neg h32, if_neg h32]
      exact ⟨P, Nat.le_refl _, ⟨by omega, fun _ => h32⟩, rfl, rfl⟩
theorem hereV (h : TP c M T) (R : Nat → Int32) (F : Int32) {P : Nat} (hP : P ≤ T) : (if (p4_size (cS c P)) ≤ (p4_place (cS c P)) then some ((-1 : Int32), cS c P) else (if inB (p4_place (cS c P)) 60 = true then some ((p4_letters (cS c P)) (p4_place (cS c P)).toNatClampNeg, cS c P) else none)) = some (cv M T P, cS c P) ∧ (if (p6_typed (mS M R F P)) ≤ (p6_place (mS M R F P)) then some ((0 : Int32), mS M R F P) else (if inB (p6_place (mS M R F P)) 60 = true then some ((p6_tape (mS M R F P)) (p6_place (mS M R F P)).toNatClampNeg, mS M R F P) else none)) = some (mv0 M T P, mS M R F P) := by
  obtain ⟨hT, e1, e2, hl⟩ := h
  unfold cv mv0
  by_cases hPT : P < T
  · have hi : inB (nI P) 60 = true := inB_nI (by omega) (by decide)
    have hcl : (nI P).toNatClampNeg = P := nI_clamp (by omega)
    have k1 : ¬ p4_size (cS c P) ≤ p4_place (cS c P) := by
      show ¬ p4_size c ≤ nI P
      rw [e1]; exact nI_ge hPT (by omega)
    have k2 : ¬ p6_typed (mS M R F P) ≤ p6_place (mS M R F P) := by
      show ¬ p6_typed M ≤ nI P
      rw [e2]; exact nI_ge hPT (by omega)
    have l1 : p4_letters (cS c P) ((p4_place (cS c P)).toNatClampNeg) = p6_tape M P := by
      show p4_letters c ((nI P).toNatClampNeg) = _
      rw [hcl]; exact (hl P hPT).1
    have l2 : p6_tape (mS M R F P) ((p6_place (mS M R F P)).toNatClampNeg) = p6_tape M P := by
      show p6_tape M ((nI P).toNatClampNeg) = _
      rw [hcl]
    rw [if_neg k1, if_neg k2, if_pos (show inB (p4_place (cS c P)) 60 = true from hi), if_pos (show inB (p6_place (mS M R F P)) 60 = true from hi), l1, l2, if_pos hPT, if_pos hPT]
    exact ⟨rfl, rfl⟩
  · have hPT' : P = T := by omega
    subst hPT'
    rw [if_pos (show p4_size (cS c P) ≤ p4_place (cS c P) by show p4_size c ≤ nI P; rw [e1]; exact Int32.le_refl _), if_pos (show p6_typed (mS M R F P) ≤ p6_place (mS M R F P) by show p6_typed M ≤ nI P; rw [e2]; exact Int32.le_refl _), if_neg hPT, if_neg hPT]
    exact ⟨rfl, rfl⟩
theorem hereR (h : TP c M T) (R : Nat → Int32) (F : Int32) {P : Nat} (hP : P ≤ T) : ∃ P', P ≤ P' ∧ stp M T P' ∧ f_X4_letterHere (cS c P) = some (cv M T P', cS c P') ∧ f_X6_here (mS M R F P) = some (mv0 M T P', mS M R F P') := by
  obtain ⟨P', a1, a2, a3, a4⟩ := hereL h R F (T - P) FU P (by omega) (by have := h.1; unfold FU; omega)
  obtain ⟨v1, v2⟩ := hereV h R F a2.1
  refine ⟨P', a1, a2, ?_, ?_⟩
  · unfold f_X4_letterHere
    rw [bd_eq a3]; exact v1
  · unfold f_X6_here
    rw [bd_eq a4]; exact v2
theorem hereS (h : TP c M T) (R : Nat → Int32) (F : Int32) {P : Nat} (hs : stp M T P) : f_X4_letterHere (cS c P) = some (cv M T P, cS c P) ∧ f_X6_here (mS M R F P) = some (mv0 M T P, mS M R F P) := by
  obtain ⟨hT, e1, e2, hl⟩ := h
  obtain ⟨v1, v2⟩ := hereV ⟨hT, e1, e2, hl⟩ R F hs.1
  have a3 : lp_X4_letterHere_0 FU (cS c P) = some (cS c P) := by
    rw [show FU = 99999 + 1 from rfl, lp_X4_letterHere_0]
    by_cases hPT : P < T
    · have hcl : (nI P).toNatClampNeg = P := nI_clamp (by omega)
      rw [if_neg (show ¬ p4_size (cS c P) ≤ p4_place (cS c P) by show ¬ p4_size c ≤ nI P; rw [e1]; exact nI_ge hPT (by omega)), if_pos (show inB (p4_place (cS c P)) 60 = true from inB_nI (by omega) (by decide)), if_neg (show ¬ p4_letters (cS c P) ((p4_place (cS c P)).toNatClampNeg) = 32 by show ¬ p4_letters c ((nI P).toNatClampNeg) = 32; rw [hcl, (hl P hPT).1]; exact hs.2 hPT)]
    · have : P = T := by have := hs.1; omega
      subst this
      rw [if_pos (show p4_size (cS c P) ≤ p4_place (cS c P) by show p4_size c ≤ nI P; rw [e1]; exact Int32.le_refl _)]
  have a4 : lp_X6_here_0 FU (mS M R F P) = some (mS M R F P) := by
    rw [show FU = 99999 + 1 from rfl, lp_X6_here_0]
    by_cases hPT : P < T
    · have hcl : (nI P).toNatClampNeg = P := nI_clamp (by omega)
      rw [if_neg (show ¬ p6_typed (mS M R F P) ≤ p6_place (mS M R F P) by show ¬ p6_typed M ≤ nI P; rw [e2]; exact nI_ge hPT (by omega)), if_pos (show inB (p6_place (mS M R F P)) 60 = true from inB_nI (by omega) (by decide)), if_neg (show ¬ p6_tape (mS M R F P) ((p6_place (mS M R F P)).toNatClampNeg) = 32 by show ¬ p6_tape M ((nI P).toNatClampNeg) = 32; rw [hcl]; exact hs.2 hPT)]
    · have : P = T := by have := hs.1; omega
      subst this
      rw [if_pos (show p6_typed (mS M R F P) ≤ p6_place (mS M R F P) by show p6_typed M ≤ nI P; rw [e2]; exact Int32.le_refl _)]
  refine ⟨?_, ?_⟩
  · unfold f_X4_letterHere
    rw [bd_eq a3]; exact v1
  · unfold f_X6_here
    rw [bd_eq a4]; exact v2
/-- what stands there -/
theorem vq (h : TP c M T) {P : Nat} (hs : stp M T P) : (P = T ∧ cv M T P = -1 ∧ mv0 M T P = 0) ∨ (P < T ∧ ∃ l, 32 < l ∧ l < 127 ∧ cv M T P = nI l ∧ mv0 M T P = nI l) := by
  unfold cv mv0
  by_cases hPT : P < T
  · rw [if_pos hPT, if_pos hPT]
    obtain ⟨l, h1, h2, e⟩ := (h.2.2.2 P hPT).2
    refine Or.inr ⟨hPT, l, ?_, h2, e, e⟩
    rcases Nat.lt_or_ge 32 l with q | q
    · exact q
    · have : l = 32 := by omega
      subst this
      exact absurd e (hs.2 hPT)
  · rw [if_neg hPT, if_neg hPT]
    exact Or.inl ⟨by have := hs.1; omega, rfl, rfl⟩
theorem vch (h : TP c M T) {P : Nat} (hs : stp M T P) (ch : Nat) (hc : 32 < ch) (hc2 : ch < 127) : (P < T ∧ cv M T P = nI ch ∧ mv0 M T P = nI ch) ∨ (¬ cv M T P = nI ch ∧ ¬ mv0 M T P = nI ch) := by
  rcases vq h hs with ⟨_, e1, e2⟩ | ⟨hP, l, h1, h2, e1, e2⟩
  · refine Or.inr ⟨?_, ?_⟩
    · rw [e1]
      intro c
      have := congrArg Int32.toInt c
      rw [nI_toInt (by omega)] at this
      have h3 : (-1 : Int32).toInt = -1 := rfl
      omega
    · rw [e2]
      intro c
      have := congrArg Int32.toInt c
      rw [nI_toInt (by omega)] at this
      have h3 : (0 : Int32).toInt = 0 := rfl
      omega
  · by_cases e : l = ch
    · subst e; exact Or.inl ⟨hP, e1, e2⟩
    · refine Or.inr ⟨?_, ?_⟩
      · rw [e1]; exact fun c => e ((nI_eq (by omega) (by omega)).mp c)
      · rw [e2]; exact fun c => e ((nI_eq (by omega) (by omega)).mp c)
theorem takeR (h : TP c M T) (R : Nat → Int32) (F : Int32) {P : Nat} (hP : P ≤ T) (ch : Nat) (hc : 32 < ch) (hc2 : ch < 127) : ∃ P', P ≤ P' ∧ stp M T P' ∧ ((P' < T ∧ f_X4_take (cS c P) (nI ch) = some (1, cS c (P' + 1)) ∧ f_X6_here (mS M R F P) = some (nI ch, mS M R F P')) ∨ (f_X4_take (cS c P) (nI ch) = some (0, cS c P') ∧ ∃ v, f_X6_here (mS M R F P) = some (v, mS M R F P') ∧ ¬ v = nI ch)) := by
  obtain ⟨P', a1, a2, a3, a4⟩ := hereR h R F hP
  refine ⟨P', a1, a2, ?_⟩
  unfold f_X4_take
  rw [bd_eq a3]
  rcases vch h a2 ch hc hc2 with ⟨b1, b2, b3⟩ | ⟨b2, b3⟩
  · refine Or.inl ⟨b1, ?_, by rw [a4, b3]⟩
    rw [if_pos b2]
    show some ((1 : Int32), s4_place c (nI P' + 1)) = _
    rw [nI_1]; rfl
  · refine Or.inr ⟨?_, _, a4, b3⟩
    rw [if_neg b2]
    show some ((0 : Int32), s4_place c (nI P' + 0)) = _
    rw [Int32.add_zero]; rfl
theorem dgt (h : TP c M T) {P : Nat} (hP : P ≤ T) : (∃ d, d ≤ 9 ∧ P < T ∧ p6_tape M P = nI (48 + d) ∧ f_X4_takeDigit (cS c P) = some (nI d, cS c (P + 1))) ∨ ((P = T ∨ (P < T ∧ ∃ l, l < 127 ∧ p6_tape M P = nI l ∧ (l < 48 ∨ 57 < l))) ∧ f_X4_takeDigit (cS c P) = some (-1, cS c P)) := by
  obtain ⟨hT, e1, e2, hl⟩ := h
  unfold f_X4_takeDigit
  by_cases hPT : P < T
  · have hi : inB (nI P) 60 = true := inB_nI (by omega) (by decide)
    have hcl : (nI P).toNatClampNeg = P := nI_clamp (by omega)
    have k1 : ¬ p4_size (cS c P) ≤ p4_place (cS c P) := by
      show ¬ p4_size c ≤ nI P
      rw [e1]; exact nI_ge hPT (by omega)
    have l1 : p4_letters (cS c P) ((p4_place (cS c P)).toNatClampNeg) = p6_tape M P := by
      show p4_letters c ((nI P).toNatClampNeg) = _
      rw [hcl]; exact (hl P hPT).1
    have ep : p4_place (cS c P) + 1 - 1 = nI P := by
      show nI P + 1 - 1 = nI P
      rw [nI_1, nI_pred]
    obtain ⟨l, h1, h2, e⟩ := (hl P hPT).2
    have hi' : inB (p4_place (cS c P)) 60 = true := hi
    have l1' : p4_letters (cS c P) ((nI P).toNatClampNeg) = p6_tape M P := l1
    rw [if_neg k1, if_pos hi', l1, if_pos hi', ep, if_pos hi, l1', e]
    by_cases q1 : l < 48
    · rw [if_pos (show nI l < (48 : Int32) from nI_lt (b := 48) q1 (by decide))]
      exact Or.inr ⟨Or.inr ⟨hPT, l, h2, rfl, Or.inl q1⟩, rfl⟩
    · rw [if_neg (show ¬ nI l < (48 : Int32) from nI_nlt (b := 48) (by omega) (by omega))]
      by_cases q2 : l ≤ 57
      · rw [if_pos (show nI l ≤ (57 : Int32) from nI_le (b := 57) q2 (by decide))]
        refine Or.inl ⟨l - 48, by omega, hPT, by rw [show 48 + (l - 48) = l by omega], ?_⟩
        have : nI l - 48 = nI (l - 48) := pk_sub (b := 48) (by omega)
        rw [this]
        show some (nI (l - 48), s4_place c (nI P + 1)) = _
        rw [nI_1]; rfl
      · rw [if_neg (show ¬ nI l ≤ (57 : Int32) from nI_ge (a := 57) (by omega) (by omega))]
        exact Or.inr ⟨Or.inr ⟨hPT, l, h2, rfl, Or.inr (by omega)⟩, rfl⟩
  · have hPT' : P = T := by omega
    subst hPT'
    rw [if_pos (show p4_size (cS c P) ≤ p4_place (cS c P) by show p4_size c ≤ nI P; rw [e1]; exact Int32.le_refl _)]
    exact Or.inr ⟨Or.inl rfl, rfl⟩
theorem inN {l a b : Nat} (hl : l < 2 ^ 31) {a' b' : Int64} (ha : a'.toInt = (a : Int)) (hb : b'.toInt = (b : Int)) : f_X6_in (nI l).toInt64 a' b' = some (if a ≤ l ∧ l ≤ b then 1 else 0) := by
  rw [in_eq, w64, ha, hb, nI_toInt hl]
  by_cases h : a ≤ l ∧ l ≤ b
  · rw [if_pos h, if_pos (by omega)]
  · rw [if_neg h, if_neg (by omega)]
/-- one turn of the reference's number -/
theorem m_n55 (h : TP c M T) (R : Nat → Int32) (x1 x2 : Int32) {B P : Nat} (hB : B ≤ P) (hP : P ≤ T) (n : Nat) (v : Int32) : (B + 2 ≤ P → lp_X6_number_55 x1 x2 (nI B) (n + 1) v (mS M R 0 P) = some (v, mS M R 0 P)) ∧ ((P = T ∨ (P < T ∧ ∃ l, l < 127 ∧ p6_tape M P = nI l ∧ (l < 48 ∨ 57 < l))) → lp_X6_number_55 x1 x2 (nI B) (n + 1) v (mS M R 0 P) = some (v, mS M R 0 P)) ∧ (∀ d, d ≤ 9 → P < T → P < B + 2 → p6_tape M P = nI (48 + d) → lp_X6_number_55 x1 x2 (nI B) (n + 1) v (mS M R 0 P) = lp_X6_number_55 x1 x2 (nI B) n (10 * v + nI d) (mS M R 0 (P + 1))) := by
  obtain ⟨hT, e1, e2, hl⟩ := h
  have f0 : p6_isFault (mS M R 0 P) = 0 := rfl
  have ep : p6_place (mS M R 0 P) = nI P := rfl
  have et : p6_typed (mS M R 0 P) = nI T := e2
  have es : nI P - nI B = nI (P - B) := pk_sub hB
  rw [lp_X6_number_55, if_pos f0, ep, et, es]
  by_cases hPT : P < T
  · have hi : inB (nI P) 60 = true := inB_nI (by omega) (by decide)
    have hcl : (nI P).toNatClampNeg = P := nI_clamp (by omega)
    have l2 : p6_tape (mS M R 0 P) ((nI P).toNatClampNeg) = p6_tape M P := by
      show p6_tape M ((nI P).toNatClampNeg) = _
      rw [hcl]
    rw [if_neg (nI_ge hPT (by omega)), if_pos hi, if_pos hi, l2]
    refine ⟨fun h2 => ?_, fun hs => ?_, fun d hd _ hB2 hd2 => ?_⟩
    · rw [if_pos (show (2 : Int32) ≤ nI (P - B) from nI_le (a := 2) (by omega) (by omega))]
    · by_cases h2 : B + 2 ≤ P
      · rw [if_pos (show (2 : Int32) ≤ nI (P - B) from nI_le (a := 2) (by omega) (by omega))]
      · rw [if_neg (show ¬ (2 : Int32) ≤ nI (P - B) from nI_ge (b := 2) (by omega) (by decide))]
        rcases hs with q | ⟨_, l, hl1, el, hl2⟩
        · omega
        · rw [el, bd_eq (inN (a := 48) (b := 57) (by omega) rfl rfl), if_neg (show ¬ (48 ≤ l ∧ l ≤ 57) by omega), i0]
    · rw [if_neg (show ¬ (2 : Int32) ≤ nI (P - B) from nI_ge (b := 2) (by omega) (by decide)), hd2, bd_eq (inN (a := 48) (b := 57) (by omega) rfl rfl), if_pos (show 48 ≤ 48 + d ∧ 48 + d ≤ 57 by omega), i1]
      have e10 : 10 * v + nI (48 + d) - 48 = 10 * v + nI d := by
        have : nI (48 + d) = nI d + 48 := by
          show _ = nI d + nI 48
          rw [nI_add, Nat.add_comm]
        rw [this, ← Int32.add_assoc, Int32.add_sub_cancel]
      rw [e10]
      show lp_X6_number_55 x1 x2 (nI B) n (10 * v + nI d) (s6_isFault (s6_place (s6_read M R) (nI P + 1)) 0) = _
      rw [nI_1]; rfl
  · have hPT' : P = T := by omega
    subst hPT'
    rw [if_pos (Int32.le_refl _)]
    exact ⟨fun _ => rfl, fun _ => rfl, fun d _ q => absurd q hPT⟩
theorem m_n55f (R : Nat → Int32) (x1 x2 x4 v : Int32) (P n : Nat) : lp_X6_number_55 x1 x2 x4 (n + 1) v (mS M R 1 P) = some (v, mS M R 1 P) := by
  rw [lp_X6_number_55, if_neg (show ¬ p6_isFault (mS M R 1 P) = 0 by show ¬ (1 : Int32) = 0; decide)]
theorem numF (R : Nat → Int32) (x1 x2 : Int32) (P : Nat) : f_X6_number (mS M R 1 P) x1 x2 = some (0, mS M R 1 P) := by
  have f1 : ¬ p6_isFault (mS M R 1 P) = 0 := by show ¬ (1 : Int32) = 0; decide
  have e := m_n55f (M := M) R x1 x2 (p6_place (mS M R 1 P)) 0 P 99999
  unfold f_X6_number
  rw [if_neg f1, if_neg f1]
  show ((lp_X6_number_55 x1 x2 (p6_place (mS M R 1 P)) (99999 + 1) 0 (mS M R 1 P)).bind _) = _
  rw [bd_eq e, if_neg f1]
theorem mustF (R : Nat → Int32) (y : Int32) (P : Nat) : f_X6_must (mS M R 1 P) y = some (mS M R 1 P) := by
  unfold f_X6_must
  rw [if_neg (show ¬ p6_isFault (mS M R 1 P) = 0 by show ¬ (1 : Int32) = 0; decide)]
  show some (s6_isFault (s6_place (s6_read M R) (nI P + 0)) 1) = _
  rw [Int32.add_zero]; rfl
theorem must1 (R : Nat → Int32) (P : Nat) : f_X6_must (mS M R 0 P) 1 = some (mS M R 0 (P + 1)) := by
  unfold f_X6_must
  rw [if_pos (show p6_isFault (mS M R 0 P) = 0 from rfl), if_neg (by decide)]
  show some (s6_isFault (s6_place (s6_read M R) (nI P + 1)) 0) = _
  rw [nI_1]; rfl
theorem must0 (R : Nat → Int32) (P : Nat) : f_X6_must (mS M R 0 P) 0 = some (mS M R 1 P) := by
  unfold f_X6_must
  rw [if_pos (show p6_isFault (mS M R 0 P) = 0 from rfl), if_pos rfl]
  show some (s6_isFault (s6_place (s6_read M R) (nI P + 0)) 1) = _
  rw [Int32.add_zero]; rfl
/-- a number, on both sides -/
theorem numR (h : TP c M T) (R : Nat → Int32) {P lo hi : Nat} (hP : P ≤ T) (hhi : hi ≤ 30) {x1 x2 : Int32} (e1 : x1 = nI lo) (e2 : x2 = nI hi) (hlo : lo ≤ hi) : ∃ P', P' ≤ T ∧ ((f_X4_takeNumber (cS c P) x1 x2 = some (-1, cS c P') ∧ ∃ v, f_X6_number (mS M R 0 P) x1 x2 = some (v, mS M R 1 P')) ∨ ∃ v, lo ≤ v ∧ v ≤ hi ∧ f_X4_takeNumber (cS c P) x1 x2 = some (nI v, cS c P') ∧ f_X6_number (mS M R 0 P) x1 x2 = some (nI v, mS M R 0 P')) := by
  subst e1 e2
  obtain ⟨Q, a1, a2, a3, a4⟩ := hereR h R 0 hP
  have hQ := a2.1
  have f0 : ∀ P, p6_isFault (mS M R 0 P) = 0 := fun _ => rfl
  have f1 : ∀ P, ¬ p6_isFault (mS M R 1 P) = 0 := fun _ => by show ¬ (1 : Int32) = 0; decide
  have m1 : ¬ (-1 : Int32) = nI 0 := by decide
  have nlo : (-1 : Int32) < nI lo := Int32.lt_iff_toInt_lt.mpr (by rw [nI_toInt (by omega)]; show (-1 : Int) < _; omega)
  have nm1 : ∀ v, v < 1000 → ¬ nI v = -1 := fun v hv q => by
    have := nI_toInt (n := v) (by omega)
    rw [q] at this
    have h4 : (-1 : Int32).toInt = -1 := rfl
    omega
  have epl : ∀ F P, p6_place (mS M R F P) = nI P := fun _ _ => rfl
  have ecp : ∀ P, p4_place (cS c P) = nI P := fun _ => rfl
  have ecs : ∀ P Q, s4_place (cS c P) (nI Q) = cS c Q := fun _ _ => rfl
  have ems : ∀ F P Q, s6_isFault (s6_place (mS M R F P) (nI Q)) 1 = mS M R 1 Q := fun _ _ _ => rfl
  have efs : ∀ F P F', s6_isFault (mS M R F P) F' = mS M R F' P := fun _ _ _ => rfl
  -- what the reference makes of a value
  have fin : ∀ (v Q' : Nat), v < 1000 → (if p6_isFault (mS M R 0 Q') = 0 then ((f_X6_in (nI v).toInt64 (nI lo).toInt64 (nI hi).toInt64).bind (fun r19 => (if r19 = 0 then some (nI v, (s6_isFault (s6_place (mS M R 0 Q') (nI Q)) 1)) else some (nI v, mS M R 0 Q')))) else some (nI v, mS M R 0 Q')) = if lo ≤ v ∧ v ≤ hi then some (nI v, mS M R 0 Q') else some (nI v, mS M R 1 Q) := by
    intro v Q' hv
    rw [if_pos (f0 Q'), bd_eq (inN (a := lo) (b := hi) (by omega) (by rw [w64, nI_toInt (by omega)]) (by rw [w64, nI_toInt (by omega)]))]
    by_cases hr : lo ≤ v ∧ v ≤ hi
    · rw [if_pos hr, if_pos hr, i1]
    · rw [if_neg hr, if_neg hr, i0]; rfl
  have clf : ∀ (v Q' : Nat), v < 1000 → (if nI v < nI lo then some ((-1 : Int32), (s4_place (cS c Q') (p4_place (cS c Q)))) else (if nI v ≤ nI hi then some (nI v, cS c Q') else some ((-1), (s4_place (cS c Q') (p4_place (cS c Q)))))) = if lo ≤ v ∧ v ≤ hi then some (nI v, cS c Q') else some (-1, cS c Q) := by
    intro v Q' hv
    by_cases hr : lo ≤ v ∧ v ≤ hi
    · rw [if_pos hr, if_neg (nI_nlt hr.1 (by omega)), if_pos (nI_le hr.2 (by omega))]
    · rw [if_neg hr]
      by_cases hl : v < lo
      · rw [if_pos (nI_lt hl (by omega))]; rfl
      · rw [if_neg (nI_nlt (by omega) (by omega)), if_neg (nI_ge (by omega) (by omega))]; rfl
  unfold f_X4_takeNumber f_X6_number
  rw [if_pos (f0 P), bd_eq a3, bd_eq a4, if_pos (f0 Q), epl, efs, efs]
  rcases dgt h hQ with ⟨d, hd, hQT, ed, etk⟩ | ⟨hno, etk⟩
  · -- a digit
    rw [bd_eq etk, if_neg (nm1 d (by omega))]
    have emv : mv0 M T Q = nI (48 + d) := by unfold mv0; rw [if_pos hQT, ed]
    rw [emv, bd_eq (inN (a := 48) (b := 57) (by omega) rfl rfl), if_pos (show 48 ≤ 48 + d ∧ 48 + d ≤ 57 by omega), i1]
    have s1 : lp_X6_number_55 (nI lo) (nI hi) (nI Q) FU 0 (mS M R 0 Q) = lp_X6_number_55 (nI lo) (nI hi) (nI Q) 99999 (nI d) (mS M R 0 (Q + 1)) := by
      have := (m_n55 h R (nI lo) (nI hi) (Nat.le_refl Q) hQ 99999 0).2.2 d hd hQT (by omega) ed
      have e0 : (10 : Int32) * 0 + nI d = nI d := by rw [Int32.mul_zero, Int32.zero_add]
      rw [e0] at this
      exact this
    rw [s1]
    rcases dgt h (show Q + 1 ≤ T by omega) with ⟨d2, hd2, hQT2, ed2, etk2⟩ | ⟨hno2, etk2⟩
    · -- two digits
      have s2 : lp_X6_number_55 (nI lo) (nI hi) (nI Q) 99999 (nI d) (mS M R 0 (Q + 1)) = some (nI (10 * d + d2), mS M R 0 (Q + 1 + 1)) := by
        have a := (m_n55 h R (nI lo) (nI hi) (B := Q) (P := Q + 1) (by omega) (by omega) 99998 (nI d)).2.2 d2 hd2 hQT2 (by omega) ed2
        have b := (m_n55 h R (nI lo) (nI hi) (B := Q) (P := Q + 1 + 1) (by omega) (by omega) 99997 (10 * nI d + nI d2)).1 (by omega)
        have e0 : (10 : Int32) * nI d + nI d2 = nI (10 * d + d2) := by rw [show (10 : Int32) = nI 10 from rfl, nI_mul, nI_add]
        rw [e0] at a b
        exact a.trans b
      have e0 : nI d * 10 + nI d2 = nI (10 * d + d2) := by rw [show (10 : Int32) = nI 10 from rfl, nI_mul, nI_add, Nat.mul_comm]
      rw [bd_eq s2, bd_eq etk2, if_neg (nm1 d2 (by omega)), e0]
      rw [fin (10 * d + d2) (Q + 1 + 1) (by omega), clf (10 * d + d2) (Q + 1 + 1) (by omega)]
      by_cases hr : lo ≤ 10 * d + d2 ∧ 10 * d + d2 ≤ hi
      · rw [if_pos hr, if_pos hr]
        exact ⟨Q + 1 + 1, by omega, Or.inr ⟨_, hr.1, hr.2, rfl, rfl⟩⟩
      · rw [if_neg hr, if_neg hr]
        exact ⟨Q, hQ, Or.inl ⟨rfl, _, rfl⟩⟩
    · -- one digit
      have s2 : lp_X6_number_55 (nI lo) (nI hi) (nI Q) 99999 (nI d) (mS M R 0 (Q + 1)) = some (nI d, mS M R 0 (Q + 1)) := (m_n55 h R (nI lo) (nI hi) (B := Q) (P := Q + 1) (by omega) (by omega) 99998 (nI d)).2.1 hno2
      rw [bd_eq s2, bd_eq etk2, if_pos (show (-1 : Int32) = -1 from rfl)]
      rw [fin d (Q + 1) (by omega), clf d (Q + 1) (by omega)]
      by_cases hr : lo ≤ d ∧ d ≤ hi
      · rw [if_pos hr, if_pos hr]
        exact ⟨Q + 1, by omega, Or.inr ⟨_, hr.1, hr.2, rfl, rfl⟩⟩
      · rw [if_neg hr, if_neg hr]
        exact ⟨Q, hQ, Or.inl ⟨rfl, _, rfl⟩⟩
  · -- none
    have hin : f_X6_in (mv0 M T Q).toInt64 48 57 = some 0 := by
      rcases hno with q | ⟨hQT, l, hl, el, hb⟩
      · have : mv0 M T Q = nI 0 := by unfold mv0; rw [if_neg (by omega)]; rfl
        rw [this, inN (a := 48) (b := 57) (by omega) rfl rfl, if_neg (by omega)]
      · have : mv0 M T Q = nI l := by unfold mv0; rw [if_pos hQT, el]
        rw [this, inN (a := 48) (b := 57) (by omega) rfl rfl, if_neg (by omega)]
    have e := m_n55f (M := M) R (nI lo) (nI hi) (nI Q) 0 Q 99999
    have e' : lp_X6_number_55 (nI lo) (nI hi) (nI Q) FU 0 (mS M R 1 Q) = some (0, mS M R 1 Q) := e
    rw [bd_eq hin, i0, bd_eq e', if_neg (f1 Q), bd_eq etk, if_pos (show (-1 : Int32) = -1 from rfl), if_pos nlo]
    exact ⟨Q, hQ, Or.inl ⟨rfl, _, rfl⟩⟩
end
