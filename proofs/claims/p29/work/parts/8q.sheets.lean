/-! THE FULL RELATION: tape and sheets -/
theorem va3 (f : Nat → St3) (k : Nat) : va_up f k (f k) = f := by
  funext i
  unfold va_up
  by_cases e : i = k
  · rw [if_pos e, e]
  · rw [if_neg e]
theorem sx_same (X : SX) (k : Nat) : sxsh X (va_up (xsh X) k (xsh X k)) = X := by rw [va3]
section
variable {X : SX} {M : St6}
theorem r2_it (h : R2 X M) {k : Nat} (s' : St3) (mv f' : Nat → Int64) (l z : Nat → Int32) (hn : ∀ i, i < 24 → p3_items s' i = f' (24 * k + i)) (ho : ∀ s i, s < 4 → s ≠ k → i < 24 → f' (24 * s + i) = p6_items M (24 * s + i)) : R2 (sxsh X (va_up (xsh X) k s')) (s6_items (s6_moved (s6_sizes (s6_lanes M l) z) mv) f') := by
  refine ⟨h.1, h.2.1, h.2.2.1, h.2.2.2.1, h.2.2.2.2.1, fun s hs i hi => ?_⟩
  show p3_items (va_up (xsh X) k s' s) i = f' (24 * s + i)
  unfold va_up
  by_cases e : s = k
  · rw [if_pos e, e]; exact hn i hi
  · rw [if_neg e, ho s i hs e hi]; exact h.2.2.2.2.2 s hs i hi
theorem s2_type (h : R2 X M) (a : Int32) : S2 (FX_type X a) (f_X6_type M a) := by
  have h0 := h
  obtain ⟨hp, hu, hk, hi, ⟨T, hT, e1, e2, hl⟩, hs⟩ := h
  have e2' : p6_typed M = nI T := e2
  unfold FX_type f_X5_type f_X6_type
  rcases inqN a 32 126 (a' := 32) (b' := 126) (by decide) rfl rfl with ⟨c, hc1, hc, rfl, e3⟩ | ⟨hx, e3⟩
  rotate_left
  · rw [bd_eq e3, i0]
    refine ⟨-1, X, M, ?_, rfl, h0⟩
    rw [show (if a < 32 then some ((-1 : Int32), xtp X) else (if a ≤ 126 then ((f_X4_isFull (xtp X)).bind (fun r3 => (if r3 = 0 then ((f_X4_append (xtp X) a).bind (fun r5 => some (r5.1, r5.2))) else some ((-3), xtp X)))) else some ((-1), xtp X))) = some ((-1 : Int32), xtp X) from gd1 hx]
    rfl
  rw [bd_eq e3, i1, if_neg (show ¬ nI c < (32 : Int32) from nI_nlt (b := 32) hc1 (by omega)), if_pos (show nI c ≤ (126 : Int32) from nI_le (b := 126) hc (by decide)), e2']
  unfold f_X4_isFull f_X4_append
  rw [e1]
  by_cases h60 : T = 60
  · rw [if_neg (show ¬ nI T < (60 : Int32) by rw [h60]; decide), if_pos (show nI T = (60 : Int32) by rw [h60]; rfl)]
    exact ⟨-3, X, M, rfl, rfl, h0⟩
  · have hT6 : T < 60 := by omega
    rw [if_pos (show nI T < (60 : Int32) from nI_lt (b := 60) hT6 (by decide)), if_neg (show ¬ nI T = (60 : Int32) from fun q => h60 ((nI_eq (a := T) (b := 60) (by omega) (by decide)).mp q)), if_pos (inB_nI hT6 (by decide)), bd_eq (v := (0 : Int32)) rfl, i0, if_neg (show ¬ (60 : Int32) ≤ nI T from nI_ge (b := 60) hT6 (by decide)), if_pos (inB_nI hT6 (by decide)), nI_clamp (by omega), nI_1]
    refine ⟨nI (T + 1), _, _, rfl, rfl, hp, hu, hk, hi, ⟨T + 1, by omega, rfl, rfl, fun i hi' => ?_⟩, hs⟩
    show upd (p4_letters (xtp X)) T (nI c) i = upd (p6_tape M) T (nI c) i ∧ ltr (upd (p6_tape M) T (nI c) i)
    by_cases e : i = T
    · subst e
      rw [pk_us, pk_us]
      exact ⟨rfl, c, hc1, by omega, rfl⟩
    · rw [pk_un e, pk_un e]
      exact hl i (by omega)
theorem s2_drop (hI : Inv1 X M) (h : R2 X M) (a : Int32) : S2 (FX_drop X a) (f_X6_drop M a) := by
  obtain ⟨T, ln, sz, hT, c, hM⟩ := hI
  have el : p6_lanes M = ln := hM.2.2.2.2.2.2.2.2.1
  have ez : p6_sizes M = sz := hM.2.2.2.2.2.2.2.2.2
  unfold FX_drop f_X5_drop f_X6_drop f_X3_isMissing f_X3_lose
  rcases shq a with ⟨k, hk, rfl, e1, e2⟩ | ⟨e1, e2⟩
  · have hcl : (nI k).toNatClampNeg = k := nI_clamp (by omega)
    rw [e1, e2, sj_nI hk, hcl, el, ez]
    simp only [Option.bind_some, n10, ↓reduceIte, inB_nI hk (show 4 < 2 ^ 31 by decide)]
    rcases c.2.2.2.2.2.2 k hk with ⟨h1, h2⟩ | ⟨S, hS, h1, h2, h3, h4⟩
    · have hn : ¬ (0 : Int32) ≤ ln k := fun q => by
        have a1 := Int32.lt_iff_toInt_lt.mp h2
        have a2 := Int32.le_iff_toInt_le.mp q
        omega
      rw [if_pos h1, if_neg hn]
      exact ⟨-11, X, M, by rw [show (1 : Int32) = 1 from rfl]; simp only [Option.bind_some, n10, ↓reduceIte]; rw [sx_same], rfl, h⟩
    · have hn : (0 : Int32) ≤ ln k := by
        have : ¬ (ln k).toInt < (0 : Int32).toInt := fun q => h4 (Int32.lt_iff_toInt_lt.mpr q)
        exact Int32.le_iff_toInt_le.mpr (by omega)
      rw [if_neg (by rw [h1]; exact nIm1 hS), if_pos hn, h2]
      have hr := r2_it h (k := k) (s3_size (xsh X k) (-1)) (p6_moved M) (p6_items M) (upd ln k (-1)) (p6_sizes M) (fun i hi => h.2.2.2.2.2 k hk i hi) (fun s i _ _ _ => rfl)
      refine ⟨nI S, _, _, ?_, rfl, hr⟩
      show some (p3_size (xsh X k), _) = _
      rw [h1]
  · rw [e1, e2]
    exact ⟨-1, X, M, by show some (_, sxsh X (va_up (xsh X) (sj a) (xsh X (sj a)))) = _; rw [sx_same], rfl, h⟩
theorem m_sheetL {k : Nat} (hk : k < 4) (d : Int32) (S : St6) : ok (fun q => ∃ f, q.2 = s6_items S f ∧ ∀ x, f x = if 24 * k ≤ x ∧ x < 24 * k + 24 then 0 else p6_items S x) (lp_X6_sheet_46 (nI k) d FU 0 S) := by
  refine lpG (fun n z s => lp_X6_sheet_46 (nI k) d n z s) 24 (by decide) (fun m s => ∃ f, s = s6_items S f ∧ ∀ x, f x = if 24 * k ≤ x ∧ x < 24 * k + m then 0 else p6_items S x) _ (fun n z s => rfl) (fun _ _ _ => rfl) (fun s hs => ok_s hs) (fun n i s hi hs ih => ?_) S ⟨p6_items S, rfl, fun x => by rw [if_neg (by omega)]⟩
  obtain ⟨f, es, hf⟩ := hs
  have ei : 24 * nI k + nI i = nI (24 * k + i) := by rw [show (24 : Int32) = nI 24 from rfl, nI_mul, nI_add]
  have ef : p6_items s = f := by rw [es]
  have e2 : ∀ g, s6_items s g = s6_items S g := fun g => by rw [es]
  rw [ei, ef, e2]
  refine ok_g (inB_nI (show 24 * k + i < 96 by omega) (by decide)) (ih _ ⟨vp_updL f (24 * k + i) 0, by rw [nI_clamp (by omega)], fun x => ?_⟩)
  unfold vp_updL
  by_cases e : x = 24 * k + i
  · rw [if_pos e, if_pos (by omega)]
  · rw [if_neg e, hf]
    by_cases h2 : 24 * k ≤ x ∧ x < 24 * k + i
    · rw [if_pos h2, if_pos (by omega)]
    · rw [if_neg h2, if_neg (by omega)]
theorem s2_sheet (h : R2 X M) (a b d : Int32) : S2 (FX_sheet X a b d) (f_X6_sheet M a b d) := by
  have bad : ∀ r : Int32, S2 (some (r, sxsh X (va_up (xsh X) (sj a) (xsh X (sj a))))) (some (r, M)) := fun r => ⟨r, X, M, by rw [sx_same], rfl, h⟩
  unfold FX_sheet f_X5_sheet f_X6_sheet
  rcases shq a with ⟨k, hk, rfl, e1, e2⟩ | ⟨e1, e2⟩
  rotate_left
  · rw [e1, e2]; exact bad _
  rw [e1, e2]
  simp only [Option.bind_some, n10, ↓reduceIte]
  rcases lnq b with ⟨j, hj, rfl, e3, e4⟩ | ⟨e3, e4⟩
  rotate_left
  · rw [e3, e4]; exact bad _
  rw [e3, e4]
  simp only [Option.bind_some, n10, ↓reduceIte]
  by_cases h24 : d ≤ 24
  rotate_left
  · simp only [if_neg h24]; exact bad _
  simp only [if_pos h24]
  by_cases h0 : (0 : Int32) ≤ d
  rotate_left
  · simp only [if_neg h0]; exact bad _
  simp only [if_pos h0, inB_nI hk (show 4 < 2 ^ 31 by decide), ↓reduceIte]
  have hcl : (nI k).toNatClampNeg = k := nI_clamp (by omega)
  rw [hcl]
  obtain ⟨q, eq', hq⟩ := m_sheetL hk d (s6_sizes (s6_lanes M (upd (p6_lanes M) k (nI j))) (upd (p6_sizes M) k d))
  rw [eq', sj_nI hk]
  obtain ⟨f, ef, hf⟩ := hq
  have hr := r2_it h (k := k) (nI j, d, fun _ => 0) (p6_moved M) f (upd (p6_lanes M) k (nI j)) (upd (p6_sizes M) k d) (fun i hi => by rw [hf, if_pos (by omega)]) (fun s i hs hk' hi => by rw [hf, if_neg (by omega)])
  refine ⟨d, _, _, rfl, rfl, ?_⟩
  rw [ef]
  exact hr
theorem s2_item (hI : Inv1 X M) (h : R2 X M) (a b d : Int32) (v : Int64) : S2 (FX_item X a b d v) (f_X6_item M a b d v) := by
  obtain ⟨T, ln, sz, hT, c, hM⟩ := hI
  have el : p6_lanes M = ln := hM.2.2.2.2.2.2.2.2.1
  have ez : p6_sizes M = sz := hM.2.2.2.2.2.2.2.2.2
  have bad : ∀ r : Int32, S2 (some (r, sxsh X (va_up (xsh X) (sj a) (xsh X (sj a))))) (some (r, M)) := fun r => ⟨r, X, M, by rw [sx_same], rfl, h⟩
  unfold FX_item f_X5_item f_X6_item
  rcases shq a with ⟨k, hk, rfl, e1, e2⟩ | ⟨e1, e2⟩
  rotate_left
  · rw [e1, e2]; exact bad _
  rw [e1, e2]
  simp only [Option.bind_some, n10, ↓reduceIte]
  rcases lnq b with ⟨j, hj, rfl, e3, e4⟩ | ⟨e3, e4⟩
  rotate_left
  · rw [e3, e4]; exact bad _
  rw [e3, e4]
  simp only [Option.bind_some, n10, ↓reduceIte, inB_nI hk (show 4 < 2 ^ 31 by decide)]
  rw [sj_nI hk]
  rw [sj_nI hk] at bad
  obtain ⟨r, w1, w2, w3, w4⟩ := why_eq (c.2.2.2.2.2.2 k hk) (nI j) d 1
  rw [w1, w2 M k hk (by rw [el]) (by rw [ez])]
  simp only [Option.bind_some]
  by_cases hr : r = 0
  rotate_left
  · simp only [if_neg hr, if_neg (le0 w3 hr)]; exact bad _
  subst hr
  obtain ⟨I, K, S, rfl, hK, hIK, hS, -, -, hlane, -⟩ := w4 rfl
  have hK1 : K = 1 := by
    by_cases hq : K < 2 ^ 31
    · exact ((nI_eq (a := 1) (by decide) hq).mp hK).symm
    · omega
  have hI24 : I < 24 := by omega
  have ei : 24 * nI k + nI I = nI (24 * k + I) := by rw [show (24 : Int32) = nI 24 from rfl, nI_mul, nI_add]
  have hi := inB_nI (show 24 * k + I < 96 by omega) (show 96 < 2 ^ 31 by decide)
  have hi2 := inB_nI hI24 (show 24 < 2 ^ 31 by decide)
  have hc1 : (nI (24 * k + I)).toNatClampNeg = 24 * k + I := nI_clamp (by omega)
  have hc2 : (nI I).toNatClampNeg = I := nI_clamp (by omega)
  have fin : ∀ w : Int64, S2 (some ((1 : Int32), sxsh X (va_up (xsh X) k (s3_items (xsh X k) (vp_updL (p3_items (xsh X k)) I w))))) (some (1, s6_items M (vp_updL (p6_items M) (24 * k + I) w))) := fun w => by
    have hr := r2_it h (k := k) (s3_items (xsh X k) (vp_updL (p3_items (xsh X k)) I w)) (p6_moved M) (vp_updL (p6_items M) (24 * k + I) w) (p6_lanes M) (p6_sizes M) (fun i hi => ?_) (fun s i hs hk' hi => ?_)
    · exact ⟨1, _, _, rfl, rfl, hr⟩
    · show vp_updL (p3_items (xsh X k)) I w i = vp_updL (p6_items M) (24 * k + I) w (24 * k + i)
      unfold vp_updL
      by_cases e : i = I
      · rw [if_pos e, if_pos (by omega)]
      · rw [if_neg e, if_neg (by omega)]
        exact h.2.2.2.2.2 k hk i hi
    · unfold vp_updL
      rw [if_neg (by omega)]
  unfold f_X3_put
  rw [hlane, ei]
  simp only [↓reduceIte, hi, hi2, hc1, hc2, show ((0 : Int32) ≤ 0) = True by simp]
  by_cases j0 : nI j = 0
  · simp only [if_pos j0, Option.bind_some]; exact fin _
  · simp only [if_neg j0]
    by_cases j1 : nI j = 1
    · simp only [if_pos j1, Option.bind_some]; exact fin _
    · simp only [if_neg j1]
      by_cases j2 : nI j = 2
      · simp only [if_pos j2, Option.bind_some]; exact fin _
      · simp only [if_neg j2, Option.bind_some]; exact fin _
theorem m_copyA {k I K : Nat} (hk : k < 4) (h1 : I + K ≤ 24) (x3 x4 : Int32) (S : St6) : ok (fun q => ∃ mv, q.2 = s6_moved S mv ∧ ∀ x, x < K → mv x = p6_items S (24 * k + I + x)) (lp_X6_copy_91 (nI k) (nI I) x3 x4 (nI K) FU 0 S) := by
  refine lpG (fun n z s => lp_X6_copy_91 (nI k) (nI I) x3 x4 (nI K) n z s) K (by omega) (fun m s => ∃ mv, s = s6_moved S mv ∧ ∀ x, x < m → mv x = p6_items S (24 * k + I + x)) _ (fun n z s => rfl) (fun _ _ _ => rfl) (fun s hs => ok_s hs) (fun n i s hi hs ih => ?_) S ⟨p6_moved S, rfl, fun x hx => by omega⟩
  obtain ⟨mv, es, hm⟩ := hs
  have ei : 24 * nI k + nI I + nI i = nI (24 * k + I + i) := by rw [show (24 : Int32) = nI 24 from rfl, nI_mul, nI_add, nI_add]
  have ef : p6_moved s = mv := by rw [es]
  have eg : p6_items s = p6_items S := by rw [es]
  have e2 : ∀ g, s6_moved s g = s6_moved S g := fun g => by rw [es]
  rw [ei, ef, eg, e2]
  refine ok_g (inB_nI (show 24 * k + I + i < 96 by omega) (by decide)) (ok_g (inB_nI (show i < 24 by omega) (by decide)) (ih _ ⟨vp_updL mv i (p6_items S (24 * k + I + i)), by rw [nI_clamp (by omega), nI_clamp (by omega)], fun x hx => ?_⟩))
  unfold vp_updL
  by_cases e : x = i
  · rw [if_pos e, e]
  · rw [if_neg e]; exact hm x (by omega)
theorem m_copyB {j J K : Nat} (hj : j < 4) (h2 : J + K ≤ 24) (S : St6) : ok (fun q => ∃ f, q.2 = s6_items S f ∧ ∀ x, f x = if 24 * j + J ≤ x ∧ x < 24 * j + J + K then p6_moved S (x - (24 * j + J)) else p6_items S x) (lp_X6_copy_128 (nI j) (nI J) (nI K) FU 0 S) := by
  refine lpG (fun n z s => lp_X6_copy_128 (nI j) (nI J) (nI K) n z s) K (by omega) (fun m s => ∃ f, s = s6_items S f ∧ ∀ x, f x = if 24 * j + J ≤ x ∧ x < 24 * j + J + m then p6_moved S (x - (24 * j + J)) else p6_items S x) _ (fun n z s => rfl) (fun _ _ _ => rfl) (fun s hs => ok_s hs) (fun n i s hi hs ih => ?_) S ⟨p6_items S, rfl, fun x => by rw [if_neg (by omega)]⟩
  obtain ⟨f, es, hf⟩ := hs
  have ei : 24 * nI j + nI J + nI i = nI (24 * j + J + i) := by rw [show (24 : Int32) = nI 24 from rfl, nI_mul, nI_add, nI_add]
  have ef : p6_items s = f := by rw [es]
  have eg : p6_moved s = p6_moved S := by rw [es]
  have e2 : ∀ g, s6_items s g = s6_items S g := fun g => by rw [es]
  rw [ei, ef, eg, e2]
  refine ok_g (inB_nI (show i < 24 by omega) (by decide)) (ok_g (inB_nI (show 24 * j + J + i < 96 by omega) (by decide)) (ih _ ⟨vp_updL f (24 * j + J + i) (p6_moved S i), by rw [nI_clamp (by omega), nI_clamp (by omega)], fun x => ?_⟩))
  unfold vp_updL
  by_cases e : x = 24 * j + J + i
  · rw [if_pos e, if_pos (by omega), e, show 24 * j + J + i - (24 * j + J) = i by omega]
  · rw [if_neg e, hf]
    by_cases h3 : 24 * j + J ≤ x ∧ x < 24 * j + J + i
    · rw [if_pos h3, if_pos (by omega)]
    · rw [if_neg h3, if_neg (by omega)]
/-- what a copy does to the items -/
theorem m_copyL {k j I J K : Nat} (hk : k < 4) (hj : j < 4) (h1 : I + K ≤ 24) (h2 : J + K ≤ 24) (M : St6) : ∃ mv f, ((lp_X6_copy_91 (nI k) (nI I) (nI j) (nI J) (nI K) FU 0 M).bind (fun q24 => ((lp_X6_copy_128 (nI j) (nI J) (nI K) FU 0 q24.2).bind (fun q25 => some (nI K, q25.2))))) = some (nI K, s6_items (s6_moved M mv) f) ∧ ∀ x, f x = if 24 * j + J ≤ x ∧ x < 24 * j + J + K then p6_items M (24 * k + I + (x - (24 * j + J))) else p6_items M x := by
  obtain ⟨q, e1, mv, eq, hmv⟩ := m_copyA hk h1 (nI j) (nI J) M
  obtain ⟨q2, e2, f, eq2, hf⟩ := m_copyB hj h2 (s6_moved M mv)
  refine ⟨mv, f, ?_, fun x => ?_⟩
  · rw [bd_eq e1, eq, bd_eq e2, eq2]
  · rw [hf]
    by_cases h3 : 24 * j + J ≤ x ∧ x < 24 * j + J + K
    · rw [if_pos h3, if_pos h3]
      exact hmv (x - (24 * j + J)) (by omega)
    · rw [if_neg h3, if_neg h3]
end
