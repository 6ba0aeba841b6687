/-! THE FULL RELATION: film, heard -/
theorem lgc (x y : Int64) : lg_cmp x y = 0 ↔ x = y := by
  unfold lg_cmp
  by_cases h1 : x > y
  · rw [if_pos h1]
    refine ⟨fun c => absurd c (by decide), fun c => ?_⟩
    subst c
    exact absurd (Int64.lt_iff_toInt_lt.mp h1) (Int.lt_irrefl _)
  · rw [if_neg h1]
    by_cases h2 : x = y
    · rw [if_pos h2]; exact ⟨fun _ => h2, fun _ => rfl⟩
    · rw [if_neg h2]; exact ⟨fun c => absurd c (by decide), fun c => absurd c h2⟩
theorem nar : ∀ t, t < 31 → (nI t).toInt64.toInt32.toInt8.toInt32.toInt64 = (nI t).toInt64 ∧ (nI t).toInt64.toInt32.toInt16.toInt32.toInt64 = (nI t).toInt64 ∧ (nI t).toInt64.toInt32.toInt64 = (nI t).toInt64 := by decide +kernel
theorem put_t (s : St3) {i t : Nat} (hi : i < 24) (ht : t < 31) : f_X3_put s (nI i) (nI t).toInt64 = some (s3_items s (vp_updL (p3_items s) i (nI t).toInt64)) := by
  unfold f_X3_put
  obtain ⟨n1, n2, n3⟩ := nar t ht
  rw [n1, n2, n3, if_pos (inB_nI hi (by decide)), nI_clamp (by omega)]
  by_cases h0 : p3_lane s = 0
  · rw [if_pos h0]
  · rw [if_neg h0]
    by_cases h1 : p3_lane s = 1
    · rw [if_pos h1]
    · rw [if_neg h1]
      by_cases h2 : p3_lane s = 2
      · rw [if_pos h2]
      · rw [if_neg h2]
/-- in the midst of a trial, items changed -/
noncomputable def MI (σ : St6) (f : Nat → Int64) (r : St6) : Prop := ∃ (n c a : Nat → Int32), r = s6_items (s6_aside (s6_change (s6_now σ n) c) a) f ∧ ∀ i, i < 27 → a i = p6_now σ i
theorem MI.sn {σ r s : St6} {f : Nat → Int64} (h : MI σ f r) (h2 : SN r s) : MI σ f s := by
  obtain ⟨n, c, a, rfl, e⟩ := h
  obtain ⟨c', g, rfl⟩ := h2
  exact ⟨g, c', a, rfl, e⟩
theorem c_filmL (κ : St5) (nw : St2) {N : Nat} {p : St2} (hc : CPo N p) {a k I K : Nat} (ha : a < N) (hk : k < 4) (hI : I + K ≤ 24) (sh : St3) : ok (fun q => ∃ g, q.2.2 = s3_items sh g ∧ ∀ i, g i = if I ≤ i ∧ i < I + K then (p2_turns (passI N (i - I + 1) p) a).toInt64 else p3_items sh i) (lp_X5_film_77 κ nw () (nI a) (nI K) (nI k) (nI I) FU 0 p sh) := by
  have hN := hc.1
  refine lpG (fun n z (s : St2 × St3) => lp_X5_film_77 κ nw () (nI a) (nI K) (nI k) (nI I) n z s.1 s.2) K (by omega) (fun m s => s.1 = passI N m p ∧ ∃ g, s.2 = s3_items sh g ∧ ∀ i, g i = if I ≤ i ∧ i < I + m then (p2_turns (passI N (i - I + 1) p) a).toInt64 else p3_items sh i) _ (fun n z s => rfl) (fun _ _ _ => rfl) (fun s hs => ok_s hs.2) (fun n m s hm hs ih => ?_) (p, sh) ⟨rfl, p3_items sh, rfl, fun i => by rw [if_neg (by omega)]⟩
  obtain ⟨es, g, eg, hg⟩ := hs
  obtain ⟨t, ht31, et⟩ := ((hc.pass (m + 1)).2.2 a ha).2.1
  have e1 : passP N (passI N m p) = passI N (m + 1) p := rfl
  rw [es, bd_eq (c_passHour (hc.pass m)), e1, if_pos (inB_nI hk (by decide)), if_pos (inB_nI (show a < 6 by omega) (by decide)), nI_clamp (show a < 2 ^ 31 by omega), et, nI_add, bd_eq (put_t _ (show I + m < 24 by omega) ht31)]
  refine ih (_, _) ⟨rfl, vp_updL g (I + m) (nI t).toInt64, by rw [eg], fun i => ?_⟩
  unfold vp_updL
  by_cases e : i = I + m
  · rw [if_pos e, if_pos (by omega), e, show I + m - I + 1 = m + 1 by omega, et]
  · rw [if_neg e, hg]
    by_cases h2 : I ≤ i ∧ i < I + m
    · rw [if_pos h2, if_pos (by omega)]
    · rw [if_neg h2, if_neg (by omega)]
section
variable {X : SX} {M : St6}
theorem s2_film (hI : Inv1 X M) (h : R2 X M) (x1 x2 x3 x4 x5 : Int32) : S2 (FX_film X x1 x2 x3 x4 x5) (f_X6_film M x1 x2 x3 x4 x5) := by
  obtain ⟨T, ln, sz, hT, c, hM⟩ := hI
  have el : p6_lanes M = ln := hM.2.2.2.2.2.2.2.2.1
  have ez : p6_sizes M = sz := hM.2.2.2.2.2.2.2.2.2
  obtain ⟨N, hp⟩ := h.1
  have hN := hp.1
  have hc := hp.cp
  have bad : ∀ r : Int32, S2 ((some (r, xtr X, xsh X (sj x3))).bind (fun r => some (r.1, (sxsh (sxtr X r.2.1) (va_up (xsh X) (sj x3) r.2.2))))) (some (r, M)) := fun r => ⟨r, X, M, by
    show some (r, sxsh (sxtr X (xtr X)) (va_up (xsh X) (sj x3) (xsh X (sj x3)))) = _
    rw [va3], rfl, h⟩
  unfold FX_film f_X5_film f_X6_film
  rcases pq hp x1 with ⟨a, ha, rfl, e1, e2⟩ | ⟨e1, e2⟩
  rotate_left
  · rw [bd_eq e1, bd_eq e2, i0, i0]; exact bad _
  rw [bd_eq e1, bd_eq e2, i1, i1]
  rcases inqN x2 1 24 (a' := 1) (b' := 24) (by decide) rfl rfl with ⟨K, hK1, hK, rfl, e3⟩ | ⟨hx, e3⟩
  rotate_left
  · rw [bd_eq e3, i0]
    have hg : ∀ {B : Option (Int32 × St2 × St3)}, (if x2 < 1 then some ((-1 : Int32), xtr X, xsh X (sj x3)) else (if 24 < x2 then some ((-1), xtr X, xsh X (sj x3)) else B)) = some ((-1), xtr X, xsh X (sj x3)) := gd2 hx
    rw [hg]; exact bad _
  rw [bd_eq e3, i1, if_neg (show ¬ nI K < (1 : Int32) from nI_nlt (b := 1) hK1 (by omega)), if_neg (show ¬ (24 : Int32) < nI K from nI_nlt (a := 24) hK (by decide))]
  rcases shq x3 with ⟨k, hk, rfl, e4, e5⟩ | ⟨e4, e5⟩
  rotate_left
  · rw [bd_eq e4, bd_eq e5, i0, i0]; exact bad _
  rw [bd_eq e4, bd_eq e5, i1, i1]
  rcases lnq x4 with ⟨j, hj, rfl, e6, e7⟩ | ⟨e6, e7⟩
  rotate_left
  · rw [bd_eq e6, bd_eq e7, i0, i0]; exact bad _
  rw [bd_eq e6, bd_eq e7, i1, i1, if_pos (inB_nI hk (by decide))]
  rw [sj_nI hk]
  rw [sj_nI hk] at bad
  obtain ⟨r, w1, w2, w3, w4⟩ := why_eq (c.2.2.2.2.2.2 k hk) (nI j) x5 (nI K)
  rw [bd_eq w1, bd_eq (w2 M k hk (by rw [el]) (by rw [ez]))]
  by_cases hr : r = 0
  rotate_left
  · rw [if_neg hr, if_neg (le0 w3 hr)]; exact bad _
  subst hr
  obtain ⟨I, K', S, rfl, hKK, hIK, hS, -, -, hlane, -⟩ := w4 rfl
  have hK' : K' = K := by
    by_cases hq : K' < 2 ^ 31
    · exact ((nI_eq (by omega) hq).mp hKK).symm
    · omega
  subst hK'
  rw [i0, if_pos (show (0 : Int32) ≤ 0 from Int32.le_refl _)]
  have hxs := h.2.2.2.2.2
  have ht : ∀ m, ∃ t, t < 31 ∧ p2_turns (passI N m (xnw X)) a = nI t := fun m => ((hc.pass m).2.2 a ha).2.1
  -- the class
  obtain ⟨q, eq', hq⟩ := c_filmL (xk X) (xnw X) hc ha hk (show I + K' ≤ 24 by omega) (xsh X k)
  obtain ⟨g, eg, hg⟩ := hq
  -- the reference
  have hmod : ok (fun z => z.1 = nI K' ∧ R2 (sxsh (sxtr X q.2.1) (va_up (xsh X) k q.2.2)) z.2) ((f_X6_asides M).bind (fun r11 => ((lp_X6_film_64 (nI a) (nI K') (nI k) (nI I) FU 0 r11).bind (fun q16 => ((f_X6_backs q16.2).bind (fun r17 => some (nI K', r17))))))) := by
    refine ok_b (asd M) (fun r hr => ok_b (P := fun q => ∃ f, MI M f q.2 ∧ ∀ x, f x = if 24 * k + I ≤ x ∧ x < 24 * k + I + K' then (p2_turns (passI N (x - (24 * k + I) + 1) (xnw X)) a).toInt64 else p6_items M x) ?_ (fun z hz => ?_))
    · refine lpG (fun n z s => lp_X6_film_64 (nI a) (nI K') (nI k) (nI I) n z s) K' (by omega) (fun m s => PMo N (passI N m (xnw X)) (p6_now s) 0 ∧ ∃ f, MI M f s ∧ ∀ x, f x = if 24 * k + I ≤ x ∧ x < 24 * k + I + m then (p2_turns (passI N (x - (24 * k + I) + 1) (xnw X)) a).toInt64 else p6_items M x) _ (fun n z s => rfl) (fun _ _ _ => rfl) (fun s hs => ok_s hs.2) (fun n m s hm hs ih => ?_) r ⟨hp.nw hr.2.2, p6_items M, ?_, fun x => by rw [if_neg (by omega)]⟩
      · obtain ⟨hps, f, hmi, hf⟩ := hs
        refine ok_b (m_goesBy hps 0) (fun u hu => ?_)
        have hu2 : PMo N (passI N (m + 1) (xnw X)) (p6_now u) 0 := hu.2
        have ei : 24 * nI k + nI I + nI m = nI (24 * k + I + m) := by rw [show (24 : Int32) = nI 24 from rfl, nI_mul, nI_add, nI_add]
        rw [bd_eq (hu2.turns ha), ei]
        refine ok_g (inB_nI (show 24 * k + I + m < 96 by omega) (by decide)) (ih _ ⟨hu2, vp_updL f (24 * k + I + m) (p2_turns (passI N (m + 1) (xnw X)) a).toInt64, ?_, fun x => ?_⟩)
        · obtain ⟨n', c', a', rfl, e'⟩ := hmi.sn hu.1
          rw [nI_clamp (by omega)]
          exact ⟨n', c', a', rfl, e'⟩
        · unfold vp_updL
          by_cases e : x = 24 * k + I + m
          · rw [if_pos e, if_pos (by omega), e, show 24 * k + I + m - (24 * k + I) + 1 = m + 1 by omega]
          · rw [if_neg e, hf]
            by_cases h2 : 24 * k + I ≤ x ∧ x < 24 * k + I + m
            · rw [if_pos h2, if_pos (by omega)]
            · rw [if_neg h2, if_neg (by omega)]
      · obtain ⟨n', c', a', rfl, e'⟩ := hr.1
        exact ⟨n', c', a', rfl, e'⟩
    · obtain ⟨f, hmi, hf⟩ := hz
      refine ok_b (backs_ok z.2) (fun u hu => ok_s ⟨rfl, ?_⟩)
      subst hu
      obtain ⟨n', c', a', ez', e'⟩ := hmi
      rw [ez']
      refine ⟨⟨N, hp.cg (fun i hi => ?_)⟩, h.2.1, h.2.2.1, h.2.2.2.1, h.2.2.2.2.1, fun s hs i hi => ?_⟩
      · rw [Nat.zero_add]
        exact (e' i hi).symm.trans (cpf_27 hi).symm
      · show p3_items (va_up (xsh X) k q.2.2 s) i = f (24 * s + i)
        rw [hf]
        unfold va_up
        by_cases e : s = k
        · rw [if_pos e, eg, e]
          show g i = _
          rw [hg]
          by_cases h2 : I ≤ i ∧ i < I + K'
          · rw [if_pos h2, if_pos (by omega), show 24 * k + i - (24 * k + I) + 1 = i - I + 1 by omega]
          · rw [if_neg h2, if_neg (by omega)]
            exact hxs k hk i hi
        · rw [if_neg e, if_neg (by omega)]
          exact hxs s hs i hi
  obtain ⟨⟨zr, M'⟩, em, hz1, hz2⟩ := hmod
  have hz1' : zr = nI K' := hz1
  subst hz1'
  rw [bd_eq eq']
  exact ⟨nI K', _, M', rfl, em, hz2⟩
-- heard
variable {N : Nat} {p : St2} {σ : St6}
/-- he runs as the sheet has it -/
noncomputable def runsAs (N : Nat) (it : Nat → Int64) (I n a : Nat) (q : St2) : Prop := ∀ j, j < n → it (I + j) = (p2_turns (passI N (j + 1) q) a).toInt64
theorem c_runsAs (κ : St5) (sh : St3) {q : St2} (hc : CPo N q) {a I n : Nat} (ha : a < N) (hI : I + n ≤ 24) : ok (fun r => (r.1 = 1 ∧ runsAs N (p3_items sh) I n a q) ∨ (r.1 = 0 ∧ ¬ runsAs N (p3_items sh) I n a q)) (f_X5_trialRunsAs κ q sh (nI a) (nI I) (nI n)) := by
  have hN := hc.1
  unfold f_X5_trialRunsAs
  refine lpG (fun m z s => lp_X5_trialRunsAs_3 κ sh (nI a) (nI I) (nI n) m z s) n (by omega) (fun k s => s = passI N k q ∧ ∀ j, j < k → p3_items sh (I + j) = (p2_turns (passI N (j + 1) q) a).toInt64) _ (fun m z s => rfl) (fun _ _ _ => rfl) (fun s hs => ok_s (Or.inl ⟨rfl, hs.2⟩)) (fun m k s hk hs ih => ?_) q ⟨rfl, fun j hj => by omega⟩
  have e1 : passP N (passI N k q) = passI N (k + 1) q := rfl
  rw [hs.1, bd_eq (c_passHour (hc.pass k)), e1, nI_add, if_pos (inB_nI (show I + k < 24 by omega) (by decide)), if_pos (inB_nI (show a < 6 by omega) (by decide)), nI_clamp (by omega), nI_clamp (by omega)]
  by_cases e : p3_items sh (I + k) = (p2_turns (passI N (k + 1) q) a).toInt64
  · rw [if_pos ((lgc _ _).mpr e)]
    refine ih _ ⟨rfl, fun j hj => ?_⟩
    by_cases ej : j = k
    · rw [ej]; exact e
    · exact hs.2 j (by omega)
  · rw [if_neg (fun c => e ((lgc _ _).mp c))]
    exact ok_s (Or.inr ⟨rfl, fun c => e (c k hk)⟩)
theorem MA.it {σ r : St6} (h : MA σ r) : p6_items r = p6_items σ := by
  obtain ⟨n, c, a, rfl, e⟩ := h
  rfl
theorem m_isSo {r : St6} {q : St2} (hm : MA σ r) (hq : PMo N q (p6_now r) 0) {a B n : Nat} (ha : a < N) (hB : B + n ≤ 96) : ok (fun z => MA σ z.2 ∧ MQu σ z.2 ∧ ((z.1 = 1 ∧ runsAs N (p6_items σ) B n a q) ∨ (z.1 = 0 ∧ ¬ runsAs N (p6_items σ) B n a q))) (f_X6_isSo r (nI a) (nI B) (nI n)) := by
  have hN := hq.1
  unfold f_X6_isSo
  refine ok_b (P := fun z => MA σ z.2.2 ∧ ((z.1 = 1 ∧ runsAs N (p6_items σ) B n a q) ∨ (z.1 = 0 ∧ ¬ runsAs N (p6_items σ) B n a q))) ?_ (fun z hz => ok_b (bks hz.1) (fun t ht => ?_))
  · refine lpG (fun m z (s : Int32 × St6) => lp_X6_isSo_6 (nI a) (nI B) (nI n) m s.1 z s.2) n (by omega) (fun k s => MA σ s.2 ∧ PMo N (passI N k q) (p6_now s.2) 0 ∧ ((s.1 = 1 ∧ ∀ j, j < k → p6_items σ (B + j) = (p2_turns (passI N (j + 1) q) a).toInt64) ∨ (s.1 = 0 ∧ ¬ runsAs N (p6_items σ) B n a q))) _ (fun m z s => rfl) (fun _ _ _ => rfl) (fun s hs => ok_s ⟨hs.1, hs.2.2⟩) (fun m k s hk hs ih => ?_) (1, r) ⟨hm, hq, Or.inl ⟨rfl, fun j hj => by omega⟩⟩
    refine ok_b (m_goesBy hs.2.1 0) (fun u hu => ?_)
    have hu2 : PMo N (passI N (k + 1) q) (p6_now u) 0 := hu.2
    have hmu := hs.1.sn hu.1
    rcases hs.2.2 with ⟨e, l⟩ | ⟨e, l⟩
    · rw [if_neg (by rw [e]; decide), bd_eq (hu2.turns ha), nI_add, if_pos (inB_nI (show B + k < 96 by omega) (by decide)), nI_clamp (by omega), hmu.it]
      by_cases e2 : p6_items σ (B + k) = (p2_turns (passI N (k + 1) q) a).toInt64
      · rw [if_pos ((lgc _ _).mpr e2.symm)]
        refine ih (1, u) ⟨hmu, hu2, Or.inl ⟨rfl, fun j hj => ?_⟩⟩
        by_cases ej : j = k
        · rw [ej]; exact e2
        · exact l j (by omega)
      · rw [if_neg (fun c => e2 ((lgc _ _).mp c).symm)]
        exact ih (0, u) ⟨hmu, hu2, Or.inr ⟨rfl, fun c => e2 (c k hk)⟩⟩
    · rw [if_pos e]
      exact ih (0, u) ⟨hmu, hu2, Or.inr ⟨rfl, l⟩⟩
  · rw [if_pos (hz.2.elim (fun c => Or.inr c.1) (fun c => Or.inl c.1))]
    exact ok_s ⟨ht.1, ht.2, hz.2⟩
theorem c_hl (κ : St5) (sh : St3) (tr : St2) {a I n w least most : Nat} (hN : N ≤ 6) (ha : a < N) (hI : I + n ≤ 24) (hm : most ≤ 30) (P : Nat → St2) (hP : ∀ v, least ≤ v → v ≤ most → f_X5_suppose κ p (nI a) (nI w) (nI v) = some (P v) ∧ CPo N (P v)) (hl : least ≤ most) (F : Nat → Int32) (F0 : F least = 0) (Fy : ∀ v, least ≤ v → runsAs N (p3_items sh) I n a (P v) → F (v + 1) = F v ||| ((1 : Int32) <<< (nI v &&& 31))) (Fn : ∀ v, least ≤ v → ¬ runsAs N (p3_items sh) I n a (P v) → F (v + 1) = F v) : ok (fun q => q.1 = F (most + 1)) ((lp_X5_guessesHeard_41 κ p sh (nI a) (nI w) (nI I) (nI n) (nI most) FU 0 (nI least) tr).bind (fun q11 => some (q11.1, q11.2.2))) := by
  refine ok_b (P := fun q => q.1 = F (most + 1)) ?_ (fun q hq => ok_s hq)
  refine ok_loop (fun m z (s : Int32 × St2) => lp_X5_guessesHeard_41 κ p sh (nI a) (nI w) (nI I) (nI n) (nI most) m s.1 z s.2) (most + 1) (fun k s => least ≤ k ∧ s.1 = F k) _ ?_ ?_ FU least (0, tr) (by omega) (by unfold FU; omega) ⟨Nat.le_refl _, F0.symm⟩
  · intro m s hs
    show ok _ (if nI most < nI (most + 1) then some (s.1, nI (most + 1), s.2) else _)
    rw [if_pos (nI_lt (by omega) (by omega))]
    exact ok_s hs.2
  · intro m k s hk hs ih
    show ok _ (if nI most < nI k then _ else ((f_X5_suppose κ p (nI a) (nI w) (nI k)).bind (fun r6 => ((f_X5_trialRunsAs κ r6 sh (nI a) (nI I) (nI n)).bind (fun r7 => (if r7.1 = 0 then lp_X5_guessesHeard_41 κ p sh (nI a) (nI w) (nI I) (nI n) (nI most) m s.1 (nI k + 1) r7.2 else lp_X5_guessesHeard_41 κ p sh (nI a) (nI w) (nI I) (nI n) (nI most) m (s.1 ||| (1 <<< (nI k &&& 31))) (nI k + 1) r7.2))))))
    rw [if_neg (nI_nlt (by omega) (by omega)), bd_eq (hP k hs.1 (by omega)).1]
    refine ok_b (c_runsAs κ sh (hP k hs.1 (by omega)).2 ha hI) (fun z hz => ?_)
    rcases hz with ⟨e, l⟩ | ⟨e, l⟩
    · rw [if_neg (by rw [e]; decide)]
      exact ih (_, _) ⟨by have := hs.1; omega, by rw [Fy k hs.1 l, ← hs.2]⟩
    · rw [if_pos e]
      exact ih (s.1, z.2) ⟨by have := hs.1; omega, hs.2.trans (Fn k hs.1 l).symm⟩
theorem m_hl {r : St6} (hp : PMo N p (p6_now σ) 0) (hm : MA σ r) (hq : MQu σ r) {a k I n who which least most : Nat} (ha : a < N) (hk : k < 4) (hI : I + n ≤ 24) (hmo : most ≤ 30) (hwho : who < 6) (hwh : which < 4) (P : Nat → St2) (hP : ∀ v s, least ≤ v → v ≤ most → MQu σ s → PMo N (P v) (upd (p6_now s) (3 + 4 * who + which) (nI v)) 0) (hl : least ≤ most) (F : Nat → Int32) (F0 : F least = 0) (Fy : ∀ v, least ≤ v → runsAs N (p6_items σ) (24 * k + I) n a (P v) → F (v + 1) = F v ||| ((1 : Int32) <<< (nI v &&& 31))) (Fn : ∀ v, least ≤ v → ¬ runsAs N (p6_items σ) (24 * k + I) n a (P v) → F (v + 1) = F v) : ok (fun q => q.1 = F (most + 1) ∧ MQu σ q.2) ((lp_X6_heard_150 (nI a) (nI k) (nI I) (nI n) (nI who) (nI which) (nI most) FU 0 (nI least) r).bind (fun q31 => some (q31.1, q31.2.2))) := by
  have hN := hp.1
  refine ok_b (P := fun q => q.1 = F (most + 1) ∧ MQu σ q.2.2) ?_ (fun q hq => ok_s hq)
  refine ok_loop (fun m z (s : Int32 × St6) => lp_X6_heard_150 (nI a) (nI k) (nI I) (nI n) (nI who) (nI which) (nI most) m s.1 z s.2) (most + 1) (fun v s => least ≤ v ∧ s.1 = F v ∧ MA σ s.2 ∧ MQu σ s.2) _ ?_ ?_ FU least (0, r) (by omega) (by unfold FU; omega) ⟨Nat.le_refl _, F0.symm, hm, hq⟩
  · intro m s hs
    show ok _ (if nI most < nI (most + 1) then some (s.1, nI (most + 1), s.2) else _)
    rw [if_pos (nI_lt (by omega) (by omega))]
    exact ok_s ⟨hs.2.1, hs.2.2.2⟩
  · intro m v s hv hs ih
    show ok _ (if nI most < nI v then _ else ((f_X6_tells s.2 (nI who) (nI which) (nI v)).bind (fun r20 => ((f_X6_isSo r20 (nI a) ((24 * nI k) + nI I) (nI n)).bind (fun r21 => (if r21.1 = 0 then lp_X6_heard_150 (nI a) (nI k) (nI I) (nI n) (nI who) (nI which) (nI most) m (s.1 ||| 0) (nI v + 1) r21.2 else lp_X6_heard_150 (nI a) (nI k) (nI I) (nI n) (nI who) (nI which) (nI most) m (s.1 ||| (1 <<< (nI v &&& 31))) (nI v + 1) r21.2))))))
    have ei : 24 * nI k + nI I = nI (24 * k + I) := by rw [show (24 : Int32) = nI 24 from rfl, nI_mul, nI_add]
    rw [if_neg (nI_nlt (by omega) (by omega)), bd_eq (tells_eq s.2 hwho hwh (nI v)), ei]
    refine ok_b (m_isSo (hs.2.2.1.nw _) (q := P v) (hP v s.2 hs.1 (by omega) hs.2.2.2) ha (B := 24 * k + I) (n := n) (by omega)) (fun z hz => ?_)
    rcases hz.2.2 with ⟨e, l⟩ | ⟨e, l⟩
    · rw [if_neg (by rw [e]; decide)]
      exact ih (_, _) ⟨by have := hs.1; omega, by rw [Fy v hs.1 l, ← hs.2.1], hz.1, hz.2.1⟩
    · rw [if_pos e]
      exact ih (_, _) ⟨by have := hs.1; omega, by rw [Fn v hs.1 l, ← hs.2.1]; exact Int32.or_zero, hz.1, hz.2.1⟩
theorem hF (S : Nat → Prop) (least : Nat) (hl : least ≤ 1) : ∃ F : Nat → Int32, F least = 0 ∧ (∀ v, least ≤ v → S v → F (v + 1) = F v ||| ((1 : Int32) <<< (nI v &&& 31))) ∧ (∀ v, least ≤ v → ¬ S v → F (v + 1) = F v) := by
  refine ⟨fun n => Nat.rec (0 : Int32) (fun v f => @ite Int32 (least ≤ v ∧ S v) (Classical.propDecidable _) (f ||| ((1 : Int32) <<< (nI v &&& 31))) f) n, ?_, fun v h1 h2 => ?_, fun v h1 h2 => ?_⟩
  · rcases (show least = 0 ∨ least = 1 by omega) with e | e
    · subst e; rfl
    · subst e
      show @ite Int32 (1 ≤ 0 ∧ S 0) (Classical.propDecidable _) _ _ = 0
      exact if_neg (fun c => absurd c.1 (by decide))
  · exact if_pos ⟨h1, h2⟩
  · exact if_neg (fun c => h2 c.2)
theorem runs_cg {it it' : Nat → Int64} {I B n a : Nat} {q : St2} (h : ∀ j, j < n → it (I + j) = it' (B + j)) : runsAs N it I n a q ↔ runsAs N it' B n a q :=
  ⟨fun c j hj => by rw [← h j hj]; exact c j hj, fun c j hj => by rw [h j hj]; exact c j hj⟩
theorem q_heard {σ : St6} {ln sz : Nat → Int32} {sh : Nat → St3} (hp : PMo N p (p6_now σ) 0) (hR : ∀ i, i < 4 → R3 (sh i) (ln i) (sz i)) (el : p6_lanes σ = ln) (ez : p6_sizes σ = sz) (hit : ∀ s, s < 4 → ∀ i, i < 24 → p3_items (sh s) i = p6_items σ (24 * s + i)) (κ : St5) (tr : St2) (x1 x2 x3 x4 x5 x6 : Int32) : AL σ (f_X5_heard κ p tr () (sh (sj x2)) x1 x2 x3 x4 x5 x6) (f_X6_heard σ x1 x2 x3 x4 x5 x6) := by
  have hN := hp.1
  have hc := hp.cp
  unfold f_X5_heard f_X6_heard
  rcases pq hp x1 with ⟨a, ha, rfl, e1, e2⟩ | ⟨e1, e2⟩
  rotate_left
  · rw [bd_eq e1, bd_eq e2, i0, i0]; exact al_same
  rw [bd_eq e1, bd_eq e2, i1, i1]
  rcases shq x2 with ⟨k, hk, rfl, e4, e5⟩ | ⟨e4, e5⟩
  rotate_left
  · rw [bd_eq e4, bd_eq e5, i0, i0]; exact al_same
  rw [bd_eq e4, bd_eq e5, i1, i1, sj_nI hk]
  rcases lnq x3 with ⟨j, hj, rfl, e6, e7⟩ | ⟨e6, e7⟩
  rotate_left
  · rw [bd_eq e6, bd_eq e7, i0, i0]; exact al_same
  rw [bd_eq e6, bd_eq e7, i1, i1]
  rcases inqN x5 1 8 (a' := 1) (b' := 8) (by decide) rfl rfl with ⟨n, hn1, hn, rfl, e8⟩ | ⟨hx, e8⟩
  rotate_left
  · rw [bd_eq e8, i0]
    exact al_mk (r := -1) (t := tr) (gd1 hx) (ok_s ⟨rfl, MQu.refl σ⟩)
  rw [bd_eq e8, i1, if_neg (show ¬ nI n < (1 : Int32) from nI_nlt (b := 1) hn1 (by omega)), if_pos (show nI n ≤ (8 : Int32) from nI_le (b := 8) hn (by decide)), hp.n, hp.2.1]
  have hN1 : nI N + 1 = nI (N + 1) := nI_1 N
  have h2N : (2 : Int32) + nI N = nI (2 + N) := nI_add 2 N
  rw [hN1, h2N]
  rcases inqN x6 0 (N + 1) (a' := 0) (b' := (nI (N + 1)).toInt64) ⟨by decide, by omega⟩ rfl (by rw [w64, nI_toInt (by omega)]) with ⟨w, -, hw, rfl, e9⟩ | ⟨hx, e9⟩
  rotate_left
  · rw [bd_eq e9, i0]
    refine al_mk (r := -1) (t := tr) ?_ (ok_s ⟨rfl, MQu.refl σ⟩)
    by_cases h0 : x6 < 0
    · rw [if_pos h0]
    · rw [if_neg h0, if_neg (fun q => by
        have h1 := Int32.lt_iff_toInt_lt.mp (hx.resolve_left h0)
        have h2 := Int32.lt_iff_toInt_lt.mp q
        rw [nI_toInt (by omega)] at h1 h2
        omega)]
  rw [bd_eq e9, i1, if_neg (show ¬ nI w < (0 : Int32) from nI_pos (by omega)), if_pos (show nI w < nI (2 + N) from nI_lt (by omega) (by omega)), if_pos (inB_nI hk (by decide))]
  obtain ⟨r, w1, w2, w3, w4⟩ := why_eq (hR k hk) (nI j) x4 (nI n)
  rw [bd_eq w1, bd_eq (w2 σ k hk (by rw [el]) (by rw [ez]))]
  by_cases hr : r = 0
  rotate_left
  · rw [if_neg hr, if_neg (le0 w3 hr)]; exact al_same
  subst hr
  obtain ⟨I, n', S, rfl, hnn, hIK, hS, -, -, -, -⟩ := w4 rfl
  have hn' : n' = n := by
    by_cases hq : n' < 2 ^ 31
    · exact ((nI_eq (by omega) hq).mp hnn).symm
    · omega
  subst hn'
  rw [i0, if_pos (show (0 : Int32) ≤ 0 from Int32.le_refl _)]
  have hI24 : I + n' ≤ 24 := by omega
  have hrun : ∀ q, runsAs N (p3_items (sh k)) I n' a q ↔ runsAs N (p6_items σ) (24 * k + I) n' a q := fun q => runs_cg (fun j hj => by
    rw [hit k hk (I + j) (by omega), show 24 * k + (I + j) = 24 * k + I + j by omega])
  have key : ∀ (who which least most : Nat) (P : Nat → St2), least ≤ 1 → least ≤ most → most ≤ 30 → who < 6 → which < 4 → (∀ v, least ≤ v → v ≤ most → f_X5_suppose κ p (nI a) (nI w) (nI v) = some (P v)) → (∀ v s, least ≤ v → v ≤ most → MQu σ s → PMo N (P v) (upd (p6_now s) (3 + 4 * who + which) (nI v)) 0) → AL σ ((((lp_X5_guessesHeard_41 κ p (sh k) (nI a) (nI w) (nI I) (nI n') (nI most) FU 0 (nI least) tr).bind (fun q11 => some (q11.1, q11.2.2)))).bind (fun r15 => some (r15.1, r15.2))) ((f_X6_asides σ).bind (fun r43 => ((lp_X6_heard_150 (nI a) (nI k) (nI I) (nI n') (nI who) (nI which) (nI most) FU 0 (nI least) r43).bind (fun q46 => some (q46.1, q46.2.2))))) := by
    intro who which least most P hl1 hlm hm30 hwho hwh hsup hpm
    obtain ⟨F, F0, Fy, Fn⟩ := hF (fun v => runsAs N (p6_items σ) (24 * k + I) n' a (P v)) least hl1
    refine al_ok (fun r => r = F (most + 1)) (fun a b ha hb => ha.trans hb.symm) (ok_b (c_hl κ (sh k) tr hN ha hI24 hm30 P (fun v h1 h2 => ⟨hsup v h1 h2, (hpm v σ h1 h2 (MQu.refl σ)).cp⟩) hlm F F0 (fun v h1 h2 => Fy v h1 ((hrun _).mp h2)) (fun v h1 h2 => Fn v h1 (fun c => h2 ((hrun _).mpr c)))) (fun q hq => ok_s hq)) (ok_b (asd σ) (fun r hr => m_hl hp hr.1 hr.2.1 ha hk hI24 hm30 hwho hwh P hpm hlm F F0 Fy Fn))
  have hi6 := inB_nI (show a < 6 by omega) (show 6 < 2 ^ 31 by decide)
  have hca : (nI a).toNatClampNeg = a := nI_clamp (by omega)
  rw [if_pos (inB_nI hk (by decide))]
  unfold f_X5_guessesHeard
  rcases (show w = 0 ∨ w = 1 ∨ 2 ≤ w by omega) with rfl | rfl | hw2
  · have n2 : ¬ (2 : Int32) ≤ nI 0 := by decide
    have p2 : nI 0 < (2 : Int32) := by decide
    have z0 : nI 0 = (0 : Int32) := rfl
    rw [if_pos p2, if_pos z0, if_neg n2, if_neg n2, if_pos z0]
    simp only [if_neg n2]
    exact key a 0 0 4 (fun v => s2_kinds p (upd (p2_kinds p) a (nI v))) (by decide) (by decide) (by decide) (by omega) (by decide) (fun v _ _ => by
      unfold f_X5_suppose
      rw [if_pos z0, if_pos hi6, hca]) (fun v s _ h2 hs => (hs.pr hp).d1 ha (rg_nI (by omega)))
  · have n2 : ¬ (2 : Int32) ≤ nI 1 := by decide
    have p2 : nI 1 < (2 : Int32) := by decide
    have z0 : ¬ nI 1 = (0 : Int32) := by decide
    have z1 : nI 1 = (1 : Int32) := rfl
    rw [if_pos p2, if_neg z0, if_pos z1, if_neg n2, if_neg n2, if_neg z0, if_pos z1]
    simp only [if_neg n2]
    exact key a 1 0 30 (fun v => s2_turns p (upd (p2_turns p) a (nI v))) (by decide) (by decide) (by decide) (by omega) (by decide) (fun v _ _ => by
      unfold f_X5_suppose
      rw [if_neg z0, if_pos z1, if_pos hi6, hca]) (fun v s _ h2 hs => (hs.pr hp).t1 ha (rg_nI (by omega)))
  · have p2 : (2 : Int32) ≤ nI w := nI_le (a := 2) hw2 (by omega)
    have n2 : ¬ nI w < (2 : Int32) := nI_nlt (b := 2) hw2 (by omega)
    have z0 : ¬ nI w = (0 : Int32) := fun c => by have := (nI_eq (a := w) (b := 0) (by omega) (by decide)).mp c; omega
    have z1 : ¬ nI w = (1 : Int32) := fun c => by have := (nI_eq (a := w) (b := 1) (by omega) (by decide)).mp c; omega
    have ew : nI w - 2 = nI (w - 2) := pk_sub (b := 2) hw2
    have hwN : w - 2 < N := by omega
    rw [if_neg n2, if_neg z0, if_neg z1, if_pos p2, if_pos p2, if_neg z0, if_neg z1]
    simp only [if_pos p2]
    rw [ew]
    have hhas : f_X2_has p (nI (w - 2)) = some 1 := by
      unfold f_X2_has
      rw [if_neg (nI_pos (by omega)), hp.2.1, if_neg (nI_ge hwN (by omega))]
    exact key (w - 2) 3 1 12 (fun v => s2_keys p (upd (p2_keys p) (w - 2) (nI v))) (by decide) (by decide) (by decide) (by omega) (by decide) (fun v _ _ => by
      unfold f_X5_suppose
      rw [if_neg z0, if_neg z1, ew, bd_eq hhas, i1, if_pos (inB_nI (show w - 2 < 6 by omega) (by decide)), nI_clamp (by omega)]) (fun v s _ h2 hs => (hs.pr hp).k1 hwN (rg_nI (by omega)))
theorem s2_heard (hI : Inv1 X M) (h : R2 X M) (x1 x2 x3 x4 x5 x6 : Int32) : S2 (FX_heard X x1 x2 x3 x4 x5 x6) (f_X6_heard M x1 x2 x3 x4 x5 x6) := by
  obtain ⟨T, ln, sz, hT, c, hM⟩ := hI
  obtain ⟨N, hp⟩ := h.1
  unfold FX_heard
  exact s2_al h (q_heard hp (fun i hi => c.2.2.2.2.2.2 i hi) hM.2.2.2.2.2.2.2.2.1 hM.2.2.2.2.2.2.2.2.2 h.2.2.2.2.2 (xk X) (xtr X) x1 x2 x3 x4 x5 x6)
end
