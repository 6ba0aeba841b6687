/-! THE FULL RELATION: what is advised -/
/-- how many of six -/
noncomputable def bcN (A : Nat) : Nat := (A.testBit 0).toNat + (A.testBit 1).toNat + (A.testBit 2).toNat + (A.testBit 3).toNat + (A.testBit 4).toNat + (A.testBit 5).toNat
theorem bc_dec : ∀ A, A < 64 → f_J6_bitCount_0f7a4 (nI A) = some (nI (bcN A)) ∧ f_X6_many (nI A) = some (nI (bcN A)) ∧ bcN A < 7 := by decide +kernel
theorem stN_64 {N : Nat} (hN : N ≤ 6) (p : St2) : stN N p < 64 := bset_64 _ hN
/-- turns of one changed -/
theorem PMo.t1 {N : Nat} {p : St2} {f : Nat → Int32} (h : PMo N p f 0) {k : Nat} (hk : k < N) {v : Int32} (hv : rg v 31) : PMo N (s2_turns p (upd (p2_turns p) k v)) (upd f (3 + 4 * k + 1) v) 0 := by
  obtain ⟨h1, h2, h3, h4, h5, h6⟩ := h
  refine ⟨h1, h2, ?_, ?_, ?_, fun i hi => ?_⟩
  · rw [pk_un (by omega)]; exact h3
  · rw [pk_un (by omega)]; exact h4
  · rw [pk_un (by omega)]; exact h5
  · obtain ⟨a1, a2, a3, a4, a5, a6, a7⟩ := h6 i hi
    by_cases e : i = k
    · subst e
      refine ⟨?_, ?_, ?_, ?_, a5, ?_, a7⟩
      · rw [pk_un (by omega)]; exact a1
      · show upd (p2_turns p) i v i = _
        rw [pk_us, show 0 + 4 + 4 * i = 3 + 4 * i + 1 by omega, pk_us]
      · rw [pk_un (by omega)]; exact a3
      · rw [pk_un (by omega)]; exact a4
      · show rg (upd (p2_turns p) i v i) 31
        rw [pk_us]; exact hv
    · refine ⟨?_, ?_, ?_, ?_, a5, ?_, a7⟩
      · rw [pk_un (by omega)]; exact a1
      · show upd (p2_turns p) k v i = _
        rw [pk_un e, pk_un (by omega)]; exact a2
      · rw [pk_un (by omega)]; exact a3
      · rw [pk_un (by omega)]; exact a4
      · show rg (upd (p2_turns p) k v i) 31
        rw [pk_un e]; exact a6
/-- whom one winds changed -/
theorem PMo.w1 {N : Nat} {p : St2} {f : Nat → Int32} (h : PMo N p f 0) {k : Nat} (hk : k < N) {v : Int32} (hv : v = -4 ∨ rg v N) : PMo N (s2_winds p (upd (p2_winds p) k v)) (upd f (3 + 4 * k + 2) v) 0 := by
  obtain ⟨h1, h2, h3, h4, h5, h6⟩ := h
  refine ⟨h1, h2, ?_, ?_, ?_, fun i hi => ?_⟩
  · rw [pk_un (by omega)]; exact h3
  · rw [pk_un (by omega)]; exact h4
  · rw [pk_un (by omega)]; exact h5
  · obtain ⟨a1, a2, a3, a4, a5, a6, a7, a8⟩ := h6 i hi
    by_cases e : i = k
    · subst e
      refine ⟨?_, ?_, ?_, ?_, a5, a6, ?_, a8⟩
      · rw [pk_un (by omega)]; exact a1
      · rw [pk_un (by omega)]; exact a2
      · show upd (p2_winds p) i v i = _
        rw [pk_us, show 0 + 5 + 4 * i = 3 + 4 * i + 2 by omega, pk_us]
      · rw [pk_un (by omega)]; exact a4
      · show upd (p2_winds p) i v i = -4 ∨ rg (upd (p2_winds p) i v i) N
        rw [pk_us]; exact hv
    · refine ⟨?_, ?_, ?_, ?_, a5, a6, ?_, a8⟩
      · rw [pk_un (by omega)]; exact a1
      · rw [pk_un (by omega)]; exact a2
      · show upd (p2_winds p) k v i = _
        rw [pk_un e, pk_un (by omega)]; exact a3
      · rw [pk_un (by omega)]; exact a4
      · show upd (p2_winds p) k v i = -4 ∨ rg (upd (p2_winds p) k v i) N
        rw [pk_un e]; exact a7
/-- a key changed -/
theorem PMo.k1 {N : Nat} {p : St2} {f : Nat → Int32} (h : PMo N p f 0) {k : Nat} (hk : k < N) {v : Int32} (hv : rg v 13) : PMo N (s2_keys p (upd (p2_keys p) k v)) (upd f (3 + 4 * k + 3) v) 0 := by
  obtain ⟨h1, h2, h3, h4, h5, h6⟩ := h
  refine ⟨h1, h2, ?_, ?_, ?_, fun i hi => ?_⟩
  · rw [pk_un (by omega)]; exact h3
  · rw [pk_un (by omega)]; exact h4
  · rw [pk_un (by omega)]; exact h5
  · obtain ⟨a1, a2, a3, a4, a5, a6, a7, a8⟩ := h6 i hi
    by_cases e : i = k
    · subst e
      refine ⟨?_, ?_, ?_, ?_, a5, a6, a7, ?_⟩
      · rw [pk_un (by omega)]; exact a1
      · rw [pk_un (by omega)]; exact a2
      · rw [pk_un (by omega)]; exact a3
      · show upd (p2_keys p) i v i = _
        rw [pk_us, show 0 + 6 + 4 * i = 3 + 4 * i + 3 by omega, pk_us]
      · show rg (upd (p2_keys p) i v i) 13
        rw [pk_us]; exact hv
    · refine ⟨?_, ?_, ?_, ?_, a5, a6, a7, ?_⟩
      · rw [pk_un (by omega)]; exact a1
      · rw [pk_un (by omega)]; exact a2
      · rw [pk_un (by omega)]; exact a3
      · show upd (p2_keys p) k v i = _
        rw [pk_un e, pk_un (by omega)]; exact a4
      · show rg (upd (p2_keys p) k v i) 13
        rw [pk_un e]; exact a8
/-- a kind changed -/
theorem PMo.d1 {N : Nat} {p : St2} {f : Nat → Int32} (h : PMo N p f 0) {k : Nat} (hk : k < N) {v : Int32} (hv : rg v 5) : PMo N (s2_kinds p (upd (p2_kinds p) k v)) (upd f (3 + 4 * k + 0) v) 0 := by
  obtain ⟨h1, h2, h3, h4, h5, h6⟩ := h
  refine ⟨h1, h2, ?_, ?_, ?_, fun i hi => ?_⟩
  · rw [pk_un (by omega)]; exact h3
  · rw [pk_un (by omega)]; exact h4
  · rw [pk_un (by omega)]; exact h5
  · obtain ⟨a1, a2, a3, a4, a5, a6⟩ := h6 i hi
    by_cases e : i = k
    · subst e
      refine ⟨?_, ?_, ?_, ?_, ?_, a6⟩
      · show upd (p2_kinds p) i v i = _
        rw [pk_us, show 0 + 3 + 4 * i = 3 + 4 * i + 0 by omega, pk_us]
      · rw [pk_un (by omega)]; exact a2
      · rw [pk_un (by omega)]; exact a3
      · rw [pk_un (by omega)]; exact a4
      · show rg (upd (p2_kinds p) i v i) 5
        rw [pk_us]; exact hv
    · refine ⟨?_, ?_, ?_, ?_, ?_, a6⟩
      · show upd (p2_kinds p) k v i = _
        rw [pk_un e, pk_un (by omega)]; exact a1
      · rw [pk_un (by omega)]; exact a2
      · rw [pk_un (by omega)]; exact a3
      · rw [pk_un (by omega)]; exact a4
      · show rg (upd (p2_kinds p) k v i) 5
        rw [pk_un e]; exact a5
-- lent
noncomputable def lendV (p : St2) (k t : Nat) : Int32 := nI (min 30 ((p2_turns p k).toNatClampNeg + t))
noncomputable def lendP (p : St2) (k t : Nat) : St2 := s2_turns p (upd (p2_turns p) k (lendV p k t))
theorem lendV_rg (p : St2) (k t : Nat) : rg (lendV p k t) 31 := ⟨_, by omega, rfl⟩
theorem c_lend {N : Nat} {p : St2} (h : CPo N p) {k t : Nat} (hk : k < N) (ht : t < 1000) : f_X2_addTurns p (nI k) (nI t) = some (lendP p k t) := by
  have hN := h.1
  obtain ⟨x, hx, e⟩ := (h.2.2 k hk).2.1
  unfold f_X2_addTurns lendP lendV
  rw [if_pos (inB_nI (show k < 6 by omega) (by decide)), if_pos (inB_nI (show k < 6 by omega) (by decide)), nI_clamp (by omega), e, nI_add, nI_clamp (by omega)]
  by_cases hl : x + t < 30
  · rw [if_pos (show nI (x + t) < (30 : Int32) from nI_lt (b := 30) hl (by decide)), show min 30 (x + t) = x + t by omega]
  · rw [if_neg (show ¬ nI (x + t) < (30 : Int32) from nI_nlt (b := 30) (by omega) (by omega)), show min 30 (x + t) = 30 by omega]; rfl
theorem m_lent {N : Nat} {p : St2} {σ : St6} (h : PMo N p (p6_now σ) 0) {k t : Nat} (hk : k < N) (ht : t < 1000) : ok (fun r => (∃ f, r = s6_now σ f) ∧ PMo N (lendP p k t) (p6_now r) 0) (f_X6_lent σ (nI k) (nI t)) := by
  have hN := h.1
  obtain ⟨x, hx, e⟩ := (h.cp.2.2 k hk).2.1
  have hp : PMo N (lendP p k t) (upd (p6_now σ) (3 + 4 * k + 1) (lendV p k t)) 0 := h.t1 hk (lendV_rg p k t)
  unfold f_X6_lent
  rw [bd_eq (h.turns hk), e, nI_add]
  have hv : lendV p k t = nI (min 30 (x + t)) := by unfold lendV; rw [e, nI_clamp (by omega)]
  by_cases hl : x + t ≤ 30
  · rw [if_pos (show nI (x + t) ≤ (30 : Int32) from nI_le (b := 30) hl (by decide)), show (1 : Int32) = nI 1 from rfl, bd_eq (tells_eq σ (show k < 6 by omega) (by decide) _)]
    rw [hv, show min 30 (x + t) = x + t by omega] at hp
    exact ok_s ⟨⟨_, rfl⟩, hp⟩
  · rw [if_neg (show ¬ nI (x + t) ≤ (30 : Int32) from nI_ge (a := 30) (by omega) (by omega)), show (1 : Int32) = nI 1 from rfl, bd_eq (tells_eq σ (show k < 6 by omega) (by decide) _)]
    rw [hv, show min 30 (x + t) = 30 by omega] at hp
    exact ok_s ⟨⟨_, rfl⟩, hp⟩
theorem MA.nw' {σ r s : St6} (h : MA σ r) (e : ∃ f, s = s6_now r f) : MA σ s := by
  obtain ⟨f, rfl⟩ := e
  exact h.nw f
/-- of the first k, the first with the fewest, and these -/
noncomputable def bst (own : Nat → Nat) (b0 f0 : Int32) (skip : Nat → Bool) : Nat → Int32 × Int32
  | 0 => (b0, f0)
  | k + 1 => if skip k = true then bst own b0 f0 skip k else if (bst own b0 f0 skip k).2 ≤ nI (own k) then bst own b0 f0 skip k else (nI k, nI (own k))
section
variable {N : Nat} {p : St2} {σ : St6}
noncomputable def ownL (N : Nat) (p : St2) (K t k : Nat) : Nat := bcN (stN N (passI N K (lendP p k t)))
theorem q_adv (x : Int32) : (∃ K, 1 ≤ K ∧ K ≤ 40 ∧ x = nI K ∧ f_X5_isAdvised x = some 1 ∧ f_X6_in x.toInt64 1 40 = some 1) ∨ (f_X5_isAdvised x = some 0 ∧ f_X6_in x.toInt64 1 40 = some 0) := by
  unfold f_X5_isAdvised
  rcases inqN x 1 40 (a' := 1) (b' := 40) (by decide) rfl rfl with ⟨K, h1, h2, rfl, e⟩ | ⟨hx, e⟩
  · exact Or.inl ⟨K, h1, h2, rfl, gp2 (a := 1) (b := 40) h1 h2 (by decide), e⟩
  · exact Or.inr ⟨gd2 hx, e⟩
theorem q_lends (h : PMo N p (p6_now σ) 0) (κ : St5) (tr : St2) (x1 x2 x3 : Int32) : AL σ (f_X5_lends κ p tr x1 x2 x3) (f_X6_lends σ x1 x2 x3) := by
  have hN := h.1
  have hc := h.cp
  unfold f_X5_lends f_X6_lends
  rcases q_adv x1 with ⟨K, hK1, hK, rfl, e1, e2⟩ | ⟨e1, e2⟩
  rotate_left
  · rw [bd_eq e1, bd_eq e2, i0, i0]
    exact al_same
  rw [bd_eq e1, bd_eq e2, i1, i1]
  rcases inqN x2 1 30 (a' := 1) (b' := 30) (by decide) rfl rfl with ⟨t, ht1, ht, rfl, e3⟩ | ⟨hx, e3⟩
  rotate_left
  · rw [bd_eq e3, i0]
    exact al_mk (r := -1) (t := tr) (gd2 hx) (ok_s ⟨rfl, MQu.refl σ⟩)
  rw [bd_eq e3, i1]
  have hl : (1 : Int32) = nI 1 := rfl
  rw [if_neg (show ¬ nI t < (1 : Int32) from nI_nlt (b := 1) ht1 (by omega)), if_neg (show ¬ (30 : Int32) < nI t from nI_nlt (a := 30) ht (by decide))]
  rcases inqN x3 0 1 (a' := 0) (b' := 1) (by decide) rfl rfl with ⟨w, -, hw, rfl, e4⟩ | ⟨hx, e4⟩
  rotate_left
  · rw [bd_eq e4, i0]
    exact al_mk (r := -1) (t := tr) (gd1 hx) (ok_s ⟨rfl, MQu.refl σ⟩)
  rw [bd_eq e4, i1, if_neg (show ¬ nI w < (0 : Int32) from nI_pos (by omega)), if_pos (show nI w ≤ (1 : Int32) from nI_le (b := 1) hw (by decide))]
  have own7 : ∀ k, ownL N p K t k < 7 := fun k => (bc_dec _ (stN_64 hN _)).2.2
  obtain ⟨B, hB0, hBs⟩ : ∃ B : Nat → Int32 × Int32, B 0 = (-4, 7) ∧ ∀ k, B (k + 1) = if (B k).2 ≤ nI (ownL N p K t k) then B k else (nI k, nI (ownL N p K t k)) := ⟨bst (ownL N p K t) (-4) 7 (fun _ => false), rfl, fun _ => rfl⟩
  refine al_ok (fun r => r = if nI w = 0 then (B N).1 else if (B N).1 = -4 then (B N).1 else (B N).2) (fun a b ha hb => ha.trans hb.symm) (ok_b (P := fun q => q.1 = (B N).1 ∧ q.2.1 = (B N).2) ?_ (fun q hq => ?_)) (ok_b (asd σ) (fun r hr => ok_b (P := fun q => MQu σ q.2.2.2 ∧ ((N = 0 ∧ q.1 = -4) ∨ (q.1 = (B N).1 ∧ q.2.1 = (B N).2))) ?_ (fun q hq => ?_)))
  · refine lpG (fun m z (s : Int32 × Int32 × St2) => lp_X5_lends_40 κ p (nI K) (nI t) (nI w) m s.1 s.2.1 z s.2.2) N (by omega) (fun k s => s.1 = (B k).1 ∧ s.2.1 = (B k).2) _ (fun m z s => rfl) (fun _ _ _ => h.2.1) (fun s hs => ok_s hs) (fun m k s hk hs ih => ?_) (-4, 7, tr) (by rw [hB0]; exact ⟨rfl, rfl⟩)
    have hl : CPo N (lendP p k t) := by
      have := (h.t1 hk (lendV_rg p k t)).cp
      exact this
    rw [bd_eq (c_lend hc hk (by omega)), bd_eq (c_passHours hl (K := K) (by omega)), bd_eq (c_stopped (hl.pass K).2.1 hN), bd_eq (bc_dec _ (stN_64 hN _)).1]
    have hb' := hBs k
    rw [hs.2]
    by_cases hle : (B k).2 ≤ nI (ownL N p K t k)
    · rw [if_pos (show (B k).2 ≤ nI (bcN (stN N (passI N K (lendP p k t)))) from hle)]
      rw [if_pos hle] at hb'
      exact ih (s.1, (B k).2, passI N K (lendP p k t)) ⟨hs.1.trans (congrArg Prod.fst hb').symm, (congrArg Prod.snd hb').symm⟩
    · rw [if_neg (show ¬ (B k).2 ≤ nI (bcN (stN N (passI N K (lendP p k t)))) from hle)]
      rw [if_neg hle] at hb'
      exact ih (_, _, _) ⟨(congrArg Prod.fst hb').symm, (congrArg Prod.snd hb').symm⟩
  · by_cases h0 : nI w = 0
    · rw [if_pos h0, if_pos h0]; exact ok_s hq.1
    · rw [if_neg h0, if_neg h0, hq.1]
      by_cases h4 : (B N).1 = -4
      · rw [if_pos h4, if_pos h4]; exact ok_s rfl
      · rw [if_neg h4, if_neg h4]; exact ok_s hq.2
  · refine lpG (fun m z (s : Int32 × Int32 × St6) => lp_X6_lends_51 (nI K) (nI t) (nI w) m s.1 s.2.1 z s.2.2) N (by omega) (fun k s => MA σ s.2.2 ∧ MQu σ s.2.2 ∧ ((k = 0 ∧ s.1 = -4 ∧ s.2.1 = 99) ∨ (0 < k ∧ s.1 = (B k).1 ∧ s.2.1 = (B k).2))) _ (fun m z s => rfl) (fun k s hs => (hs.2.1.pr h).n) (fun s hs => ok_s ⟨hs.2.1, hs.2.2.elim (fun a => Or.inl ⟨a.1, a.2.1⟩) (fun a => Or.inr a.2)⟩) (fun m k s hk hs ih => ?_) (-4, 99, r) ⟨hr.1, hr.2.1, Or.inl ⟨rfl, rfl, rfl⟩⟩
    refine ok_b (m_lent (hs.2.1.pr h) hk (show t < 1000 by omega)) (fun u hu => ok_b (m_stoppedBehind (hs.1.nw' hu.1) hu.2 (K := K) (by omega)) (fun v hv => ?_))
    rw [hv.1, bd_eq (bc_dec _ (stN_64 hN _)).2.1]
    have hb' := hBs k
    rcases hs.2.2 with ⟨a, b, c⟩ | ⟨a, b, c⟩
    · subst a
      have n99 : ¬ (99 : Int32) ≤ nI (bcN (stN N (passI N K (lendP p 0 t)))) := nI_ge (b := 99) (by have := own7 0; unfold ownL at this; omega) (by decide)
      have n7 : ¬ (7 : Int32) ≤ nI (ownL N p K t 0) := nI_ge (b := 7) (own7 0) (by decide)
      rw [hB0] at hb'
      have hb' : B (0 + 1) = (nI 0, nI (ownL N p K t 0)) := by rw [hb']; exact if_neg n7
      rw [c, if_neg n99, if_neg n99]
      exact ih (_, _, _) ⟨hv.2.1, hv.2.2, Or.inr ⟨by omega, (congrArg Prod.fst hb').symm, (congrArg Prod.snd hb').symm⟩⟩
    · rw [c]
      by_cases hle : (B k).2 ≤ nI (ownL N p K t k)
      · have hle' : (B k).2 ≤ nI (bcN (stN N (passI N K (lendP p k t)))) := hle
        rw [if_pos hle', if_pos hle']
        rw [if_pos hle] at hb'
        exact ih (s.1, (B k).2, v.2) ⟨hv.2.1, hv.2.2, Or.inr ⟨by omega, b.trans (congrArg Prod.fst hb').symm, (congrArg Prod.snd hb').symm⟩⟩
      · have hle' : ¬ (B k).2 ≤ nI (bcN (stN N (passI N K (lendP p k t)))) := hle
        rw [if_neg hle', if_neg hle']
        rw [if_neg hle] at hb'
        exact ih (_, _, _) ⟨hv.2.1, hv.2.2, Or.inr ⟨by omega, (congrArg Prod.fst hb').symm, (congrArg Prod.snd hb').symm⟩⟩
  · rcases hq.2 with ⟨a, b⟩ | ⟨a, b⟩
    · subst a
      rw [hB0, b]
      show ok (fun (q : Int32 × St6) => q.1 = (if nI w = 0 then (-4 : Int32) else if (-4 : Int32) = -4 then -4 else 7) ∧ MQu σ q.2) _
      rw [if_pos (show (-4 : Int32) = -4 from rfl), if_pos (show (-4 : Int32) = -4 from rfl)]
      by_cases h0 : nI w = 0
      · rw [if_pos h0, if_pos h0]; exact ok_s ⟨rfl, hq.1⟩
      · rw [if_neg h0, if_neg h0]; exact ok_s ⟨rfl, hq.1⟩
    · by_cases h0 : nI w = 0
      · rw [if_pos h0, if_pos h0]; exact ok_s ⟨a, hq.1⟩
      · rw [if_neg h0, if_neg h0, a]
        by_cases h4 : (B N).1 = -4
        · rw [if_pos h4, if_pos h4]; exact ok_s ⟨rfl, hq.1⟩
        · rw [if_neg h4, if_neg h4]; exact ok_s ⟨b, hq.1⟩
-- instead
noncomputable def toldP (p : St2) (a : Nat) (v : Int32) : St2 := s2_winds p (upd (p2_winds p) a v)
noncomputable def ownI (N : Nat) (p : St2) (K a : Nat) (v : Int32) : Nat := bcN (stN N (passI N K (toldP p a v)))
theorem c_told (h : PMo N p (p6_now σ) 0) (κ : St5) (tr : St2) {a K : Nat} (ha : a < N) (hK : K ≤ 40) {v : Int32} (hv : v = -4 ∨ rg v N) : f_X5_stoppedIfTold κ p tr (nI a) v (nI K) = some (nI (ownI N p K a v), passI N K (toldP p a v)) := by
  have hN := h.1
  have hc : CPo N (toldP p a v) := by
    have := (h.w1 ha hv).cp
    exact this
  unfold f_X5_stoppedIfTold
  rw [if_pos (inB_nI (show a < 6 by omega) (by decide)), nI_clamp (by omega)]
  show (f_X2_passHours (toldP p a v) (nI K)).bind _ = _
  rw [bd_eq (c_passHours hc (K := K) (by omega)), bd_eq (c_stopped (hc.pass K).2.1 hN), bd_eq (bc_dec _ (stN_64 hN _)).1]
  rfl
theorem m_told {r : St6} (h : PMo N p (p6_now σ) 0) (hm : MA σ r) (hq : MQu σ r) {a K : Nat} (ha : a < N) (hK : K ≤ 40) {v : Int32} (hv : v = -4 ∨ rg v N) {β : Type} {Q : β → Prop} {f : Int32 → St6 → Option β} (hf : ∀ s, MA σ s → MQu σ s → ok Q (f (nI (ownI N p K a v)) s)) : ok Q ((f_X6_tells r (nI a) 2 v).bind (fun r13 => ((f_X6_stoppedBehind r13 (nI K)).bind (fun r14 => ((f_X6_many r14.1).bind (fun r15 => f r15 r14.2)))))) := by
  have hN := h.1
  rw [show (2 : Int32) = nI 2 from rfl, bd_eq (tells_eq r (show a < 6 by omega) (by decide) v)]
  refine ok_b (m_stoppedBehind (N := N) (hm.nw _) (q := toldP p a v) ?_ (K := K) (by omega)) (fun z hz => ?_)
  · exact (hq.pr h).w1 ha hv
  · rw [hz.1, bd_eq (bc_dec _ (stN_64 hN _)).2.1]
    exact hf z.2 hz.2.1 hz.2.2
theorem q_instead (h : PMo N p (p6_now σ) 0) (κ : St5) (tr : St2) (x1 x2 x3 : Int32) : AL σ (f_X5_instead κ p tr x1 x2 x3) (f_X6_instead σ x1 x2 x3) := by
  have hN := h.1
  unfold f_X5_instead f_X6_instead
  rcases pq h x1 with ⟨a, ha, rfl, e1, e2⟩ | ⟨e1, e2⟩
  rotate_left
  · rw [bd_eq e1, bd_eq e2, i0, i0]
    exact al_same
  rw [bd_eq e1, bd_eq e2, i1, i1]
  rcases q_adv x2 with ⟨K, hK1, hK, rfl, e1, e2⟩ | ⟨e1, e2⟩
  rotate_left
  · rw [bd_eq e1, bd_eq e2, i0, i0]
    exact al_same
  rw [bd_eq e1, bd_eq e2, i1, i1]
  rcases inqN x3 0 1 (a' := 0) (b' := 1) (by decide) rfl rfl with ⟨w, -, hw, rfl, e4⟩ | ⟨hx, e4⟩
  rotate_left
  · rw [bd_eq e4, i0]
    exact al_mk (r := -1) (t := tr) (gd1 hx) (ok_s ⟨rfl, MQu.refl σ⟩)
  rw [bd_eq e4, i1, if_neg (show ¬ nI w < (0 : Int32) from nI_pos (by omega)), if_pos (show nI w ≤ (1 : Int32) from nI_le (b := 1) hw (by decide)), bd_eq (c_told h κ tr ha hK (Or.inl rfl))]
  generalize hB : bst (fun k => ownI N p K a (nI k)) (-4) (nI (ownI N p K a (-4))) (fun k => decide (k = a)) = B
  have hB0 : B 0 = (-4, nI (ownI N p K a (-4))) := by rw [← hB]; rfl
  have hBs : ∀ k, B (k + 1) = if k = a then B k else if (B k).2 ≤ nI (ownI N p K a (nI k)) then B k else (nI k, nI (ownI N p K a (nI k))) := by
    intro k
    rw [← hB]
    show (if decide (k = a) = true then _ else _) = _
    by_cases e : k = a
    · rw [if_pos e, if_pos (decide_eq_true e)]
    · rw [if_neg e, if_neg (by rw [decide_eq_false e]; decide)]
  refine al_ok (fun r => r = if nI w = 0 then (B N).1 else (B N).2) (fun a b ha hb => ha.trans hb.symm) (ok_b (P := fun q => q.1 = (B N).1 ∧ q.2.1 = (B N).2) ?_ (fun q hq => ?_)) (ok_b (asd σ) (fun r hr => ?_))
  · refine lpG (fun m z (s : Int32 × Int32 × St2) => lp_X5_instead_46 κ p (nI a) (nI K) (nI w) m s.1 s.2.1 z s.2.2) N (by omega) (fun k s => s.1 = (B k).1 ∧ s.2.1 = (B k).2) _ (fun m z s => rfl) (fun _ _ _ => h.2.1) (fun s hs => ok_s hs) (fun m k s hk hs ih => ?_) (-4, nI (ownI N p K a (-4)), passI N K (toldP p a (-4))) (by rw [hB0]; exact ⟨rfl, rfl⟩)
    have hb := hBs k
    by_cases e : k = a
    · rw [if_pos (by rw [e]), if_pos (Int32.le_refl _)]
      rw [if_pos e] at hb
      exact ih s (by rw [hb]; exact hs)
    · rw [if_neg (fun q => e ((nI_eq (by omega) (by omega)).mp q)), bd_eq (c_told h κ s.2.2 ha hK (Or.inr (rg_nI hk))), hs.2]
      rw [if_neg e] at hb
      by_cases hle : (B k).2 ≤ nI (ownI N p K a (nI k))
      · rw [if_pos hle]
        rw [if_pos hle] at hb
        exact ih (s.1, (B k).2, passI N K (toldP p a (nI k))) ⟨hs.1.trans (congrArg Prod.fst hb).symm, (congrArg Prod.snd hb).symm⟩
      · rw [if_neg hle]
        rw [if_neg hle] at hb
        exact ih (_, _, _) ⟨(congrArg Prod.fst hb).symm, (congrArg Prod.snd hb).symm⟩
  · by_cases h0 : nI w = 0
    · rw [if_pos h0, if_pos h0]; exact ok_s hq.1
    · rw [if_neg h0, if_neg h0]; exact ok_s hq.2
  · refine m_told h hr.1 hr.2.1 ha hK (Or.inl rfl) (f := fun r10 r9 => (lp_X6_instead_61 (nI a) (nI K) (nI w) FU (-4) r10 0 r9).bind (fun q19 => (if nI w = 0 then some (q19.1, q19.2.2.2) else some (q19.2.1, q19.2.2.2)))) (fun s hm hq => ?_)
    refine ok_b (P := fun q => MQu σ q.2.2.2 ∧ q.1 = (B N).1 ∧ q.2.1 = (B N).2) ?_ (fun q hq => ?_)
    · refine lpG (fun m z (s : Int32 × Int32 × St6) => lp_X6_instead_61 (nI a) (nI K) (nI w) m s.1 s.2.1 z s.2.2) N (by omega) (fun k s => MA σ s.2.2 ∧ MQu σ s.2.2 ∧ s.1 = (B k).1 ∧ s.2.1 = (B k).2) _ (fun m z s => rfl) (fun k s hs => (hs.2.1.pr h).n) (fun s hs => ok_s hs.2) (fun m k s hk hs ih => ?_) (-4, nI (ownI N p K a (-4)), s) ⟨hm, hq, by rw [hB0], by rw [hB0]⟩
      have hb := hBs k
      by_cases e : k = a
      · rw [if_pos (by rw [e])]
        rw [if_pos e] at hb
        exact ih s (by rw [hb]; exact hs)
      · rw [if_neg (fun q => e ((nI_eq (by omega) (by omega)).mp q))]
        rw [if_neg e] at hb
        refine m_told h hs.1 hs.2.1 ha hK (Or.inr (rg_nI hk)) (f := fun r15 r14 => (if s.2.1 ≤ r15 then (if s.2.1 ≤ r15 then lp_X6_instead_61 (nI a) (nI K) (nI w) m s.1 s.2.1 (nI k + 1) r14 else lp_X6_instead_61 (nI a) (nI K) (nI w) m s.1 r15 (nI k + 1) r14) else (if s.2.1 ≤ r15 then lp_X6_instead_61 (nI a) (nI K) (nI w) m (nI k) s.2.1 (nI k + 1) r14 else lp_X6_instead_61 (nI a) (nI K) (nI w) m (nI k) r15 (nI k + 1) r14))) (fun t hm hq => ?_)
        by_cases hle : (B k).2 ≤ nI (ownI N p K a (nI k))
        · have hle' : s.2.1 ≤ nI (ownI N p K a (nI k)) := by rw [hs.2.2.2]; exact hle
          rw [if_pos hle', if_pos hle']
          rw [if_pos hle] at hb
          exact ih (_, _, _) ⟨hm, hq, hs.2.2.1.trans (congrArg Prod.fst hb).symm, hs.2.2.2.trans (congrArg Prod.snd hb).symm⟩
        · have hle' : ¬ s.2.1 ≤ nI (ownI N p K a (nI k)) := by rw [hs.2.2.2]; exact hle
          rw [if_neg hle', if_neg hle']
          rw [if_neg hle] at hb
          exact ih (_, _, _) ⟨hm, hq, (congrArg Prod.fst hb).symm, (congrArg Prod.snd hb).symm⟩
    · by_cases h0 : nI w = 0
      · rw [if_pos h0, if_pos h0]; exact ok_s ⟨hq.2.1, hq.1⟩
      · rw [if_neg h0, if_neg h0]; exact ok_s ⟨hq.2.2, hq.1⟩
end
