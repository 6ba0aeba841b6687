/-! THE FULL RELATION: what is done, and undone -/
/-- the known moments, as the class and as the reference have them -/
noncomputable def PU (q : St1) (f : Nat → Int32) (u : Int32) : Prop := ∃ K e : Nat, K ≤ 8 ∧ e < 8 ∧ p1_size q = nI K ∧ u = nI K ∧ p1_next q = nI e ∧ ∀ k, k < K → ∃ N, PMo N (p1_ms q ((e + 8 - K + k) % 8)) f (27 * k)
/-- the reference's rest -/
noncomputable def MR (σ : St6) : (Nat → Int32) × Int32 × Int32 × (Nat → Int32) × Int32 × (Nat → Int32) × (Nat → Int32) × (Nat → Int64) := (p6_kept σ, p6_keptUndos σ, p6_isKept σ, p6_tape σ, p6_typed σ, p6_lanes σ, p6_sizes σ, p6_items σ)
/-- a letter that may be typed -/
noncomputable def ltr (v : Int32) : Prop := ∃ k : Nat, 32 ≤ k ∧ k < 127 ∧ v = nI k
noncomputable def RBt (X : SX) (m : (Nat → Int32) × Int32 × Int32 × (Nat → Int32) × Int32 × (Nat → Int32) × (Nat → Int32) × (Nat → Int64)) : Prop :=
  p5_isKept (xk X) = m.2.2.1 ∧ (¬ m.2.2.1 = 0 → (∃ N, PMo N (xkn X) m.1 0) ∧ PU (xkp X) (fun i => m.1 (27 + i)) m.2.1) ∧ (∃ T : Nat, T ≤ 60 ∧ p4_size (xtp X) = nI T ∧ m.2.2.2.2.1 = nI T ∧ ∀ i, i < T → p4_letters (xtp X) i = m.2.2.2.1 i ∧ ltr (m.2.2.2.1 i)) ∧ ∀ s, s < 4 → ∀ i, i < 24 → p3_items (xsh X s) i = m.2.2.2.2.2.2.2 (24 * s + i)
noncomputable def RB (X : SX) (M : St6) : Prop := RBt X (MR M)
/-- the full relation -/
noncomputable def R2 (X : SX) (M : St6) : Prop := (∃ N, PMo N (xnw X) (p6_now M) 0) ∧ PU (xps X) (p6_undone M) (p6_undos M) ∧ RB X M
/-- only now, change and what is known of the past have changed -/
noncomputable def MP (σ r : St6) : Prop := ∃ (n c u : Nat → Int32) (k : Int32), r = s6_undos (s6_undone (s6_change (s6_now σ n) c) u) k
theorem MP.refl (σ : St6) : MP σ σ := ⟨p6_now σ, p6_change σ, p6_undone σ, p6_undos σ, rfl⟩
theorem MP.trans {a b c : St6} (h1 : MP a b) (h2 : MP b c) : MP a c := by
  obtain ⟨n, d, u, k, rfl⟩ := h1
  obtain ⟨n', d', u', k', rfl⟩ := h2
  exact ⟨n', d', u', k', rfl⟩
theorem MP.sn {a b : St6} (h : SN a b) : MP a b := by
  obtain ⟨c, f, rfl⟩ := h
  exact ⟨f, c, p6_undone a, p6_undos a, rfl⟩
theorem MP.nw (a : St6) (f : Nat → Int32) : MP a (s6_now a f) := ⟨f, p6_change a, p6_undone a, p6_undos a, rfl⟩
theorem MP.mr {a b : St6} (h : MP a b) : MR b = MR a := by
  obtain ⟨n, c, u, k, rfl⟩ := h
  rfl
theorem SN.pu {q : St1} {a b : St6} (h : SN a b) (hp : PU q (p6_undone a) (p6_undos a)) : PU q (p6_undone b) (p6_undos b) := by
  obtain ⟨c, f, rfl⟩ := h
  exact hp
theorem va_us {f : Nat → St2} {k : Nat} {x : St2} : va_up f k x k = x := by unfold va_up; rw [if_pos rfl]
theorem va_un {f : Nat → St2} {k j : Nat} {x : St2} (h : j ≠ k) : va_up f k x j = f j := by unfold va_up; rw [if_neg h]
theorem keepR {q : St1} {p : St2} {N : Nat} {σ : St6} (hu : PU q (p6_undone σ) (p6_undos σ)) (h : PMo N p (p6_now σ) 0) : ∃ q', f_X1_keep q p = some q' ∧ ok (fun r => MP σ r ∧ p6_now r = p6_now σ ∧ PU q' (p6_undone r) (p6_undos r)) (f_X6_notes σ) := by
  obtain ⟨K, e, hK, he, e1, e2, e3, hm⟩ := hu
  have hnx : (nI e + 1) - (nI e + 1) / 8 * 8 = nI ((e + 1) % 8) := by
    rw [nI_1, show (8 : Int32) = nI 8 from rfl, pk_rem (by omega) (by decide) (by decide)]
  unfold f_X1_keep
  rw [e3, if_pos (inB_nI he (by decide)), hnx, nI_clamp (by omega), e1, nI_1]
  refine ⟨_, rfl, ?_⟩
  unfold f_X6_notes
  by_cases h8 : K = 8
  · subst h8
    rw [if_pos (show p6_undos σ = (8 : Int32) from e2), if_neg (show ¬ nI (8 + 1) < (8 : Int32) by decide)]
    refine ok_b (notes12_ok σ) (fun z hz => ?_)
    obtain ⟨f, ef, hf⟩ := hz
    rw [ef]
    refine ok_b (notes48_ok _ (U := 7) (by decide) rfl) (fun z2 hz2 => ok_s ?_)
    rw [hz2]
    refine ⟨⟨p6_now σ, p6_change σ, _, _, rfl⟩, rfl, 8, (e + 1) % 8, Nat.le_refl _, Nat.mod_lt _ (by decide), rfl, rfl, rfl, fun k hk => ?_⟩
    show ∃ N, PMo N (va_up (p1_ms q) e p (((e + 1) % 8 + 8 - 8 + k) % 8)) (cpf f (p6_now σ) (27 * 7) 0 27) (27 * k)
    by_cases h7 : k = 7
    · subst h7
      rw [show ((e + 1) % 8 + 8 - 8 + 7) % 8 = e by omega, va_us]
      refine ⟨N, h.cg (fun i hi => ?_)⟩
      unfold cpf
      rw [if_pos (by omega), show 27 * 7 + i - 27 * 7 + 0 = 0 + i by omega]
    · rw [va_un (by omega), show ((e + 1) % 8 + 8 - 8 + k) % 8 = (e + 8 - 8 + (k + 1)) % 8 by omega]
      obtain ⟨N', hN'⟩ := hm (k + 1) (by omega)
      refine ⟨N', hN'.cg (fun i hi => ?_)⟩
      unfold cpf
      rw [if_neg (by omega), hf, if_pos (by omega), show 27 * (k + 1) + i = 27 * k + i + 27 by omega]
  · rw [if_neg (show ¬ p6_undos σ = (8 : Int32) from fun c => h8 ((nI_eq (a := K) (b := 8) (by omega) (by decide)).mp (e2.symm.trans c)))]
    refine ok_b (notes48_ok σ (U := K) (by omega) e2) (fun z2 hz2 => ok_s ?_)
    rw [hz2]
    refine ⟨⟨p6_now σ, p6_change σ, _, _, rfl⟩, rfl, K + 1, (e + 1) % 8, by omega, Nat.mod_lt _ (by decide), ?_, ?_, rfl, fun k hk => ?_⟩
    · show (if nI (K + 1) < 8 then nI (K + 1) else 8) = nI (K + 1)
      by_cases h7 : K + 1 < 8
      · rw [if_pos (show nI (K + 1) < (8 : Int32) from nI_lt (b := 8) h7 (by decide))]
      · rw [if_neg (show ¬ nI (K + 1) < (8 : Int32) from nI_nlt (b := 8) (by omega) (by omega)), show K + 1 = 8 by omega]; rfl
    · show p6_undos σ + 1 = nI (K + 1)
      rw [e2, nI_1]
    · show ∃ N, PMo N (va_up (p1_ms q) e p (((e + 1) % 8 + 8 - (K + 1) + k) % 8)) (cpf (p6_undone σ) (p6_now σ) (27 * K) 0 27) (27 * k)
      by_cases h7 : k = K
      · subst h7
        rw [show ((e + 1) % 8 + 8 - (k + 1) + k) % 8 = e by omega, va_us]
        refine ⟨N, h.cg (fun i hi => ?_)⟩
        unfold cpf
        rw [if_pos (by omega), show 27 * k + i - 27 * k + 0 = 0 + i by omega]
      · rw [va_un (by omega), show ((e + 1) % 8 + 8 - (K + 1) + k) % 8 = (e + 8 - K + k) % 8 by omega]
        obtain ⟨N', hN'⟩ := hm k (by omega)
        refine ⟨N', hN'.cg (fun i hi => ?_)⟩
        unfold cpf
        rw [if_neg (by omega)]
/-- alike, where now and past change -/
noncomputable def AP (M : St6) (fx : Option (Int32 × St2 × St1)) (fm : Option (Int32 × St6)) : Prop := ∃ r nw ps M', fx = some (r, nw, ps) ∧ fm = some (r, M') ∧ MP M M' ∧ (∃ N, PMo N nw (p6_now M') 0) ∧ PU ps (p6_undone M') (p6_undos M')
theorem ap_ok {M : St6} {fx : Option (Int32 × St2 × St1)} {fm : Option (Int32 × St6)} {r : Int32} {nw : St2} {ps : St1} (h1 : fx = some (r, nw, ps)) (h2 : ok (fun q => q.1 = r ∧ MP M q.2 ∧ (∃ N, PMo N nw (p6_now q.2) 0) ∧ PU ps (p6_undone q.2) (p6_undos q.2)) fm) : AP M fx fm := by
  obtain ⟨⟨a, M'⟩, e, h3, h4⟩ := h2
  have h3' : a = r := h3
  subst h3'
  exact ⟨a, nw, ps, M', h1, e, h4⟩
section
variable {N : Nat} {p : St2} {σ : St6} {q : St1}
theorem ap_same (h : PMo N p (p6_now σ) 0) (hu : PU q (p6_undone σ) (p6_undos σ)) (r : Int32) : AP σ (some (r, p, q)) (some (r, σ)) := ⟨r, p, q, σ, rfl, rfl, MP.refl σ, ⟨N, h⟩, hu⟩
theorem q_lend (h : PMo N p (p6_now σ) 0) (hu : PU q (p6_undone σ) (p6_undos σ)) (κ : St5) (x1 x2 : Int32) : AP σ (f_X5_lend κ p q x1 x2) (f_X6_lend σ x1 x2) := by
  have hN := h.1
  unfold f_X5_lend f_X6_lend
  rcases pq h x1 with ⟨a, ha, rfl, e1, e2⟩ | ⟨e1, e2⟩
  rotate_left
  · rw [bd_eq e1, bd_eq e2, i0, i0]
    exact ap_same h hu _
  rw [bd_eq e1, bd_eq e2, i1, i1]
  rcases inqN x2 1 30 (a' := 1) (b' := 30) (by decide) rfl rfl with ⟨t, ht1, ht, rfl, e3⟩ | ⟨hx, e3⟩
  rotate_left
  · rw [bd_eq e3, i0]
    exact ap_ok (r := -1) (gd1 hx) (ok_s ⟨rfl, MP.refl σ, ⟨N, h⟩, hu⟩)
  have hi6 := inB_nI (show a < 6 by omega) (show 6 < 2 ^ 31 by decide)
  have hcl : (nI a).toNatClampNeg = a := nI_clamp (by omega)
  rw [bd_eq e3, i1, if_neg (show ¬ nI t < (1 : Int32) from nI_nlt (b := 1) ht1 (by omega)), if_pos (show nI t ≤ (30 : Int32) from nI_le (b := 30) ht (by decide)), if_pos hi6, hcl, bd_eq (h.turns ha)]
  obtain ⟨x, hx, ex⟩ := (h.cp.2.2 a ha).2.1
  by_cases h30 : x = 30
  · rw [if_neg (show ¬ p2_turns p a < 30 by rw [ex, h30]; decide), if_pos (show p2_turns p a = 30 by rw [ex, h30]; rfl)]
    exact ap_same h hu _
  · rw [if_pos (show p2_turns p a < (30 : Int32) by rw [ex]; exact nI_lt (b := 30) (by omega) (by decide)), if_neg (show ¬ p2_turns p a = (30 : Int32) by rw [ex]; exact fun c => h30 ((nI_eq (a := x) (b := 30) (by omega) (by decide)).mp c))]
    obtain ⟨q', eq, hn⟩ := keepR hu h
    rw [bd_eq eq, bd_eq (c_lend h.cp ha (show t < 1000 by omega)), if_pos hi6]
    refine ap_ok rfl (ok_b hn (fun r hr => ok_b (m_lent (h.nw hr.2.1) ha (show t < 1000 by omega)) (fun s hs => ?_)))
    rw [bd_eq (hs.2.turns ha)]
    obtain ⟨⟨f, rfl⟩, hs2⟩ := hs
    exact ok_s ⟨rfl, hr.1.trans (MP.nw r f), ⟨N, hs2⟩, hr.2.2⟩
theorem q_cut (h : PMo N p (p6_now σ) 0) (hu : PU q (p6_undone σ) (p6_undos σ)) (κ : St5) (x1 x2 : Int32) : AP σ (f_X5_cut κ p q x1 x2) (f_X6_cut σ x1 x2) := by
  have hN := h.1
  unfold f_X5_cut f_X6_cut
  rcases pq h x1 with ⟨a, ha, rfl, e1, e2⟩ | ⟨e1, e2⟩
  rotate_left
  · rw [bd_eq e1, bd_eq e2, i0, i0]
    exact ap_same h hu _
  rw [bd_eq e1, bd_eq e2, i1, i1]
  rcases inqN x2 1 12 (a' := 1) (b' := 12) (by decide) rfl rfl with ⟨t, ht1, ht, rfl, e3⟩ | ⟨hx, e3⟩
  rotate_left
  · rw [bd_eq e3, i0]
    exact ap_ok (r := -1) (gd1 hx) (ok_s ⟨rfl, MP.refl σ, ⟨N, h⟩, hu⟩)
  have hi6 := inB_nI (show a < 6 by omega) (show 6 < 2 ^ 31 by decide)
  have hcl : (nI a).toNatClampNeg = a := nI_clamp (by omega)
  rw [bd_eq e3, i1, if_neg (show ¬ nI t < (1 : Int32) from nI_nlt (b := 1) ht1 (by omega)), if_pos (show nI t ≤ (12 : Int32) from nI_le (b := 12) ht (by decide)), if_pos hi6, hcl, bd_eq (h.key ha)]
  by_cases hk : nI t = p2_keys p a
  · rw [if_pos hk, if_pos hk.symm]
    exact ap_same h hu _
  · rw [if_neg hk, if_neg (fun c => hk c.symm)]
    obtain ⟨q', eq, hn⟩ := keepR hu h
    rw [bd_eq eq, if_pos hi6]
    refine ap_ok rfl (ok_b hn (fun r hr => ?_))
    rw [show (3 : Int32) = nI 3 from rfl, bd_eq (tells_eq r (show a < 6 by omega) (by decide) (nI t))]
    exact ok_s ⟨rfl, hr.1.trans (MP.nw r _), ⟨N, (h.nw hr.2.1).k1 ha (rg_nI (by omega))⟩, hr.2.2⟩
theorem q_tell (h : PMo N p (p6_now σ) 0) (hu : PU q (p6_undone σ) (p6_undos σ)) (κ : St5) (x1 x2 : Int32) : AP σ (f_X5_tell κ p q x1 x2) (f_X6_tell σ x1 x2) := by
  have hN := h.1
  unfold f_X5_tell f_X6_tell
  rcases pq h x1 with ⟨a, ha, rfl, e1, e2⟩ | ⟨e1, e2⟩
  rotate_left
  · rw [bd_eq e1, bd_eq e2, i0, i0]
    exact ap_same h hu _
  have hi6 := inB_nI (show a < 6 by omega) (show 6 < 2 ^ 31 by decide)
  have hcl : (nI a).toNatClampNeg = a := nI_clamp (by omega)
  rw [bd_eq e1, bd_eq e2, i1, i1, if_pos hi6, hcl]
  have fin : ∀ v, (v = -4 ∨ rg v N) → AP σ (if v = p2_winds p a then some ((-2), p, q) else ((f_X1_keep q p).bind (fun r7 => (if inB (nI a) 6 = true then some (p2_winds p a, (s2_winds p (upd (p2_winds p) a v)), r7) else none)))) ((f_X6_whom σ (nI a)).bind (fun r5 => (if r5 = v then some ((-2), σ) else ((f_X6_notes σ).bind (fun r7 => ((f_X6_tells r7 (nI a) 2 v).bind (fun r8 => some (r5, r8)))))))) := by
    intro v hv
    rw [bd_eq (h.whom ha)]
    by_cases hk : v = p2_winds p a
    · rw [if_pos hk, if_pos hk.symm]
      exact ap_same h hu _
    · rw [if_neg hk, if_neg (fun c => hk c.symm)]
      obtain ⟨q', eq, hn⟩ := keepR hu h
      rw [bd_eq eq, if_pos hi6]
      refine ap_ok rfl (ok_b hn (fun r hr => ?_))
      rw [show (2 : Int32) = nI 2 from rfl, bd_eq (tells_eq r (show a < 6 by omega) (by decide) v)]
      exact ok_s ⟨rfl, hr.1.trans (MP.nw r _), ⟨N, (h.nw hr.2.1).w1 ha hv⟩, hr.2.2⟩
  by_cases h4 : x2 = -4
  · subst h4
    have hn4 : ¬ (-4 : Int32) = nI a := fun c => nI_m4 (show a < 2 ^ 31 by omega) c.symm
    rw [if_neg hn4, if_pos (show (-4 : Int32) = -4 from rfl), if_pos (show (-4 : Int32) = -4 from rfl), if_neg hn4]
    exact fin (-4) (Or.inl rfl)
  · by_cases hx : x2 = nI a
    · rw [if_pos hx, if_neg h4]
      rcases pq h x2 with ⟨b, hb, eb, e3, e4⟩ | ⟨e3, e4⟩
      · rw [bd_eq e4, i1, if_pos hx]
        exact ap_same h hu _
      · rw [bd_eq e4, i0]
        exact ap_same h hu _
    · rw [if_neg hx, if_neg h4, if_neg h4]
      rcases pq h x2 with ⟨b, hb, eb, e3, e4⟩ | ⟨e3, e4⟩
      · rw [bd_eq e3, bd_eq e4, i1, i1, if_neg hx]
        exact fin x2 (Or.inr ⟨b, hb, eb⟩)
      · rw [bd_eq e3, bd_eq e4, i0, if_pos rfl]
        exact ap_same h hu _
theorem q_undo (h : PMo N p (p6_now σ) 0) (hu : PU q (p6_undone σ) (p6_undos σ)) (κ : St5) : AP σ (f_X5_undo κ p q) (f_X6_undo σ) := by
  have hu0 := hu
  obtain ⟨K, e, hK, he, e1, e2, e3, hm⟩ := hu
  unfold f_X5_undo f_X6_undo
  rw [e1, e2]
  by_cases h0 : K = 0
  · subst h0
    rw [if_pos (show nI 0 = (0 : Int32) from rfl), if_pos (show nI 0 = (0 : Int32) from rfl)]
    exact ap_same h hu0 _
  rw [if_neg (nI_ne0 (by omega) (by omega)), if_neg (nI_ne0 (by omega) (by omega))]
  have hnx : nI e + 8 - 1 - (nI e + 8 - 1) / 8 * 8 = nI ((e + 7) % 8) := by
    have : nI e + 8 - 1 = nI (e + 7) := by
      show nI e + nI 8 - nI 1 = _
      rw [nI_add, pk_sub (by omega), show e + 8 - 1 = e + 7 by omega]
    rw [this, show (8 : Int32) = nI 8 from rfl, pk_rem (by omega) (by decide) (by decide)]
  have htb : f_X1_takeBack q p = some ((nI (K - 1), nI ((e + 7) % 8), p1_ms q), p1_ms q ((e + 7) % 8)) := by
    unfold f_X1_takeBack
    rw [e3, hnx, if_pos (inB_nI (Nat.mod_lt _ (by decide)) (by decide)), nI_clamp (by omega), e1]
    have : nI K - 1 = nI (K - 1) := pk_sub (b := 1) (by omega)
    rw [this]
    by_cases h1 : K - 1 = 0
    · rw [h1, if_neg (show ¬ (0 : Int32) < nI 0 by decide)]; rfl
    · rw [if_pos (show (0 : Int32) < nI (K - 1) from nI_lt (a := 0) (by omega) (by omega))]
  rw [bd_eq htb]
  obtain ⟨N', hN'⟩ := hm (K - 1) (by omega)
  rw [show (e + 8 - K + (K - 1)) % 8 = (e + 7) % 8 by omega] at hN'
  have ek : nI K - 1 = nI (K - 1) := pk_sub (b := 1) (by omega)
  refine ap_ok rfl (ok_b (P := fun z => z.2 = s6_now (s6_undos σ (nI (K - 1))) (cpf (p6_now σ) (p6_undone σ) 0 (27 * (K - 1)) 27)) ?_ (fun z hz => ok_s ?_))
  · rw [ek]
    refine lpG (fun n z s => lp_X6_undo_22 n z s) 27 (by decide) (fun k s => s = s6_now (s6_undos σ (nI (K - 1))) (cpf (p6_now σ) (p6_undone σ) 0 (27 * (K - 1)) k)) _ (fun n z s => rfl) (fun _ _ _ => rfl) (fun s hs => ok_s hs) (fun n k s hk hs ih => ?_) (s6_undos σ (nI (K - 1))) (by rw [cpf_0])
    have ei : 27 * p6_undos s + nI k = nI (27 * (K - 1) + k) := by
      rw [hs]
      show 27 * nI (K - 1) + nI k = _
      rw [show (27 : Int32) = nI 27 from rfl, nI_mul, nI_add]
    rw [ei]
    refine ok_g (inB_nI (by omega) (by decide)) (ok_g (inB_nI hk (by decide)) (ih _ ?_))
    rw [hs, ← cpf_s, nI_clamp (by omega), nI_clamp (by omega)]
    simp only [Nat.zero_add]
  · rw [hz]
    refine ⟨rfl, ⟨_, p6_change σ, p6_undone σ, _, rfl⟩, ⟨N', ?_⟩, K - 1, (e + 7) % 8, by omega, Nat.mod_lt _ (by decide), rfl, rfl, rfl, fun k hk => ?_⟩
    · show PMo N' (p1_ms q ((e + 7) % 8)) (cpf (p6_now σ) (p6_undone σ) 0 (27 * (K - 1)) 27) 0
      refine hN'.cg (fun i hi => ?_)
      unfold cpf
      rw [if_pos (by omega), show 0 + i - 0 + 27 * (K - 1) = 27 * (K - 1) + i by omega]
    · show ∃ N, PMo N (p1_ms q (((e + 7) % 8 + 8 - (K - 1) + k) % 8)) (p6_undone σ) (27 * k)
      rw [show ((e + 7) % 8 + 8 - (K - 1) + k) % 8 = (e + 8 - K + k) % 8 by omega]
      exact hm k (by omega)
-- hours
theorem c_spend_in (κ : St5) (x2 : Int32) (x : Int32) : (∃ K, 1 ≤ K ∧ K ≤ 48 ∧ x = nI K ∧ f_X6_in x.toInt64 1 48 = some 1) ∨ ((∀ p q, f_X5_spend κ p q x x2 = some (-1, p, q)) ∧ f_X6_in x.toInt64 1 48 = some 0) := by
  rcases inqN x 1 48 (a' := 1) (b' := 48) (by decide) rfl rfl with ⟨K, h1, h2, e, e3⟩ | ⟨hx, e3⟩
  · exact Or.inl ⟨K, h1, h2, e, e3⟩
  · refine Or.inr ⟨fun p q => ?_, e3⟩
    unfold f_X5_spend
    exact gd1 hx
theorem ap_bind {fx : Option (Int32 × St2 × St1)} {fm : Option (Int32 × St6)} (h : AP σ fx fm) : AP σ (fx.bind (fun r1 => some (r1.1, r1.2.1, r1.2.2))) fm := by
  obtain ⟨r, nw, ps, M', e1, h2⟩ := h
  exact ⟨r, nw, ps, M', by rw [e1]; rfl, h2⟩
/-- a loop of hours in step with the reference's -/
theorem spendR (κ : St5) (x2 : Int32) {K : Nat} (hK : K ≤ 48) (lpm : Nat → Int32 → St6 → Option (Int32 × St6)) (bdm : Nat → Int32 → St6 → Option (Int32 × St6))
    (hlp : ∀ n x s, lpm (n + 1) x s = if nI K ≤ x then some (x, s) else bdm n x s)
    (hbd : ∀ n x s p q, (∃ N, PMo N p (p6_now s) 0) → PU q (p6_undone s) (p6_undos s) → ∃ p' q', (f_X1_keep q p).bind (fun r5 => (if x2 = 0 then ((f_X2_passHour p).bind (fun r7 => some (r7, r5))) else ((f_X2_lendByDraw p).bind (fun r8 => ((f_X2_passHour r8).bind (fun r9 => some (r9, r5))))))) = some (p', q') ∧ ∃ s', bdm n x s = lpm n (x + 1) s' ∧ MP s s' ∧ (∃ N, PMo N p' (p6_now s') 0) ∧ PU q' (p6_undone s') (p6_undos s')) :
    ∀ m n k p q s, k + m = K → m < n → (∃ N, PMo N p (p6_now s) 0) → PU q (p6_undone s) (p6_undos s) → ∃ p' q' s', lp_X5_spend_33 κ (nI K) x2 n (nI k) p q = some (nI K, p', q') ∧ lpm n (nI k) s = some (nI K, s') ∧ MP s s' ∧ (∃ N, PMo N p' (p6_now s') 0) ∧ PU q' (p6_undone s') (p6_undos s') := by
  intro m
  induction m with
  | zero =>
    intro n k p q s hk hn hp hq
    obtain ⟨n, rfl⟩ : ∃ m, n = m + 1 := ⟨n - 1, by omega⟩
    have : k = K := by omega
    subst this
    refine ⟨p, q, s, ?_, ?_, MP.refl s, hp, hq⟩
    · rw [lp_X5_spend_33, if_pos (Int32.le_refl _)]
    · rw [hlp, if_pos (Int32.le_refl _)]
  | succ m ih =>
    intro n k p q s hk hn hp hq
    obtain ⟨n, rfl⟩ : ∃ m, n = m + 1 := ⟨n - 1, by omega⟩
    obtain ⟨p', q', ec, s', em, hmp, hp', hq'⟩ := hbd n (nI k) s p q hp hq
    obtain ⟨p2, q2, s2, ec2, em2, hmp2, hp2, hq2⟩ := ih n (k + 1) p' q' s' (by omega) (by omega) hp' hq'
    refine ⟨p2, q2, s2, ?_, ?_, hmp.trans hmp2, hp2, hq2⟩
    · rw [lp_X5_spend_33, if_neg (nI_ge (by omega) (by omega))]
      rw [← nI_1] at ec2
      cases hkq : f_X1_keep q p with
      | none => rw [hkq] at ec; cases ec
      | some r5 =>
        rw [hkq] at ec
        show (if x2 = 0 then _ else _) = _
        by_cases hx : x2 = 0
        · rw [if_pos hx]
          have ec' : (if x2 = 0 then ((f_X2_passHour p).bind (fun r7 => some (r7, r5))) else ((f_X2_lendByDraw p).bind (fun r8 => ((f_X2_passHour r8).bind (fun r9 => some (r9, r5)))))) = some (p', q') := ec
          rw [if_pos hx] at ec'
          cases hpp : f_X2_passHour p with
          | none => rw [hpp] at ec'; cases ec'
          | some r7 =>
            rw [hpp] at ec'
            have e' : (r7, r5) = (p', q') := Option.some.inj ec'
            have e1 : r7 = p' := congrArg Prod.fst e'
            have e2 : r5 = q' := congrArg Prod.snd e'
            subst e1 e2
            exact ec2
        · rw [if_neg hx]
          have ec' : (if x2 = 0 then ((f_X2_passHour p).bind (fun r7 => some (r7, r5))) else ((f_X2_lendByDraw p).bind (fun r8 => ((f_X2_passHour r8).bind (fun r9 => some (r9, r5)))))) = some (p', q') := ec
          rw [if_neg hx] at ec'
          cases hpp : f_X2_lendByDraw p with
          | none => rw [hpp] at ec'; cases ec'
          | some r8 =>
            rw [hpp] at ec'
            have ec2' : (f_X2_passHour r8).bind (fun r9 => some (r9, r5)) = some (p', q') := ec'
            show (f_X2_passHour r8).bind _ = _
            cases hp8 : f_X2_passHour r8 with
            | none => rw [hp8] at ec2'; cases ec2'
            | some r9 =>
              rw [hp8] at ec2'
              have e' : (r9, r5) = (p', q') := Option.some.inj ec2'
              have e1 : r9 = p' := congrArg Prod.fst e'
              have e2 : r5 = q' := congrArg Prod.snd e'
              subst e1 e2
              exact ec2
    · rw [hlp, if_neg (nI_ge (by omega) (by omega)), em, nI_1]
      exact em2
theorem q_hours (h : PMo N p (p6_now σ) 0) (hu : PU q (p6_undone σ) (p6_undos σ)) (κ : St5) (x1 : Int32) : AP σ (f_X5_hours κ p q x1) (f_X6_hours σ x1) := by
  unfold f_X5_hours f_X6_hours
  refine ap_bind ?_
  rcases c_spend_in κ 0 x1 with ⟨K, hK1, hK, rfl, e⟩ | ⟨ec, e⟩
  rotate_left
  · rw [ec, bd_eq e, i0]
    exact ap_same h hu _
  have hh : p6_now σ ((1 : Int32).toNatClampNeg) = p2_hour p := h.2.2.2.1.symm
  unfold f_X5_spend
  rw [bd_eq e, i1, if_neg (show ¬ nI K < (1 : Int32) from nI_nlt (b := 1) hK1 (by omega)), if_pos (show nI K ≤ (48 : Int32) from nI_le (b := 48) hK (by decide)), hh]
  by_cases hl : p2_hour p + nI K ≤ 9999
  rotate_left
  · rw [if_neg hl, if_neg hl]
    exact ap_same h hu _
  rw [if_pos hl, if_pos hl]
  obtain ⟨p', q', s', ec, em, hmp, hp', hq'⟩ := spendR κ 0 hK (fun n x s => lp_X6_hours_33 (nI K) n x s) (fun n x s => ((f_X6_notes s).bind (fun r5 => ((f_X6_goesBy r5 0).bind (fun r6 => lp_X6_hours_33 (nI K) n (x + 1) r6))))) (fun n x s => rfl) (fun n x s p q hp hq => by
    obtain ⟨N, hp⟩ := hp
    obtain ⟨q', eq, hn⟩ := keepR hq hp
    obtain ⟨r, er, h1, h2, h3⟩ := hn
    obtain ⟨s', es, h4, h5⟩ := m_goesBy (hp.nw h2) 0
    refine ⟨passP N p, q', ?_, s', ?_, h1.trans (MP.sn h4), ⟨N, h5⟩, h4.pu h3⟩
    · rw [bd_eq eq, if_pos rfl, bd_eq (c_passHour hp.cp)]
    · show ((f_X6_notes s).bind (fun r5 => ((f_X6_goesBy r5 0).bind (fun r6 => lp_X6_hours_33 (nI K) n (x + 1) r6)))) = _
      rw [bd_eq er, bd_eq es]) K FU 0 p q σ (by omega) (by unfold FU; omega) ⟨N, h⟩ hu
  obtain ⟨N', hN'⟩ := hp'
  have ec' : lp_X5_spend_33 κ (nI K) 0 FU 0 p q = some (nI K, p', q') := ec
  have em' : lp_X6_hours_33 (nI K) FU 0 σ = some (nI K, s') := em
  rw [bd_eq ec', bd_eq em', bd_eq (c_stopped hN'.2.1 hN'.1), bd_eq (m_stopped hN')]
  exact ⟨_, _, _, _, rfl, rfl, hmp, ⟨N', hN'⟩, hq'⟩
theorem q_seed (h : PMo N p (p6_now σ) 0) (κ : St5) (x1 : Int32) : ∃ r nw M', f_X5_seed κ p x1 = some (r, nw) ∧ f_X6_seed σ x1 = some (r, M') ∧ (∃ n, M' = s6_now σ n) ∧ PMo N nw (p6_now M') 0 := by
  unfold f_X5_seed f_X6_seed
  by_cases h0 : 0 ≤ x1
  · rw [if_pos h0, if_pos h0]
    have hd : p6_now σ ((2 : Int32).toNatClampNeg) = p2_draw p := h.2.2.2.2.1.symm
    rw [hd]
    exact ⟨_, _, _, rfl, rfl, ⟨_, rfl⟩, h.dset x1⟩
  · rw [if_neg h0, if_neg h0]
    exact ⟨_, _, _, rfl, rfl, ⟨p6_now σ, rfl⟩, h⟩
end
