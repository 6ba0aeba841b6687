/-! THE FULL RELATION: match leaves it, and all calls keep it -/
/-- the reference but for what match reckons with -/
noncomputable def KW (σ r : St6) : Prop := ∃ (w b : Nat → Int32), r = s6_best (s6_would σ w) b
theorem KW.refl (σ : St6) : KW σ σ := ⟨p6_would σ, p6_best σ, rfl⟩
theorem KW.w {σ s : St6} (h : KW σ s) (f : Nat → Int32) : KW σ (s6_would s f) := by
  obtain ⟨w, b, rfl⟩ := h
  exact ⟨f, b, rfl⟩
theorem KW.b {σ s : St6} (h : KW σ s) (f : Nat → Int32) : KW σ (s6_best s f) := by
  obtain ⟨w, b, rfl⟩ := h
  exact ⟨w, f, rfl⟩
theorem KW.n {σ s : St6} (h : KW σ s) : p6_now s = p6_now σ := by
  obtain ⟨w, b, rfl⟩ := h
  rfl
theorem whomT (s : St6) {k : Nat} (hk : k < 6) : ok (fun _ => True) (f_X6_whom s (nI k)) := by rw [whom_eq s hk]; exact ok_s trivial
theorem kw_changesL {σ : St6} {x : Int32} (hx : ¬ x = 0) : ∀ k n (s : St6) (a b c d : Int32), k ≤ 6 → k < n → KW σ s → ok (fun q => KW σ q.2.2.2.2.2) (lp_X6_changes_23 x n a b c d (nI k + (-1)) s) := by
  intro k
  induction k with
  | zero =>
    intro n s a b c d _ hn h
    obtain ⟨n, rfl⟩ : ∃ m, n = m + 1 := ⟨n - 1, by omega⟩
    rw [lp_X6_changes_23, if_pos (by decide)]
    exact ok_s h
  | succ k ih =>
    intro n s a b c d hk hn h
    obtain ⟨n, rfl⟩ : ∃ m, n = m + 1 := ⟨n - 1, by omega⟩
    rw [pk_m1, lp_X6_changes_23, if_neg (nI_pos (by omega))]
    have hk6 : k < 6 := by omega
    have hi : inB (nI k) 6 = true := inB_nI hk6 (by decide)
    refine ok_g hx (ok_g hi (ok_g hx (ok_g hi ?_)))
    have st : ∀ a b c d f, ok (fun q => KW σ q.2.2.2.2.2) (lp_X6_changes_23 x n a b c d (nI k + (-1)) (s6_would s f)) := fun a b c d f => ih n (s6_would s f) a b c d (by omega) (by omega) (h.w f)
    refine ok_i (fun _ => ok_g hi (ok_b (whomT _ hk6) (fun _ _ => ok_i (fun _ => st _ _ _ _ _) (fun _ => st _ _ _ _ _)))) (fun _ => ok_g hi (ok_i (fun _ => ok_g hi (ok_b (whomT _ hk6) (fun _ _ => ok_i (fun _ => st _ _ _ _ _) (fun _ => st _ _ _ _ _)))) (fun _ => ok_g hi (ok_b (whomT _ hk6) (fun _ _ => ok_i (fun _ => st _ _ _ _ _) (fun _ => st _ _ _ _ _))))))
theorem kw_changes {σ s : St6} {N : Nat} (h2 : 2 ≤ N) (hN : N ≤ 6) (e : p6_now σ 0 = nI N) (h : KW σ s) (x : Int32) : ok (fun q => KW σ q.2) (f_X6_changes s x) := by
  unfold f_X6_changes
  have e' : p6_now s ((0 : Int32).toNatClampNeg) = nI N := by rw [h.n]; exact e
  rw [e']
  have em : nI N - 1 = nI N + (-1) := Int32.sub_eq_add_neg _ _
  rw [em]
  refine ok_b (kw_changesL (nI_ne0 (by omega) (by omega)) N FU s x 0 0 1 hN (by unfold FU; omega) h) (fun q hq => ?_)
  exact ok_i (fun _ => ok_s hq) (fun _ => ok_i (fun _ => ok_s hq) (fun _ => ok_s hq))
theorem kw_match101 {σ s : St6} (h : KW σ s) (a b c d : Int32) : ok (fun q => KW σ q.2) (lp_X6_match_101 a b c d FU 0 s) :=
  lpG (fun n z s => lp_X6_match_101 a b c d n z s) 6 (by decide) (fun _ s' => KW σ s') _ (fun n z s => rfl) (fun _ _ _ => rfl) (fun s hs => ok_s hs) (fun n k s hk hs ih => ok_g (inB_nI hk (by decide)) (ok_g (inB_nI hk (by decide)) (ih _ (hs.b _)))) s h
theorem kw_match {σ : St6} {N : Nat} (hN : N ≤ 6) (e : p6_now σ 0 = nI N) (x : Int32) : ok (fun q => KW σ q.2) (f_X6_match σ x) := by
  have e' : p6_now σ ((0 : Int32).toNatClampNeg) = nI N := e
  unfold f_X6_match
  refine ok_b (ok_in _ _ _) (fun r hr => ok_i (fun _ => ok_s (KW.refl σ)) (fun h0 => ok_i (fun h2 => ?_) (fun _ => ok_s (KW.refl σ))))
  have hx := hr.resolve_left h0
  rw [e'] at h2
  have h2' : 2 ≤ N := (nI_leI (a := 2) (by decide) (by omega)).mp h2
  refine ok_b (P := fun q => q.1 = nI (N ^ N)) ?_ (fun q5 h5 => ?_)
  · refine lpG (fun n z a => lp_X6_match_39 σ x n a z) N (by omega) (fun k a => a = nI (N ^ k)) _ (fun n z s => rfl) (fun _ _ _ => e') (fun s hs => ok_s hs) (fun n k s hk hs ih => ih _ ?_) 1 rfl
    rw [hs, e', nI_mul, Nat.pow_succ]
  · rw [h5]
    refine ok_b (P := fun q => KW σ q.2.2) ?_ (fun q hq => ok_i (fun hp => ok_g ?_ (ok_s hq)) (fun _ => ok_s hq))
    · refine lpG (fun n z (s : Int32 × St6) => lp_X6_match_70 x (nI (N ^ N)) n s.1 z s.2) (N ^ N) (pow_all N hN) (fun _ s => KW σ s.2) _ (fun n z s => rfl) (fun _ s hs => rfl) (fun s hs => ok_s hs) (fun n k s hk hs ih => ?_) (99, σ) (KW.refl σ)
      refine ok_b (kw_changes h2' hN e hs _) (fun q hq => ?_)
      refine ok_i (fun _ => ih (s.1, q.2) hq) (fun _ => ok_i (fun _ => ih (s.1, q.2) hq) (fun _ => ?_))
      exact ok_b (kw_match101 hq _ _ _ _) (fun q2 hq2 => ih (q.1, q2.2) hq2)
    · have h3 := hx.2.2
      rw [w64, w64, e'] at h3
      have h4 : (nI N - 1).toInt = (N : Int) - 1 := pk_sub_toInt (a := N) (b := 1) (by omega) (by decide)
      rw [h4] at h3
      have hp' : (0 : Int) ≤ x.toInt := Int32.le_iff_toInt_le.mp hp
      exact rg_in (rg_int (n := 5) hp' (by omega) (by decide)) (by decide)
section
variable {X : SX} {M : St6}
theorem s2_match (hI : Inv1 X M) (h : R2 X M) (a : Int32) : ∃ r1 r2 X' M', FX_match X a = some (r1, X') ∧ f_X6_match M a = some (r2, M') ∧ R2 X' M' := by
  obtain ⟨T, ln, sz, hT, c, hM⟩ := hI
  obtain ⟨⟨N, hp⟩, hu, hb⟩ := h
  obtain ⟨r, er, -⟩ := okx_match (xk X) (mt := xmt X) c.1 a
  obtain ⟨q, eq, w, b, hq⟩ := kw_match hp.1 hp.2.2.1 a
  refine ⟨r.1, q.1, sxmt X r.2, q.2, ?_, eq, ?_⟩
  · unfold FX_match
    rw [bd_eq er]
  · rw [hq]
    exact ⟨⟨N, hp⟩, hu, hb⟩
noncomputable def Inv2 (X : SX) (M : St6) : Prop := Inv1 X M ∧ R2 X M
theorem st_eq {FX : Option (Int32 × SX)} {fM : Option (Int32 × St6)} (h1 : ∃ (r1 r2 : Int32) (X' : SX) (M' : St6), FX = some (r1, X') ∧ fM = some (r2, M') ∧ Inv1 X' M') (h2 : S2 FX fM) : ∃ (r : Int32) (X' : SX) (M' : St6), FX = some (r, X') ∧ fM = some (r, M') ∧ Inv2 X' M' := by
  obtain ⟨r1, r2, X1, M1, e1, e2, hi⟩ := h1
  obtain ⟨r, X', M', f1, f2, hr⟩ := h2
  have a1 : (r1, X1) = (r, X') := Option.some.inj (e1.symm.trans f1)
  have a2 : (r2, M1) = (r, M') := Option.some.inj (e2.symm.trans f2)
  have b1 : X1 = X' := congrArg Prod.snd a1
  have b2 : M1 = M' := congrArg Prod.snd a2
  rw [b1, b2] at hi
  exact ⟨r, X', M', f1, f2, hi, hr⟩
theorem st_eqm {FX : Option (Int32 × SX)} {fM : Option (Int32 × St6)} (h1 : ∃ (r1 r2 : Int32) (X' : SX) (M' : St6), FX = some (r1, X') ∧ fM = some (r2, M') ∧ Inv1 X' M') (h2 : ∃ r1 r2 X' M', FX = some (r1, X') ∧ fM = some (r2, M') ∧ R2 X' M') : ∃ (r1 r2 : Int32) (X' : SX) (M' : St6), FX = some (r1, X') ∧ fM = some (r2, M') ∧ Inv2 X' M' := by
  obtain ⟨r1, r2, X1, M1, e1, e2, hi⟩ := h1
  obtain ⟨s1, s2, X', M', f1, f2, hr⟩ := h2
  have a1 : (r1, X1) = (s1, X') := Option.some.inj (e1.symm.trans f1)
  have a2 : (r2, M1) = (s2, M') := Option.some.inj (e2.symm.trans f2)
  have b1 : X1 = X' := congrArg Prod.snd a1
  have b2 : M1 = M' := congrArg Prod.snd a2
  rw [b1, b2] at hi
  exact ⟨s1, s2, X', M', f1, f2, hi, hr⟩
theorem st_eqq {FX : Option (Int32 × SX)} {fM : Option Int32} (h1 : ∃ (r1 r2 : Int32) (X' : SX), FX = some (r1, X') ∧ fM = some r2 ∧ Inv1 X' M) (h2 : S2q M FX fM) : ∃ (r : Int32) (X' : SX), FX = some (r, X') ∧ fM = some r ∧ Inv2 X' M := by
  obtain ⟨r1, r2, X1, e1, e2, hi⟩ := h1
  obtain ⟨r, X', f1, f2, hr⟩ := h2
  have a1 : (r1, X1) = (r, X') := Option.some.inj (e1.symm.trans f1)
  have b1 : X1 = X' := congrArg Prod.snd a1
  rw [b1] at hi
  exact ⟨r, X', f1, f2, hi, hr⟩
theorem st_one {FX : Option (Int32 × SX)} {fM : Option (Int32 × St6)} (h : ∃ (r : Int32) (X' : SX) (M' : St6), FX = some (r, X') ∧ fM = some (r, M') ∧ Inv1 X' M') : ∃ (r1 r2 : Int32) (X' : SX) (M' : St6), FX = some (r1, X') ∧ fM = some (r2, M') ∧ Inv1 X' M' := by
  obtain ⟨r, X', M', e1, e2, h⟩ := h
  exact ⟨r, r, X', M', e1, e2, h⟩
theorem t2_person (h : Inv2 X M) (a : Int32) (b : Int32) : ∃ (r : Int32) (X' : SX) (M' : St6), FX_person X a b = some (r, X') ∧ f_X6_person M a b = some (r, M') ∧ Inv2 X' M' := by
  obtain ⟨N, hp⟩ := h.2.1
  refine st_eq (s1_person h.1 a b) ?_
  unfold FX_person
  exact s2_ap h.2 (q_person hp h.2.2.1 (xk X) a b)
theorem t2_of (h : Inv2 X M) (a : Int32) (b : Int32) : ∃ (r : Int32) (X' : SX), FX_of X a b = some (r, X') ∧ f_X6_of M a b = some r ∧ Inv2 X' M := by
  obtain ⟨N, hp⟩ := h.2.1
  refine st_eqq (s1_of h.1 a b) ?_
  unfold FX_of
  exact s2_av h.2 (q_of hp (xk X) a b)
theorem t2_type (h : Inv2 X M) (a : Int32) : ∃ (r : Int32) (X' : SX) (M' : St6), FX_type X a = some (r, X') ∧ f_X6_type M a = some (r, M') ∧ Inv2 X' M' := st_eq (st_one (s1_type h.1 a)) (s2_type h.2 a)
theorem t2_close (h : Inv2 X M) : ∃ (r : Int32) (X' : SX) (M' : St6), FX_close X = some (r, X') ∧ f_X6_close M = some (r, M') ∧ Inv2 X' M' := st_eq (s1_close h.1) (s2_close h.2)
theorem t2_count (h : Inv2 X M) (a : Int32) : ∃ (r : Int32) (X' : SX), FX_count X a = some (r, X') ∧ f_X6_count M a = some r ∧ Inv2 X' M := by
  obtain ⟨N, hp⟩ := h.2.1
  obtain ⟨K, e, _, _, u1, u2, _, _⟩ := h.2.2.1
  refine st_eqq (s1_count h.1 a) ?_
  unfold FX_count
  exact s2_av h.2 (q_count hp (xk X) (xps X) (u1.trans u2.symm) a)
theorem t2_hours (h : Inv2 X M) (a : Int32) : ∃ (r : Int32) (X' : SX) (M' : St6), FX_hours X a = some (r, X') ∧ f_X6_hours M a = some (r, M') ∧ Inv2 X' M' := by
  obtain ⟨N, hp⟩ := h.2.1
  refine st_eq (s1_hours h.1 a) ?_
  unfold FX_hours
  exact s2_ap h.2 (q_hours hp h.2.2.1 (xk X) a)
theorem t2_lend (h : Inv2 X M) (a : Int32) (b : Int32) : ∃ (r : Int32) (X' : SX) (M' : St6), FX_lend X a b = some (r, X') ∧ f_X6_lend M a b = some (r, M') ∧ Inv2 X' M' := by
  obtain ⟨N, hp⟩ := h.2.1
  refine st_eq (s1_lend h.1 a b) ?_
  unfold FX_lend
  exact s2_ap h.2 (q_lend hp h.2.2.1 (xk X) a b)
theorem t2_tell (h : Inv2 X M) (a : Int32) (b : Int32) : ∃ (r : Int32) (X' : SX) (M' : St6), FX_tell X a b = some (r, X') ∧ f_X6_tell M a b = some (r, M') ∧ Inv2 X' M' := by
  obtain ⟨N, hp⟩ := h.2.1
  refine st_eq (s1_tell h.1 a b) ?_
  unfold FX_tell
  exact s2_ap h.2 (q_tell hp h.2.2.1 (xk X) a b)
theorem t2_cut (h : Inv2 X M) (a : Int32) (b : Int32) : ∃ (r : Int32) (X' : SX) (M' : St6), FX_cut X a b = some (r, X') ∧ f_X6_cut M a b = some (r, M') ∧ Inv2 X' M' := by
  obtain ⟨N, hp⟩ := h.2.1
  refine st_eq (s1_cut h.1 a b) ?_
  unfold FX_cut
  exact s2_ap h.2 (q_cut hp h.2.2.1 (xk X) a b)
theorem t2_drift (h : Inv2 X M) (a : Int32) : ∃ (r : Int32) (X' : SX) (M' : St6), FX_drift X a = some (r, X') ∧ f_X6_drift M a = some (r, M') ∧ Inv2 X' M' := by
  obtain ⟨N, hp⟩ := h.2.1
  refine st_eq (s1_drift h.1 a) ?_
  unfold FX_drift
  exact s2_ap h.2 (q_drift hp h.2.2.1 (xk X) a)
theorem t2_undo (h : Inv2 X M) : ∃ (r : Int32) (X' : SX) (M' : St6), FX_undo X = some (r, X') ∧ f_X6_undo M = some (r, M') ∧ Inv2 X' M' := by
  obtain ⟨N, hp⟩ := h.2.1
  refine st_eq (s1_undo h.1) ?_
  unfold FX_undo
  exact s2_ap h.2 (q_undo hp h.2.2.1 (xk X))
theorem t2_seed (h : Inv2 X M) (a : Int32) : ∃ (r : Int32) (X' : SX) (M' : St6), FX_seed X a = some (r, X') ∧ f_X6_seed M a = some (r, M') ∧ Inv2 X' M' := st_eq (s1_seed h.1 a) (s2_seed h.2 a)
theorem t2_ahead (h : Inv2 X M) (a : Int32) (b : Int32) : ∃ (r : Int32) (X' : SX) (M' : St6), FX_ahead X a b = some (r, X') ∧ f_X6_ahead M a b = some (r, M') ∧ Inv2 X' M' := by
  obtain ⟨N, hp⟩ := h.2.1
  refine st_eq (s1_ahead h.1 a b) ?_
  unfold FX_ahead
  exact s2_al h.2 (q_ahead hp (xk X) (xtr X) a b)
theorem t2_then (h : Inv2 X M) (a : Int32) : ∃ (r : Int32) (X' : SX) (M' : St6), FX_then X a = some (r, X') ∧ f_X6_then M a = some (r, M') ∧ Inv2 X' M' := by
  obtain ⟨N, hp⟩ := h.2.1
  refine st_eq (s1_then h.1 a) ?_
  unfold FX_then
  exact s2_al h.2 (q_then hp (xk X) (xtr X) a)
theorem t2_stops (h : Inv2 X M) (a : Int32) : ∃ (r : Int32) (X' : SX) (M' : St6), FX_stops X a = some (r, X') ∧ f_X6_stops M a = some (r, M') ∧ Inv2 X' M' := by
  obtain ⟨N, hp⟩ := h.2.1
  refine st_eq (s1_stops h.1 a) ?_
  unfold FX_stops
  exact s2_al h.2 (q_stops hp (xk X) (xtr X) a)
theorem t2_all (h : Inv2 X M) : ∃ (r : Int32) (X' : SX) (M' : St6), FX_all X = some (r, X') ∧ f_X6_all M = some (r, M') ∧ Inv2 X' M' := by
  obtain ⟨N, hp⟩ := h.2.1
  refine st_eq (s1_all h.1) ?_
  unfold FX_all
  exact s2_al h.2 (q_all hp (xk X) (xtr X))
theorem t2_ever (h : Inv2 X M) : ∃ (r : Int32) (X' : SX) (M' : St6), FX_ever X = some (r, X') ∧ f_X6_ever M = some (r, M') ∧ Inv2 X' M' := by
  obtain ⟨N, hp⟩ := h.2.1
  refine st_eq (s1_ever h.1) ?_
  unfold FX_ever
  exact s2_al h.2 (q_ever hp (xk X) (xtr X))
theorem t2_chain (h : Inv2 X M) (a : Int32) (b : Int32) : ∃ (r : Int32) (X' : SX), FX_chain X a b = some (r, X') ∧ f_X6_chain M a b = some r ∧ Inv2 X' M := by
  obtain ⟨N, hp⟩ := h.2.1
  refine st_eqq (s1_chain h.1 a b) ?_
  unfold FX_chain
  exact s2_av h.2 (q_chain hp (xk X) a b)
theorem t2_lends (h : Inv2 X M) (a : Int32) (b : Int32) (d : Int32) : ∃ (r : Int32) (X' : SX) (M' : St6), FX_lends X a b d = some (r, X') ∧ f_X6_lends M a b d = some (r, M') ∧ Inv2 X' M' := by
  obtain ⟨N, hp⟩ := h.2.1
  refine st_eq (s1_lends h.1 a b d) ?_
  unfold FX_lends
  exact s2_al h.2 (q_lends hp (xk X) (xtr X) a b d)
theorem t2_instead (h : Inv2 X M) (a : Int32) (b : Int32) (d : Int32) : ∃ (r : Int32) (X' : SX) (M' : St6), FX_instead X a b d = some (r, X') ∧ f_X6_instead M a b d = some (r, M') ∧ Inv2 X' M' := by
  obtain ⟨N, hp⟩ := h.2.1
  refine st_eq (s1_instead h.1 a b d) ?_
  unfold FX_instead
  exact s2_al h.2 (q_instead hp (xk X) (xtr X) a b d)
theorem t2_needs (h : Inv2 X M) (a : Int32) (b : Int32) : ∃ (r : Int32) (X' : SX) (M' : St6), FX_needs X a b = some (r, X') ∧ f_X6_needs M a b = some (r, M') ∧ Inv2 X' M' := by
  obtain ⟨N, hp⟩ := h.2.1
  refine st_eq (s1_needs h.1 a b) ?_
  unfold FX_needs
  exact s2_al h.2 (q_needs hp (xk X) (xtr X) a b)
theorem t2_match (h : Inv2 X M) (a : Int32) : ∃ (r1 r2 : Int32) (X' : SX) (M' : St6), FX_match X a = some (r1, X') ∧ f_X6_match M a = some (r2, M') ∧ Inv2 X' M' := st_eqm (s1_match h.1 a) (s2_match h.1 h.2 a)
theorem t2_again (h : Inv2 X M) : ∃ (r : Int32) (X' : SX) (M' : St6), FX_again X = some (r, X') ∧ f_X6_again M = some (r, M') ∧ Inv2 X' M' := by
  obtain ⟨N, hp⟩ := h.2.1
  refine st_eq (s1_again h.1) ?_
  unfold FX_again
  exact s2_al h.2 (q_again hp (xk X) (xtr X))
theorem t2_forget (h : Inv2 X M) (a : Int32) (b : Int32) (d : Int32) : ∃ (r : Int32) (X' : SX) (M' : St6), FX_forget X a b d = some (r, X') ∧ f_X6_forget M a b d = some (r, M') ∧ Inv2 X' M' := by
  obtain ⟨N, hp⟩ := h.2.1
  refine st_eq (s1_forget h.1 a b d) ?_
  unfold FX_forget
  exact s2_al h.2 (q_forget hp (xk X) (xtr X) a b d)
theorem t2_image (h : Inv2 X M) : ∃ (r : Int32) (X' : SX) (M' : St6), FX_image X = some (r, X') ∧ f_X6_image M = some (r, M') ∧ Inv2 X' M' := st_eq (s1_image h.1) (s2_image h.2)
theorem t2_restore (h : Inv2 X M) : ∃ (r : Int32) (X' : SX) (M' : St6), FX_restore X = some (r, X') ∧ f_X6_restore M = some (r, M') ∧ Inv2 X' M' := st_eq (s1_restore h.1) (s2_restore h.2)
theorem t2_heard (h : Inv2 X M) (a : Int32) (b : Int32) (d : Int32) (e : Int32) (f : Int32) (g : Int32) : ∃ (r : Int32) (X' : SX) (M' : St6), FX_heard X a b d e f g = some (r, X') ∧ f_X6_heard M a b d e f g = some (r, M') ∧ Inv2 X' M' := st_eq (s1_heard h.1 a b d e f g) (s2_heard h.1 h.2 a b d e f g)
theorem t2_film (h : Inv2 X M) (a : Int32) (b : Int32) (d : Int32) (e : Int32) (f : Int32) : ∃ (r : Int32) (X' : SX) (M' : St6), FX_film X a b d e f = some (r, X') ∧ f_X6_film M a b d e f = some (r, M') ∧ Inv2 X' M' := st_eq (s1_film h.1 a b d e f) (s2_film h.1 h.2 a b d e f)
theorem t2_sheet (h : Inv2 X M) (a : Int32) (b : Int32) (d : Int32) : ∃ (r : Int32) (X' : SX) (M' : St6), FX_sheet X a b d = some (r, X') ∧ f_X6_sheet M a b d = some (r, M') ∧ Inv2 X' M' := st_eq (st_one (s1_sheet h.1 a b d)) (s2_sheet h.2 a b d)
theorem t2_drop (h : Inv2 X M) (a : Int32) : ∃ (r : Int32) (X' : SX) (M' : St6), FX_drop X a = some (r, X') ∧ f_X6_drop M a = some (r, M') ∧ Inv2 X' M' := st_eq (st_one (s1_drop h.1 a)) (s2_drop h.1 h.2 a)
theorem t2_item (h : Inv2 X M) (a : Int32) (b : Int32) (d : Int32) (e : Int64) : ∃ (r : Int32) (X' : SX) (M' : St6), FX_item X a b d e = some (r, X') ∧ f_X6_item M a b d e = some (r, M') ∧ Inv2 X' M' := st_eq (st_one (s1_item h.1 a b d e)) (s2_item h.1 h.2 a b d e)
theorem t2_copy (h : Inv2 X M) (a : Int32) (b : Int32) (d : Int32) (e : Int32) (f : Int32) : ∃ (r : Int32) (X' : SX) (M' : St6), FX_copy X a b d e f = some (r, X') ∧ f_X6_copy M a b d e f = some (r, M') ∧ Inv2 X' M' := st_eq (st_one (s1_copy h.1 a b d e f)) (s2_copy h.1 h.2 a b d e f)
end
theorem r2_0 : R2 (0, st2_0, st1_0, st2_0, st1_0, st2_0, st4_0, st0_0, fun _ => st3_0) st6_0 := by
  refine ⟨⟨0, by decide, rfl, rfl, rfl, rfl, fun i hi => by omega⟩, ⟨0, 0, by decide, by decide, rfl, rfl, rfl, fun k hk => by omega⟩, rfl, fun h => absurd rfl h, ⟨0, by decide, rfl, rfl, fun i hi => by omega⟩, fun s hs i hi => rfl⟩
theorem inv1_0 : Inv1 (0, st2_0, st1_0, st2_0, st1_0, st2_0, st4_0, st0_0, fun _ => st3_0) st6_0 := by
  have g2 : G2 st2_0 := ⟨0, by decide, rfl⟩
  have g1 : G1 st1_0 := ⟨⟨0, by decide, rfl⟩, fun i _ => g2⟩
  have w0 : wk (0 : Int32) := Or.inr ⟨0, by decide, rfl⟩
  refine ⟨0, p6_lanes st6_0, p6_sizes st6_0, by decide, ⟨g2, g1, g2, g1, g2, rfl, fun i hi => Or.inl ⟨rfl, ?_⟩⟩, ?_⟩
  · rcases (show i = 0 ∨ i = 1 ∨ i = 2 ∨ i = 3 by omega) with rfl | rfl | rfl | rfl <;> decide
  · refine ⟨⟨⟨0, by decide, rfl⟩, fun p hp => ?_⟩, ⟨0, by decide, rfl⟩, fun k _ => ⟨⟨0, by decide, rfl⟩, fun p _ => w0⟩, ⟨⟨0, by decide, rfl⟩, fun p _ => w0⟩, fun k _ => ⟨⟨0, by decide, rfl⟩, fun p _ => w0⟩, ⟨0, by decide, rfl⟩, fun p _ => w0, rfl, rfl, rfl⟩
    show wk (upd (fun _ => 0) 2 1 (0 + 5 + 4 * p))
    rw [pk_un (by omega)]; exact w0
theorem inv2_0 : Inv2 (0, st2_0, st1_0, st2_0, st1_0, st2_0, st4_0, st0_0, fun _ => st3_0) st6_0 := ⟨inv1_0, r2_0⟩
