/-! CLASS AND REFERENCE SIDE BY SIDE: a first relation -/
noncomputable def CG (T : Nat) (ln sz : Nat → Int32) (X : SX) : Prop := G2 (xnw X) ∧ G1 (xps X) ∧ G2 (xkn X) ∧ G1 (xkp X) ∧ G2 (xtr X) ∧ p4_size (xtp X) = nI T ∧ ∀ i, i < 4 → R3 (xsh X i) (ln i) (sz i)
noncomputable def Inv1 (X : SX) (M : St6) : Prop := ∃ (T : Nat) (ln sz : Nat → Int32), T ≤ 60 ∧ CG T ln sz X ∧ IM (nI T) ln sz M
theorem i1_mk {FX : Option (Int32 × SX)} {fM : Option (Int32 × St6)} {T : Nat} {ln sz : Nat → Int32} (hT : T ≤ 60) (h1 : ok (fun q => CG T ln sz q.2) FX) (h2 : ok (fun q => IM (nI T) ln sz q.2) fM) : ∃ (r1 r2 : Int32) (X' : SX) (M' : St6), FX = some (r1, X') ∧ fM = some (r2, M') ∧ Inv1 X' M' := by
  obtain ⟨⟨r1, X'⟩, e1, c1⟩ := h1
  obtain ⟨⟨r2, M'⟩, e2, c2⟩ := h2
  exact ⟨r1, r2, X', M', e1, e2, T, ln, sz, hT, c1, c2⟩
theorem i1_mkq {FX : Option (Int32 × SX)} {fM : Option Int32} {M : St6} {T : Nat} {ln sz : Nat → Int32} (hT : T ≤ 60) (h1 : ok (fun q => CG T ln sz q.2) FX) (h2 : ok (fun _ => True) fM) (hM : IM (nI T) ln sz M) : ∃ (r1 r2 : Int32) (X' : SX), FX = some (r1, X') ∧ fM = some r2 ∧ Inv1 X' M := by
  obtain ⟨⟨r1, X'⟩, e1, c1⟩ := h1
  obtain ⟨r2, e2, -⟩ := h2
  exact ⟨r1, r2, X', e1, e2, T, ln, sz, hT, c1, hM⟩
theorem sj_l4 (x : Int32) : sj x < 4 := by
  unfold sj
  by_cases h : inB x 4 = true
  · rw [if_pos h]; exact Nat.lt_of_not_le (fun q => inB_in h (Or.inr q))
  · rw [if_neg h]; decide
theorem cg_up {T : Nat} {ln sz : Nat → Int32} {X : SX} (c : CG T ln sz X) {k : Nat} {s : St3} (hq : SQ s (xsh X k)) : ∀ i, i < 4 → R3 (va_up (xsh X) k s i) (ln i) (sz i) := by
  intro i hi
  unfold va_up
  by_cases e : i = k
  · rw [if_pos e]
    subst e
    exact (c.2.2.2.2.2.2 i hi).sq hq
  · rw [if_neg e]; exact c.2.2.2.2.2.2 i hi

theorem s1_person {X : SX} {M : St6} (h : Inv1 X M) (a : Int32) (b : Int32) : ∃ (r1 r2 : Int32) (X' : SX) (M' : St6), FX_person X a b = some (r1, X') ∧ f_X6_person M a b = some (r2, M') ∧ Inv1 X' M' := by
  obtain ⟨T, ln, sz, hT, c, hM⟩ := h
  refine i1_mk hT ?_ (okm_person hM a b)
  unfold FX_person
  exact ok_b (okx_person _ c.1 c.2.1 a b) (fun r hr => ok_s ⟨hr.1, hr.2, c.2.2⟩)
theorem s1_of {X : SX} {M : St6} (h : Inv1 X M) (a : Int32) (b : Int32) : ∃ (r1 r2 : Int32) (X' : SX), FX_of X a b = some (r1, X') ∧ f_X6_of M a b = some r2 ∧ Inv1 X' M := by
  obtain ⟨T, ln, sz, hT, c, hM⟩ := h
  refine i1_mkq hT ?_ (okm_of hM a b) hM
  unfold FX_of
  exact ok_b (okx_of _ c.1 a b) (fun r hr => ok_s c)
theorem s1_count {X : SX} {M : St6} (h : Inv1 X M) (a : Int32) : ∃ (r1 r2 : Int32) (X' : SX), FX_count X a = some (r1, X') ∧ f_X6_count M a = some r2 ∧ Inv1 X' M := by
  obtain ⟨T, ln, sz, hT, c, hM⟩ := h
  refine i1_mkq hT ?_ (okm_count hM a) hM
  unfold FX_count
  exact ok_b (okx_count _ c.1 a) (fun r hr => ok_s c)
theorem s1_hours {X : SX} {M : St6} (h : Inv1 X M) (a : Int32) : ∃ (r1 r2 : Int32) (X' : SX) (M' : St6), FX_hours X a = some (r1, X') ∧ f_X6_hours M a = some (r2, M') ∧ Inv1 X' M' := by
  obtain ⟨T, ln, sz, hT, c, hM⟩ := h
  refine i1_mk hT ?_ (okm_hours hM a)
  unfold FX_hours
  exact ok_b (okx_hours _ c.1 c.2.1 a) (fun r hr => ok_s ⟨hr.1, hr.2, c.2.2⟩)
theorem s1_lend {X : SX} {M : St6} (h : Inv1 X M) (a : Int32) (b : Int32) : ∃ (r1 r2 : Int32) (X' : SX) (M' : St6), FX_lend X a b = some (r1, X') ∧ f_X6_lend M a b = some (r2, M') ∧ Inv1 X' M' := by
  obtain ⟨T, ln, sz, hT, c, hM⟩ := h
  refine i1_mk hT ?_ (okm_lend hM a b)
  unfold FX_lend
  exact ok_b (okx_lend _ c.1 c.2.1 a b) (fun r hr => ok_s ⟨hr.1, hr.2, c.2.2⟩)
theorem s1_tell {X : SX} {M : St6} (h : Inv1 X M) (a : Int32) (b : Int32) : ∃ (r1 r2 : Int32) (X' : SX) (M' : St6), FX_tell X a b = some (r1, X') ∧ f_X6_tell M a b = some (r2, M') ∧ Inv1 X' M' := by
  obtain ⟨T, ln, sz, hT, c, hM⟩ := h
  refine i1_mk hT ?_ (okm_tell hM a b)
  unfold FX_tell
  exact ok_b (okx_tell _ c.1 c.2.1 a b) (fun r hr => ok_s ⟨hr.1, hr.2, c.2.2⟩)
theorem s1_cut {X : SX} {M : St6} (h : Inv1 X M) (a : Int32) (b : Int32) : ∃ (r1 r2 : Int32) (X' : SX) (M' : St6), FX_cut X a b = some (r1, X') ∧ f_X6_cut M a b = some (r2, M') ∧ Inv1 X' M' := by
  obtain ⟨T, ln, sz, hT, c, hM⟩ := h
  refine i1_mk hT ?_ (okm_cut hM a b)
  unfold FX_cut
  exact ok_b (okx_cut _ c.1 c.2.1 a b) (fun r hr => ok_s ⟨hr.1, hr.2, c.2.2⟩)
theorem s1_drift {X : SX} {M : St6} (h : Inv1 X M) (a : Int32) : ∃ (r1 r2 : Int32) (X' : SX) (M' : St6), FX_drift X a = some (r1, X') ∧ f_X6_drift M a = some (r2, M') ∧ Inv1 X' M' := by
  obtain ⟨T, ln, sz, hT, c, hM⟩ := h
  refine i1_mk hT ?_ (okm_drift hM a)
  unfold FX_drift
  exact ok_b (okx_drift _ c.1 c.2.1 a) (fun r hr => ok_s ⟨hr.1, hr.2, c.2.2⟩)
theorem s1_undo {X : SX} {M : St6} (h : Inv1 X M) : ∃ (r1 r2 : Int32) (X' : SX) (M' : St6), FX_undo X  = some (r1, X') ∧ f_X6_undo M  = some (r2, M') ∧ Inv1 X' M' := by
  obtain ⟨T, ln, sz, hT, c, hM⟩ := h
  refine i1_mk hT ?_ (okm_undo hM)
  unfold FX_undo
  exact ok_b (okx_undo _ c.1 c.2.1) (fun r hr => ok_s ⟨hr.1, hr.2, c.2.2⟩)
theorem s1_seed {X : SX} {M : St6} (h : Inv1 X M) (a : Int32) : ∃ (r1 r2 : Int32) (X' : SX) (M' : St6), FX_seed X a = some (r1, X') ∧ f_X6_seed M a = some (r2, M') ∧ Inv1 X' M' := by
  obtain ⟨T, ln, sz, hT, c, hM⟩ := h
  refine i1_mk hT ?_ (okm_seed hM a)
  unfold FX_seed
  exact ok_b (okx_seed _ c.1 a) (fun r hr => ok_s ⟨hr, c.2⟩)
theorem s1_ahead {X : SX} {M : St6} (h : Inv1 X M) (a : Int32) (b : Int32) : ∃ (r1 r2 : Int32) (X' : SX) (M' : St6), FX_ahead X a b = some (r1, X') ∧ f_X6_ahead M a b = some (r2, M') ∧ Inv1 X' M' := by
  obtain ⟨T, ln, sz, hT, c, hM⟩ := h
  refine i1_mk hT ?_ (okm_ahead hM a b)
  unfold FX_ahead
  exact ok_b (okx_ahead _ c.1 c.2.2.2.2.1 a b) (fun r hr => ok_s ⟨c.1, c.2.1, c.2.2.1, c.2.2.2.1, hr, c.2.2.2.2.2⟩)
theorem s1_then {X : SX} {M : St6} (h : Inv1 X M) (a : Int32) : ∃ (r1 r2 : Int32) (X' : SX) (M' : St6), FX_then X a = some (r1, X') ∧ f_X6_then M a = some (r2, M') ∧ Inv1 X' M' := by
  obtain ⟨T, ln, sz, hT, c, hM⟩ := h
  refine i1_mk hT ?_ (okm_then hM a)
  unfold FX_then
  exact ok_b (okx_then _ c.1 c.2.2.2.2.1 a) (fun r hr => ok_s ⟨c.1, c.2.1, c.2.2.1, c.2.2.2.1, hr, c.2.2.2.2.2⟩)
theorem s1_stops {X : SX} {M : St6} (h : Inv1 X M) (a : Int32) : ∃ (r1 r2 : Int32) (X' : SX) (M' : St6), FX_stops X a = some (r1, X') ∧ f_X6_stops M a = some (r2, M') ∧ Inv1 X' M' := by
  obtain ⟨T, ln, sz, hT, c, hM⟩ := h
  refine i1_mk hT ?_ (okm_stops hM a)
  unfold FX_stops
  exact ok_b (okx_stops _ c.1 c.2.2.2.2.1 a) (fun r hr => ok_s ⟨c.1, c.2.1, c.2.2.1, c.2.2.2.1, hr, c.2.2.2.2.2⟩)
theorem s1_all {X : SX} {M : St6} (h : Inv1 X M) : ∃ (r1 r2 : Int32) (X' : SX) (M' : St6), FX_all X  = some (r1, X') ∧ f_X6_all M  = some (r2, M') ∧ Inv1 X' M' := by
  obtain ⟨T, ln, sz, hT, c, hM⟩ := h
  refine i1_mk hT ?_ (okm_all hM)
  unfold FX_all
  exact ok_b (okx_all _ c.1) (fun r hr => ok_s ⟨c.1, c.2.1, c.2.2.1, c.2.2.2.1, hr, c.2.2.2.2.2⟩)
theorem s1_ever {X : SX} {M : St6} (h : Inv1 X M) : ∃ (r1 r2 : Int32) (X' : SX) (M' : St6), FX_ever X  = some (r1, X') ∧ f_X6_ever M  = some (r2, M') ∧ Inv1 X' M' := by
  obtain ⟨T, ln, sz, hT, c, hM⟩ := h
  refine i1_mk hT ?_ (okm_ever hM)
  unfold FX_ever
  exact ok_b (okx_ever _ c.1) (fun r hr => ok_s ⟨c.1, c.2.1, c.2.2.1, c.2.2.2.1, hr, c.2.2.2.2.2⟩)
theorem s1_chain {X : SX} {M : St6} (h : Inv1 X M) (a : Int32) (b : Int32) : ∃ (r1 r2 : Int32) (X' : SX), FX_chain X a b = some (r1, X') ∧ f_X6_chain M a b = some r2 ∧ Inv1 X' M := by
  obtain ⟨T, ln, sz, hT, c, hM⟩ := h
  refine i1_mkq hT ?_ (okm_chain hM a b) hM
  unfold FX_chain
  exact ok_b (okx_chain _ c.1 a b) (fun r hr => ok_s c)
theorem s1_lends {X : SX} {M : St6} (h : Inv1 X M) (a : Int32) (b : Int32) (d : Int32) : ∃ (r1 r2 : Int32) (X' : SX) (M' : St6), FX_lends X a b d = some (r1, X') ∧ f_X6_lends M a b d = some (r2, M') ∧ Inv1 X' M' := by
  obtain ⟨T, ln, sz, hT, c, hM⟩ := h
  refine i1_mk hT ?_ (okm_lends hM a b d)
  unfold FX_lends
  exact ok_b (okx_lends _ c.1 c.2.2.2.2.1 a b d) (fun r hr => ok_s ⟨c.1, c.2.1, c.2.2.1, c.2.2.2.1, hr, c.2.2.2.2.2⟩)
theorem s1_instead {X : SX} {M : St6} (h : Inv1 X M) (a : Int32) (b : Int32) (d : Int32) : ∃ (r1 r2 : Int32) (X' : SX) (M' : St6), FX_instead X a b d = some (r1, X') ∧ f_X6_instead M a b d = some (r2, M') ∧ Inv1 X' M' := by
  obtain ⟨T, ln, sz, hT, c, hM⟩ := h
  refine i1_mk hT ?_ (okm_instead hM a b d)
  unfold FX_instead
  exact ok_b (okx_instead _ c.1 c.2.2.2.2.1 a b d) (fun r hr => ok_s ⟨c.1, c.2.1, c.2.2.1, c.2.2.2.1, hr, c.2.2.2.2.2⟩)
theorem s1_needs {X : SX} {M : St6} (h : Inv1 X M) (a : Int32) (b : Int32) : ∃ (r1 r2 : Int32) (X' : SX) (M' : St6), FX_needs X a b = some (r1, X') ∧ f_X6_needs M a b = some (r2, M') ∧ Inv1 X' M' := by
  obtain ⟨T, ln, sz, hT, c, hM⟩ := h
  refine i1_mk hT ?_ (okm_needs hM a b)
  unfold FX_needs
  exact ok_b (okx_needs _ c.1 c.2.2.2.2.1 a b) (fun r hr => ok_s ⟨c.1, c.2.1, c.2.2.1, c.2.2.2.1, hr, c.2.2.2.2.2⟩)
theorem s1_match {X : SX} {M : St6} (h : Inv1 X M) (a : Int32) : ∃ (r1 r2 : Int32) (X' : SX) (M' : St6), FX_match X a = some (r1, X') ∧ f_X6_match M a = some (r2, M') ∧ Inv1 X' M' := by
  obtain ⟨T, ln, sz, hT, c, hM⟩ := h
  refine i1_mk hT ?_ (okm_match hM a)
  unfold FX_match
  exact ok_b (okx_match _ c.1 a) (fun r hr => ok_s c)
theorem s1_again {X : SX} {M : St6} (h : Inv1 X M) : ∃ (r1 r2 : Int32) (X' : SX) (M' : St6), FX_again X  = some (r1, X') ∧ f_X6_again M  = some (r2, M') ∧ Inv1 X' M' := by
  obtain ⟨T, ln, sz, hT, c, hM⟩ := h
  refine i1_mk hT ?_ (okm_again hM)
  unfold FX_again
  exact ok_b (okx_again _ c.1) (fun r hr => ok_s ⟨c.1, c.2.1, c.2.2.1, c.2.2.2.1, hr, c.2.2.2.2.2⟩)
theorem s1_forget {X : SX} {M : St6} (h : Inv1 X M) (a : Int32) (b : Int32) (d : Int32) : ∃ (r1 r2 : Int32) (X' : SX) (M' : St6), FX_forget X a b d = some (r1, X') ∧ f_X6_forget M a b d = some (r2, M') ∧ Inv1 X' M' := by
  obtain ⟨T, ln, sz, hT, c, hM⟩ := h
  refine i1_mk hT ?_ (okm_forget hM a b d)
  unfold FX_forget
  exact ok_b (okx_forget _ c.1 c.2.2.2.2.1 a b d) (fun r hr => ok_s ⟨c.1, c.2.1, c.2.2.1, c.2.2.2.1, hr, c.2.2.2.2.2⟩)
theorem s1_image {X : SX} {M : St6} (h : Inv1 X M) : ∃ (r1 r2 : Int32) (X' : SX) (M' : St6), FX_image X  = some (r1, X') ∧ f_X6_image M  = some (r2, M') ∧ Inv1 X' M' := by
  obtain ⟨T, ln, sz, hT, c, hM⟩ := h
  refine i1_mk hT ?_ (okm_image hM)
  unfold FX_image
  exact ok_b (okx_image _ c.1 c.2.1) (fun r hr => ok_s ⟨c.1, c.2.1, hr.1, hr.2, c.2.2.2.2⟩)
theorem s1_restore {X : SX} {M : St6} (h : Inv1 X M) : ∃ (r1 r2 : Int32) (X' : SX) (M' : St6), FX_restore X  = some (r1, X') ∧ f_X6_restore M  = some (r2, M') ∧ Inv1 X' M' := by
  obtain ⟨T, ln, sz, hT, c, hM⟩ := h
  refine i1_mk hT ?_ (okm_restore hM)
  unfold FX_restore
  exact ok_b (okx_restore _ c.1 c.2.1 c.2.2.1 c.2.2.2.1) (fun r hr => ok_s ⟨hr.1, hr.2, c.2.2⟩)
theorem s1_heard {X : SX} {M : St6} (h : Inv1 X M) (a : Int32) (b : Int32) (d : Int32) (e : Int32) (f : Int32) (g : Int32) : ∃ (r1 r2 : Int32) (X' : SX) (M' : St6), FX_heard X a b d e f g = some (r1, X') ∧ f_X6_heard M a b d e f g = some (r2, M') ∧ Inv1 X' M' := by
  obtain ⟨T, ln, sz, hT, c, hM⟩ := h
  refine i1_mk hT ?_ (okm_heard hM (fun k hk => ⟨_, c.2.2.2.2.2.2 k hk⟩) a b d e f g)
  unfold FX_heard
  exact ok_b (okx_heard _ c.1 c.2.2.2.2.1 _ (c.2.2.2.2.2.2 _ (sj_l4 b)) a b d e f g) (fun r hr => ok_s ⟨c.1, c.2.1, c.2.2.1, c.2.2.2.1, hr, c.2.2.2.2.2⟩)
theorem s1_film {X : SX} {M : St6} (h : Inv1 X M) (a : Int32) (b : Int32) (d : Int32) (e : Int32) (f : Int32) : ∃ (r1 r2 : Int32) (X' : SX) (M' : St6), FX_film X a b d e f = some (r1, X') ∧ f_X6_film M a b d e f = some (r2, M') ∧ Inv1 X' M' := by
  obtain ⟨T, ln, sz, hT, c, hM⟩ := h
  refine i1_mk hT ?_ (okm_film hM (fun k hk => ⟨_, c.2.2.2.2.2.2 k hk⟩) a b d e f)
  unfold FX_film
  exact ok_b (okx_film _ c.1 c.2.2.2.2.1 _ (c.2.2.2.2.2.2 _ (sj_l4 d)) a b d e f) (fun r hr => ok_s ⟨c.1, c.2.1, c.2.2.1, c.2.2.2.1, hr.1, c.2.2.2.2.2.1, cg_up c hr.2⟩)
theorem s1_close {X : SX} {M : St6} (h : Inv1 X M) : ∃ (r1 r2 : Int32) (X' : SX) (M' : St6), FX_close X = some (r1, X') ∧ f_X6_close M = some (r2, M') ∧ Inv1 X' M' := by
  obtain ⟨T, ln, sz, hT, c, hM⟩ := h
  refine i1_mk (T := 0) (by decide) ?_ (okm_close hT hM)
  unfold FX_close
  exact ok_b (okx_close _ hT c.1 c.2.1 c.2.2.2.2.2.1) (fun r hr => ok_s ⟨hr.1, hr.2.1, c.2.2.1, c.2.2.2.1, hr.2.2.1, hr.2.2.2, c.2.2.2.2.2.2⟩)
theorem s1_type {X : SX} {M : St6} (h : Inv1 X M) (a : Int32) : ∃ (r : Int32) (X' : SX) (M' : St6), FX_type X a = some (r, X') ∧ f_X6_type M a = some (r, M') ∧ Inv1 X' M' := by
  obtain ⟨T, ln, sz, hT, c, hM⟩ := h
  obtain ⟨r, T', tp', M', hT', e1, e2, h1, h2⟩ := type_eq hT c.2.2.2.2.2.1 hM (xk X) a
  refine ⟨r, sxtp X tp', M', ?_, e2, T', ln, sz, hT', ⟨c.1, c.2.1, c.2.2.1, c.2.2.2.1, c.2.2.2.2.1, h1, c.2.2.2.2.2.2⟩, h2⟩
  unfold FX_type; rw [e1]; rfl
theorem n10 : ((1 : Int32) = 0) = False := by simp
theorem s1_sheet {X : SX} {M : St6} (h : Inv1 X M) (a b d : Int32) : ∃ (r : Int32) (X' : SX) (M' : St6), FX_sheet X a b d = some (r, X') ∧ f_X6_sheet M a b d = some (r, M') ∧ Inv1 X' M' := by
  obtain ⟨T, ln, sz, hT, c, hM⟩ := h
  have same : ∀ k, Inv1 (sxsh X (va_up (xsh X) k (xsh X k))) M := fun k => ⟨T, ln, sz, hT, ⟨c.1, c.2.1, c.2.2.1, c.2.2.2.1, c.2.2.2.2.1, c.2.2.2.2.2.1, cg_up c ⟨rfl, rfl⟩⟩, hM⟩
  unfold FX_sheet f_X5_sheet f_X6_sheet
  rcases shq a with ⟨k, hk, rfl, e1, e2⟩ | ⟨e1, e2⟩
  · rw [e1, e2]
    simp only [Option.bind_some, n10, ↓reduceIte]
    rcases lnq b with ⟨j, hj, rfl, e3, e4⟩ | ⟨e3, e4⟩
    · rw [e3, e4]
      simp only [Option.bind_some, n10, ↓reduceIte]
      by_cases h24 : d ≤ 24
      · simp only [if_pos h24]
        by_cases h0 : (0 : Int32) ≤ d
        · simp only [if_pos h0, inB_nI hk (show 4 < 2 ^ 31 by decide), ↓reduceIte]
          obtain ⟨S, hS, rfl⟩ : ∃ S : Nat, S ≤ 24 ∧ d = nI S := by
            have h1 := Int32.le_iff_toInt_le.mp h0
            have h2 := Int32.le_iff_toInt_le.mp h24
            have z : (0 : Int32).toInt = 0 := rfl
            have z4 : (24 : Int32).toInt = 24 := rfl
            obtain ⟨S, hS, e⟩ := rg_int (x := d) (n := 24) (by omega) (by omega) (by decide)
            exact ⟨S, by omega, e⟩
          have hcl : (nI k).toNatClampNeg = k := nI_clamp (by omega)
          have hm : IM (nI T) (upd ln k (nI j)) (upd sz k (nI S)) (s6_sizes (s6_lanes M (upd (p6_lanes M) (nI k).toNatClampNeg (nI j))) (upd (p6_sizes M) (nI k).toNatClampNeg (nI S))) := by
            refine ⟨hM.1, hM.2.1, hM.2.2.1, hM.2.2.2.1, hM.2.2.2.2.1, hM.2.2.2.2.2.1, hM.2.2.2.2.2.2.1, hM.2.2.2.2.2.2.2.1, ?_, ?_⟩
            · show upd (p6_lanes M) (nI k).toNatClampNeg (nI j) = _
              rw [hM.2.2.2.2.2.2.2.2.1, hcl]
            · show upd (p6_sizes M) (nI k).toNatClampNeg (nI S) = _
              rw [hM.2.2.2.2.2.2.2.2.2, hcl]
          obtain ⟨q, eq, hq⟩ := lpG (fun n z s => lp_X6_sheet_46 (nI k) (nI S) n z s) 24 (by decide) (fun _ s => IM (nI T) (upd ln k (nI j)) (upd sz k (nI S)) s) (fun q => IM (nI T) (upd ln k (nI j)) (upd sz k (nI S)) q.2) (fun n z s => rfl) (fun _ _ _ => rfl) (fun s hs => ok_s hs) (fun n i s hi hs ih => ok_g (by rw [show (24 : Int32) = nI 24 from rfl, nI_mul, nI_add]; exact inB_nI (by omega) (by decide)) (ih _ hs)) _ hm
          have eq' : lp_X6_sheet_46 (nI k) (nI S) FU 0 (s6_sizes (s6_lanes M (upd (p6_lanes M) (nI k).toNatClampNeg (nI j))) (upd (p6_sizes M) (nI k).toNatClampNeg (nI S))) = some q := eq
          rw [eq', sj_nI hk]
          refine ⟨nI S, _, q.2, rfl, rfl, T, upd ln k (nI j), upd sz k (nI S), hT, ⟨c.1, c.2.1, c.2.2.1, c.2.2.2.1, c.2.2.2.2.1, c.2.2.2.2.2.1, fun i hi => ?_⟩, hq⟩
          show R3 (va_up (xsh X) k (nI j, nI S, fun _ => 0) i) (upd ln k (nI j) i) (upd sz k (nI S) i)
          unfold va_up upd
          by_cases e : i = k
          · rw [if_pos e, if_pos e, if_pos e]
            exact Or.inr ⟨S, hS, rfl, rfl, rfl, nI_pos (by omega)⟩
          · rw [if_neg e, if_neg e, if_neg e]
            exact c.2.2.2.2.2.2 i hi
        · simp only [if_neg h0]
          exact ⟨-14, _, M, rfl, rfl, same _⟩
      · simp only [if_neg h24]
        exact ⟨-1, _, M, rfl, rfl, same _⟩
    · rw [e3, e4]
      exact ⟨-1, _, M, rfl, rfl, same _⟩
  · rw [e1, e2]
    exact ⟨-1, _, M, rfl, rfl, same _⟩
theorem s1_drop {X : SX} {M : St6} (h : Inv1 X M) (a : Int32) : ∃ (r : Int32) (X' : SX) (M' : St6), FX_drop X a = some (r, X') ∧ f_X6_drop M a = some (r, M') ∧ Inv1 X' M' := by
  obtain ⟨T, ln, sz, hT, c, hM⟩ := h
  have same : ∀ k, Inv1 (sxsh X (va_up (xsh X) k (xsh X k))) M := fun k => ⟨T, ln, sz, hT, ⟨c.1, c.2.1, c.2.2.1, c.2.2.2.1, c.2.2.2.2.1, c.2.2.2.2.2.1, cg_up c ⟨rfl, rfl⟩⟩, hM⟩
  unfold FX_drop f_X5_drop f_X6_drop f_X3_isMissing f_X3_lose
  rcases shq a with ⟨k, hk, rfl, e1, e2⟩ | ⟨e1, e2⟩
  · have hcl : (nI k).toNatClampNeg = k := nI_clamp (by omega)
    rw [e1, e2, sj_nI hk, hcl, hM.2.2.2.2.2.2.2.2.1, hM.2.2.2.2.2.2.2.2.2]
    simp only [Option.bind_some, n10, ↓reduceIte, inB_nI hk (show 4 < 2 ^ 31 by decide)]
    rcases c.2.2.2.2.2.2 k hk with ⟨h1, h2⟩ | ⟨S, hS, h1, h2, h3, h4⟩
    · have hn : ¬ (0 : Int32) ≤ ln k := fun q => by
        have a1 := Int32.lt_iff_toInt_lt.mp h2
        have a2 := Int32.le_iff_toInt_le.mp q
        omega
      rw [if_pos h1, if_neg hn]
      exact ⟨-11, _, M, rfl, rfl, same _⟩
    · have hn : (0 : Int32) ≤ ln k := by
        have : ¬ (ln k).toInt < (0 : Int32).toInt := fun q => h4 (Int32.lt_iff_toInt_lt.mpr q)
        exact Int32.le_iff_toInt_le.mpr (by omega)
      rw [if_neg (by rw [h1]; exact nIm1 hS), if_pos hn, h2]
      refine ⟨nI S, sxsh X (va_up (xsh X) k (s3_size (xsh X k) (-1))), s6_lanes M (upd ln k (-1)), ?_, rfl, T, upd ln k (-1), sz, hT, ⟨c.1, c.2.1, c.2.2.1, c.2.2.2.1, c.2.2.2.2.1, c.2.2.2.2.2.1, fun i hi => ?_⟩, ⟨hM.1, hM.2.1, hM.2.2.1, hM.2.2.2.1, hM.2.2.2.2.1, hM.2.2.2.2.2.1, hM.2.2.2.2.2.2.1, hM.2.2.2.2.2.2.2.1, rfl, hM.2.2.2.2.2.2.2.2.2⟩⟩
      · show some (p3_size (xsh X k), _) = _
        rw [h1]
      · show R3 (va_up (xsh X) k (s3_size (xsh X k) (-1)) i) (upd ln k (-1) i) (sz i)
        unfold va_up upd
        by_cases e : i = k
        · rw [if_pos e, if_pos e]
          exact Or.inl ⟨rfl, by decide⟩
        · rw [if_neg e, if_neg e]
          exact c.2.2.2.2.2.2 i hi
  · rw [e1, e2]
    exact ⟨-1, _, M, rfl, rfl, same _⟩
theorem le0 {r : Int32} (h : r = 0 ∨ (r < 0 ∧ ¬ r = 0)) (h0 : ¬ r = 0) : ¬ (0 : Int32) ≤ r := fun q => by
  have a1 := Int32.lt_iff_toInt_lt.mp (h.resolve_left h0).1
  have a2 := Int32.le_iff_toInt_le.mp q
  omega
theorem s1_item {X : SX} {M : St6} (h : Inv1 X M) (a b d : Int32) (v : Int64) : ∃ (r : Int32) (X' : SX) (M' : St6), FX_item X a b d v = some (r, X') ∧ f_X6_item M a b d v = some (r, M') ∧ Inv1 X' M' := by
  obtain ⟨T, ln, sz, hT, c, hM⟩ := h
  have up : ∀ k s, SQ s (xsh X k) → Inv1 (sxsh X (va_up (xsh X) k s)) M := fun k s hs => ⟨T, ln, sz, hT, ⟨c.1, c.2.1, c.2.2.1, c.2.2.2.1, c.2.2.2.2.1, c.2.2.2.2.2.1, cg_up c hs⟩, hM⟩
  unfold FX_item f_X5_item f_X6_item
  rcases shq a with ⟨k, hk, rfl, e1, e2⟩ | ⟨e1, e2⟩
  · rw [e1, e2, sj_nI hk]
    simp only [Option.bind_some, n10, ↓reduceIte]
    rcases lnq b with ⟨j, hj, rfl, e3, e4⟩ | ⟨e3, e4⟩
    · rw [e3, e4]
      simp only [Option.bind_some, n10, ↓reduceIte, inB_nI hk (show 4 < 2 ^ 31 by decide)]
      obtain ⟨r, w1, w2, w3, w4⟩ := why_eq (c.2.2.2.2.2.2 k hk) (nI j) d 1
      rw [w1, w2 M k hk (by rw [hM.2.2.2.2.2.2.2.2.1]) (by rw [hM.2.2.2.2.2.2.2.2.2])]
      simp only [Option.bind_some]
      by_cases hr : r = 0
      · subst hr
        obtain ⟨I, K, S, rfl, hK, hIK, hS, -, -, -, -⟩ := w4 rfl
        have hK1 : K = 1 := by
          by_cases hq : K < 2 ^ 31
          · exact ((nI_eq (a := 1) (by decide) hq).mp hK).symm
          · omega
        obtain ⟨s', es, hs⟩ := ok_put (xsh X k) (x := nI I) (rg_nI (by omega)) v
        have hi : inB (24 * nI k + nI I) 96 = true := by
          rw [show (24 : Int32) = nI 24 from rfl, nI_mul, nI_add]; exact inB_nI (by omega) (by decide)
        rw [es]
        simp only [Option.bind_some, ↓reduceIte, hi, show ((0 : Int32) ≤ 0) = True by simp]
        have fin : ∀ f, Inv1 (sxsh X (va_up (xsh X) k s')) (s6_items M f) := fun f => by
          obtain ⟨T, ln, sz, hT, c, hM⟩ := up k s' hs
          exact ⟨T, ln, sz, hT, c, hM⟩
        by_cases j0 : nI j = 0
        · simp only [if_pos j0]; exact ⟨1, _, _, rfl, rfl, fin _⟩
        · simp only [if_neg j0]
          by_cases j1 : nI j = 1
          · simp only [if_pos j1]; exact ⟨1, _, _, rfl, rfl, fin _⟩
          · simp only [if_neg j1]
            by_cases j2 : nI j = 2
            · simp only [if_pos j2]; exact ⟨1, _, _, rfl, rfl, fin _⟩
            · simp only [if_neg j2]; exact ⟨1, _, _, rfl, rfl, fin _⟩
      · simp only [if_neg hr, if_neg (le0 w3 hr)]
        exact ⟨r, _, M, rfl, rfl, up _ _ ⟨rfl, rfl⟩⟩
    · rw [e3, e4]
      exact ⟨-1, _, M, rfl, rfl, up _ _ ⟨rfl, rfl⟩⟩
  · rw [e1, e2]
    exact ⟨-1, _, M, rfl, rfl, up _ _ ⟨rfl, rfl⟩⟩
