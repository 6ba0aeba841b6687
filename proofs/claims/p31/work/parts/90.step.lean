/-! A STEP, AND THE END -/
set_option maxRecDepth 20000 in
theorem step1 (X : SX) (M : St6) (z : Nat → Int32) (j : Nat) (h : Inv1 X M) (hj : j < 32) (_ : z 0 &&& 31 = nI j) : ∃ (X' : SX) (M' : St6), stepk z j X M X' M' ∧ Inv1 X' M' := by
  rcases law_X0 j hj with rfl | rfl | rfl | rfl | rfl | rfl | rfl | rfl | rfl | rfl | rfl | rfl | rfl | rfl | rfl | rfl | rfl | rfl | rfl | rfl | rfl | rfl | rfl | rfl | rfl | rfl | rfl | rfl | rfl | rfl | rfl | rfl
  · obtain ⟨r1, r2, X', M', e1, e2, hi⟩ := s1_person h _ _
    exact ⟨X', M', ⟨r1, r2, e1, e2⟩, hi⟩
  · obtain ⟨r1, r2, X', e1, e2, hi⟩ := s1_of h _ _
    exact ⟨X', M, ⟨r1, r2, e1, e2, rfl⟩, hi⟩
  · obtain ⟨r, X', M', e1, e2, hi⟩ := s1_type h _
    exact ⟨X', M', ⟨r, r, e1, e2⟩, hi⟩
  · obtain ⟨r1, r2, X', M', e1, e2, hi⟩ := s1_close h
    exact ⟨X', M', ⟨r1, r2, e1, e2⟩, hi⟩
  · obtain ⟨r1, r2, X', e1, e2, hi⟩ := s1_count h _
    exact ⟨X', M, ⟨r1, r2, e1, e2, rfl⟩, hi⟩
  · obtain ⟨r1, r2, X', M', e1, e2, hi⟩ := s1_hours h _
    exact ⟨X', M', ⟨r1, r2, e1, e2⟩, hi⟩
  · obtain ⟨r1, r2, X', M', e1, e2, hi⟩ := s1_lend h _ _
    exact ⟨X', M', ⟨r1, r2, e1, e2⟩, hi⟩
  · obtain ⟨r1, r2, X', M', e1, e2, hi⟩ := s1_tell h _ _
    exact ⟨X', M', ⟨r1, r2, e1, e2⟩, hi⟩
  · obtain ⟨r1, r2, X', M', e1, e2, hi⟩ := s1_cut h _ _
    exact ⟨X', M', ⟨r1, r2, e1, e2⟩, hi⟩
  · obtain ⟨r1, r2, X', M', e1, e2, hi⟩ := s1_drift h _
    exact ⟨X', M', ⟨r1, r2, e1, e2⟩, hi⟩
  · obtain ⟨r1, r2, X', M', e1, e2, hi⟩ := s1_undo h
    exact ⟨X', M', ⟨r1, r2, e1, e2⟩, hi⟩
  · obtain ⟨r1, r2, X', M', e1, e2, hi⟩ := s1_seed h _
    exact ⟨X', M', ⟨r1, r2, e1, e2⟩, hi⟩
  · obtain ⟨r1, r2, X', M', e1, e2, hi⟩ := s1_ahead h _ _
    exact ⟨X', M', ⟨r1, r2, e1, e2⟩, hi⟩
  · obtain ⟨r1, r2, X', M', e1, e2, hi⟩ := s1_then h _
    exact ⟨X', M', ⟨r1, r2, e1, e2⟩, hi⟩
  · obtain ⟨r1, r2, X', M', e1, e2, hi⟩ := s1_stops h _
    exact ⟨X', M', ⟨r1, r2, e1, e2⟩, hi⟩
  · obtain ⟨r1, r2, X', M', e1, e2, hi⟩ := s1_all h
    exact ⟨X', M', ⟨r1, r2, e1, e2⟩, hi⟩
  · obtain ⟨r1, r2, X', M', e1, e2, hi⟩ := s1_ever h
    exact ⟨X', M', ⟨r1, r2, e1, e2⟩, hi⟩
  · obtain ⟨r1, r2, X', e1, e2, hi⟩ := s1_chain h _ _
    exact ⟨X', M, ⟨r1, r2, e1, e2, rfl⟩, hi⟩
  · obtain ⟨r1, r2, X', M', e1, e2, hi⟩ := s1_lends h _ _ _
    exact ⟨X', M', ⟨r1, r2, e1, e2⟩, hi⟩
  · obtain ⟨r1, r2, X', M', e1, e2, hi⟩ := s1_instead h _ _ _
    exact ⟨X', M', ⟨r1, r2, e1, e2⟩, hi⟩
  · obtain ⟨r1, r2, X', M', e1, e2, hi⟩ := s1_needs h _ _
    exact ⟨X', M', ⟨r1, r2, e1, e2⟩, hi⟩
  · obtain ⟨r1, r2, X', M', e1, e2, hi⟩ := s1_match h _
    exact ⟨X', M', ⟨r1, r2, e1, e2⟩, hi⟩
  · obtain ⟨r1, r2, X', M', e1, e2, hi⟩ := s1_again h
    exact ⟨X', M', ⟨r1, r2, e1, e2⟩, hi⟩
  · obtain ⟨r1, r2, X', M', e1, e2, hi⟩ := s1_forget h _ _ _
    exact ⟨X', M', ⟨r1, r2, e1, e2⟩, hi⟩
  · obtain ⟨r1, r2, X', M', e1, e2, hi⟩ := s1_image h
    exact ⟨X', M', ⟨r1, r2, e1, e2⟩, hi⟩
  · obtain ⟨r1, r2, X', M', e1, e2, hi⟩ := s1_restore h
    exact ⟨X', M', ⟨r1, r2, e1, e2⟩, hi⟩
  · obtain ⟨r1, r2, X', M', e1, e2, hi⟩ := s1_heard h _ _ _ _ _ _
    exact ⟨X', M', ⟨r1, r2, e1, e2⟩, hi⟩
  · obtain ⟨r1, r2, X', M', e1, e2, hi⟩ := s1_film h _ _ _ _ _
    exact ⟨X', M', ⟨r1, r2, e1, e2⟩, hi⟩
  · obtain ⟨r, X', M', e1, e2, hi⟩ := s1_sheet h _ _ _
    exact ⟨X', M', ⟨r, r, e1, e2⟩, hi⟩
  · obtain ⟨r, X', M', e1, e2, hi⟩ := s1_drop h _
    exact ⟨X', M', ⟨r, r, e1, e2, rfl⟩, hi⟩
  · obtain ⟨r, X', M', e1, e2, hi⟩ := s1_item h _ _ _ _
    exact ⟨X', M', ⟨r, r, e1, e2⟩, hi⟩
  · obtain ⟨r, X', M', e1, e2, hi⟩ := s1_copy h _ _ _ _ _
    exact ⟨X', M', ⟨r, r, e1, e2⟩, hi⟩
theorem inv1_0 : Inv1 (0, st2_0, st1_0, st2_0, st1_0, st2_0, st4_0, st0_0, fun _ => st3_0) st6_0 := by
  have g2 : G2 st2_0 := ⟨0, by decide, rfl⟩
  have g1 : G1 st1_0 := ⟨⟨0, by decide, rfl⟩, fun i _ => g2⟩
  have w0 : wk (0 : Int32) := Or.inr ⟨0, by decide, rfl⟩
  refine ⟨0, p6_lanes st6_0, p6_sizes st6_0, by decide, ⟨g2, g1, g2, g1, g2, rfl, fun i hi => Or.inl ⟨rfl, ?_⟩⟩, ?_⟩
  · rcases (show i = 0 ∨ i = 1 ∨ i = 2 ∨ i = 3 by omega) with rfl | rfl | rfl | rfl <;> decide
  · refine ⟨⟨⟨0, by decide, rfl⟩, fun p hp => ?_⟩, ⟨0, by decide, rfl⟩, fun k _ => ⟨⟨0, by decide, rfl⟩, fun p _ => w0⟩, ⟨⟨0, by decide, rfl⟩, fun p _ => w0⟩, fun k _ => ⟨⟨0, by decide, rfl⟩, fun p _ => w0⟩, ⟨0, by decide, rfl⟩, fun p _ => w0, rfl, rfl, rfl⟩
    show wk (upd (fun _ => 0) 2 1 (0 + 5 + 4 * p))
    rw [pk_un (by omega)]; exact w0
