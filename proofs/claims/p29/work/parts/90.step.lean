/-! A STEP, AND THE END -/
set_option maxRecDepth 20000 in
theorem step2 (X : SX) (M : St6) (z : Nat → Int32) (j : Nat) (h : Inv2 X M) (hj : j < 32) (_ : z 0 &&& 31 = nI j) : ∃ (X' : SX) (M' : St6), stepk z j X M X' M' ∧ Inv2 X' M' := by
  rcases law_X0 j hj with rfl | rfl | rfl | rfl | rfl | rfl | rfl | rfl | rfl | rfl | rfl | rfl | rfl | rfl | rfl | rfl | rfl | rfl | rfl | rfl | rfl | rfl | rfl | rfl | rfl | rfl | rfl | rfl | rfl | rfl | rfl | rfl
  · obtain ⟨r, X', M', e1, e2, hi⟩ := t2_person h _ _
    exact ⟨X', M', ⟨r, r, e1, e2⟩, hi⟩
  · obtain ⟨r, X', e1, e2, hi⟩ := t2_of h _ _
    exact ⟨X', M, ⟨r, r, e1, e2, rfl⟩, hi⟩
  · obtain ⟨r, X', M', e1, e2, hi⟩ := t2_type h _
    exact ⟨X', M', ⟨r, r, e1, e2⟩, hi⟩
  · obtain ⟨r, X', M', e1, e2, hi⟩ := t2_close h
    exact ⟨X', M', ⟨r, r, e1, e2⟩, hi⟩
  · obtain ⟨r, X', e1, e2, hi⟩ := t2_count h _
    exact ⟨X', M, ⟨r, r, e1, e2, rfl⟩, hi⟩
  · obtain ⟨r, X', M', e1, e2, hi⟩ := t2_hours h _
    exact ⟨X', M', ⟨r, r, e1, e2⟩, hi⟩
  · obtain ⟨r, X', M', e1, e2, hi⟩ := t2_lend h _ _
    exact ⟨X', M', ⟨r, r, e1, e2⟩, hi⟩
  · obtain ⟨r, X', M', e1, e2, hi⟩ := t2_tell h _ _
    exact ⟨X', M', ⟨r, r, e1, e2⟩, hi⟩
  · obtain ⟨r, X', M', e1, e2, hi⟩ := t2_cut h _ _
    exact ⟨X', M', ⟨r, r, e1, e2⟩, hi⟩
  · obtain ⟨r, X', M', e1, e2, hi⟩ := t2_drift h _
    exact ⟨X', M', ⟨r, r, e1, e2⟩, hi⟩
  · obtain ⟨r, X', M', e1, e2, hi⟩ := t2_undo h
    exact ⟨X', M', ⟨r, r, e1, e2⟩, hi⟩
  · obtain ⟨r, X', M', e1, e2, hi⟩ := t2_seed h _
    exact ⟨X', M', ⟨r, r, e1, e2⟩, hi⟩
  · obtain ⟨r, X', M', e1, e2, hi⟩ := t2_ahead h _ _
    exact ⟨X', M', ⟨r, r, e1, e2⟩, hi⟩
  · obtain ⟨r, X', M', e1, e2, hi⟩ := t2_then h _
    exact ⟨X', M', ⟨r, r, e1, e2⟩, hi⟩
  · obtain ⟨r, X', M', e1, e2, hi⟩ := t2_stops h _
    exact ⟨X', M', ⟨r, r, e1, e2⟩, hi⟩
  · obtain ⟨r, X', M', e1, e2, hi⟩ := t2_all h
    exact ⟨X', M', ⟨r, r, e1, e2⟩, hi⟩
  · obtain ⟨r, X', M', e1, e2, hi⟩ := t2_ever h
    exact ⟨X', M', ⟨r, r, e1, e2⟩, hi⟩
  · obtain ⟨r, X', e1, e2, hi⟩ := t2_chain h _ _
    exact ⟨X', M, ⟨r, r, e1, e2, rfl⟩, hi⟩
  · obtain ⟨r, X', M', e1, e2, hi⟩ := t2_lends h _ _ _
    exact ⟨X', M', ⟨r, r, e1, e2⟩, hi⟩
  · obtain ⟨r, X', M', e1, e2, hi⟩ := t2_instead h _ _ _
    exact ⟨X', M', ⟨r, r, e1, e2⟩, hi⟩
  · obtain ⟨r, X', M', e1, e2, hi⟩ := t2_needs h _ _
    exact ⟨X', M', ⟨r, r, e1, e2⟩, hi⟩
  · obtain ⟨r1, r2, X', M', e1, e2, hi⟩ := t2_match h _
    exact ⟨X', M', ⟨r1, r2, e1, e2⟩, hi⟩
  · obtain ⟨r, X', M', e1, e2, hi⟩ := t2_again h
    exact ⟨X', M', ⟨r, r, e1, e2⟩, hi⟩
  · obtain ⟨r, X', M', e1, e2, hi⟩ := t2_forget h _ _ _
    exact ⟨X', M', ⟨r, r, e1, e2⟩, hi⟩
  · obtain ⟨r, X', M', e1, e2, hi⟩ := t2_image h
    exact ⟨X', M', ⟨r, r, e1, e2⟩, hi⟩
  · obtain ⟨r, X', M', e1, e2, hi⟩ := t2_restore h
    exact ⟨X', M', ⟨r, r, e1, e2⟩, hi⟩
  · obtain ⟨r, X', M', e1, e2, hi⟩ := t2_heard h _ _ _ _ _ _
    exact ⟨X', M', ⟨r, r, e1, e2⟩, hi⟩
  · obtain ⟨r, X', M', e1, e2, hi⟩ := t2_film h _ _ _ _ _
    exact ⟨X', M', ⟨r, r, e1, e2, rfl⟩, hi⟩
  · obtain ⟨r, X', M', e1, e2, hi⟩ := t2_sheet h _ _ _
    exact ⟨X', M', ⟨r, r, e1, e2⟩, hi⟩
  · obtain ⟨r, X', M', e1, e2, hi⟩ := t2_drop h _
    exact ⟨X', M', ⟨r, r, e1, e2⟩, hi⟩
  · obtain ⟨r, X', M', e1, e2, hi⟩ := t2_item h _ _ _ _
    exact ⟨X', M', ⟨r, r, e1, e2⟩, hi⟩
  · obtain ⟨r, X', M', e1, e2, hi⟩ := t2_copy h _ _ _ _ _
    exact ⟨X', M', ⟨r, r, e1, e2⟩, hi⟩
