/-! THE REFERENCE: moments copied -/
/-- k of g from c on are copied to f from b on -/
noncomputable def cpf (f g : Nat → Int32) (b c k i : Nat) : Int32 := if b ≤ i ∧ i < b + k then g (i - b + c) else f i
theorem cpf_0 (f g : Nat → Int32) (b c : Nat) : cpf f g b c 0 = f := by
  funext i; unfold cpf; rw [if_neg (by omega)]
theorem cpf_s (f g : Nat → Int32) (b c k : Nat) : upd (cpf f g b c k) (b + k) (g (c + k)) = cpf f g b c (k + 1) := by
  funext i
  unfold upd cpf
  by_cases e : i = b + k
  · rw [if_pos e, if_pos (by omega), show i - b + c = c + k by omega]
  · rw [if_neg e]
    by_cases h : b ≤ i ∧ i < b + k
    · rw [if_pos h, if_pos (by omega)]
    · rw [if_neg h, if_neg (by omega)]
theorem cpf_in {f g : Nat → Int32} {b c k i : Nat} (h1 : b ≤ i) (h2 : i < b + k) : cpf f g b c k i = g (i - b + c) := by
  unfold cpf; rw [if_pos ⟨h1, h2⟩]
theorem cpf_out {f g : Nat → Int32} {b c k i : Nat} (h : i < b ∨ b + k ≤ i) : cpf f g b c k i = f i := by
  unfold cpf; rw [if_neg (by omega)]
theorem gd_in {f g : Nat → Int32} {b c k d : Nat} (h : gd g (c + d)) (hd : d + 27 ≤ k) : gd (cpf f g b c k) (b + d) := by
  refine ⟨?_, fun p hp => ?_⟩
  · rw [cpf_in (by omega) (by omega), show b + d - b + c = c + d by omega]; exact h.1
  · rw [cpf_in (by omega) (by omega), show b + d + 5 + 4 * p - b + c = c + d + 5 + 4 * p by omega]; exact h.2 p hp
theorem gd_out {f g : Nat → Int32} {b c k e : Nat} (h : gd f e) (hd : e + 27 ≤ b ∨ b + k ≤ e) : gd (cpf f g b c k) e := by
  refine ⟨?_, fun p hp => ?_⟩
  · rw [cpf_out (by omega)]; exact h.1
  · rw [cpf_out (by omega)]; exact h.2 p hp
theorem ix_add (b : Nat) (x : Int32) (e : x = nI b) (k : Nat) : x + nI k = nI (b + k) := by rw [e, nI_add]
section
variable {t : Int32} {ln sz : Nat → Int32}
theorem asides_ok (σ : St6) : ok (fun r => r = s6_aside σ (cpf (p6_aside σ) (p6_now σ) 0 0 27)) (f_X6_asides σ) := by
  unfold f_X6_asides
  refine ok_b (P := fun q => q.2 = s6_aside σ (cpf (p6_aside σ) (p6_now σ) 0 0 27)) ?_ (fun q hq => ok_s hq)
  refine lpG (fun n z s => lp_X6_asides_2 n z s) 27 (by decide) (fun k s => s = s6_aside σ (cpf (p6_aside σ) (p6_now σ) 0 0 k)) _ (fun n z s => rfl) (fun _ _ _ => rfl) (fun s hs => ok_s hs) (fun n k s hk hs ih => ?_) σ (by rw [cpf_0])
  refine ok_g (inB_nI hk (by decide)) (ok_g (inB_nI hk (by decide)) (ih _ ?_))
  rw [hs, ← cpf_s, nI_clamp (by omega)]
  simp only [Nat.zero_add]
theorem backs_ok (σ : St6) : ok (fun r => r = s6_now σ (cpf (p6_now σ) (p6_aside σ) 0 0 27)) (f_X6_backs σ) := by
  unfold f_X6_backs
  refine ok_b (P := fun q => q.2 = s6_now σ (cpf (p6_now σ) (p6_aside σ) 0 0 27)) ?_ (fun q hq => ok_s hq)
  refine lpG (fun n z s => lp_X6_backs_2 n z s) 27 (by decide) (fun k s => s = s6_now σ (cpf (p6_now σ) (p6_aside σ) 0 0 k)) _ (fun n z s => rfl) (fun _ _ _ => rfl) (fun s hs => ok_s hs) (fun n k s hk hs ih => ?_) σ (by rw [cpf_0])
  refine ok_g (inB_nI hk (by decide)) (ok_g (inB_nI hk (by decide)) (ih _ ?_))
  rw [hs, ← cpf_s, nI_clamp (by omega)]
  simp only [Nat.zero_add]
/-- as many now as there were when it was laid aside -/
noncomputable def IA (t : Int32) (ln sz : Nat → Int32) (N : Nat) (s : St6) : Prop := IM t ln sz s ∧ p6_now s 0 = nI N ∧ p6_aside s 0 = nI N
theorem IA.k {N : Nat} {σ r : St6} (h : IA t ln sz N σ) (h' : KM t ln sz σ r) : IA t ln sz N r := ⟨h'.1, h'.2.1.trans h.2.1, by rw [h'.2.2]; exact h.2.2⟩
theorem ia_asides {σ : St6} (h : IM t ln sz σ) {N : Nat} (e : p6_now σ 0 = nI N) : ok (IA t ln sz N) (f_X6_asides σ) := by
  refine ok_w (asides_ok σ) (fun r hr => ?_)
  subst hr
  refine ⟨⟨h.1, h.2.1, h.2.2.1, ?_, h.2.2.2.2⟩, e, ?_⟩
  · exact gd_in (b := 0) (c := 0) (d := 0) h.1 (by decide)
  · show cpf (p6_aside σ) (p6_now σ) 0 0 27 0 = nI N
    rw [cpf_in (by decide) (by decide)]; exact e
theorem ia_backs {N : Nat} {σ : St6} (h : IA t ln sz N σ) : ok (IA t ln sz N) (f_X6_backs σ) := by
  refine ok_w (backs_ok σ) (fun r hr => ?_)
  subst hr
  refine ⟨⟨?_, h.1.2⟩, ?_, h.2.2⟩
  · exact gd_in (b := 0) (c := 0) (d := 0) h.1.2.2.2.1 (by decide)
  · show cpf (p6_now σ) (p6_aside σ) 0 0 27 0 = nI N
    rw [cpf_in (by decide) (by decide)]; exact h.2.2
theorem ia_goesBy {N : Nat} {σ : St6} (h : IA t ln sz N σ) (x : Int32) : ok (IA t ln sz N) (f_X6_goesBy σ x) := ok_w (km_goesBy h.1 x) (fun _ hr => h.k hr)
theorem ia_goesOn {N : Nat} {σ : St6} (h : IA t ln sz N σ) {x : Int32} (hx : rg x 50001) : ok (IA t ln sz N) (f_X6_goesOn σ x) := ok_w (km_goesOn h.1 hx) (fun _ hr => h.k hr)
theorem km_lent {σ : St6} (h : IM t ln sz σ) {x : Int32} (hx : rg x 6) (y : Int32) : ok (KM t ln sz σ) (f_X6_lent σ x y) := by
  unfold f_X6_lent
  exact ok_b (okm_turns σ hx) (fun r _ => ok_i (fun _ => ok_b (km_tells1 h hx _) (fun _ h' => ok_s h')) (fun _ => ok_b (km_tells1 h hx _) (fun _ h' => ok_s h')))
/-- numbers that were asked for -/
theorem rg_ask {x : Int32} {r : Int32} {lo hi : Int64} {H : Nat} (h : r = 0 ∨ (r = 1 ∧ lo.toInt ≤ x.toInt64.toInt ∧ x.toInt64.toInt ≤ hi.toInt)) (h0 : ¬ r = 0) (hl : 0 ≤ lo.toInt) (hh : hi.toInt ≤ H) (hH : H < 2 ^ 31) : rg x (H + 1) := by
  have := h.resolve_left h0
  rw [w64] at this
  exact rg_int (by omega) (by omega) hH
-- what is noted
theorem notes12_ok (σ : St6) : ok (fun q => ∃ f, q.2 = s6_undone σ f ∧ ∀ i, f i = if i + 27 < 216 then p6_undone σ (i + 27) else p6_undone σ i) (lp_X6_notes_12 FU 27 σ) := by
  refine ok_loop (fun n z s => lp_X6_notes_12 n z s) 216 (fun k s => 27 ≤ k ∧ ∃ f, s = s6_undone σ f ∧ ∀ i, f i = if i + 27 < k then p6_undone σ (i + 27) else p6_undone σ i) _ ?_ ?_ FU 27 σ (by decide) (by unfold FU; omega) ⟨by decide, p6_undone σ, rfl, fun i => by rw [if_neg (by omega)]⟩
  · intro n s hs
    show ok _ (lp_X6_notes_12 (n + 1) (nI 216) s)
    rw [lp_X6_notes_12]
    exact ok_i (fun _ => ok_s hs.2) (fun h => absurd (sz_ge (N := 216) rfl) h)
  · intro n k s hk hs ih
    show ok _ (lp_X6_notes_12 (n + 1) (nI k) s)
    rw [lp_X6_notes_12]
    refine ok_i (fun h => absurd h (sz_lt (N := 216) rfl hk (by decide))) (fun _ => ?_)
    obtain ⟨h27, f, e, hf⟩ := hs
    have e27 : nI k - 27 = nI (k - 27) := pk_sub (b := 27) h27
    refine ok_g (inB_nI hk (by decide)) ?_
    rw [e27]
    refine ok_g (inB_nI (by omega) (by decide)) (ih _ ⟨by omega, upd f (k - 27) (f k), ?_, fun i => ?_⟩)
    · rw [e, nI_clamp (by omega), nI_clamp (by omega)]
    · unfold upd
      by_cases ei : i = k - 27
      · rw [if_pos ei, if_pos (by omega), hf, if_neg (by omega)]
        congr 1; omega
      · rw [if_neg ei, hf]
        by_cases hi : i + 27 < k
        · rw [if_pos hi, if_pos (by omega)]
        · rw [if_neg hi, if_neg (by omega)]
theorem notes48_ok (σ : St6) {U : Nat} (hU : U < 8) (e : p6_undos σ = nI U) : ok (fun q => q.2 = s6_undone σ (cpf (p6_undone σ) (p6_now σ) (27 * U) 0 27)) (lp_X6_notes_48 FU 0 σ) := by
  refine lpG (fun n z s => lp_X6_notes_48 n z s) 27 (by decide) (fun k s => s = s6_undone σ (cpf (p6_undone σ) (p6_now σ) (27 * U) 0 k)) _ (fun n z s => rfl) (fun _ _ _ => rfl) (fun s hs => ok_s hs) (fun n k s hk hs ih => ?_) σ (by rw [cpf_0])
  have eu : p6_undos s = nI U := by rw [hs]; exact e
  have ei : 27 * p6_undos s + nI k = nI (27 * U + k) := by
    rw [eu, show (27 : Int32) = nI 27 from rfl, nI_mul, nI_add]
  rw [ei]
  refine ok_g (inB_nI hk (by decide)) (ok_g (inB_nI (by omega) (by decide)) (ih _ ?_))
  rw [hs, ← cpf_s, nI_clamp (by omega), nI_clamp (by omega)]
  simp only [Nat.zero_add]
theorem okm_notes {σ : St6} (h : IM t ln sz σ) : ok (fun r => IM t ln sz r ∧ p6_now r = p6_now σ) (f_X6_notes σ) := by
  unfold f_X6_notes
  obtain ⟨U, hU, eU⟩ := h.2.1
  refine ok_i (fun h8 => ?_) (fun h8 => ?_)
  · refine ok_b (notes12_ok σ) (fun q hq => ?_)
    obtain ⟨f, e, hf⟩ := hq
    rw [e]
    refine ok_b (notes48_ok _ (U := 7) (by decide) rfl) (fun q2 hq2 => ok_s ?_)
    rw [hq2]
    refine ⟨⟨h.1, ⟨8, by decide, rfl⟩, fun k hk => ?_, h.2.2.2⟩, rfl⟩
    show gd (cpf f (p6_now σ) (27 * 7) 0 27) (27 * k)
    by_cases h7 : k < 7
    · refine gd_out ?_ (by omega)
      have := h.2.2.1 (k + 1) (by omega)
      refine ⟨?_, fun p hp => ?_⟩
      · rw [hf, if_pos (by omega), show 27 * k + 27 = 27 * (k + 1) by omega]; exact this.1
      · rw [hf, if_pos (by omega), show 27 * k + 5 + 4 * p + 27 = 27 * (k + 1) + 5 + 4 * p by omega]; exact this.2 p hp
    · have : k = 7 := by omega
      subst this
      exact gd_in (b := 27 * 7) (c := 0) (d := 0) h.1 (by decide)
  · have hU8 : U < 8 := by
      rcases Nat.lt_or_ge U 8 with q | q
      · exact q
      · have : U = 8 := by omega
        subst this
        exact absurd eU h8
    refine ok_b (notes48_ok σ hU8 eU) (fun q2 hq2 => ok_s ?_)
    rw [hq2]
    refine ⟨⟨h.1, ?_, fun k hk => ?_, h.2.2.2⟩, rfl⟩
    · show rg (p6_undos σ + 1) 9
      rw [eU, nI_1]; exact rg_nI (by omega)
    · show gd (cpf (p6_undone σ) (p6_now σ) (27 * U) 0 27) (27 * k)
      by_cases hk' : k = U
      · subst hk'
        exact gd_in (b := 27 * k) (c := 0) (d := 0) h.1 (by decide)
      · exact gd_out (h.2.2.1 k hk) (by omega)
theorem okm_hours {σ : St6} (h : IM t ln sz σ) (x : Int32) : ok (fun q => IM t ln sz q.2) (f_X6_hours σ x) := by
  unfold f_X6_hours
  refine ok_b (ok_in _ _ _) (fun r hr => ok_i (fun _ => ok_s h) (fun h0 => ok_i (fun _ => ?_) (fun _ => ok_s h)))
  obtain ⟨M, hM, rfl⟩ := rg_ask hr h0 (H := 48) (by decide) (by decide) (by decide)
  refine ok_b (P := fun q => IM t ln sz q.2) ?_ (fun q hq => ok_b (okm_stopped hq) (fun _ _ => ok_s hq))
  exact lpG (fun n z s => lp_X6_hours_33 (nI M) n z s) M (by omega) (fun _ s => IM t ln sz s) _ (fun n z s => rfl) (fun _ _ _ => rfl) (fun s hs => ok_s hs) (fun n k s hk hs ih => ok_b (okm_notes hs) (fun s1 h1 => ok_b (km_goesBy h1.1 0) (fun s2 h2 => ih _ h2.1))) σ h
theorem okm_lend {σ : St6} (h : IM t ln sz σ) (x y : Int32) : ok (fun q => IM t ln sz q.2) (f_X6_lend σ x y) := by
  unfold f_X6_lend
  refine ok_b (okm_isPerson h x) (fun r hr => ok_i (fun _ => ok_s h) (fun h0 => ?_))
  have hx := (hr.resolve_left h0).2
  refine ok_b (ok_in _ _ _) (fun _ _ => ok_i (fun _ => ok_s h) (fun _ => ok_b (okm_turns σ hx) (fun _ _ => ok_i (fun _ => ok_s h) (fun _ => ?_))))
  exact ok_b (okm_notes h) (fun s1 h1 => ok_b (km_lent h1.1 hx y) (fun s2 h2 => ok_b (okm_turns s2 hx) (fun _ _ => ok_s h2.1)))
theorem okm_tell {σ : St6} (h : IM t ln sz σ) (x y : Int32) : ok (fun q => IM t ln sz q.2) (f_X6_tell σ x y) := by
  unfold f_X6_tell
  refine ok_b (okm_isPerson h x) (fun r hr => ok_i (fun _ => ok_s h) (fun h0 => ?_))
  have hx := (hr.resolve_left h0).2
  refine ok_i (fun e => ok_i (fun _ => ok_s h) (fun _ => ok_b (okm_whom h hx) (fun _ _ => ok_i (fun _ => ok_s h) (fun _ => ok_b (okm_notes h) (fun s1 h1 => ok_b (km_tells2 h1.1 hx (Or.inl e)) (fun s2 h2 => ok_s h2.1)))))) (fun _ => ?_)
  refine ok_b (okm_isPerson h y) (fun r2 hr2 => ok_i (fun _ => ok_s h) (fun h1 => ?_))
  have hy := (hr2.resolve_left h1).2
  exact ok_i (fun _ => ok_s h) (fun _ => ok_b (okm_whom h hx) (fun _ _ => ok_i (fun _ => ok_s h) (fun _ => ok_b (okm_notes h) (fun s1 h1 => ok_b (km_tells2 h1.1 hx (Or.inr hy)) (fun s2 h2 => ok_s h2.1)))))
theorem okm_cut {σ : St6} (h : IM t ln sz σ) (x y : Int32) : ok (fun q => IM t ln sz q.2) (f_X6_cut σ x y) := by
  unfold f_X6_cut
  refine ok_b (okm_isPerson h x) (fun r hr => ok_i (fun _ => ok_s h) (fun h0 => ?_))
  have hx := (hr.resolve_left h0).2
  refine ok_b (ok_in _ _ _) (fun _ _ => ok_i (fun _ => ok_s h) (fun _ => ok_b (okm_told3 σ hx) (fun _ _ => ok_i (fun _ => ok_s h) (fun _ => ?_))))
  exact ok_b (okm_notes h) (fun s1 h1 => ok_b (km_tells3 h1.1 hx y) (fun s2 h2 => ok_s h2.1))
theorem draw31 (y : Int64) : ∃ j : Nat, j < 2 ^ 31 ∧ (y &&& 2147483647).toInt32 = nI j := by
  rw [Int64.toInt32_and]
  exact pk_andE y.toInt32 (m := Int64.toInt32 2147483647) 31 (by decide +kernel)
theorem drift_body {n : Nat} {x1 x2 : Int32} {r : St6} (h : IM t ln sz r) {D : Int32} (hD : ∃ j : Nat, j < 2 ^ 31 ∧ D = nI j) (ih : ∀ s, IM t ln sz s → ok (fun q => IM t ln sz q.2) (lp_X6_drift_33 x1 n x2 s)) :
    ok (fun q => IM t ln sz q.2) (if ((upd (p6_now r) ((2 : Int32).toNatClampNeg) D) (0 : Int32).toNatClampNeg) ≤ 0 then ((f_X6_goesBy (s6_now r (upd (p6_now r) ((2 : Int32).toNatClampNeg) D)) 0).bind (fun r7 => lp_X6_drift_33 x1 n x2 r7)) else (if ((((upd (p6_now r) ((2 : Int32).toNatClampNeg) D) (2 : Int32).toNatClampNeg) / 65536) - (((upd (p6_now r) ((2 : Int32).toNatClampNeg) D) (2 : Int32).toNatClampNeg) / 65536) / 4 * 4) = 0 then (if ¬ ((upd (p6_now r) ((2 : Int32).toNatClampNeg) D) (0 : Int32).toNatClampNeg) = 0 then ((f_X6_lent (s6_now r (upd (p6_now r) ((2 : Int32).toNatClampNeg) D)) ((((upd (p6_now r) ((2 : Int32).toNatClampNeg) D) (2 : Int32).toNatClampNeg) / 128) - (((upd (p6_now r) ((2 : Int32).toNatClampNeg) D) (2 : Int32).toNatClampNeg) / 128) / ((upd (p6_now r) ((2 : Int32).toNatClampNeg) D) (0 : Int32).toNatClampNeg) * ((upd (p6_now r) ((2 : Int32).toNatClampNeg) D) (0 : Int32).toNatClampNeg)) 3).bind (fun r11 => ((f_X6_goesBy r11 0).bind (fun r12 => lp_X6_drift_33 x1 n x2 r12)))) else none) else ((f_X6_goesBy (s6_now r (upd (p6_now r) ((2 : Int32).toNatClampNeg) D)) 0).bind (fun r9 => lp_X6_drift_33 x1 n x2 r9)))) := by
  obtain ⟨N, hN, e⟩ := h.people
  obtain ⟨j, hj, rfl⟩ := hD
  have h' := ((KM.refl h).w2 (nI j)).1
  have e0 : upd (p6_now r) ((2 : Int32).toNatClampNeg) (nI j) ((0 : Int32).toNatClampNeg) = nI N := e
  have e2 : upd (p6_now r) ((2 : Int32).toNatClampNeg) (nI j) ((2 : Int32).toNatClampNeg) = nI j := pk_us
  rw [e0, e2]
  refine ok_i (fun _ => ok_b (km_goesBy h' 0) (fun s hs => ih s hs.1)) (fun hp => ok_i (fun _ => ?_) (fun _ => ok_b (km_goesBy h' 0) (fun s hs => ih s hs.1)))
  have hN0 : 0 < N := by
    rcases Nat.eq_zero_or_pos N with q | q
    · subst q; exact absurd (by decide) hp
    · exact q
  refine ok_g (nI_ne0 hN0 (by omega)) ?_
  have ed : nI j / 128 = nI (j / 128) := pk_div hj (by decide) (by decide)
  rw [ed, pk_rem (by omega) hN0 (by omega)]
  have : j / 128 % N < N := Nat.mod_lt _ hN0
  exact ok_b (km_lent h' (rg_nI (by omega)) 3) (fun s1 h1 => ok_b (km_goesBy h1.1 0) (fun s hs => ih s hs.1))
theorem okm_drift {σ : St6} (h : IM t ln sz σ) (x : Int32) : ok (fun q => IM t ln sz q.2) (f_X6_drift σ x) := by
  unfold f_X6_drift
  refine ok_b (ok_in _ _ _) (fun r hr => ok_i (fun _ => ok_s h) (fun h0 => ok_i (fun _ => ?_) (fun _ => ok_s h)))
  obtain ⟨M, hM, rfl⟩ := rg_ask hr h0 (H := 48) (by decide) (by decide) (by decide)
  refine ok_b (P := fun q => IM t ln sz q.2) ?_ (fun q hq => ok_b (okm_stopped hq) (fun _ _ => ok_s hq))
  refine lpG (fun n z s => lp_X6_drift_33 (nI M) n z s) M (by omega) (fun _ s => IM t ln sz s) _ (fun n z s => rfl) (fun _ _ _ => rfl) (fun s hs => ok_s hs) (fun n k s hk hs ih => ok_b (okm_notes hs) (fun s1 h1 => ?_)) σ h
  exact drift_body h1.1 (draw31 _) ih
theorem undo_ok (σ : St6) {U : Nat} (hU : U < 8) (e : p6_undos σ = nI U) : ok (fun q => q.2 = s6_now σ (cpf (p6_now σ) (p6_undone σ) 0 (27 * U) 27)) (lp_X6_undo_22 FU 0 σ) := by
  refine lpG (fun n z s => lp_X6_undo_22 n z s) 27 (by decide) (fun k s => s = s6_now σ (cpf (p6_now σ) (p6_undone σ) 0 (27 * U) k)) _ (fun n z s => rfl) (fun _ _ _ => rfl) (fun s hs => ok_s hs) (fun n k s hk hs ih => ?_) σ (by rw [cpf_0])
  have eu : p6_undos s = nI U := by rw [hs]; exact e
  have ei : 27 * p6_undos s + nI k = nI (27 * U + k) := by
    rw [eu, show (27 : Int32) = nI 27 from rfl, nI_mul, nI_add]
  rw [ei]
  refine ok_g (inB_nI (by omega) (by decide)) (ok_g (inB_nI hk (by decide)) (ih _ ?_))
  rw [hs, ← cpf_s, nI_clamp (by omega), nI_clamp (by omega)]
  simp only [Nat.zero_add]
theorem okm_undo {σ : St6} (h : IM t ln sz σ) : ok (fun q => IM t ln sz q.2) (f_X6_undo σ) := by
  unfold f_X6_undo
  obtain ⟨U, hU, eU⟩ := h.2.1
  refine ok_i (fun _ => ok_s h) (fun h0 => ?_)
  have hU0 : 0 < U := by
    rcases Nat.eq_zero_or_pos U with q | q
    · subst q; exact absurd eU h0
    · exact q
  have e1 : p6_undos σ - 1 = nI (U - 1) := by rw [eU]; exact pk_sub (b := 1) hU0
  refine ok_b (undo_ok _ (U := U - 1) (by omega) e1) (fun q hq => ok_s ?_)
  rw [hq]
  refine ⟨?_, ?_, h.2.2⟩
  · exact gd_in (b := 0) (c := 27 * (U - 1)) (d := 0) (h.2.2.1 (U - 1) (by omega)) (by decide)
  · show rg (p6_undos σ - 1) 9
    rw [e1]; exact rg_nI (by omega)
theorem okm_seed {σ : St6} (h : IM t ln sz σ) (x : Int32) : ok (fun q => IM t ln sz q.2) (f_X6_seed σ x) := by
  unfold f_X6_seed
  exact ok_i (fun _ => ok_s ((KM.refl h).w2 x).1) (fun _ => ok_s h)
end
