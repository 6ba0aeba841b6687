/-! THE FULL RELATION: drift, person, image, restore -/
theorem nd_a : Int64.toInt32 1103515245 = (1103515245 : Int32) := by decide +kernel
theorem nd_b : Int64.toInt32 12345 = (12345 : Int32) := by decide +kernel
theorem nd_c : Int64.toInt32 2147483647 = (2147483647 : Int32) := by decide +kernel
theorem nd64 (d : Int32) : (((d.toInt64 * 1103515245) + 12345) &&& 2147483647).toInt32 = nextD d := by
  unfold nextD
  rw [Int64.toInt32_and, Int64.toInt32_add, Int64.toInt32_mul, Int32.toInt32_toInt64, nd_a, nd_b, nd_c]
noncomputable def driB (r : St6) (D : Int32) (f : St6 → Option (Int32 × St6)) : Option (Int32 × St6) := (if ((upd (p6_now r) ((2 : Int32).toNatClampNeg) D) (0 : Int32).toNatClampNeg) ≤ 0 then ((f_X6_goesBy (s6_now r (upd (p6_now r) ((2 : Int32).toNatClampNeg) D)) 0).bind (fun r7 => f r7)) else (if ((((upd (p6_now r) ((2 : Int32).toNatClampNeg) D) (2 : Int32).toNatClampNeg) / 65536) - (((upd (p6_now r) ((2 : Int32).toNatClampNeg) D) (2 : Int32).toNatClampNeg) / 65536) / 4 * 4) = 0 then (if ¬ ((upd (p6_now r) ((2 : Int32).toNatClampNeg) D) (0 : Int32).toNatClampNeg) = 0 then ((f_X6_lent (s6_now r (upd (p6_now r) ((2 : Int32).toNatClampNeg) D)) ((((upd (p6_now r) ((2 : Int32).toNatClampNeg) D) (2 : Int32).toNatClampNeg) / 128) - (((upd (p6_now r) ((2 : Int32).toNatClampNeg) D) (2 : Int32).toNatClampNeg) / 128) / ((upd (p6_now r) ((2 : Int32).toNatClampNeg) D) (0 : Int32).toNatClampNeg) * ((upd (p6_now r) ((2 : Int32).toNatClampNeg) D) (0 : Int32).toNatClampNeg)) 3).bind (fun r11 => ((f_X6_goesBy r11 0).bind (fun r12 => f r12)))) else none) else ((f_X6_goesBy (s6_now r (upd (p6_now r) ((2 : Int32).toNatClampNeg) D)) 0).bind (fun r9 => f r9))))
theorem SN.nw (r : St6) (f : Nat → Int32) : SN r (s6_now r f) := ⟨p6_change r, f, rfl⟩
section
variable {N : Nat} {p : St2} {σ : St6} {q : St1}
theorem driR {r : St6} (h : PMo N p (p6_now r) 0) {D : Int32} (hD : D = nextD (p2_draw p)) (f : St6 → Option (Int32 × St6)) : ∃ p1 s', f_X2_lendByDraw p = some p1 ∧ CPo N p1 ∧ driB r D f = f s' ∧ SN r s' ∧ PMo N (passP N p1) (p6_now s') 0 := by
  have hN := h.1
  obtain ⟨j, hj, ej⟩ := nextD_pos (p2_draw p)
  have hDj : D = nI j := hD.trans ej
  have h2 : PMo N (s2_draw p D) (p6_now (s6_now r (upd (p6_now r) ((2 : Int32).toNatClampNeg) D))) 0 := h.dset D
  have e0 : upd (p6_now r) ((2 : Int32).toNatClampNeg) D ((0 : Int32).toNatClampNeg) = nI N := h.n
  have e2 : upd (p6_now r) ((2 : Int32).toNatClampNeg) D ((2 : Int32).toNatClampNeg) = D := pk_us
  unfold f_X2_lendByDraw driB nam
  dsimp only
  rw [← hD, h.2.1, e0, e2]
  obtain ⟨s1, es1, hs1, hp1⟩ := m_goesBy h2 0
  have plain : ∃ p1 s', some (s2_draw p D) = some p1 ∧ CPo N p1 ∧ ((f_X6_goesBy (s6_now r (upd (p6_now r) ((2 : Int32).toNatClampNeg) D)) 0).bind (fun r7 => f r7)) = f s' ∧ SN r s' ∧ PMo N (passP N p1) (p6_now s') 0 := ⟨s2_draw p D, s1, rfl, h2.cp, by rw [bd_eq es1], (SN.nw r _).trans hs1, hp1⟩
  by_cases hN0 : N = 0
  · rw [if_pos (show nI N ≤ 0 by rw [hN0]; decide), if_pos (show nI N ≤ 0 by rw [hN0]; decide)]
    exact plain
  · rw [if_neg (nI_nle (show 0 < N by omega) (by omega)), if_neg (nI_nle (show 0 < N by omega) (by omega))]
    by_cases h4 : D / 65536 - D / 65536 / 4 * 4 = 0
    · rw [if_pos h4, if_pos h4, if_pos (nI_ne0 (show 0 < N by omega) (by omega)), if_pos (nI_ne0 (show 0 < N by omega) (by omega))]
      have ed : D / 128 = nI (j / 128) := by rw [hDj]; exact pk_div (d := 128) hj (by decide) (by decide)
      have hm : j / 128 % N < N := Nat.mod_lt _ (by omega)
      rw [ed, pk_rem (by omega) (show 0 < N by omega) (by omega), show (3 : Int32) = nI 3 from rfl, bd_eq (c_lend h2.cp hm (show 3 < 1000 by decide))]
      obtain ⟨s2, es2, hs2, hp2⟩ := m_lent h2 hm (show 3 < 1000 by decide)
      obtain ⟨s3, es3, hs3, hp3⟩ := m_goesBy hp2 0
      obtain ⟨g, rfl⟩ := hs2
      exact ⟨_, s3, rfl, hp2.cp, by rw [bd_eq es2, bd_eq es3], ((SN.nw r _).trans (SN.nw _ g)).trans hs3, hp3⟩
    · rw [if_neg h4, if_neg h4]
      exact plain
theorem q_drift (h : PMo N p (p6_now σ) 0) (hu : PU q (p6_undone σ) (p6_undos σ)) (κ : St5) (x1 : Int32) : AP σ (f_X5_drift κ p q x1) (f_X6_drift σ x1) := by
  unfold f_X5_drift f_X6_drift
  refine ap_bind ?_
  rcases c_spend_in κ 1 x1 with ⟨K, hK1, hK, rfl, e⟩ | ⟨ec, e⟩
  rotate_left
  · rw [ec, bd_eq e, i0]
    exact ap_same h hu _
  have hh : p6_now σ ((1 : Int32).toNatClampNeg) = p2_hour p := h.2.2.2.1.symm
  unfold f_X5_spend
  rw [bd_eq e, i1, if_neg (show ¬ nI K < (1 : Int32) from nI_nlt (b := 1) hK1 (by omega)), if_pos (show nI K ≤ (48 : Int32) from nI_le (b := 48) hK (by decide)), hh]
  by_cases hl : p2_hour p + nI K ≤ 9999
  rotate_left
  · rw [if_neg hl, if_neg hl]
    exact ap_same h hu _
  rw [if_pos hl, if_pos hl]
  obtain ⟨p', q', s', ec, em, hmp, hp', hq'⟩ := spendR κ 1 hK (fun n x s => lp_X6_drift_33 (nI K) n x s) (fun n x s => ((f_X6_notes s).bind (fun r5 => driB r5 (((((((p6_now r5) (2 : Int32).toNatClampNeg).toInt64) * 1103515245) + 12345) &&& 2147483647).toInt32) (fun r6 => lp_X6_drift_33 (nI K) n (x + 1) r6)))) (fun n x s => rfl) (fun n x s p q hp hq => by
    obtain ⟨N, hp⟩ := hp
    obtain ⟨q', eq, hn⟩ := keepR hq hp
    obtain ⟨r, er, h1, h2, h3⟩ := hn
    have hr := hp.nw h2
    have hd : p6_now r ((2 : Int32).toNatClampNeg) = p2_draw p := hr.2.2.2.2.1.symm
    obtain ⟨p1, s', el, hc, eb, h4, h5⟩ := driR hr (D := (((((((p6_now r) (2 : Int32).toNatClampNeg).toInt64) * 1103515245) + 12345) &&& 2147483647).toInt32)) (by rw [nd64, hd]) (fun r6 => lp_X6_drift_33 (nI K) n (x + 1) r6)
    refine ⟨passP N p1, q', ?_, s', ?_, h1.trans (MP.sn h4), ⟨N, h5⟩, h4.pu h3⟩
    · rw [bd_eq eq, if_neg (by decide), bd_eq el, bd_eq (c_passHour hc)]
    · show ((f_X6_notes s).bind (fun r5 => driB r5 (((((((p6_now r5) (2 : Int32).toNatClampNeg).toInt64) * 1103515245) + 12345) &&& 2147483647).toInt32) (fun r6 => lp_X6_drift_33 (nI K) n (x + 1) r6))) = _
      rw [bd_eq er]
      exact eb) K FU 0 p q σ (by omega) (by unfold FU; omega) ⟨N, h⟩ hu
  obtain ⟨N', hN'⟩ := hp'
  have ec' : lp_X5_spend_33 κ (nI K) 1 FU 0 p q = some (nI K, p', q') := ec
  have em' : lp_X6_drift_33 (nI K) FU 0 σ = some (nI K, s') := em
  rw [bd_eq ec', bd_eq em', bd_eq (c_stopped hN'.2.1 hN'.1), bd_eq (m_stopped hN')]
  exact ⟨_, _, _, _, rfl, rfl, hmp, ⟨N', hN'⟩, hq'⟩
-- one comes
noncomputable def comeN (f : Nat → Int32) (N : Nat) (a b c d : Int32) : Nat → Int32 := upd (upd (upd (upd (upd f (3 + 4 * N + 0) a) (3 + 4 * N + 1) b) (3 + 4 * N + 2) c) (3 + 4 * N + 3) d) 0 (nI (N + 1))
theorem comeN_0 (f : Nat → Int32) (N : Nat) (a b c d : Int32) : comeN f N a b c d 0 = nI (N + 1) := pk_us
theorem comeN_o {f : Nat → Int32} {N : Nat} {a b c d : Int32} {j : Nat} (h0 : j ≠ 0) (h : j < 3 + 4 * N ∨ 3 + 4 * N + 3 < j) : comeN f N a b c d j = f j := by
  unfold comeN
  rw [pk_un h0, pk_un (by omega), pk_un (by omega), pk_un (by omega), pk_un (by omega)]
theorem comeN_k (f : Nat → Int32) (N : Nat) (a b c d : Int32) : comeN f N a b c d (3 + 4 * N + 0) = a ∧ comeN f N a b c d (3 + 4 * N + 1) = b ∧ comeN f N a b c d (3 + 4 * N + 2) = c ∧ comeN f N a b c d (3 + 4 * N + 3) = d := by
  unfold comeN
  refine ⟨?_, ?_, ?_, ?_⟩
  · rw [pk_un (by omega), pk_un (by omega), pk_un (by omega), pk_un (by omega), pk_us]
  · rw [pk_un (by omega), pk_un (by omega), pk_un (by omega), pk_us]
  · rw [pk_un (by omega), pk_un (by omega), pk_us]
  · rw [pk_un (by omega), pk_us]
theorem m_comes {r : St6} {N : Nat} (hN : N < 6) (h0 : p6_now r 0 = nI N) (a b c d : Int32) : f_X6_personComes r a b c d = some (s6_undos (s6_now r (comeN (p6_now r) N a b c d)) 0) := by
  have h0' : p6_now r ((0 : Int32).toNatClampNeg) = nI N := h0
  unfold f_X6_personComes
  rw [h0', show (0 : Int32) = nI 0 from rfl, bd_eq (tells_eq r hN (by decide) a), show (1 : Int32) = nI 1 from rfl, bd_eq (tells_eq _ hN (by decide) b), show (2 : Int32) = nI 2 from rfl, bd_eq (tells_eq _ hN (by decide) c), show (3 : Int32) = nI 3 from rfl, bd_eq (tells_eq _ hN (by decide) d)]
  have e : p6_now (s6_now (s6_now (s6_now (s6_now r (upd (p6_now r) (3 + 4 * N + 0) a)) (upd (upd (p6_now r) (3 + 4 * N + 0) a) (3 + 4 * N + 1) b)) (upd (upd (upd (p6_now r) (3 + 4 * N + 0) a) (3 + 4 * N + 1) b) (3 + 4 * N + 2) c)) (upd (upd (upd (upd (p6_now r) (3 + 4 * N + 0) a) (3 + 4 * N + 1) b) (3 + 4 * N + 2) c) (3 + 4 * N + 3) d)) ((nI 0).toNatClampNeg) = nI N := by
    show upd (upd (upd (upd (p6_now r) (3 + 4 * N + 0) a) (3 + 4 * N + 1) b) (3 + 4 * N + 2) c) (3 + 4 * N + 3) d 0 = nI N
    rw [pk_un (by omega), pk_un (by omega), pk_un (by omega), pk_un (by omega), h0]
  have e2 : p6_now (s6_now (s6_now (s6_now (s6_now r (upd (p6_now r) (3 + 4 * N + 0) a)) (upd (upd (p6_now r) (3 + 4 * N + 0) a) (3 + 4 * N + 1) b)) (upd (upd (upd (p6_now r) (3 + 4 * N + 0) a) (3 + 4 * N + 1) b) (3 + 4 * N + 2) c)) (upd (upd (upd (upd (p6_now r) (3 + 4 * N + 0) a) (3 + 4 * N + 1) b) (3 + 4 * N + 2) c) (3 + 4 * N + 3) d)) ((nI 0).toNatClampNeg) + nI 1 = nI (N + 1) := by rw [e, nI_add]
  show some (s6_undos (s6_now r (upd (upd (upd (upd (upd (p6_now r) (3 + 4 * N + 0) a) (3 + 4 * N + 1) b) (3 + 4 * N + 2) c) (3 + 4 * N + 3) d) ((nI 0).toNatClampNeg) (p6_now (s6_now (s6_now (s6_now (s6_now r (upd (p6_now r) (3 + 4 * N + 0) a)) (upd (upd (p6_now r) (3 + 4 * N + 0) a) (3 + 4 * N + 1) b)) (upd (upd (upd (p6_now r) (3 + 4 * N + 0) a) (3 + 4 * N + 1) b) (3 + 4 * N + 2) c)) (upd (upd (upd (upd (p6_now r) (3 + 4 * N + 0) a) (3 + 4 * N + 1) b) (3 + 4 * N + 2) c) (3 + 4 * N + 3) d)) ((nI 0).toNatClampNeg) + nI 1))) (nI 0)) = _
  rw [e2]
  rfl
noncomputable def joinP (p : St2) (N : Nat) (a b : Int32) : St2 := s2_keys (s2_winds (s2_turns (s2_kinds (s2_size p (nI (N + 1))) (upd (p2_kinds p) N a)) (upd (p2_turns p) N b)) (upd (p2_winds p) N (-4))) (upd (p2_keys p) N 1)
theorem c_join {p : St2} {N : Nat} (hs : p2_size p = nI N) (hN : N < 6) (a b : Int32) : f_X2_join p a b = some (nI N, joinP p N a b) := by
  unfold f_X2_join joinP
  have hi := inB_nI hN (show 6 < 2 ^ 31 by decide)
  rw [hs, if_pos (show nI N < (6 : Int32) from nI_lt (b := 6) hN (by decide)), if_pos hi, if_pos hi, if_pos hi, if_pos hi, nI_clamp (by omega), nI_1, nI_pred]
theorem PMo.join {f : Nat → Int32} (h : PMo N p f 0) (hN : N < 6) {a b : Int32} (ha : rg a 5) (hb : rg b 31) : PMo (N + 1) (joinP p N a b) (comeN f N a b (-4) 1) 0 := by
  obtain ⟨h1, h2, h3, h4, h5, h6⟩ := h
  refine ⟨by omega, rfl, comeN_0 _ _ _ _ _ _, ?_, ?_, fun i hi => ?_⟩
  · rw [comeN_o (by omega) (by omega)]; exact h4
  · rw [comeN_o (by omega) (by omega)]; exact h5
  · by_cases e : i = N
    · subst e
      obtain ⟨c1, c2, c3, c4⟩ := comeN_k f i a b (-4) 1
      refine ⟨?_, ?_, ?_, ?_, ?_, ?_, ?_, ?_⟩
      · show upd (p2_kinds p) i a i = _
        rw [pk_us, show 0 + 3 + 4 * i = 3 + 4 * i + 0 by omega, c1]
      · show upd (p2_turns p) i b i = _
        rw [pk_us, show 0 + 4 + 4 * i = 3 + 4 * i + 1 by omega, c2]
      · show upd (p2_winds p) i (-4) i = _
        rw [pk_us, show 0 + 5 + 4 * i = 3 + 4 * i + 2 by omega, c3]
      · show upd (p2_keys p) i 1 i = _
        rw [pk_us, show 0 + 6 + 4 * i = 3 + 4 * i + 3 by omega, c4]
      · show rg (upd (p2_kinds p) i a i) 5
        rw [pk_us]; exact ha
      · show rg (upd (p2_turns p) i b i) 31
        rw [pk_us]; exact hb
      · show upd (p2_winds p) i (-4) i = -4 ∨ _
        rw [pk_us]; exact Or.inl rfl
      · show rg (upd (p2_keys p) i 1 i) 13
        rw [pk_us]; exact ⟨1, by decide, rfl⟩
    · obtain ⟨a1, a2, a3, a4, a5, a6, a7, a8⟩ := h6 i (by omega)
      refine ⟨?_, ?_, ?_, ?_, ?_, ?_, ?_, ?_⟩
      · show upd (p2_kinds p) N a i = _
        rw [pk_un e, comeN_o (by omega) (by omega)]; exact a1
      · show upd (p2_turns p) N b i = _
        rw [pk_un e, comeN_o (by omega) (by omega)]; exact a2
      · show upd (p2_winds p) N (-4) i = _
        rw [pk_un e, comeN_o (by omega) (by omega)]; exact a3
      · show upd (p2_keys p) N 1 i = _
        rw [pk_un e, comeN_o (by omega) (by omega)]; exact a4
      · show rg (upd (p2_kinds p) N a i) 5
        rw [pk_un e]; exact a5
      · show rg (upd (p2_turns p) N b i) 31
        rw [pk_un e]; exact a6
      · show upd (p2_winds p) N (-4) i = -4 ∨ rg (upd (p2_winds p) N (-4) i) (N + 1)
        rw [pk_un e]; exact a7.imp id (fun z => rg_up z (by omega))
      · show rg (upd (p2_keys p) N 1 i) 13
        rw [pk_un e]; exact a8
theorem PU.none {f g : Nat → Int32} {u : Int32} (hu : PU q f u) : PU (s1_size q 0) g 0 := by
  obtain ⟨K, e, hK, he, e1, e2, e3, hm⟩ := hu
  exact ⟨0, e, by decide, he, rfl, rfl, e3, fun k hk => by omega⟩
theorem q_person (h : PMo N p (p6_now σ) 0) (hu : PU q (p6_undone σ) (p6_undos σ)) (κ : St5) (x1 x2 : Int32) : AP σ (f_X5_person κ p q x1 x2) (f_X6_person σ x1 x2) := by
  unfold f_X5_person f_X6_person
  rcases inqN x1 0 4 (a' := 0) (b' := 4) (by decide) rfl rfl with ⟨a, -, ha, rfl, e3⟩ | ⟨hx, e3⟩
  rotate_left
  · rw [bd_eq e3, i0]
    exact ap_ok (r := -1) (gd2 hx) (ok_s ⟨rfl, MP.refl σ, ⟨N, h⟩, hu⟩)
  rw [bd_eq e3, i1, if_neg (show ¬ nI a < (0 : Int32) from nI_pos (by omega)), if_neg (show ¬ (4 : Int32) < nI a from nI_nlt (a := 4) ha (by decide))]
  rcases inqN x2 0 30 (a' := 0) (b' := 30) (by decide) rfl rfl with ⟨b, -, hb, rfl, e4⟩ | ⟨hx, e4⟩
  rotate_left
  · rw [bd_eq e4, i0]
    exact ap_ok (r := -1) (gd1 hx) (ok_s ⟨rfl, MP.refl σ, ⟨N, h⟩, hu⟩)
  rw [bd_eq e4, i1, if_neg (show ¬ nI b < (0 : Int32) from nI_pos (by omega)), if_pos (show nI b ≤ (30 : Int32) from nI_le (b := 30) hb (by decide)), h.n, h.2.1]
  have hN := h.1
  by_cases h6 : N = 6
  · rw [if_neg (show ¬ nI N < (6 : Int32) by rw [h6]; decide), if_pos (show nI N = (6 : Int32) by rw [h6]; rfl)]
    exact ap_same h hu _
  · rw [if_pos (show nI N < (6 : Int32) from nI_lt (b := 6) (by omega) (by decide)), if_neg (show ¬ nI N = (6 : Int32) from fun c => h6 ((nI_eq (a := N) (b := 6) (by omega) (by decide)).mp c))]
    have hc := m_comes (r := σ) (N := N) (by omega) h.n (nI a) (nI b) (-4) 1
    rw [bd_eq hc]
    have hj := h.join (by omega) (rg_nI (show a < 5 by omega)) (rg_nI (show b < 31 by omega))
    refine ap_ok (r := nI N) (nw := joinP p N (nI a) (nI b)) (ps := s1_size q 0) ?_ (ok_s ⟨?_, ⟨_, p6_change σ, p6_undone σ, _, rfl⟩, ⟨N + 1, hj⟩, hu.none⟩)
    · unfold f_X1_empty
      rw [bd_eq rfl, bd_eq (c_join h.2.1 (by omega) (nI a) (nI b))]
    · show comeN (p6_now σ) N (nI a) (nI b) (-4) 1 0 - 1 = nI N
      rw [comeN_0, nI_pred]
end
-- images
theorem m_image (σ : St6) : ok (fun z => z.1 = 1 ∧ z.2 = s6_isKept (s6_keptUndos (s6_kept σ (cpf (cpf (p6_kept σ) (p6_now σ) 0 0 27) (p6_undone σ) 27 0 216)) (p6_undos σ)) 1) (f_X6_image σ) := by
  unfold f_X6_image
  refine ok_b (P := fun q => q.2 = s6_kept σ (cpf (p6_kept σ) (p6_now σ) 0 0 27)) ?_ (fun q hq => ok_b (P := fun q => q.2 = s6_kept σ (cpf (cpf (p6_kept σ) (p6_now σ) 0 0 27) (p6_undone σ) 27 0 216)) ?_ (fun z hz => ok_s ⟨rfl, by rw [hz]⟩))
  · refine lpG (fun n z s => lp_X6_image_2 n z s) 27 (by decide) (fun k s => s = s6_kept σ (cpf (p6_kept σ) (p6_now σ) 0 0 k)) _ (fun n z s => rfl) (fun _ _ _ => rfl) (fun s hs => ok_s hs) (fun n k s hk hs ih => ?_) σ (by rw [cpf_0])
    refine ok_g (inB_nI hk (by decide)) (ok_g (inB_nI (show k < 243 by omega) (by decide)) (ih _ ?_))
    rw [hs, ← cpf_s, nI_clamp (by omega)]
    simp only [Nat.zero_add]
  · rw [hq]
    generalize cpf (p6_kept σ) (p6_now σ) 0 0 27 = G
    refine lpG (fun n z s => lp_X6_image_28 n z s) 216 (by decide) (fun k s => s = s6_kept σ (cpf G (p6_undone σ) 27 0 k)) _ (fun n z s => rfl) (fun _ _ _ => rfl) (fun s hs => ok_s hs) (fun n k s hk hs ih => ?_) _ (by rw [cpf_0])
    have e27 : (27 : Int32) + nI k = nI (27 + k) := nI_add 27 k
    rw [e27]
    refine ok_g (inB_nI hk (by decide)) (ok_g (inB_nI (show 27 + k < 243 by omega) (by decide)) (ih _ ?_))
    rw [hs, ← cpf_s, nI_clamp (by omega), nI_clamp (by omega)]
    simp only [Nat.zero_add]
theorem m_restore (σ : St6) (h : ¬ p6_isKept σ = 0) : ok (fun z => z.1 = 1 ∧ z.2 = s6_undos (s6_undone (s6_now σ (cpf (p6_now σ) (p6_kept σ) 0 0 27)) (cpf (p6_undone σ) (p6_kept σ) 0 27 216)) (p6_keptUndos σ)) (f_X6_restore σ) := by
  unfold f_X6_restore
  rw [if_neg h]
  refine ok_b (P := fun q => q.2 = s6_now σ (cpf (p6_now σ) (p6_kept σ) 0 0 27)) ?_ (fun q hq => ok_b (P := fun q => q.2 = s6_undone (s6_now σ (cpf (p6_now σ) (p6_kept σ) 0 0 27)) (cpf (p6_undone σ) (p6_kept σ) 0 27 216)) ?_ (fun z hz => ok_s ⟨rfl, by rw [hz]⟩))
  · refine lpG (fun n z s => lp_X6_restore_12 n z s) 27 (by decide) (fun k s => s = s6_now σ (cpf (p6_now σ) (p6_kept σ) 0 0 k)) _ (fun n z s => rfl) (fun _ _ _ => rfl) (fun s hs => ok_s hs) (fun n k s hk hs ih => ?_) σ (by rw [cpf_0])
    refine ok_g (inB_nI (show k < 243 by omega) (by decide)) (ok_g (inB_nI hk (by decide)) (ih _ ?_))
    rw [hs, ← cpf_s, nI_clamp (by omega)]
    simp only [Nat.zero_add]
  · rw [hq]
    generalize cpf (p6_now σ) (p6_kept σ) 0 0 27 = G
    refine lpG (fun n z s => lp_X6_restore_38 n z s) 216 (by decide) (fun k s => s = s6_undone (s6_now σ G) (cpf (p6_undone σ) (p6_kept σ) 0 27 k)) _ (fun n z s => rfl) (fun _ _ _ => rfl) (fun s hs => ok_s hs) (fun n k s hk hs ih => ?_) _ (by rw [cpf_0])
    have e27 : (27 : Int32) + nI k = nI (27 + k) := nI_add 27 k
    rw [e27]
    refine ok_g (inB_nI (show 27 + k < 243 by omega) (by decide)) (ok_g (inB_nI hk (by decide)) (ih _ ?_))
    rw [hs, ← cpf_s, nI_clamp (by omega), nI_clamp (by omega)]
    simp only [Nat.zero_add]
/-- a step of both, alike -/
noncomputable def S2 (FX : Option (Int32 × SX)) (fM : Option (Int32 × St6)) : Prop := ∃ r X' M', FX = some (r, X') ∧ fM = some (r, M') ∧ R2 X' M'
/-- a step that leaves the reference as it is -/
noncomputable def S2q (M : St6) (FX : Option (Int32 × SX)) (fM : Option Int32) : Prop := ∃ r X', FX = some (r, X') ∧ fM = some r ∧ R2 X' M
section
variable {X : SX} {M : St6}
theorem s2_al (h : R2 X M) {fx : Option (Int32 × St2)} {fm : Option (Int32 × St6)} (ha : AL M fx fm) : S2 (fx.bind (fun r => some (r.1, (sxtr X r.2)))) fm := by
  obtain ⟨r, t, M', e1, e2, hq⟩ := ha
  obtain ⟨⟨N, hp⟩, hu, hb⟩ := h
  refine ⟨r, sxtr X t, M', by rw [e1]; rfl, e2, ⟨N, hq.pr hp⟩, ?_, ?_⟩
  · obtain ⟨n, c, a, rfl, -⟩ := hq
    exact hu
  · obtain ⟨n, c, a, rfl, -⟩ := hq
    exact hb
theorem s2_ap (h : R2 X M) {fx : Option (Int32 × St2 × St1)} {fm : Option (Int32 × St6)} (ha : AP M fx fm) : S2 (fx.bind (fun r => some (r.1, (sxps (sxnw X r.2.1) r.2.2)))) fm := by
  obtain ⟨r, nw, ps, M', e1, e2, hm, hp, hu⟩ := ha
  refine ⟨r, sxps (sxnw X nw) ps, M', by rw [e1]; rfl, e2, hp, hu, ?_⟩
  show RBt (sxps (sxnw X nw) ps) (MR M')
  rw [hm.mr]
  exact h.2.2
theorem s2_av (h : R2 X M) {fx fm : Option Int32} (ha : AV fx fm) : S2q M (fx.bind (fun r => some (r, X))) fm := by
  obtain ⟨r, e1, e2⟩ := ha
  exact ⟨r, X, by rw [e1]; rfl, e2, h⟩
theorem s2_seed (h : R2 X M) (a : Int32) : S2 (FX_seed X a) (f_X6_seed M a) := by
  obtain ⟨⟨N, hp⟩, hu, hb⟩ := h
  obtain ⟨r, nw, M', e1, e2, ⟨n, rfl⟩, hp'⟩ := q_seed hp (xk X) a
  unfold FX_seed
  exact ⟨r, sxnw X nw, _, by rw [e1]; rfl, e2, ⟨N, hp'⟩, hu, hb⟩
theorem s2_image (h : R2 X M) : S2 (FX_image X) (f_X6_image M) := by
  obtain ⟨⟨N, hp⟩, hu, hb⟩ := h
  obtain ⟨⟨z, M'⟩, em, h1, h2⟩ := m_image M
  have h1' : z = 1 := h1
  have h2' : M' = _ := h2
  subst h1' h2'
  unfold FX_image f_X5_image
  refine ⟨1, _, _, rfl, em, ⟨N, hp⟩, hu, ?_⟩
  refine ⟨rfl, fun _ => ⟨⟨N, hp.cg (fun i hi => ?_)⟩, ?_⟩, hb.2.2⟩
  · show p6_now M (0 + i) = cpf (cpf (p6_kept M) (p6_now M) 0 0 27) (p6_undone M) 27 0 216 (0 + i)
    unfold cpf
    rw [if_neg (by omega), if_pos (by omega)]
    rfl
  · obtain ⟨K, e, hK, he, e1, e2, e3, hm⟩ := hu
    refine ⟨K, e, hK, he, e1, e2, e3, fun k hk => ?_⟩
    obtain ⟨N', hN'⟩ := hm k hk
    refine ⟨N', hN'.cg (fun i hi => ?_)⟩
    show p6_undone M (27 * k + i) = cpf (cpf (p6_kept M) (p6_now M) 0 0 27) (p6_undone M) 27 0 216 (27 + (27 * k + i))
    unfold cpf
    rw [if_pos (by omega), show 27 + (27 * k + i) - 27 + 0 = 27 * k + i by omega]
theorem s2_restore (h : R2 X M) : S2 (FX_restore X) (f_X6_restore M) := by
  have h0 := h
  obtain ⟨⟨N, hp⟩, hu, hb⟩ := h
  have hk : p5_isKept (xk X) = p6_isKept M := hb.1
  unfold FX_restore f_X5_restore
  by_cases e : p6_isKept M = 0
  · rw [hk, if_pos e]
    refine ⟨-4, _, M, rfl, ?_, h0⟩
    unfold f_X6_restore
    rw [if_pos e]
  · rw [hk, if_neg e]
    obtain ⟨⟨z, M'⟩, em, h1, h2⟩ := m_restore M e
    have h1' : z = 1 := h1
    have h2' : M' = _ := h2
    subst h1' h2'
    obtain ⟨⟨N', hp'⟩, hu'⟩ := hb.2.1 e
    refine ⟨1, _, _, rfl, em, ⟨N', hp'.cg (fun i hi => ?_)⟩, ?_, hb⟩
    · show p6_kept M (0 + i) = cpf (p6_now M) (p6_kept M) 0 0 27 (0 + i)
      unfold cpf
      rw [if_pos (by omega)]
      rfl
    · obtain ⟨K, e, hK, he, e1, e2, e3, hm⟩ := hu'
      refine ⟨K, e, hK, he, e1, e2, e3, fun k hk => ?_⟩
      obtain ⟨N', hN'⟩ := hm k hk
      refine ⟨N', hN'.cg (fun i hi => ?_)⟩
      show p6_kept M (27 + (27 * k + i)) = cpf (p6_undone M) (p6_kept M) 0 27 216 (27 * k + i)
      unfold cpf
      rw [if_pos (by omega), show 27 * k + i - 0 + 27 = 27 + (27 * k + i) by omega]
end
