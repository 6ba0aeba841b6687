/-! THE FULL RELATION: an hour goes by -/
noncomputable def upT (k : Nat) (g f : Nat → Int32) : Nat → Int32 := fun i => if i < k then g i else f i
theorem upT_0 (g f : Nat → Int32) : upT 0 g f = f := by
  funext i; unfold upT; rw [if_neg (by omega)]
theorem upT_s (k : Nat) (g f : Nat → Int32) : upd (upT k g f) k (g k) = upT (k + 1) g f := by
  funext i
  unfold upd upT
  by_cases e : i = k
  · rw [if_pos e, if_pos (by omega), e]
  · rw [if_neg e]
    by_cases h : i < k
    · rw [if_pos h, if_pos (by omega)]
    · rw [if_neg h, if_neg (by omega)]
theorem upT_lt {k : Nat} {g f : Nat → Int32} {i : Nat} (h : i < k) : upT k g f i = g i := by unfold upT; rw [if_pos h]
theorem upT_ge {k : Nat} {g f : Nat → Int32} {i : Nat} (h : k ≤ i) : upT k g f i = f i := by unfold upT; rw [if_neg (by omega)]
/-- the turns of a row of the reference -/
noncomputable def upN (k : Nat) (g f : Nat → Int32) : Nat → Int32 := fun j => if j % 4 = 0 ∧ 4 ≤ j ∧ j < 4 + 4 * k then g ((j - 4) / 4) else f j
theorem upN_0 (g f : Nat → Int32) : upN 0 g f = f := by
  funext j; unfold upN; rw [if_neg (by omega)]
theorem upN_s (k : Nat) (g f : Nat → Int32) : upd (upN k g f) (4 + 4 * k) (g k) = upN (k + 1) g f := by
  funext j
  unfold upd upN
  by_cases e : j = 4 + 4 * k
  · rw [if_pos e, if_pos (by omega), show (j - 4) / 4 = k by omega]
  · rw [if_neg e]
    by_cases h : j % 4 = 0 ∧ 4 ≤ j ∧ j < 4 + 4 * k
    · rw [if_pos h, if_pos (by omega)]
    · rw [if_neg h, if_neg (by omega)]
theorem upN_t {k : Nat} {g f : Nat → Int32} {i : Nat} (h : i < k) : upN k g f (4 + 4 * i) = g i := by
  unfold upN; rw [if_pos (by omega), show (4 + 4 * i - 4) / 4 = i by omega]
theorem upN_o {k : Nat} {g f : Nat → Int32} {j : Nat} (h : ¬ (j % 4 = 0 ∧ 4 ≤ j ∧ j < 4 + 4 * k)) : upN k g f j = f j := by
  unfold upN; rw [if_neg h]
theorem PMo.tset {N : Nat} {p : St2} {f g : Nat → Int32} (h : PMo N p f 0) (hg : ∀ i, i < N → rg (g i) 31) : PMo N (s2_turns p (upT N g (p2_turns p))) (upN N g f) 0 := by
  obtain ⟨h1, h2, h3, h4, h5, h6⟩ := h
  refine ⟨h1, h2, ?_, ?_, ?_, fun i hi => ?_⟩
  · rw [upN_o (by omega)]; exact h3
  · rw [upN_o (by omega)]; exact h4
  · rw [upN_o (by omega)]; exact h5
  · obtain ⟨a1, a2, a3, a4, a5, a6, a7⟩ := h6 i hi
    refine ⟨?_, ?_, ?_, ?_, a5, ?_, a7⟩
    · rw [upN_o (by omega)]; exact a1
    · show upT N g (p2_turns p) i = _
      rw [upT_lt hi, show 0 + 4 + 4 * i = 4 + 4 * i by omega, upN_t hi]
    · rw [upN_o (by omega)]; exact a3
    · rw [upN_o (by omega)]; exact a4
    · show rg (upT N g (p2_turns p) i) 31
      rw [upT_lt hi]; exact hg i hi
theorem PMo.hset {N : Nat} {p : St2} {f : Nat → Int32} (h : PMo N p f 0) (v : Int32) : PMo N (s2_hour p v) (upd f 1 v) 0 := by
  obtain ⟨h1, h2, h3, h4, h5, h6⟩ := h
  refine ⟨h1, h2, ?_, ?_, ?_, fun i hi => ?_⟩
  · rw [pk_un (by decide)]; exact h3
  · show v = upd f 1 v (0 + 1)
    exact pk_us.symm
  · rw [pk_un (by decide)]; exact h5
  · obtain ⟨a1, a2, a3, a4, a5⟩ := h6 i hi
    refine ⟨?_, ?_, ?_, ?_, a5⟩
    · rw [pk_un (by omega)]; exact a1
    · rw [pk_un (by omega)]; exact a2
    · rw [pk_un (by omega)]; exact a3
    · rw [pk_un (by omega)]; exact a4
theorem PMo.dset {N : Nat} {p : St2} {f : Nat → Int32} (h : PMo N p f 0) (v : Int32) : PMo N (s2_draw p v) (upd f 2 v) 0 := by
  obtain ⟨h1, h2, h3, h4, h5, h6⟩ := h
  refine ⟨h1, h2, ?_, ?_, ?_, fun i hi => ?_⟩
  · rw [pk_un (by decide)]; exact h3
  · rw [pk_un (by decide)]; exact h4
  · show v = upd f 2 v (0 + 2)
    exact pk_us.symm
  · obtain ⟨a1, a2, a3, a4, a5⟩ := h6 i hi
    refine ⟨?_, ?_, ?_, ?_, a5⟩
    · rw [pk_un (by omega)]; exact a1
    · rw [pk_un (by omega)]; exact a2
    · rw [pk_un (by omega)]; exact a3
    · rw [pk_un (by omega)]; exact a4
/-- one turn at least is left, or none -/
noncomputable def dn (a b : Int32) : Int32 := if 0 < a - b then a - b else 0
theorem dn_le (a b : Int32) : (if 0 ≤ a - b then a - b else 0) = dn a b := by
  unfold dn
  by_cases h : (0 : Int32) < a - b
  · rw [if_pos h, if_pos (Int32.le_of_lt h)]
  · rw [if_neg h]
    by_cases h2 : (0 : Int32) ≤ a - b
    · rw [if_pos h2]
      have h3 := Int32.le_iff_toInt_le.mp h2
      have h4 : ¬ (0 : Int32).toInt < (a - b).toInt := fun q => h (Int32.lt_iff_toInt_lt.mpr q)
      exact Int32.toInt_inj.mp (by omega)
    · rw [if_neg h2]
theorem dn_rg {a b : Int32} (ha : rg a 31) (hb : rg b 5) : rg (dn a b) 31 := by
  obtain ⟨x, hx, rfl⟩ := ha
  obtain ⟨y, hy, rfl⟩ := hb
  unfold dn
  by_cases h : y ≤ x
  · rw [pk_sub h]
    by_cases h2 : (0 : Int32) < nI (x - y)
    · rw [if_pos h2]; exact rg_nI (by omega)
    · rw [if_neg h2]; exact ⟨0, by decide, rfl⟩
  · rw [if_neg (fun q => by
      have h1 := Int32.lt_iff_toInt_lt.mp q
      rw [pk_sub_toInt (by omega) (by omega)] at h1
      have z : (0 : Int32).toInt = 0 := rfl
      omega)]
    exact ⟨0, by decide, rfl⟩
/-- one hour's running -/
noncomputable def runP (N : Nat) (p : St2) : St2 := s2_hour (s2_turns p (upT N (fun i => dn (p2_turns p i) (rn N p i)) (p2_turns p))) (p2_hour p + 1)
/-- a moment of the class is in order -/
noncomputable def CPo (N : Nat) (p : St2) : Prop := N ≤ 6 ∧ p2_size p = nI N ∧ ∀ i, i < N → rg (p2_kinds p i) 5 ∧ rg (p2_turns p i) 31 ∧ (p2_winds p i = -4 ∨ rg (p2_winds p i) N) ∧ rg (p2_keys p i) 13
theorem PMo.cp {N : Nat} {p : St2} {f : Nat → Int32} {b : Nat} (h : PMo N p f b) : CPo N p := ⟨h.1, h.2.1, fun i hi => (h.2.2.2.2.2 i hi).2.2.2.2⟩
theorem CPo.tset {N : Nat} {p : St2} {g : Nat → Int32} (h : CPo N p) (hg : ∀ i, i < N → rg (g i) 31) : CPo N (s2_turns p (upT N g (p2_turns p))) := by
  refine ⟨h.1, h.2.1, fun i hi => ?_⟩
  obtain ⟨a1, a2, a3, a4⟩ := h.2.2 i hi
  refine ⟨a1, ?_, a3, a4⟩
  show rg (upT N g (p2_turns p) i) 31
  rw [upT_lt hi]; exact hg i hi
theorem stN_bit {N : Nat} {p : St2} {i : Nat} (hi : i < N) : (stN N p).testBit i = decide (p2_turns p i = 0) := bset_bit _ N i hi
theorem rn_A {N : Nat} {p : St2} (h : CPo N p) {i : Nat} (hi : i < N) : rnV (p2_hour p) (p2_kinds p i) ((stN N p).testBit i) (wsB p (stN N p) i) (decide (nI (wbN N p (nI i)) = 0)) = rn N p i := by
  have hN := h.1
  unfold rn wsB
  rw [stN_bit hi]
  by_cases e : p2_winds p i = -4
  · rw [decide_eq_false (show ¬ ¬ p2_winds p i = -4 from fun q => q e), Bool.false_and, Bool.false_and]
  · obtain ⟨j, hj, ej⟩ := (h.2.2 i hi).2.2.1.resolve_left e
    rw [ej, nI_clamp (by omega), stN_bit hj]
theorem c_run {N : Nat} {p : St2} (h : CPo N p) : f_X2_run p = some (runP N p) := by
  have hN := h.1
  unfold f_X2_run
  rw [bd_eq (c_stopped h.2.1 hN)]
  refine ok_eq (ok_b (P := fun q => q.2 = s2_turns p (upT N (fun i => dn (p2_turns p i) (rn N p i)) (p2_turns p))) ?_ (fun q hq => ok_s (by rw [hq]; rfl)))
  refine lpG (fun n z s => lp_X2_run_7 (nI (stN N p)) n z s) N (by omega) (fun k s => s = s2_turns p (upT k (fun i => dn (p2_turns p i) (rn N p i)) (p2_turns p))) _ (fun n z s => rfl) (fun k s hs => by rw [hs]; exact h.2.1) (fun s hs => ok_s hs) (fun n k s hk hs ih => ?_) p (by rw [upT_0])
  subst hs
  have hk6 : k < 6 := by omega
  obtain ⟨a1, a2, a3, a4⟩ := h.2.2 k hk
  have hr := c_runsOff (p := s2_turns p (upT k (fun i => dn (p2_turns p i) (rn N p i)) (p2_turns p))) (A := stN N p) h.2.1 hN (bset_64 _ hN) hk6 a1 a3
  rw [if_pos (inB_nI hk6 (by decide)), bd_eq hr, if_pos (inB_nI hk6 (by decide)), nI_clamp (by omega)]
  refine ih _ ?_
  have er : rnV (p2_hour (s2_turns p (upT k (fun i => dn (p2_turns p i) (rn N p i)) (p2_turns p)))) (p2_kinds (s2_turns p (upT k (fun i => dn (p2_turns p i) (rn N p i)) (p2_turns p))) k) ((stN N p).testBit k) (wsB (s2_turns p (upT k (fun i => dn (p2_turns p i) (rn N p i)) (p2_turns p))) (stN N p) k) (decide (nI (wbN N (s2_turns p (upT k (fun i => dn (p2_turns p i) (rn N p i)) (p2_turns p))) (nI k)) = 0)) = rn N p k := rn_A h hk
  rw [er]
  show s2_turns p (upd (upT k (fun i => dn (p2_turns p i) (rn N p i)) (p2_turns p)) k (dn (upT k (fun i => dn (p2_turns p i) (rn N p i)) (p2_turns p) k) (rn N p k))) = _
  rw [upT_ge (Nat.le_refl k)]
  rw [← upT_s]
/-- the reference but for now and change -/
noncomputable def SN (σ r : St6) : Prop := ∃ (c f : Nat → Int32), r = s6_change (s6_now σ f) c
theorem SN.refl (σ : St6) : SN σ σ := ⟨p6_change σ, p6_now σ, rfl⟩
theorem SN.trans {a b c : St6} (h1 : SN a b) (h2 : SN b c) : SN a c := by
  obtain ⟨x, y, rfl⟩ := h1
  obtain ⟨z, w, rfl⟩ := h2
  exact ⟨z, w, rfl⟩
theorem m_run {N : Nat} {p : St2} {σ : St6} (h : PMo N p (p6_now σ) 0) : ok (fun r => SN σ r ∧ PMo N (runP N p) (p6_now r) 0) ((lp_X6_goesBy_14 FU 0 σ).bind (fun q6 => ((lp_X6_goesBy_43 FU 0 q6.2).bind (fun q13 => some (s6_now q13.2 (upd (p6_now q13.2) ((1 : Int32).toNatClampNeg) (((p6_now q13.2) (1 : Int32).toNatClampNeg) + 1))))))) := by
  have hN := h.1
  refine ok_b (P := fun q => q.2 = s6_change σ (upT N (rn N p) (p6_change σ))) ?_ (fun q hq => ?_)
  · refine lpG (fun n z s => lp_X6_goesBy_14 n z s) N (by omega) (fun k s => s = s6_change σ (upT k (rn N p) (p6_change σ))) _ (fun n z s => rfl) (fun k s hs => by rw [hs]; exact h.n) (fun s hs => ok_s hs) (fun n k s hk hs ih => ?_) σ (by rw [upT_0])
    subst hs
    have hr : f_X6_runs (s6_change σ (upT k (rn N p) (p6_change σ))) (nI k) = some (rn N p k) := m_runs (σ := s6_change σ (upT k (rn N p) (p6_change σ))) h hk
    rw [bd_eq hr, if_pos (inB_nI (show k < 6 by omega) (by decide)), nI_clamp (by omega)]
    refine ih _ ?_
    show s6_change σ (upd (upT k (rn N p) (p6_change σ)) k (rn N p k)) = _
    rw [upT_s]
  · rw [hq]
    have hb := h.2.2.2.2.2
    refine ok_b (P := fun q => q.2 = s6_now (s6_change σ (upT N (rn N p) (p6_change σ))) (upN N (fun i => dn (p2_turns p i) (rn N p i)) (p6_now σ))) ?_ (fun q hq => ok_s ?_)
    · refine lpG (fun n z s => lp_X6_goesBy_43 n z s) N (by omega) (fun k s => s = s6_now (s6_change σ (upT N (rn N p) (p6_change σ))) (upN k (fun i => dn (p2_turns p i) (rn N p i)) (p6_now σ))) _ (fun n z s => rfl) (fun k s hs => ?_) (fun s hs => ok_s hs) (fun n k s hk hs ih => ?_) _ (by rw [upN_0])
      · rw [hs]
        show upN k (fun i => dn (p2_turns p i) (rn N p i)) (p6_now σ) 0 = nI N
        rw [upN_o (by omega)]; exact h.n
      · subst hs
        have hk6 : k < 6 := by omega
        have e1 : p6_now (s6_now (s6_change σ (upT N (rn N p) (p6_change σ))) (upN k (fun i => dn (p2_turns p i) (rn N p i)) (p6_now σ))) (4 + 4 * k) = p2_turns p k := by
          show upN k (fun i => dn (p2_turns p i) (rn N p i)) (p6_now σ) (4 + 4 * k) = _
          rw [upN_o (by omega), h.tn hk]
        have e2 : p6_change (s6_now (s6_change σ (upT N (rn N p) (p6_change σ))) (upN k (fun i => dn (p2_turns p i) (rn N p i)) (p6_now σ))) k = rn N p k := upT_lt hk
        rw [bd_eq (turns_eq _ hk6), e1, if_pos (inB_nI hk6 (by decide)), nI_clamp (by omega), e2]
        have fin : ∀ v, v = dn (p2_turns p k) (rn N p k) → s6_now (s6_now (s6_change σ (upT N (rn N p) (p6_change σ))) (upN k (fun i => dn (p2_turns p i) (rn N p i)) (p6_now σ))) (upd (upN k (fun i => dn (p2_turns p i) (rn N p i)) (p6_now σ)) (3 + 4 * k + 1) v) = s6_now (s6_change σ (upT N (rn N p) (p6_change σ))) (upN (k + 1) (fun i => dn (p2_turns p i) (rn N p i)) (p6_now σ)) := fun v hv => by
          rw [← upN_s, hv, show 3 + 4 * k + 1 = 4 + 4 * k by omega]
        by_cases h0 : (0 : Int32) ≤ p2_turns p k - rn N p k
        · rw [if_pos h0, show (1 : Int32) = nI 1 from rfl, bd_eq (tells_eq _ hk6 (by decide) _)]
          exact ih _ (fin _ (by rw [← dn_le, if_pos h0]))
        · rw [if_neg h0, show (1 : Int32) = nI 1 from rfl, bd_eq (tells_eq _ hk6 (by decide) _)]
          exact ih _ (fin _ (by rw [← dn_le, if_neg h0]))
    · rw [hq]
      refine ⟨⟨_, _, rfl⟩, ?_⟩
      have hp := (h.tset (g := fun i => dn (p2_turns p i) (rn N p i)) (fun i hi => dn_rg (hb i hi).2.2.2.2.2.1 (rn_rg _ _ _ _ _))).hset (p2_hour p + 1)
      have eh : upN N (fun i => dn (p2_turns p i) (rn N p i)) (p6_now σ) 1 = p2_hour p := by
        rw [upN_o (by omega)]; exact h.2.2.2.1.symm
      show PMo N (runP N p) (upd (upN N (fun i => dn (p2_turns p i) (rn N p i)) (p6_now σ)) 1 (upN N (fun i => dn (p2_turns p i) (rn N p i)) (p6_now σ) 1 + 1)) 0
      rw [eh]
      exact hp
-- what is wound
noncomputable def addk (p : St2) (B : Nat → Bool) : Nat → Nat → Nat
  | 0, _ => 0
  | k + 1, i => addk p B k i + (if B k = true ∧ p2_winds p k = nI i then (p2_keys p k).toNatClampNeg else 0)
theorem addk_cg (p : St2) {B B' : Nat → Bool} : ∀ k, (∀ q, q < k → B q = B' q) → ∀ i, addk p B k i = addk p B' k i := by
  intro k
  induction k with
  | zero => intro _ _; rfl
  | succ k ih =>
    intro h i
    show addk p B k i + _ = addk p B' k i + _
    rw [ih (fun q hq => h q (by omega)) i, h k (by omega)]
theorem addk_le {N : Nat} {p : St2} (h : CPo N p) (B : Nat → Bool) : ∀ k i, k ≤ N → addk p B k i ≤ 12 * k := by
  intro k
  induction k with
  | zero => intro i _; exact Nat.le_refl _
  | succ k ih =>
    intro i hk
    have h1 := ih i (by omega)
    have h2 := rg_cl (h.2.2 k (by omega)).2.2.2 (by decide)
    show addk p B k i + (if B k = true ∧ p2_winds p k = nI i then (p2_keys p k).toNatClampNeg else 0) ≤ 12 * (k + 1)
    by_cases c : B k = true ∧ p2_winds p k = nI i
    · rw [if_pos c]; omega
    · rw [if_neg c]; omega
/-- the turns of i, wound by k -/
noncomputable def wtn (p : St2) (B : Nat → Bool) (k i : Nat) : Int32 := nI (min 30 ((p2_turns p i).toNatClampNeg + addk p B k i))
theorem wtn_rg (p : St2) (B : Nat → Bool) (k i : Nat) : rg (wtn p B k i) 31 := ⟨_, by omega, rfl⟩
noncomputable def wndP (N : Nat) (B : Nat → Bool) (p : St2) : St2 := s2_turns p (upT N (wtn p B N) (p2_turns p))
theorem wndP_cg {N : Nat} {p : St2} {B B' : Nat → Bool} (h : ∀ q, q < N → B q = B' q) : wndP N B p = wndP N B' p := by
  unfold wndP
  have : wtn p B N = wtn p B' N := by
    funext i; unfold wtn; rw [addk_cg p N h i]
  rw [this]
theorem wtn_0 {N : Nat} {p : St2} (h : CPo N p) (B : Nat → Bool) : upT N (wtn p B 0) (p2_turns p) = p2_turns p := by
  funext i
  by_cases hi : i < N
  · rw [upT_lt hi]
    obtain ⟨x, hx, e⟩ := (h.2.2 i hi).2.1
    show nI (min 30 ((p2_turns p i).toNatClampNeg + 0)) = _
    rw [e, nI_clamp (by omega), show min 30 (x + 0) = x by omega]
  · rw [upT_ge (by omega)]
theorem wtn_no {p : St2} {B : Nat → Bool} {k i : Nat} (h : ¬ (B k = true ∧ p2_winds p k = nI i)) : wtn p B (k + 1) i = wtn p B k i := by
  show nI (min 30 (_ + (addk p B k i + (if B k = true ∧ p2_winds p k = nI i then (p2_keys p k).toNatClampNeg else 0)))) = _
  rw [if_neg h]; rfl
theorem wtn_yes {p : St2} {B : Nat → Bool} {k i y : Nat} (h : B k = true ∧ p2_winds p k = nI i) (hy : p2_keys p k = nI y) (hy2 : y < 13) : wtn p B (k + 1) i = (if wtn p B k i + nI y < 30 then wtn p B k i + nI y else 30) := by
  show nI (min 30 (_ + (addk p B k i + (if B k = true ∧ p2_winds p k = nI i then (p2_keys p k).toNatClampNeg else 0)))) = _
  rw [if_pos h, hy, nI_clamp (by omega)]
  unfold wtn
  generalize (p2_turns p i).toNatClampNeg = a
  generalize addk p B k i = b
  rw [nI_add]
  by_cases hl : min 30 (a + b) + y < 30
  · rw [if_pos (show nI (min 30 (a + b) + y) < (30 : Int32) from nI_lt (b := 30) hl (by decide))]
    congr 1; omega
  · rw [if_neg (show ¬ nI (min 30 (a + b) + y) < (30 : Int32) from nI_nlt (b := 30) (by omega) (by omega)), show min 30 (a + (b + y)) = 30 by omega]
    rfl
theorem c_wind {N : Nat} {p : St2} (h : CPo N p) {A : Nat} (hA : A < 64) : f_X2_wind p (nI A) = some (wndP N (fun q => A.testBit q && decide (¬ p2_winds p q = -4)) p) := by
  have hN := h.1
  unfold f_X2_wind
  refine ok_eq (ok_b (P := fun q => q.2 = wndP N (fun q => A.testBit q && decide (¬ p2_winds p q = -4)) p) ?_ (fun q hq => ok_s hq))
  refine lpG (fun n z s => lp_X2_wind_2 (nI A) n z s) N (by omega) (fun k s => s = s2_turns p (upT N (wtn p (fun q => A.testBit q && decide (¬ p2_winds p q = -4)) k) (p2_turns p))) _ (fun n z s => rfl) (fun k s hs => by rw [hs]; exact h.2.1) (fun s hs => ok_s hs) (fun n k s hk hs ih => ?_) p (by rw [wtn_0 h])
  generalize hB : (fun q => A.testBit q && decide (¬ p2_winds p q = -4)) = B at hs ih ⊢
  have hBk : B k = (A.testBit k && decide (¬ p2_winds p k = -4)) := by rw [← hB]
  have hk6 : k < 6 := by omega
  have hb := bit_and A hA k hk6
  have no : B k = false → s = s2_turns p (upT N (wtn p B (k + 1)) (p2_turns p)) := fun q => by
    rw [hs]
    have : wtn p B (k + 1) = wtn p B k := by funext i; exact wtn_no (fun c => by rw [q] at c; exact absurd c.1 (by decide))
    rw [this]
  obtain ⟨a1, a2, a3, a4⟩ := h.2.2 k hk
  have ew : p2_winds s k = p2_winds p k := by rw [hs]
  have ek : p2_keys s k = p2_keys p k := by rw [hs]
  have es : p2_size s = nI N := by rw [hs]; exact h.2.1
  cases ht : A.testBit k
  · rw [if_pos (hb.mpr ht)]
    exact ih _ (no (by rw [hBk, ht]; rfl))
  · rw [if_neg (fun q => by rw [hb.mp q] at ht; cases ht), if_pos (inB_nI hk6 (by decide)), if_pos (inB_nI hk6 (by decide)), if_pos (inB_nI hk6 (by decide)), nI_clamp (by omega), ew, ek, bd_eq (c_has es hN a3)]
    by_cases e4 : p2_winds p k = -4
    · rw [if_pos e4, if_pos rfl]
      exact ih _ (no (by rw [hBk, decide_eq_false (show ¬ ¬ p2_winds p k = -4 from fun q => q e4), Bool.and_false]))
    · rw [if_neg e4, if_neg (by decide)]
      obtain ⟨w, hw, e⟩ := a3.resolve_left e4
      obtain ⟨y, hy, ey⟩ := a4
      have hBt : B k = true := by rw [hBk, ht, decide_eq_true e4]; rfl
      have hadd : f_X2_addTurns s (nI w) (nI y) = some (s2_turns s (upd (p2_turns s) w (if p2_turns s w + nI y < 30 then p2_turns s w + nI y else 30))) := by
        unfold f_X2_addTurns
        rw [if_pos (inB_nI (show w < 6 by omega) (by decide)), if_pos (inB_nI (show w < 6 by omega) (by decide)), nI_clamp (by omega)]
      rw [e, ey, bd_eq hadd]
      refine ih _ ?_
      rw [hs]
      show s2_turns p (upd (upT N (wtn p B k) (p2_turns p)) w (if upT N (wtn p B k) (p2_turns p) w + nI y < 30 then upT N (wtn p B k) (p2_turns p) w + nI y else 30)) = s2_turns p (upT N (wtn p B (k + 1)) (p2_turns p))
      have hfn : upd (upT N (wtn p B k) (p2_turns p)) w (if upT N (wtn p B k) (p2_turns p) w + nI y < 30 then upT N (wtn p B k) (p2_turns p) w + nI y else 30) = upT N (wtn p B (k + 1)) (p2_turns p) := by
        rw [upT_lt hw]
        funext i
        unfold upd
        by_cases ei : i = w
        · rw [if_pos ei, ei, upT_lt hw, wtn_yes ⟨hBt, e⟩ ey hy]
        · rw [if_neg ei]
          by_cases hi : i < N
          · rw [upT_lt hi, upT_lt hi, wtn_no (fun c => by
              have := c.2.symm.trans e
              exact ei ((nI_eq (by omega) (by omega)).mp this))]
          · rw [upT_ge (by omega), upT_ge (by omega)]
      rw [hfn]
/-- who winds, but for a set -/
noncomputable def Bm (p : St2) (x : Int32) : Nat → Bool := fun q => decide (¬ p2_turns p q = 0) && (decide (¬ p2_winds p q = -4) && decide (((x >>> (nI q &&& 31)) &&& 1) = 0))
theorem m_winds {N : Nat} {p : St2} {σ : St6} (h : PMo N p (p6_now σ) 0) (x : Int32) : ok (fun r => SN σ r ∧ PMo N (wndP N (Bm p x) p) (p6_now r) 0) (f_X6_winds σ x) := by
  have hN := h.1
  have hc := h.cp
  unfold f_X6_winds
  refine ok_b (P := fun q => q.2 = s6_change σ (upT 6 (fun _ => 0) (p6_change σ))) ?_ (fun q hq => ?_)
  · refine lpG (fun n z s => lp_X6_winds_2 x n z s) 6 (by decide) (fun k s => s = s6_change σ (upT k (fun _ => 0) (p6_change σ))) _ (fun n z s => rfl) (fun _ _ _ => rfl) (fun s hs => ok_s hs) (fun n k s hk hs ih => ?_) σ (by rw [upT_0])
    subst hs
    rw [if_pos (inB_nI hk (by decide)), nI_clamp (by omega)]
    refine ih _ ?_
    show s6_change σ (upd (upT k (fun _ => 0) (p6_change σ)) k 0) = _
    rw [← upT_s]
  · rw [hq]
    generalize hB : Bm p x = B
    refine ok_b (P := fun q => ∃ c, q.2 = s6_change σ c ∧ ∀ i, i < 6 → c i = nI (addk p B N i)) ?_ (fun q hq => ?_)
    · refine lpG (fun n z s => lp_X6_winds_23 x n z s) N (by omega) (fun k s => ∃ c, s = s6_change σ c ∧ ∀ i, i < 6 → c i = nI (addk p B k i)) _ (fun n z s => rfl) (fun k s hs => by obtain ⟨c, e, _⟩ := hs; rw [e]; exact h.n) (fun s hs => ok_s hs) (fun n k s hk hs ih => ?_) _ ⟨_, rfl, fun i hi => upT_lt hi⟩
      obtain ⟨c, e, hci⟩ := hs
      subst e
      have hk6 : k < 6 := by omega
      have hp : PMo N p (p6_now (s6_change σ c)) 0 := h
      have hBk : B k = (decide (¬ p2_turns p k = 0) && (decide (¬ p2_winds p k = -4) && decide (((x >>> (nI k &&& 31)) &&& 1) = 0))) := by rw [← hB]; rfl
      have no : B k = false → ∃ c', s6_change σ c = s6_change σ c' ∧ ∀ i, i < 6 → c' i = nI (addk p B (k + 1) i) := fun q => ⟨c, rfl, fun i hi => by
        rw [hci i hi]
        show _ = nI (addk p B k i + (if B k = true ∧ p2_winds p k = nI i then (p2_keys p k).toNatClampNeg else 0))
        rw [if_neg (fun c => by rw [q] at c; exact absurd c.1 (by decide)), Nat.add_zero]⟩
      rw [bd_eq (hp.stop hk)]
      by_cases h0 : p2_turns p k = 0
      · rw [if_pos h0, if_neg (by decide)]
        exact ih _ (no (by rw [hBk, decide_eq_false (show ¬ ¬ p2_turns p k = 0 from fun q => q h0), Bool.false_and]))
      · rw [if_neg h0, if_pos rfl, bd_eq (hp.whom hk), bd_eq (hp.whom hk)]
        by_cases h4 : p2_winds p k = -4
        · rw [if_pos h4]
          exact ih _ (no (by rw [hBk, decide_eq_false (show ¬ ¬ p2_winds p k = -4 from fun q => q h4), Bool.false_and, Bool.and_false]))
        · rw [if_neg h4]
          by_cases hx : ((x >>> (nI k &&& 31)) &&& 1) = 0
          · rw [if_pos hx]
            obtain ⟨a1, a2, a3, a4⟩ := hc.2.2 k hk
            obtain ⟨w, hw, ew⟩ := a3.resolve_left h4
            obtain ⟨y, hy, ey⟩ := a4
            have hBt : B k = true := by rw [hBk, decide_eq_true h0, decide_eq_true h4, decide_eq_true hx]; rfl
            rw [ew, if_pos (inB_nI (show w < 6 by omega) (by decide)), bd_eq (hp.key hk), if_pos (inB_nI (show w < 6 by omega) (by decide)), nI_clamp (by omega)]
            refine ih _ ⟨upd c w (c w + p2_keys p k), rfl, fun i hi => ?_⟩
            show upd c w (c w + p2_keys p k) i = nI (addk p B k i + (if B k = true ∧ p2_winds p k = nI i then (p2_keys p k).toNatClampNeg else 0))
            unfold upd
            by_cases ei : i = w
            · rw [if_pos ei, ei, if_pos ⟨hBt, ew⟩, hci w (by omega), ey, nI_add, nI_clamp (by omega)]
            · rw [if_neg ei, if_neg (fun c => ei ((nI_eq (by omega) (by omega)).mp (c.2.symm.trans ew))), Nat.add_zero]
              exact hci i hi
          · rw [if_neg hx]
            exact ih _ (no (by rw [hBk, decide_eq_false hx, Bool.and_false, Bool.and_false]))
    · obtain ⟨c, e, hci⟩ := hq
      rw [e]
      refine ok_b (P := fun q => q.2 = s6_now (s6_change σ c) (upN N (wtn p B N) (p6_now σ))) ?_ (fun q hq => ok_s ?_)
      · refine lpG (fun n z s => lp_X6_winds_86 n z s) N (by omega) (fun k s => s = s6_now (s6_change σ c) (upN k (wtn p B N) (p6_now σ))) _ (fun n z s => rfl) (fun k s hs => ?_) (fun s hs => ok_s hs) (fun n k s hk hs ih => ?_) _ (by rw [upN_0])
        · rw [hs]
          show upN k (wtn p B N) (p6_now σ) 0 = nI N
          rw [upN_o (by omega)]; exact h.n
        · subst hs
          have hk6 : k < 6 := by omega
          have e1 : p6_now (s6_now (s6_change σ c) (upN k (wtn p B N) (p6_now σ))) (4 + 4 * k) = p2_turns p k := by
            show upN k (wtn p B N) (p6_now σ) (4 + 4 * k) = _
            rw [upN_o (by omega), h.tn hk]
          have e2 : p6_change (s6_now (s6_change σ c) (upN k (wtn p B N) (p6_now σ))) k = nI (addk p B N k) := hci k hk6
          obtain ⟨x0, hx0, ex⟩ := (hc.2.2 k hk).2.1
          have hle := addk_le hc B N k (Nat.le_refl _)
          rw [bd_eq (turns_eq _ hk6), e1, if_pos (inB_nI hk6 (by decide)), nI_clamp (by omega), e2, ex, nI_add]
          have fin : ∀ v, v = wtn p B N k → s6_now (s6_now (s6_change σ c) (upN k (wtn p B N) (p6_now σ))) (upd (upN k (wtn p B N) (p6_now σ)) (3 + 4 * k + 1) v) = s6_now (s6_change σ c) (upN (k + 1) (wtn p B N) (p6_now σ)) := fun v hv => by
            rw [← upN_s, hv, show 3 + 4 * k + 1 = 4 + 4 * k by omega]
          have hwt : wtn p B N k = nI (min 30 (x0 + addk p B N k)) := by unfold wtn; rw [ex, nI_clamp (by omega)]
          by_cases h30 : x0 + addk p B N k ≤ 30
          · rw [if_pos (show nI (x0 + addk p B N k) ≤ (30 : Int32) from nI_le (b := 30) h30 (by decide)), show (1 : Int32) = nI 1 from rfl, bd_eq (tells_eq _ hk6 (by decide) _)]
            exact ih _ (fin _ (by rw [hwt, show min 30 (x0 + addk p B N k) = x0 + addk p B N k by omega]))
          · rw [if_neg (show ¬ nI (x0 + addk p B N k) ≤ (30 : Int32) from nI_ge (a := 30) (by omega) (by omega)), show (1 : Int32) = nI 1 from rfl, bd_eq (tells_eq _ hk6 (by decide) _)]
            exact ih _ (fin _ (by rw [hwt, show min 30 (x0 + addk p B N k) = 30 by omega]; rfl))
      · rw [hq]
        exact ⟨⟨_, _, rfl⟩, h.tset (fun i _ => wtn_rg p B N i)⟩
-- the hour
noncomputable def hz (h : Int32) : Prop := h - h / 8 * 8 = 0
/-- an hour, those of a set not winding -/
noncomputable def goP (N : Nat) (x : Int32) (p : St2) : St2 := if p2_hour p - p2_hour p / 8 * 8 = 0 then runP N (wndP N (Bm p x) p) else runP N p
noncomputable def passP (N : Nat) (p : St2) : St2 := goP N 0 p
theorem m_goesBy {N : Nat} {p : St2} {σ : St6} (h : PMo N p (p6_now σ) 0) (x : Int32) : ok (fun r => SN σ r ∧ PMo N (goP N x p) (p6_now r) 0) (f_X6_goesBy σ x) := by
  unfold f_X6_goesBy f_X6_isWinding goP
  have hh : p6_now σ ((1 : Int32).toNatClampNeg) = p2_hour p := h.2.2.2.1.symm
  rw [hh]
  by_cases h8 : p2_hour p - p2_hour p / 8 * 8 = 0
  · rw [if_pos h8, if_pos h8]
    refine ok_b (P := fun r => r = 1) (ok_s rfl) (fun r hr => ?_)
    rw [hr, if_neg (by decide)]
    exact ok_b (m_winds h x) (fun r hr => ok_w (m_run hr.2) (fun r' hr' => ⟨hr.1.trans hr'.1, hr'.2⟩))
  · rw [if_neg h8, if_neg h8]
    refine ok_b (P := fun r => r = 0) (ok_s rfl) (fun r hr => ?_)
    rw [hr, if_pos rfl]
    exact m_run h
theorem Bm0 (p : St2) (q : Nat) : Bm p 0 q = (decide (¬ p2_turns p q = 0) && decide (¬ p2_winds p q = -4)) := by
  unfold Bm
  have : (((0 : Int32) >>> (nI q &&& 31)) &&& 1) = 0 := by
    rw [Int32.zero_shiftRight]; rfl
  rw [decide_eq_true this, Bool.and_true]
theorem c_winders {N : Nat} {p : St2} (h : CPo N p) : f_X2_winders p = some (nI (bset (fun q => decide (¬ p2_turns p q = 0) && decide (¬ p2_winds p q = -4)) N)) := by
  have hN := h.1
  unfold f_X2_winders
  refine ok_eq (ok_b (P := fun q => q.1 = nI (bset (fun q => decide (¬ p2_turns p q = 0) && decide (¬ p2_winds p q = -4)) N)) ?_ (fun q hq => ok_s hq))
  refine lpG (fun n z a => lp_X2_winders_4 p n a z) N (by omega) (fun k a => a = nI (bset (fun q => decide (¬ p2_turns p q = 0) && decide (¬ p2_winds p q = -4)) k)) _ (fun n z s => rfl) (fun _ _ _ => h.2.1) (fun s hs => ok_s hs) (fun n k s hk hs ih => ?_) 0 rfl
  rw [bd_eq (c_stop (show k < 6 by omega))]
  by_cases h0 : p2_turns p k = 0
  · rw [if_pos h0, if_neg (by decide)]
    exact ih _ (bs_n hs (by rw [decide_eq_false (show ¬ ¬ p2_turns p k = 0 from fun q => q h0), Bool.false_and]))
  · rw [if_neg h0, if_pos rfl, if_pos (inB_nI (show k < 6 by omega) (by decide)), nI_clamp (by omega), bd_eq (c_has h.2.1 hN (h.2.2 k hk).2.2.1)]
    by_cases h4 : p2_winds p k = -4
    · rw [if_pos h4, if_pos rfl]
      exact ih _ (bs_n hs (by rw [decide_eq_false (show ¬ ¬ p2_winds p k = -4 from fun q => q h4), Bool.and_false]))
    · rw [if_neg h4, if_neg (by decide)]
      exact ih _ (bs_y hs (by omega) (by rw [decide_eq_true h0, decide_eq_true h4]; rfl))
theorem CPo.wnd {N : Nat} {p : St2} (h : CPo N p) (B : Nat → Bool) : CPo N (wndP N B p) := h.tset (fun i _ => wtn_rg p B N i)
theorem CPo.run {N : Nat} {p : St2} (h : CPo N p) : CPo N (runP N p) := h.tset (g := fun i => dn (p2_turns p i) (rn N p i)) (fun i hi => dn_rg (h.2.2 i hi).2.1 (rn_rg _ _ _ _ _))
theorem CPo.go {N : Nat} {p : St2} (h : CPo N p) (x : Int32) : CPo N (goP N x p) := by
  unfold goP
  by_cases h8 : p2_hour p - p2_hour p / 8 * 8 = 0
  · rw [if_pos h8]; exact (h.wnd _).run
  · rw [if_neg h8]; exact h.run
theorem c_passHour {N : Nat} {p : St2} (h : CPo N p) : f_X2_passHour p = some (passP N p) := by
  have hN := h.1
  unfold f_X2_passHour f_X2_isWindingHour passP goP
  by_cases h8 : p2_hour p - p2_hour p / 8 * 8 = 0
  · rw [if_pos h8, if_pos h8, bd_eq (v := (1 : Int32)) rfl, if_neg (by decide), bd_eq (c_winders h), bd_eq (c_wind h (bset_64 _ hN))]
    have e : wndP N (fun q => (bset (fun q => decide (¬ p2_turns p q = 0) && decide (¬ p2_winds p q = -4)) N).testBit q && decide (¬ p2_winds p q = -4)) p = wndP N (Bm p 0) p := wndP_cg (fun q hq => by
      rw [bset_bit _ N q hq, Bm0, Bool.and_assoc, Bool.and_self])
    rw [e, bd_eq (c_run (h.wnd _))]
  · rw [if_neg h8, if_neg h8, bd_eq (v := (0 : Int32)) rfl, if_pos rfl, bd_eq (c_run h)]
/-- many hours -/
noncomputable def passI (N : Nat) : Nat → St2 → St2
  | 0, p => p
  | k + 1, p => passP N (passI N k p)
theorem CPo.pass {N : Nat} {p : St2} (h : CPo N p) : ∀ k, CPo N (passI N k p) := by
  intro k
  induction k with
  | zero => exact h
  | succ k ih => exact ih.go 0
theorem c_passHours {N : Nat} {p : St2} (h : CPo N p) {K : Nat} (hK : K ≤ 50000) : f_X2_passHours p (nI K) = some (passI N K p) := by
  unfold f_X2_passHours
  refine ok_eq (ok_b (P := fun q => q.2 = passI N K p) ?_ (fun q hq => ok_s hq))
  refine lpG (fun n z s => lp_X2_passHours_2 (nI K) n z s) K hK (fun k s => s = passI N k p) _ (fun n z s => rfl) (fun _ _ _ => rfl) (fun s hs => ok_s hs) (fun n k s hk hs ih => ?_) p rfl
  rw [hs, bd_eq (c_passHour (h.pass k))]
  exact ih _ rfl
theorem m_goesOn {N : Nat} {p : St2} {σ : St6} (h : PMo N p (p6_now σ) 0) {K : Nat} (hK : K ≤ 50000) : ok (fun r => SN σ r ∧ PMo N (passI N K p) (p6_now r) 0) (f_X6_goesOn σ (nI K)) := by
  unfold f_X6_goesOn
  refine ok_b (P := fun q => SN σ q.2 ∧ PMo N (passI N K p) (p6_now q.2) 0) ?_ (fun q hq => ok_s hq)
  exact lpG (fun n z s => lp_X6_goesOn_2 (nI K) n z s) K hK (fun k s => SN σ s ∧ PMo N (passI N k p) (p6_now s) 0) _ (fun n z s => rfl) (fun _ _ _ => rfl) (fun s hs => ok_s hs) (fun n k s hk hs ih => ok_b (m_goesBy hs.2 0) (fun r hr => ih _ ⟨hs.1.trans hr.1, hr.2⟩)) σ ⟨SN.refl σ, h⟩
