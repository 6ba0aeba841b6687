/-! THE REFERENCE: a close is read -/
/-- the place is not far -/
noncomputable def CL (t : Int32) (ln sz : Nat → Int32) (B : Nat) (s : St6) : Prop := IM t ln sz s ∧ ∃ P : Nat, p6_place s = nI P ∧ P ≤ B
section
variable {t : Int32} {ln sz : Nat → Int32}
theorem IM.typed {s : St6} (h : IM t ln sz s) (v : Int32) : IM v ln sz (s6_typed s v) := ⟨h.1, h.2.1, h.2.2.1, h.2.2.2.1, h.2.2.2.2.1, h.2.2.2.2.2.1, h.2.2.2.2.2.2.1, rfl, h.2.2.2.2.2.2.2.2⟩
theorem IM.ty {s : St6} (h : IM t ln sz s) : p6_typed s = t := h.2.2.2.2.2.2.2.1
theorem CL.up {B B' : Nat} {s : St6} (h : CL t ln sz B s) (hB : B ≤ B') : CL t ln sz B' s := by
  obtain ⟨h1, P, e, hP⟩ := h
  exact ⟨h1, P, e, by omega⟩
theorem CL.flt {B : Nat} {s : St6} (h : CL t ln sz B s) (v : Int32) : CL t ln sz B (s6_isFault s v) := h
theorem CL.at {B : Nat} {s : St6} (h : CL t ln sz B s) {P : Nat} (hP : P ≤ B) : CL t ln sz B (s6_place s (nI P)) := ⟨h.1, P, rfl, hP⟩
theorem okm_here0 {T B : Nat} (hT : T ≤ 60) (hB : 60 ≤ B) (ht : t = nI T) : ∀ n P (s : St6), T - P < n → IM t ln sz s → p6_place s = nI P → P ≤ B → B < 1000 → ok (fun r => CL t ln sz B r ∧ p6_isFault r = p6_isFault s) (lp_X6_here_0 n s) := by
  intro n
  induction n with
  | zero => intro P s h; omega
  | succ n ih =>
    intro P s hn h e hP hB2
    rw [lp_X6_here_0]
    have ety : p6_typed s = nI T := h.ty.trans ht
    refine ok_i (fun _ => ok_s ⟨⟨h, P, e, hP⟩, rfl⟩) (fun hlt => ?_)
    have hPT : P < T := by
      rcases Nat.lt_or_ge P T with q | q
      · exact q
      · rw [ety, e] at hlt
        exact absurd (nI_le q (by omega)) hlt
    refine ok_g (by rw [e]; exact inB_nI (by omega) (by decide)) (ok_i (fun _ => ?_) (fun _ => ok_s ⟨⟨h, P, e, hP⟩, rfl⟩))
    refine ok_w (ih (P + 1) (s6_place s (p6_place s + 1)) (by omega) h ?_ (by omega) hB2) (fun r hr => hr)
    show p6_place s + 1 = nI (P + 1)
    rw [e, nI_1]
theorem okm_here {T B : Nat} (hT : T ≤ 60) (hB : 60 ≤ B) (hB2 : B < 1000) (ht : t = nI T) {s : St6} (h : CL t ln sz B s) : ok (fun q => CL t ln sz B q.2 ∧ p6_isFault q.2 = p6_isFault s) (f_X6_here s) := by
  obtain ⟨h1, P, e, hP⟩ := h
  unfold f_X6_here
  refine ok_b (okm_here0 hT hB ht FU P s (by unfold FU; omega) h1 e hP hB2) (fun r hr => ok_i (fun _ => ok_s hr) (fun hlt => ok_g ?_ (ok_s hr)))
  obtain ⟨⟨h2, P2, e2, hP2⟩, _⟩ := hr
  have ety : p6_typed r = nI T := h2.ty.trans ht
  rw [ety, e2] at hlt
  rw [e2]
  refine inB_nI ?_ (by decide)
  rcases Nat.lt_or_ge P2 T with q | q
  · omega
  · exact absurd (nI_le q (by omega)) hlt
theorem okm_must {B : Nat} {s : St6} (h : CL t ln sz B s) (x : Int32) : ok (fun r => CL t ln sz (B + 1) r ∧ (¬ p6_isFault s = 0 → ¬ p6_isFault r = 0) ∧ (x = 0 → ¬ p6_isFault r = 0)) (f_X6_must s x) := by
  obtain ⟨h1, P, e, hP⟩ := h
  unfold f_X6_must
  have e0 : p6_place s + 0 = nI P := by rw [e]; exact Int32.add_zero _
  have e1 : p6_place s + 1 = nI (P + 1) := by rw [e, nI_1]
  have n10 : ¬ (1 : Int32) = 0 := by decide
  rw [e0, e1]
  refine ok_i (fun hf => ok_i (fun hx => ok_s ⟨⟨h1, P, rfl, by omega⟩, fun _ => n10, fun _ => n10⟩) (fun hx => ok_s ⟨⟨h1, P + 1, rfl, by omega⟩, fun q => absurd hf q, fun q => absurd q hx⟩)) (fun hf => ok_s ⟨⟨h1, P, rfl, by omega⟩, fun _ => n10, fun _ => n10⟩)
theorem okm_number55 {T B : Nat} (hT : T ≤ 60) (hB : 60 ≤ B) (hB2 : B < 1000) (ht : t = nI T) (x1 x2 x4 : Int32) : ∀ n P (a : Int32) (s : St6), T - P < n → IM t ln sz s → p6_place s = nI P → P ≤ B → ok (fun q => CL t ln sz B q.2 ∧ p6_isFault q.2 = p6_isFault s) (lp_X6_number_55 x1 x2 x4 n a s) := by
  intro n
  induction n with
  | zero => intro P a s h; omega
  | succ n ih =>
    intro P a s hn h e hP
    rw [lp_X6_number_55]
    have ety : p6_typed s = nI T := h.ty.trans ht
    have done : CL t ln sz B s ∧ p6_isFault s = p6_isFault s := ⟨⟨h, P, e, hP⟩, rfl⟩
    refine ok_i (fun _ => ok_i (fun _ => ok_s done) (fun hlt => ok_i (fun _ => ok_s done) (fun _ => ?_))) (fun _ => ok_s done)
    have hPT : P < T := by
      rcases Nat.lt_or_ge P T with q | q
      · exact q
      · rw [ety, e] at hlt
        exact absurd (nI_le q (by omega)) hlt
    have hi : inB (p6_place s) 60 = true := by rw [e]; exact inB_nI (by omega) (by decide)
    refine ok_g hi (ok_b (ok_in _ _ _) (fun _ _ => ok_i (fun _ => ok_s done) (fun _ => ok_g hi ?_)))
    refine ok_w (ih (P + 1) _ (s6_place s (p6_place s + 1)) (by omega) h ?_ (by omega)) (fun r hr => hr)
    show p6_place s + 1 = nI (P + 1)
    rw [e, nI_1]
theorem okm_tail55 {T B : Nat} (hT : T ≤ 60) (hB : 60 ≤ B) (hB2 : B < 1000) (ht : t = nI T) (x1 x2 x4 : Int32) {s : St6} (h : CL t ln sz B s) {p0 : Int32} {P0 : Nat} (e0 : p0 = nI P0) (hP0 : P0 ≤ B) {a b : Int64} : ok (fun q => CL t ln sz B q.2 ∧ (¬ p6_isFault s = 0 → ¬ p6_isFault q.2 = 0)) ((lp_X6_number_55 x1 x2 x4 FU 0 s).bind (fun q => (if (p6_isFault q.2) = 0 then ((f_X6_in q.1.toInt64 a b).bind (fun r => (if r = 0 then some (q.1, (s6_isFault (s6_place q.2 p0) 1)) else some (q.1, q.2)))) else some (q.1, q.2)))) := by
  obtain ⟨h1, P, e, hP⟩ := h
  refine ok_b (okm_number55 hT hB hB2 ht x1 x2 x4 FU P 0 s (by unfold FU; omega) h1 e hP) (fun q hq => ?_)
  have hs : CL t ln sz B q.2 ∧ (¬ p6_isFault s = 0 → ¬ p6_isFault q.2 = 0) := ⟨hq.1, fun hf => by rw [hq.2]; exact hf⟩
  refine ok_i (fun _ => ok_b (ok_in _ _ _) (fun _ _ => ok_i (fun _ => ok_s ⟨?_, fun _ => by show ¬ (1 : Int32) = 0; decide⟩) (fun _ => ok_s hs))) (fun _ => ok_s hs)
  rw [e0]
  exact (hq.1.at hP0).flt 1
theorem okm_number {T B : Nat} (hT : T ≤ 60) (hB : 60 ≤ B) (hB2 : B < 1000) (ht : t = nI T) {s : St6} (h : CL t ln sz B s) (x1 x2 : Int32) : ok (fun q => CL t ln sz B q.2 ∧ (¬ p6_isFault s = 0 → ¬ p6_isFault q.2 = 0)) (f_X6_number s x1 x2) := by
  obtain ⟨h1, P, e, hP⟩ := h
  unfold f_X6_number
  refine ok_i (fun hf => ?_) (fun hf => ok_i (fun q => absurd q hf) (fun _ => ?_))
  · refine ok_b (okm_here hT hB hB2 ht ⟨h1, P, e, hP⟩) (fun r hr => ?_)
    obtain ⟨⟨h2, P2, e2, hP2⟩, hf2⟩ := hr
    have hc : CL t ln sz B r.2 := ⟨h2, P2, e2, hP2⟩
    refine ok_i (fun _ => ok_b (ok_in _ _ _) (fun _ _ => ok_i (fun _ => ?_) (fun _ => ?_))) (fun hb => absurd (hf2.trans hf) hb)
    · exact ok_w (okm_tail55 hT hB hB2 ht _ _ _ (hc.flt 1) e2 hP2) (fun q hq => ⟨hq.1, fun k => absurd hf k⟩)
    · exact ok_w (okm_tail55 hT hB hB2 ht _ _ _ (hc.flt 0) e2 hP2) (fun q hq => ⟨hq.1, fun k => absurd hf k⟩)
  · refine ok_w (okm_tail55 hT hB hB2 ht _ _ _ (CL.flt ⟨h1, P, e, hP⟩ 1) e hP) (fun q hq => ⟨hq.1, fun _ => hq.2 ?_⟩)
    show ¬ (1 : Int32) = 0
    decide
/-- what the reading of people comes to -/
noncomputable def QRd (t : Int32) (ln sz : Nat → Int32) (q : Int32 × St6) : Prop := CL t ln sz 200 q.2 ∧ ∃ m : Nat, q.1 = nI m ∧ m ≤ 7 ∧ (p6_isFault q.2 = 0 → m ≤ 6)
noncomputable def HR (t : Int32) (ln sz : Nat → Int32) (k : Nat) (rec : Int32 → St6 → Option (Int32 × St6)) : Prop := ∀ s, CL t ln sz (60 + 10 * (k + 1)) s → (k ≤ 5 ∨ ¬ p6_isFault s = 0) → ok (QRd t ln sz) (rec (nI k + 1) s)
theorem okm_j235 {k : Nat} (hk : k ≤ 6) {rec : Int32 → St6 → Option (Int32 × St6)} (hr : HR t ln sz k rec) (x3 x4 x5 x6 : Int32) {s : St6} (h : CL t ln sz (60 + 10 * (k + 1)) s) (hf : ¬ p6_isFault s = 0 ∨ (wk x5 ∧ k ≤ 5)) : ok (QRd t ln sz) (jn_X6_peopleRead_j235 rec (nI k) x3 x4 x5 x6 s) := by
  unfold jn_X6_peopleRead_j235
  refine ok_i (fun h0 => ?_) (fun h0 => hr s h (Or.inr h0))
  obtain ⟨hw, hk5⟩ := hf.resolve_left (fun q => q h0)
  have i0 : 4 * nI k = nI (4 * k) := by rw [show (4 : Int32) = nI 4 from rfl, nI_mul]
  have i1 : nI (4 * k) + 1 = nI (4 * k + 1) := nI_1 _
  have i2 : nI (4 * k) + 2 = nI (4 * k + 2) := by rw [show (2 : Int32) = nI 2 from rfl, nI_add]
  have i3 : nI (4 * k) + 3 = nI (4 * k + 3) := by rw [show (3 : Int32) = nI 3 from rfl, nI_add]
  rw [i0, i1, i2, i3]
  refine ok_g (inB_nI (by omega) (by decide)) (ok_g (inB_nI (by omega) (by decide)) (ok_g (inB_nI (by omega) (by decide)) (ok_g (inB_nI (by omega) (by decide)) (hr _ ?_ (Or.inl hk5)))))
  rw [nI_clamp (by omega), nI_clamp (by omega), nI_clamp (by omega), nI_clamp (by omega)]
  refine ⟨⟨h.1.1, h.1.2.1, h.1.2.2.1, h.1.2.2.2.1, h.1.2.2.2.2.1, h.1.2.2.2.2.2.1, fun p hp => ?_, h.1.2.2.2.2.2.2.2⟩, h.2⟩
  show wk (upd (upd (upd (upd (p6_read s) (4 * k) x3) (4 * k + 1) x4) (4 * k + 2) x5) (4 * k + 3) x6 (4 * p + 2))
  rw [pk_un (by omega)]
  by_cases ep : p = k
  · rw [ep, pk_us]; exact hw
  · rw [pk_un (by omega), pk_un (by omega), pk_un (by omega)]; exact h.1.2.2.2.2.2.2.1 p hp
theorem okm_j223 {T k : Nat} (hT : T ≤ 60) (ht : t = nI T) (hk : k ≤ 6) {rec : Int32 → St6 → Option (Int32 × St6)} (hr : HR t ln sz k rec) (x3 x4 x5 y : Int32) {s : St6} (h : CL t ln sz (60 + 10 * k + 8) s) (hf : ¬ p6_isFault s = 0 ∨ (wk x5 ∧ k ≤ 5)) : ok (QRd t ln sz) (jn_X6_peopleRead_j223 rec (nI k) x3 x4 x5 y s) := by
  unfold jn_X6_peopleRead_j223
  refine ok_b (okm_must h y) (fun r1 h1 => ok_b (okm_number hT (by omega) (by omega) ht h1.1 1 12) (fun q hq => ?_))
  refine okm_j235 hk hr x3 x4 x5 q.1 (hq.1.up (by omega)) ?_
  rcases hf with hf | hf
  · exact Or.inl (hq.2 (h1.2.1 hf))
  · exact Or.inr hf
theorem okm_j198 {T k : Nat} (hT : T ≤ 60) (ht : t = nI T) (hk : k ≤ 6) {rec : Int32 → St6 → Option (Int32 × St6)} (hr : HR t ln sz k rec) (x3 x4 x5 y : Int32) {s : St6} (h : CL t ln sz (60 + 10 * k + 7) s) (hf : ¬ p6_isFault s = 0 ∨ k ≤ 5) (hy : y = 0 ∨ wk x5) : ok (QRd t ln sz) (jn_X6_peopleRead_j198 rec (nI k) x3 x4 x5 y s) := by
  unfold jn_X6_peopleRead_j198
  refine ok_b (okm_must h y) (fun r1 h1 => ?_)
  have hf1 : ¬ p6_isFault r1 = 0 ∨ (wk x5 ∧ k ≤ 5) := by
    rcases hf with hf | hf
    · exact Or.inl (h1.2.1 hf)
    · rcases hy with hy | hy
      · exact Or.inl (h1.2.2 hy)
      · exact Or.inr ⟨hy, hf⟩
  refine ok_i (fun _ => ok_b (okm_here hT (by omega) (by omega) ht h1.1) (fun q hq => ?_)) (fun _ => okm_j223 hT ht hk hr x3 x4 x5 0 (h1.1.up (by omega)) hf1)
  have hf2 : ¬ p6_isFault q.2 = 0 ∨ (wk x5 ∧ k ≤ 5) := by rw [hq.2]; exact hf1
  exact ok_i (fun _ => okm_j223 hT ht hk hr x3 x4 x5 1 (hq.1.up (by omega)) hf2) (fun _ => okm_j223 hT ht hk hr x3 x4 x5 0 (hq.1.up (by omega)) hf2)
theorem okm_j119 {T k : Nat} (hT : T ≤ 60) (ht : t = nI T) (hk : k ≤ 6) {rec : Int32 → St6 → Option (Int32 × St6)} (hr : HR t ln sz k rec) (x3 y : Int32) {s : St6} (h : CL t ln sz (60 + 10 * k + 2) s) (hf : ¬ p6_isFault s = 0 ∨ k ≤ 5) : ok (QRd t ln sz) (jn_X6_peopleRead_j119 rec (nI k) x3 y s) := by
  unfold jn_X6_peopleRead_j119
  refine ok_b (okm_must h y) (fun r1 h1 => ok_b (okm_number hT (by omega) (by omega) ht h1.1 0 30) (fun q hq => ?_))
  have hf2 : ¬ p6_isFault q.2 = 0 ∨ k ≤ 5 := hf.imp (fun f => hq.2 (h1.2.1 f)) id
  have hf2' : ¬ p6_isFault q.2 = 0 ∨ (wk (-4) ∧ k ≤ 5) := hf2.imp id (fun f => ⟨Or.inl rfl, f⟩)
  refine ok_i (fun _ => ok_b (okm_here hT (by omega) (by omega) ht hq.1) (fun q2 hq2 => ?_)) (fun _ => okm_j235 hk hr x3 q.1 (-4) 1 (hq.1.up (by omega)) hf2')
  have hf3 : ¬ p6_isFault q2.2 = 0 ∨ k ≤ 5 := by rw [hq2.2]; exact hf2
  refine ok_i (fun _ => ?_) (fun _ => okm_j235 hk hr x3 q.1 (-4) 1 (hq2.1.up (by omega)) (by rw [hq2.2]; exact hf2'))
  obtain ⟨⟨i2, P, eP, hP⟩, _⟩ := hq2
  have hc : CL t ln sz (60 + 10 * k + 4) (s6_place q2.2 (p6_place q2.2 + 1)) := by
    refine ⟨i2, P + 1, ?_, by omega⟩
    show p6_place q2.2 + 1 = _
    rw [eP, nI_1]
  refine ok_b (okm_here hT (by omega) (by omega) ht hc) (fun q3 hq3 => ok_b (ok_in _ _ _) (fun r hr3 => ?_))
  have hf4 : ¬ p6_isFault q3.2 = 0 ∨ k ≤ 5 := by rw [hq3.2]; exact hf3
  refine ok_i (fun _ => okm_j198 hT ht hk hr x3 q.1 _ 0 (hq3.1.up (by omega)) hf4 (Or.inl rfl)) (fun hr0 => ok_i (fun _ => okm_j198 hT ht hk hr x3 q.1 _ 0 (hq3.1.up (by omega)) hf4 (Or.inl rfl)) (fun _ => okm_j198 hT ht hk hr x3 q.1 _ 1 (hq3.1.up (by omega)) hf4 (Or.inr (Or.inr ?_))))
  exact rg_ask hr3 hr0 (H := 5) (by decide) (by decide) (by decide)
theorem okm_j56 {T k : Nat} (hT : T ≤ 60) (ht : t = nI T) (hk : k ≤ 6) {rec : Int32 → St6 → Option (Int32 × St6)} (hr : HR t ln sz k rec) (y : Int32) {s : St6} (h : CL t ln sz (60 + 10 * k + 2) s) (hf : ¬ p6_isFault s = 0 ∨ k ≤ 5) : ok (QRd t ln sz) (jn_X6_peopleRead_j56 rec (nI k) y s) := by
  have h108 : ∀ z, ok (QRd t ln sz) (jn_X6_peopleRead_j108 rec (nI k) z s) := fun z => by
    unfold jn_X6_peopleRead_j108
    exact ok_i (fun _ => okm_j119 hT ht hk hr z 0 h hf) (fun _ => okm_j119 hT ht hk hr z 1 h hf)
  unfold jn_X6_peopleRead_j56
  exact ok_i (fun _ => h108 _) (fun _ => ok_i (fun _ => h108 _) (fun _ => ok_i (fun _ => h108 _) (fun _ => ok_i (fun _ => h108 _) (fun _ => ok_i (fun _ => h108 _) (fun _ => h108 _)))))
theorem okm_j41 {T k : Nat} (hT : T ≤ 60) (ht : t = nI T) (hk : k ≤ 6) {rec : Int32 → St6 → Option (Int32 × St6)} (hr : HR t ln sz k rec) {s : St6} (h : CL t ln sz (60 + 10 * k + 2) s) (hf : ¬ p6_isFault s = 0 ∨ k ≤ 5) : ok (QRd t ln sz) (jn_X6_peopleRead_j41 rec (nI k) s) := by
  unfold jn_X6_peopleRead_j41
  exact ok_i (fun _ => ok_b (okm_here hT (by omega) (by omega) ht h) (fun q hq => okm_j56 hT ht hk hr q.1 hq.1 (by rw [hq.2]; exact hf))) (fun _ => okm_j56 hT ht hk hr 0 h hf)
theorem okm_j22 {T k : Nat} (hT : T ≤ 60) (ht : t = nI T) (hk : k ≤ 6) {rec : Int32 → St6 → Option (Int32 × St6)} (hr : HR t ln sz k rec) {s : St6} (h : CL t ln sz (60 + 10 * k) s) : ok (QRd t ln sz) (jn_X6_peopleRead_j22 rec (nI k) s) := by
  unfold jn_X6_peopleRead_j22
  refine ok_i (fun h0 => okm_j41 hT ht hk hr (h.up (by omega)) (Or.inr ?_)) (fun _ => ok_i (fun _ => ok_b (okm_must h 0) (fun r1 h1 => okm_j41 hT ht hk hr (h1.1.up (by omega)) (Or.inl (h1.2.2 rfl)))) (fun h6 => ok_b (okm_must h 1) (fun r1 h1 => okm_j41 hT ht hk hr (h1.1.up (by omega)) (Or.inr ?_))))
  · have := (nI_leI (a := k) (b := 0) (by omega) (by decide)).mp h0
    omega
  · rcases Nat.lt_or_ge k 6 with q | q
    · omega
    · exact absurd (nI_le (a := 6) q (by omega)) h6
theorem okm_peopleReadL {T : Nat} (hT : T ≤ 60) (ht : t = nI T) : ∀ m n k (s : St6), k + m = 7 → m < n → CL t ln sz (60 + 10 * k) s → (k ≤ 6 ∨ ¬ p6_isFault s = 0) → ok (QRd t ln sz) (lp_X6_peopleRead_2 n (nI k) s) := by
  intro m
  induction m with
  | zero =>
    intro n k s hk hn h hf
    obtain ⟨n, rfl⟩ : ∃ m, n = m + 1 := ⟨n - 1, by omega⟩
    have h7 : k = 7 := by omega
    subst h7
    have hf' := hf.resolve_left (by decide)
    rw [lp_X6_peopleRead_2, if_neg hf']
    exact ok_s ⟨h.up (by decide), 7, rfl, by decide, fun q => absurd q hf'⟩
  | succ m ih =>
    intro n k s hk hn h hf
    obtain ⟨n, rfl⟩ : ∃ m, n = m + 1 := ⟨n - 1, by omega⟩
    have hk6 : k ≤ 6 := by omega
    have hr : HR t ln sz k (lp_X6_peopleRead_2 n) := fun s' h' hf' => by
      rw [nI_1]
      exact ih n (k + 1) s' (by omega) (by omega) h' (hf'.imp (fun q => by omega) id)
    rw [lp_X6_peopleRead_2]
    have hs : ∀ s', CL t ln sz (60 + 10 * k) s' → ok (QRd t ln sz) (some (nI k, s')) := fun s' h' => ok_s ⟨h'.up (by omega), k, rfl, by omega, fun _ => hk6⟩
    refine ok_i (fun _ => ok_i (fun _ => okm_j22 hT ht hk6 hr h) (fun _ => ok_b (okm_here hT (by omega) (by omega) ht h) (fun q hq => ok_i (fun _ => okm_j22 hT ht hk6 hr hq.1) (fun _ => hs _ hq.1)))) (fun _ => hs _ h)
theorem okm_areThere {s : St6} {m : Nat} (hm : m ≤ 6) : ok (fun r => r = 0 ∨ r = 1) (f_X6_areThere s (nI m)) := by
  unfold f_X6_areThere
  refine ok_b (P := fun q => q.1 = 0 ∨ q.1 = 1) ?_ (fun q hq => ok_g hq (ok_s hq))
  refine lpG (fun n z a => lp_X6_areThere_4 s (nI m) n a z) m (by omega) (fun k a => a = 0 ∨ a = 1) _ (fun n z s => rfl) (fun _ _ _ => rfl) (fun s hs => ok_s hs) (fun n k a hk hs ih => ?_) 1 (Or.inr rfl)
  refine ok_i (fun _ => ih _ (Or.inl rfl)) (fun _ => ok_g ?_ (ok_i (fun _ => ih _ (Or.inl rfl)) (fun _ => ih _ (Or.inr rfl))))
  rw [show (4 : Int32) = nI 4 from rfl, nI_mul, show (2 : Int32) = nI 2 from rfl, nI_add]
  exact inB_nI (by omega) (by decide)
theorem okm_close {T : Nat} (hT : T ≤ 60) {s : St6} (h : IM (nI T) ln sz s) : ok (fun q => IM 0 ln sz q.2) (f_X6_close s) := by
  unfold f_X6_close
  have h0 : CL (nI T) ln sz (60 + 10 * 0) (s6_isFault (s6_place s 0) 0) := ⟨h, 0, rfl, by omega⟩
  refine ok_b (P := QRd (nI T) ln sz) ?_ (fun q hq => ?_)
  · unfold f_X6_peopleRead
    exact ok_b (okm_peopleReadL hT rfl 7 FU 0 _ (by decide) (by unfold FU; omega) h0 (Or.inl (by decide))) (fun q hq => ok_s hq)
  · obtain ⟨hc, m, em, hm7, hm6⟩ := hq
    refine ok_i (fun hf => ok_b (okm_here hT (by decide) (by decide) rfl hc) (fun q5 h5 => ok_i (fun _ => ?_) (fun _ => ok_s (h5.1.1.typed 0)))) (fun _ => ok_s (hc.1.typed 0))
    have hm := hm6 hf
    rw [em]
    refine ok_b (okm_areThere hm) (fun r8 _ => ok_i (fun _ => ok_s (h5.1.1.typed 0)) (fun _ => ok_b (P := fun q => IM 0 ln sz q.2) ?_ (fun q hq => ok_s hq)))
    have hstart : IM 0 ln sz (s6_isFault (s6_typed (s6_now q5.2 (upd (upd (p6_now q5.2) ((0 : Int32).toNatClampNeg) 0) ((1 : Int32).toNatClampNeg) 0)) 0) 0) := by
      have hg : gd (upd (upd (p6_now q5.2) ((0 : Int32).toNatClampNeg) 0) ((1 : Int32).toNatClampNeg) 0) 0 := by
        refine ⟨?_, fun p hp => ?_⟩
        · show rg (upd (upd (p6_now q5.2) 0 0) 1 0 0) 7
          rw [pk_un (by decide), pk_us]; exact ⟨0, by decide, rfl⟩
        · show wk (upd (upd (p6_now q5.2) 0 0) 1 0 (0 + 5 + 4 * p))
          rw [pk_un (by omega), pk_un (by omega)]; exact h5.1.1.1.2 p hp
      exact (h5.1.1.now hg).typed 0
    refine ok_w (P := fun q => IM 0 ln sz q.2 ∧ p6_now q.2 0 = nI m) ?_ (fun q hq => hq.1)
    refine lpG (fun n z s => lp_X6_close_102 (nI m) n z s) m (by omega) (fun k s => IM 0 ln sz s ∧ p6_now s 0 = nI k) _ (fun n z s => rfl) (fun _ _ _ => rfl) (fun s hs => ok_s hs) (fun n k s hk hs ih => ?_) _ ⟨hstart, ?_⟩
    · have i0 : 4 * nI k = nI (4 * k) := by rw [show (4 : Int32) = nI 4 from rfl, nI_mul]
      have i1 : nI (4 * k) + 1 = nI (4 * k + 1) := nI_1 _
      have i2 : nI (4 * k) + 2 = nI (4 * k + 2) := by rw [show (2 : Int32) = nI 2 from rfl, nI_add]
      have i3 : nI (4 * k) + 3 = nI (4 * k + 3) := by rw [show (3 : Int32) = nI 3 from rfl, nI_add]
      rw [i0, i1, i2, i3]
      refine ok_g (inB_nI (by omega) (by decide)) (ok_g (inB_nI (by omega) (by decide)) (ok_g (inB_nI (by omega) (by decide)) (ok_g (inB_nI (by omega) (by decide)) ?_)))
      have hw : wk (p6_read s ((nI (4 * k + 2)).toNatClampNeg)) := by
        rw [nI_clamp (by omega)]; exact hs.1.2.2.2.2.2.2.1 k (by omega)
      exact ok_b (okm_personComes hs.1 (by omega) hs.2 _ _ hw _) (fun r hr => ih _ hr)
    · show upd (upd (p6_now q5.2) 0 0) 1 0 0 = nI 0
      rw [pk_un (by decide), pk_us]; rfl
end
