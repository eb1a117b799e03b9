/-! Several rooms: the way back, and why the answer is the greatest. -/
section NET2
variable {N m : Nat} {AL : Nat → Bool} {p q w : Nat → Nat} {U : Nat → Bool} {fl D : Nat → Nat} {par : Nat → Nat × Nat} {τ : Nat → Nat} {R W0 : Nat}
/-- what is sent along an arc -/
def sndU (U : Nat → Bool) (c i : Nat) : Nat → Bool := if c = 2 then fs U i true else if c = 3 then fs U i false else U
def sndF (fl : Nat → Nat) (c i : Nat) : Nat → Nat := if c = 0 then fs fl i (fl i + 1) else if c = 1 then fs fl i (fl i - 1) else fl
theorem WLK.step {x : Nat} (hk : NOK N m AL p q w) (h : WLK N m AL p q w D par τ R W0 x U fl) (hx : x ≠ 0) :
    ∃ u gp gm, ARC N m AL p q w U fl (par x).1 (par x).2 u x gp gm ∧ τ u < τ x ∧ WLK N m AL p q w D par τ R W0 u (sndU U (par x).1 (par x).2) (sndF fl (par x).1 (par x).2) := by
  obtain ⟨h1, h2, h3, h4, h5⟩ := h
  obtain ⟨u, gp, gm, hA, ht, hτ⟩ := h4 x h1 hx (Nat.le_refl _)
  have hl := hA.le hk
  refine ⟨u, gp, gm, hA, hτ, hl.1, ?_⟩
  generalize hc : (par x).1 = c at hA ⊢
  generalize hi : (par x).2 = i at hA ⊢
  have other : ∀ y, y ≠ x → τ y ≤ τ u → τ y ≤ τ x := fun y _ hy => by omega
  rcases hA with ⟨rfl, a1, a2, a3, a4, a5⟩ | ⟨rfl, a1, a2, a3, a4, a5, a6⟩ | ⟨rfl, a1, a2, a3, a4, a5, a6, a7⟩ | ⟨rfl, a1, a2, a3, a4, a5, a6, a7⟩
  · -- onwards
    subst a1 a2 a4 a5
    show VP N m AL p q w U (fs fl u (fl u + 1)) D ∧ _ ∧ _ ∧ _
    refine ⟨fun c i u' v gp gm hB => ?_, fun v hv => ?_, fun y hy hy0 hty => ?_, ?_⟩
    · rcases hB with ⟨rfl, b1, b2, b3, b4, b5⟩ | ⟨rfl, b1, b2, b3, b4, b5, b6⟩ | ⟨rfl, b1, b2, b3, b4, b5, b6, b7⟩ | ⟨rfl, b1, b2, b3, b4, b5, b6, b7⟩
      · exact h2 0 i u' v gp gm (Or.inl ⟨rfl, b1, b2, b3, b4, b5⟩)
      · by_cases ci : i = u
        · subst b1 b2 b5 b6 ci; omega
        · rw [fs_ne _ _ ci] at b4
          exact h2 1 i u' v gp gm (Or.inr (Or.inl ⟨rfl, b1, b2, b3, b4, b5, b6⟩))
      · exact h2 2 i u' v gp gm (Or.inr (Or.inr (Or.inl ⟨rfl, b1, b2, b3, b4, b5, b6, b7⟩)))
      · exact h2 3 i u' v gp gm (Or.inr (Or.inr (Or.inr ⟨rfl, b1, b2, b3, b4, b5, b6, b7⟩)))
    · show fs fl u (fl u + 1) v + crs m AL p q U v = _
      have := h3 v hv
      by_cases cv : v = u
      · subst cv
        rw [fs_at, if_pos (Nat.le_refl _)]
        rw [if_neg (by omega)] at this
        omega
      · rw [fs_ne _ _ cv, this]
        by_cases c2 : u ≤ v
        · rw [if_pos c2, if_pos (by omega)]
        · rw [if_neg c2, if_neg (by omega)]
    · have hyx : y ≠ u + 1 := fun hq => by subst hq; omega
      obtain ⟨u', gp', gm', b1, b2, b3⟩ := h4 y hy hy0 (by omega)
      refine ⟨u', gp', gm', ?_, b2, b3⟩
      rcases b1 with b | ⟨b1, b2, b3, b4, b5, b6, b7⟩ | b | b
      · exact Or.inl b
      · refine Or.inr (Or.inl ⟨b1, b2, b3, b4, ?_, b6, b7⟩)
        show 0 < fs fl u (fl u + 1) _
        by_cases ci : (par y).2 = u
        · rw [ci, fs_at]; omega
        · rw [fs_ne _ _ ci]; exact b5
      · exact Or.inr (Or.inr (Or.inl b))
      · exact Or.inr (Or.inr (Or.inr b))
    · show wtU m AL w U + D u = _
      omega
  · -- back along the row
    subst a1 a2 a5 a6
    show VP N m AL p q w U (fs fl x (fl x - 1)) D ∧ _ ∧ _ ∧ _
    refine ⟨fun c i u' v gp gm hB => ?_, fun v hv => ?_, fun y hy hy0 hty => ?_, ?_⟩
    · rcases hB with ⟨rfl, b1, b2, b3, b4, b5⟩ | ⟨rfl, b1, b2, b3, b4, b5, b6⟩ | ⟨rfl, b1, b2, b3, b4, b5, b6, b7⟩ | ⟨rfl, b1, b2, b3, b4, b5, b6, b7⟩
      · exact h2 0 i u' v gp gm (Or.inl ⟨rfl, b1, b2, b3, b4, b5⟩)
      · by_cases ci : i = x
        · subst b1 b2 b5 b6 ci; omega
        · rw [fs_ne _ _ ci] at b4
          exact h2 1 i u' v gp gm (Or.inr (Or.inl ⟨rfl, b1, b2, b3, b4, b5, b6⟩))
      · exact h2 2 i u' v gp gm (Or.inr (Or.inr (Or.inl ⟨rfl, b1, b2, b3, b4, b5, b6, b7⟩)))
      · exact h2 3 i u' v gp gm (Or.inr (Or.inr (Or.inr ⟨rfl, b1, b2, b3, b4, b5, b6, b7⟩)))
    · show fs fl x (fl x - 1) v + crs m AL p q U v = _
      have := h3 v hv
      by_cases cv : v = x
      · subst cv
        rw [fs_at, if_neg (by omega)]
        rw [if_pos (Nat.le_refl _)] at this
        omega
      · rw [fs_ne _ _ cv, this]
        by_cases c2 : x ≤ v
        · rw [if_pos c2, if_pos (by omega)]
        · rw [if_neg c2, if_neg (by omega)]
    · have hyx : y ≠ x := fun hq => by subst hq; omega
      obtain ⟨u', gp', gm', b1, b2, b3⟩ := h4 y hy hy0 (by omega)
      refine ⟨u', gp', gm', ?_, b2, b3⟩
      rcases b1 with b | ⟨b1, b2, b3, b4, b5, b6, b7⟩ | b | b
      · exact Or.inl b
      · refine Or.inr (Or.inl ⟨b1, b2, b3, b4, ?_, b6, b7⟩)
        show 0 < fs fl x (fl x - 1) _
        rw [fs_ne _ _ (by omega)]; exact b5
      · exact Or.inr (Or.inr (Or.inl b))
      · exact Or.inr (Or.inr (Or.inr b))
    · show wtU m AL w U + D (x + 1) = _
      omega
  · -- an interval more
    have hki := hk i a3 a4
    subst a6 a7
    show VP N m AL p q w (fs U i true) fl D ∧ _ ∧ _ ∧ _
    refine ⟨fun c i' u' v gp gm hB => ?_, fun v hv => ?_, fun y hy hy0 hty => ?_, ?_⟩
    · rcases hB with b | b | ⟨rfl, b1, b2, b3, b4, b5, b6, b7⟩ | ⟨rfl, b1, b2, b3, b4, b5, b6, b7⟩
      · exact h2 c i' u' v gp gm (Or.inl b)
      · exact h2 c i' u' v gp gm (Or.inr (Or.inl b))
      · by_cases ci : i' = i
        · rw [ci, fs_at] at b5; cases b5
        · rw [fs_ne _ _ ci] at b5
          exact h2 2 i' u' v gp gm (Or.inr (Or.inr (Or.inl ⟨rfl, b1, b2, b3, b4, b5, b6, b7⟩)))
      · by_cases ci : i' = i
        · subst ci; subst b1 b2 b6 b7; subst a1 a2; omega
        · rw [fs_ne _ _ ci] at b5
          exact h2 3 i' u' v gp gm (Or.inr (Or.inr (Or.inr ⟨rfl, b1, b2, b3, b4, b5, b6, b7⟩)))
    · show fl v + crs m AL p q (fs U i true) v = _
      have := h3 v hv
      have h9 := crs_set (p := p) (q := q) (U := U) a3 a4 v true
      rw [a5, Bool.false_and, if_neg (by decide), ind_iff (x := 0) (y := 0)] at h9
      subst a1 a2
      by_cases c1 : p i ≤ v
      · rw [if_pos c1]
        by_cases c2 : v < q i
        · rw [if_pos ⟨c1, c2⟩] at h9
          rw [if_neg (by omega)] at this
          omega
        · rw [if_neg (fun h => c2 h.2)] at h9
          rw [if_pos (by omega)] at this
          omega
      · rw [if_neg c1]
        rw [if_neg (fun h => c1 h.1)] at h9
        rw [if_neg (by omega)] at this
        omega
    · have hyx : y ≠ x := fun hq => by subst hq; omega
      obtain ⟨u', gp', gm', b1, b2, b3⟩ := h4 y hy hy0 (by omega)
      refine ⟨u', gp', gm', ?_, b2, b3⟩
      rcases b1 with b | b | ⟨b0, b1, b2, b3, b4, b5, b6, b7⟩ | ⟨b0, b1, b2, b3, b4, b5, b6, b7⟩
      · exact Or.inl b
      · exact Or.inr (Or.inl b)
      · refine Or.inr (Or.inr (Or.inl ⟨b0, b1, b2, b3, b4, ?_, b6, b7⟩))
        show fs U i true _ = false
        rw [fs_ne _ _ (fun ci => by rw [ci] at b2; omega)]; exact b5
      · refine Or.inr (Or.inr (Or.inr ⟨b0, b1, b2, b3, b4, ?_, b6, b7⟩))
        show fs U i true _ = true
        rw [fs_ne _ _ (fun ci => by rw [ci, a5] at b5; cases b5)]; exact b5
    · show wtU m AL w (fs U i true) + D u = _
      have h9 := wtU_set (w := w) (U := U) a3 a4 true
      rw [a5, if_pos rfl] at h9
      simp only [Bool.false_eq_true, if_false] at h9
      omega
  · -- an interval less
    have hki := hk i a3 a4
    subst a6 a7
    show VP N m AL p q w (fs U i false) fl D ∧ _ ∧ _ ∧ _
    refine ⟨fun c i' u' v gp gm hB => ?_, fun v hv => ?_, fun y hy hy0 hty => ?_, ?_⟩
    · rcases hB with b | b | ⟨rfl, b1, b2, b3, b4, b5, b6, b7⟩ | ⟨rfl, b1, b2, b3, b4, b5, b6, b7⟩
      · exact h2 c i' u' v gp gm (Or.inl b)
      · exact h2 c i' u' v gp gm (Or.inr (Or.inl b))
      · by_cases ci : i' = i
        · subst ci; subst b1 b2 b6 b7; subst a1 a2; omega
        · rw [fs_ne _ _ ci] at b5
          exact h2 2 i' u' v gp gm (Or.inr (Or.inr (Or.inl ⟨rfl, b1, b2, b3, b4, b5, b6, b7⟩)))
      · by_cases ci : i' = i
        · rw [ci, fs_at] at b5; cases b5
        · rw [fs_ne _ _ ci] at b5
          exact h2 3 i' u' v gp gm (Or.inr (Or.inr (Or.inr ⟨rfl, b1, b2, b3, b4, b5, b6, b7⟩)))
    · show fl v + crs m AL p q (fs U i false) v = _
      have := h3 v hv
      have h9 := crs_set (p := p) (q := q) (U := U) a3 a4 v false
      rw [a5, Bool.false_and, if_neg (by decide : ¬ false = true), ind_iff (x := 0) (y := 0)] at h9
      subst a1 a2
      by_cases c1 : p i ≤ v
      · rw [if_pos c1] at this
        by_cases c2 : v < q i
        · rw [if_pos ⟨c1, c2⟩] at h9
          rw [if_neg (by omega)]
          omega
        · rw [if_neg (fun h => c2 h.2)] at h9
          rw [if_pos (by omega)]
          omega
      · rw [if_neg c1] at this
        rw [if_neg (fun h => c1 h.1)] at h9
        rw [if_neg (by omega)]
        omega
    · have hyx : y ≠ x := fun hq => by subst hq; omega
      obtain ⟨u', gp', gm', b1, b2, b3⟩ := h4 y hy hy0 (by omega)
      refine ⟨u', gp', gm', ?_, b2, b3⟩
      rcases b1 with b | b | ⟨b0, b1, b2, b3, b4, b5, b6, b7⟩ | ⟨b0, b1, b2, b3, b4, b5, b6, b7⟩
      · exact Or.inl b
      · exact Or.inr (Or.inl b)
      · refine Or.inr (Or.inr (Or.inl ⟨b0, b1, b2, b3, b4, ?_, b6, b7⟩))
        show fs U i false _ = false
        rw [fs_ne _ _ (fun ci => by rw [ci, a5] at b5; cases b5)]; exact b5
      · refine Or.inr (Or.inr (Or.inr ⟨b0, b1, b2, b3, b4, ?_, b6, b7⟩))
        show fs U i false _ = true
        rw [fs_ne _ _ (fun ci => by rw [ci] at b2; omega)]; exact b5
    · show wtU m AL w (fs U i false) + D u = _
      have h9 := wtU_set (w := w) (U := U) a3 a4 false
      rw [a5, if_pos rfl] at h9
      simp only [Bool.false_eq_true, if_false] at h9
      omega
/-- a search that has come to its end gives a way -/
theorem BFI.walk {RE : Nat → Bool} {d : Nat → Nat} (h : BFI N m AL p q w U fl D RE d par) (hD : VP N m AL p q w U fl D) (hall : ∀ v, v ≤ N → RE v = true ∧ d v = D v) (hcut : ∀ v, v < N → fl v + crs m AL p q U v = R) (hk : NOK N m AL p q w) : ∃ τ, WLK N m AL p q w D par τ R (wtU m AL w U) N U fl := by
  obtain ⟨h1, h2, h3, τ, T, h4, h5⟩ := h
  refine ⟨τ, Nat.le_refl _, hD, fun v hv => ?_, fun y hy hy0 _ => ?_, rfl⟩
  · rw [if_neg (by omega)]; exact hcut v hv
  · obtain ⟨u, gp, gm, a1, a2, a3, a4⟩ := h5 y hy hy0 (hall y hy).1
    have hl := a1.le hk
    have e1 := (hall y hy).2
    have e2 := (hall u hl.1).2
    have e3 := hD _ _ _ _ _ _ a1
    exact ⟨u, gp, gm, a1, by omega, a4 (by omega)⟩
theorem WLK.done {D : Nat → Nat} (h : WLK N m AL p q w D par τ R W0 0 U fl) (hD0 : D 0 = 0) : VP N m AL p q w U fl D ∧ (∀ v, v < N → fl v + crs m AL p q U v = R + 1) ∧ wtU m AL w U = W0 + D N := by
  obtain ⟨h1, h2, h3, h4, h5⟩ := h
  refine ⟨h2, fun v hv => ?_, by omega⟩
  rw [h3 v hv, if_pos (Nat.zero_le _)]
/-- the sum along the row -/
theorem tele0 (D : Nat → Nat) {a b : Nat} (hab : a ≤ b) : ∀ N, (∀ v, v < N → D v ≤ D (v + 1)) → fb_sm (fun v => if a ≤ v ∧ v < b then D (v + 1) - D v else 0) N + D (min a N) = D (min b N) := by
  intro N
  induction N with
  | zero =>
    intro _
    rw [Nat.min_zero, Nat.min_zero]
    show 0 + D 0 = D 0
    omega
  | succ N ih =>
    intro h3
    have h4 := ih fun v hv => h3 v (by omega)
    have h5 := h3 N (by omega)
    rw [fb_sm_succ]
    rcases Nat.lt_or_ge N a with c | c
    · rw [show min a N = N by omega, show min b N = N by omega] at h4
      rw [if_neg (by omega), show min a (N + 1) = N + 1 by omega, show min b (N + 1) = N + 1 by omega]
      omega
    · rw [show min a N = a by omega] at h4
      rw [show min a (N + 1) = a by omega]
      rcases Nat.lt_or_ge N b with c2 | c2
      · rw [show min b N = N by omega] at h4
        rw [if_pos ⟨c, c2⟩, show min b (N + 1) = N + 1 by omega]
        omega
      · rw [show min b N = b by omega] at h4
        rw [if_neg (by omega), show min b (N + 1) = b by omega]
        omega
theorem dbl (hk : NOK N m AL p q w) (hD : ∀ v, v < N → D v ≤ D (v + 1)) (T : Nat → Bool) : ∀ m', m' ≤ m → fb_sm (fun j => if (AL j && T j) = true then D (q j) - D (p j) else 0) m' = fb_sm (fun v => (D (v + 1) - D v) * crs m' AL p q T v) N := by
  intro m'
  induction m' with
  | zero =>
    intro _
    have : fb_sm (fun v => (D (v + 1) - D v) * crs 0 AL p q T v) N = fb_sm (fun _ => 0) N := fb_sm_cong fun k _ => Nat.mul_zero _
    rw [this, fb_sm_const]; rfl
  | succ m' ih =>
    intro hm
    rw [fb_sm_succ, ih (by omega)]
    have h1 : fb_sm (fun v => (D (v + 1) - D v) * crs (m' + 1) AL p q T v) N = fb_sm (fun v => (D (v + 1) - D v) * crs m' AL p q T v + (if (AL m' && T m') = true then (if p m' ≤ v ∧ v < q m' then D (v + 1) - D v else 0) else 0)) N := fb_sm_cong fun v _ => by
      show (D (v + 1) - D v) * (crs m' AL p q T v + (if ((AL m' && T m') && (decide (p m' ≤ v) && decide (v < q m'))) = true then 1 else 0)) = _
      rw [Nat.mul_add]
      refine congrArg _ ?_
      by_cases c : (AL m' && T m') = true
      · rw [if_pos c, c, ind_iff (x := 0) (y := 0)]
        by_cases c2 : p m' ≤ v ∧ v < q m'
        · rw [if_pos c2, if_pos c2, Nat.mul_one]
        · rw [if_neg c2, if_neg c2, Nat.mul_zero]
      · have c3 : (AL m' && T m') = false := by simpa using c
        rw [if_neg c, c3, Bool.false_and, if_neg (by decide), Nat.mul_zero]
    rw [h1, fb_sm_add]
    refine congrArg _ ?_
    by_cases c : (AL m' && T m') = true
    · rw [if_pos c]
      have c4 := c
      rw [Bool.and_eq_true] at c4
      have hki := hk m' (by omega) c4.1
      have h2 := tele0 D (a := p m') (b := q m') (by omega) N hD
      rw [show min (p m') N = p m' by omega, show min (q m') N = q m' by omega] at h2
      have h3 : fb_sm (fun v => if (AL m' && T m') = true then (if p m' ≤ v ∧ v < q m' then D (v + 1) - D v else 0) else 0) N = fb_sm (fun v => if p m' ≤ v ∧ v < q m' then D (v + 1) - D v else 0) N := fb_sm_cong fun v _ => if_pos c
      rw [h3]; omega
    · rw [if_neg c]
      have h3 : fb_sm (fun v => if (AL m' && T m') = true then (if p m' ≤ v ∧ v < q m' then D (v + 1) - D v else 0) else 0) N = fb_sm (fun _ => 0) N := fb_sm_cong fun v _ => if_neg c
      rw [h3, fb_sm_const, Nat.mul_zero]
theorem net_opt (hk : NOK N m AL p q w) (hD : VP N m AL p q w U fl D) (hcut : ∀ v, v < N → fl v + crs m AL p q U v = R) (T : Nat → Bool) (hT : ∀ v, v < N → crs m AL p q T v ≤ R) : wtU m AL w T ≤ wtU m AL w U := by
  have hm : ∀ v, v < N → D v ≤ D (v + 1) := fun v hv => vp_up hD (Nat.le_succ v) (by omega)
  have e1 := dbl hk hm T m (Nat.le_refl _)
  have e2 := dbl hk hm U m (Nat.le_refl _)
  have h1 : wtU m AL w T ≤ fb_sm (fun j => (if (AL j && T j) = true then D (q j) - D (p j) else 0) + (if (AL j && U j) = true then w j - (D (q j) - D (p j)) else 0)) m := fb_sm_le fun j hj => by
    try dsimp only
    by_cases c : (AL j && T j) = true
    · rw [if_pos c, if_pos c]
      have ca := c
      rw [Bool.and_eq_true] at ca
      cases hu : U j with
      | true =>
        rw [ca.1, Bool.and_true, if_pos rfl]; omega
      | false =>
        have := hD 2 j (p j) (q j) (w j) 0 (Or.inr (Or.inr (Or.inl ⟨rfl, rfl, rfl, hj, ca.1, hu, rfl, rfl⟩)))
        omega
    · rw [if_neg c]; omega
  have h3 : wtU m AL w U = fb_sm (fun j => (if (AL j && U j) = true then D (q j) - D (p j) else 0) + (if (AL j && U j) = true then w j - (D (q j) - D (p j)) else 0)) m := fb_sm_cong fun j hj => by
    try dsimp only
    by_cases c : (AL j && U j) = true
    · rw [if_pos c, if_pos c, if_pos c]
      have ca := c
      rw [Bool.and_eq_true] at ca
      have := hD 3 j (q j) (p j) 0 (w j) (Or.inr (Or.inr (Or.inr ⟨rfl, rfl, rfl, hj, ca.1, ca.2, rfl, rfl⟩)))
      omega
    · rw [if_neg c, if_neg c, if_neg c]
  rw [fb_sm_add] at h1 h3
  have h2 : fb_sm (fun v => (D (v + 1) - D v) * crs m AL p q T v) N ≤ fb_sm (fun v => (D (v + 1) - D v) * crs m AL p q U v) N := fb_sm_le fun v hv => by
    try dsimp only
    have c1 := hcut v hv
    have c2 := hT v hv
    rcases Nat.eq_zero_or_pos (fl v) with c | c
    · exact Nat.mul_le_mul_left _ (by omega)
    · have := hD 1 v (v + 1) v 0 0 (Or.inr (Or.inl ⟨rfl, rfl, rfl, hv, c, rfl, rfl⟩))
      rw [show D (v + 1) - D v = 0 by omega, Nat.zero_mul, Nat.zero_mul]
      exact Nat.le_refl _
  omega
/-- one stage: the greatest weight so far, and a potential -/
def STG (N m : Nat) (AL : Nat → Bool) (p q w : Nat → Nat) (R : Nat) (U : Nat → Bool) (fl : Nat → Nat) : Prop := (∃ D, VP N m AL p q w U fl D ∧ D 0 = 0 ∧ fb_sm D (N + 1) ≤ 6642000) ∧ ∀ v, v < N → fl v + crs m AL p q U v = R
theorem STG.zero (hk : NOK N m AL p q w) (hN : N ≤ 80) : STG N m AL p q w 0 (fun _ => false) (fun _ => 0) := by
  refine ⟨⟨fun v => v * 1000, fun c i u v gp gm hA => ?_, rfl, ?_⟩, fun v hv => ?_⟩
  · have hl := hA.le hk
    rcases hA with ⟨-, h1, h2, h3, h4, h5⟩ | ⟨-, h1, h2, h3, h4, h5, h6⟩ | ⟨-, h1, h2, h3, h4, h5, h6, h7⟩ | ⟨-, h1, h2, h3, h4, h5, h6, h7⟩
    · try dsimp only
      omega
    · exact absurd h4 (Nat.lt_irrefl 0)
    · have := hk i h3 h4
      try dsimp only
      omega
    · cases h5
  · have := fb_sm_bound (f := fun v => v * 1000) (c := 80000) (n := N + 1) fun k hk => by
      try dsimp only
      omega
    have : (N + 1) * 80000 ≤ 81 * 80000 := Nat.mul_le_mul_right _ (by omega)
    omega
  · show 0 + fb_ct _ m = 0
    rw [fb_ct_zero.mpr fun j _ => by rw [Bool.and_false, Bool.false_and]]
theorem STG.dmn {R : Nat} (h : STG N m AL p q w R U fl) : ∃ D, DMN N m AL p q w U fl D ∧ fb_sm D (N + 1) ≤ 6642000 ∧ ∀ v, v ≤ N → D v ≤ 6642000 := by
  obtain ⟨⟨D0, h1, h2, h3⟩, -⟩ := h
  obtain ⟨D, hD⟩ := dmn_ex ⟨D0, h1, h2⟩
  have := hD.2.2 D0 h1 h2
  refine ⟨D, hD, by omega, fun v hv => ?_⟩
  have := fb_sm_part D (i := v) (n := N + 1) (by omega)
  omega
theorem WLK.stg {D : Nat → Nat} (h : WLK N m AL p q w D par τ R W0 0 U fl) (hD0 : D 0 = 0) (hs : fb_sm D (N + 1) ≤ 6642000) : STG N m AL p q w (R + 1) U fl := by
  obtain ⟨h1, h2, h3⟩ := h.done hD0
  exact ⟨⟨D, h1, hD0, hs⟩, h2⟩
theorem STG.best (hk : NOK N m AL p q w) {R : Nat} (h : STG N m AL p q w R U fl) : (∀ v, v < N → crs m AL p q U v ≤ R) ∧ ∀ T, (∀ v, v < N → crs m AL p q T v ≤ R) → wtU m AL w T ≤ wtU m AL w U := by
  obtain ⟨⟨D, h1, h2, h3⟩, h4⟩ := h
  exact ⟨fun v hv => by have := h4 v hv; omega, fun T hT => net_opt hk h1 h4 T hT⟩
end NET2
