/-! Several rooms: a net of points in a row, its potentials, its best ways. -/
section NET
variable {N m : Nat} {AL : Nat → Bool} {p q w : Nat → Nat}
def ARC (N m : Nat) (AL : Nat → Bool) (p q w : Nat → Nat) (U : Nat → Bool) (fl : Nat → Nat) (c i u v gp gm : Nat) : Prop :=
  (c = 0 ∧ u = i ∧ v = i + 1 ∧ i < N ∧ gp = 0 ∧ gm = 0) ∨ (c = 1 ∧ u = i + 1 ∧ v = i ∧ i < N ∧ 0 < fl i ∧ gp = 0 ∧ gm = 0) ∨ (c = 2 ∧ u = p i ∧ v = q i ∧ i < m ∧ AL i = true ∧ U i = false ∧ gp = w i ∧ gm = 0) ∨ (c = 3 ∧ u = q i ∧ v = p i ∧ i < m ∧ AL i = true ∧ U i = true ∧ gp = 0 ∧ gm = w i)
def NOK (N m : Nat) (AL : Nat → Bool) (p q w : Nat → Nat) : Prop := ∀ j, j < m → AL j = true → p j < q j ∧ q j ≤ N ∧ w j ≤ 1000
def VP (N m : Nat) (AL : Nat → Bool) (p q w : Nat → Nat) (U : Nat → Bool) (fl : Nat → Nat) (D : Nat → Nat) : Prop := ∀ c i u v gp gm, ARC N m AL p q w U fl c i u v gp gm → D u + gp ≤ D v + gm
def DMN (N m : Nat) (AL : Nat → Bool) (p q w : Nat → Nat) (U : Nat → Bool) (fl : Nat → Nat) (D : Nat → Nat) : Prop := VP N m AL p q w U fl D ∧ D 0 = 0 ∧ ∀ D2, VP N m AL p q w U fl D2 → D2 0 = 0 → fb_sm D (N + 1) ≤ fb_sm D2 (N + 1)
variable {U : Nat → Bool} {fl D : Nat → Nat}
theorem ARC.le {c i u v gp gm : Nat} (hk : NOK N m AL p q w) (h : ARC N m AL p q w U fl c i u v gp gm) : u ≤ N ∧ v ≤ N ∧ u ≠ v := by
  rcases h with ⟨-, h1, h2, h3, -⟩ | ⟨-, h1, h2, h3, -⟩ | ⟨-, h1, h2, h3, h4, -⟩ | ⟨-, h1, h2, h3, h4, -⟩
  · omega
  · omega
  · have := hk i h3 h4; omega
  · have := hk i h3 h4; omega
theorem dmn_ex (h : ∃ D, VP N m AL p q w U fl D ∧ D 0 = 0) : ∃ D, DMN N m AL p q w U fl D := by
  obtain ⟨D0, h1, h2⟩ := h
  obtain ⟨s, ⟨D, hD1, hD2, hD3⟩, hs⟩ := pk_least (fun s => ∃ D, VP N m AL p q w U fl D ∧ D 0 = 0 ∧ fb_sm D (N + 1) = s) ⟨_, D0, h1, h2, rfl⟩
  refine ⟨D, hD1, hD2, fun D2 q1 q2 => ?_⟩
  rcases Nat.lt_or_ge (fb_sm D2 (N + 1)) (fb_sm D (N + 1)) with h | h
  · exact absurd ⟨D2, q1, q2, rfl⟩ (hs _ (by omega))
  · exact h
theorem vp_up (h : VP N m AL p q w U fl D) {a c : Nat} (hac : a ≤ c) (hc : c ≤ N) : D a ≤ D c := by
  induction c with
  | zero => rw [Nat.le_zero.mp hac]; exact Nat.le_refl _
  | succ c ih =>
    rcases Nat.lt_or_ge a (c + 1) with h1 | h1
    · have h2 := ih (by omega) (by omega)
      have h3 := h 0 c c (c + 1) 0 0 (Or.inl ⟨rfl, rfl, rfl, by omega, rfl, rfl⟩)
      omega
    · have : a = c + 1 := by omega
      rw [this]; exact Nat.le_refl _
/-- out of a set of points with the first one, that is not all, a tight arc leads -/
theorem dmn_out (hk : NOK N m AL p q w) (h : DMN N m AL p q w U fl D) (S : Nat → Bool) (h0 : S 0 = true) (h1 : ∃ v, v ≤ N ∧ S v = false) : ∃ c i u v gp gm, ARC N m AL p q w U fl c i u v gp gm ∧ S u = true ∧ S v = false ∧ D u + gp = D v + gm := by
  obtain ⟨hV, hD0, hmin⟩ := h
  rcases Classical.em (∃ c i u v gp gm, ARC N m AL p q w U fl c i u v gp gm ∧ S u = true ∧ S v = false ∧ D u + gp = D v + gm) with hx | hx
  · exact hx
  exfalso
  obtain ⟨v0, hv0, hs0⟩ := h1
  have hpos : ∀ v, v ≤ N → S v = false → 0 < D v := by
    intro v
    induction v with
    | zero => intro _ h; rw [h0] at h; cases h
    | succ v ih =>
      intro hv hs
      have hA : ARC N m AL p q w U fl 0 v v (v + 1) 0 0 := Or.inl ⟨rfl, rfl, rfl, by omega, rfl, rfl⟩
      have h3 := hV _ _ _ _ _ _ hA
      cases hsv : S v with
      | false => have := ih (by omega) hsv; omega
      | true =>
        rcases Nat.lt_or_ge (D v) (D (v + 1)) with h4 | h4
        · omega
        · exact absurd ⟨0, v, v, v + 1, 0, 0, hA, hsv, hs, by omega⟩ hx
  have hV2 : VP N m AL p q w U fl (fun v => if S v = true then D v else D v - 1) := by
    intro c i u v gp gm hA
    have h3 := hV c i u v gp gm hA
    have hl := hA.le hk
    try dsimp only
    by_cases c1 : S u = true
    · rw [if_pos c1]
      by_cases c2 : S v = true
      · rw [if_pos c2]; exact h3
      · rw [if_neg c2]
        have c3 : S v = false := by simpa using c2
        have := hpos v hl.2.1 c3
        have : D u + gp ≠ D v + gm := fun q => hx ⟨c, i, u, v, gp, gm, hA, c1, c3, q⟩
        omega
    · rw [if_neg c1]
      have c3 : S u = false := by simpa using c1
      have := hpos u hl.1 c3
      by_cases c2 : S v = true
      · rw [if_pos c2]; omega
      · rw [if_neg c2]
        have := hpos v hl.2.1 (by simpa using c2)
        omega
  have h5 := hmin _ hV2 (show (if S 0 = true then D 0 else D 0 - 1) = 0 by rw [if_pos h0]; exact hD0)
  have h6 : fb_sm (fun v => if S v = true then D v else D v - 1) (N + 1) + 1 ≤ fb_sm D (N + 1) := by
    have h7 := fb_sm_upd (fun v => if S v = true then D v else D v - 1) (D v0) (i := v0) (n := N + 1) (by omega)
    have h8 : fb_sm (fun k => if k = v0 then D v0 else (fun v => if S v = true then D v else D v - 1) k) (N + 1) ≤ fb_sm D (N + 1) := fb_sm_le fun k _ => by
      try dsimp only
      by_cases c1 : k = v0
      · rw [if_pos c1, c1]; exact Nat.le_refl _
      · rw [if_neg c1]
        by_cases c2 : S k = true
        · rw [if_pos c2]; exact Nat.le_refl _
        · rw [if_neg c2]; omega
    try dsimp only at h7
    rw [if_neg (by rw [hs0]; decide)] at h7
    have := hpos v0 hv0 hs0
    try dsimp only at h8
    omega
  omega
/-- the state of a search -/
def PAR (N m : Nat) (AL : Nat → Bool) (p q w : Nat → Nat) (U : Nat → Bool) (fl : Nat → Nat) (RE : Nat → Bool) (d : Nat → Nat) (par : Nat → Nat × Nat) (τ : Nat → Nat) (v : Nat) : Prop := ∃ u gp gm, ARC N m AL p q w U fl (par v).1 (par v).2 u v gp gm ∧ RE u = true ∧ d v + gm ≤ d u + gp ∧ (d v + gm = d u + gp → τ u < τ v)
def BFI (N m : Nat) (AL : Nat → Bool) (p q w : Nat → Nat) (U : Nat → Bool) (fl : Nat → Nat) (D : Nat → Nat) (RE : Nat → Bool) (d : Nat → Nat) (par : Nat → Nat × Nat) : Prop := RE 0 = true ∧ d 0 = 0 ∧ (∀ v, v ≤ N → RE v = true → d v ≤ D v) ∧ ∃ (τ : Nat → Nat) (T : Nat), (∀ v, v ≤ N → τ v < T) ∧ ∀ v, v ≤ N → v ≠ 0 → RE v = true → PAR N m AL p q w U fl RE d par τ v
theorem BFI.relax {RE : Nat → Bool} {d : Nat → Nat} {par : Nat → Nat × Nat} {c i u v gp gm : Nat} (hk : NOK N m AL p q w) (hD : VP N m AL p q w U fl D) (hD0 : D 0 = 0) (h : BFI N m AL p q w U fl D RE d par) (hA : ARC N m AL p q w U fl c i u v gp gm) (hu : RE u = true) (hlt : (RE v = false ∧ gm = 0) ∨ (RE v = true ∧ d v + gm < d u + gp)) :
    BFI N m AL p q w U fl D (fs RE v true) (fs d v (d u + gp - gm)) (fs par v (c, i)) ∧ d u + gp - gm ≤ D v ∧ (RE v = true → d v < d u + gp - gm) := by
  obtain ⟨h1, h2, h3, τ, T, h4, h5⟩ := h
  have hl := hA.le hk
  have hDv := hD _ _ _ _ _ _ hA
  have hdu := h3 u hl.1 hu
  have hge : gm ≤ d u + gp := by
    rcases hlt with ⟨-, h⟩ | ⟨-, h⟩ <;> omega
  have hv0 : v ≠ 0 := by
    intro h
    subst h
    rcases hlt with ⟨h, -⟩ | ⟨-, h⟩
    · rw [h1] at h; cases h
    · omega
  refine ⟨⟨?_, ?_, fun x hx hr => ?_, fs τ v T, T + 1, fun x hx => ?_, fun x hx hx0 hr => ?_⟩, by omega, fun hr => ?_⟩
  · rw [fs_ne _ _ (Ne.symm hv0)]; exact h1
  · rw [fs_ne _ _ (Ne.symm hv0)]; exact h2
  · by_cases c1 : x = v
    · rw [c1, fs_at]; omega
    · rw [fs_ne _ _ c1] at hr ⊢; exact h3 x hx hr
  · by_cases c1 : x = v
    · rw [c1, fs_at]; omega
    · rw [fs_ne _ _ c1]; have := h4 x hx; omega
  · by_cases c1 : x = v
    · subst c1
      refine ⟨u, gp, gm, by rw [fs_at]; exact hA, by rw [fs_ne _ _ hl.2.2]; exact hu, ?_, fun _ => ?_⟩
      · rw [fs_at, fs_ne _ _ hl.2.2]; omega
      · rw [fs_at, fs_ne _ _ hl.2.2]; exact h4 u hl.1
    · rw [fs_ne _ _ c1] at hr
      obtain ⟨u', gp', gm', a1, a2, a3, a4⟩ := h5 x hx hx0 hr
      have hl' := a1.le hk
      refine ⟨u', gp', gm', by rw [fs_ne _ _ c1]; exact a1, ?_, ?_, ?_⟩
      · by_cases c2 : u' = v
        · rw [c2, fs_at]
        · rw [fs_ne _ _ c2]; exact a2
      · rw [fs_ne _ _ c1]
        by_cases c2 : u' = v
        · rw [c2, fs_at]
          rw [c2] at a3 a2
          rcases hlt with ⟨h, -⟩ | ⟨-, h⟩
          · rw [a2] at h; cases h
          · omega
        · rw [fs_ne _ _ c2]; exact a3
      · rw [fs_ne _ _ c1, fs_ne _ _ c1]
        by_cases c2 : u' = v
        · rw [c2, fs_at]
          rw [c2] at a3 a2
          rcases hlt with ⟨h, -⟩ | ⟨-, h⟩
          · rw [a2] at h; cases h
          · intro; omega
        · rw [fs_ne _ _ c2, fs_ne _ _ c2]; exact a4
  · rcases hlt with ⟨h, -⟩ | ⟨-, h⟩
    · rw [h] at hr; cases hr
    · omega
/-- a round makes one more point right -/
theorem dmn_grow {d d2 : Nat → Nat} (hk : NOK N m AL p q w) (h : DMN N m AL p q w U fl D) (hd0 : d 0 = D 0) (h1 : ∀ v, v ≤ N → d v ≤ d2 v) (h2 : ∀ v, v ≤ N → d2 v ≤ D v) (h3 : ∀ c i u v gp gm, ARC N m AL p q w U fl c i u v gp gm → d u + gp ≤ d2 v + gm) :
    (∀ v, v ≤ N → d v = D v) ∨ fb_ct (fun v => decide (d v = D v)) (N + 1) < fb_ct (fun v => decide (d2 v = D v)) (N + 1) := by
  rcases Classical.em (∀ v, v ≤ N → d v = D v) with ha | ha
  · exact Or.inl ha
  refine Or.inr ?_
  have hne : ∃ v, v ≤ N ∧ decide (d v = D v) = false := by
    rcases Classical.em (∃ v, v ≤ N ∧ decide (d v = D v) = false) with hx | hx
    · exact hx
    · refine absurd (fun v hv => ?_) ha
      cases hq : decide (d v = D v) with
      | true => exact of_decide_eq_true hq
      | false => exact absurd ⟨v, hv, hq⟩ hx
  obtain ⟨c, i, u, v, gp, gm, hA, hs1, hs2, ht⟩ := dmn_out hk h (fun v => decide (d v = D v)) (decide_eq_true hd0) hne
  have hl := hA.le hk
  have e1 := of_decide_eq_true hs1
  have e2 := of_decide_eq_false hs2
  have e3 := h3 c i u v gp gm hA
  have e4 := h2 v hl.2.1
  have e5 : d2 v = D v := by omega
  have h7 := fb_ct_upd (fun v => decide (d v = D v)) true (i := v) (n := N + 1) (by omega)
  try dsimp only at h7
  rw [decide_eq_false e2, if_pos rfl] at h7
  have h8 : fb_ct (fun k => if k = v then true else decide (d k = D k)) (N + 1) ≤ fb_ct (fun v => decide (d2 v = D v)) (N + 1) := fb_ct_sub fun k hk2 hq => by
    try dsimp only at hq ⊢
    by_cases c1 : k = v
    · rw [c1]; exact decide_eq_true e5
    · rw [if_neg c1] at hq
      have a1 := of_decide_eq_true hq
      have a2 := h1 k (by omega)
      have a3 := h2 k (by omega)
      exact decide_eq_true (by omega)
  simp only [Bool.false_eq_true, if_false] at h7
  omega
/-- the cuts and the weight of a set -/
def crs (m : Nat) (AL : Nat → Bool) (p q : Nat → Nat) (U : Nat → Bool) (v : Nat) : Nat := fb_ct (fun j => (AL j && U j) && (decide (p j ≤ v) && decide (v < q j))) m
def wtU (m : Nat) (AL : Nat → Bool) (w : Nat → Nat) (U : Nat → Bool) : Nat := fb_sm (fun j => if (AL j && U j) = true then w j else 0) m
/-- the way back -/
def WLK (N m : Nat) (AL : Nat → Bool) (p q w : Nat → Nat) (D : Nat → Nat) (par : Nat → Nat × Nat) (τ : Nat → Nat) (R W0 x : Nat) (U : Nat → Bool) (fl : Nat → Nat) : Prop := x ≤ N ∧ VP N m AL p q w U fl D ∧ (∀ v, v < N → fl v + crs m AL p q U v = R + (if x ≤ v then 1 else 0)) ∧ (∀ y, y ≤ N → y ≠ 0 → τ y ≤ τ x → ∃ u gp gm, ARC N m AL p q w U fl (par y).1 (par y).2 u y gp gm ∧ D y + gm = D u + gp ∧ τ u < τ y) ∧ wtU m AL w U + D x = W0 + D N
theorem crs_set {i : Nat} (hi : i < m) (ha : AL i = true) (v : Nat) (y : Bool) : crs m AL p q (fs U i y) v + (if (U i && (decide (p i ≤ v) && decide (v < q i))) = true then 1 else 0) = crs m AL p q U v + (if (y && (decide (p i ≤ v) && decide (v < q i))) = true then 1 else 0) := by
  have h1 : crs m AL p q (fs U i y) v = fb_ct (fun k => if k = i then (y && (decide (p i ≤ v) && decide (v < q i))) else (AL k && U k) && (decide (p k ≤ v) && decide (v < q k))) m := fb_ct_cong fun k _ => by
    try dsimp only
    by_cases c : k = i
    · rw [if_pos c, c, fs_at, ha, Bool.true_and]
    · rw [if_neg c, fs_ne _ _ c]
  rw [h1]
  have h2 := fb_ct_upd (fun k => (AL k && U k) && (decide (p k ≤ v) && decide (v < q k))) (y && (decide (p i ≤ v) && decide (v < q i))) hi
  try dsimp only at h2
  rw [ha, Bool.true_and] at h2
  exact h2
theorem wtU_set {i : Nat} (hi : i < m) (ha : AL i = true) (y : Bool) : wtU m AL w (fs U i y) + (if U i = true then w i else 0) = wtU m AL w U + (if y = true then w i else 0) := by
  have h1 : wtU m AL w (fs U i y) = fb_sm (fun k => if k = i then (if y = true then w i else 0) else if (AL k && U k) = true then w k else 0) m := fb_sm_cong fun k _ => by
    try dsimp only
    by_cases c : k = i
    · rw [if_pos c, c, fs_at, ha, Bool.true_and]
    · rw [if_neg c, fs_ne _ _ c]
  rw [h1]
  have h2 := fb_sm_upd (fun k => if (AL k && U k) = true then w k else 0) (if y = true then w i else 0) hi
  try dsimp only at h2
  rw [ha, Bool.true_and] at h2
  exact h2
theorem ind_iff {a b : Nat} {x y v : Nat} : (if (true && (decide (a ≤ v) && decide (v < b))) = true then 1 else 0) = (if a ≤ v ∧ v < b then 1 else 0) := by
  by_cases c : a ≤ v ∧ v < b
  · rw [if_pos c, decide_eq_true c.1, decide_eq_true c.2]; rfl
  · rw [if_neg c, if_neg]
    intro h
    simp only [Bool.true_and, Bool.and_eq_true, decide_eq_true_eq] at h
    exact c h
end NET
