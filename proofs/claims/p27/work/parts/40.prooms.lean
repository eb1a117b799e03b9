/-! rooms, busiest, earliest. -/
theorem loopE {σ R : Type} (F : Nat → σ → R) (Q : R → Prop) (n : Nat) (I : Nat → σ → Prop) (h1 : ∀ m i s, i < n → I i s → (∃ s', I (i + 1) s' ∧ F (m + 1) s = F m s') ∨ Q (F (m + 1) s)) (h2 : ∀ m s, I n s → Q (F (m + 1) s)) (m : Nat) (s : σ) (hm : n < m) (h0 : I 0 s) : Q (F m s) := by
  have key : ∀ j i m s, i + j = n → j < m → I i s → Q (F m s) := by
    intro j
    induction j with
    | zero =>
      intro i m s h hm hI
      obtain ⟨m, rfl⟩ : ∃ q, m = q + 1 := ⟨m - 1, by omega⟩
      have : i = n := by omega
      subst this
      exact h2 m s hI
    | succ j ih =>
      intro i m s h hm hI
      obtain ⟨m, rfl⟩ : ∃ q, m = q + 1 := ⟨m - 1, by omega⟩
      rcases h1 m i s (by omega) hI with ⟨s', hI', he⟩ | hq
      · rw [he]
        exact ih (i + 1) m s' (by omega) (by omega) hI'
      · exact hq
  exact key n 0 m s (by omega) hm h0
section DP
variable {n : Nat} {b e w : Nat → Nat} {P : Nat → Bool}
/-- among those that take a time, the one that begins last: all of them take its begin -/
theorem dep_at (t : Nat) (h : 0 < dep n b e P t) : ∃ j, j < n ∧ P j = true ∧ b j ≤ t ∧ t < e j ∧ dep n b e P t ≤ dep n b e P (b j) ∧ ∀ i, i < n → P i = true → b i ≤ t → t < e i → b i ≤ b j := by
  obtain ⟨i0, hi0, hp0⟩ := fb_ct_pos.mp h
  simp only [Bool.and_eq_true, decide_eq_true_eq] at hp0
  obtain ⟨j, hj, hmax, -⟩ := fb_best (fun i => if P i = true ∧ b i ≤ t ∧ t < e i then (b i : Int) else -1) (n := n) (by omega)
  have h1 := hmax i0 hi0
  rw [if_pos hp0] at h1
  have hjp : P j = true ∧ b j ≤ t ∧ t < e j := by
    by_cases hq : P j = true ∧ b j ≤ t ∧ t < e j
    · exact hq
    · rw [if_neg hq] at h1; omega
  rw [if_pos hjp] at hmax
  have hm2 : ∀ i, i < n → P i = true → b i ≤ t → t < e i → b i ≤ b j := by
    intro i hi q1 q2 q3
    have := hmax i hi
    rw [if_pos ⟨q1, q2, q3⟩] at this
    omega
  refine ⟨j, hj, hjp.1, hjp.2.1, hjp.2.2, fb_ct_sub fun i hi hq => ?_, hm2⟩
  simp only [Bool.and_eq_true, decide_eq_true_eq] at hq ⊢
  exact ⟨hq.1, hm2 i hi hq.1 hq.2.1 hq.2.2, by omega⟩
theorem dep_pos {j : Nat} (hg : GD n b e w) (hj : j < n) (hp : P j = true) : 0 < dep n b e P (b j) := by
  refine fb_ct_pos.mpr ⟨j, hj, ?_⟩
  simp [hp, (hg.2 j hj).1]
theorem dep_le (t : Nat) : dep n b e P t ≤ n := fb_ct_le _ _
/-- the least time with the greatest depth -/
def LDT (n : Nat) (b e : Nat → Nat) (P : Nat → Bool) (t : Nat) : Prop := (∀ u, dep n b e P u ≤ dep n b e P t) ∧ ∀ u, u < t → dep n b e P u < dep n b e P t
theorem LDT.one {t u : Nat} (h1 : LDT n b e P t) (h2 : LDT n b e P u) : t = u := by
  rcases Nat.lt_trichotomy t u with h | h | h
  · have := h2.2 t h; have := h1.1 u; omega
  · exact h
  · have := h1.2 u h; have := h2.1 t; omega
end DP
theorem X4_ldt {k n : Nat} {x : Int64} {P : Nat → Bool} {B E : Nat → Int32} {b e w : Nat → Nat} (hk : 10000 ≤ k) (hg : GD n b e w) (hx : ST x n P) (hB : AR n B b) (hE : AR n E e) :
    ((∀ j, j < n → P j = false) ∧ f_X4_leastDeepestTime k (nI n) x B E = some (-1)) ∨ ∃ j, j < n ∧ P j = true ∧ LDT n b e P (b j) ∧ f_X4_leastDeepestTime k (nI n) x B E = some (nI (b j)) := by
  have hn := hg.1
  have key := loopE (fun m (s : Int32 × Int32 × Int32) => f_X4_leastDeepestTime_L6 k (nI n) x B E (fun (v1_13 : Int32) (v2_14 : Int32) (v3_15 : Int32) => some v1_13) m s.1 s.2.1 s.2.2)
    (fun r => ((∀ j, j < n → P j = false) ∧ r = some (-1)) ∨ ∃ j, j < n ∧ P j = true ∧ (∀ i, i < n → P i = true → dep n b e P (b i) ≤ dep n b e P (b j) ∧ (dep n b e P (b i) = dep n b e P (b j) → b j ≤ b i)) ∧ r = some (nI (b j))) n
    (fun i s => s.2.2 = nI i ∧ (((∀ j, j < i → P j = false) ∧ s.1 = -1 ∧ s.2.1 = 0) ∨ ∃ j, j < i ∧ P j = true ∧ (∀ q, q < i → P q = true → dep n b e P (b q) ≤ dep n b e P (b j) ∧ (dep n b e P (b q) = dep n b e P (b j) → b j ≤ b q)) ∧ s.1 = nI (b j) ∧ s.2.1 = nI (dep n b e P (b j))))
    ?_ ?_ k (-1, 0, 0) (by omega) ⟨rfl, Or.inl ⟨fun j h => absurd h (Nat.not_lt_zero j), rfl, rfl⟩⟩
  · unfold f_X4_leastDeepestTime
    rcases key with h | ⟨j, hj, hp, hm, hr⟩
    · exact Or.inl h
    · refine Or.inr ⟨j, hj, hp, ⟨fun u => ?_, fun u hu => ?_⟩, hr⟩
      · rcases Nat.eq_zero_or_pos (dep n b e P u) with h0 | h0
        · omega
        · obtain ⟨i, hi, q1, q2, q3, q4, -⟩ := dep_at u h0
          exact Nat.le_trans q4 (hm i hi q1).1
      · rcases Nat.eq_zero_or_pos (dep n b e P u) with h0 | h0
        · rw [h0]; exact dep_pos hg hj hp
        · obtain ⟨i, hi, q1, q2, q3, q4, -⟩ := dep_at u h0
          have h5 := (hm i hi q1).1
          rcases Nat.lt_or_ge (dep n b e P u) (dep n b e P (b j)) with h6 | h6
          · exact h6
          · have := (hm i hi q1).2 (by omega)
            omega
  · rintro m i ⟨v1, v2, v3⟩ hi ⟨rfl, hI⟩
    refine Or.inl ?_
    dsimp only at hI ⊢
    have hgi := hg.2 i hi
    rw [f_X4_leastDeepestTime_L6_s, if_neg (nI_ge hi (by omega)), xi_nI (by omega) (by omega), nI_clamp (by omega), contains_st k hx hi hn, xb_s, xj_s, hB i hi]
    have hdl := dep_le (n := n) (b := b) (e := e) (P := P) (b i)
    by_cases hp : P i = true
    · rw [if_neg (by rw [if_pos hp]; decide), depthAt_eq (by omega) hg hx hB hE (by omega), xb_s]
      dsimp only
      rcases hI with ⟨h0, rfl, rfl⟩ | ⟨j, hj, hpj, hm, rfl, rfl⟩
      · refine ⟨(nI (b i), nI (dep n b e P (b i)), nI (i + 1)), ⟨rfl, Or.inr ⟨i, by omega, hp, fun q hq hq2 => ?_, rfl, rfl⟩⟩, ?_⟩
        · have : q = i := by
            rcases Nat.lt_or_ge q i with h | h
            · rw [h0 q h] at hq2; cases hq2
            · omega
          subst this
          exact ⟨Nat.le_refl _, fun _ => Nat.le_refl _⟩
        · rw [if_pos (show (0 : Int32) < nI _ from nI_lt (a := 0) (dep_pos hg hi hp) (by omega)), nI_1]
      · have hdj := dep_le (n := n) (b := b) (e := e) (P := P) (b j)
        have hgj := hg.2 j (by omega)
        rw [nI_1]
        by_cases c1 : dep n b e P (b j) < dep n b e P (b i)
        · rw [if_pos (nI_lt c1 (by omega))]
          refine ⟨(nI (b i), nI (dep n b e P (b i)), nI (i + 1)), ⟨rfl, Or.inr ⟨i, by omega, hp, fun q hq hq2 => ?_, rfl, rfl⟩⟩, rfl⟩
          rcases Nat.lt_or_ge q i with h | h
          · have := (hm q h hq2).1
            exact ⟨by omega, fun h9 => by omega⟩
          · have : q = i := by omega
            subst this
            exact ⟨Nat.le_refl _, fun _ => Nat.le_refl _⟩
        · rw [if_neg (nI_nlt (Nat.not_lt.mp c1) (by omega))]
          by_cases c2 : dep n b e P (b i) = dep n b e P (b j)
          · rw [if_pos (congrArg nI c2)]
            by_cases c3 : b j ≤ b i
            · rw [if_pos (nI_le c3 (by omega))]
              refine ⟨(nI (b j), nI (dep n b e P (b j)), nI (i + 1)), ⟨rfl, Or.inr ⟨j, by omega, hpj, fun q hq hq2 => ?_, rfl, rfl⟩⟩, rfl⟩
              rcases Nat.lt_or_ge q i with h | h
              · exact hm q h hq2
              · have : q = i := by omega
                subst this
                exact ⟨by omega, fun _ => c3⟩
            · rw [if_neg (nI_ge (Nat.not_le.mp c3) (by omega))]
              refine ⟨(nI (b i), nI (dep n b e P (b i)), nI (i + 1)), ⟨rfl, Or.inr ⟨i, by omega, hp, fun q hq hq2 => ?_, rfl, rfl⟩⟩, rfl⟩
              rcases Nat.lt_or_ge q i with h | h
              · have h7 := hm q h hq2
                exact ⟨by omega, fun h9 => by have := h7.2 (by omega); omega⟩
              · have : q = i := by omega
                subst this
                exact ⟨Nat.le_refl _, fun _ => Nat.le_refl _⟩
          · rw [if_neg (fun q => c2 ((nI_eq (by omega) (by omega)).mp q))]
            refine ⟨(nI (b j), nI (dep n b e P (b j)), nI (i + 1)), ⟨rfl, Or.inr ⟨j, by omega, hpj, fun q hq hq2 => ?_, rfl, rfl⟩⟩, rfl⟩
            rcases Nat.lt_or_ge q i with h | h
            · exact hm q h hq2
            · have : q = i := by omega
              subst this
              exact ⟨by omega, fun h9 => by omega⟩
    · have hp2 : P i = false := by simpa using hp
      rw [if_pos (by rw [if_neg hp])]
      dsimp only
      rcases hI with ⟨h0, rfl, rfl⟩ | ⟨j, hj, hpj, hm, rfl, rfl⟩
      · refine ⟨(-1, 0, nI (i + 1)), ⟨rfl, Or.inl ⟨fun q hq => ?_, rfl, rfl⟩⟩, ?_⟩
        · rcases Nat.lt_or_ge q i with h | h
          · exact h0 q h
          · have : q = i := by omega
            rw [this]; exact hp2
        · rw [if_neg (by decide), if_pos rfl, if_pos (show (-1 : Int32) ≤ nI (b i) from by rw [fa_le, nI_toInt (by omega)]; show (-1 : Int) ≤ _; omega), nI_1]
      · have hdj := dep_le (n := n) (b := b) (e := e) (P := P) (b j)
        have hd0 := dep_pos hg (show j < n by omega) hpj
        refine ⟨(nI (b j), nI (dep n b e P (b j)), nI (i + 1)), ⟨rfl, Or.inr ⟨j, by omega, hpj, fun q hq hq2 => ?_, rfl, rfl⟩⟩, ?_⟩
        · rcases Nat.lt_or_ge q i with h | h
          · exact hm q h hq2
          · have : q = i := by omega
            rw [this, hp2] at hq2; cases hq2
        · rw [if_neg (show ¬ nI (dep n b e P (b j)) < 0 from nI_pos (by omega)), if_neg (show ¬ (0 : Int32) = nI (dep n b e P (b j)) from fun q => nI_ne0 hd0 (by omega) q.symm), nI_1]
  · rintro m ⟨v1, v2, v3⟩ ⟨rfl, hI⟩
    dsimp only at hI ⊢
    rw [f_X4_leastDeepestTime_L6_s, if_pos (nI_le (Nat.le_refl _) (by omega))]
    rcases hI with ⟨h0, rfl, rfl⟩ | ⟨j, hj, hpj, hm, rfl, rfl⟩
    · exact Or.inl ⟨h0, rfl⟩
    · exact Or.inr ⟨j, hj, hpj, hm, rfl⟩
