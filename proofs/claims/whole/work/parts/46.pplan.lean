/-! The model's plan by times; its order; its greedy. -/
section PLANS
variable {k n l : Nat} {C : Nat → Bool} {a z w : Nat → Nat} {W Fr To Ct : Nat → Int32}
theorem plan_L30 {t : Nat} {A : Nat → Int32} {Qp : Option (Int32 × (Nat → Int32)) → Prop} {κ : Int32 → (Nat → Int32) → Option (Int32 × (Nat → Int32))} (hk : 10000 ≤ k) (hn : n ≤ 40) (hz : ∀ i, i < n → C i = true → a i < z i ∧ z i ≤ 3000) (hw : ∀ i, i < n → w i ≤ 1000) (hW : AR n W w) (hF : ∀ i, i < n → C i = true → Fr i = nI (a i) ∧ To i = nI (z i)) (hC : BZ n Ct C) (ht : t + 1 ≤ 1000)
    (hA : ∀ u, u ≤ t → ∃ v, A u = nI v ∧ IsM n (ovl a z) w (fun j => C j = true ∧ z j ≤ u) v) (hA2 : A (t + 1) = A t)
    (hQ : ∀ v A', (∀ u, u ≤ t + 1 → ∃ v, A' u = nI v ∧ IsM n (ovl a z) w (fun j => C j = true ∧ z j ≤ u) v) → Qp (κ v A')) : Qp (f_X5_plan_L30 k (nI l) (nI (t + 1)) (nI n) W Fr To Ct κ k 0 A) := by
  refine loopE (fun f (s : Int32 × (Nat → Int32)) => f_X5_plan_L30 k (nI l) (nI (t + 1)) (nI n) W Fr To Ct κ f s.1 s.2) Qp n
    (fun i s => s.1 = nI i ∧ (∀ u, u ≤ t → ∃ v, s.2 u = nI v ∧ IsM n (ovl a z) w (fun j => C j = true ∧ z j ≤ u) v) ∧ ∃ v, s.2 (t + 1) = nI v ∧ IsM n (ovl a z) w (fun j => C j = true ∧ (z j ≤ t ∨ (z j = t + 1 ∧ j < i))) v)
    ?_ ?_ k (0, A) (by omega) ⟨rfl, hA, ?_⟩
  · rintro f i ⟨x, A1⟩ hi ⟨rfl, hI, v, hv1, hv2⟩
    refine Or.inl ?_
    dsimp only at hI hv1 ⊢
    rw [f_X5_plan_L30_s, if_neg (nI_ge hi (by omega)), xi_nI (by omega) (by omega), nI_clamp (show i < 2 ^ 31 by omega)]
    have hskip : (C i = true → z i ≠ t + 1) → IsM n (ovl a z) w (fun j => C j = true ∧ (z j ≤ t ∨ (z j = t + 1 ∧ j < i + 1))) v := fun h => hv2.cong fun j hj => by
      constructor
      · rintro ⟨q1, q2⟩
        exact ⟨q1, by omega⟩
      · rintro ⟨q1, q2⟩
        refine ⟨q1, ?_⟩
        by_cases c : j = i
        · subst c
          have := h q1
          omega
        · omega
    by_cases hc : C i = true
    · obtain ⟨hz1, hz2⟩ := hz i hi hc
      obtain ⟨f1, f2⟩ := hF i hi hc
      rw [if_neg (by rw [bz_0 hC hi, hc]; simp), xi_nI (by omega) (by omega), f2]
      by_cases ht2 : z i = t + 1
      · obtain ⟨u, hu1, hu2⟩ := hI (a i) (by omega)
        have hvl := hv2.le hw
        have hul := hu2.le hw
        have hwi := hw i hi
        have hst := IsM.step (ovl_comm a z) (i := i) (Q2 := fun j => C j = true ∧ (z j ≤ t ∨ (z j = t + 1 ∧ j < i + 1))) hi (fun ⟨_, q⟩ => by omega) hv2 hu2 (fun j hj => by
          constructor
          · rintro ⟨q1, q2⟩
            refine ⟨⟨q1, by omega⟩, ?_⟩
            unfold ovl
            rw [decide_eq_false (p := a i < z j) (by omega), Bool.and_false]
          · rintro ⟨⟨q1, q2⟩, ho⟩
            refine ⟨q1, ?_⟩
            have h4 := hz j hj q1
            unfold ovl at ho
            rw [decide_eq_true (p := a j < z i) (by omega), Bool.true_and] at ho
            have := of_decide_eq_false ho
            omega) (fun j hj => by
          constructor
          · rintro ⟨q1, q2⟩
            by_cases c : j = i
            · exact Or.inr c
            · exact Or.inl ⟨q1, by omega⟩
          · rintro (⟨q1, q2⟩ | rfl)
            · exact ⟨q1, by omega⟩
            · exact ⟨hc, by omega⟩)
        have hai : a i ≤ t := by omega
        rw [if_pos (congrArg nI ht2), f1]
        simp (disch := omega) only [xi_nI, nI_clamp, hu1, hv1, hW i hi, nI_add, nI_1]
        by_cases c : v < w i + u
        · rw [if_neg (nI_ge (show v < u + w i by omega) (by omega))]
          rw [if_pos c] at hst
          refine ⟨(nI (i + 1), upd A1 (t + 1) (nI (u + w i))), ⟨rfl, fun p hp => ?_, w i + u, ?_, hst⟩, rfl⟩
          · dsimp only
            unfold upd
            rw [if_neg (by omega)]
            exact hI p hp
          · dsimp only
            unfold upd
            rw [if_pos rfl, Nat.add_comm]
        · rw [if_pos (nI_le (show u + w i ≤ v by omega) (by omega))]
          rw [if_neg c] at hst
          exact ⟨(nI (i + 1), A1), ⟨rfl, hI, v, hv1, hst⟩, rfl⟩
      · rw [if_neg (fun q => ht2 ((nI_eq (by omega) (by omega)).mp q)), nI_1]
        exact ⟨(nI (i + 1), A1), ⟨rfl, hI, v, hv1, hskip fun _ => ht2⟩, rfl⟩
    · rw [if_pos (by rw [bz_0 hC hi]; simpa using hc), nI_1]
      exact ⟨(nI (i + 1), A1), ⟨rfl, hI, v, hv1, hskip fun q => absurd q hc⟩, rfl⟩
  · rintro f ⟨x, A1⟩ ⟨rfl, hI, v, hv1, hv2⟩
    dsimp only at hI hv1 ⊢
    rw [f_X5_plan_L30_s, if_pos (nI_le (Nat.le_refl _) (by omega))]
    refine hQ _ _ fun u hu => ?_
    by_cases c : u = t + 1
    · subst c
      refine ⟨v, hv1, hv2.cong fun j hj => ?_⟩
      constructor
      · rintro ⟨q1, q2⟩; exact ⟨q1, by omega⟩
      · rintro ⟨q1, q2⟩; exact ⟨q1, by omega⟩
    · exact hI u (by omega)
  · obtain ⟨v, hv1, hv2⟩ := hA t (Nat.le_refl _)
    refine ⟨v, by dsimp only; rw [hA2]; exact hv1, hv2.cong fun j hj => ?_⟩
    constructor
    · rintro ⟨q1, q2⟩; exact ⟨q1, by omega⟩
    · rintro ⟨q1, q2⟩; exact ⟨q1, by omega⟩
theorem plan_eq {A : Nat → Int32} (hk : 10000 ≤ k) (hn : n ≤ 40) (hl : l ≤ 1000) (hz : ∀ i, i < n → C i = true → a i < z i ∧ z i ≤ 3000) (hw : ∀ i, i < n → w i ≤ 1000) (hW : AR n W w) (hF : ∀ i, i < n → C i = true → Fr i = nI (a i) ∧ To i = nI (z i)) (hC : BZ n Ct C) :
    ∃ v A', IsM n (ovl a z) w (fun j => C j = true ∧ z j ≤ l) v ∧ f_X5_plan k (nI l) (nI n) W A Fr To Ct = some (nI v, A') := by
  unfold f_X5_plan
  rw [show xi (0 : Int32) 1001 = xi (α := Int32 × (Nat → Int32)) (nI 0) 1001 from rfl, xi_nI (by omega) (by omega)]
  have key : ∀ d m t A1, t + d = l → d < m → (∀ u, u ≤ t → ∃ v, A1 u = nI v ∧ IsM n (ovl a z) w (fun j => C j = true ∧ z j ≤ u) v) → (fun res => ∃ v A', IsM n (ovl a z) w (fun j => C j = true ∧ z j ≤ l) v ∧ res = some (nI v, A')) (f_X5_plan_L9 k (nI l) (nI n) W Fr To Ct (fun (v2_21 : Int32) (A_best_22 : Nat → Int32) => xi (nI l) 1001 (some (A_best_22 (nI l).toNatClampNeg, A_best_22))) m (nI (t + 1)) A1) := by
    intro d
    induction d with
    | zero =>
      intro m t A1 h1 h2 h3
      obtain ⟨m, rfl⟩ : ∃ q, m = q + 1 := ⟨m - 1, by omega⟩
      have : t = l := by omega
      subst this
      obtain ⟨v, hv1, hv2⟩ := h3 t (Nat.le_refl _)
      rw [f_X5_plan_L9_s, if_pos (nI_lt (by omega) (by omega)), xi_nI (by omega) (by omega), nI_clamp (by omega), hv1]
      exact ⟨v, A1, hv2, rfl⟩
    | succ d ih =>
      intro m t A1 h1 h2 h3
      obtain ⟨m, rfl⟩ : ∃ q, m = q + 1 := ⟨m - 1, by omega⟩
      rw [f_X5_plan_L9_s, if_neg (nI_nlt (by omega) (by omega)), nI_pred, xi_nI (by omega) (by omega), xi_nI (by omega) (by omega), nI_clamp (show t < 2 ^ 31 by omega), nI_clamp (show t + 1 < 2 ^ 31 by omega)]
      refine plan_L30 (t := t) (Qp := fun res => ∃ v A', IsM n (ovl a z) w (fun j => C j = true ∧ z j ≤ l) v ∧ res = some (nI v, A')) hk hn hz hw hW hF hC (by omega) (fun u hu => ?_) ?_ fun v A2 h4 => ?_
      · unfold upd
        rw [if_neg (by omega)]
        exact h3 u hu
      · unfold upd
        rw [if_pos rfl, if_neg (by omega)]
      · try dsimp only
        rw [nI_1]
        exact ih m (t + 1) A2 (by omega) (by omega) h4
  refine key l k 0 _ (by omega) (by omega) fun u hu => ?_
  have : u = 0 := by omega
  subst this
  exact ⟨0, rfl, IsM.empty fun j hj ⟨q1, q2⟩ => by have := hz j hj q1; omega⟩
end PLANS
