/-! One room: the heaviest set that keeps apart, by the row and by the times. -/
theorem ovl_comm (b e : Nat → Nat) (i j : Nat) : ovl b e i j = ovl b e j i := by
  unfold ovl; rw [Bool.and_comm]
def PLN (n : Nat) (R : Nat → Nat → Bool) (S : Nat → Bool) : Prop := ∀ i j, i < n → j < n → S i = true → S j = true → i ≠ j → R i j = false
def IsM (n : Nat) (R : Nat → Nat → Bool) (w : Nat → Nat) (Q : Nat → Prop) (v : Nat) : Prop := (∃ S, PLN n R S ∧ (∀ j, j < n → S j = true → Q j) ∧ wsum S w n = v) ∧ ∀ S, PLN n R S → (∀ j, j < n → S j = true → Q j) → wsum S w n ≤ v
section ISM
variable {n : Nat} {M : Nat → Nat → Bool} {w : Nat → Nat}
theorem IsM.one {Q : Nat → Prop} {u v : Nat} (h1 : IsM n M w Q u) (h2 : IsM n M w Q v) : u = v := by
  obtain ⟨⟨S, s1, s2, s3⟩, h1⟩ := h1
  obtain ⟨⟨R, r1, r2, r3⟩, h2⟩ := h2
  have := h1 R r1 r2
  have := h2 S s1 s2
  omega
theorem IsM.cong {Q Q2 : Nat → Prop} {v : Nat} (h : IsM n M w Q v) (hq : ∀ j, j < n → (Q j ↔ Q2 j)) : IsM n M w Q2 v := by
  obtain ⟨⟨S, s1, s2, s3⟩, h⟩ := h
  exact ⟨⟨S, s1, fun j h1 h2 => (hq j h1).mp (s2 j h1 h2), s3⟩, fun R r1 r2 => h R r1 fun j h1 h2 => (hq j h1).mpr (r2 j h1 h2)⟩
theorem wsum_zero {S : Nat → Bool} (h : ∀ j, j < n → S j = false) : wsum S w n = 0 := by
  have : wsum S w n = fb_sm (fun _ => 0) n := fb_sm_cong fun j hj => by rw [h j hj]; rfl
  rw [this, fb_sm_const, Nat.mul_zero]
theorem IsM.empty {Q : Nat → Prop} (h : ∀ j, j < n → ¬ Q j) : IsM n M w Q 0 := by
  refine ⟨⟨fun _ => false, fun i j _ _ q => (by cases q), fun j _ q => (by cases q), wsum_zero fun _ _ => rfl⟩, fun S s1 s2 => ?_⟩
  rw [wsum_zero fun j hj => by
    cases hs : S j with
    | false => rfl
    | true => exact absurd (s2 j hj hs) (h j hj)]
  exact Nat.le_refl _
theorem wsum_le {S : Nat → Bool} (h : ∀ j, j < n → w j ≤ 1000) : wsum S w n ≤ n * 1000 := fb_sm_bound fun j hj => by
  have := h j hj
  by_cases c : S j = true
  · rw [if_pos c]; exact this
  · rw [if_neg c]; omega
theorem IsM.le {Q : Nat → Prop} {v : Nat} (h : IsM n M w Q v) (hw : ∀ j, j < n → w j ≤ 1000) : v ≤ n * 1000 := by
  obtain ⟨⟨S, s1, s2, s3⟩, h⟩ := h
  rw [← s3]; exact wsum_le hw
theorem wsum_set {S : Nat → Bool} {i : Nat} (hi : i < n) (v : Bool) : wsum (fs S i v) w n + (if S i = true then w i else 0) = wsum S w n + (if v = true then w i else 0) := by
  have h1 : wsum (fs S i v) w n = fb_sm (fun k => if k = i then (if v = true then w i else 0) else (if S k = true then w k else 0)) n := fb_sm_cong fun j _ => by
    unfold fs
    by_cases c : j = i
    · subst c; rw [if_pos rfl, if_pos rfl]
    · rw [if_neg c, if_neg c]
  rw [h1]
  exact fb_sm_upd _ _ hi
theorem IsM.step (hM : ∀ i j, M i j = M j i) {Q Q1 Q2 : Nat → Prop} {i u v : Nat} (hi : i < n) (hQ : ¬ Q i) (h1 : IsM n M w Q v) (h2 : IsM n M w Q1 u) (hQ1 : ∀ j, j < n → (Q1 j ↔ Q j ∧ M j i = false)) (hQ2 : ∀ j, j < n → (Q2 j ↔ Q j ∨ j = i)) : IsM n M w Q2 (if v < w i + u then w i + u else v) := by
  obtain ⟨⟨S, s1, s2, s3⟩, h1⟩ := h1
  obtain ⟨⟨R, r1, r2, r3⟩, h2⟩ := h2
  refine ⟨?_, fun X x1 x2 => ?_⟩
  · by_cases c : v < w i + u
    · rw [if_pos c]
      have hri : R i = false := by
        cases hr : R i with
        | false => rfl
        | true => exact absurd ((hQ1 i hi).mp (r2 i hi hr)).1 hQ
      refine ⟨fs R i true, fun p q hp hq hp2 hq2 hne => ?_, fun j hj hs => ?_, ?_⟩
      · unfold fs at hp2 hq2
        by_cases c1 : p = i
        · rw [if_neg (by omega)] at hq2
          subst c1
          rw [hM]
          exact ((hQ1 q hq).mp (r2 q hq hq2)).2
        · rw [if_neg c1] at hp2
          by_cases c2 : q = i
          · subst c2
            exact ((hQ1 p hp).mp (r2 p hp hp2)).2
          · rw [if_neg c2] at hq2
            exact r1 p q hp hq hp2 hq2 hne
      · unfold fs at hs
        by_cases c1 : j = i
        · exact (hQ2 j hj).mpr (Or.inr c1)
        · rw [if_neg c1] at hs
          exact (hQ2 j hj).mpr (Or.inl ((hQ1 j hj).mp (r2 j hj hs)).1)
      · have := wsum_set (S := R) (w := w) hi true
        rw [hri, if_pos rfl] at this
        simp only [Bool.false_eq_true, if_false] at this
        omega
    · rw [if_neg c]
      exact ⟨S, s1, fun j hj hs => (hQ2 j hj).mpr (Or.inl (s2 j hj hs)), s3⟩
  · have hmax : (if v < w i + u then w i + u else v) ≥ v ∧ (if v < w i + u then w i + u else v) ≥ w i + u := by
      by_cases c : v < w i + u
      · rw [if_pos c]; omega
      · rw [if_neg c]; omega
    by_cases c : X i = true
    · have h3 := h2 (fs X i false) (fun p q hp hq hp2 hq2 hne => by
        unfold fs at hp2 hq2
        by_cases c1 : p = i
        · rw [if_pos c1] at hp2; cases hp2
        · by_cases c2 : q = i
          · rw [if_pos c2] at hq2; cases hq2
          · rw [if_neg c1] at hp2
            rw [if_neg c2] at hq2
            exact x1 p q hp hq hp2 hq2 hne) (fun j hj hs => by
        unfold fs at hs
        by_cases c1 : j = i
        · rw [if_pos c1] at hs; cases hs
        · rw [if_neg c1] at hs
          refine (hQ1 j hj).mpr ⟨?_, x1 j i hj hi hs c c1⟩
          rcases (hQ2 j hj).mp (x2 j hj hs) with h | h
          · exact h
          · exact absurd h c1)
      have := wsum_set (S := X) (w := w) hi false
      rw [c, if_pos rfl] at this
      simp only [Bool.false_eq_true, if_false] at this
      omega
    · have h3 := h1 X x1 (fun j hj hs => by
        rcases (hQ2 j hj).mp (x2 j hj hs) with h | h
        · exact h
        · rw [h] at hs; exact absurd hs c)
      omega
theorem IsM.rel {M2 : Nat → Nat → Bool} {Q : Nat → Prop} {v : Nat} (h : IsM n M w Q v) (hr : ∀ i j, i < n → j < n → Q i → Q j → i ≠ j → M i j = M2 i j) : IsM n M2 w Q v := by
  obtain ⟨⟨S, s1, s2, s3⟩, h⟩ := h
  refine ⟨⟨S, fun i j hi hj h1 h2 hne => ?_, s2, s3⟩, fun X x1 x2 => h X (fun i j hi hj h1 h2 hne => ?_) x2⟩
  · rw [← hr i j hi hj (s2 i hi h1) (s2 j hj h2) hne]; exact s1 i j hi hj h1 h2 hne
  · rw [hr i j hi hj (x2 i hi h1) (x2 j hj h2) hne]; exact x1 i j hi hj h1 h2 hne
end ISM
def pre (σ : Nat → Nat) (p : Nat) : Nat → Prop := fun j => ∃ q, q < p ∧ σ q = j
theorem SRT.key_le {m : Nat} {σ key : Nat → Nat} (h : SRT m σ key) {p q : Nat} (hpq : p ≤ q) (hq : q < m) : key (σ p) ≤ key (σ q) := by
  rcases Nat.lt_or_ge p q with h1 | h1
  · have := h p q h1 hq; omega
  · have : p = q := by omega
    rw [this]; exact Nat.le_refl _
theorem SRT.inj {m : Nat} {σ key : Nat → Nat} (h : SRT m σ key) {p q : Nat} (hpq : p < q) (hq : q < m) : σ p ≠ σ q := by
  intro h1
  have := h p q hpq hq
  rw [h1] at this; omega
theorem endedBy_eq {k n m t : Nat} {S : Nat → Bool} {σ a z w : Nat → Nat} {N Bg En Wt : Nat → Int32} (hk : 10000 ≤ k) (hn : n ≤ 40) (hR : ROWS n S z m σ) (hW : RW m σ a z w N Bg En Wt) (hz : ∀ i, i < n → S i = true → a i < z i ∧ z i ≤ 3000 ∧ w i ≤ 1000) (ht : t < 2 ^ 31) :
    ∃ r, r ≤ m ∧ (∀ q, q < m → (q < r ↔ z (σ q) ≤ t)) ∧ f_X2_endedBy k (nI t) (nI m) En = some (nI r) := by
  obtain ⟨hS, hin, hall, hmn⟩ := hR
  unfold f_X2_endedBy
  refine loopE (fun f (v : Int32) => f_X2_endedBy_L2 k (nI t) (nI m) En (fun (v2_4 : Int32) => some v2_4) f v) (fun res => ∃ r, r ≤ m ∧ (∀ q, q < m → (q < r ↔ z (σ q) ≤ t)) ∧ res = some (nI r)) m (fun i v => v = nI i ∧ ∀ q, q < i → z (σ q) ≤ t) ?_ ?_ k 0 (by omega) ⟨rfl, fun q h => absurd h (Nat.not_lt_zero q)⟩
  · rintro f i v hi ⟨rfl, hI⟩
    try dsimp only
    have h1 := hz (σ i) (hin i hi).1 (hin i hi).2
    rw [f_X2_endedBy_L2_s, if_neg (nI_ge hi (by omega)), xi_nI (by omega) (by omega), nI_clamp (by omega), (hW i hi).2.2.1]
    by_cases c : t < z (σ i)
    · rw [if_pos (nI_lt c (by omega))]
      refine Or.inr ⟨i, by omega, fun q hq => ⟨fun h => hI q h, fun h => ?_⟩, rfl⟩
      rcases Nat.lt_or_ge q i with h2 | h2
      · exact h2
      · have := hS.key_le h2 hq; omega
    · rw [if_neg (nI_nlt (Nat.not_lt.mp c) (by omega)), nI_1]
      refine Or.inl ⟨nI (i + 1), ⟨rfl, fun q hq => ?_⟩, rfl⟩
      rcases Nat.lt_or_ge q i with h2 | h2
      · exact hI q h2
      · have : q = i := by omega
        rw [this]; omega
  · rintro f v ⟨rfl, hI⟩
    try dsimp only
    rw [f_X2_endedBy_L2_s, if_pos (nI_le (Nat.le_refl _) (by omega))]
    exact ⟨m, Nat.le_refl _, fun q hq => ⟨fun _ => hI q hq, fun _ => hq⟩, rfl⟩
theorem greatestWeight_eq {k n m : Nat} {S : Nat → Bool} {σ a z w : Nat → Nat} {N Bg En Wt Be : Nat → Int32} (hk : 10000 ≤ k) (hn : n ≤ 40) (hR : ROWS n S z m σ) (hW : RW m σ a z w N Bg En Wt) (hz : ∀ i, i < n → S i = true → a i < z i ∧ z i ≤ 3000 ∧ w i ≤ 1000) (hw : ∀ i, i < n → w i ≤ 1000) :
    ∃ Be' v, (∀ p, p ≤ m → ∃ v, Be' p = nI v ∧ IsM n (ovl a z) w (pre σ p) v) ∧ IsM n (ovl a z) w (pre σ m) v ∧ f_X2_greatestWeight k (nI m) Bg En Wt Be = some (nI v, Be') := by
  obtain ⟨hS, hin, hall, hmn⟩ := id hR
  unfold f_X2_greatestWeight
  rw [show xi (0 : Int32) 41 = xi (α := Int32 × (Nat → Int32)) (nI 0) 41 from rfl, xi_nI (by omega) (by omega)]
  refine loopE (fun f (s : Int32 × (Nat → Int32)) => f_X2_greatestWeight_L9 k (nI m) Bg En Wt (fun (v1_10 : Int32) (A_best_11 : Nat → Int32) => xi (nI m) 41 (some (A_best_11 (nI m).toNatClampNeg, A_best_11))) f s.1 s.2)
    (fun res => ∃ Be' v, (∀ p, p ≤ m → ∃ v, Be' p = nI v ∧ IsM n (ovl a z) w (pre σ p) v) ∧ IsM n (ovl a z) w (pre σ m) v ∧ res = some (nI v, Be')) m
    (fun i s => s.1 = nI (i + 1) ∧ ∀ p, p ≤ i → ∃ v, s.2 p = nI v ∧ IsM n (ovl a z) w (pre σ p) v)
    ?_ ?_ k (1, upd Be 0 0) (by omega) ⟨rfl, fun p hp => ⟨0, ?_, ?_⟩⟩
  · rintro f i ⟨x, A⟩ hi ⟨rfl, hI⟩
    refine Or.inl ?_
    dsimp only at hI ⊢
    have h1 := hz (σ i) (hin i hi).1 (hin i hi).2
    obtain ⟨q1, q2, q3, q4⟩ := hW i hi
    obtain ⟨r, hr1, hr2, hr3⟩ := endedBy_eq (t := a (σ i)) hk hn hR hW hz (by omega)
    have hri : r ≤ i := by
      have := hr2 i hi
      omega
    obtain ⟨v, hv1, hv2⟩ := hI i (Nat.le_refl _)
    obtain ⟨u, hu1, hu2⟩ := hI r hri
    have hvl := hv2.le hw
    have hul := hu2.le hw
    have hst := IsM.step (ovl_comm a z) (i := σ i) (Q2 := pre σ (i + 1)) (hin i hi).1 (fun ⟨q, hq, he⟩ => hS.inj hq hi he) hv2 hu2 (fun j hj => by
      constructor
      · rintro ⟨q, hq, rfl⟩
        refine ⟨⟨q, by omega, rfl⟩, ?_⟩
        have := (hr2 q (by omega)).mp hq
        unfold ovl
        rw [decide_eq_false (p := a (σ i) < z (σ q)) (by omega), Bool.and_false]
      · rintro ⟨⟨q, hq, rfl⟩, ho⟩
        refine ⟨q, (hr2 q (by omega)).mpr ?_, rfl⟩
        have h3 := hS.key_le (Nat.le_of_lt hq) hi
        have h4 := hz (σ q) (hin q (by omega)).1 (hin q (by omega)).2
        unfold ovl at ho
        rw [decide_eq_true (p := a (σ q) < z (σ i)) (by omega), Bool.true_and] at ho
        have := of_decide_eq_false ho
        omega) (fun j hj => by
      constructor
      · rintro ⟨q, hq, rfl⟩
        rcases Nat.lt_or_ge q i with h | h
        · exact Or.inl ⟨q, h, rfl⟩
        · have : q = i := by omega
          rw [this]; exact Or.inr rfl
      · rintro (⟨q, hq, rfl⟩ | rfl)
        · exact ⟨q, by omega, rfl⟩
        · exact ⟨i, by omega, rfl⟩)
    refine ⟨(nI (i + 1 + 1), upd A (i + 1) (nI (if v < w (σ i) + u then w (σ i) + u else v))), ⟨rfl, fun p hp => ?_⟩, ?_⟩
    · dsimp only
      unfold upd
      by_cases c : p = i + 1
      · subst c
        rw [if_pos rfl]
        exact ⟨_, rfl, hst⟩
      · rw [if_neg c]
        exact hI p (by omega)
    · rw [f_X2_greatestWeight_L9_s, if_neg (nI_nlt (by omega) (by omega)), nI_pred, xi_nI (by omega) (by omega), xi_nI (by omega) (by omega), nI_clamp (by omega), q2, hr3, xb_s, xi_nI (by omega) (by omega), xi_nI (by omega) (by omega), xi_nI (by omega) (by omega), nI_clamp (show i + 1 < 2 ^ 31 by omega), nI_clamp (show r < 2 ^ 31 by omega), q4, hv1, hu1, nI_add, nI_1]
      by_cases c : v < w (σ i) + u
      · rw [if_pos (nI_lt c (by omega)), if_pos c]
      · rw [if_neg (nI_nlt (Nat.not_lt.mp c) (by omega)), if_neg c]
  · rintro f ⟨x, A⟩ ⟨rfl, hI⟩
    dsimp only at hI ⊢
    obtain ⟨v, hv1, hv2⟩ := hI m (Nat.le_refl _)
    rw [f_X2_greatestWeight_L9_s, if_pos (nI_lt (by omega) (by omega)), xi_nI (by omega) (by omega), nI_clamp (by omega), hv1]
    exact ⟨A, v, hI, hv2, rfl⟩
  · have : p = 0 := by omega
    subst this
    rfl
  · have : p = 0 := by omega
    subst this
    exact IsM.empty fun j _ ⟨q, hq, _⟩ => absurd hq (Nat.not_lt_zero q)
