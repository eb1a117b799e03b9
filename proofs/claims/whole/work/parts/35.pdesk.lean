/-! The state of both sides, and the plain calls: add, remove, move, sets, the desk. -/
def XI (n : Nat) (b e w : Nat → Nat) (P O C : Nat → Bool) (fa : Nat) (dr : Int32) (added : Int32) (ps : Int64) (fac : Int32) (os as : Int64) (drop : Int32) (B E W : Nat → Int32) : Prop :=
  added = nI n ∧ ST ps n P ∧ fac = nI fa ∧ ST os n O ∧ ST as n C ∧ drop = dr ∧ AR n B b ∧ AR n E e ∧ AR n W w
def MI (n : Nat) (b e w : Nat → Nat) (P O C : Nat → Bool) (fa : Nat) (dr : Int32) (many fac drop : Int32) (B E W T TO TC : Nat → Int32) : Prop :=
  many = nI n ∧ fac = nI fa ∧ drop = dr ∧ AR n B b ∧ AR n E e ∧ AR n W w ∧ BZ n T P ∧ BZ 40 TO O ∧ BZ 40 TC C
def SI (n : Nat) (b e w : Nat → Nat) (P O C : Nat → Bool) (fa : Nat) : Prop :=
  GD n b e w ∧ (∀ i, C i = true → P i = true ∧ O i = true) ∧ (∀ i, O i = true → i < n) ∧ 100 ≤ fa ∧ fa ≤ 400
theorem there (p : Int32) (n : Nat) (P : Nat → Bool) (hn : n ≤ 40) : (∃ j, j < n ∧ p = nI j ∧ P j = true) ∨ p < 0 ∨ nI n ≤ p ∨ (∃ j, j < n ∧ p = nI j ∧ P j = false) := by
  rcases pk_ix p (n := n) (by omega) with h | h | ⟨j, hj, rfl⟩
  · exact Or.inr (Or.inl h)
  · exact Or.inr (Or.inr (Or.inl h))
  · by_cases hp : P j = true
    · exact Or.inl ⟨j, hj, rfl, hp⟩
    · exact Or.inr (Or.inr (Or.inr ⟨j, hj, rfl, by simpa using hp⟩))
theorem requireThere_ok {k n j : Nat} {x : Int64} {P : Nat → Bool} (hn : n ≤ 40) (hx : ST x n P) (hj : j < n) (hp : P j = true) : f_X4_requireThere k (nI j) (nI n) x = some (.ok ()) := by
  unfold f_X4_requireThere
  rw [if_neg (nI_pos (by omega)), if_neg (nI_ge hj (by omega)), contains_st k hx hj hn, xb_s, hp]
  rfl
theorem requireThere_no {k n : Nat} {p : Int32} {x : Int64} {P : Nat → Bool} (hn : n ≤ 40) (hx : ST x n P) (h : p < 0 ∨ nI n ≤ p ∨ (∃ j, j < n ∧ p = nI j ∧ P j = false)) : f_X4_requireThere k p (nI n) x = some (.error "java/lang/IndexOutOfBoundsException") := by
  unfold f_X4_requireThere
  by_cases h0 : p < 0
  · rw [if_pos h0]
  · rw [if_neg h0]
    by_cases h1 : nI n ≤ p
    · rw [if_pos h1]
    · rw [if_neg h1]
      rcases h with h | h | ⟨j, hj, rfl, hp⟩
      · exact absurd h h0
      · exact absurd h h1
      · rw [contains_st k hx hj hn, xb_s, hp]; rfl
theorem X5_in_n {k a b c : Nat} (ha : a < 2 ^ 31) (hb : b < 2 ^ 31) (hc : c < 2 ^ 31) : f_X5_in k (nI a) (nI b) (nI c) = some (if b ≤ a ∧ a ≤ c then 1 else 0) := by
  unfold f_X5_in
  simp (disch := omega) only [nI_ltI]
  by_cases h1 : a < b
  · rw [if_pos h1, if_neg (by omega)]
  · rw [if_neg h1]
    by_cases h2 : c < a
    · rw [if_pos h2, if_neg (by omega)]
    · rw [if_neg h2, if_pos (by omega)]
theorem X5_is_ok {k n j : Nat} {T : Nat → Int32} {P : Nat → Bool} (hn : n ≤ 40) (hT : BZ n T P) (hj : j < n) (hp : P j = true) : f_X5_is k (nI j) (nI n) T = some 1 := by
  unfold f_X5_is f_X5_in
  rw [if_neg (nI_pos (by omega)), show nI n - 1 = nI (n - 1) by (obtain ⟨q, rfl⟩ : ∃ q, n = q + 1 := ⟨n - 1, by omega⟩); exact nI_pred q, if_neg (nI_nlt (by omega) (by omega)), xb_s, if_neg (by decide), xi_nI (by omega) (by omega), nI_clamp (by omega), if_neg (by rw [bz_0 hT hj, hp]; simp)]
theorem X5_is_no {k n : Nat} {p : Int32} {T : Nat → Int32} {P : Nat → Bool} (hn : n ≤ 40) (hT : BZ n T P) (h : p < 0 ∨ nI n ≤ p ∨ (∃ j, j < n ∧ p = nI j ∧ P j = false)) : f_X5_is k p (nI n) T = some 0 := by
  unfold f_X5_is f_X5_in
  by_cases h0 : p < 0
  · rw [if_pos h0, xb_s, if_pos rfl]
  · rw [if_neg h0]
    by_cases h1 : nI n - 1 < p
    · rw [if_pos h1, xb_s, if_pos rfl]
    · rw [if_neg h1, xb_s, if_neg (by decide)]
      rcases h with h | h | ⟨j, hj, rfl, hp⟩
      · exact absurd h h0
      · exfalso
        apply h1
        rw [fa_lt, fb_subI, nI_toInt (by omega)]
        · rw [fa_le, nI_toInt (by omega)] at h
          show (n : Int) - 1 < _
          omega
        · rw [nI_toInt (by omega)]; show _ ≤ (n : Int) - 1; omega
        · rw [nI_toInt (by omega)]; show (n : Int) - 1 < _; omega
      · rw [xi_nI (by omega) (by omega), nI_clamp (by omega), if_pos (by rw [bz_0 hT hj, hp])]
theorem goesWell_0 (k : Nat) (x : Int32) : f_X5_goesWell k 0 x = some (1, 0) := rfl
theorem goesWell_1 (k : Nat) (x : Int32) : f_X5_goesWell k 1 x = some (0, 1) := rfl
theorem goesWell_2 (k : Nat) (x : Int32) : f_X5_goesWell k 2 x = some (0, 2) := rfl
