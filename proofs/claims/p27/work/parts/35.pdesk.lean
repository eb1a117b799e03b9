/-! The state of both sides, and the plain calls: add, remove, move, sets, the desk. -/
def XI (n : Nat) (b e w : Nat → Nat) (P O C : Nat → Bool) (fa : Nat) (dr : Int32) (added : Int32) (ps : Int64) (fac : Int32) (os as : Int64) (drop : Int32) (B E W : Nat → Int32) : Prop :=
  added = nI n ∧ ST ps n P ∧ fac = nI fa ∧ ST os n O ∧ ST as n C ∧ drop = dr ∧ AR n B b ∧ AR n E e ∧ AR n W w
def SI (n : Nat) (b e w : Nat → Nat) (P O C : Nat → Bool) (fa : Nat) : Prop :=
  GD n b e w ∧ (∀ i, C i = true → P i = true ∧ O i = true) ∧ (∀ i, O i = true → i < n) ∧ 100 ≤ fa ∧ fa ≤ 400
theorem there (p : Int32) (n : Nat) (P : Nat → Bool) (hn : n ≤ 40) : (∃ j, j < n ∧ p = nI j ∧ P j = true) ∨ p < 0 ∨ nI n ≤ p ∨ (∃ j, j < n ∧ p = nI j ∧ P j = false) := by
  rcases pk_ix p (n := n) (by omega) with h | h | ⟨j, hj, rfl⟩
  · exact Or.inr (Or.inl h)
  · exact Or.inr (Or.inr (Or.inl h))
  · by_cases hp : P j = true
    · exact Or.inl ⟨j, hj, rfl, hp⟩
    · exact Or.inr (Or.inr (Or.inr ⟨j, hj, rfl, by simpa using hp⟩))
theorem requireThere_ok {k n j : Nat} {x : Int64} {P : Nat → Bool} (hn : n ≤ 40) (hx : ST x n P) (hj : j < n) (hp : P j = true) : f_X4_requireThere k (nI j) (nI n) x = some (.ok ()) := by
  unfold f_X4_requireThere
  rw [if_neg (nI_pos (by omega)), if_neg (nI_ge hj (by omega)), contains_st k hx hj hn, xb_s, hp]
  rfl
theorem requireThere_no {k n : Nat} {p : Int32} {x : Int64} {P : Nat → Bool} (hn : n ≤ 40) (hx : ST x n P) (h : p < 0 ∨ nI n ≤ p ∨ (∃ j, j < n ∧ p = nI j ∧ P j = false)) : f_X4_requireThere k p (nI n) x = some (.error "java/lang/IndexOutOfBoundsException") := by
  unfold f_X4_requireThere
  by_cases h0 : p < 0
  · rw [if_pos h0]
  · rw [if_neg h0]
    by_cases h1 : nI n ≤ p
    · rw [if_pos h1]
    · rw [if_neg h1]
      rcases h with h | h | ⟨j, hj, rfl, hp⟩
      · exact absurd h h0
      · exact absurd h h1
      · rw [contains_st k hx hj hn, xb_s, hp]; rfl
