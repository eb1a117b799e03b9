/-! Both sides of the plain calls, in the law's form. -/
theorem cmp_lit (p : Int32) : ((999 : Int32) < p ↔ 1000 ≤ p) ∧ ((1000 : Int32) < p ↔ ¬ p ≤ 1000) ∧ ((400 : Int32) < p ↔ ¬ p ≤ 400) ∧ ((6 : Int32) < p ↔ ¬ p ≤ 6) ∧ ((40 : Int32) < p ↔ ¬ p ≤ 40) := by
  refine ⟨?_, ?_, ?_, ?_, ?_⟩ <;> simp only [fa_lt, fa_le]
  · show (999 : Int) < _ ↔ (1000 : Int) ≤ _; omega
  · show (1000 : Int) < _ ↔ ¬ _ ≤ (1000 : Int); omega
  · show (400 : Int) < _ ↔ ¬ _ ≤ (400 : Int); omega
  · show (6 : Int) < _ ↔ ¬ _ ≤ (6 : Int); omega
  · show (40 : Int) < _ ↔ ¬ _ ≤ (40 : Int); omega
/-- a number between two written ones -/
theorem nat_of {p : Int32} (h : ¬ p < 0) : ∃ a : Nat, a < 2 ^ 31 ∧ p = nI a := nI_of h
def addOk (p1 p2 p3 : Int32) : Prop := ¬ p1 < 0 ∧ ¬ (1000 : Int32) ≤ p1 ∧ ¬ p2 ≤ p1 ∧ p2 ≤ 1000 ∧ ¬ p3 < 1 ∧ p3 ≤ 1000
theorem addOk_nat {p1 p2 p3 : Int32} (h : addOk p1 p2 p3) : ∃ a b c : Nat, p1 = nI a ∧ p2 = nI b ∧ p3 = nI c ∧ a < b ∧ b ≤ 1000 ∧ 1 ≤ c ∧ c ≤ 1000 := by
  obtain ⟨h1, h2, h3, h4, h5, h6⟩ := h
  simp only [fa_lt, fa_le] at h1 h2 h3 h4 h5 h6
  have e0 : (0 : Int32).toInt = 0 := rfl
  have e1 : (1 : Int32).toInt = 1 := rfl
  have e2 : (1000 : Int32).toInt = 1000 := rfl
  rw [e0] at h1
  rw [e2] at h2 h4 h6
  rw [e1] at h5
  refine ⟨p1.toInt.toNat, p2.toInt.toNat, p3.toInt.toNat, ?_, ?_, ?_, by omega, by omega, by omega, by omega⟩ <;> (rw [fa_eq, nI_toInt (by omega)]; omega)
theorem X4_add_bad {k : Nat} {p1 p2 p3 added : Int32} {ps : Int64} {B E W : Nat → Int32} (h : ¬ addOk p1 p2 p3) : f_X4_add k p1 p2 p3 added ps B E W = some (.error "java/lang/IllegalArgumentException") := by
  unfold f_X4_add
  unfold addOk at h
  by_cases h1 : p1 < 0
  · rw [if_pos h1]
  by_cases h2 : (1000 : Int32) ≤ p1
  · rw [if_neg h1, if_pos h2]
  by_cases h3 : p2 ≤ p1
  · rw [if_neg h1, if_neg h2, if_pos h3]
  by_cases h4 : p2 ≤ 1000
  · by_cases h5 : p3 < 1
    · rw [if_neg h1, if_neg h2, if_neg h3, if_pos h4, if_pos h5]
    by_cases h6 : p3 ≤ 1000
    · exact absurd ⟨h1, h2, h3, h4, h5, h6⟩ h
    · rw [if_neg h1, if_neg h2, if_neg h3, if_pos h4, if_neg h5, if_neg h6]
  · rw [if_neg h1, if_neg h2, if_neg h3, if_neg h4]
def fs {α : Type} (f : Nat → α) (i : Nat) (v : α) : Nat → α := fun j => if j = i then v else f j
theorem fs_at {α : Type} (f : Nat → α) (i : Nat) (v : α) : fs f i v i = v := if_pos rfl
theorem fs_ne {α : Type} (f : Nat → α) {i j : Nat} (v : α) (h : j ≠ i) : fs f i v j = f j := if_neg h
theorem AR.push {n v : Nat} {A : Nat → Int32} {a : Nat → Nat} (h : AR n A a) : AR (n + 1) (upd A n (nI v)) (fs a n v) := by
  intro i hi
  unfold upd fs
  by_cases he : i = n
  · rw [if_pos he, if_pos he]
  · rw [if_neg he, if_neg he]; exact h i (by omega)
theorem AR.set {n i v : Nat} {A : Nat → Int32} {a : Nat → Nat} (h : AR n A a) : AR n (upd A i (nI v)) (fs a i v) := by
  intro j hj
  unfold upd fs
  by_cases he : j = i
  · rw [if_pos he, if_pos he]
  · rw [if_neg he, if_neg he]; exact h j hj
theorem BZ.set {n i : Nat} {A : Nat → Int32} {P : Nat → Bool} (h : BZ n A P) (v : Bool) {x : Int32} (hx : x = if v = true then 1 else 0) : BZ n (upd A i x) (fs P i v) := by
  intro j hj
  unfold upd fs
  by_cases he : j = i
  · rw [if_pos he, if_pos he, hx]
  · rw [if_neg he, if_neg he]; exact h j hj
theorem BZ.push {n : Nat} {A : Nat → Int32} {P : Nat → Bool} (h : BZ n A P) (v : Bool) {x : Int32} (hx : x = if v = true then 1 else 0) : BZ (n + 1) (upd A n x) (fs P n v) := by
  intro j hj
  unfold upd fs
  by_cases he : j = n
  · rw [if_pos he, if_pos he, hx]
  · rw [if_neg he, if_neg he]; exact h j (by omega)
theorem ST.push {x : Int64} {n : Nat} {P : Nat → Bool} (h : ST x n P) (hn : n < 64) : ST (x ||| lN (2 ^ n)) (n + 1) (fs P n true) := by
  intro i hi
  rw [bs_or, h i hi, bs_one hn]
  unfold fs
  by_cases he : i = n
  · subst he; simp
  · have : decide (i < n + 1) = decide (i < n) := by
      by_cases h9 : i < n
      · simp [h9, Nat.lt_succ_of_lt h9]
      · simp [h9]; omega
    simp [he, this]
theorem ST.ext {x : Int64} {n : Nat} {P : Nat → Bool} (h : ST x n P) : ST x (n + 1) (fs P n false) := by
  intro i hi
  rw [h i hi]
  unfold fs
  by_cases he : i = n
  · subst he; simp
  · have : decide (i < n + 1) = decide (i < n) := by
      by_cases h9 : i < n
      · simp [h9, Nat.lt_succ_of_lt h9]
      · simp [h9]; omega
    simp [he, this]
theorem ST.set {x : Int64} {n i : Nat} {P : Nat → Bool} (h : ST x n P) (hi : i < n) (hn : n ≤ 64) : ST (x ||| lN (2 ^ i)) n (fs P i true) := by
  intro j hj
  rw [bs_or, h j hj, bs_one (by omega)]
  unfold fs
  by_cases he : j = i
  · subst he; simp [hi]
  · simp [he]
theorem ST.clr {x : Int64} {n i : Nat} {P : Nat → Bool} (h : ST x n P) (hi : i < 64) : ST (x &&& (lN (2 ^ i) ^^^ (-1))) n (fs P i false) := by
  intro j hj
  rw [bs_and, bs_xor, h j hj, bs_one hi, bs_m1 hj]
  unfold fs
  by_cases he : j = i
  · subst he; simp
  · simp [he]
theorem GD.push {n b0 e0 w0 : Nat} {b e w : Nat → Nat} (h : GD n b e w) (hn : n < 40) (h1 : b0 < e0) (h2 : e0 ≤ 1000) (h3 : 1 ≤ w0) (h4 : w0 ≤ 1000) : GD (n + 1) (fs b n b0) (fs e n e0) (fs w n w0) := by
  refine ⟨hn, fun i hi => ?_⟩
  unfold fs
  by_cases he : i = n
  · rw [if_pos he, if_pos he, if_pos he]; exact ⟨h1, h2, h3, h4⟩
  · rw [if_neg he, if_neg he, if_neg he]; exact h.2 i (by omega)
theorem out0 (A : Nat → Int64) (x : Int64) : vp_updL A (0 : Int32).toNatClampNeg x 0 = x := rfl
theorem xi_0 {α : Type} (x : Option α) : xi (0 : Int32) 1 x = x := xi_nI (i := 0) (by omega) (by omega)
