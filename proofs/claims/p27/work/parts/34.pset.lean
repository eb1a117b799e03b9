/-! Loops with a known course; the sets and sums of the class and of the reference. -/
theorem loopG {σ R : Type} (F : Nat → σ → R) (r : R) (n : Nat) (S : Nat → σ) (h1 : ∀ m i, i < n → F (m + 1) (S i) = F m (S (i + 1))) (h2 : ∀ m, F (m + 1) (S n) = r) (m : Nat) (hm : n < m) : F m (S 0) = r := by
  have key : ∀ j i m, i + j = n → j < m → F m (S i) = r := by
    intro j
    induction j with
    | zero =>
      intro i m h hm
      obtain ⟨m, rfl⟩ : ∃ q, m = q + 1 := ⟨m - 1, by omega⟩
      have : i = n := by omega
      subst this
      exact h2 m
    | succ j ih =>
      intro i m h hm
      obtain ⟨m, rfl⟩ : ∃ q, m = q + 1 := ⟨m - 1, by omega⟩
      rw [h1 m i (by omega)]
      exact ih (i + 1) m (by omega) (by omega)
  exact key n 0 m (by omega) hm
/-- the intervals: n of them, from b to e, of weight w -/
def GD (n : Nat) (b e w : Nat → Nat) : Prop := n ≤ 40 ∧ ∀ i, i < n → b i < e i ∧ e i ≤ 1000 ∧ 1 ≤ w i ∧ w i ≤ 1000
def AR (n : Nat) (A : Nat → Int32) (a : Nat → Nat) : Prop := ∀ i, i < n → A i = nI (a i)
def ST (x : Int64) (n : Nat) (P : Nat → Bool) : Prop := ∀ i, i < 64 → bs x i = (decide (i < n) && P i)
def BZ (n : Nat) (A : Nat → Int32) (P : Nat → Bool) : Prop := ∀ i, i < n → A i = if P i = true then 1 else 0
def wsum (P : Nat → Bool) (w : Nat → Nat) (n : Nat) : Nat := fb_sm (fun i => if P i = true then w i else 0) n
def dep (n : Nat) (b e : Nat → Nat) (P : Nat → Bool) (t : Nat) : Nat := fb_ct (fun i => P i && (decide (b i ≤ t) && decide (t < e i))) n
theorem ST.at {x : Int64} {n i : Nat} {P : Nat → Bool} (h : ST x n P) (hi : i < n) (hn : n ≤ 40) : bs x i = P i := by
  rw [h i (by omega)]; simp [hi]
theorem contains_st (k : Nat) {x : Int64} {n i : Nat} {P : Nat → Bool} (h : ST x n P) (hi : i < n) (hn : n ≤ 40) : f_X4_contains k x (nI i) = some (if P i = true then 1 else 0) := by
  rw [contains_eq k (by omega), h.at hi hn]
theorem weightOf_eq {k n : Nat} {x : Int64} {P : Nat → Bool} {W : Nat → Int32} {w : Nat → Nat} (hk : 1000 ≤ k) (hn : n ≤ 40) (hx : ST x n P) (hW : AR n W w) : f_X4_weightOf k x (nI n) W = some (nI (wsum P w n)) := by
  unfold f_X4_weightOf
  refine loopG (fun m (s : Int32 × Int32) => f_X4_weightOf_L5 k x (nI n) W (fun (v3_6 : Int32) (v4_7 : Int32) => some v3_6) m s.1 s.2) _ n (fun i => (nI (wsum P w i), nI i)) ?_ ?_ k (by omega)
  · intro m i hi
    dsimp only
    rw [f_X4_weightOf_L5_s, if_neg (nI_ge hi (by omega)), contains_st k hx hi hn, xb_s]
    by_cases hp : P i = true
    · simp (disch := omega) only [hp, if_true, xi_nI, nI_clamp, hW i hi, nI_add, nI_1, wsum, fb_sm_succ]
      simp
    · simp (disch := omega) only [hp, if_false, nI_1, wsum, fb_sm_succ]
      simp
  · intro m
    dsimp only
    rw [f_X4_weightOf_L5_s, if_pos (nI_le (Nat.le_refl _) (by omega))]
theorem depthAt_eq {k n t : Nat} {x : Int64} {P : Nat → Bool} {B E : Nat → Int32} {b e w : Nat → Nat} (hk : 1000 ≤ k) (hg : GD n b e w) (hx : ST x n P) (hB : AR n B b) (hE : AR n E e) (ht : t ≤ 1000000) : f_X4_depthAt k (nI t) (nI n) x B E = some (nI (dep n b e P t)) := by
  unfold f_X4_depthAt
  have hn := hg.1
  refine loopG (fun m (s : Int32 × Int32) => f_X4_depthAt_L4 k (nI t) (nI n) x B E (fun (v2_9 : Int32) (v3_10 : Int32) => some v2_9) m s.1 s.2) _ n (fun i => (nI (fb_ct (fun i => P i && (decide (b i ≤ t) && decide (t < e i))) i), nI i)) ?_ ?_ k (by omega)
  · intro m i hi
    have hi2 := hg.2 i hi
    dsimp only
    rw [f_X4_depthAt_L4_s, if_neg (nI_ge hi (by omega)), contains_st k hx hi hn, xb_s]
    by_cases hp : P i = true
    · by_cases h1 : b i ≤ t
      · by_cases h2 : t < e i
        · simp (disch := omega) only [hp, if_true, xi_nI, nI_clamp, hB i hi, hE i hi, nI_ltI, nI_leI, nI_1, fb_ct_succ]
          simp [h1, h2, Nat.not_lt.mpr h1, Nat.not_le.mpr h2]
        · simp (disch := omega) only [hp, if_true, xi_nI, nI_clamp, hB i hi, hE i hi, nI_ltI, nI_leI, nI_1, fb_ct_succ]
          simp [h1, h2, Nat.not_lt.mpr h1, Nat.not_lt.mp h2]
      · simp (disch := omega) only [hp, if_true, xi_nI, nI_clamp, hB i hi, hE i hi, nI_ltI, nI_leI, nI_1, fb_ct_succ]
        simp [h1, Nat.not_le.mp h1]
    · simp (disch := omega) only [hp, if_false, nI_1, fb_ct_succ]
      simp
  · intro m
    dsimp only
    rw [f_X4_depthAt_L4_s, if_pos (nI_le (Nat.le_refl _) (by omega))]
    rfl
theorem bz_0 {n : Nat} {A : Nat → Int32} {P : Nat → Bool} (h : BZ n A P) {i : Nat} (hi : i < n) : (A i = 0) ↔ P i = false := by
  rw [h i hi]; cases P i <;> simp
def mkS (f : Nat → Bool) : Nat → Int64
  | 0 => 0
  | n + 1 => if f n = true then mkS f n ||| lN (2 ^ n) else mkS f n
theorem mkS_s (f : Nat → Bool) (n : Nat) : mkS f (n + 1) = if f n = true then mkS f n ||| lN (2 ^ n) else mkS f n := rfl
theorem mkS_st (f : Nat → Bool) : ∀ {n : Nat}, n ≤ 64 → ST (mkS f n) n f
  | 0, _ => by intro i _; rw [show mkS f 0 = 0 from rfl, bs_0]; simp
  | n + 1, h => by
    intro i hi
    have ih := mkS_st f (n := n) (by omega) i hi
    rw [mkS_s]
    by_cases hf : f n = true
    · rw [if_pos hf, bs_or, ih, bs_one (by omega)]
      by_cases he : i = n
      · subst he; simp [hf]
      · have : (decide (i < n + 1)) = decide (i < n) := by
          by_cases h9 : i < n
          · simp [h9, Nat.lt_succ_of_lt h9]
          · simp [h9]; omega
        simp [he, this]
    · rw [if_neg hf, ih]
      by_cases he : i = n
      · subst he; simp [hf]
      · have : (decide (i < n + 1)) = decide (i < n) := by
          by_cases h9 : i < n
          · simp [h9, Nat.lt_succ_of_lt h9]
          · simp [h9]; omega
        rw [this]
theorem ST.eq {x y : Int64} {n : Nat} {P : Nat → Bool} (h : ST x n P) (h2 : ST y n P) : x = y := bs_ext fun i hi => by rw [h i hi, h2 i hi]
theorem ST.cong {x : Int64} {n : Nat} {P P2 : Nat → Bool} (h : ST x n P) (h2 : ∀ i, i < n → P i = P2 i) : ST x n P2 := by
  intro i hi
  rw [h i hi]
  by_cases h9 : i < n
  · rw [h2 i h9]
  · simp [h9]
def ovl (b e : Nat → Nat) (i j : Nat) : Bool := decide (b i < e j) && decide (b j < e i)
theorem shl_eq {i : Nat} (hi : i < 64) : (1 : Int64) <<< ((nI i : Int32).toInt64 &&& 63) = lN (2 ^ i) := by
  have h := wb_shl 1 hi
  rw [Nat.one_mul] at h
  exact h
theorem or_0 (x : Int64) : x ||| 0 = x := bs_ext fun i _ => by rw [bs_or, bs_0]; simp
theorem othersMeeting_eq {k n i : Nat} {x : Int64} {P : Nat → Bool} {b e w : Nat → Nat} {B E : Nat → Int32} (hk : 1000 ≤ k) (hg : GD n b e w) (hx : ST x n P) (hB : AR n B b) (hE : AR n E e) (hi : i < n) :
    ∃ r, f_X4_othersMeeting k (nI i) (nI n) x B E = some r ∧ ST r n (fun j => P j && (ovl b e j i && !decide (j = i))) := by
  have hn := hg.1
  have h2 := hg.2 i hi
  refine ⟨(mkS (fun j => ovl b e j i) n &&& x) &&& (lN (2 ^ i) ^^^ (-1)), ?_, ?_⟩
  · unfold f_X4_othersMeeting
    refine loopG (fun m (s : Int64 × Int32) => f_X4_othersMeeting_L5 k (nI i) (nI n) B E _ m s.1 s.2) _ n (fun j => (mkS (fun j => ovl b e j i) j, nI j)) ?_ ?_ k (by omega)
    · intro m j hj
      have h1 := hg.2 j hj
      dsimp only
      rw [f_X4_othersMeeting_L5_s, if_neg (nI_ge hj (by omega)), mkS_s]
      simp (disch := omega) only [xi_nI, nI_clamp, hB i hi, hB j hj, hE i hi, hE j hj, nI_leI, ovl, nI_1, only_eq, xb_s]
      by_cases c1 : e i ≤ b j
      · simp [c1, Nat.not_lt.mpr c1]
      · by_cases c2 : e j ≤ b i
        · simp [c1, c2, Nat.not_lt.mpr c2]
        · simp [c1, c2, Nat.not_le.mp c1, Nat.not_le.mp c2]
    · intro m
      dsimp only
      rw [f_X4_othersMeeting_L5_s, if_pos (nI_le (Nat.le_refl _) (by omega)), only_eq k (by omega), xb_s]
  · intro j hj
    rw [bs_and, bs_and, bs_xor, bs_one (by omega), bs_m1 hj, mkS_st _ (by omega) j hj, hx j hj]
    show _ = (decide (j < n) && (P j && (ovl b e j i && !decide (j = i))))
    cases decide (j < n) <;> cases P j <;> cases ovl b e j i <;> cases decide (j = i) <;> rfl
theorem nar_0 : vp_nar .boolean 0 = 0 := rfl
theorem nar_1 : vp_nar .boolean 1 = 1 := rfl
/-- a row with the first m places set anew -/
def fillB (f : Nat → Bool) (A : Nat → Int32) (m : Nat) : Nat → Int32 := fun j => if j < m then (if f j = true then 1 else 0) else A j
theorem fillB_0 (f : Nat → Bool) (A : Nat → Int32) : fillB f A 0 = A := by funext j; simp [fillB]
theorem fillB_s (f : Nat → Bool) (A : Nat → Int32) (m : Nat) : upd (fillB f A m) m (if f m = true then 1 else 0) = fillB f A (m + 1) := by
  funext j
  unfold upd fillB
  by_cases h : j = m
  · subst h; simp
  · by_cases h2 : j < m
    · simp [h, h2, Nat.lt_succ_of_lt h2]
    · have : ¬ j < m + 1 := by omega
      simp [h, h2, this]
theorem fillB_at {f : Nat → Bool} {A : Nat → Int32} {m j : Nat} (h : m ≤ j) : fillB f A m j = A j := if_neg (Nat.not_lt.mpr h)
theorem fillB_bz (f : Nat → Bool) (A : Nat → Int32) (m : Nat) : BZ m (fillB f A m) f := fun i hi => if_pos hi
