/-! depthRound. -/
section DR
variable {k n p : Nat} {x : Int64} {P : Nat → Bool} {b e w : Nat → Nat} {B E T : Nat → Int32}
def cd (n p : Nat) (P : Nat → Bool) (b e : Nat → Nat) (t : Nat) : Nat := fb_ct (fun j => P j && decide (dst p (b j % p) t < e j - b j)) n
def MX (n p : Nat) (P : Nat → Bool) (b e : Nat → Nat) (M : Nat) : Prop := (M = 0 ∨ ∃ t, t < p ∧ cd n p P b e t = M) ∧ ∀ t, t < p → cd n p P b e t ≤ M
theorem MX.one {M M2 : Nat} (h1 : MX n p P b e M) (h2 : MX n p P b e M2) : M = M2 := by
  obtain ⟨a1, a2⟩ := h1
  obtain ⟨b1, b2⟩ := h2
  have : M ≤ M2 := by
    rcases a1 with h | ⟨t, ht, h⟩
    · omega
    · have := b2 t ht; omega
  have : M2 ≤ M := by
    rcases b1 with h | ⟨t, ht, h⟩
    · omega
    · have := a2 t ht; omega
  omega
theorem cd_le (t : Nat) : cd n p P b e t ≤ n := fb_ct_le _ _
theorem cd_at {t : Nat} (hp : 1 ≤ p) (ht : t < p) (h : 0 < cd n p P b e t) : ∃ i, i < n ∧ P i = true ∧ cd n p P b e t ≤ cd n p P b e (b i % p) := by
  obtain ⟨i0, hi0, hp0⟩ := fb_ct_pos.mp h
  simp only [Bool.and_eq_true, decide_eq_true_eq] at hp0
  have hd : ∀ j, dst p (b j % p) t < p := fun j => by
    have := Nat.mod_lt (b j) hp
    unfold dst
    by_cases c : t < b j % p
    · rw [if_pos c]; omega
    · rw [if_neg c]; omega
  obtain ⟨j, hj, hmax, -⟩ := fb_best (fun i => if P i = true ∧ dst p (b i % p) t < e i - b i then ((p - dst p (b i % p) t : Nat) : Int) else -1) (n := n) (by omega)
  have h1 := hmax i0 hi0
  rw [if_pos hp0] at h1
  have hjp : P j = true ∧ dst p (b j % p) t < e j - b j := by
    by_cases hq : P j = true ∧ dst p (b j % p) t < e j - b j
    · exact hq
    · rw [if_neg hq] at h1; omega
  rw [if_pos hjp] at hmax
  refine ⟨j, hj, hjp.1, fb_ct_sub fun i hi hq => ?_⟩
  simp only [Bool.and_eq_true, decide_eq_true_eq] at hq ⊢
  have h2 := hmax i hi
  rw [if_pos hq] at h2
  have h3 := hd i
  have h4 := hd j
  refine ⟨hq.1, Nat.lt_of_le_of_lt ?_ hq.2⟩
  have h5 := Nat.mod_lt (b i) hp
  have h6 := Nat.mod_lt (b j) hp
  have h7 : dst p (b j % p) t ≤ dst p (b i % p) t := by omega
  revert h7
  generalize b i % p = r1 at *
  generalize b j % p = r2 at *
  unfold dst
  intro h7
  split at h7 <;> split at h7 <;> split <;> (try split) <;> omega
theorem depthOnCircle_eq {tb : Nat} (hk : 10000 ≤ k) (hg : GD n b e w) (hx : ST x n P) (hB : AR n B b) (hE : AR n E e) (hp : 1 ≤ p) (hp2 : p ≤ 1000) (ht : tb ≤ 1000) : f_X4_depthOnCircle k (nI tb) (nI p) (nI n) x B E = some (nI (cd n p P b e (tb % p))) := by
  have hn := hg.1
  unfold f_X4_depthOnCircle
  refine loopG (fun f (s : Int32 × Int32) => f_X4_depthOnCircle_L5 k (nI tb) (nI p) (nI n) x B E (fun (v3_11 : Int32) (v4_12 : Int32) => some v3_11) f s.1 s.2) _ n (fun i => (nI (cd i p P b e (tb % p)), nI i)) ?_ ?_ k (by omega)
  · intro f i hi
    dsimp only
    have hgi := hg.2 i hi
    rw [f_X4_depthOnCircle_L5_s, if_neg (nI_ge hi (by omega)), contains_st k hx hi hn, xb_s, show cd (i + 1) p P b e (tb % p) = cd i p P b e (tb % p) + (if (P i && decide (dst p (b i % p) (tb % p) < e i - b i)) = true then 1 else 0) from rfl]
    by_cases hpi : P i = true
    · rw [if_neg (by rw [if_pos hpi]; decide), xi_nI (by omega) (by omega), nI_clamp (by omega), hB i hi, turned_eq (by omega) (by omega) hp (by omega), xb_s, lengthOf_eq hg hB hE hi, xb_s, hpi, Bool.true_and]
      by_cases c : dst p (b i % p) (tb % p) < e i - b i
      · rw [if_neg (nI_ge c (by omega)), decide_eq_true c, if_pos rfl, nI_1, nI_1]
      · have hd : dst p (b i % p) (tb % p) < 2 ^ 31 := by
          have := Nat.mod_lt (b i) hp
          have := Nat.mod_lt tb hp
          unfold dst
          split <;> omega
        rw [if_pos (nI_le (Nat.not_lt.mp c) hd), decide_eq_false c, if_neg (by decide), nI_1]
        try rfl
    · have hp3 : P i = false := by simpa using hpi
      rw [if_pos (by rw [if_neg hpi]), hp3, Bool.false_and, if_neg (by decide), nI_1]
      try rfl
  · intro f
    dsimp only
    rw [f_X4_depthOnCircle_L5_s, if_pos (nI_le (Nat.le_refl _) (by omega))]
theorem X4_depthRound_eq (hk : 10000 ≤ k) (hg : GD n b e w) (hx : ST x n P) (hB : AR n B b) (hE : AR n E e) (hp : 1 ≤ p) (hp2 : p ≤ 1000) (hreq : f_X4_requireCircle k (nI p) (nI n) x B E = some (.ok ())) :
    ∃ M, MX n p P b e M ∧ f_X4_depthRound k (nI p) (nI n) x B E = some (.ok (nI M)) := by
  have hn := hg.1
  unfold f_X4_depthRound
  rw [hreq, xe_s]
  refine loopE (fun f (s : Int32 × Int32) => f_X4_depthRound_L9 k (nI p) (nI n) x B E (fun (v2_9 : Int32) (v3_10 : Int32) => some (.ok v2_9)) f s.1 s.2) (fun res => ∃ M, MX n p P b e M ∧ res = some (.ok (nI M))) n
    (fun i s => s.2 = nI i ∧ ∃ M, s.1 = nI M ∧ M ≤ 40 ∧ (M = 0 ∨ ∃ t, t < p ∧ cd n p P b e t = M) ∧ ∀ j, j < i → P j = true → cd n p P b e (b j % p) ≤ M) ?_ ?_ k (0, 0) (by omega) ⟨rfl, 0, rfl, by omega, Or.inl rfl, fun j h => absurd h (Nat.not_lt_zero j)⟩
  · rintro f i ⟨v, y⟩ hi ⟨rfl, M, rfl, hM1, hM2, hM3⟩
    refine Or.inl ?_
    dsimp only
    have hgi := hg.2 i hi
    rw [f_X4_depthRound_L9_s, if_neg (nI_ge hi (by omega)), contains_st k hx hi hn, xb_s]
    by_cases hpi : P i = true
    · have hc := cd_le (n := n) (p := p) (P := P) (b := b) (e := e) (b i % p)
      rw [if_neg (by rw [if_pos hpi]; decide), xi_nI (by omega) (by omega), nI_clamp (show i < 2 ^ 31 by omega), hB i hi, depthOnCircle_eq hk hg hx hB hE hp hp2 (by omega), xb_s]
      try dsimp only
      rw [nI_1]
      by_cases c : M < cd n p P b e (b i % p)
      · rw [if_pos (nI_lt c (by omega))]
        refine ⟨(nI (cd n p P b e (b i % p)), nI (i + 1)), ⟨rfl, _, rfl, by omega, Or.inr ⟨_, Nat.mod_lt _ hp, rfl⟩, fun j hj hpj => ?_⟩, rfl⟩
        rcases Nat.lt_or_ge j i with h | h
        · have := hM3 j h hpj; omega
        · have : j = i := by omega
          rw [this]; exact Nat.le_refl _
      · rw [if_neg (nI_nlt (Nat.not_lt.mp c) (by omega))]
        refine ⟨(nI M, nI (i + 1)), ⟨rfl, _, rfl, hM1, hM2, fun j hj hpj => ?_⟩, rfl⟩
        rcases Nat.lt_or_ge j i with h | h
        · exact hM3 j h hpj
        · have : j = i := by omega
          rw [this]; omega
    · rw [if_pos (by rw [if_neg hpi]), nI_1]
      refine ⟨(nI M, nI (i + 1)), ⟨rfl, _, rfl, hM1, hM2, fun j hj hpj => ?_⟩, rfl⟩
      rcases Nat.lt_or_ge j i with h | h
      · exact hM3 j h hpj
      · have : j = i := by omega
        rw [this] at hpj; exact absurd hpj hpi
  · rintro f ⟨v, y⟩ ⟨rfl, M, rfl, hM1, hM2, hM3⟩
    dsimp only
    rw [f_X4_depthRound_L9_s, if_pos (nI_le (Nat.le_refl _) (by omega))]
    refine ⟨M, ⟨hM2, fun t ht => ?_⟩, rfl⟩
    rcases Nat.eq_zero_or_pos (cd n p P b e t) with h0 | h0
    · omega
    · obtain ⟨i, hi, hpi, hle⟩ := cd_at hp ht h0
      exact Nat.le_trans hle (hM3 i hi hpi)
end DR
