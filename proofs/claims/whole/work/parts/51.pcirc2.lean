/-! depthRound. -/
section DR
variable {k n p : Nat} {x : Int64} {P : Nat → Bool} {b e w : Nat → Nat} {B E T : Nat → Int32}
def cd (n p : Nat) (P : Nat → Bool) (b e : Nat → Nat) (t : Nat) : Nat := fb_ct (fun j => P j && decide (dst p (b j % p) t < e j - b j)) n
def MX (n p : Nat) (P : Nat → Bool) (b e : Nat → Nat) (M : Nat) : Prop := (M = 0 ∨ ∃ t, t < p ∧ cd n p P b e t = M) ∧ ∀ t, t < p → cd n p P b e t ≤ M
theorem MX.one {M M2 : Nat} (h1 : MX n p P b e M) (h2 : MX n p P b e M2) : M = M2 := by
  obtain ⟨a1, a2⟩ := h1
  obtain ⟨b1, b2⟩ := h2
  have : M ≤ M2 := by
    rcases a1 with h | ⟨t, ht, h⟩
    · omega
    · have := b2 t ht; omega
  have : M2 ≤ M := by
    rcases b1 with h | ⟨t, ht, h⟩
    · omega
    · have := a2 t ht; omega
  omega
theorem cd_le (t : Nat) : cd n p P b e t ≤ n := fb_ct_le _ _
theorem cd_at {t : Nat} (hp : 1 ≤ p) (ht : t < p) (h : 0 < cd n p P b e t) : ∃ i, i < n ∧ P i = true ∧ cd n p P b e t ≤ cd n p P b e (b i % p) := by
  obtain ⟨i0, hi0, hp0⟩ := fb_ct_pos.mp h
  simp only [Bool.and_eq_true, decide_eq_true_eq] at hp0
  have hd : ∀ j, dst p (b j % p) t < p := fun j => by
    have := Nat.mod_lt (b j) hp
    unfold dst
    by_cases c : t < b j % p
    · rw [if_pos c]; omega
    · rw [if_neg c]; omega
  obtain ⟨j, hj, hmax, -⟩ := fb_best (fun i => if P i = true ∧ dst p (b i % p) t < e i - b i then ((p - dst p (b i % p) t : Nat) : Int) else -1) (n := n) (by omega)
  have h1 := hmax i0 hi0
  rw [if_pos hp0] at h1
  have hjp : P j = true ∧ dst p (b j % p) t < e j - b j := by
    by_cases hq : P j = true ∧ dst p (b j % p) t < e j - b j
    · exact hq
    · rw [if_neg hq] at h1; omega
  rw [if_pos hjp] at hmax
  refine ⟨j, hj, hjp.1, fb_ct_sub fun i hi hq => ?_⟩
  simp only [Bool.and_eq_true, decide_eq_true_eq] at hq ⊢
  have h2 := hmax i hi
  rw [if_pos hq] at h2
  have h3 := hd i
  have h4 := hd j
  refine ⟨hq.1, Nat.lt_of_le_of_lt ?_ hq.2⟩
  have h5 := Nat.mod_lt (b i) hp
  have h6 := Nat.mod_lt (b j) hp
  have h7 : dst p (b j % p) t ≤ dst p (b i % p) t := by omega
  revert h7
  generalize b i % p = r1 at *
  generalize b j % p = r2 at *
  unfold dst
  intro h7
  split at h7 <;> split at h7 <;> split <;> (try split) <;> omega
theorem depthOnCircle_eq {tb : Nat} (hk : 10000 ≤ k) (hg : GD n b e w) (hx : ST x n P) (hB : AR n B b) (hE : AR n E e) (hp : 1 ≤ p) (hp2 : p ≤ 1000) (ht : tb ≤ 1000) : f_X4_depthOnCircle k (nI tb) (nI p) (nI n) x B E = some (nI (cd n p P b e (tb % p))) := by
  have hn := hg.1
  unfold f_X4_depthOnCircle
  refine loopG (fun f (s : Int32 × Int32) => f_X4_depthOnCircle_L5 k (nI tb) (nI p) (nI n) x B E (fun (v3_11 : Int32) (v4_12 : Int32) => some v3_11) f s.1 s.2) _ n (fun i => (nI (cd i p P b e (tb % p)), nI i)) ?_ ?_ k (by omega)
  · intro f i hi
    dsimp only
    have hgi := hg.2 i hi
    rw [f_X4_depthOnCircle_L5_s, if_neg (nI_ge hi (by omega)), contains_st k hx hi hn, xb_s, show cd (i + 1) p P b e (tb % p) = cd i p P b e (tb % p) + (if (P i && decide (dst p (b i % p) (tb % p) < e i - b i)) = true then 1 else 0) from rfl]
    by_cases hpi : P i = true
    · rw [if_neg (by rw [if_pos hpi]; decide), xi_nI (by omega) (by omega), nI_clamp (by omega), hB i hi, turned_eq (by omega) (by omega) hp (by omega), xb_s, lengthOf_eq hg hB hE hi, xb_s, hpi, Bool.true_and]
      by_cases c : dst p (b i % p) (tb % p) < e i - b i
      · rw [if_neg (nI_ge c (by omega)), decide_eq_true c, if_pos rfl, nI_1, nI_1]
      · have hd : dst p (b i % p) (tb % p) < 2 ^ 31 := by
          have := Nat.mod_lt (b i) hp
          have := Nat.mod_lt tb hp
          unfold dst
          split <;> omega
        rw [if_pos (nI_le (Nat.not_lt.mp c) hd), decide_eq_false c, if_neg (by decide), nI_1]
        try rfl
    · have hp3 : P i = false := by simpa using hpi
      rw [if_pos (by rw [if_neg hpi]), hp3, Bool.false_and, if_neg (by decide), nI_1]
      try rfl
  · intro f
    dsimp only
    rw [f_X4_depthOnCircle_L5_s, if_pos (nI_le (Nat.le_refl _) (by omega))]
theorem X4_depthRound_eq (hk : 10000 ≤ k) (hg : GD n b e w) (hx : ST x n P) (hB : AR n B b) (hE : AR n E e) (hp : 1 ≤ p) (hp2 : p ≤ 1000) (hreq : f_X4_requireCircle k (nI p) (nI n) x B E = some (.ok ())) :
    ∃ M, MX n p P b e M ∧ f_X4_depthRound k (nI p) (nI n) x B E = some (.ok (nI M)) := by
  have hn := hg.1
  unfold f_X4_depthRound
  rw [hreq, xe_s]
  refine loopE (fun f (s : Int32 × Int32) => f_X4_depthRound_L9 k (nI p) (nI n) x B E (fun (v2_9 : Int32) (v3_10 : Int32) => some (.ok v2_9)) f s.1 s.2) (fun res => ∃ M, MX n p P b e M ∧ res = some (.ok (nI M))) n
    (fun i s => s.2 = nI i ∧ ∃ M, s.1 = nI M ∧ M ≤ 40 ∧ (M = 0 ∨ ∃ t, t < p ∧ cd n p P b e t = M) ∧ ∀ j, j < i → P j = true → cd n p P b e (b j % p) ≤ M) ?_ ?_ k (0, 0) (by omega) ⟨rfl, 0, rfl, by omega, Or.inl rfl, fun j h => absurd h (Nat.not_lt_zero j)⟩
  · rintro f i ⟨v, y⟩ hi ⟨rfl, M, rfl, hM1, hM2, hM3⟩
    refine Or.inl ?_
    dsimp only
    have hgi := hg.2 i hi
    rw [f_X4_depthRound_L9_s, if_neg (nI_ge hi (by omega)), contains_st k hx hi hn, xb_s]
    by_cases hpi : P i = true
    · have hc := cd_le (n := n) (p := p) (P := P) (b := b) (e := e) (b i % p)
      rw [if_neg (by rw [if_pos hpi]; decide), xi_nI (by omega) (by omega), nI_clamp (show i < 2 ^ 31 by omega), hB i hi, depthOnCircle_eq hk hg hx hB hE hp hp2 (by omega), xb_s]
      try dsimp only
      rw [nI_1]
      by_cases c : M < cd n p P b e (b i % p)
      · rw [if_pos (nI_lt c (by omega))]
        refine ⟨(nI (cd n p P b e (b i % p)), nI (i + 1)), ⟨rfl, _, rfl, by omega, Or.inr ⟨_, Nat.mod_lt _ hp, rfl⟩, fun j hj hpj => ?_⟩, rfl⟩
        rcases Nat.lt_or_ge j i with h | h
        · have := hM3 j h hpj; omega
        · have : j = i := by omega
          rw [this]; exact Nat.le_refl _
      · rw [if_neg (nI_nlt (Nat.not_lt.mp c) (by omega))]
        refine ⟨(nI M, nI (i + 1)), ⟨rfl, _, rfl, hM1, hM2, fun j hj hpj => ?_⟩, rfl⟩
        rcases Nat.lt_or_ge j i with h | h
        · exact hM3 j h hpj
        · have : j = i := by omega
          rw [this]; omega
    · rw [if_pos (by rw [if_neg hpi]), nI_1]
      refine ⟨(nI M, nI (i + 1)), ⟨rfl, _, rfl, hM1, hM2, fun j hj hpj => ?_⟩, rfl⟩
      rcases Nat.lt_or_ge j i with h | h
      · exact hM3 j h hpj
      · have : j = i := by omega
        rw [this] at hpj; exact absurd hpj hpi
  · rintro f ⟨v, y⟩ ⟨rfl, M, rfl, hM1, hM2, hM3⟩
    dsimp only
    rw [f_X4_depthRound_L9_s, if_pos (nI_le (Nat.le_refl _) (by omega))]
    refine ⟨M, ⟨hM2, fun t ht => ?_⟩, rfl⟩
    rcases Nat.eq_zero_or_pos (cd n p P b e t) with h0 | h0
    · omega
    · obtain ⟨i, hi, hpi, hle⟩ := cd_at hp ht h0
      exact Nat.le_trans hle (hM3 i hi hpi)
theorem X5_depthRound_L29_eq {t : Nat} {v : Int32} {κ : Int32 → Int32 → Option (Int32 × Int32)} (hk : 10000 ≤ k) (hg : GD n b e w) (hT : BZ n T P) (hB : AR n B b) (hE : AR n E e) (hp : 1 ≤ p) (hp2 : p ≤ 1000) (ht : t < p) : f_X5_depthRound_L29 k (nI p) v (nI t) (nI n) B E T κ k 0 0 = κ (nI (cd n p P b e t)) (nI n) := by
  have hn := hg.1
  refine loopG (fun f (s : Int32 × Int32) => f_X5_depthRound_L29 k (nI p) v (nI t) (nI n) B E T κ f s.1 s.2) _ n (fun i => (nI (cd i p P b e t), nI i)) ?_ ?_ k (by omega)
  · intro f i hi
    dsimp only
    rw [f_X5_depthRound_L29_s, if_neg (nI_ge hi (by omega)), xi_nI (by omega) (by omega), nI_clamp (show i < 2 ^ 31 by omega), show cd (i + 1) p P b e t = cd i p P b e t + (if (P i && decide (dst p (b i % p) t < e i - b i)) = true then 1 else 0) from rfl]
    by_cases hpi : P i = true
    · rw [if_neg (by rw [bz_0 hT hi, hpi]; simp), takes_eq hg hB hE hi hp hp2 ht, xb_s, hpi, Bool.true_and]
      by_cases c : dst p (b i % p) t < e i - b i
      · rw [if_neg (by rw [if_pos c]; decide), decide_eq_true c, if_pos rfl, nI_1, nI_1]
      · rw [if_pos (by rw [if_neg c]), decide_eq_false c, if_neg (by decide), nI_1, Int32.add_zero]
        try rfl
    · have hp3 : P i = false := by simpa using hpi
      rw [if_pos (by rw [bz_0 hT hi]; exact hp3), hp3, Bool.false_and, if_neg (by decide), nI_1, Int32.add_zero]
      try rfl
  · intro f
    dsimp only
    rw [f_X5_depthRound_L29_s, if_pos (nI_le (Nat.le_refl _) (by omega))]
theorem X5_depthRound_L18_eq {th : Int32} (hk : 10000 ≤ k) (hg : GD n b e w) (hT : BZ n T P) (hB : AR n B b) (hE : AR n E e) (hp : 1 ≤ p) (hp2 : p ≤ 1000) :
    ∃ M, MX n p P b e M ∧ f_X5_depthRound_L18 k (nI p) (nI n) B E T (fun (v2_17 : Int32) (v3_18 : Int32) => some (v2_17, th)) k 0 0 = some (nI M, th) := by
  have hn := hg.1
  refine loopE (fun f (s : Int32 × Int32) => f_X5_depthRound_L18 k (nI p) (nI n) B E T (fun (v2_17 : Int32) (v3_18 : Int32) => some (v2_17, th)) f s.1 s.2) (fun res => ∃ M, MX n p P b e M ∧ res = some (nI M, th)) p
    (fun i s => s.2 = nI i ∧ ∃ M, s.1 = nI M ∧ M ≤ 40 ∧ (M = 0 ∨ ∃ t, t < p ∧ cd n p P b e t = M) ∧ ∀ t, t < i → cd n p P b e t ≤ M) ?_ ?_ k (0, 0) (by omega) ⟨rfl, 0, rfl, by omega, Or.inl rfl, fun j h => absurd h (Nat.not_lt_zero j)⟩
  · rintro f i ⟨v, y⟩ hi ⟨rfl, M, rfl, hM1, hM2, hM3⟩
    refine Or.inl ?_
    dsimp only
    have hc := cd_le (n := n) (p := p) (P := P) (b := b) (e := e) i
    rw [f_X5_depthRound_L18_s, if_neg (nI_ge hi (by omega)), X5_depthRound_L29_eq hk hg hT hB hE hp hp2 hi]
    try dsimp only
    rw [nI_1]
    by_cases c : cd n p P b e i ≤ M
    · rw [if_pos (nI_le c (by omega))]
      refine ⟨(nI M, nI (i + 1)), ⟨rfl, _, rfl, hM1, hM2, fun j hj => ?_⟩, rfl⟩
      rcases Nat.lt_or_ge j i with h | h
      · exact hM3 j h
      · have : j = i := by omega
        rw [this]; omega
    · rw [if_neg (nI_ge (Nat.not_le.mp c) (by omega))]
      refine ⟨(nI (cd n p P b e i), nI (i + 1)), ⟨rfl, _, rfl, by omega, Or.inr ⟨_, hi, rfl⟩, fun j hj => ?_⟩, rfl⟩
      rcases Nat.lt_or_ge j i with h | h
      · have := hM3 j h; omega
      · have : j = i := by omega
        rw [this]; exact Nat.le_refl _
  · rintro f ⟨v, y⟩ ⟨rfl, M, rfl, hM1, hM2, hM3⟩
    dsimp only
    rw [f_X5_depthRound_L18_s, if_pos (nI_le (Nat.le_refl _) (by omega))]
    exact ⟨M, ⟨hM2, hM3⟩, rfl⟩
end DR
section DRL
variable {k : Nat} {p p2 p3 added fac drop th many mfac mdrop : Int32} {ps os as : Int64} {B E W mB mE mW T TO TC : Nat → Int32} {out : Nat → Int64}
theorem law_depthRound (hk : 10000 ≤ k) (h : INV added ps fac os as drop B E W many mfac mdrop mB mE mW T TO TC) :
    ∃ (c b2 : Int32) (out' : Nat → Int64), f_L_depthRound k p added ps B E out = some (c, out') ∧ f_X5_depthRound k p th many mB mE T = some (b2, c) ∧ (c = 0 → out' 0 = b2.toInt64) := by
  obtain ⟨n, b, e, w, P, O, C, fa, dr, hS, hX, hM⟩ := h
  obtain ⟨hG, hC, hO, hf1, hf2⟩ := id hS
  obtain ⟨rfl, x2, x3, x4, x5, x6, x7, x8, x9⟩ := id hX
  obtain ⟨rfl, m2, m3, m4, m5, m6, m7, m8, m9⟩ := id hM
  have hn := hG.1
  obtain ⟨v, hv, hfr⟩ := faultRound_eq (p := p) hk hG m7 m4 m5
  have bad1 : p < 1 ∨ (¬ p < 1 ∧ ¬ p ≤ nI 1000) → ∃ (c b2 : Int32) (out' : Nat → Int64), f_L_depthRound k p (nI n) ps B E out = some (c, out') ∧ f_X5_depthRound k p th (nI n) mB mE T = some (b2, c) ∧ (c = 0 → out' 0 = b2.toInt64) := by
    intro hb
    refine ⟨1, 0, out, ?_, ?_, fun q => absurd q (by decide)⟩
    · unfold f_L_depthRound f_X4_depthRound
      rw [requireCircle_bad hb, xe_e, xt_e, if_pos rfl]
    · unfold f_X5_depthRound
      rw [hfr, X5_in_bad hb, xb_s, if_pos rfl, xb_s, goesWell_1, xb_s]
      try dsimp only
      rw [if_pos rfl]
  rcases rng_cases p 1000 (by omega) with q | ⟨a1, q, h1, h2, rfl⟩ | q
  · exact bad1 (Or.inl q)
  · rcases requireCircle_eq hk hG x2 x7 x8 h1 h2 with ⟨hr1, hr2⟩ | ⟨⟨j, hj, hpj, hlt⟩, hr2⟩
    · obtain ⟨M, hM1, hM2⟩ := X4_depthRound_eq hk hG x2 x7 x8 h1 h2 hr2
      obtain ⟨M', hM3, hM4⟩ := X5_depthRound_L18_eq (th := 0) hk hG m7 m4 m5 h1 h2
      have := hM3.one hM1
      subst this
      have hv1 : v = 1 := by
        rcases hv with ⟨h, -⟩ | ⟨-, j, hj, hpj, hlt⟩
        · exact h
        · have := hr1 j hj hpj
          exact absurd hlt (nI_nlt this (by omega))
      refine ⟨0, nI M', vp_updL out (0 : Int32).toNatClampNeg (nI M').toInt64, ?_, ?_, fun _ => rfl⟩
      · unfold f_L_depthRound
        rw [hM2, xt_s, xi_0]
      · unfold f_X5_depthRound
        rw [hfr, X5_in_good h1 h2, xb_s, if_neg (by decide), hv1, if_neg (by decide), xb_s, goesWell_0, xb_s]
        try dsimp only
        rw [if_neg (by decide)]
        exact hM4
    · have hv0 : v = 0 := by
        have hgj := hG.2 j hj
        rcases hv with ⟨-, h⟩ | ⟨h, -⟩
        · exact absurd (nI_lt hlt (by omega)) (h j hj hpj)
        · exact h
      refine ⟨2, 0, out, ?_, ?_, fun q => absurd q (by decide)⟩
      · unfold f_L_depthRound f_X4_depthRound
        rw [hr2, xe_e, xt_e, if_neg (by decide), if_pos rfl]
      · unfold f_X5_depthRound
        rw [hfr, X5_in_good h1 h2, xb_s, if_neg (by decide), hv0, if_pos rfl, xb_s, goesWell_2, xb_s]
        try dsimp only
        rw [if_pos rfl]
  · exact bad1 (Or.inr q)
end DRL
