/-! Several rooms: the model's points. -/
section MP
variable {k n : Nat} {P : Nat → Bool} {b e w : Nat → Nat} {B E T : Nat → Int32}
def PTI (n : Nat) (P : Nat → Bool) (b e : Nat → Nat) (t c : Nat) (pt : Nat → Nat) : Prop := (∀ u v, u < v → v < c → pt u < pt v) ∧ (∀ v, v < c → pt v < t ∧ ∃ j, j < n ∧ P j = true ∧ (b j = pt v ∨ e j = pt v)) ∧ ∀ j, j < n → P j = true → (b j < t → ∃ v, v < c ∧ pt v = b j) ∧ (e j < t → ∃ v, v < c ∧ pt v = e j)
theorem PTI.le {t c : Nat} {pt : Nat → Nat} (h : PTI n P b e t c pt) : c ≤ 2 * n := by
  obtain ⟨h1, h2, h3⟩ := h
  have hf : ∃ f : Nat → Nat, ∀ v, v < c → f v < 2 * n ∧ ((f v < n ∧ b (f v) = pt v) ∨ (n ≤ f v ∧ e (f v - n) = pt v)) := by
    have : ∀ v, ∃ x, v < c → x < 2 * n ∧ ((x < n ∧ b x = pt v) ∨ (n ≤ x ∧ e (x - n) = pt v)) := by
      intro v
      by_cases hv : v < c
      · obtain ⟨-, j, hj, -, h9 | h9⟩ := h2 v hv
        · exact ⟨j, fun _ => ⟨by omega, Or.inl ⟨hj, h9⟩⟩⟩
        · exact ⟨n + j, fun _ => ⟨by omega, Or.inr ⟨by omega, by rw [Nat.add_sub_cancel_left]; exact h9⟩⟩⟩
      · exact ⟨0, fun h => absurd h hv⟩
    exact ⟨fun v => Classical.choose (this v), fun v hv => Classical.choose_spec (this v) hv⟩
  obtain ⟨f, hf⟩ := hf
  refine fb_holes (2 * n) c f (fun v hv => (hf v hv).1) fun u v huv hv he => ?_
  have a1 := (hf u (by omega)).2
  have a2 := (hf v hv).2
  have a3 := h1 u v huv hv
  rw [he] at a1
  rcases a1 with ⟨x1, x2⟩ | ⟨x1, x2⟩ <;> rcases a2 with ⟨y1, y2⟩ | ⟨y1, y2⟩
  · omega
  · omega
  · omega
  · omega
theorem PTI.skip {t c : Nat} {pt : Nat → Nat} (h : PTI n P b e t c pt) (hno : ∀ j, j < n → P j = true → b j ≠ t ∧ e j ≠ t) : PTI n P b e (t + 1) c pt := by
  obtain ⟨h1, h2, h3⟩ := h
  refine ⟨h1, fun v hv => ?_, fun j hj hp => ⟨fun h => (h3 j hj hp).1 ?_, fun h => (h3 j hj hp).2 ?_⟩⟩
  · have := h2 v hv; exact ⟨by omega, this.2⟩
  · have := (hno j hj hp).1; omega
  · have := (hno j hj hp).2; omega
theorem PTI.put {t c : Nat} {pt : Nat → Nat} (h : PTI n P b e t c pt) (hy : ∃ j, j < n ∧ P j = true ∧ (b j = t ∨ e j = t)) : PTI n P b e (t + 1) (c + 1) (fs pt c t) := by
  obtain ⟨h1, h2, h3⟩ := h
  refine ⟨fun u v huv hv => ?_, fun v hv => ?_, fun j hj hp => ⟨fun h => ?_, fun h => ?_⟩⟩
  · rw [fs_ne _ _ (show u ≠ c by omega)]
    by_cases c1 : v = c
    · rw [c1, fs_at]; exact (h2 u (by omega)).1
    · rw [fs_ne _ _ c1]; exact h1 u v huv (by omega)
  · by_cases c1 : v = c
    · rw [c1, fs_at]; exact ⟨by omega, hy⟩
    · rw [fs_ne _ _ c1]; have := h2 v (by omega); exact ⟨by omega, this.2⟩
  · rcases Nat.lt_or_ge (b j) t with h9 | h9
    · obtain ⟨v, hv, he⟩ := (h3 j hj hp).1 h9
      exact ⟨v, by omega, by rw [fs_ne _ _ (by omega)]; exact he⟩
    · exact ⟨c, by omega, by rw [fs_at]; omega⟩
  · rcases Nat.lt_or_ge (e j) t with h9 | h9
    · obtain ⟨v, hv, he⟩ := (h3 j hj hp).2 h9
      exact ⟨v, by omega, by rw [fs_ne _ _ (by omega)]; exact he⟩
    · exact ⟨c, by omega, by rw [fs_at]; omega⟩
theorem layPoints_L18 {t : Nat} {κ : Int32 → Int32 → Option (Int32 × (Nat → Int32) × (Nat → Int32) × (Nat → Int32))} {Qp : Option (Int32 × (Nat → Int32) × (Nat → Int32) × (Nat → Int32)) → Prop} (hk : 10000 ≤ k) (hg : GD n b e w) (hT : BZ n T P) (hB : AR n B b) (hE : AR n E e) (ht : t ≤ 1000)
    (hQ : ∀ v y, (v = 0 ∧ ∀ j, j < n → P j = true → b j ≠ t ∧ e j ≠ t) ∨ (v = 1 ∧ ∃ j, j < n ∧ P j = true ∧ (b j = t ∨ e j = t)) → Qp (κ v y)) : Qp (f_X5_layPoints_L18 k (nI t) (nI n) B E T κ k 0 0) := by
  have hn := hg.1
  refine loopE (fun f (s : Int32 × Int32) => f_X5_layPoints_L18 k (nI t) (nI n) B E T κ f s.1 s.2) Qp n (fun i s => s.2 = nI i ∧ ((s.1 = 0 ∧ ∀ j, j < i → P j = true → b j ≠ t ∧ e j ≠ t) ∨ (s.1 = 1 ∧ ∃ j, j < n ∧ P j = true ∧ (b j = t ∨ e j = t)))) ?_ ?_ k (0, 0) (by omega) ⟨rfl, Or.inl ⟨rfl, fun j h => absurd h (Nat.not_lt_zero j)⟩⟩
  · rintro f i ⟨v, y⟩ hi ⟨rfl, h⟩
    refine Or.inl ?_
    try dsimp only at h ⊢
    have hgi := hg.2 i hi
    rw [f_X5_layPoints_L18_s, if_neg (nI_ge hi (by omega))]
    rcases h with ⟨rfl, h⟩ | ⟨rfl, h⟩
    · rw [if_pos rfl, xi_nI (by omega) (by omega), nI_clamp (show i < 2 ^ 31 by omega)]
      have stay : (P i = true → b i ≠ t ∧ e i ≠ t) → ∀ j, j < i + 1 → P j = true → b j ≠ t ∧ e j ≠ t := fun h2 j hj hpj => by
        rcases Nat.lt_or_ge j i with h9 | h9
        · exact h j h9 hpj
        · have : j = i := by omega
          subst this; exact h2 hpj
      by_cases hp : P i = true
      · rw [if_neg (by rw [bz_0 hT hi, hp]; simp), xi_nI (by omega) (by omega), hB i hi]
        by_cases c1 : b i = t
        · rw [if_pos (congrArg nI c1), nI_1]
          exact ⟨(1, nI (i + 1)), ⟨rfl, Or.inr ⟨rfl, i, hi, hp, Or.inl c1⟩⟩, rfl⟩
        · rw [if_neg (fun q => c1 ((nI_eq (by omega) (by omega)).mp q)), xi_nI (by omega) (by omega), hE i hi]
          by_cases c2 : e i = t
          · rw [if_pos (congrArg nI c2), nI_1]
            exact ⟨(1, nI (i + 1)), ⟨rfl, Or.inr ⟨rfl, i, hi, hp, Or.inr c2⟩⟩, rfl⟩
          · rw [if_neg (fun q => c2 ((nI_eq (by omega) (by omega)).mp q)), nI_1]
            exact ⟨(0, nI (i + 1)), ⟨rfl, Or.inl ⟨rfl, stay fun _ => ⟨c1, c2⟩⟩⟩, rfl⟩
      · rw [if_pos (by rw [bz_0 hT hi]; simpa using hp), nI_1]
        exact ⟨(0, nI (i + 1)), ⟨rfl, Or.inl ⟨rfl, stay fun q => absurd q hp⟩⟩, rfl⟩
    · rw [if_neg (by decide), nI_1]
      exact ⟨(1, nI (i + 1)), ⟨rfl, Or.inr ⟨rfl, h⟩⟩, rfl⟩
  · rintro f ⟨v, y⟩ ⟨rfl, h⟩
    try dsimp only at h ⊢
    rw [f_X5_layPoints_L18_s, if_pos (nI_le (Nat.le_refl _) (by omega))]
    exact hQ _ _ h
theorem layPoints_eq {pm : Int32} {Pt Fl Us : Nat → Int32} (hk : 10000 ≤ k) (hg : GD n b e w) (hT : BZ n T P) (hB : AR n B b) (hE : AR n E e) :
    ∃ c pt Pt' Fl' Us', PTI n P b e 1001 c pt ∧ AR c Pt' pt ∧ AR c Fl' (fun _ => 0) ∧ BZ n Us' (fun _ => false) ∧ f_X5_layPoints k (nI n) pm B E T Pt Fl Us = some (nI c, Pt', Fl', Us') := by
  have hn := hg.1
  unfold f_X5_layPoints
  have key : ∀ d f t c pt A F, t + d = 1001 → d < f → PTI n P b e t c pt → AR c A pt → AR c F (fun _ => 0) → (fun res => ∃ c pt Pt' Fl' Us', PTI n P b e 1001 c pt ∧ AR c Pt' pt ∧ AR c Fl' (fun _ => 0) ∧ BZ n Us' (fun _ => false) ∧ res = some (nI c, Pt', Fl', Us')) (f_X5_layPoints_L7 k (nI n) B E T (fun (v1_15 : Int32) (f_pointMany_16 : Int32) (A_points_17 : Nat → Int32) (A_flows_18 : Nat → Int32) => f_X5_layPoints_L113 k (nI n) (fun (v1_21 : Int32) (A_isUsed_22 : Nat → Int32) => some (f_pointMany_16, A_points_17, A_flows_18, A_isUsed_22)) k 0 Us) f (nI t) (nI c) A F) := by
    intro d
    induction d with
    | zero =>
      intro f t c pt A F h1 h2 h3 h4 h5
      obtain ⟨f, rfl⟩ : ∃ q, f = q + 1 := ⟨f - 1, by omega⟩
      have : t = 1001 := by omega
      subst this
      rw [f_X5_layPoints_L7_s, if_pos (show (1000 : Int32) < nI 1001 by decide)]
      refine loopE (fun f (s : Int32 × (Nat → Int32)) => f_X5_layPoints_L113 k (nI n) (fun (v1_21 : Int32) (A_isUsed_22 : Nat → Int32) => some (nI c, A, F, A_isUsed_22)) f s.1 s.2) (fun res => ∃ c pt Pt' Fl' Us', PTI n P b e 1001 c pt ∧ AR c Pt' pt ∧ AR c Fl' (fun _ => 0) ∧ BZ n Us' (fun _ => false) ∧ res = some (nI c, Pt', Fl', Us')) n (fun i s => s.1 = nI i ∧ BZ i s.2 (fun _ => false)) ?_ ?_ k (0, Us) (by omega) ⟨rfl, fun i h => absurd h (Nat.not_lt_zero i)⟩
      · rintro f i ⟨x, A⟩ hi ⟨rfl, hI⟩
        refine Or.inl ⟨(nI (i + 1), upd A i 0), ⟨rfl, fun j hj => ?_⟩, ?_⟩
        · try dsimp only at hI ⊢
          unfold upd
          by_cases c : j = i
          · rw [if_pos c]; rfl
          · rw [if_neg c]; exact hI j (by omega)
        · try dsimp only
          rw [f_X5_layPoints_L113_s, if_neg (nI_ge hi (by omega)), xi_nI (by omega) (by omega), nI_clamp (show i < 2 ^ 31 by omega), nI_1, nar_0]
      · rintro f ⟨x, A'⟩ ⟨rfl, hI⟩
        try dsimp only
        rw [f_X5_layPoints_L113_s, if_pos (nI_le (Nat.le_refl _) (by omega))]
        exact ⟨c, pt, A, F, A', h3, h4, h5, hI, rfl⟩
    | succ d ih =>
      intro f t c pt A F h1 h2 h3 h4 h5
      obtain ⟨f, rfl⟩ : ∃ q, f = q + 1 := ⟨f - 1, by omega⟩
      rw [f_X5_layPoints_L7_s, if_neg (show ¬ (1000 : Int32) < nI t from nI_nlt (a := 1000) (b := t) (by omega) (by omega))]
      refine layPoints_L18 (Qp := fun res => ∃ c pt Pt' Fl' Us', PTI n P b e 1001 c pt ∧ AR c Pt' pt ∧ AR c Fl' (fun _ => 0) ∧ BZ n Us' (fun _ => false) ∧ res = some (nI c, Pt', Fl', Us')) hk hg hT hB hE (by omega) fun v y hv => ?_
      try dsimp only
      rcases hv with ⟨rfl, hv⟩ | ⟨rfl, hv⟩
      · rw [if_pos rfl, nI_1]
        exact ih f (t + 1) c pt A F (by omega) (by omega) (h3.skip hv) h4 h5
      · have h6 := h3.put hv
        have h7 := h6.le
        rw [if_neg (by decide), xi_nI (by omega) (by omega), xi_nI (by omega) (by omega), nI_1, nI_1, nI_clamp (show c < 2 ^ 31 by omega)]
        refine ih f (t + 1) (c + 1) (fs pt c t) _ _ (by omega) (by omega) h6 h4.push fun j hj => ?_
        unfold upd
        by_cases c1 : j = c
        · rw [if_pos c1]; rfl
        · rw [if_neg c1]; exact h5 j (by omega)
  exact key 1001 k 0 0 (fun x => x) Pt Fl (by omega) (by omega) ⟨fun u v _ h => absurd h (Nat.not_lt_zero v), fun v h => absurd h (Nat.not_lt_zero v), fun j _ _ => ⟨fun h => absurd h (Nat.not_lt_zero _), fun h => absurd h (Nat.not_lt_zero _)⟩⟩ (fun j h => absurd h (Nat.not_lt_zero j)) (fun j h => absurd h (Nat.not_lt_zero j))
theorem pointOf_eq {t c v : Nat} {pt : Nat → Nat} {Pt : Nat → Int32} (hk : 10000 ≤ k) (hn : n ≤ 40) (hP : PTI n P b e t c pt) (ht : t ≤ 1001) (hA : AR c Pt pt) (hv : v < c) : f_X5_pointOf k (nI (pt v)) Pt = some (nI v) := by
  have hc := hP.le
  unfold f_X5_pointOf
  refine loopG (fun f (x : Int32) => f_X5_pointOf_L2 k (nI (pt v)) Pt (fun (v2_3 : Int32) => some v2_3) f x) _ v (fun i => nI i) ?_ ?_ k (by omega)
  · intro f i hi
    try dsimp only
    have h1 := hP.1 i v hi hv
    have h2 := (hP.2.1 v hv).1
    rw [f_X5_pointOf_L2_s, xi_nI (by omega) (by omega), nI_clamp (by omega), hA i (by omega), if_neg (fun q => by have := (nI_eq (by omega) (by omega)).mp q; omega), nI_1]
  · intro f
    try dsimp only
    rw [f_X5_pointOf_L2_s, xi_nI (by omega) (by omega), nI_clamp (by omega), hA v hv, if_pos rfl]
/-- the points of an interval -/
def ix (c : Nat) (pt : Nat → Nat) (t : Nat) : Nat := fa_first (fun v => decide (pt v = t)) c
theorem ix_spec {c t : Nat} {pt : Nat → Nat} (h : ∃ v, v < c ∧ pt v = t) : ix c pt t < c ∧ pt (ix c pt t) = t := by
  obtain ⟨v, hv, he⟩ := h
  unfold ix
  have h1 : fa_first (fun v => decide (pt v = t)) c ≤ v := by
    rcases Nat.lt_or_ge v (fa_first (fun v => decide (pt v = t)) c) with h9 | h9
    · have := fa_first_no _ c v h9
      exact absurd he (of_decide_eq_false this)
    · exact h9
  have h2 : fa_first (fun v => decide (pt v = t)) c < c := by omega
  exact ⟨h2, of_decide_eq_true (fa_first_yes _ c h2)⟩
theorem net_points {c : Nat} {C : Nat → Bool} {pt : Nat → Nat} (hg : GD n b e w) (hP : PTI n P b e 1001 c pt) (hC : ∀ j, j < n → C j = true → P j = true) : NOK (c - 1) n C (fun j => ix c pt (b j)) (fun j => ix c pt (e j)) w := by
  intro j hj hc
  have hgj := hg.2 j hj
  obtain ⟨h1, h2⟩ := hP.2.2 j hj (hC j hj hc)
  obtain ⟨a1, a2⟩ := ix_spec (h1 (by omega))
  obtain ⟨a3, a4⟩ := ix_spec (h2 (by omega))
  try dsimp only
  refine ⟨?_, by omega, hgj.2.2.2⟩
  rcases Nat.lt_trichotomy (ix c pt (b j)) (ix c pt (e j)) with h | h | h
  · exact h
  · rw [h] at a2; omega
  · have := hP.1 _ _ h a1; omega
theorem cut_points {c R : Nat} {C S : Nat → Bool} {pt : Nat → Nat} (hg : GD n b e w) (hP : PTI n P b e 1001 c pt) (hC : ∀ j, j < n → C j = true → P j = true) (hS : ∀ j, j < n → S j = true → C j = true) : (∀ t, dep n b e S t ≤ R) ↔ ∀ v, v < c - 1 → crs n C (fun j => ix c pt (b j)) (fun j => ix c pt (e j)) S v ≤ R := by
  have hpt : ∀ j, j < n → P j = true → (ix c pt (b j) < c ∧ pt (ix c pt (b j)) = b j) ∧ (ix c pt (e j) < c ∧ pt (ix c pt (e j)) = e j) := by
    intro j hj hp
    have hgj := hg.2 j hj
    obtain ⟨h1, h2⟩ := hP.2.2 j hj hp
    exact ⟨ix_spec (h1 (by omega)), ix_spec (h2 (by omega))⟩
  have hmono : ∀ u v, u < c → v < c → (pt u ≤ pt v ↔ u ≤ v) ∧ (pt u < pt v ↔ u < v) := by
    intro u v hu hv
    rcases Nat.lt_trichotomy u v with h | h | h
    · have := hP.1 u v h hv; omega
    · subst h; omega
    · have := hP.1 v u h hu; omega
  have heq : ∀ v, v < c → crs n C (fun j => ix c pt (b j)) (fun j => ix c pt (e j)) S v = dep n b e S (pt v) := fun v hv => fb_ct_cong fun j hj => by
    cases hs : S j with
    | false => rw [Bool.and_false, Bool.false_and, Bool.false_and]
    | true =>
      have hc := hS j hj hs
      obtain ⟨⟨a1, a2⟩, a3, a4⟩ := hpt j hj (hC j hj hc)
      rw [hc]
      have e1 := (hmono _ v a1 hv).1
      have e2 := (hmono v _ hv a3).2
      rw [a2] at e1
      rw [a4] at e2
      rw [Bool.eq_iff_iff]
      simp only [Bool.and_eq_true, decide_eq_true_eq, true_and]
      rw [e1, e2]
  constructor
  · intro h v hv
    rw [heq v (by omega)]
    exact h _
  · intro h t
    rcases Nat.eq_zero_or_pos (dep n b e S t) with h0 | h0
    · omega
    · obtain ⟨j, hj, q1, q2, q3, q4, -⟩ := dep_at t h0
      have hgj := hg.2 j hj
      obtain ⟨⟨a1, a2⟩, a3, a4⟩ := hpt j hj (hC j hj (hS j hj q1))
      have e1 := (hmono _ _ a1 a3).2
      rw [a2, a4] at e1
      have h5 := h (ix c pt (b j)) (by omega)
      rw [heq _ a1, a2] at h5
      omega
end MP
