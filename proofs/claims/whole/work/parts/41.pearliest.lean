/-! earliest. -/
def fit (n : Nat) (b e : Nat → Nat) (P : Nat → Bool) (len r s : Nat) : Prop := s + len ≤ 1000 ∧ ∀ t, s ≤ t → t < s + len → dep n b e P t < r
theorem fit_iff {n : Nat} {b e : Nat → Nat} {P : Nat → Bool} {len r s : Nat} (hr : 1 ≤ r) (h1 : 1 ≤ len) (hs : s + len ≤ 1000) (hd : dep n b e P s < r) : (∀ i, i < n → s < b i → b i < s + len → dep n b e P (b i) < r) ↔ fit n b e P len r s := by
  constructor
  · intro h
    refine ⟨hs, fun t h2 h3 => ?_⟩
    rcases Nat.lt_or_ge (dep n b e P t) r with h4 | h4
    · exact h4
    · obtain ⟨j, hj, hp, q1, q2, q3, q4⟩ := dep_at (n := n) (b := b) (e := e) (P := P) t (by omega)
      rcases Nat.lt_or_ge s (b j) with h5 | h5
      · have := h j hj h5 (by omega); omega
      · have : dep n b e P t ≤ dep n b e P s := fb_ct_sub fun i hi hq => by
          simp only [Bool.and_eq_true, decide_eq_true_eq] at hq ⊢
          have := q4 i hi hq.1 hq.2.1 hq.2.2
          exact ⟨hq.1, by omega, by omega⟩
        omega
  · intro h i hi h2 h3
    exact h.2 (b i) (by omega) h3
theorem X4_fits_eq {k n s len r : Nat} {x : Int64} {P : Nat → Bool} {B E : Nat → Int32} {b e w : Nat → Nat} (hk : 10000 ≤ k) (hg : GD n b e w) (hx : ST x n P) (hB : AR n B b) (hE : AR n E e) (hr : 1 ≤ r) (hr2 : r ≤ 40) (h1 : 1 ≤ len) (h2 : len ≤ 1000) (hs : s ≤ 1000) :
    (fit n b e P len r s ∧ f_X4_fits k (nI s) (nI len) (nI r) (nI n) x B E = some 1) ∨ (¬ fit n b e P len r s ∧ f_X4_fits k (nI s) (nI len) (nI r) (nI n) x B E = some 0) := by
  have hn := hg.1
  have hdl := dep_le (n := n) (b := b) (e := e) (P := P) s
  have e1 : (1000 : Int32) - nI len = nI (1000 - len) := pk_sub (a := 1000) h2
  unfold f_X4_fits
  rw [e1]
  by_cases c0 : 1000 - len < s
  · rw [if_pos (nI_lt c0 (by omega))]
    exact Or.inr ⟨fun q => by have := q.1; omega, rfl⟩
  rw [if_neg (nI_nlt (Nat.not_lt.mp c0) (by omega)), depthAt_eq (by omega) hg hx hB hE (by omega), xb_s]
  by_cases c1 : dep n b e P s < r
  · rw [if_pos (nI_lt c1 (by omega))]
    have key := loopE (fun m (q : Int32) => f_X4_fits_L23 k (nI s) (nI len) (nI r) (nI n) x B E (fun (v4_12 : Int32) => some 1) m q)
      (fun res => ((∀ i, i < n → s < b i → b i < s + len → dep n b e P (b i) < r) ∧ res = some 1) ∨ ((∃ i, i < n ∧ s < b i ∧ b i < s + len ∧ r ≤ dep n b e P (b i)) ∧ res = some 0)) n
      (fun i q => q = nI i ∧ ∀ j, j < i → s < b j → b j < s + len → dep n b e P (b j) < r) ?_ ?_ k 0 (by omega) ⟨rfl, fun j h => absurd h (Nat.not_lt_zero j)⟩
    · rcases key with ⟨h3, h4⟩ | ⟨⟨i, hi, q1, q2, q3⟩, h4⟩
      · exact Or.inl ⟨(fit_iff hr h1 (by omega) c1).mp h3, h4⟩
      · exact Or.inr ⟨fun hf => by have := hf.2 (b i) (by omega) q2; omega, h4⟩
    · rintro m i q hi ⟨rfl, hI⟩
      have hgi := hg.2 i hi
      have hdi := dep_le (n := n) (b := b) (e := e) (P := P) (b i)
      try dsimp only
      rw [f_X4_fits_L23_s, if_neg (nI_ge hi (by omega)), xi_nI (by omega) (by omega), nI_clamp (by omega), hB i hi, nI_1, nI_add]
      by_cases c2 : b i ≤ s
      · rw [if_pos (nI_le c2 (by omega))]
        refine Or.inl ⟨nI (i + 1), ⟨rfl, fun j hj q1 q2 => ?_⟩, rfl⟩
        rcases Nat.lt_or_ge j i with h | h
        · exact hI j h q1 q2
        · have : j = i := by omega
          subst this; omega
      · rw [if_neg (nI_ge (Nat.not_le.mp c2) (by omega))]
        by_cases c3 : s + len ≤ b i
        · rw [if_pos (nI_le c3 (by omega))]
          refine Or.inl ⟨nI (i + 1), ⟨rfl, fun j hj q1 q2 => ?_⟩, rfl⟩
          rcases Nat.lt_or_ge j i with h | h
          · exact hI j h q1 q2
          · have : j = i := by omega
            subst this; omega
        · rw [if_neg (nI_ge (Nat.not_le.mp c3) (by omega)), depthAt_eq (by omega) hg hx hB hE (by omega), xb_s]
          by_cases c4 : dep n b e P (b i) < r
          · rw [if_pos (nI_lt c4 (by omega))]
            refine Or.inl ⟨nI (i + 1), ⟨rfl, fun j hj q1 q2 => ?_⟩, rfl⟩
            rcases Nat.lt_or_ge j i with h | h
            · exact hI j h q1 q2
            · have : j = i := by omega
              subst this; exact c4
          · rw [if_neg (nI_nlt (Nat.not_lt.mp c4) (by omega))]
            exact Or.inr (Or.inr ⟨⟨i, hi, by omega, by omega, by omega⟩, rfl⟩)
    · rintro m q ⟨rfl, hI⟩
      try dsimp only
      rw [f_X4_fits_L23_s, if_pos (nI_le (Nat.le_refl _) (by omega))]
      exact Or.inl ⟨hI, rfl⟩
  · rw [if_neg (nI_nlt (Nat.not_lt.mp c1) (by omega))]
    exact Or.inr ⟨fun q => by have := q.2 s (Nat.le_refl _) (by omega); omega, rfl⟩
/-- the least time that fits, or -1 -/
def LFit (n : Nat) (b e : Nat → Nat) (P : Nat → Bool) (len r : Nat) (x : Int32) : Prop := (∃ s, fit n b e P len r s ∧ (∀ u, u < s → ¬ fit n b e P len r u) ∧ x = nI s) ∨ ((∀ u, ¬ fit n b e P len r u) ∧ x = -1)
theorem LFit.one {n : Nat} {b e : Nat → Nat} {P : Nat → Bool} {len r : Nat} {x y : Int32} (h1 : LFit n b e P len r x) (h2 : LFit n b e P len r y) : x = y := by
  rcases h1 with ⟨s, q1, q2, rfl⟩ | ⟨q1, rfl⟩
  · rcases h2 with ⟨t, p1, p2, rfl⟩ | ⟨p1, rfl⟩
    · rcases Nat.lt_trichotomy s t with h | h | h
      · exact absurd q1 (p2 s h)
      · rw [h]
      · exact absurd p1 (q2 t h)
    · exact absurd q1 (p1 s)
  · rcases h2 with ⟨t, p1, p2, rfl⟩ | ⟨p1, rfl⟩
    · exact absurd p1 (q1 t)
    · rfl
/-- above 0 a least fit is an end -/
theorem fit_end {n : Nat} {b e : Nat → Nat} {P : Nat → Bool} {len r s : Nat} (h1 : 1 ≤ len) (hf : fit n b e P len r s) (h0 : 0 < s) (hm : ¬ fit n b e P len r (s - 1)) : ∃ i, i < n ∧ P i = true ∧ e i = s := by
  have hlt : dep n b e P s < dep n b e P (s - 1) := by
    have h2 := hf.2 s (Nat.le_refl _) (by omega)
    rcases Nat.lt_or_ge (dep n b e P (s - 1)) r with h3 | h3
    · exfalso
      refine hm ⟨by have := hf.1; omega, fun t q1 q2 => ?_⟩
      rcases Nat.lt_or_ge t s with h4 | h4
      · have : t = s - 1 := by omega
        rw [this]; exact h3
      · exact hf.2 t h4 (by omega)
    · omega
  rcases Classical.em (∃ i, i < n ∧ P i = true ∧ e i = s) with h | h
  · exact h
  · exfalso
    have : dep n b e P (s - 1) ≤ dep n b e P s := fb_ct_sub fun i hi hq => by
      simp only [Bool.and_eq_true, decide_eq_true_eq] at hq ⊢
      have : e i ≠ s := fun q => h ⟨i, hi, hq.1, q⟩
      exact ⟨hq.1, by omega, by omega⟩
    omega
theorem X4_earliestEnd_eq {k n len r : Nat} {x : Int64} {P : Nat → Bool} {B E : Nat → Int32} {b e w : Nat → Nat} (hk : 10000 ≤ k) (hg : GD n b e w) (hx : ST x n P) (hB : AR n B b) (hE : AR n E e) (hr : 1 ≤ r) (hr2 : r ≤ 40) (h1 : 1 ≤ len) (h2 : len ≤ 1000) (h0 : ¬ fit n b e P len r 0) :
    ∃ y, LFit n b e P len r y ∧ f_X4_earliestEndThatFits k (nI len) (nI r) (nI n) x B E = some y := by
  have hn := hg.1
  have key := loopE (fun m (q : Int32 × Int32) => f_X4_earliestEndThatFits_L5 k (nI len) (nI r) (nI n) x B E (fun (v3_12 : Int32) (v4_13 : Int32) => some v3_12) m q.1 q.2)
    (fun res => ((∀ j, j < n → P j = true → ¬ fit n b e P len r (e j)) ∧ res = some (-1)) ∨ ∃ j, j < n ∧ P j = true ∧ fit n b e P len r (e j) ∧ (∀ i, i < n → P i = true → fit n b e P len r (e i) → e j ≤ e i) ∧ res = some (nI (e j))) n
    (fun i q => q.2 = nI i ∧ (((∀ j, j < i → P j = true → ¬ fit n b e P len r (e j)) ∧ q.1 = -1) ∨ ∃ j, j < i ∧ P j = true ∧ fit n b e P len r (e j) ∧ (∀ u, u < i → P u = true → fit n b e P len r (e u) → e j ≤ e u) ∧ q.1 = nI (e j)))
    ?_ ?_ k (-1, 0) (by omega) ⟨rfl, Or.inl ⟨fun j h => absurd h (Nat.not_lt_zero j), rfl⟩⟩
  · unfold f_X4_earliestEndThatFits
    rcases key with ⟨h3, h4⟩ | ⟨j, hj, hp, hf, hm, h4⟩
    · refine ⟨-1, Or.inr ⟨fun u hu => ?_, rfl⟩, h4⟩
      obtain ⟨s, hs1, hs2⟩ := pk_least (fun s => fit n b e P len r s) ⟨u, hu⟩
      have hs0 : 0 < s := by
        rcases Nat.eq_zero_or_pos s with q | q
        · rw [q] at hs1; exact absurd hs1 h0
        · exact q
      obtain ⟨i, hi, hpi, hei⟩ := fit_end h1 hs1 hs0 (hs2 (s - 1) (by omega))
      exact h3 i hi hpi (by rw [hei]; exact hs1)
    · refine ⟨nI (e j), Or.inl ⟨e j, hf, fun u hu hfu => ?_, rfl⟩, h4⟩
      obtain ⟨s, hs1, hs2⟩ := pk_least (fun s => fit n b e P len r s) ⟨u, hfu⟩
      have hsu : s ≤ u := by
        rcases Nat.lt_or_ge u s with q | q
        · exact absurd hfu (hs2 u q)
        · exact q
      have hs0 : 0 < s := by
        rcases Nat.eq_zero_or_pos s with q | q
        · rw [q] at hs1; exact absurd hs1 h0
        · exact q
      obtain ⟨i, hi, hpi, hei⟩ := fit_end h1 hs1 hs0 (hs2 (s - 1) (by omega))
      have := hm i hi hpi (by rw [hei]; exact hs1)
      omega
  · rintro m i ⟨v3, v4⟩ hi ⟨rfl, hI⟩
    refine Or.inl ?_
    dsimp only at hI ⊢
    have hgi := hg.2 i hi
    rw [f_X4_earliestEndThatFits_L5_s, if_neg (nI_ge hi (by omega)), xi_nI (by omega) (by omega), nI_clamp (by omega), contains_st k hx hi hn, xb_s, hE i hi, nI_1]
    have keep : P i = false ∨ ¬ fit n b e P len r (e i) → ∃ s' : Int32 × Int32, (s'.2 = nI (i + 1) ∧ (((∀ j, j < i + 1 → P j = true → ¬ fit n b e P len r (e j)) ∧ s'.1 = -1) ∨ ∃ j, j < i + 1 ∧ P j = true ∧ fit n b e P len r (e j) ∧ (∀ u, u < i + 1 → P u = true → fit n b e P len r (e u) → e j ≤ e u) ∧ s'.1 = nI (e j))) ∧ s' = (v3, nI (i + 1)) := by
      intro hno
      refine ⟨(v3, nI (i + 1)), ⟨rfl, ?_⟩, rfl⟩
      rcases hI with ⟨h3, rfl⟩ | ⟨j, hj, hp, hf, hm, rfl⟩
      · refine Or.inl ⟨fun j hj hp => ?_, rfl⟩
        rcases Nat.lt_or_ge j i with h | h
        · exact h3 j h hp
        · have : j = i := by omega
          subst this
          rcases hno with q | q
          · rw [q] at hp; cases hp
          · exact q
      · refine Or.inr ⟨j, by omega, hp, hf, fun u hu hpu hfu => ?_, rfl⟩
        rcases Nat.lt_or_ge u i with h | h
        · exact hm u h hpu hfu
        · have : u = i := by omega
          subst this
          rcases hno with q | q
          · rw [q] at hpu; cases hpu
          · exact absurd hfu q
    by_cases hp : P i = true
    · rw [if_neg (by rw [if_pos hp]; decide), xj_s]
      rcases X4_fits_eq hk hg hx hB hE hr hr2 h1 h2 (show e i ≤ 1000 by omega) with ⟨hf, hr3⟩ | ⟨hf, hr3⟩
      · rcases hI with ⟨h3, rfl⟩ | ⟨j, hj, hpj, hfj, hm, rfl⟩
        · refine ⟨(nI (e i), nI (i + 1)), ⟨rfl, Or.inr ⟨i, by omega, hp, hf, fun u hu hpu hfu => ?_, rfl⟩⟩, ?_⟩
          · rcases Nat.lt_or_ge u i with h | h
            · exact absurd hfu (h3 u h hpu)
            · have : u = i := by omega
              rw [this]; exact Nat.le_refl _
          · rw [if_pos rfl, hr3, xb_s, if_neg (by decide)]
        · have hgj := hg.2 j (by omega)
          rw [if_neg (fun q => by rw [fa_eq, nI_toInt (by omega)] at q; exact absurd q (by show ¬ (e j : Int) = -1; omega))]
          by_cases c : e j ≤ e i
          · rw [if_pos (nI_le c (by omega))]
            refine ⟨(nI (e j), nI (i + 1)), ⟨rfl, Or.inr ⟨j, by omega, hpj, hfj, fun u hu hpu hfu => ?_, rfl⟩⟩, rfl⟩
            rcases Nat.lt_or_ge u i with h | h
            · exact hm u h hpu hfu
            · have : u = i := by omega
              rw [this]; exact c
          · rw [if_neg (nI_ge (Nat.not_le.mp c) (by omega)), hr3, xb_s, if_neg (by decide)]
            refine ⟨(nI (e i), nI (i + 1)), ⟨rfl, Or.inr ⟨i, by omega, hp, hf, fun u hu hpu hfu => ?_, rfl⟩⟩, rfl⟩
            rcases Nat.lt_or_ge u i with h | h
            · have := hm u h hpu hfu; omega
            · have : u = i := by omega
              rw [this]; exact Nat.le_refl _
      · obtain ⟨s', hs1, hs2⟩ := keep (Or.inr hf)
        refine ⟨s', hs1, ?_⟩
        rw [hs2, hr3, xb_s, if_pos rfl]
        by_cases c : v3 = -1
        · rw [if_pos c]
        · rw [if_neg c]
          by_cases c2 : v3 ≤ nI (e i)
          · rw [if_pos c2]
          · rw [if_neg c2]
    · obtain ⟨s', hs1, hs2⟩ := keep (Or.inl (by simpa using hp))
      refine ⟨s', hs1, ?_⟩
      rw [hs2, if_pos (by rw [if_neg hp])]
  · rintro m ⟨v3, v4⟩ ⟨rfl, hI⟩
    dsimp only at hI ⊢
    rw [f_X4_earliestEndThatFits_L5_s, if_pos (nI_le (Nat.le_refl _) (by omega))]
    rcases hI with ⟨h3, rfl⟩ | ⟨j, hj, hpj, hfj, hm, rfl⟩
    · exact Or.inl ⟨h3, rfl⟩
    · exact Or.inr ⟨j, hj, hpj, hfj, hm, rfl⟩
theorem X5_earliest_loop {k n len r : Nat} {th : Int32} {P : Nat → Bool} {B E T : Nat → Int32} {b e w : Nat → Nat} (hk : 10000 ≤ k) (hg : GD n b e w) (hT : BZ n T P) (hB : AR n B b) (hE : AR n E e) (hr : 1 ≤ r) (hr2 : r ≤ 40) (h1 : 1 ≤ len) (h2 : len ≤ 1000) :
    ∃ y, LFit n b e P len r y ∧ f_X5_earliest_L40 k (nI len) (nI r) (nI n) B E T (fun (v3_15 : Int32) (v4_16 : Int32) => if (1000 : Int32) < (v3_15 + nI len) then some ((-1), th) else some (v3_15, th)) k 0 0 = some (y, th) := by
  have hn := hg.1
  have fin : ∀ bg tm : Nat, bg ≤ tm → tm ≤ 1000 → (∀ t, bg ≤ t → t < tm → dep n b e P t < r) → (∀ u, u < bg → ¬ fit n b e P len r u) → (tm = bg + len ∨ tm = 1000 ∧ tm ≤ bg + len) → ∃ y, LFit n b e P len r y ∧ (if (1000 : Int32) < (nI bg + nI len) then some ((-1), th) else some (nI bg, th)) = some (y, th) := by
    intro bg tm q1 q2 q3 q4 q5
    rw [nI_add]
    by_cases c : 1000 < bg + len
    · rw [if_pos (show (1000 : Int32) < nI (bg + len) from nI_lt (a := 1000) c (by omega))]
      refine ⟨-1, Or.inr ⟨fun u hu => ?_, rfl⟩, rfl⟩
      rcases Nat.lt_or_ge u bg with h | h
      · exact q4 u h hu
      · have := hu.1; omega
    · rw [if_neg (show ¬ (1000 : Int32) < nI (bg + len) from nI_nlt (b := bg + len) (a := 1000) (by omega) (by omega))]
      refine ⟨nI bg, Or.inl ⟨bg, ⟨by omega, fun t h3 h4 => q3 t h3 (by omega)⟩, q4, rfl⟩, rfl⟩
  refine loopE (fun m (q : Int32 × Int32) => f_X5_earliest_L40 k (nI len) (nI r) (nI n) B E T (fun (v3_15 : Int32) (v4_16 : Int32) => if (1000 : Int32) < (v3_15 + nI len) then some ((-1), th) else some (v3_15, th)) m q.1 q.2)
    (fun res => ∃ y, LFit n b e P len r y ∧ res = some (y, th)) 1000
    (fun i q => q.2 = nI i ∧ ∃ bg, bg ≤ i ∧ i ≤ bg + len ∧ (∀ t, bg ≤ t → t < i → dep n b e P t < r) ∧ (∀ u, u < bg → ¬ fit n b e P len r u) ∧ q.1 = nI bg)
    ?_ ?_ k (0, 0) (by omega) ⟨rfl, 0, Nat.le_refl _, by omega, fun t _ h => absurd h (Nat.not_lt_zero t), fun u h => absurd h (Nat.not_lt_zero u), rfl⟩
  · rintro m i ⟨v3, v4⟩ hi ⟨rfl, bg, q1, q2, q3, q4, rfl⟩
    dsimp only
    have hdi := dep_le (n := n) (b := b) (e := e) (P := P) i
    rw [f_X5_earliest_L40_s, if_neg (show ¬ (1000 : Int32) ≤ nI i from nI_ge (b := 1000) hi (by omega)), pk_sub q1]
    by_cases c : len ≤ i - bg
    · rw [if_pos (nI_le c (by omega))]
      exact Or.inr (fin bg i q1 (by omega) q3 q4 (Or.inl (by omega)))
    · rw [if_neg (nI_ge (Nat.not_le.mp c) (by omega)), X5_depthAt_eq (by omega) hg hT hB hE (by omega), xb_s, nI_1]
      by_cases c2 : r ≤ dep n b e P i
      · rw [if_pos (nI_le c2 (by omega))]
        refine Or.inl ⟨(nI (i + 1), nI (i + 1)), ⟨rfl, i + 1, Nat.le_refl _, by omega, fun t h3 h4 => by omega, fun u hu hf => ?_, rfl⟩, rfl⟩
        rcases Nat.lt_or_ge u bg with h | h
        · exact q4 u h hf
        · have := hf.2 i (by omega) (by omega); omega
      · rw [if_neg (nI_ge (Nat.not_le.mp c2) (by omega))]
        refine Or.inl ⟨(nI bg, nI (i + 1)), ⟨rfl, bg, by omega, by omega, fun t h3 h4 => ?_, q4, rfl⟩, rfl⟩
        rcases Nat.lt_or_ge t i with h | h
        · exact q3 t h3 h
        · have : t = i := by omega
          rw [this]; omega
  · rintro m ⟨v3, v4⟩ ⟨rfl, bg, q1, q2, q3, q4, rfl⟩
    dsimp only
    rw [f_X5_earliest_L40_s, if_pos (show (1000 : Int32) ≤ nI 1000 from nI_le (a := 1000) (Nat.le_refl _) (by omega))]
    exact fin bg 1000 q1 (Nat.le_refl _) q3 q4 (Or.inr ⟨rfl, q2⟩)
/-- a number from 1 to M -/
theorem rng_cases (p : Int32) (M : Nat) (hM : M < 2 ^ 31) : p < 1 ∨ (¬ p < 1 ∧ ∃ j, 1 ≤ j ∧ j ≤ M ∧ p = nI j) ∨ (¬ p < 1 ∧ ¬ p ≤ nI M) := by
  by_cases h0 : p < 1
  · exact Or.inl h0
  · by_cases h1 : p ≤ nI M
    · have h2 : ¬ p < 0 := fun q => h0 (by rw [fa_lt] at q ⊢; exact Int.lt_trans q (by decide))
      obtain ⟨j, hj, rfl⟩ := nI_of2 (M := nI M) (n := M) (nI_toInt hM) h2 h1
      refine Or.inr (Or.inl ⟨h0, j, ?_, hj, rfl⟩)
      rcases Nat.eq_zero_or_pos j with q | q
      · rw [q] at h0; exact absurd (by decide : nI 0 < 1) h0
      · exact q
    · exact Or.inr (Or.inr ⟨h0, h1⟩)
theorem law_earliest {k : Nat} {p p2 added fac drop th many mfac mdrop : Int32} {ps os as : Int64} {B E W mB mE mW T TO TC : Nat → Int32} {out : Nat → Int64} (hk : 10000 ≤ k) (h : INV added ps fac os as drop B E W many mfac mdrop mB mE mW T TO TC) :
    ∃ (c b2 : Int32) (out' : Nat → Int64), f_L_earliest k p p2 added ps B E out = some (c, out') ∧ f_X5_earliest k p p2 th many mB mE T = some (b2, c) ∧ (c = 0 → out' 0 = b2.toInt64) := by
  obtain ⟨n, b, e, w, P, O, C, fa, dr, hS, hX, hM⟩ := h
  obtain ⟨hG, hC, hO, hf1, hf2⟩ := id hS
  obtain ⟨rfl, x2, x3, x4, x5, x6, x7, x8, x9⟩ := id hX
  obtain ⟨rfl, m2, m3, m4, m5, m6, m7, m8, m9⟩ := id hM
  have hn := hG.1
  have bad1 : p < 1 ∨ (¬ p < 1 ∧ ¬ p ≤ nI 1000) ∨ p2 < 1 ∨ (¬ p2 < 1 ∧ ¬ p2 ≤ nI 40) → ∃ (c b2 : Int32) (out' : Nat → Int64), f_L_earliest k p p2 (nI n) ps B E out = some (c, out') ∧ f_X5_earliest k p p2 th (nI n) mB mE T = some (b2, c) ∧ (c = 0 → out' 0 = b2.toInt64) := by
    intro hb
    refine ⟨1, 0, out, ?_, ?_, fun q => absurd q (by decide)⟩
    · have : f_X4_earliest k p p2 (nI n) ps B E = some (.error "java/lang/IllegalArgumentException") := by
        unfold f_X4_earliest
        by_cases c1 : p < 1
        · rw [if_pos c1]
        · rw [if_neg c1]
          by_cases c2 : p ≤ 1000
          · rw [if_pos c2]
            by_cases c3 : p2 < 1
            · rw [if_pos c3]
            · rw [if_neg c3]
              by_cases c4 : p2 ≤ 40
              · rcases hb with q | ⟨_, q⟩ | q | ⟨_, q⟩
                · exact absurd q c1
                · exact absurd c2 q
                · exact absurd q c3
                · exact absurd c4 q
              · rw [if_neg c4]
          · rw [if_neg c2]
      unfold f_L_earliest
      rw [this, xt_e, if_pos rfl]
    · unfold f_X5_earliest f_X5_in
      simp only [xj_s]
      by_cases c1 : p < 1
      · rw [if_pos c1, xb_s]; simp [goesWell_1, xb_s]
      · rw [if_neg c1]
        by_cases c2 : (1000 : Int32) < p
        · rw [if_pos c2, xb_s]; simp [goesWell_1, xb_s]
        · rw [if_neg c2, xb_s, if_neg (by decide)]
          by_cases c3 : p2 < 1
          · rw [if_pos c3, xb_s]; simp [goesWell_1, xb_s]
          · rw [if_neg c3]
            by_cases c4 : (40 : Int32) < p2
            · rw [if_pos c4, xb_s]; simp [goesWell_1, xb_s]
            · exfalso
              have l1 := (cmp_lit p).2.1
              have l2 := (cmp_lit p2).2.2.2.2
              rcases hb with q | ⟨_, q⟩ | q | ⟨_, q⟩
              · exact c1 q
              · exact c2 (l1.mpr q)
              · exact c3 q
              · exact c4 (l2.mpr q)
  rcases rng_cases p 1000 (by omega) with q | ⟨a1, len, h1, h2, rfl⟩ | q
  · exact bad1 (Or.inl q)
  · rcases rng_cases p2 40 (by omega) with q | ⟨a2, r, h3, h4, rfl⟩ | q
    · exact bad1 (Or.inr (Or.inr (Or.inl q)))
    · obtain ⟨y, hy1, hy2⟩ := X5_earliest_loop (th := 0) hk hG m7 m4 m5 h3 h4 h1 h2
      have hcl : f_X4_earliest k (nI len) (nI r) (nI n) ps B E = some (.ok y) := by
        unfold f_X4_earliest
        rw [if_neg a1, if_pos (show nI len ≤ 1000 from nI_le (b := 1000) h2 (by omega)), if_neg a2, if_pos (show nI r ≤ 40 from nI_le (b := 40) h4 (by omega))]
        rcases X4_fits_eq (s := 0) hk hG x2 x7 x8 h3 h4 h1 h2 (by omega) with ⟨hf, hr⟩ | ⟨hf, hr⟩
        · rw [show (0 : Int32) = nI 0 from rfl, hr, xb_s, if_neg (by decide)]
          have : LFit n b e P len r (nI 0) := Or.inl ⟨0, hf, fun u hu => absurd hu (Nat.not_lt_zero u), rfl⟩
          rw [hy1.one this]
        · rw [show f_X4_fits k 0 (nI len) (nI r) (nI n) ps B E = some 0 from hr, xb_s, if_pos rfl]
          obtain ⟨z, hz1, hz2⟩ := X4_earliestEnd_eq hk hG x2 x7 x8 h3 h4 h1 h2 hf
          rw [hz2, xb_s, hy1.one hz1]
      refine ⟨0, y, vp_updL out (0 : Int32).toNatClampNeg y.toInt64, ?_, ?_, fun _ => rfl⟩
      · unfold f_L_earliest
        rw [hcl, xt_s, xi_0]
      · unfold f_X5_earliest
        have hin1 : f_X5_in k (nI len) 1 1000 = some 1 := by
          have h9 := X5_in_n (k := k) (a := len) (b := 1) (c := 1000) (by omega) (by omega) (by omega)
          rw [if_pos ⟨h1, h2⟩] at h9
          exact h9
        have hin2 : f_X5_in k (nI r) 1 40 = some 1 := by
          have h9 := X5_in_n (k := k) (a := r) (b := 1) (c := 40) (by omega) (by omega) (by omega)
          rw [if_pos ⟨h3, h4⟩] at h9
          exact h9
        rw [hin1, xb_s, xj_s, xj_s, if_neg (by decide), hin2, xb_s, if_neg (by decide)]
        try dsimp only
        rw [goesWell_0, xb_s]
        try dsimp only
        rw [if_neg (by decide)]
        exact hy2
    · exact bad1 (Or.inr (Or.inr (Or.inr q)))
  · exact bad1 (Or.inr (Or.inl q))
