/-! earliest. -/
def fit (n : Nat) (b e : Nat → Nat) (P : Nat → Bool) (len r s : Nat) : Prop := s + len ≤ 1000 ∧ ∀ t, s ≤ t → t < s + len → dep n b e P t < r
theorem fit_iff {n : Nat} {b e : Nat → Nat} {P : Nat → Bool} {len r s : Nat} (hr : 1 ≤ r) (h1 : 1 ≤ len) (hs : s + len ≤ 1000) (hd : dep n b e P s < r) : (∀ i, i < n → s < b i → b i < s + len → dep n b e P (b i) < r) ↔ fit n b e P len r s := by
  constructor
  · intro h
    refine ⟨hs, fun t h2 h3 => ?_⟩
    rcases Nat.lt_or_ge (dep n b e P t) r with h4 | h4
    · exact h4
    · obtain ⟨j, hj, hp, q1, q2, q3, q4⟩ := dep_at (n := n) (b := b) (e := e) (P := P) t (by omega)
      rcases Nat.lt_or_ge s (b j) with h5 | h5
      · have := h j hj h5 (by omega); omega
      · have : dep n b e P t ≤ dep n b e P s := fb_ct_sub fun i hi hq => by
          simp only [Bool.and_eq_true, decide_eq_true_eq] at hq ⊢
          have := q4 i hi hq.1 hq.2.1 hq.2.2
          exact ⟨hq.1, by omega, by omega⟩
        omega
  · intro h i hi h2 h3
    exact h.2 (b i) (by omega) h3
theorem X4_fits_eq {k n s len r : Nat} {x : Int64} {P : Nat → Bool} {B E : Nat → Int32} {b e w : Nat → Nat} (hk : 10000 ≤ k) (hg : GD n b e w) (hx : ST x n P) (hB : AR n B b) (hE : AR n E e) (hr : 1 ≤ r) (hr2 : r ≤ 40) (h1 : 1 ≤ len) (h2 : len ≤ 1000) (hs : s ≤ 1000) :
    (fit n b e P len r s ∧ f_X4_fits k (nI s) (nI len) (nI r) (nI n) x B E = some 1) ∨ (¬ fit n b e P len r s ∧ f_X4_fits k (nI s) (nI len) (nI r) (nI n) x B E = some 0) := by
  have hn := hg.1
  have hdl := dep_le (n := n) (b := b) (e := e) (P := P) s
  have e1 : (1000 : Int32) - nI len = nI (1000 - len) := pk_sub (a := 1000) h2
  unfold f_X4_fits
  rw [e1]
  by_cases c0 : 1000 - len < s
  · rw [if_pos (nI_lt c0 (by omega))]
    exact Or.inr ⟨fun q => by have := q.1; omega, rfl⟩
  rw [if_neg (nI_nlt (Nat.not_lt.mp c0) (by omega)), depthAt_eq (by omega) hg hx hB hE (by omega), xb_s]
  by_cases c1 : dep n b e P s < r
  · rw [if_pos (nI_lt c1 (by omega))]
    have key := loopE (fun m (q : Int32) => f_X4_fits_L23 k (nI s) (nI len) (nI r) (nI n) x B E (fun (v4_12 : Int32) => some 1) m q)
      (fun res => ((∀ i, i < n → s < b i → b i < s + len → dep n b e P (b i) < r) ∧ res = some 1) ∨ ((∃ i, i < n ∧ s < b i ∧ b i < s + len ∧ r ≤ dep n b e P (b i)) ∧ res = some 0)) n
      (fun i q => q = nI i ∧ ∀ j, j < i → s < b j → b j < s + len → dep n b e P (b j) < r) ?_ ?_ k 0 (by omega) ⟨rfl, fun j h => absurd h (Nat.not_lt_zero j)⟩
    · rcases key with ⟨h3, h4⟩ | ⟨⟨i, hi, q1, q2, q3⟩, h4⟩
      · exact Or.inl ⟨(fit_iff hr h1 (by omega) c1).mp h3, h4⟩
      · exact Or.inr ⟨fun hf => by have := hf.2 (b i) (by omega) q2; omega, h4⟩
    · rintro m i q hi ⟨rfl, hI⟩
      have hgi := hg.2 i hi
      have hdi := dep_le (n := n) (b := b) (e := e) (P := P) (b i)
      try dsimp only
      rw [f_X4_fits_L23_s, if_neg (nI_ge hi (by omega)), xi_nI (by omega) (by omega), nI_clamp (by omega), hB i hi, nI_1, nI_add]
      by_cases c2 : b i ≤ s
      · rw [if_pos (nI_le c2 (by omega))]
        refine Or.inl ⟨nI (i + 1), ⟨rfl, fun j hj q1 q2 => ?_⟩, rfl⟩
        rcases Nat.lt_or_ge j i with h | h
        · exact hI j h q1 q2
        · have : j = i := by omega
          subst this; omega
      · rw [if_neg (nI_ge (Nat.not_le.mp c2) (by omega))]
        by_cases c3 : s + len ≤ b i
        · rw [if_pos (nI_le c3 (by omega))]
          refine Or.inl ⟨nI (i + 1), ⟨rfl, fun j hj q1 q2 => ?_⟩, rfl⟩
          rcases Nat.lt_or_ge j i with h | h
          · exact hI j h q1 q2
          · have : j = i := by omega
            subst this; omega
        · rw [if_neg (nI_ge (Nat.not_le.mp c3) (by omega)), depthAt_eq (by omega) hg hx hB hE (by omega), xb_s]
          by_cases c4 : dep n b e P (b i) < r
          · rw [if_pos (nI_lt c4 (by omega))]
            refine Or.inl ⟨nI (i + 1), ⟨rfl, fun j hj q1 q2 => ?_⟩, rfl⟩
            rcases Nat.lt_or_ge j i with h | h
            · exact hI j h q1 q2
            · have : j = i := by omega
              subst this; exact c4
          · rw [if_neg (nI_nlt (Nat.not_lt.mp c4) (by omega))]
            exact Or.inr (Or.inr ⟨⟨i, hi, by omega, by omega, by omega⟩, rfl⟩)
    · rintro m q ⟨rfl, hI⟩
      try dsimp only
      rw [f_X4_fits_L23_s, if_pos (nI_le (Nat.le_refl _) (by omega))]
      exact Or.inl ⟨hI, rfl⟩
  · rw [if_neg (nI_nlt (Nat.not_lt.mp c1) (by omega))]
    exact Or.inr ⟨fun q => by have := q.2 s (Nat.le_refl _) (by omega); omega, rfl⟩
/-- the least time that fits, or -1 -/
def LFit (n : Nat) (b e : Nat → Nat) (P : Nat → Bool) (len r : Nat) (x : Int32) : Prop := (∃ s, fit n b e P len r s ∧ (∀ u, u < s → ¬ fit n b e P len r u) ∧ x = nI s) ∨ ((∀ u, ¬ fit n b e P len r u) ∧ x = -1)
theorem LFit.one {n : Nat} {b e : Nat → Nat} {P : Nat → Bool} {len r : Nat} {x y : Int32} (h1 : LFit n b e P len r x) (h2 : LFit n b e P len r y) : x = y := by
  rcases h1 with ⟨s, q1, q2, rfl⟩ | ⟨q1, rfl⟩
  · rcases h2 with ⟨t, p1, p2, rfl⟩ | ⟨p1, rfl⟩
    · rcases Nat.lt_trichotomy s t with h | h | h
      · exact absurd q1 (p2 s h)
      · rw [h]
      · exact absurd p1 (q2 t h)
    · exact absurd q1 (p1 s)
  · rcases h2 with ⟨t, p1, p2, rfl⟩ | ⟨p1, rfl⟩
    · exact absurd p1 (q1 t)
    · rfl
/-- above 0 a least fit is an end -/
theorem fit_end {n : Nat} {b e : Nat → Nat} {P : Nat → Bool} {len r s : Nat} (h1 : 1 ≤ len) (hf : fit n b e P len r s) (h0 : 0 < s) (hm : ¬ fit n b e P len r (s - 1)) : ∃ i, i < n ∧ P i = true ∧ e i = s := by
  have hlt : dep n b e P s < dep n b e P (s - 1) := by
    have h2 := hf.2 s (Nat.le_refl _) (by omega)
    rcases Nat.lt_or_ge (dep n b e P (s - 1)) r with h3 | h3
    · exfalso
      refine hm ⟨by have := hf.1; omega, fun t q1 q2 => ?_⟩
      rcases Nat.lt_or_ge t s with h4 | h4
      · have : t = s - 1 := by omega
        rw [this]; exact h3
      · exact hf.2 t h4 (by omega)
    · omega
  rcases Classical.em (∃ i, i < n ∧ P i = true ∧ e i = s) with h | h
  · exact h
  · exfalso
    have : dep n b e P (s - 1) ≤ dep n b e P s := fb_ct_sub fun i hi hq => by
      simp only [Bool.and_eq_true, decide_eq_true_eq] at hq ⊢
      have : e i ≠ s := fun q => h ⟨i, hi, hq.1, q⟩
      exact ⟨hq.1, by omega, by omega⟩
    omega
theorem X4_earliestEnd_eq {k n len r : Nat} {x : Int64} {P : Nat → Bool} {B E : Nat → Int32} {b e w : Nat → Nat} (hk : 10000 ≤ k) (hg : GD n b e w) (hx : ST x n P) (hB : AR n B b) (hE : AR n E e) (hr : 1 ≤ r) (hr2 : r ≤ 40) (h1 : 1 ≤ len) (h2 : len ≤ 1000) (h0 : ¬ fit n b e P len r 0) :
    ∃ y, LFit n b e P len r y ∧ f_X4_earliestEndThatFits k (nI len) (nI r) (nI n) x B E = some y := by
  have hn := hg.1
  have key := loopE (fun m (q : Int32 × Int32) => f_X4_earliestEndThatFits_L5 k (nI len) (nI r) (nI n) x B E (fun (v3_12 : Int32) (v4_13 : Int32) => some v3_12) m q.1 q.2)
    (fun res => ((∀ j, j < n → P j = true → ¬ fit n b e P len r (e j)) ∧ res = some (-1)) ∨ ∃ j, j < n ∧ P j = true ∧ fit n b e P len r (e j) ∧ (∀ i, i < n → P i = true → fit n b e P len r (e i) → e j ≤ e i) ∧ res = some (nI (e j))) n
    (fun i q => q.2 = nI i ∧ (((∀ j, j < i → P j = true → ¬ fit n b e P len r (e j)) ∧ q.1 = -1) ∨ ∃ j, j < i ∧ P j = true ∧ fit n b e P len r (e j) ∧ (∀ u, u < i → P u = true → fit n b e P len r (e u) → e j ≤ e u) ∧ q.1 = nI (e j)))
    ?_ ?_ k (-1, 0) (by omega) ⟨rfl, Or.inl ⟨fun j h => absurd h (Nat.not_lt_zero j), rfl⟩⟩
  · unfold f_X4_earliestEndThatFits
    rcases key with ⟨h3, h4⟩ | ⟨j, hj, hp, hf, hm, h4⟩
    · refine ⟨-1, Or.inr ⟨fun u hu => ?_, rfl⟩, h4⟩
      obtain ⟨s, hs1, hs2⟩ := pk_least (fun s => fit n b e P len r s) ⟨u, hu⟩
      have hs0 : 0 < s := by
        rcases Nat.eq_zero_or_pos s with q | q
        · rw [q] at hs1; exact absurd hs1 h0
        · exact q
      obtain ⟨i, hi, hpi, hei⟩ := fit_end h1 hs1 hs0 (hs2 (s - 1) (by omega))
      exact h3 i hi hpi (by rw [hei]; exact hs1)
    · refine ⟨nI (e j), Or.inl ⟨e j, hf, fun u hu hfu => ?_, rfl⟩, h4⟩
      obtain ⟨s, hs1, hs2⟩ := pk_least (fun s => fit n b e P len r s) ⟨u, hfu⟩
      have hsu : s ≤ u := by
        rcases Nat.lt_or_ge u s with q | q
        · exact absurd hfu (hs2 u q)
        · exact q
      have hs0 : 0 < s := by
        rcases Nat.eq_zero_or_pos s with q | q
        · rw [q] at hs1; exact absurd hs1 h0
        · exact q
      obtain ⟨i, hi, hpi, hei⟩ := fit_end h1 hs1 hs0 (hs2 (s - 1) (by omega))
      have := hm i hi hpi (by rw [hei]; exact hs1)
      omega
  · rintro m i ⟨v3, v4⟩ hi ⟨rfl, hI⟩
    refine Or.inl ?_
    dsimp only at hI ⊢
    have hgi := hg.2 i hi
    rw [f_X4_earliestEndThatFits_L5_s, if_neg (nI_ge hi (by omega)), xi_nI (by omega) (by omega), nI_clamp (by omega), contains_st k hx hi hn, xb_s, hE i hi, nI_1]
    have keep : P i = false ∨ ¬ fit n b e P len r (e i) → ∃ s' : Int32 × Int32, (s'.2 = nI (i + 1) ∧ (((∀ j, j < i + 1 → P j = true → ¬ fit n b e P len r (e j)) ∧ s'.1 = -1) ∨ ∃ j, j < i + 1 ∧ P j = true ∧ fit n b e P len r (e j) ∧ (∀ u, u < i + 1 → P u = true → fit n b e P len r (e u) → e j ≤ e u) ∧ s'.1 = nI (e j))) ∧ s' = (v3, nI (i + 1)) := by
      intro hno
      refine ⟨(v3, nI (i + 1)), ⟨rfl, ?_⟩, rfl⟩
      rcases hI with ⟨h3, rfl⟩ | ⟨j, hj, hp, hf, hm, rfl⟩
      · refine Or.inl ⟨fun j hj hp => ?_, rfl⟩
        rcases Nat.lt_or_ge j i with h | h
        · exact h3 j h hp
        · have : j = i := by omega
          subst this
          rcases hno with q | q
          · rw [q] at hp; cases hp
          · exact q
      · refine Or.inr ⟨j, by omega, hp, hf, fun u hu hpu hfu => ?_, rfl⟩
        rcases Nat.lt_or_ge u i with h | h
        · exact hm u h hpu hfu
        · have : u = i := by omega
          subst this
          rcases hno with q | q
          · rw [q] at hpu; cases hpu
          · exact absurd hfu q
    by_cases hp : P i = true
    · rw [if_neg (by rw [if_pos hp]; decide), xj_s]
      rcases X4_fits_eq hk hg hx hB hE hr hr2 h1 h2 (show e i ≤ 1000 by omega) with ⟨hf, hr3⟩ | ⟨hf, hr3⟩
      · rcases hI with ⟨h3, rfl⟩ | ⟨j, hj, hpj, hfj, hm, rfl⟩
        · refine ⟨(nI (e i), nI (i + 1)), ⟨rfl, Or.inr ⟨i, by omega, hp, hf, fun u hu hpu hfu => ?_, rfl⟩⟩, ?_⟩
          · rcases Nat.lt_or_ge u i with h | h
            · exact absurd hfu (h3 u h hpu)
            · have : u = i := by omega
              rw [this]; exact Nat.le_refl _
          · rw [if_pos rfl, hr3, xb_s, if_neg (by decide)]
        · have hgj := hg.2 j (by omega)
          rw [if_neg (fun q => by rw [fa_eq, nI_toInt (by omega)] at q; exact absurd q (by show ¬ (e j : Int) = -1; omega))]
          by_cases c : e j ≤ e i
          · rw [if_pos (nI_le c (by omega))]
            refine ⟨(nI (e j), nI (i + 1)), ⟨rfl, Or.inr ⟨j, by omega, hpj, hfj, fun u hu hpu hfu => ?_, rfl⟩⟩, rfl⟩
            rcases Nat.lt_or_ge u i with h | h
            · exact hm u h hpu hfu
            · have : u = i := by omega
              rw [this]; exact c
          · rw [if_neg (nI_ge (Nat.not_le.mp c) (by omega)), hr3, xb_s, if_neg (by decide)]
            refine ⟨(nI (e i), nI (i + 1)), ⟨rfl, Or.inr ⟨i, by omega, hp, hf, fun u hu hpu hfu => ?_, rfl⟩⟩, rfl⟩
            rcases Nat.lt_or_ge u i with h | h
            · have := hm u h hpu hfu; omega
            · have : u = i := by omega
              rw [this]; exact Nat.le_refl _
      · obtain ⟨s', hs1, hs2⟩ := keep (Or.inr hf)
        refine ⟨s', hs1, ?_⟩
        rw [hs2, hr3, xb_s, if_pos rfl]
        by_cases c : v3 = -1
        · rw [if_pos c]
        · rw [if_neg c]
          by_cases c2 : v3 ≤ nI (e i)
          · rw [if_pos c2]
          · rw [if_neg c2]
    · obtain ⟨s', hs1, hs2⟩ := keep (Or.inl (by simpa using hp))
      refine ⟨s', hs1, ?_⟩
      rw [hs2, if_pos (by rw [if_neg hp])]
  · rintro m ⟨v3, v4⟩ ⟨rfl, hI⟩
    dsimp only at hI ⊢
    rw [f_X4_earliestEndThatFits_L5_s, if_pos (nI_le (Nat.le_refl _) (by omega))]
    rcases hI with ⟨h3, rfl⟩ | ⟨j, hj, hpj, hfj, hm, rfl⟩
    · exact Or.inl ⟨h3, rfl⟩
    · exact Or.inr ⟨j, hj, hpj, hfj, hm, rfl⟩
/-- a number from 1 to M -/
theorem rng_cases (p : Int32) (M : Nat) (hM : M < 2 ^ 31) : p < 1 ∨ (¬ p < 1 ∧ ∃ j, 1 ≤ j ∧ j ≤ M ∧ p = nI j) ∨ (¬ p < 1 ∧ ¬ p ≤ nI M) := by
  by_cases h0 : p < 1
  · exact Or.inl h0
  · by_cases h1 : p ≤ nI M
    · have h2 : ¬ p < 0 := fun q => h0 (by rw [fa_lt] at q ⊢; exact Int.lt_trans q (by decide))
      obtain ⟨j, hj, rfl⟩ := nI_of2 (M := nI M) (n := M) (nI_toInt hM) h2 h1
      refine Or.inr (Or.inl ⟨h0, j, ?_, hj, rfl⟩)
      rcases Nat.eq_zero_or_pos j with q | q
      · rw [q] at h0; exact absurd (by decide : nI 0 < 1) h0
      · exact q
    · exact Or.inr (Or.inr ⟨h0, h1⟩)
