/-! Several rooms: the model's search. -/
section FD
variable {k n N : Nat} {C : Nat → Bool} {p q w : Nat → Nat} {U : Nat → Bool} {fl D d : Nat → Nat} {RE : Nat → Bool} {par : Nat → Nat × Nat} {B E W Cn Pt Fl Us Ga Wy : Nat → Int32}
def SRM (N n : Nat) (C : Nat → Bool) (p q w : Nat → Nat) (U : Nat → Bool) (fl D : Nat → Nat) (RE : Nat → Bool) (d : Nat → Nat) (par : Nat → Nat × Nat) (Ga Wy : Nat → Int32) : Prop := BFI N n C p q w U fl D RE d par ∧ (∀ x, x ≤ N → Ga x = if RE x = true then nI (d x) else -100000000) ∧ ∀ x, x ≤ N → x ≠ 0 → RE x = true → Wy x = nI (100 * (par x).1 + (par x).2)
theorem big_lt {a : Nat} (h : a < 2 ^ 31) : (-100000000 : Int32) < nI a := by
  rw [fa_lt, nI_toInt h]
  show (-100000000 : Int) < _
  omega
theorem big_ne {a : Nat} (h : a < 2 ^ 31) : ¬ nI a = (-100000000 : Int32) := by
  intro q
  have := big_lt h
  rw [q] at this
  exact absurd this (by decide)
theorem steps_eq {c i u v gp gm : Nat} {val wy : Int32} (hN : N < 80) (hk : NOK N n C p q w) (hD : VP N n C p q w U fl D) (hD0 : D 0 = 0) (hDl : ∀ v, v ≤ N → D v ≤ 6642000) (hS : SRM N n C p q w U fl D RE d par Ga Wy) (hA : ARC N n C p q w U fl c i u v gp gm) (hval : (gm = 0 ∧ gp ≤ 1000 ∧ val = nI gp) ∨ (gp = 0 ∧ gm ≤ 1000 ∧ val = -(nI gm) ∧ RE v = true)) (hwy : wy = nI (100 * c + i)) :
    ∃ r Ga' Wy' RE' d' par', SRM N n C p q w U fl D RE' d' par' Ga' Wy' ∧ (∀ x, x ≤ N → RE x = true → RE' x = true ∧ d x ≤ d' x) ∧ (RE u = true → RE' v = true ∧ d u + gp ≤ d' v + gm) ∧ ((r = 0 ∧ RE' = RE ∧ d' = d) ∨ (r = 1 ∧ ∃ x, x ≤ N ∧ RE' x = true ∧ (RE x = false ∨ d x < d' x))) ∧ f_X5_steps k (nI u) (nI v) val wy Ga Wy = some (r, Ga', Wy') := by
  have hl := hA.le hk
  obtain ⟨s1, s2, s3⟩ := id hS
  unfold f_X5_steps
  rw [xi_nI (by omega) (by omega), nI_clamp (by omega), s2 u hl.1]
  by_cases hu : RE u = true
  · have hdu := s1.2.2.1 u hl.1 hu
    have hDu := hDl u hl.1
    rw [if_pos hu, if_neg (big_ne (by omega)), xi_nI (by omega) (by omega), xi_nI (by omega) (by omega), nI_clamp (by omega), s2 v hl.2.1]
    have upd_case : ((RE v = false ∧ gm = 0) ∨ (RE v = true ∧ d v + gm < d u + gp)) → nI (d u) + val = nI (d u + gp - gm) → ∃ r Ga' Wy' RE' d' par', SRM N n C p q w U fl D RE' d' par' Ga' Wy' ∧ (∀ x, x ≤ N → RE x = true → RE' x = true ∧ d x ≤ d' x) ∧ (RE u = true → RE' v = true ∧ d u + gp ≤ d' v + gm) ∧ ((r = 0 ∧ RE' = RE ∧ d' = d) ∨ (r = 1 ∧ ∃ x, x ≤ N ∧ RE' x = true ∧ (RE x = false ∨ d x < d' x))) ∧ some ((1 : Int32), upd Ga v (nI (d u) + val), upd Wy v wy) = some (r, Ga', Wy') := by
      intro hlt hv
      obtain ⟨r1, r2, r3⟩ := s1.relax hk hD hD0 hA hu hlt
      refine ⟨1, _, _, fs RE v true, fs d v (d u + gp - gm), fs par v (c, i), ⟨r1, fun x hx => ?_, fun x hx hx0 hr => ?_⟩, fun x hx hr => ?_, fun _ => ⟨fs_at _ _ _, ?_⟩, Or.inr ⟨rfl, v, hl.2.1, fs_at _ _ _, ?_⟩, rfl⟩
      · unfold upd
        by_cases c1 : x = v
        · rw [if_pos c1, c1, fs_at, fs_at, if_pos rfl, hv]
        · rw [if_neg c1, fs_ne _ _ c1, fs_ne _ _ c1]; exact s2 x hx
      · unfold upd
        by_cases c1 : x = v
        · rw [if_pos c1, c1, fs_at]; exact hwy
        · rw [if_neg c1, fs_ne _ _ c1]
          rw [fs_ne _ _ c1] at hr
          exact s3 x hx hx0 hr
      · by_cases c1 : x = v
        · rw [c1, fs_at, fs_at]
          rw [c1] at hr
          exact ⟨rfl, Nat.le_of_lt (r3 hr)⟩
        · rw [fs_ne _ _ c1, fs_ne _ _ c1]; exact ⟨hr, Nat.le_refl _⟩
      · rw [fs_at]; omega
      · rw [fs_at]
        rcases hlt with ⟨h, -⟩ | ⟨h, -⟩
        · exact Or.inl h
        · exact Or.inr (r3 h)
    have stay : RE v = true → d u + gp ≤ d v + gm → ∃ r Ga' Wy' RE' d' par', SRM N n C p q w U fl D RE' d' par' Ga' Wy' ∧ (∀ x, x ≤ N → RE x = true → RE' x = true ∧ d x ≤ d' x) ∧ (RE u = true → RE' v = true ∧ d u + gp ≤ d' v + gm) ∧ ((r = 0 ∧ RE' = RE ∧ d' = d) ∨ (r = 1 ∧ ∃ x, x ≤ N ∧ RE' x = true ∧ (RE x = false ∨ d x < d' x))) ∧ some ((0 : Int32), Ga, Wy) = some (r, Ga', Wy') := fun h1 h2 => ⟨0, Ga, Wy, RE, d, par, hS, fun x _ hr => ⟨hr, Nat.le_refl _⟩, fun _ => ⟨h1, h2⟩, Or.inl ⟨rfl, rfl, rfl⟩, rfl⟩
    by_cases hv : RE v = true
    · have hdv := s1.2.2.1 v hl.2.1 hv
      have hDv := hDl v hl.2.1
      rw [if_pos hv]
      have hlt : nI (d v) < nI (d u) + val ↔ d v + gm < d u + gp := by
        rcases hval with ⟨h1, h2, h3⟩ | ⟨h1, h2, h3, -⟩
        · rw [h3, nI_add, nI_ltI (by omega) (by omega)]; omega
        · rw [h3, ← Int32.sub_eq_add_neg, lt_sub (by omega) (by omega) (by omega)]; omega
      by_cases c1 : d v + gm < d u + gp
      · rw [if_pos (hlt.mpr c1), xi_nI (by omega) (by omega), xi_nI (by omega) (by omega), xi_nI (by omega) (by omega)]
        refine upd_case (Or.inr ⟨hv, c1⟩) ?_
        rcases hval with ⟨h1, h2, h3⟩ | ⟨h1, h2, h3, -⟩
        · rw [h3, nI_add, h1]; rfl
        · rw [h3, ← Int32.sub_eq_add_neg, pk_sub (by omega), h1]; rfl
      · rw [if_neg (fun h => c1 (hlt.mp h))]
        exact stay hv (by omega)
    · rcases hval with ⟨h1, h2, h3⟩ | ⟨-, -, -, h4⟩
      · rw [if_neg hv, h3, nI_add, if_pos (big_lt (by omega)), xi_nI (by omega) (by omega), xi_nI (by omega) (by omega), xi_nI (by omega) (by omega), ← nI_add, ← h3]
        refine upd_case (Or.inl ⟨by simpa using hv, h1⟩) ?_
        rw [h3, nI_add, h1]; rfl
      · exact absurd h4 hv
  · rw [if_neg hu, if_pos rfl]
    exact ⟨0, Ga, Wy, RE, d, par, hS, fun x _ hr => ⟨hr, Nat.le_refl _⟩, fun h => absurd h hu, Or.inl ⟨rfl, rfl, rfl⟩, rfl⟩
def RND (N : Nat) (RE0 : Nat → Bool) (d0 : Nat → Nat) (RE : Nat → Bool) (d : Nat → Nat) (fg : Int32) : Prop := (∀ x, x ≤ N → RE0 x = true → RE x = true ∧ d0 x ≤ d x) ∧ ((fg = 0 ∧ RE = RE0 ∧ d = d0) ∨ (fg = 1 ∧ ∃ x, x ≤ N ∧ RE x = true ∧ (RE0 x = false ∨ d0 x < d x)))
theorem RND.step {RE0 RE RE' : Nat → Bool} {d0 d d' : Nat → Nat} {fg r : Int32} (h : RND N RE0 d0 RE d fg) (h1 : ∀ x, x ≤ N → RE x = true → RE' x = true ∧ d x ≤ d' x) (h2 : (r = 0 ∧ RE' = RE ∧ d' = d) ∨ (r = 1 ∧ ∃ x, x ≤ N ∧ RE' x = true ∧ (RE x = false ∨ d x < d' x))) : RND N RE0 d0 RE' d' (if r = 0 then fg else 1) := by
  obtain ⟨a1, a2⟩ := h
  refine ⟨fun x hx h0 => ?_, ?_⟩
  · obtain ⟨b1, b2⟩ := a1 x hx h0
    obtain ⟨b3, b4⟩ := h1 x hx b1
    exact ⟨b3, by omega⟩
  · rcases h2 with ⟨rfl, rfl, rfl⟩ | ⟨rfl, x, hx, hr, hs⟩
    · rw [if_pos rfl]; exact a2
    · rw [if_neg (by decide)]
      refine Or.inr ⟨rfl, x, hx, hr, ?_⟩
      cases h0 : RE0 x with
      | false => exact Or.inl rfl
      | true =>
        obtain ⟨b1, b2⟩ := a1 x hx h0
        rcases hs with h9 | h9
        · rw [b1] at h9; cases h9
        · exact Or.inr (by omega)
theorem RND.flg {RE0 RE : Nat → Bool} {d0 d : Nat → Nat} {fg : Int32} (h : RND N RE0 d0 RE d fg) : fg = 0 ∨ fg = 1 := by
  rcases h.2 with ⟨h, -⟩ | ⟨h, -⟩
  · exact Or.inl h
  · exact Or.inr h
theorem xj_fl {β : Type} {fg r : Int32} {Z : Int32 → β} (h : fg = 0 ∨ fg = 1) : xj Z (fun (j74 : Int32 → β) => xj (fun (_ : Unit) => j74 1) (fun (j69 : Unit → β) => if r = 0 then if fg = 0 then j74 0 else j69 () else j69 ())) = Z (if r = 0 then fg else 1) := by
  rw [xj_s, xj_s]
  by_cases c : r = 0
  · rw [if_pos c, if_pos c]
    rcases h with rfl | rfl
    · rw [if_pos rfl]
    · rw [if_neg (by decide)]
  · rw [if_neg c, if_neg c]
theorem fl_one {β : Type} {fg : Int32} (h : fg = 0 ∨ fg = 1) (X : Int32 → β) : (if fg = 0 then X 0 else X 1) = X fg := by
  rcases h with rfl | rfl
  · exact if_pos rfl
  · exact if_neg (by decide)
theorem find_L42 {Qp : Option ((Nat → Int32) × (Nat → Int32)) → Prop} {κ : Int32 → Int32 → (Nat → Int32) → (Nat → Int32) → Option ((Nat → Int32) × (Nat → Int32))} (hk9 : 10000 ≤ k) (hN : N < 80) (hk : NOK N n C p q w) (hD : VP N n C p q w U fl D) (hD0 : D 0 = 0) (hDl : ∀ v, v ≤ N → D v ≤ 6642000) (hS : SRM N n C p q w U fl D RE d par Ga Wy) (hF : AR N Fl fl) (hfl : ∀ v, v < N → fl v ≤ 100)
    (hQ : ∀ fg y G Y RE' d' par', SRM N n C p q w U fl D RE' d' par' G Y → RND N RE d RE' d' fg → (∀ x, x ≤ N → RE' x = true) → (∀ c i u v gp gm, ARC N n C p q w U fl c i u v gp gm → c ≤ 1 → RE u = true → d u + gp ≤ d' v + gm) → Qp (κ fg y G Y)) : Qp (f_X5_find_L42 k (nI (N + 1)) Fl κ k 0 0 Ga Wy) := by
  refine loopE (fun f (s : Int32 × Int32 × (Nat → Int32) × (Nat → Int32)) => f_X5_find_L42 k (nI (N + 1)) Fl κ f s.1 s.2.1 s.2.2.1 s.2.2.2) Qp N
    (fun a s => s.2.1 = nI a ∧ ∃ RE' d' par', SRM N n C p q w U fl D RE' d' par' s.2.2.1 s.2.2.2 ∧ RND N RE d RE' d' s.1 ∧ (∀ x, x ≤ a → RE' x = true) ∧ ∀ c i u v gp gm, ARC N n C p q w U fl c i u v gp gm → c ≤ 1 → i < a → RE u = true → d u + gp ≤ d' v + gm)
    ?_ ?_ k (0, 0, Ga, Wy) (by omega) ⟨rfl, RE, d, par, hS, ⟨fun x _ h => ⟨h, Nat.le_refl _⟩, Or.inl ⟨rfl, rfl, rfl⟩⟩, fun x hx => by rw [Nat.le_zero.mp hx]; exact hS.1.1, fun _ _ _ _ _ _ _ _ h => absurd h (Nat.not_lt_zero _)⟩
  · rintro f a ⟨y, x, G, Y⟩ ha ⟨rfl, RE1, d1, par1, i1, i2, i3, i4⟩
    refine Or.inl ?_
    try dsimp only at i1 i2 ⊢
    have hA0 : ARC N n C p q w U fl 0 a a (a + 1) 0 0 := Or.inl ⟨rfl, rfl, rfl, ha, rfl, rfl⟩
    obtain ⟨r, G2, Y2, RE2, d2, par2, j1, j2, j3, j4, j5⟩ := steps_eq (k := k) (val := 0) (wy := nI a) hN hk hD hD0 hDl i1 hA0 (Or.inl ⟨rfl, by omega, rfl⟩) (by rw [Nat.mul_zero, Nat.zero_add])
    have k2 := i2.step j2 j4
    rw [f_X5_find_L42_s, nI_1, if_neg (nI_ge (by omega) (by omega)), j5, xb_s]
    try dsimp only
    rw [xj_fl i2.flg, xi_nI (by omega) (by omega), nI_clamp (by omega), hF a ha]
    have fin : ∀ fg G3 Y3 RE3 d3 par3, SRM N n C p q w U fl D RE3 d3 par3 G3 Y3 → RND N RE d RE3 d3 fg → (∀ x, x ≤ N → RE2 x = true → RE3 x = true ∧ d2 x ≤ d3 x) → (0 < fl a → RE (a + 1) = true → d (a + 1) ≤ d3 a) → ∃ s' : Int32 × Int32 × (Nat → Int32) × (Nat → Int32), (s'.2.1 = nI (a + 1) ∧ ∃ RE' d' par', SRM N n C p q w U fl D RE' d' par' s'.2.2.1 s'.2.2.2 ∧ RND N RE d RE' d' s'.1 ∧ (∀ x, x ≤ a + 1 → RE' x = true) ∧ ∀ c i u v gp gm, ARC N n C p q w U fl c i u v gp gm → c ≤ 1 → i < a + 1 → RE u = true → d u + gp ≤ d' v + gm) ∧ f_X5_find_L42 k (nI (N + 1)) Fl κ f fg (nI (a + 1)) G3 Y3 = f_X5_find_L42 k (nI (N + 1)) Fl κ f s'.1 s'.2.1 s'.2.2.1 s'.2.2.2 := by
      intro fg G3 Y3 RE3 d3 par3 m1 m2 m3 m4
      have hra := j3 (i3 a (Nat.le_refl _))
      refine ⟨(fg, nI (a + 1), G3, Y3), ⟨rfl, RE3, d3, par3, m1, m2, fun x hx => ?_, fun c i u v gp gm hA hc hi hu => ?_⟩, rfl⟩
      · by_cases c1 : x = a + 1
        · rw [c1]; exact (m3 _ (by omega) hra.1).1
        · exact (m3 x (by omega) (j2 x (by omega) (i3 x (by omega))).1).1
      · have hl := hA.le hk
        rcases Nat.lt_or_ge i a with h9 | h9
        · have h5 := i4 c i u v gp gm hA hc h9 hu
          have hv1 : RE1 v = true := by
            rcases hA with ⟨-, b1, b2, b3, b4, b5⟩ | ⟨-, b1, b2, b3, b4, b5, b6⟩ | ⟨b0, -⟩ | ⟨b0, -⟩
            · exact i3 v (by omega)
            · exact i3 v (by omega)
            · omega
            · omega
          obtain ⟨b1, b2⟩ := j2 v hl.2.1 hv1
          have := (m3 v hl.2.1 b1).2
          omega
        · have hia : i = a := by omega
          subst hia
          rcases hA with ⟨-, b1, b2, b3, b4, b5⟩ | ⟨-, b1, b2, b3, b4, b5, b6⟩ | ⟨b0, -⟩ | ⟨b0, -⟩
          · subst b1 b2 b4 b5
            have h6 := (i2.1 u hl.1 hu).2
            have h7 := (m3 (u + 1) (by omega) hra.1).2
            have h8 := hra.2
            omega
          · subst b1 b2 b5 b6
            exact m4 b4 hu
          · omega
          · omega
    by_cases c0 : fl a = 0
    · rw [xj_s, if_pos (by rw [c0]; decide)]
      try dsimp only
      rw [fl_one k2.flg (fun y => f_X5_find_L42 k (nI (N + 1)) Fl κ f y (nI (a + 1)) G2 Y2)]
      exact fin _ G2 Y2 RE2 d2 par2 j1 k2 (fun x _ h => ⟨h, Nat.le_refl _⟩) (fun h => by omega)
    · have hA1 : ARC N n C p q w U fl 1 a (a + 1) a 0 0 := Or.inr (Or.inl ⟨rfl, rfl, rfl, ha, by omega, rfl, rfl⟩)
      obtain ⟨r3, G3, Y3, RE3, d3, par3, l1, l2, l3, l4, l5⟩ := steps_eq (k := k) (val := 0) (wy := 100 + nI a) hN hk hD hD0 hDl j1 hA1 (Or.inl ⟨rfl, by omega, rfl⟩) (by rw [Nat.mul_one, ← nI_add]; rfl)
      have k3 := k2.step l2 l4
      have h9 : 0 < fl a → RE (a + 1) = true → d (a + 1) ≤ d3 a := fun _ hu => by
        obtain ⟨b1, b2⟩ := i2.1 (a + 1) (by omega) hu
        obtain ⟨b3, b4⟩ := j2 (a + 1) (by omega) b1
        have := (l3 b3).2
        omega
      rw [xj_s, if_neg (nI_nle (by omega) (by have := hfl a ha; omega)), l5, xb_s]
      try dsimp only
      by_cases cr : r3 = 0
      · rw [if_pos cr] at k3 ⊢
        rw [fl_one k2.flg (fun y => f_X5_find_L42 k (nI (N + 1)) Fl κ f y (nI (a + 1)) G3 Y3)]
        exact fin _ G3 Y3 RE3 d3 par3 l1 k3 l2 h9
      · rw [if_neg cr] at k3 ⊢
        exact fin _ G3 Y3 RE3 d3 par3 l1 k3 l2 h9
  · rintro f ⟨y, x, G, Y⟩ ⟨rfl, RE1, d1, par1, i1, i2, i3, i4⟩
    try dsimp only
    rw [f_X5_find_L42_s, nI_1, if_pos (nI_le (Nat.le_refl _) (by omega))]
    refine hQ y _ G Y RE1 d1 par1 i1 i2 i3 fun c i u v gp gm hA hc hu => i4 c i u v gp gm hA hc ?_ hu
    rcases hA with ⟨-, b1, b2, b3, b4, b5⟩ | ⟨-, b1, b2, b3, b4, b5, b6⟩ | ⟨b0, -⟩ | ⟨b0, -⟩
    · exact b3
    · exact b3
    · omega
    · omega
theorem find_L118 {RE0 : Nat → Bool} {d0 : Nat → Nat} {b e : Nat → Nat} {fg0 : Int32} {Qp : Option ((Nat → Int32) × (Nat → Int32)) → Prop} {κ : Int32 → Int32 → (Nat → Int32) → (Nat → Int32) → Option ((Nat → Int32) × (Nat → Int32))} (hk9 : 10000 ≤ k) (hn : n ≤ 40) (hN : N < 80) (hk : NOK N n C p q w) (hD : VP N n C p q w U fl D) (hD0 : D 0 = 0) (hDl : ∀ v, v ≤ N → D v ≤ 6642000) (hS : SRM N n C p q w U fl D RE d par Ga Wy) (hB : AR n B b) (hE : AR n E e) (hW : AR n W w) (hC : BZ n Cn C) (hU : BZ n Us U) (hpo : ∀ j, j < n → C j = true → f_X5_pointOf k (nI (b j)) Pt = some (nI (p j)) ∧ f_X5_pointOf k (nI (e j)) Pt = some (nI (q j)))
    (hR : RND N RE0 d0 RE d fg0) (hall : ∀ x, x ≤ N → RE x = true) (harc : ∀ c i u v gp gm, ARC N n C p q w U fl c i u v gp gm → c ≤ 1 → RE0 u = true → d0 u + gp ≤ d v + gm)
    (hQ : ∀ fg y G Y RE' d' par', SRM N n C p q w U fl D RE' d' par' G Y → RND N RE0 d0 RE' d' fg → (∀ x, x ≤ N → RE' x = true) → (∀ c i u v gp gm, ARC N n C p q w U fl c i u v gp gm → RE0 u = true → d0 u + gp ≤ d' v + gm) → Qp (κ fg y G Y)) : Qp (f_X5_find_L118 k (nI n) B E W Cn Pt Us κ k fg0 0 Ga Wy) := by
  refine loopE (fun f (s : Int32 × Int32 × (Nat → Int32) × (Nat → Int32)) => f_X5_find_L118 k (nI n) B E W Cn Pt Us κ f s.1 s.2.1 s.2.2.1 s.2.2.2) Qp n
    (fun a s => s.2.1 = nI a ∧ ∃ RE' d' par', SRM N n C p q w U fl D RE' d' par' s.2.2.1 s.2.2.2 ∧ RND N RE0 d0 RE' d' s.1 ∧ (∀ x, x ≤ N → RE' x = true) ∧ ∀ c i u v gp gm, ARC N n C p q w U fl c i u v gp gm → (c ≤ 1 ∨ i < a) → RE0 u = true → d0 u + gp ≤ d' v + gm)
    ?_ ?_ k (fg0, 0, Ga, Wy) (by omega) ⟨rfl, RE, d, par, hS, hR, hall, fun c i u v gp gm hA h hu => by
      rcases h with h | h
      · exact harc c i u v gp gm hA h hu
      · exact absurd h (Nat.not_lt_zero _)⟩
  · rintro f a ⟨y, x, G, Y⟩ ha ⟨rfl, RE1, d1, par1, i1, i2, i3, i4⟩
    refine Or.inl ?_
    try dsimp only at i1 i2 ⊢
    have fin : ∀ fg G3 Y3 RE3 d3 par3, SRM N n C p q w U fl D RE3 d3 par3 G3 Y3 → RND N RE0 d0 RE3 d3 fg → (∀ x, x ≤ N → RE1 x = true → RE3 x = true ∧ d1 x ≤ d3 x) → (∀ c u v gp gm, ARC N n C p q w U fl c a u v gp gm → 2 ≤ c → d1 u + gp ≤ d3 v + gm) → ∃ s' : Int32 × Int32 × (Nat → Int32) × (Nat → Int32), (s'.2.1 = nI (a + 1) ∧ ∃ RE' d' par', SRM N n C p q w U fl D RE' d' par' s'.2.2.1 s'.2.2.2 ∧ RND N RE0 d0 RE' d' s'.1 ∧ (∀ x, x ≤ N → RE' x = true) ∧ ∀ c i u v gp gm, ARC N n C p q w U fl c i u v gp gm → (c ≤ 1 ∨ i < a + 1) → RE0 u = true → d0 u + gp ≤ d' v + gm) ∧ f_X5_find_L118 k (nI n) B E W Cn Pt Us κ f fg (nI (a + 1)) G3 Y3 = f_X5_find_L118 k (nI n) B E W Cn Pt Us κ f s'.1 s'.2.1 s'.2.2.1 s'.2.2.2 := by
      intro fg G3 Y3 RE3 d3 par3 m1 m2 m3 m4
      refine ⟨(fg, nI (a + 1), G3, Y3), ⟨rfl, RE3, d3, par3, m1, m2, fun x hx => (m3 x hx (i3 x hx)).1, fun c i u v gp gm hA hc hu => ?_⟩, rfl⟩
      have hl := hA.le hk
      have hm3 := (m3 v hl.2.1 (i3 v hl.2.1)).2
      by_cases h9 : c ≤ 1 ∨ i < a
      · have := i4 c i u v gp gm hA h9 hu
        omega
      · have hia : i = a := by omega
        subst hia
        have := m4 c u v gp gm hA (by omega)
        have := (i2.1 u hl.1 hu).2
        omega
    rw [f_X5_find_L118_s, if_neg (nI_ge ha (by omega)), xi_nI (by omega) (by omega), nI_clamp (show a < 2 ^ 31 by omega), nI_1]
    by_cases hc : C a = true
    · obtain ⟨po1, po2⟩ := hpo a ha hc
      have hka := hk a ha hc
      rw [if_neg (by rw [bz_0 hC ha, hc]; simp), xi_nI (by omega) (by omega), hB a ha, po1, xb_s, xi_nI (by omega) (by omega), hE a ha, po2, xb_s, xi_nI (by omega) (by omega), xj_s, hW a ha]
      have hU2 := hU a ha
      by_cases hu : U a = true
      · rw [hu, if_pos rfl] at hU2
        have hA : ARC N n C p q w U fl 3 a (q a) (p a) 0 (w a) := Or.inr (Or.inr (Or.inr ⟨rfl, rfl, rfl, ha, hc, hu, rfl, rfl⟩))
        obtain ⟨r3, G3, Y3, RE3, d3, par3, l1, l2, l3, l4, l5⟩ := steps_eq (k := k) (val := -(nI (w a))) (wy := 300 + nI a) hN hk hD hD0 hDl i1 hA (Or.inr ⟨rfl, hka.2.2, rfl, i3 _ (by omega)⟩) (by rw [← nI_add]; rfl)
        have k3 := i2.step l2 l4
        have h9 : ∀ c u v gp gm, ARC N n C p q w U fl c a u v gp gm → 2 ≤ c → d1 u + gp ≤ d3 v + gm := by
          intro c u v gp gm hA2 h2
          rcases hA2 with ⟨b0, -⟩ | ⟨b0, -⟩ | ⟨b0, b1, b2, b3, b4, b5, b6, b7⟩ | ⟨b0, b1, b2, b3, b4, b5, b6, b7⟩
          · omega
          · omega
          · rw [hu] at b5; cases b5
          · subst b1 b2 b6 b7
            exact (l3 (i3 _ hka.2.1)).2
        rw [if_neg (by rw [hU2]; decide), xi_nI (by omega) (by omega), l5, xb_s]
        try dsimp only
        by_cases cr : r3 = 0
        · rw [if_pos cr] at k3 ⊢
          rw [fl_one i2.flg (fun y => f_X5_find_L118 k (nI n) B E W Cn Pt Us κ f y (nI (a + 1)) G3 Y3)]
          exact fin _ G3 Y3 RE3 d3 par3 l1 k3 l2 h9
        · rw [if_neg cr] at k3 ⊢
          exact fin _ G3 Y3 RE3 d3 par3 l1 k3 l2 h9
      · have hu2 : U a = false := by simpa using hu
        rw [hu2] at hU2
        have hA : ARC N n C p q w U fl 2 a (p a) (q a) (w a) 0 := Or.inr (Or.inr (Or.inl ⟨rfl, rfl, rfl, ha, hc, hu2, rfl, rfl⟩))
        obtain ⟨r3, G3, Y3, RE3, d3, par3, l1, l2, l3, l4, l5⟩ := steps_eq (k := k) (val := nI (w a)) (wy := 200 + nI a) hN hk hD hD0 hDl i1 hA (Or.inl ⟨rfl, hka.2.2, rfl⟩) (by rw [← nI_add]; rfl)
        have k3 := i2.step l2 l4
        have h9 : ∀ c u v gp gm, ARC N n C p q w U fl c a u v gp gm → 2 ≤ c → d1 u + gp ≤ d3 v + gm := by
          intro c u v gp gm hA2 h2
          rcases hA2 with ⟨b0, -⟩ | ⟨b0, -⟩ | ⟨b0, b1, b2, b3, b4, b5, b6, b7⟩ | ⟨b0, b1, b2, b3, b4, b5, b6, b7⟩
          · omega
          · omega
          · subst b1 b2 b6 b7
            exact (l3 (i3 _ (by omega))).2
          · rw [hu2] at b5; cases b5
        rw [if_pos (show Us a = 0 from hU2), xi_nI (by omega) (by omega), l5, xb_s]
        try dsimp only
        by_cases cr : r3 = 0
        · rw [if_pos cr] at k3 ⊢
          rw [fl_one i2.flg (fun y => f_X5_find_L118 k (nI n) B E W Cn Pt Us κ f y (nI (a + 1)) G3 Y3)]
          exact fin _ G3 Y3 RE3 d3 par3 l1 k3 l2 h9
        · rw [if_neg cr] at k3 ⊢
          exact fin _ G3 Y3 RE3 d3 par3 l1 k3 l2 h9
    · rw [if_pos (by rw [bz_0 hC ha]; simpa using hc)]
      refine fin y G Y RE1 d1 par1 i1 i2 (fun x _ h => ⟨h, Nat.le_refl _⟩) fun c u v gp gm hA h2 => ?_
      rcases hA with ⟨b0, -⟩ | ⟨b0, -⟩ | ⟨b0, b1, b2, b3, b4, -⟩ | ⟨b0, b1, b2, b3, b4, -⟩
      · omega
      · omega
      · exact absurd b4 hc
      · exact absurd b4 hc
  · rintro f ⟨y, x, G, Y⟩ ⟨rfl, RE1, d1, par1, i1, i2, i3, i4⟩
    try dsimp only
    rw [f_X5_find_L118_s, if_pos (nI_le (Nat.le_refl _) (by omega))]
    refine hQ y _ G Y RE1 d1 par1 i1 i2 i3 fun c i u v gp gm hA hu => i4 c i u v gp gm hA ?_ hu
    rcases hA with ⟨b0, -⟩ | ⟨b0, -⟩ | ⟨b0, b1, b2, b3, -⟩ | ⟨b0, b1, b2, b3, -⟩
    · omega
    · omega
    · exact Or.inr b3
    · exact Or.inr b3
end FD
