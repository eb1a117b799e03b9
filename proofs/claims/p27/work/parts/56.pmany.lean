/-! Several rooms: the class's search. -/
section CLS
variable {k m : Nat} {st ww : Nat → Nat} {U : Nat → Bool} {fl D d : Nat → Nat} {par : Nat → Nat × Nat} {Wt St Tk Wg Ga CF BT : Nat → Int32}
def tl (st : Nat → Nat) (c i : Nat) : Nat := if c = 0 then i else if c = 1 then i + 1 else if c = 2 then i else st i
def yes : Nat → Bool := fun _ => true
def idn : Nat → Nat := fun i => i
theorem arc_tl {c i u v gp gm : Nat} (h : ARC m m yes idn st ww U fl c i u v gp gm) : u = tl st c i := by
  rcases h with ⟨rfl, h, -⟩ | ⟨rfl, h, -⟩ | ⟨rfl, h, -⟩ | ⟨rfl, h, -⟩ <;> exact h
def SRC (m : Nat) (st ww : Nat → Nat) (U : Nat → Bool) (fl D d : Nat → Nat) (par : Nat → Nat × Nat) (Ga CF BT : Nat → Int32) : Prop := BFI m m yes idn st ww U fl D yes d par ∧ AR (m + 1) Ga d ∧ ∀ x, x ≤ m → x ≠ 0 → CF x = nI (tl st (par x).1 (par x).2) ∧ BT x = if 2 ≤ (par x).1 then 1 else 0
theorem xj_if {α β : Type} {c : Prop} [Decidable c] {Z : α → β} {x y y1 : α} (h : (if c then x else y) = y1) : xj Z (fun j => if c then j x else j y) = Z y1 := by
  rw [← h, xj_s]
  by_cases c1 : c
  · rw [if_pos c1, if_pos c1]
  · rw [if_neg c1, if_neg c1]
theorem fs_yes (v : Nat) : fs yes v true = yes := by
  funext x; unfold fs yes
  by_cases c : x = v
  · rw [if_pos c]
  · rw [if_neg c]
theorem reach_eq {c i u v gp gm : Nat} {val fg : Int32} (hm : m ≤ 40) (hk : NOK m m yes idn st ww) (hD : VP m m yes idn st ww U fl D) (hD0 : D 0 = 0) (hS : SRC m st ww U fl D d par Ga CF BT) (hA : ARC m m yes idn st ww U fl c i u v gp gm) (h1 : nI (d v) < val ↔ d v + gm < d u + gp) (h2 : d v + gm < d u + gp → val = nI (d u + gp - gm)) (hf : fg = if 2 ≤ c then 1 else 0) :
    ∃ r Ga' CF' BT' d' par', SRC m st ww U fl D d' par' Ga' CF' BT' ∧ (∀ x, x ≠ v → d' x = d x) ∧ d v ≤ d' v ∧ d u + gp ≤ d' v + gm ∧ ((r = 0 ∧ d' = d) ∨ r = 1) ∧ f_X1_reach k (nI v) (nI u) val fg Ga CF BT = some (r, Ga', CF', BT') := by
  have hl := hA.le hk
  obtain ⟨s1, s2, s3⟩ := id hS
  unfold f_X1_reach
  rw [xi_nI (by omega) (by omega), nI_clamp (by omega), s2 v (by omega)]
  by_cases c1 : d v + gm < d u + gp
  · rw [if_pos (h1.mpr c1), xi_nI (by omega) (by omega), xi_nI (by omega) (by omega), xi_nI (by omega) (by omega), h2 c1]
    obtain ⟨r1, r2, r3⟩ := s1.relax hk hD hD0 hA rfl (Or.inr ⟨rfl, c1⟩)
    rw [fs_yes] at r1
    refine ⟨1, upd Ga v (nI (d u + gp - gm)), upd CF v (nI u), upd BT v (vp_nar .boolean fg), fs d v (d u + gp - gm), fs par v (c, i), ⟨r1, s2.set, fun x hx hx0 => ?_⟩, fun x hx => fs_ne _ _ hx, ?_, ?_, Or.inr rfl, rfl⟩
    · unfold upd
      by_cases c2 : x = v
      · rw [if_pos c2, if_pos c2, c2, fs_at]
        refine ⟨congrArg nI (arc_tl hA), ?_⟩
        rw [hf]
        by_cases c3 : 2 ≤ c
        · rw [if_pos c3, nar_1]
        · rw [if_neg c3, nar_0]
      · rw [if_neg c2, if_neg c2, fs_ne _ _ c2]; exact s3 x hx hx0
    · rw [fs_at]; have := r3 rfl; omega
    · rw [fs_at]; omega
  · rw [if_neg (fun q => c1 (h1.mp q))]
    exact ⟨0, Ga, CF, BT, d, par, hS, fun _ _ => rfl, Nat.le_refl _, by omega, Or.inl ⟨rfl, rfl⟩, rfl⟩
theorem SRC.le (h : SRC m st ww U fl D d par Ga CF BT) {v : Nat} (hv : v ≤ m) : d v ≤ D v := h.1.2.2.1 v hv rfl
theorem improveForwards_eq (hk9 : 10000 ≤ k) (hm : m ≤ 40) (hk : NOK m m yes idn st ww) (hD : VP m m yes idn st ww U fl D) (hD0 : D 0 = 0) (hDl : ∀ v, v ≤ m → D v ≤ 6642000) (hS : SRC m st ww U fl D d par Ga CF BT) (hW : AR m Wt ww) (hSt : AR m St st) (hT : BZ m Tk U) :
    ∃ r Ga' CF' BT' d' par', SRC m st ww U fl D d' par' Ga' CF' BT' ∧ (∀ x, x ≤ m → d x ≤ d' x) ∧ (∀ c i u v gp gm, ARC m m yes idn st ww U fl c i u v gp gm → u < v → d' u + gp ≤ d' v + gm) ∧ ((r = 0 ∧ d' = d) ∨ r = 1) ∧ f_X1_improveForwards k (nI m) Wt St Tk Ga CF BT = some (r, Ga', CF', BT') := by
  unfold f_X1_improveForwards
  refine loopE (fun f (s : Int32 × Int32 × (Nat → Int32) × (Nat → Int32) × (Nat → Int32)) => f_X1_improveForwards_L4 k (nI m) Wt St Tk (fun (v1_22 : Int32) (v2_23 : Int32) (A_gain_24 : Nat → Int32) (A_cameFrom_25 : Nat → Int32) (A_cameByTaking_26 : Nat → Int32) => xq v1_22 (some (v1_22, A_gain_24, A_cameFrom_25, A_cameByTaking_26))) f s.1 s.2.1 s.2.2.1 s.2.2.2.1 s.2.2.2.2)
    (fun res => ∃ r Ga' CF' BT' d' par', SRC m st ww U fl D d' par' Ga' CF' BT' ∧ (∀ x, x ≤ m → d x ≤ d' x) ∧ (∀ c i u v gp gm, ARC m m yes idn st ww U fl c i u v gp gm → u < v → d' u + gp ≤ d' v + gm) ∧ ((r = 0 ∧ d' = d) ∨ r = 1) ∧ res = some (r, Ga', CF', BT')) m
    (fun a s => s.2.1 = nI a ∧ ∃ d' par', SRC m st ww U fl D d' par' s.2.2.1 s.2.2.2.1 s.2.2.2.2 ∧ (∀ x, x ≤ m → d x ≤ d' x) ∧ (∀ c i u v gp gm, ARC m m yes idn st ww U fl c i u v gp gm → u < v → u < a → d' u + gp ≤ d' v + gm) ∧ ((s.1 = 0 ∧ d' = d) ∨ s.1 = 1))
    ?_ ?_ k (0, 0, Ga, CF, BT) (by omega) ⟨rfl, d, par, hS, fun _ _ => Nat.le_refl _, fun _ _ _ _ _ _ _ _ h => absurd h (Nat.not_lt_zero _), Or.inl ⟨rfl, rfl⟩⟩
  · rintro f a ⟨y, x, G0, C0, B0⟩ ha ⟨rfl, d0, par0, i1, i2, i3, i4⟩
    refine Or.inl ?_
    try dsimp only at i1 i4 ⊢
    have hda := i1.le (show a ≤ m by omega)
    have hDa := hDl a (by omega)
    have hA0 : ARC m m yes idn st ww U fl 0 a a (a + 1) 0 0 := Or.inl ⟨rfl, rfl, rfl, ha, rfl, rfl⟩
    obtain ⟨r, G1, C1, B1, d1, par1, j1, j2, j3, j4, j5, j6⟩ := reach_eq (k := k) (val := nI (d0 a)) (fg := 0) hm hk hD hD0 i1 hA0 (by
      have := i1.le (show a + 1 ≤ m by omega)
      have := hDl (a + 1) (by omega)
      rw [nI_ltI (by omega) (by omega)]; omega) (fun _ => rfl) rfl
    rw [f_X1_improveForwards_L4_s, if_neg (nI_ge ha (by omega)), xi_nI (by omega) (by omega), nI_clamp (show a < 2 ^ 31 by omega), i1.2.1 a (by omega), nI_1, j6, xb_s]
    try dsimp only
    have hd1a : d1 a = d0 a := j2 a (by omega)
    have hT2 := hT a ha
    have flag : ∃ y1 : Int32, ((y1 = 0 ∧ d1 = d) ∨ y1 = 1) ∧ (if r = 0 then y else 1) = y1 := by
      rcases j5 with ⟨rfl, h⟩ | rfl
      · refine ⟨y, ?_, if_pos rfl⟩
        rw [h]; exact i4
      · exact ⟨1, Or.inr rfl, if_neg (by decide)⟩
    obtain ⟨y1, hy1, hy2⟩ := flag
    rw [xj_if hy2]
    try dsimp only
    rw [xi_nI (by omega) (by omega), xi_nI (by omega) (by omega), xi_nI (by omega) (by omega)]
    have step : ∀ d2 : Nat → Nat, (∀ x, x ≠ st a → d2 x = d1 x) → d1 (st a) ≤ d2 (st a) → (U a = false → d1 a + ww a ≤ d2 (st a)) → (∀ x, x ≤ m → d x ≤ d2 x) ∧ (∀ c i u v gp gm, ARC m m yes idn st ww U fl c i u v gp gm → u < v → u < a + 1 → d2 u + gp ≤ d2 v + gm) := by
      intro d2 e1 e2 e3
      have hsa : a < st a := (hk a ha rfl).1
      have up1 : ∀ x, d0 x ≤ d1 x := fun x => by
        by_cases c : x = a + 1
        · rw [c]; exact j3
        · rw [j2 x c]; exact Nat.le_refl _
      have up2 : ∀ x, d1 x ≤ d2 x := fun x => by
        by_cases c : x = st a
        · rw [c]; exact e2
        · rw [e1 x c]; exact Nat.le_refl _
      refine ⟨fun x hx => Nat.le_trans (i2 x hx) (Nat.le_trans (up1 x) (up2 x)), fun c i u v gp gm hA huv hu => ?_⟩
      have hua : d2 u = d0 u := by rw [e1 u (by omega), j2 u (by omega)]
      rcases Nat.lt_or_ge u a with h | h
      · have h5 := i3 c i u v gp gm hA huv h
        have := up1 v
        have := up2 v
        omega
      · have hu2 : u = a := by omega
        rcases hA with ⟨rfl, b1, b2, b3, b4, b5⟩ | ⟨rfl, b1, b2, b3, b4, b5, b6⟩ | ⟨rfl, b1, b2, b3, b4, b5, b6, b7⟩ | ⟨rfl, b1, b2, b3, b4, b5, b6, b7⟩
        · subst hu2
          have := up2 v
          subst b2 b4 b5
          subst b1
          omega
        · omega
        · have hi : i = a := by rw [← hu2]; exact b1.symm
          have e9 : d0 u = d1 a := by rw [hu2, hd1a]
          rw [hi] at b5 b6 b2
          have := e3 b5
          rw [b2, b6, b7, hua, e9]
          omega
        · have := (hk i b3 b4).1
          rw [b1, b2] at huv
          exact absurd (show st i < i from huv) (by have : i < st i := this; omega)
    by_cases hu : U a = true
    · rw [hu, if_pos rfl] at hT2
      rw [if_neg (by rw [hT2]; decide)]
      obtain ⟨s1, s2⟩ := step d1 (fun _ _ => rfl) (Nat.le_refl _) (fun h => by rw [hu] at h; cases h)
      exact ⟨(y1, nI (a + 1), G1, C1, B1), ⟨rfl, d1, par1, j1, s1, s2, hy1⟩, rfl⟩
    · have hu2 : U a = false := by simpa using hu
      rw [hu2] at hT2
      have hT3 : Tk a = 0 := hT2
      have hka := hk a ha rfl
      have hA2 : ARC m m yes idn st ww U fl 2 a a (st a) (ww a) 0 := Or.inr (Or.inr (Or.inl ⟨rfl, rfl, rfl, ha, rfl, hu2, rfl, rfl⟩))
      obtain ⟨r2, G2, C2, B2, d2, par2, l1, l2, l3, l4, l5, l6⟩ := reach_eq (k := k) (val := nI (d1 a + ww a)) (fg := 1) hm hk hD hD0 j1 hA2 (by
        have := j1.le (show st a ≤ m by omega)
        have := hDl (st a) (by omega)
        rw [nI_ltI (by omega) (by omega)]; omega) (fun _ => rfl) rfl
      obtain ⟨s1, s2⟩ := step d2 l2 l3 (fun _ => l4)
      rw [if_pos hT3, xi_nI (by omega) (by omega), hSt a ha, j1.2.1 a (by omega), hW a ha, nI_add, l6, xb_s]
      try dsimp only
      rcases l5 with ⟨rfl, h⟩ | rfl
      · rw [if_pos rfl]
        exact ⟨(y1, nI (a + 1), G2, C2, B2), ⟨rfl, d2, par2, l1, s1, s2, by rw [h]; exact hy1⟩, rfl⟩
      · rw [if_neg (by decide)]
        exact ⟨(1, nI (a + 1), G2, C2, B2), ⟨rfl, d2, par2, l1, s1, s2, Or.inr rfl⟩, rfl⟩
  · rintro f ⟨y, x, G0, C0, B0⟩ ⟨rfl, d0, par0, i1, i2, i3, i4⟩
    try dsimp only at i1 i4 ⊢
    rw [f_X1_improveForwards_L4_s, if_pos (nI_le (Nat.le_refl _) (by omega))]
    refine ⟨y, G0, C0, B0, d0, par0, i1, i2, fun c i u v gp gm hA huv => i3 c i u v gp gm hA huv ?_, i4, ?_⟩
    · have := hA.le hk; omega
    · rcases i4 with ⟨rfl, -⟩ | rfl
      · exact if_pos (Or.inl rfl)
      · exact if_pos (Or.inr rfl)
theorem lt_sub {x y z : Nat} (hx : x < 2 ^ 30) (hy : y < 2 ^ 30) (hz : z < 2 ^ 30) : nI x < nI y - nI z ↔ x + z < y := by
  rw [fa_lt, pk_sub_toInt hy hz, nI_toInt (by omega)]; omega
theorem improveBackwards_eq (hk9 : 10000 ≤ k) (hm : m ≤ 40) (hk : NOK m m yes idn st ww) (hD : VP m m yes idn st ww U fl D) (hD0 : D 0 = 0) (hDl : ∀ v, v ≤ m → D v ≤ 6642000) (hS : SRC m st ww U fl D d par Ga CF BT) (hW : AR m Wt ww) (hSt : AR m St st) (hT : BZ m Tk U) (hWg : AR m Wg fl) (hfl : ∀ v, v < m → fl v ≤ 100) :
    ∃ Ga' CF' BT' d' par', SRC m st ww U fl D d' par' Ga' CF' BT' ∧ (∀ x, x ≤ m → d x ≤ d' x) ∧ (∀ c i u v gp gm, ARC m m yes idn st ww U fl c i u v gp gm → v < u → d' u + gp ≤ d' v + gm) ∧ f_X1_improveBackwards k (nI m) Wt St Tk Wg Ga CF BT = some (Ga', CF', BT') := by
  unfold f_X1_improveBackwards
  have key : ∀ a f G0 C0 B0 d0 par0, a ≤ m → a < f → SRC m st ww U fl D d0 par0 G0 C0 B0 → (∀ x, x ≤ m → d x ≤ d0 x) → (∀ c i u v gp gm, ARC m m yes idn st ww U fl c i u v gp gm → v < u → a ≤ v → d0 u + gp ≤ d0 v + gm) →
    (fun res => ∃ Ga' CF' BT' d' par', SRC m st ww U fl D d' par' Ga' CF' BT' ∧ (∀ x, x ≤ m → d x ≤ d' x) ∧ (∀ c i u v gp gm, ARC m m yes idn st ww U fl c i u v gp gm → v < u → d' u + gp ≤ d' v + gm) ∧ res = some (Ga', CF', BT')) (f_X1_improveBackwards_L10 k Wt St Tk Wg (fun (v1_24 : Int32) (A_gain_25 : Nat → Int32) (A_cameFrom_26 : Nat → Int32) (A_cameByTaking_27 : Nat → Int32) => some (A_gain_25, A_cameFrom_26, A_cameByTaking_27)) f (nI a - 1) G0 C0 B0) := by
    intro a
    induction a with
    | zero =>
      intro f G0 C0 B0 d0 par0 h1 h2 h3 h4 h5
      obtain ⟨f, rfl⟩ : ∃ q, f = q + 1 := ⟨f - 1, by omega⟩
      rw [f_X1_improveBackwards_L10_s, if_pos (show nI 0 - 1 < (0 : Int32) by decide)]
      exact ⟨G0, C0, B0, d0, par0, h3, h4, fun c i u v gp gm hA huv => h5 c i u v gp gm hA huv (Nat.zero_le _), rfl⟩
    | succ a ih =>
      intro f G0 C0 B0 d0 par0 h1 h2 h3 h4 h5
      obtain ⟨f, rfl⟩ : ∃ q, f = q + 1 := ⟨f - 1, by omega⟩
      have hka := hk a (by omega) rfl
      rw [nI_pred, f_X1_improveBackwards_L10_s, if_neg (nI_pos (show a < 2 ^ 31 by omega)), xi_nI (by omega) (by omega), nI_clamp (show a < 2 ^ 31 by omega), hWg a (by omega)]
      -- first along the row
      have first : ∃ G1 C1 B1 d1 par1, SRC m st ww U fl D d1 par1 G1 C1 B1 ∧ (∀ x, x ≠ a → d1 x = d0 x) ∧ d0 a ≤ d1 a ∧ (0 < fl a → d0 (a + 1) ≤ d1 a) ∧ ∀ (Z : (Nat → Int32) → (Nat → Int32) → (Nat → Int32) → Option ((Nat → Int32) × (Nat → Int32) × (Nat → Int32))), xj Z (fun (j41_4 : (Nat → Int32) → (Nat → Int32) → (Nat → Int32) → Option ((Nat → Int32) × (Nat → Int32) × (Nat → Int32))) => if nI (fl a) ≤ 0 then j41_4 G0 C0 B0 else xi (nI a + 1) 41 (xb (f_X1_reach k (nI a) (nI a + 1) (G0 (nI a + 1).toNatClampNeg) 0 G0 C0 B0) (fun (r19, A_gain_20, A_cameFrom_21, A_cameByTaking_22) => j41_4 A_gain_20 A_cameFrom_21 A_cameByTaking_22))) = Z G1 C1 B1 := by
        by_cases c0 : fl a = 0
        · exact ⟨G0, C0, B0, d0, par0, h3, fun _ _ => rfl, Nat.le_refl _, fun h => by omega, fun Z => by rw [xj_s]; exact if_pos (by rw [c0]; decide)⟩
        · have hA : ARC m m yes idn st ww U fl 1 a (a + 1) a 0 0 := Or.inr (Or.inl ⟨rfl, rfl, rfl, by omega, by omega, rfl, rfl⟩)
          obtain ⟨r, G1, C1, B1, d1, par1, j1, j2, j3, j4, j5, j6⟩ := reach_eq (k := k) (val := nI (d0 (a + 1))) (fg := 0) hm hk hD hD0 h3 hA (by
            have := h3.le (show a + 1 ≤ m by omega)
            have := hDl (a + 1) (by omega)
            have := h3.le (show a ≤ m by omega)
            have := hDl a (by omega)
            rw [nI_ltI (by omega) (by omega)]; omega) (fun _ => rfl) rfl
          refine ⟨G1, C1, B1, d1, par1, j1, j2, j3, fun _ => j4, fun Z => ?_⟩
          rw [xj_s, if_neg (nI_nle (by omega) (by have := hfl a (by omega); omega)), nI_1, xi_nI (by omega) (by omega), nI_clamp (by omega), h3.2.1 (a + 1) (by omega), j6, xb_s]
      obtain ⟨G1, C1, B1, d1, par1, j1, j2, j3, j4, j5⟩ := first
      rw [j5]
      try dsimp only
      have hT2 := hT a (by omega)
      have next : ∀ d2 : Nat → Nat, (∀ x, x ≠ a → d2 x = d1 x) → d1 a ≤ d2 a → (U a = true → d1 (st a) ≤ d2 a + ww a) → (∀ x, x ≤ m → d x ≤ d2 x) ∧ (∀ c i u v gp gm, ARC m m yes idn st ww U fl c i u v gp gm → v < u → a ≤ v → d2 u + gp ≤ d2 v + gm) := by
        intro d2 e1 e2 e3
        refine ⟨fun x hx => ?_, fun c i u v gp gm hA huv hv => ?_⟩
        · have := h4 x hx
          by_cases c : x = a
          · subst c; omega
          · rw [e1 x c, j2 x c]; exact this
        · have hu0 : d2 u = d0 u := by rw [e1 u (by omega), j2 u (by omega)]
          rcases Nat.lt_or_ge a v with h | h
          · have := h5 c i u v gp gm hA huv (by omega)
            rw [hu0, e1 v (by omega), j2 v (by omega)]; exact this
          · have hv2 : v = a := by omega
            rcases hA with ⟨rfl, b1, b2, b3, b4, b5⟩ | ⟨rfl, b1, b2, b3, b4, b5, b6⟩ | ⟨rfl, b1, b2, b3, b4, b5, b6, b7⟩ | ⟨rfl, b1, b2, b3, b4, b5, b6, b7⟩
            · omega
            · subst b1 b2 b5 b6
              subst hv2
              have := j4 b4
              omega
            · have := (hk i b3 b4).1
              rw [b1, b2] at huv
              exact absurd (show st i < i from huv) (by have : i < st i := this; omega)
            · have hi : i = a := by rw [← hv2]; exact b2.symm
              subst hi
              have h9 := e3 b5
              have : d1 (st i) = d0 (st i) := j2 _ (by omega)
              subst b6 b7 b1
              rw [hv2]
              omega
      rw [xi_nI (by omega) (by omega)]
      by_cases hu : U a = true
      · rw [hu, if_pos rfl] at hT2
        rw [if_neg (by rw [hT2]; decide), xi_nI (by omega) (by omega), hSt a (by omega), xi_nI (by omega) (by omega), nI_clamp (show st a < 2 ^ 31 by omega), xi_nI (by omega) (by omega), j1.2.1 (st a) (by omega), hW a (by omega)]
        have hA : ARC m m yes idn st ww U fl 3 a (st a) a 0 (ww a) := Or.inr (Or.inr (Or.inr ⟨rfl, rfl, rfl, by omega, rfl, hu, rfl, rfl⟩))
        have hb1 := j1.le (show a ≤ m by omega)
        have hb2 := hDl a (by omega)
        have hb3 := j1.le (show st a ≤ m by omega)
        have hb4 := hDl (st a) (by omega)
        obtain ⟨r, G2, C2, B2, d2, par2, l1, l2, l3, l4, l5, l6⟩ := reach_eq (k := k) (val := nI (d1 (st a)) - nI (ww a)) (fg := 1) hm hk hD hD0 j1 hA (lt_sub (by omega) (by omega) (by omega)) (fun h => by rw [pk_sub (by omega)]; rfl) rfl
        rw [l6, xb_s]
        try dsimp only
        obtain ⟨n1, n2⟩ := next d2 l2 l3 (fun _ => by omega)
        rw [← Int32.sub_eq_add_neg]
        exact ih f G2 C2 B2 d2 par2 (by omega) (by omega) l1 n1 n2
      · have hu2 : U a = false := by simpa using hu
        rw [hu2] at hT2
        rw [if_pos (show Tk a = 0 from hT2)]
        obtain ⟨n1, n2⟩ := next d1 (fun _ _ => rfl) (Nat.le_refl _) (fun h => absurd h hu)
        rw [← Int32.sub_eq_add_neg]
        exact ih f G1 C1 B1 d1 par1 (by omega) (by omega) j1 n1 n2
  exact key m k Ga CF BT d par (Nat.le_refl _) (by omega) hS (fun _ _ => Nat.le_refl _) (fun c i u v gp gm hA huv hmv => by have := hA.le hk; omega)
end CLS
