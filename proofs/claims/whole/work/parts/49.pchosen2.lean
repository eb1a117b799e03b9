/-! chosen. -/
section CH2
variable {k n m : Nat} {P : Nat → Bool} {b e w σ : Nat → Nat} {B E W T : Nat → Int32}
theorem pof_L2 {v1 : Int32} {Ct : Nat → Int32} {Qp : Option (Int32 × (Nat → Int32) × (Nat → Int32) × (Nat → Int32) × (Nat → Int32)) → Prop} {κ : Int32 → (Nat → Int32) → Option (Int32 × (Nat → Int32) × (Nat → Int32) × (Nat → Int32) × (Nat → Int32))} (hk : 10000 ≤ k) (hn : n ≤ 40) (hQ : ∀ v C', BZ n C' (cs σ 0) → Qp (κ v C')) : Qp (f_X5_planOfFirst_L2 k v1 (nI n) κ k 0 Ct) := by
  refine loopE (fun f (s : Int32 × (Nat → Int32)) => f_X5_planOfFirst_L2 k v1 (nI n) κ f s.1 s.2) Qp n (fun i s => s.1 = nI i ∧ BZ i s.2 (cs σ 0)) ?_ ?_ k (0, Ct) (by omega) ⟨rfl, fun i h => absurd h (Nat.not_lt_zero i)⟩
  · rintro f i ⟨x, A⟩ hi ⟨rfl, hI⟩
    refine Or.inl ⟨(nI (i + 1), upd A i 0), ⟨rfl, fun j hj => ?_⟩, ?_⟩
    · dsimp only at hI ⊢
      unfold upd
      by_cases c : j = i
      · rw [if_pos c]; rfl
      · rw [if_neg c]; exact hI j (by omega)
    · dsimp only
      rw [f_X5_planOfFirst_L2_s, if_neg (nI_ge hi (by omega)), xi_nI (by omega) (by omega), nI_clamp (show i < 2 ^ 31 by omega), nI_1, nar_0]
  · rintro f ⟨x, A⟩ ⟨rfl, hI⟩
    dsimp only
    rw [f_X5_planOfFirst_L2_s, if_pos (nI_le (Nat.le_refl _) (by omega))]
    exact hQ _ _ hI
theorem planOfFirst_eq {p : Nat} {A Odr Fr To Ct : Nat → Int32} (hk : 10000 ≤ k) (hg : GD n b e w) (hB : AR n B b) (hE : AR n E e) (hW : AR n W w) (hR : ROWS n P e m σ) (hA : ∀ p, p < m → Odr p = nI (σ p)) (hp : p ≤ m) :
    ∃ v A' F' T' C', IsM n (ovl b e) w (pre σ p) v ∧ f_X5_planOfFirst k (nI p) (nI n) B E W A Odr Fr To Ct = some (nI v, A', F', T', C') := by
  have hn := hg.1
  obtain ⟨hS, hin, hall, hmn⟩ := id hR
  unfold f_X5_planOfFirst
  refine pof_L2 (σ := σ) (Qp := fun res => ∃ v A' F' T' C', IsM n (ovl b e) w (pre σ p) v ∧ res = some (nI v, A', F', T', C')) hk hn fun v0 C0 h0 => ?_
  try dsimp only
  refine loopE (fun f (s : Int32 × (Nat → Int32) × (Nat → Int32) × (Nat → Int32)) => f_X5_planOfFirst_L25 k (nI p) B E Odr (fun (v2_16 : Int32) (A_froms_17 : Nat → Int32) (A_tos_18 : Nat → Int32) (A_counts_19 : Nat → Int32) => xb (f_X5_plan k 1000 (nI n) W A A_froms_17 A_tos_18 A_counts_19) (fun (r20, A_best_21) => some (r20, A_best_21, A_froms_17, A_tos_18, A_counts_19))) f s.1 s.2.1 s.2.2.1 s.2.2.2)
    (fun res => ∃ v A' F' T' C', IsM n (ovl b e) w (pre σ p) v ∧ res = some (nI v, A', F', T', C')) p
    (fun q s => s.1 = nI q ∧ (∀ j, j < n → cs σ q j = true → s.2.1 j = nI (b j) ∧ s.2.2.1 j = nI (e j)) ∧ BZ n s.2.2.2 (cs σ q)) ?_ ?_ k (0, Fr, To, C0) (by omega) ⟨rfl, fun j hj h => (by cases h), h0⟩
  · rintro f q ⟨x, A1, A2, A3⟩ hq ⟨rfl, i1, i2⟩
    dsimp only at i1 i2
    have hj := (hin q (by omega)).1
    refine Or.inl ⟨(nI (q + 1), upd A1 (σ q) (nI (b (σ q))), upd A2 (σ q) (nI (e (σ q))), upd A3 (σ q) 1), ⟨rfl, fun j hj2 hc => ?_, ?_⟩, ?_⟩
    · dsimp only
      unfold upd
      by_cases c : j = σ q
      · rw [if_pos c, if_pos c, c]; exact ⟨rfl, rfl⟩
      · rw [if_neg c, if_neg c]
        refine i1 j hj2 ?_
        have hc2 : fs (cs σ q) (σ q) true j = true := hc
        rw [fs_ne _ _ c] at hc2
        exact hc2
    · exact BZ.set i2 true rfl
    · dsimp only
      rw [f_X5_planOfFirst_L25_s, if_neg (nI_ge hq (by omega)), xi_nI (by omega) (by omega), nI_clamp (show q < 2 ^ 31 by omega), hA q (by omega), nI_clamp (show σ q < 2 ^ 31 by omega), hB _ hj, hE _ hj]
      simp (disch := omega) only [xi_nI, nI_1, nar_1]
  · rintro f ⟨x, A1, A2, A3⟩ ⟨rfl, i1, i2⟩
    dsimp only at i1 i2 ⊢
    rw [f_X5_planOfFirst_L25_s, if_pos (nI_le (Nat.le_refl _) (by omega))]
    obtain ⟨v, A', hv, hpl⟩ := plan_eq (k := k) (l := 1000) (C := cs σ p) (a := b) (z := e) (w := w) (A := A) hk hn (by omega) (fun i hi _ => by have := hg.2 i hi; omega) (fun i hi => (hg.2 i hi).2.2.2) hW i1 i2
    refine ⟨v, A', A1, A2, A3, hv.cong fun j hj => ?_, ?_⟩
    · have := (hg.2 j hj).2.1
      rw [cs_iff]
      exact ⟨fun h => h.1, fun h => ⟨h, this⟩⟩
    · rw [show (1000 : Int32) = nI 1000 from rfl, hpl, xb_s]
/-- the walk back -/
def cw (β γ σ : Nat → Nat) : Nat → Nat → Int64 → Int64
  | 0, _, s => s
  | f + 1, j, s => if j = 0 then s else if β j = β (j - 1) then cw β γ σ f (j - 1) s else cw β γ σ f (γ j) (s ||| lN (2 ^ σ (j - 1)))
theorem cw_0 (β γ σ : Nat → Nat) (f : Nat) (s : Int64) : cw β γ σ f 0 s = s := by
  cases f with
  | zero => rfl
  | succ f => exact if_pos rfl
theorem cw_same {β γ σ : Nat → Nat} {f x : Nat} {s : Int64} (h : β (x + 1) = β x) : cw β γ σ (f + 1) (x + 1) s = cw β γ σ f x s := by
  show (if x + 1 = 0 then s else if β (x + 1) = β (x + 1 - 1) then cw β γ σ f (x + 1 - 1) s else _) = _
  rw [if_neg (by omega), Nat.add_sub_cancel, if_pos h]
theorem cw_take {β γ σ : Nat → Nat} {f x : Nat} {s : Int64} (h : ¬ β (x + 1) = β x) : cw β γ σ (f + 1) (x + 1) s = cw β γ σ f (γ (x + 1)) (s ||| lN (2 ^ σ x)) := by
  show (if x + 1 = 0 then s else if β (x + 1) = β (x + 1 - 1) then _ else cw β γ σ f (γ (x + 1)) (s ||| lN (2 ^ σ (x + 1 - 1)))) = _
  rw [if_neg (by omega), Nat.add_sub_cancel, if_neg h]
def gam (n : Nat) (P : Nat → Bool) (b e σ : Nat → Nat) (j : Nat) : Nat := fb_ct (fun i => P i && decide (e i ≤ b (σ (j - 1)))) n
theorem chosenSet_eq {N Bg En Wt Be : Nat → Int32} (hk : 10000 ≤ k) (hg : GD n b e w) (hR : ROWS n P e m σ) (hW : RW m σ b e w N Bg En Wt) :
    ∃ (β : Nat → Nat) (Be' : Nat → Int32), (∀ p, p ≤ m → β p ≤ 40000 ∧ IsM n (ovl b e) w (pre σ p) (β p)) ∧ (∀ x, x < m → gam n P b e σ (x + 1) ≤ x) ∧ f_X2_chosenSet k (nI m) N Bg En Wt Be = some (cw β (gam n P b e σ) σ m m 0, Be') := by
  have hn := hg.1
  obtain ⟨hS, hin, hall, hmn⟩ := id hR
  have hz : ∀ i, i < n → P i = true → b i < e i ∧ e i ≤ 3000 ∧ w i ≤ 1000 := fun i hi _ => by have := hg.2 i hi; omega
  obtain ⟨Be', v, h1, h2, h3⟩ := greatestWeight_eq (Be := Be) hk hn hR hW hz (fun i hi => (hg.2 i hi).2.2.2)
  have hβ : ∀ p, p ≤ m → Be' p = nI (Be' p).toNatClampNeg ∧ (Be' p).toNatClampNeg ≤ 40000 ∧ IsM n (ovl b e) w (pre σ p) (Be' p).toNatClampNeg := by
    intro p hp
    obtain ⟨v, hv1, hv2⟩ := h1 p hp
    have := hv2.le (fun i hi => (hg.2 i hi).2.2.2)
    rw [hv1, nI_clamp (by omega)]
    exact ⟨rfl, by omega, hv2⟩
  have hγ : ∀ x, x < m → gam n P b e σ (x + 1) ≤ x ∧ f_X2_endedBy k (nI (b (σ x))) (nI m) En = some (nI (gam n P b e σ (x + 1))) := by
    intro x hx
    have hgx := hg.2 (σ x) (hin x hx).1
    obtain ⟨r, hr1, hr2, hr3⟩ := endedBy_eq (t := b (σ x)) hk hn hR hW hz (by omega)
    have : gam n P b e σ (x + 1) = r := by
      unfold gam
      rw [Nat.add_sub_cancel]
      exact ct_row (Z := fun i => decide (e i ≤ b (σ x))) hR hr1 fun q hq => by rw [hr2 q hq, decide_eq_true_iff]
    rw [this]
    refine ⟨?_, hr3⟩
    have := hr2 x hx
    omega
  refine ⟨fun p => (Be' p).toNatClampNeg, Be', fun p hp => (hβ p hp).2, fun x hx => (hγ x hx).1, ?_⟩
  unfold f_X2_chosenSet
  rw [h3, xb_s]
  try dsimp only
  have key : ∀ x fu f c s, x < fu → x ≤ m → c ≤ 40 → min c x ≤ f → f_X2_chosenSet_L24 k (nI m) N Bg En Be' (fun (v1_15 : Int64) (v3_16 : Int32) (v4_17 : Int32) => some (v1_15, Be')) fu s (nI c) (nI x) = some (cw (fun p => (Be' p).toNatClampNeg) (gam n P b e σ) σ f (min c x) s, Be') := by
    intro x
    induction x with
    | zero =>
      intro fu f c s h1 h2 h3 h4
      obtain ⟨fu, rfl⟩ : ∃ q, fu = q + 1 := ⟨fu - 1, by omega⟩
      rw [f_X2_chosenSet_L24_s, if_pos (show nI 0 ≤ (0 : Int32) by decide), Nat.min_zero, cw_0]
    | succ x ih =>
      intro fu f c s h1 h2 h3 h4
      obtain ⟨fu, rfl⟩ : ∃ q, fu = q + 1 := ⟨fu - 1, by omega⟩
      rw [f_X2_chosenSet_L24_s, if_neg (nI_nle (by omega) (by omega)), nI_pred, pk_m1]
      by_cases c1 : c < x + 1
      · rw [if_pos (nI_lt c1 (by omega)), ih fu f c s (by omega) (by omega) h3 (by omega), show min c x = min c (x + 1) by omega]
      · have hmin : min c (x + 1) = x + 1 := by omega
        have hminx : min c x = x := by omega
        rw [hmin] at h4 ⊢
        obtain ⟨f, rfl⟩ : ∃ q, f = q + 1 := ⟨f - 1, by omega⟩
        obtain ⟨q1, q2, q3, q4⟩ := hW x (by omega)
        obtain ⟨p1, p2, -⟩ := hβ (x + 1) h2
        obtain ⟨p3, p4, -⟩ := hβ x (by omega)
        obtain ⟨g1, g2⟩ := hγ x (by omega)
        have hsx := (hin x (by omega)).1
        rw [if_neg (nI_nlt (by omega) (by omega)), xi_nI (by omega) (by omega), xi_nI (by omega) (by omega), nI_clamp (show x + 1 < 2 ^ 31 by omega), nI_clamp (show x < 2 ^ 31 by omega)]
        by_cases c2 : (Be' (x + 1)).toNatClampNeg = (Be' x).toNatClampNeg
        · rw [if_pos (by rw [p1, p3, c2]), ih fu f c s (by omega) (by omega) h3 (by omega), hminx, cw_same (β := fun p => (Be' p).toNatClampNeg) c2]
        · rw [if_neg (fun q => c2 (by rw [q])), xi_nI (by omega) (by omega), q1, only_eq k (by omega), xb_s, xi_nI (by omega) (by omega), q2, g2, xb_s, ih fu f _ _ (by omega) (by omega) (by omega) (by omega), cw_take (β := fun p => (Be' p).toNatClampNeg) c2, show min (gam n P b e σ (x + 1)) x = gam n P b e σ (x + 1) by omega]
  have := key m k m m 0 (by omega) (Nat.le_refl _) (by omega) (by omega)
  rw [Nat.min_self] at this
  exact this
theorem chosen_L59 {i : Nat} {s : Int64} {κ : Int32 → Int32 → Option (Int64 × Int32 × (Nat → Int32) × (Nat → Int32) × (Nat → Int32) × (Nat → Int32) × (Nat → Int32))} (hk : 10000 ≤ k) (hg : GD n b e w) (hB : AR n B b) (hE : AR n E e) (hT : BZ n T P) (hi : i < n) :
    f_X5_chosen_L59 k s (nI i) (nI n) B E T κ k 0 0 = κ (nI (fb_ct (fun j => P j && decide (e j ≤ b i)) n)) (nI n) := by
  have hn := hg.1
  have hgi := hg.2 i hi
  refine loopG (fun f (q : Int32 × Int32) => f_X5_chosen_L59 k s (nI i) (nI n) B E T κ f q.1 q.2) _ n (fun q => (nI (fb_ct (fun j => P j && decide (e j ≤ b i)) q), nI q)) ?_ ?_ k (by omega)
  · intro f j hj
    dsimp only
    have hgj := hg.2 j hj
    rw [f_X5_chosen_L59_s, if_neg (nI_ge hj (by omega)), xi_nI (by omega) (by omega), nI_clamp (show j < 2 ^ 31 by omega), fb_ct_succ]
    by_cases hp : P j = true
    · rw [if_neg (by rw [bz_0 hT hj, hp]; simp), xi_nI (by omega) (by omega), xi_nI (by omega) (by omega), nI_clamp (show i < 2 ^ 31 by omega), hB i hi, hE j hj, hp, Bool.true_and]
      by_cases c : b i < e j
      · rw [if_pos (nI_lt c (by omega)), decide_eq_false (by omega), if_neg (by decide), nI_1, Int32.add_zero]; try rfl
      · rw [if_neg (nI_nlt (Nat.not_lt.mp c) (by omega)), decide_eq_true (by omega), if_pos rfl, nI_1, nI_1]
    · rw [if_pos (by rw [bz_0 hT hj]; simpa using hp), nI_1]
      have hp2 : P j = false := by simpa using hp
      rw [hp2, Bool.false_and, if_neg (by decide), Int32.add_zero]; try rfl
  · intro f
    dsimp only
    rw [f_X5_chosen_L59_s, if_pos (nI_le (Nat.le_refl _) (by omega))]
theorem X5_chosen_eq {β : Nat → Nat} {th : Int32} {Be Odr Fr To Ct : Nat → Int32} (hk : 10000 ≤ k) (hg : GD n b e w) (hB : AR n B b) (hE : AR n E e) (hW : AR n W w) (hT : BZ n T P) (hR : ROWS n P e m σ) (hβ : ∀ p, p ≤ m → β p ≤ 40000 ∧ IsM n (ovl b e) w (pre σ p) (β p)) (hγ : ∀ x, x < m → gam n P b e σ (x + 1) ≤ x) :
    ∃ Be' Odr' Fr' To' Ct', f_X5_chosen k th (nI n) B E W T Be Odr Fr To Ct = some (cw β (gam n P b e σ) σ m m 0, 0, Be', Odr', Fr', To', Ct') := by
  have hn := hg.1
  obtain ⟨hS, hin, hall, hmn⟩ := id hR
  obtain ⟨m', σ', Odr', hR3, hA, hlay⟩ := layOrder_eq (A := Odr) hk hg hT hE
  obtain ⟨rfl, hσ⟩ := ROWS.one (by omega) hR hR3
  have hA2 : ∀ p, p < m → Odr' p = nI (σ p) := fun p hp => by rw [hA p hp, hσ p hp]
  unfold f_X5_chosen
  rw [hlay, xb_s]
  try dsimp only
  have key : ∀ d j fu f s Be Fr To Ct, j ≤ d → j < fu → j ≤ m → j ≤ f → ∃ Be' Fr' To' Ct', f_X5_chosen_L12 k (nI n) B E W T Odr' (fun (v1_27 : Int32) (v2_28 : Int64) (A_best_29 : Nat → Int32) (A_froms_30 : Nat → Int32) (A_tos_31 : Nat → Int32) (A_counts_32 : Nat → Int32) => some (v2_28, 0, A_best_29, Odr', A_froms_30, A_tos_31, A_counts_32)) fu (nI j) s Be Fr To Ct = some (cw β (gam n P b e σ) σ f j s, 0, Be', Odr', Fr', To', Ct') := by
    intro d
    induction d with
    | zero =>
      intro j fu f s Be Fr To Ct h1 h2 h3 h4
      obtain ⟨fu, rfl⟩ : ∃ q, fu = q + 1 := ⟨fu - 1, by omega⟩
      have : j = 0 := by omega
      subst this
      rw [f_X5_chosen_L12_s, if_pos (show nI 0 ≤ (0 : Int32) by decide), cw_0]
      exact ⟨Be, Fr, To, Ct, rfl⟩
    | succ d ih =>
      intro j fu f s Be Fr To Ct h1 h2 h3 h4
      by_cases hj : j = 0
      · exact ih j fu f s Be Fr To Ct (by omega) h2 h3 h4
      obtain ⟨x, rfl⟩ : ∃ q, j = q + 1 := ⟨j - 1, by omega⟩
      obtain ⟨fu, rfl⟩ : ∃ q, fu = q + 1 := ⟨fu - 1, by omega⟩
      obtain ⟨f, rfl⟩ : ∃ q, f = q + 1 := ⟨f - 1, by omega⟩
      have hsx := (hin x (by omega)).1
      obtain ⟨v1, A1, F1, T1, C1, hv1, hp1⟩ := planOfFirst_eq (p := x + 1) (A := Be) (Fr := Fr) (To := To) (Ct := Ct) hk hg hB hE hW hR hA2 h3
      obtain ⟨v2, A2, F2, T2, C2, hv2, hp2⟩ := planOfFirst_eq (p := x) (A := A1) (Fr := F1) (To := T1) (Ct := C1) hk hg hB hE hW hR hA2 (by omega)
      obtain ⟨b1, b2⟩ := hβ (x + 1) h3
      obtain ⟨b3, b4⟩ := hβ x (by omega)
      have e1 := hv1.one b2
      have e2 := hv2.one b4
      subst e1 e2
      rw [f_X5_chosen_L12_s, if_neg (nI_nle (by omega) (by omega)), nI_pred, pk_m1, xi_nI (by omega) (by omega), hp1, xb_s]
      try dsimp only
      rw [hp2, xb_s]
      try dsimp only
      by_cases c : β (x + 1) = β x
      · rw [if_pos (by rw [c]), cw_same c]
        exact ih x fu f s A2 F2 T2 C2 (by omega) (by omega) (by omega) (by omega)
      · rw [if_neg (fun q => c ((nI_eq (by omega) (by omega)).mp q)), cw_take c, nI_clamp (show x < 2 ^ 31 by omega), hA2 x (by omega), chosen_L59 hk hg hB hE hT hsx, shl_eq (by omega)]
        try dsimp only
        have hgx := hγ x (by omega)
        exact ih (gam n P b e σ (x + 1)) fu f _ A2 F2 T2 C2 (by omega) (by omega) (by omega) (by omega)
  obtain ⟨Be', Fr', To', Ct', hh⟩ := key m m k m 0 Be Fr To Ct (Nat.le_refl _) (by omega) (Nat.le_refl _) (Nat.le_refl _)
  exact ⟨Be', Odr', Fr', To', Ct', hh⟩
end CH2
section CHO
variable {k : Nat} {p p2 p3 added fac drop th many mfac mdrop : Int32} {ps os as : Int64} {B E W mB mE mW T TO TC : Nat → Int32} {out : Nat → Int64}
theorem law_chosen {cnt : Int32} {N Bg En Wt Be mBe Odr Fr To Ct : Nat → Int32} (hk : 10000 ≤ k) (h : INV added ps fac os as drop B E W many mfac mdrop mB mE mW T TO TC) :
    ∃ (r : Int64) (c' : Int32) (N' Bg' En' Wt' Be' mBe' Odr' Fr' To' Ct' : Nat → Int32), f_X4_chosen k added ps B E W 1 cnt N Bg En Wt Be = some (r, c', N', Bg', En', Wt', Be') ∧ f_X5_chosen k th many mB mE mW T mBe Odr Fr To Ct = some (r, 0, mBe', Odr', Fr', To', Ct') := by
  obtain ⟨n, b, e, w, P, O, C, fa, dr, hS, hX, hM, hb⟩ := h.norm
  obtain ⟨hG, hC, hO, hf1, hf2⟩ := id hS
  obtain ⟨rfl, x2, x3, x4, x5, x6, x7, x8, x9⟩ := id hX
  obtain ⟨rfl, m2, m3, m4, m5, m6, m7, m8, m9⟩ := id hM
  have hn := hG.1
  obtain ⟨m, σ, N1, B1, E1, W1, hR, hRW, hfill⟩ := fill_eq (S := P) (byE := true) (cnt := cnt) (N := N) (Bg := Bg) (En := En) (Wt := Wt) hk hn (fun i => by have := hb i; omega) x2 x7 x8 x9
  have hR2 : ROWS n P e m σ := hR
  obtain ⟨β, Be', h1, h2, h3⟩ := chosenSet_eq (Be := Be) hk hG hR2 hRW
  obtain ⟨mBe', Odr', Fr', To', Ct', h4⟩ := X5_chosen_eq (th := th) (Be := mBe) (Odr := Odr) (Fr := Fr) (To := To) (Ct := Ct) hk hG m4 m5 m6 m7 hR2 h1 h2
  refine ⟨cw β (gam n P b e σ) σ m m 0, nI m, N1, B1, E1, W1, Be', mBe', Odr', Fr', To', Ct', ?_, h4⟩
  unfold f_X4_chosen
  have hfill2 : f_X4_fill k ps (nI n) B E W 1 cnt N Bg En Wt = some (nI m, N1, B1, E1, W1) := hfill
  rw [hfill2, xb_s]
  try dsimp only
  rw [h3, xb_s]
end CHO
