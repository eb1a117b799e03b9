/-! most, chosen. -/
section CH
variable {k n : Nat} {P : Nat → Bool} {b e w : Nat → Nat} {B E W T : Nat → Int32}
def OI (n : Nat) (P : Nat → Bool) (e : Nat → Nat) (M m : Nat) (σ : Nat → Nat) (A : Nat → Int32) : Prop := SRT m σ e ∧ (∀ p, p < m → σ p < n ∧ P (σ p) = true ∧ mu e (σ p) < M) ∧ (∀ j, j < n → P j = true → mu e j < M → ∃ p, p < m ∧ σ p = j) ∧ ∀ p, p < m → A p = nI (σ p)
theorem OI.le {M m : Nat} {σ : Nat → Nat} {A : Nat → Int32} (h : OI n P e M m σ A) : m ≤ n := fb_holes n m σ (fun i hi => (h.2.1 i hi).1) (fun i j hij hj => h.1.inj hij hj)
theorem OI.skip {M M2 m : Nat} {σ : Nat → Nat} {A : Nat → Int32} (h : OI n P e M m σ A) (hM : ∀ j, j < n → P j = true → (mu e j < M ↔ mu e j < M2)) : OI n P e M2 m σ A := by
  obtain ⟨h1, h2, h3, h4⟩ := h
  refine ⟨h1, fun p hp => ?_, fun j hj hp hm => h3 j hj hp ((hM j hj hp).mpr hm), h4⟩
  obtain ⟨q1, q2, q3⟩ := h2 p hp
  exact ⟨q1, q2, (hM _ q1 q2).mp q3⟩
theorem OI.put {m i : Nat} {σ : Nat → Nat} {A : Nat → Int32} (hn : n ≤ 40) (h : OI n P e (mu e i) m σ A) (hi : i < n) (hp : P i = true) : m + 1 ≤ n ∧ OI n P e (mu e i + 1) (m + 1) (fs σ m i) (upd A m (nI i)) := by
  obtain ⟨h1, h2, h3, h4⟩ := h
  have hs : SRT (m + 1) (fs σ m i) e := by
    intro p q hpq hq
    have hpm : p ≠ m := by omega
    rw [fs_ne _ _ hpm]
    by_cases c : q = m
    · rw [c, fs_at]
      have h5 := h2 p (by omega)
      have h6 := h5.2.2
      unfold mu at h6
      omega
    · rw [fs_ne _ _ c]; exact h1 p q hpq (by omega)
  have hin : ∀ p, p < m + 1 → fs σ m i p < n ∧ P (fs σ m i p) = true ∧ mu e (fs σ m i p) < mu e i + 1 := by
    intro p hp2
    by_cases c : p = m
    · rw [c, fs_at]; exact ⟨hi, hp, Nat.lt_succ_self _⟩
    · rw [fs_ne _ _ c]
      have := h2 p (by omega)
      exact ⟨this.1, this.2.1, by omega⟩
  refine ⟨fb_holes n (m + 1) (fs σ m i) (fun i hi => (hin i hi).1) (fun i j hij hj => hs.inj hij hj), hs, hin, fun j hj hpj hm => ?_, fun p hp2 => ?_⟩
  · by_cases c : mu e j < mu e i
    · obtain ⟨p, hp2, he⟩ := h3 j hj hpj c
      exact ⟨p, by omega, by rw [fs_ne _ _ (by omega)]; exact he⟩
    · refine ⟨m, by omega, ?_⟩
      rw [fs_at]
      unfold mu at hm c
      omega
  · unfold upd
    by_cases c : p = m
    · rw [if_pos c, c, fs_at]
    · rw [if_neg c, fs_ne _ _ c]; exact h4 p (by omega)
theorem layOrder_L13 {t m : Nat} {σ : Nat → Nat} {A : Nat → Int32} {Qp : Option (Int32 × (Nat → Int32)) → Prop} {κ : Int32 → Int32 → (Nat → Int32) → Option (Int32 × (Nat → Int32))} (hk : 10000 ≤ k) (hg : GD n b e w) (hT : BZ n T P) (hE : AR n E e) (ht : t ≤ 1000) (h0 : OI n P e (t * 64) m σ A)
    (hQ : ∀ v m' σ' A', OI n P e (t * 64 + 64) m' σ' A' → Qp (κ (nI m') v A')) : Qp (f_X5_layOrder_L13 k (nI t) (nI n) E T κ k (nI m) 0 A) := by
  have hn := hg.1
  refine loopE (fun f (s : Int32 × Int32 × (Nat → Int32)) => f_X5_layOrder_L13 k (nI t) (nI n) E T κ f s.1 s.2.1 s.2.2) Qp n (fun i s => s.2.1 = nI i ∧ ∃ m' σ', s.1 = nI m' ∧ OI n P e (t * 64 + i) m' σ' s.2.2) ?_ ?_ k (nI m, 0, A) (by omega) ⟨rfl, m, σ, rfl, h0⟩
  · rintro f i ⟨x, y, A1⟩ hi ⟨rfl, m', σ', rfl, hI⟩
    refine Or.inl ?_
    dsimp only at hI ⊢
    have hgi := hg.2 i hi
    have hsk : (P i = true → e i ≠ t) → OI n P e (t * 64 + (i + 1)) m' σ' A1 := by
      intro h
      refine hI.skip fun j hj hp => ?_
      unfold mu
      by_cases c : j = i
      · subst c
        have := h hp
        omega
      · omega
    rw [f_X5_layOrder_L13_s, if_neg (nI_ge hi (by omega)), xi_nI (by omega) (by omega), nI_clamp (show i < 2 ^ 31 by omega)]
    by_cases hp : P i = true
    · rw [if_neg (by rw [bz_0 hT hi, hp]; simp), xi_nI (by omega) (by omega), hE i hi]
      by_cases hb : e i = t
      · subst hb
        obtain ⟨hm1, hp2⟩ := hI.put hn hi hp
        rw [if_pos rfl, xi_nI (by omega) (by omega), nI_clamp (show m' < 2 ^ 31 by omega), nI_1, nI_1]
        exact ⟨(nI (m' + 1), nI (i + 1), upd A1 m' (nI i)), ⟨rfl, m' + 1, fs σ' m' i, rfl, hp2⟩, rfl⟩
      · rw [if_neg (fun q => hb ((nI_eq (by omega) (by omega)).mp q)), nI_1]
        exact ⟨(nI m', nI (i + 1), A1), ⟨rfl, m', σ', rfl, hsk fun _ => hb⟩, rfl⟩
    · rw [if_pos (by rw [bz_0 hT hi]; simpa using hp), nI_1]
      exact ⟨(nI m', nI (i + 1), A1), ⟨rfl, m', σ', rfl, hsk fun q => absurd q hp⟩, rfl⟩
  · rintro f ⟨x, y, A1⟩ ⟨rfl, m', σ', rfl, hI⟩
    dsimp only at hI ⊢
    rw [f_X5_layOrder_L13_s, if_pos (nI_le (Nat.le_refl _) (by omega))]
    refine hQ _ _ σ' _ (hI.skip fun j hj hp => ?_)
    unfold mu; omega
theorem layOrder_eq {A : Nat → Int32} (hk : 10000 ≤ k) (hg : GD n b e w) (hT : BZ n T P) (hE : AR n E e) :
    ∃ m σ A', ROWS n P e m σ ∧ (∀ p, p < m → A' p = nI (σ p)) ∧ f_X5_layOrder k (nI n) E T A = some (nI m, A') := by
  have hn := hg.1
  unfold f_X5_layOrder
  have key : ∀ d f t m σ A1, t + d = 1001 → d < f → OI n P e (t * 64) m σ A1 → (fun res => ∃ m σ A', ROWS n P e m σ ∧ (∀ p, p < m → A' p = nI (σ p)) ∧ res = some (nI m, A')) (f_X5_layOrder_L4 k (nI n) E T (fun (v1_11 : Int32) (v2_12 : Int32) (A_order_13 : Nat → Int32) => some (v1_11, A_order_13)) f (nI m) (nI t) A1) := by
    intro d
    induction d with
    | zero =>
      intro f t m σ A1 h1 h2 h3
      obtain ⟨f, rfl⟩ : ∃ q, f = q + 1 := ⟨f - 1, by omega⟩
      have : t = 1001 := by omega
      subst this
      rw [f_X5_layOrder_L4_s, if_pos (show (1000 : Int32) < nI 1001 by decide)]
      refine ⟨m, σ, A1, ⟨h3.1, fun p hp => ⟨(h3.2.1 p hp).1, (h3.2.1 p hp).2.1⟩, fun j hj hp => h3.2.2.1 j hj hp ?_, h3.le⟩, h3.2.2.2, rfl⟩
      have := hg.2 j hj
      unfold mu; omega
    | succ d ih =>
      intro f t m σ A1 h1 h2 h3
      obtain ⟨f, rfl⟩ : ∃ q, f = q + 1 := ⟨f - 1, by omega⟩
      rw [f_X5_layOrder_L4_s, if_neg (show ¬ (1000 : Int32) < nI t from nI_nlt (b := t) (a := 1000) (by omega) (by omega))]
      refine layOrder_L13 (Qp := fun res => ∃ m σ A', ROWS n P e m σ ∧ (∀ p, p < m → A' p = nI (σ p)) ∧ res = some (nI m, A')) hk hg hT hE (by omega) h3 fun v m' σ' A2 h4 => ?_
      try dsimp only
      rw [nI_1]
      exact ih f (t + 1) m' σ' A2 (by omega) (by omega) (by rw [Nat.add_mul, Nat.one_mul]; exact h4)
  refine key 1000 k 1 0 (fun x => x) A (by omega) (by omega) ⟨fun p q _ h => absurd h (Nat.not_lt_zero q), fun p h => absurd h (Nat.not_lt_zero p), fun j hj hp hm => ?_, fun p h => absurd h (Nat.not_lt_zero p)⟩
  have := hg.2 j hj
  unfold mu at hm; omega
/-- the first numbers of an order, as a set -/
def cs (σ : Nat → Nat) : Nat → Nat → Bool
  | 0 => fun _ => false
  | q + 1 => fs (cs σ q) (σ q) true
theorem cs_iff (σ : Nat → Nat) (q j : Nat) : cs σ q j = true ↔ pre σ q j := by
  induction q with
  | zero => exact ⟨fun h => (by cases h), fun ⟨p, hp, _⟩ => absurd hp (Nat.not_lt_zero p)⟩
  | succ q ih =>
    show fs (cs σ q) (σ q) true j = true ↔ _
    unfold fs
    by_cases c : j = σ q
    · rw [if_pos c]
      exact ⟨fun _ => ⟨q, by omega, c.symm⟩, fun _ => rfl⟩
    · rw [if_neg c, ih]
      constructor
      · rintro ⟨p, hp, he⟩
        exact ⟨p, by omega, he⟩
      · rintro ⟨p, hp, he⟩
        have : p ≠ q := by
          intro h9
          rw [h9] at he; exact c he.symm
        exact ⟨p, by omega, he⟩
theorem cs_ct {m : Nat} {σ key : Nat → Nat} (hS : SRT m σ key) (hin : ∀ p, p < m → σ p < n) : ∀ r, r ≤ m → fb_ct (cs σ r) n = r := by
  intro r
  induction r with
  | zero => intro _; exact fb_ct_zero.mpr fun _ _ => rfl
  | succ r ih =>
    intro hr
    have h1 := ih (by omega)
    have h2 : cs σ r (σ r) = false := by
      cases h : cs σ r (σ r) with
      | false => rfl
      | true =>
        obtain ⟨p, hp, he⟩ := (cs_iff σ r (σ r)).mp h
        exact absurd he (hS.inj hp (by omega))
    have h3 := fb_ct_upd (cs σ r) true (hin r (by omega))
    rw [h2, h1, if_pos rfl] at h3
    have h4 : fb_ct (cs σ (r + 1)) n = fb_ct (fun k => if k = σ r then true else cs σ r k) n := rfl
    rw [h4]
    simp only [Bool.false_eq_true, if_false] at h3
    omega
theorem ct_row {m r : Nat} {σ : Nat → Nat} {Z : Nat → Bool} (hR : ROWS n P e m σ) (hr : r ≤ m) (h : ∀ q, q < m → (q < r ↔ Z (σ q) = true)) : fb_ct (fun i => P i && Z i) n = r := by
  obtain ⟨hS, hin, hall, hmn⟩ := hR
  rw [← cs_ct hS (fun p hp => (hin p hp).1) r hr]
  refine fb_ct_cong fun j hj => ?_
  rw [Bool.eq_iff_iff, cs_iff, Bool.and_eq_true]
  constructor
  · rintro ⟨h1, h2⟩
    obtain ⟨q, hq, rfl⟩ := hall j hj h1
    exact ⟨q, (h q hq).mpr h2, rfl⟩
  · rintro ⟨q, hq, rfl⟩
    exact ⟨(hin q (by omega)).2, (h q (by omega)).mp hq⟩
theorem ROWS.one {m m2 : Nat} {σ σ2 : Nat → Nat} (hn : n ≤ 64) (h1 : ROWS n P e m σ) (h2 : ROWS n P e m2 σ2) : m = m2 ∧ ∀ q, q < m → σ q = σ2 q := by
  have pos : ∀ {m σ}, ROWS n P e m σ → ∀ q, q < m → fb_ct (fun i => P i && decide (mu e i < mu e (σ q))) n = q := by
    intro m σ h q hq
    have hs : ∀ p, p < m → σ p < 64 := fun p hp => by have := (h.2.1 p hp).1; omega
    refine ct_row (Z := fun i => decide (mu e i < mu e (σ q))) h (by omega) fun p hp => ?_
    rw [decide_eq_true_iff]
    constructor
    · intro h3; exact h.1.lt_mu hs h3 hq
    · intro h3
      rcases Nat.lt_trichotomy p q with h4 | h4 | h4
      · exact h4
      · rw [h4] at h3; omega
      · have := h.1.lt_mu hs h4 hp; omega
  have all : ∀ {m σ}, ROWS n P e m σ → fb_ct (fun i => P i && true) n = m := fun h => ct_row (Z := fun _ => true) h (Nat.le_refl _) fun q hq => ⟨fun _ => rfl, fun _ => hq⟩
  refine ⟨by rw [← all h1, ← all h2], fun q hq => ?_⟩
  obtain ⟨p, hp, he⟩ := h2.2.2.1 (σ q) (h1.2.1 q hq).1 (h1.2.1 q hq).2
  have h3 := pos h1 q hq
  have h4 := pos h2 p hp
  rw [he, h3] at h4
  subst h4
  exact he.symm
def gr (σ b e : Nat → Nat) : Nat → Nat × Nat
  | 0 => (0, 0)
  | p + 1 => if b (σ p) < (gr σ b e p).2 then gr σ b e p else ((gr σ b e p).1 + 1, e (σ p))
theorem gr_le {m : Nat} {σ : Nat → Nat} (hg : GD n b e w) (hin : ∀ p, p < m → σ p < n) : ∀ p, p ≤ m → (gr σ b e p).1 ≤ p ∧ (gr σ b e p).2 ≤ 1000 := by
  intro p
  induction p with
  | zero => intro _; exact ⟨Nat.le_refl _, Nat.zero_le _⟩
  | succ p ih =>
    intro hp
    have h1 := ih (by omega)
    have h2 := hg.2 (σ p) (hin p (by omega))
    unfold gr
    by_cases c : b (σ p) < (gr σ b e p).2
    · rw [if_pos c]; omega
    · rw [if_neg c]; dsimp only; omega
theorem gr_cong {m : Nat} {σ σ2 : Nat → Nat} (h : ∀ q, q < m → σ q = σ2 q) : ∀ p, p ≤ m → gr σ b e p = gr σ2 b e p := by
  intro p
  induction p with
  | zero => intro _; rfl
  | succ p ih =>
    intro hp
    unfold gr
    rw [ih (by omega), h p (by omega)]
theorem greatestNumber_eq {m : Nat} {σ : Nat → Nat} {N Bg En Wt : Nat → Int32} (hk : 10000 ≤ k) (hg : GD n b e w) (hR : ROWS n P e m σ) (hW : RW m σ b e w N Bg En Wt) : f_X2_greatestNumber k (nI m) Bg En = some (nI (gr σ b e m).1) := by
  obtain ⟨hS, hin, hall, hmn⟩ := hR
  have hn := hg.1
  have hl := gr_le hg (fun p hp => (hin p hp).1)
  unfold f_X2_greatestNumber
  refine loopG (fun f (s : Int32 × Int32 × Int32) => f_X2_greatestNumber_L6 k (nI m) Bg En (fun (v1_5 : Int32) (v2_6 : Int32) (v3_7 : Int32) => some v1_5) f s.1 s.2.1 s.2.2) _ m (fun i => (nI (gr σ b e i).1, nI (gr σ b e i).2, nI i)) ?_ ?_ k (by omega)
  · intro f i hi
    dsimp only
    have h1 := hl i (by omega)
    have h2 := hg.2 (σ i) (hin i hi).1
    rw [f_X2_greatestNumber_L6_s, if_neg (nI_ge hi (by omega)), xi_nI (by omega) (by omega), nI_clamp (show i < 2 ^ 31 by omega), (hW i hi).2.1, (hW i hi).2.2.1, xi_nI (by omega) (by omega)]
    rw [show gr σ b e (i + 1) = if b (σ i) < (gr σ b e i).2 then gr σ b e i else ((gr σ b e i).1 + 1, e (σ i)) from rfl]
    by_cases c : b (σ i) < (gr σ b e i).2
    · rw [if_pos (nI_lt c (by omega)), if_pos c, nI_1]
    · rw [if_neg (nI_nlt (Nat.not_lt.mp c) (by omega)), if_neg c, nI_1, nI_1]
  · intro f
    dsimp only
    rw [f_X2_greatestNumber_L6_s, if_pos (nI_le (Nat.le_refl _) (by omega))]
theorem most_L17_eq {m : Nat} {σ : Nat → Nat} {A : Nat → Int32} {κ : Int32 → Int32 → Int32 → Option (Int32 × Int32 × (Nat → Int32))} (hk : 10000 ≤ k) (hg : GD n b e w) (hB : AR n B b) (hE : AR n E e) (hR : ROWS n P e m σ) (hA : ∀ p, p < m → A p = nI (σ p)) : f_X5_most_L17 k (nI m) B E A κ k 0 0 0 = κ (nI (gr σ b e m).1) (nI (gr σ b e m).2) (nI m) := by
  obtain ⟨hS, hin, hall, hmn⟩ := hR
  have hn := hg.1
  have hl := gr_le hg (fun p hp => (hin p hp).1)
  refine loopG (fun f (s : Int32 × Int32 × Int32) => f_X5_most_L17 k (nI m) B E A κ f s.1 s.2.1 s.2.2) _ m (fun i => (nI (gr σ b e i).1, nI (gr σ b e i).2, nI i)) ?_ ?_ k (by omega)
  · intro f i hi
    dsimp only
    have h1 := hl i (by omega)
    have h0 := (hin i hi).1
    have h2 := hg.2 (σ i) h0
    rw [f_X5_most_L17_s, if_neg (nI_ge hi (by omega)), xi_nI (by omega) (by omega), nI_clamp (show i < 2 ^ 31 by omega), hA i hi, xi_nI (by omega) (by omega), nI_clamp (show σ i < 2 ^ 31 by omega), hB _ h0, hE _ h0, xi_nI (by omega) (by omega), xi_nI (by omega) (by omega)]
    rw [show gr σ b e (i + 1) = if b (σ i) < (gr σ b e i).2 then gr σ b e i else ((gr σ b e i).1 + 1, e (σ i)) from rfl]
    by_cases c : b (σ i) < (gr σ b e i).2
    · rw [if_pos (nI_lt c (by omega)), if_pos c, nI_1]
    · rw [if_neg (nI_nlt (Nat.not_lt.mp c) (by omega)), if_neg c, nI_1, nI_1]
  · intro f
    dsimp only
    rw [f_X5_most_L17_s, if_pos (nI_le (Nat.le_refl _) (by omega))]
end CH
section MOST
variable {k : Nat} {p p2 p3 added fac drop th many mfac mdrop : Int32} {ps os as : Int64} {B E W mB mE mW T TO TC : Nat → Int32} {out : Nat → Int64}
theorem law_most {cnt : Int32} {N Bg En Wt Or : Nat → Int32} (hk : 10000 ≤ k) (h : INV added ps fac os as drop B E W many mfac mdrop mB mE mW T TO TC) :
    ∃ (r c' : Int32) (N' Bg' En' Wt' Or' : Nat → Int32), f_X4_most k added ps B E W 1 cnt N Bg En Wt = some (r, c', N', Bg', En', Wt') ∧ f_X5_most k th many mB mE T Or = some (r, 0, Or') := by
  obtain ⟨n, b, e, w, P, O, C, fa, dr, hS, hX, hM, hb⟩ := h.norm
  obtain ⟨hG, hC, hO, hf1, hf2⟩ := id hS
  obtain ⟨rfl, x2, x3, x4, x5, x6, x7, x8, x9⟩ := id hX
  obtain ⟨rfl, m2, m3, m4, m5, m6, m7, m8, m9⟩ := id hM
  have hn := hG.1
  obtain ⟨m, σ, N1, B1, E1, W1, hR, hRW, hfill⟩ := fill_eq (S := P) (byE := true) (cnt := cnt) (N := N) (Bg := Bg) (En := En) (Wt := Wt) hk hn (fun i => by have := hb i; omega) x2 x7 x8 x9
  have hR2 : ROWS n P e m σ := hR
  obtain ⟨m', σ', A', hR3, hA, hlay⟩ := layOrder_eq (A := Or) hk hG m7 m5
  obtain ⟨rfl, hσ⟩ := ROWS.one (by omega) hR3 hR2
  refine ⟨nI (gr σ b e m').1, nI m', N1, B1, E1, W1, A', ?_, ?_⟩
  · unfold f_X4_most
    have hfill2 : f_X4_fill k ps (nI n) B E W 1 cnt N Bg En Wt = some (nI m', N1, B1, E1, W1) := hfill
    rw [hfill2, xb_s]
    try dsimp only
    rw [greatestNumber_eq hk hG hR2 hRW, xb_s]
  · unfold f_X5_most
    rw [hlay, xb_s]
    try dsimp only
    rw [most_L17_eq hk hG m4 m5 hR3 hA, gr_cong hσ m' (Nat.le_refl _)]
end MOST
