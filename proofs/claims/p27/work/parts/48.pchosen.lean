/-! most, chosen. -/
section CH
variable {k n : Nat} {P : Nat → Bool} {b e w : Nat → Nat} {B E W T : Nat → Int32}
def OI (n : Nat) (P : Nat → Bool) (e : Nat → Nat) (M m : Nat) (σ : Nat → Nat) (A : Nat → Int32) : Prop := SRT m σ e ∧ (∀ p, p < m → σ p < n ∧ P (σ p) = true ∧ mu e (σ p) < M) ∧ (∀ j, j < n → P j = true → mu e j < M → ∃ p, p < m ∧ σ p = j) ∧ ∀ p, p < m → A p = nI (σ p)
theorem OI.le {M m : Nat} {σ : Nat → Nat} {A : Nat → Int32} (h : OI n P e M m σ A) : m ≤ n := fb_holes n m σ (fun i hi => (h.2.1 i hi).1) (fun i j hij hj => h.1.inj hij hj)
theorem OI.skip {M M2 m : Nat} {σ : Nat → Nat} {A : Nat → Int32} (h : OI n P e M m σ A) (hM : ∀ j, j < n → P j = true → (mu e j < M ↔ mu e j < M2)) : OI n P e M2 m σ A := by
  obtain ⟨h1, h2, h3, h4⟩ := h
  refine ⟨h1, fun p hp => ?_, fun j hj hp hm => h3 j hj hp ((hM j hj hp).mpr hm), h4⟩
  obtain ⟨q1, q2, q3⟩ := h2 p hp
  exact ⟨q1, q2, (hM _ q1 q2).mp q3⟩
theorem OI.put {m i : Nat} {σ : Nat → Nat} {A : Nat → Int32} (hn : n ≤ 40) (h : OI n P e (mu e i) m σ A) (hi : i < n) (hp : P i = true) : m + 1 ≤ n ∧ OI n P e (mu e i + 1) (m + 1) (fs σ m i) (upd A m (nI i)) := by
  obtain ⟨h1, h2, h3, h4⟩ := h
  have hs : SRT (m + 1) (fs σ m i) e := by
    intro p q hpq hq
    have hpm : p ≠ m := by omega
    rw [fs_ne _ _ hpm]
    by_cases c : q = m
    · rw [c, fs_at]
      have h5 := h2 p (by omega)
      have h6 := h5.2.2
      unfold mu at h6
      omega
    · rw [fs_ne _ _ c]; exact h1 p q hpq (by omega)
  have hin : ∀ p, p < m + 1 → fs σ m i p < n ∧ P (fs σ m i p) = true ∧ mu e (fs σ m i p) < mu e i + 1 := by
    intro p hp2
    by_cases c : p = m
    · rw [c, fs_at]; exact ⟨hi, hp, Nat.lt_succ_self _⟩
    · rw [fs_ne _ _ c]
      have := h2 p (by omega)
      exact ⟨this.1, this.2.1, by omega⟩
  refine ⟨fb_holes n (m + 1) (fs σ m i) (fun i hi => (hin i hi).1) (fun i j hij hj => hs.inj hij hj), hs, hin, fun j hj hpj hm => ?_, fun p hp2 => ?_⟩
  · by_cases c : mu e j < mu e i
    · obtain ⟨p, hp2, he⟩ := h3 j hj hpj c
      exact ⟨p, by omega, by rw [fs_ne _ _ (by omega)]; exact he⟩
    · refine ⟨m, by omega, ?_⟩
      rw [fs_at]
      unfold mu at hm c
      omega
  · unfold upd
    by_cases c : p = m
    · rw [if_pos c, c, fs_at]
    · rw [if_neg c, fs_ne _ _ c]; exact h4 p (by omega)
/-- the first numbers of an order, as a set -/
def cs (σ : Nat → Nat) : Nat → Nat → Bool
  | 0 => fun _ => false
  | q + 1 => fs (cs σ q) (σ q) true
theorem cs_iff (σ : Nat → Nat) (q j : Nat) : cs σ q j = true ↔ pre σ q j := by
  induction q with
  | zero => exact ⟨fun h => (by cases h), fun ⟨p, hp, _⟩ => absurd hp (Nat.not_lt_zero p)⟩
  | succ q ih =>
    show fs (cs σ q) (σ q) true j = true ↔ _
    unfold fs
    by_cases c : j = σ q
    · rw [if_pos c]
      exact ⟨fun _ => ⟨q, by omega, c.symm⟩, fun _ => rfl⟩
    · rw [if_neg c, ih]
      constructor
      · rintro ⟨p, hp, he⟩
        exact ⟨p, by omega, he⟩
      · rintro ⟨p, hp, he⟩
        have : p ≠ q := by
          intro h9
          rw [h9] at he; exact c he.symm
        exact ⟨p, by omega, he⟩
theorem cs_ct {m : Nat} {σ key : Nat → Nat} (hS : SRT m σ key) (hin : ∀ p, p < m → σ p < n) : ∀ r, r ≤ m → fb_ct (cs σ r) n = r := by
  intro r
  induction r with
  | zero => intro _; exact fb_ct_zero.mpr fun _ _ => rfl
  | succ r ih =>
    intro hr
    have h1 := ih (by omega)
    have h2 : cs σ r (σ r) = false := by
      cases h : cs σ r (σ r) with
      | false => rfl
      | true =>
        obtain ⟨p, hp, he⟩ := (cs_iff σ r (σ r)).mp h
        exact absurd he (hS.inj hp (by omega))
    have h3 := fb_ct_upd (cs σ r) true (hin r (by omega))
    rw [h2, h1, if_pos rfl] at h3
    have h4 : fb_ct (cs σ (r + 1)) n = fb_ct (fun k => if k = σ r then true else cs σ r k) n := rfl
    rw [h4]
    simp only [Bool.false_eq_true, if_false] at h3
    omega
theorem ct_row {m r : Nat} {σ : Nat → Nat} {Z : Nat → Bool} (hR : ROWS n P e m σ) (hr : r ≤ m) (h : ∀ q, q < m → (q < r ↔ Z (σ q) = true)) : fb_ct (fun i => P i && Z i) n = r := by
  obtain ⟨hS, hin, hall, hmn⟩ := hR
  rw [← cs_ct hS (fun p hp => (hin p hp).1) r hr]
  refine fb_ct_cong fun j hj => ?_
  rw [Bool.eq_iff_iff, cs_iff, Bool.and_eq_true]
  constructor
  · rintro ⟨h1, h2⟩
    obtain ⟨q, hq, rfl⟩ := hall j hj h1
    exact ⟨q, (h q hq).mpr h2, rfl⟩
  · rintro ⟨q, hq, rfl⟩
    exact ⟨(hin q (by omega)).2, (h q (by omega)).mp hq⟩
theorem ROWS.one {m m2 : Nat} {σ σ2 : Nat → Nat} (hn : n ≤ 64) (h1 : ROWS n P e m σ) (h2 : ROWS n P e m2 σ2) : m = m2 ∧ ∀ q, q < m → σ q = σ2 q := by
  have pos : ∀ {m σ}, ROWS n P e m σ → ∀ q, q < m → fb_ct (fun i => P i && decide (mu e i < mu e (σ q))) n = q := by
    intro m σ h q hq
    have hs : ∀ p, p < m → σ p < 64 := fun p hp => by have := (h.2.1 p hp).1; omega
    refine ct_row (Z := fun i => decide (mu e i < mu e (σ q))) h (by omega) fun p hp => ?_
    rw [decide_eq_true_iff]
    constructor
    · intro h3; exact h.1.lt_mu hs h3 hq
    · intro h3
      rcases Nat.lt_trichotomy p q with h4 | h4 | h4
      · exact h4
      · rw [h4] at h3; omega
      · have := h.1.lt_mu hs h4 hp; omega
  have all : ∀ {m σ}, ROWS n P e m σ → fb_ct (fun i => P i && true) n = m := fun h => ct_row (Z := fun _ => true) h (Nat.le_refl _) fun q hq => ⟨fun _ => rfl, fun _ => hq⟩
  refine ⟨by rw [← all h1, ← all h2], fun q hq => ?_⟩
  obtain ⟨p, hp, he⟩ := h2.2.2.1 (σ q) (h1.2.1 q hq).1 (h1.2.1 q hq).2
  have h3 := pos h1 q hq
  have h4 := pos h2 p hp
  rw [he, h3] at h4
  subst h4
  exact he.symm
def gr (σ b e : Nat → Nat) : Nat → Nat × Nat
  | 0 => (0, 0)
  | p + 1 => if b (σ p) < (gr σ b e p).2 then gr σ b e p else ((gr σ b e p).1 + 1, e (σ p))
theorem gr_le {m : Nat} {σ : Nat → Nat} (hg : GD n b e w) (hin : ∀ p, p < m → σ p < n) : ∀ p, p ≤ m → (gr σ b e p).1 ≤ p ∧ (gr σ b e p).2 ≤ 1000 := by
  intro p
  induction p with
  | zero => intro _; exact ⟨Nat.le_refl _, Nat.zero_le _⟩
  | succ p ih =>
    intro hp
    have h1 := ih (by omega)
    have h2 := hg.2 (σ p) (hin p (by omega))
    unfold gr
    by_cases c : b (σ p) < (gr σ b e p).2
    · rw [if_pos c]; omega
    · rw [if_neg c]; dsimp only; omega
theorem gr_cong {m : Nat} {σ σ2 : Nat → Nat} (h : ∀ q, q < m → σ q = σ2 q) : ∀ p, p ≤ m → gr σ b e p = gr σ2 b e p := by
  intro p
  induction p with
  | zero => intro _; rfl
  | succ p ih =>
    intro hp
    unfold gr
    rw [ih (by omega), h p (by omega)]
theorem greatestNumber_eq {m : Nat} {σ : Nat → Nat} {N Bg En Wt : Nat → Int32} (hk : 10000 ≤ k) (hg : GD n b e w) (hR : ROWS n P e m σ) (hW : RW m σ b e w N Bg En Wt) : f_X2_greatestNumber k (nI m) Bg En = some (nI (gr σ b e m).1) := by
  obtain ⟨hS, hin, hall, hmn⟩ := hR
  have hn := hg.1
  have hl := gr_le hg (fun p hp => (hin p hp).1)
  unfold f_X2_greatestNumber
  refine loopG (fun f (s : Int32 × Int32 × Int32) => f_X2_greatestNumber_L6 k (nI m) Bg En (fun (v1_5 : Int32) (v2_6 : Int32) (v3_7 : Int32) => some v1_5) f s.1 s.2.1 s.2.2) _ m (fun i => (nI (gr σ b e i).1, nI (gr σ b e i).2, nI i)) ?_ ?_ k (by omega)
  · intro f i hi
    dsimp only
    have h1 := hl i (by omega)
    have h2 := hg.2 (σ i) (hin i hi).1
    rw [f_X2_greatestNumber_L6_s, if_neg (nI_ge hi (by omega)), xi_nI (by omega) (by omega), nI_clamp (show i < 2 ^ 31 by omega), (hW i hi).2.1, (hW i hi).2.2.1, xi_nI (by omega) (by omega)]
    rw [show gr σ b e (i + 1) = if b (σ i) < (gr σ b e i).2 then gr σ b e i else ((gr σ b e i).1 + 1, e (σ i)) from rfl]
    by_cases c : b (σ i) < (gr σ b e i).2
    · rw [if_pos (nI_lt c (by omega)), if_pos c, nI_1]
    · rw [if_neg (nI_nlt (Nat.not_lt.mp c) (by omega)), if_neg c, nI_1, nI_1]
  · intro f
    dsimp only
    rw [f_X2_greatestNumber_L6_s, if_pos (nI_le (Nat.le_refl _) (by omega))]
end CH
