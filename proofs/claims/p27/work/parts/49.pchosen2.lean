/-! chosen. -/
section CH2
variable {k n m : Nat} {P : Nat → Bool} {b e w σ : Nat → Nat} {B E W T : Nat → Int32}
/-- the walk back -/
def cw (β γ σ : Nat → Nat) : Nat → Nat → Int64 → Int64
  | 0, _, s => s
  | f + 1, j, s => if j = 0 then s else if β j = β (j - 1) then cw β γ σ f (j - 1) s else cw β γ σ f (γ j) (s ||| lN (2 ^ σ (j - 1)))
theorem cw_0 (β γ σ : Nat → Nat) (f : Nat) (s : Int64) : cw β γ σ f 0 s = s := by
  cases f with
  | zero => rfl
  | succ f => exact if_pos rfl
theorem cw_same {β γ σ : Nat → Nat} {f x : Nat} {s : Int64} (h : β (x + 1) = β x) : cw β γ σ (f + 1) (x + 1) s = cw β γ σ f x s := by
  show (if x + 1 = 0 then s else if β (x + 1) = β (x + 1 - 1) then cw β γ σ f (x + 1 - 1) s else _) = _
  rw [if_neg (by omega), Nat.add_sub_cancel, if_pos h]
theorem cw_take {β γ σ : Nat → Nat} {f x : Nat} {s : Int64} (h : ¬ β (x + 1) = β x) : cw β γ σ (f + 1) (x + 1) s = cw β γ σ f (γ (x + 1)) (s ||| lN (2 ^ σ x)) := by
  show (if x + 1 = 0 then s else if β (x + 1) = β (x + 1 - 1) then _ else cw β γ σ f (γ (x + 1)) (s ||| lN (2 ^ σ (x + 1 - 1)))) = _
  rw [if_neg (by omega), Nat.add_sub_cancel, if_neg h]
def gam (n : Nat) (P : Nat → Bool) (b e σ : Nat → Nat) (j : Nat) : Nat := fb_ct (fun i => P i && decide (e i ≤ b (σ (j - 1)))) n
theorem chosenSet_eq {N Bg En Wt Be : Nat → Int32} (hk : 10000 ≤ k) (hg : GD n b e w) (hR : ROWS n P e m σ) (hW : RW m σ b e w N Bg En Wt) :
    ∃ (β : Nat → Nat) (Be' : Nat → Int32), (∀ p, p ≤ m → β p ≤ 40000 ∧ IsM n (ovl b e) w (pre σ p) (β p)) ∧ (∀ x, x < m → gam n P b e σ (x + 1) ≤ x) ∧ f_X2_chosenSet k (nI m) N Bg En Wt Be = some (cw β (gam n P b e σ) σ m m 0, Be') := by
  have hn := hg.1
  obtain ⟨hS, hin, hall, hmn⟩ := id hR
  have hz : ∀ i, i < n → P i = true → b i < e i ∧ e i ≤ 3000 ∧ w i ≤ 1000 := fun i hi _ => by have := hg.2 i hi; omega
  obtain ⟨Be', v, h1, h2, h3⟩ := greatestWeight_eq (Be := Be) hk hn hR hW hz (fun i hi => (hg.2 i hi).2.2.2)
  have hβ : ∀ p, p ≤ m → Be' p = nI (Be' p).toNatClampNeg ∧ (Be' p).toNatClampNeg ≤ 40000 ∧ IsM n (ovl b e) w (pre σ p) (Be' p).toNatClampNeg := by
    intro p hp
    obtain ⟨v, hv1, hv2⟩ := h1 p hp
    have := hv2.le (fun i hi => (hg.2 i hi).2.2.2)
    rw [hv1, nI_clamp (by omega)]
    exact ⟨rfl, by omega, hv2⟩
  have hγ : ∀ x, x < m → gam n P b e σ (x + 1) ≤ x ∧ f_X2_endedBy k (nI (b (σ x))) (nI m) En = some (nI (gam n P b e σ (x + 1))) := by
    intro x hx
    have hgx := hg.2 (σ x) (hin x hx).1
    obtain ⟨r, hr1, hr2, hr3⟩ := endedBy_eq (t := b (σ x)) hk hn hR hW hz (by omega)
    have : gam n P b e σ (x + 1) = r := by
      unfold gam
      rw [Nat.add_sub_cancel]
      exact ct_row (Z := fun i => decide (e i ≤ b (σ x))) hR hr1 fun q hq => by rw [hr2 q hq, decide_eq_true_iff]
    rw [this]
    refine ⟨?_, hr3⟩
    have := hr2 x hx
    omega
  refine ⟨fun p => (Be' p).toNatClampNeg, Be', fun p hp => (hβ p hp).2, fun x hx => (hγ x hx).1, ?_⟩
  unfold f_X2_chosenSet
  rw [h3, xb_s]
  try dsimp only
  have key : ∀ x fu f c s, x < fu → x ≤ m → c ≤ 40 → min c x ≤ f → f_X2_chosenSet_L24 k (nI m) N Bg En Be' (fun (v1_15 : Int64) (v3_16 : Int32) (v4_17 : Int32) => some (v1_15, Be')) fu s (nI c) (nI x) = some (cw (fun p => (Be' p).toNatClampNeg) (gam n P b e σ) σ f (min c x) s, Be') := by
    intro x
    induction x with
    | zero =>
      intro fu f c s h1 h2 h3 h4
      obtain ⟨fu, rfl⟩ : ∃ q, fu = q + 1 := ⟨fu - 1, by omega⟩
      rw [f_X2_chosenSet_L24_s, if_pos (show nI 0 ≤ (0 : Int32) by decide), Nat.min_zero, cw_0]
    | succ x ih =>
      intro fu f c s h1 h2 h3 h4
      obtain ⟨fu, rfl⟩ : ∃ q, fu = q + 1 := ⟨fu - 1, by omega⟩
      rw [f_X2_chosenSet_L24_s, if_neg (nI_nle (by omega) (by omega)), nI_pred, pk_m1]
      by_cases c1 : c < x + 1
      · rw [if_pos (nI_lt c1 (by omega)), ih fu f c s (by omega) (by omega) h3 (by omega), show min c x = min c (x + 1) by omega]
      · have hmin : min c (x + 1) = x + 1 := by omega
        have hminx : min c x = x := by omega
        rw [hmin] at h4 ⊢
        obtain ⟨f, rfl⟩ : ∃ q, f = q + 1 := ⟨f - 1, by omega⟩
        obtain ⟨q1, q2, q3, q4⟩ := hW x (by omega)
        obtain ⟨p1, p2, -⟩ := hβ (x + 1) h2
        obtain ⟨p3, p4, -⟩ := hβ x (by omega)
        obtain ⟨g1, g2⟩ := hγ x (by omega)
        have hsx := (hin x (by omega)).1
        rw [if_neg (nI_nlt (by omega) (by omega)), xi_nI (by omega) (by omega), xi_nI (by omega) (by omega), nI_clamp (show x + 1 < 2 ^ 31 by omega), nI_clamp (show x < 2 ^ 31 by omega)]
        by_cases c2 : (Be' (x + 1)).toNatClampNeg = (Be' x).toNatClampNeg
        · rw [if_pos (by rw [p1, p3, c2]), ih fu f c s (by omega) (by omega) h3 (by omega), hminx, cw_same (β := fun p => (Be' p).toNatClampNeg) c2]
        · rw [if_neg (fun q => c2 (by rw [q])), xi_nI (by omega) (by omega), q1, only_eq k (by omega), xb_s, xi_nI (by omega) (by omega), q2, g2, xb_s, ih fu f _ _ (by omega) (by omega) (by omega) (by omega), cw_take (β := fun p => (Be' p).toNatClampNeg) c2, show min (gam n P b e σ (x + 1)) x = gam n P b e σ (x + 1) by omega]
  have := key m k m m 0 (by omega) (Nat.le_refl _) (by omega) (by omega)
  rw [Nat.min_self] at this
  exact this
end CH2
