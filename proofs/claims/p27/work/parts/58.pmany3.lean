/-! Several rooms: what the class answers. -/
def ISR (n : Nat) (b e w : Nat → Nat) (Q : Nat → Bool) (R v : Nat) : Prop := (∃ S : Nat → Bool, (∀ j, j < n → S j = true → Q j = true) ∧ (∀ t, dep n b e S t ≤ R) ∧ wsum S w n = v) ∧ ∀ S : Nat → Bool, (∀ j, j < n → S j = true → Q j = true) → (∀ t, dep n b e S t ≤ R) → wsum S w n ≤ v
theorem ISR.one {n R u v : Nat} {b e w : Nat → Nat} {Q : Nat → Bool} (h1 : ISR n b e w Q R u) (h2 : ISR n b e w Q R v) : u = v := by
  obtain ⟨⟨S, s1, s2, s3⟩, h1⟩ := h1
  obtain ⟨⟨T, r1, r2, r3⟩, h2⟩ := h2
  have := h1 T r1 r2
  have := h2 S s1 s2
  omega
theorem ISR.cong {n R v : Nat} {b e w : Nat → Nat} {Q Q2 : Nat → Bool} (h : ISR n b e w Q R v) (hq : ∀ j, j < n → Q j = Q2 j) : ISR n b e w Q2 R v := by
  obtain ⟨⟨S, s1, s2, s3⟩, h⟩ := h
  exact ⟨⟨S, fun j h1 h2 => by rw [← hq j h1]; exact s1 j h1 h2, s2, s3⟩, fun T r1 r2 => h T (fun j h1 h2 => by rw [hq j h1]; exact r1 j h1 h2) r2⟩
theorem ct_sm (f : Nat → Bool) : ∀ n, fb_ct f n = fb_sm (fun i => if f i = true then 1 else 0) n := by
  intro n
  induction n with
  | zero => rfl
  | succ n ih => rw [fb_ct_succ, fb_sm_succ, ih]
section RIX
variable {n m : Nat} {P : Nat → Bool} {key σ : Nat → Nat}
theorem rix (hR : ROWS n P key m σ) (f : Nat → Nat) (h0 : ∀ j, j < n → P j = false → f j = 0) : fb_sm f n = fb_sm (fun i => f (σ i)) m := by
  obtain ⟨hS, hin, hall, hmn⟩ := hR
  have key : ∀ r, r ≤ m → fb_sm (fun j => if cs σ r j = true then f j else 0) n = fb_sm (fun i => f (σ i)) r := by
    intro r
    induction r with
    | zero =>
      intro _
      have : fb_sm (fun j => if cs σ 0 j = true then f j else 0) n = fb_sm (fun _ => 0) n := fb_sm_cong fun j _ => rfl
      rw [this, fb_sm_const, Nat.mul_zero]; rfl
    | succ r ih =>
      intro hr
      rw [fb_sm_succ, ← ih (by omega)]
      have h2 : cs σ r (σ r) = false := by
        cases h : cs σ r (σ r) with
        | false => rfl
        | true =>
          obtain ⟨p, hp, he⟩ := (cs_iff σ r (σ r)).mp h
          exact absurd he (hS.inj hp (by omega))
      have h3 := fb_sm_upd (fun j => if cs σ r j = true then f j else 0) (f (σ r)) (hin r (by omega)).1
      try dsimp only at h3
      rw [h2] at h3
      simp only [Bool.false_eq_true, if_false] at h3
      have h4 : fb_sm (fun j => if cs σ (r + 1) j = true then f j else 0) n = fb_sm (fun k => if k = σ r then f (σ r) else if cs σ r k = true then f k else 0) n := fb_sm_cong fun k _ => by
        show (if fs (cs σ r) (σ r) true k = true then f k else 0) = _
        by_cases c : k = σ r
        · rw [if_pos c, c, fs_at, if_pos rfl]
        · rw [if_neg c, fs_ne _ _ c]
      rw [h4]; omega
  rw [← key m (Nat.le_refl _)]
  refine fb_sm_cong fun j hj => ?_
  by_cases c : cs σ m j = true
  · rw [if_pos c]
  · rw [if_neg c]
    refine h0 j hj ?_
    cases hp : P j with
    | false => rfl
    | true => exact absurd ((cs_iff σ m j).mpr (hall j hj hp)) c
end RIX
section FM
variable {k n m : Nat} {P : Nat → Bool} {b e w σ st : Nat → Nat}
theorem dep_row (hR : ROWS n P b m σ) {S : Nat → Bool} (hS : ∀ j, j < n → S j = true → P j = true) (t : Nat) : dep n b e S t = fb_ct (fun i => S (σ i) && (decide (b (σ i) ≤ t) && decide (t < e (σ i)))) m := by
  unfold dep
  rw [ct_sm, ct_sm]
  exact rix hR (fun j => if (S j && (decide (b j ≤ t) && decide (t < e j))) = true then 1 else 0) fun j hj hp => by
    try dsimp only
    rw [if_neg]
    intro h
    simp only [Bool.and_eq_true] at h
    rw [hS j hj h.1] at hp; cases hp
theorem wsum_row (hR : ROWS n P b m σ) {S : Nat → Bool} (hS : ∀ j, j < n → S j = true → P j = true) : wsum S w n = wtU m yes (fun i => w (σ i)) (fun i => S (σ i)) := by
  unfold wsum wtU
  refine rix hR (fun j => if S j = true then w j else 0) fun j hj hp => ?_
  try dsimp only
  rw [if_neg]
  intro h
  rw [hS j hj h] at hp; cases hp
theorem cut_row (hg : GD n b e w) (hR : ROWS n P b m σ) (hst : ∀ i, i < m → i < st i ∧ st i ≤ m ∧ ∀ v, i + 1 ≤ v → v < m → (v < st i ↔ b (σ v) < e (σ i))) {S : Nat → Bool} (hS : ∀ j, j < n → S j = true → P j = true) (R : Nat) : (∀ t, dep n b e S t ≤ R) ↔ ∀ v, v < m → crs m yes idn st (fun i => S (σ i)) v ≤ R := by
  obtain ⟨hSR, hin, hall, hmn⟩ := id hR
  constructor
  · intro h v hv
    refine Nat.le_trans ?_ (h (b (σ v)))
    rw [dep_row hR hS]
    refine fb_ct_sub fun i hi hq => ?_
    simp only [Bool.and_eq_true, decide_eq_true_eq] at hq ⊢
    obtain ⟨⟨-, q1⟩, q2, q3⟩ := hq
    have q2' : i ≤ v := q2
    refine ⟨q1, hSR.key_le q2' hv, ?_⟩
    by_cases c : i = v
    · rw [c]; exact (hg.2 (σ v) (hin v hv).1).1
    · exact ((hst i hi).2.2 v (by omega) hv).mp q3
  · intro h t
    rw [dep_row hR hS]
    rcases Nat.eq_zero_or_pos (fb_ct (fun i => S (σ i) && (decide (b (σ i) ≤ t) && decide (t < e (σ i)))) m) with h0 | h0
    · omega
    · obtain ⟨i0, hi0, hp0⟩ := fb_ct_pos.mp h0
      obtain ⟨v, hv, hmax, -⟩ := fb_best (fun i => if (S (σ i) && (decide (b (σ i) ≤ t) && decide (t < e (σ i)))) = true then (i : Int) else -1) (n := m) (by omega)
      have h1 := hmax i0 hi0
      rw [if_pos hp0] at h1
      have hvp : (S (σ v) && (decide (b (σ v) ≤ t) && decide (t < e (σ v)))) = true := by
        by_cases hq : (S (σ v) && (decide (b (σ v) ≤ t) && decide (t < e (σ v)))) = true
        · exact hq
        · rw [if_neg hq] at h1; omega
      rw [if_pos hvp] at hmax
      refine Nat.le_trans (fb_ct_sub fun i hi hq => ?_) (h v hv)
      have h2 := hmax i hi
      rw [if_pos hq] at h2
      simp only [Bool.and_eq_true, decide_eq_true_eq] at hq hvp ⊢
      refine ⟨⟨rfl, hq.1⟩, ?_, ?_⟩
      · show i ≤ v
        omega
      · by_cases c : i = v
        · rw [c]; exact (hst v hv).1
        · exact ((hst i hi).2.2 v (by omega) hv).mpr (by omega)
theorem forMany_eq {R : Nat} {x : Int64} {S : Nat → Bool} {B E W : Nat → Int32} {cnt : Int32} {N Bg En Wt St Tk Wg Ga CF BT : Nat → Int32} (hk : 10000 ≤ k) (hg : GD n b e w) (hb : ∀ i, b i ≤ 1000 ∧ e i ≤ 1000 ∧ w i ≤ 1000) (hx : ST x n S) (hB : AR n B b) (hE : AR n E e) (hW : AR n W w) (hR6 : R ≤ 6) :
    ∃ v c' N' Bg' En' Wt' St' Tk' Wg' Ga' CF' BT', v ≤ 40000 ∧ ISR n b e w S R v ∧ f_X4_heaviestForMany k x (nI R) (nI n) B E W 0 cnt N Bg En Wt St Tk Wg Ga CF BT = some (nI v, c', N', Bg', En', Wt', St', Tk', Wg', Ga', CF', BT') := by
  have hn := hg.1
  obtain ⟨m, σ, N1, B1, E1, W1, hR, hRW, hfill⟩ := fill_eq (S := S) (byE := false) (cnt := cnt) (N := N) (Bg := Bg) (En := En) (Wt := Wt) hk hn (fun i => by have := hb i; omega) hx hB hE hW
  have hR2 : ROWS n S b m σ := hR
  obtain ⟨hSR, hin, hall, hmn⟩ := id hR2
  have hww : ∀ i, i < m → (fun i => w (σ i)) i ≤ 1000 := fun i _ => (hb (σ i)).2.2
  obtain ⟨st, U, fl, St', Tk', Wg', Ga', CF', BT', s1, s2, s3, s4⟩ := X1_greatestWeight_eq (k := k) (R := R) (bb := fun i => b (σ i)) (ee := fun i => e (σ i)) (ww := fun i => w (σ i)) (Bg := B1) (En := E1) (Wt := W1) (St := St) (Tk := Tk) (Wg := Wg) (Ga := Ga) (CF := CF) (BT := BT) hk (by omega) hR6 (fun p hp => (hRW p hp).2.1) (fun p hp => (hRW p hp).2.2.1) (fun p hp => (hRW p hp).2.2.2) (fun i _ => ⟨(hb (σ i)).1, (hb (σ i)).2.1⟩) hww (fun i j hij hj => hSR.key_le hij hj)
  have hle := wtU_le (AL := yes) (U := U) hww
  obtain ⟨o1, o2⟩ := s3.best s2
  refine ⟨wtU m yes (fun i => w (σ i)) U, nI m, N1, B1, E1, W1, St', Tk', Wg', Ga', CF', BT', by omega, ⟨?_, fun T t1 t2 => ?_⟩, ?_⟩
  · have hinj : ∀ i j, i < m → j < m → σ i = σ j → i = j := by
      intro i j hi hj h
      rcases Nat.lt_trichotomy i j with h1 | h1 | h1
      · exact absurd h (hSR.inj h1 hj)
      · exact h1
      · exact absurd h.symm (hSR.inj h1 hi)
    have hT : ∀ j, j < n → (fun j => @decide (∃ i, i < m ∧ σ i = j ∧ U i = true) (Classical.propDecidable _)) j = true → S j = true := by
      intro j hj h
      obtain ⟨i, hi, rfl, _⟩ := @of_decide_eq_true _ (Classical.propDecidable _) h
      exact (hin i hi).2
    have hTU : ∀ i, i < m → (fun j => @decide (∃ i, i < m ∧ σ i = j ∧ U i = true) (Classical.propDecidable _)) (σ i) = U i := by
      intro i hi
      rw [Bool.eq_iff_iff]
      constructor
      · intro h
        obtain ⟨i', hi', he, hu⟩ := @of_decide_eq_true _ (Classical.propDecidable _) h
        rw [← hinj i' i hi' hi he]; exact hu
      · intro h
        exact @decide_eq_true _ (Classical.propDecidable _) ⟨i, hi, rfl, h⟩
    refine ⟨fun j => @decide (∃ i, i < m ∧ σ i = j ∧ U i = true) (Classical.propDecidable _), hT, (cut_row hg hR2 s1 hT R).mpr fun v hv => Nat.le_trans (fb_ct_sub fun i hi hq => ?_) (o1 v hv), ?_⟩
    · rw [hTU i hi] at hq; exact hq
    · rw [wsum_row hR2 hT]
      exact fb_sm_cong fun i hi => by rw [hTU i hi]
  · rw [wsum_row hR2 t1]
    exact o2 _ ((cut_row hg hR2 s1 t1 R).mp t2)
  · unfold f_X4_heaviestForMany
    have hfill2 : f_X4_fill k x (nI n) B E W 0 cnt N Bg En Wt = some (nI m, N1, B1, E1, W1) := hfill
    rw [hfill2, xb_s]
    try dsimp only
    rw [s4, xb_s]
end FM
