/-! Several rooms: what one more room can bring at most. -/
theorem fb_sm_mulc (f : Nat → Nat) (c : Nat) : ∀ n, fb_sm (fun v => f v * c) n = fb_sm f n * c
  | 0 => (Nat.zero_mul c).symm
  | n + 1 => by rw [fb_sm_succ, fb_sm_succ, fb_sm_mulc f c n, Nat.add_mul]
section ND
variable {N m : Nat} {AL : Nat → Bool} {p q w : Nat → Nat} {U : Nat → Bool} {fl D : Nat → Nat} {R : Nat}
theorem net_dual (hk : NOK N m AL p q w) (hD : VP N m AL p q w U fl D) (hD0 : D 0 = 0) (hcut : ∀ v, v < N → fl v + crs m AL p q U v = R) (T : Nat → Bool) {R' : Nat} (hT : ∀ v, v < N → crs m AL p q T v ≤ R') : wtU m AL w T + R * D N ≤ wtU m AL w U + R' * D N := by
  have hm : ∀ v, v < N → D v ≤ D (v + 1) := fun v hv => vp_up hD (Nat.le_succ v) (by omega)
  have e1 := dbl hk hm T m (Nat.le_refl _)
  have e2 := dbl hk hm U m (Nat.le_refl _)
  have h1 : wtU m AL w T ≤ fb_sm (fun j => (if (AL j && T j) = true then D (q j) - D (p j) else 0) + (if (AL j && U j) = true then w j - (D (q j) - D (p j)) else 0)) m := fb_sm_le fun j hj => by
    try dsimp only
    by_cases c : (AL j && T j) = true
    · rw [if_pos c, if_pos c]
      have ca := c
      rw [Bool.and_eq_true] at ca
      cases hu : U j with
      | true =>
        rw [ca.1, Bool.and_true, if_pos rfl]; omega
      | false =>
        have := hD 2 j (p j) (q j) (w j) 0 (Or.inr (Or.inr (Or.inl ⟨rfl, rfl, rfl, hj, ca.1, hu, rfl, rfl⟩)))
        omega
    · rw [if_neg c]; omega
  have h3 : wtU m AL w U = fb_sm (fun j => (if (AL j && U j) = true then D (q j) - D (p j) else 0) + (if (AL j && U j) = true then w j - (D (q j) - D (p j)) else 0)) m := fb_sm_cong fun j hj => by
    try dsimp only
    by_cases c : (AL j && U j) = true
    · rw [if_pos c, if_pos c, if_pos c]
      have ca := c
      rw [Bool.and_eq_true] at ca
      have := hD 3 j (q j) (p j) 0 (w j) (Or.inr (Or.inr (Or.inr ⟨rfl, rfl, rfl, hj, ca.1, ca.2, rfl, rfl⟩)))
      omega
    · rw [if_neg c, if_neg c, if_neg c]
  rw [fb_sm_add] at h1 h3
  have h2 : fb_sm (fun v => (D (v + 1) - D v) * crs m AL p q T v + (D (v + 1) - D v) * R) N ≤ fb_sm (fun v => (D (v + 1) - D v) * crs m AL p q U v + (D (v + 1) - D v) * R') N := fb_sm_le fun v hv => by
    try dsimp only
    have c1 := hcut v hv
    have c2 := hT v hv
    rcases Nat.eq_zero_or_pos (fl v) with c | c
    · have c3 : crs m AL p q U v = R := by omega
      rw [c3, Nat.add_comm]
      exact Nat.add_le_add_left (Nat.mul_le_mul_left _ c2) _
    · have := hD 1 v (v + 1) v 0 0 (Or.inr (Or.inl ⟨rfl, rfl, rfl, hv, c, rfl, rfl⟩))
      rw [show D (v + 1) - D v = 0 by omega, Nat.zero_mul, Nat.zero_mul, Nat.zero_mul, Nat.zero_mul]
      exact Nat.le_refl _
  rw [fb_sm_add, fb_sm_add, fb_sm_mulc, fb_sm_mulc] at h2
  have h4 : fb_sm (fun v => D (v + 1) - D v) N = D N := by
    have h5 := tele0 D (a := 0) (b := N) (Nat.zero_le _) N hm
    have h6 : fb_sm (fun v => if 0 ≤ v ∧ v < N then D (v + 1) - D v else 0) N = fb_sm (fun v => D (v + 1) - D v) N := fb_sm_cong fun v hv => if_pos ⟨Nat.zero_le v, hv⟩
    rw [h6, Nat.min_eq_left (Nat.zero_le N), Nat.min_self, hD0] at h5
    omega
  rw [h4, Nat.mul_comm (D N) R, Nat.mul_comm (D N) R'] at h2
  omega
end ND
def DUAL (n : Nat) (b e w : Nat → Nat) (P : Nat → Bool) (R v g : Nat) : Prop := ∀ (R' : Nat) (T : Nat → Bool), (∀ j, j < n → T j = true → P j = true) → (∀ t, dep n b e T t ≤ R') → wsum T w n + R * g ≤ v + R' * g
section FD
variable {k n m : Nat} {P : Nat → Bool} {b e w σ st : Nat → Nat}
theorem forMany_dual {R : Nat} {x : Int64} {S : Nat → Bool} {B E W : Nat → Int32} {cnt : Int32} {N Bg En Wt St Tk Wg Ga CF BT : Nat → Int32} (hk : 10000 ≤ k) (hg : GD n b e w) (hb : ∀ i, b i ≤ 1000 ∧ e i ≤ 1000 ∧ w i ≤ 1000) (hx : ST x n S) (hB : AR n B b) (hE : AR n E e) (hW : AR n W w) (hR6 : R ≤ 6) :
    ∃ v g c' N' Bg' En' Wt' St' Tk' Wg' Ga' CF' BT', v ≤ 40000 ∧ ISR n b e w S R v ∧ DUAL n b e w S R v g ∧ f_X4_heaviestForMany k x (nI R) (nI n) B E W 0 cnt N Bg En Wt St Tk Wg Ga CF BT = some (nI v, c', N', Bg', En', Wt', St', Tk', Wg', Ga', CF', BT') := by
  have hn := hg.1
  obtain ⟨v0, c0, N0, B0, E0, W0, S0, T0, G0, A0, C0, D0, hv0, hisr, hf0⟩ := forMany_eq (R := R) (cnt := cnt) (N := N) (Bg := Bg) (En := En) (Wt := Wt) (St := St) (Tk := Tk) (Wg := Wg) (Ga := Ga) (CF := CF) (BT := BT) hk hg hb hx hB hE hW hR6
  obtain ⟨m, σ, N1, B1, E1, W1, hR, hRW, hfill⟩ := fill_eq (S := S) (byE := false) (cnt := cnt) (N := N) (Bg := Bg) (En := En) (Wt := Wt) hk hn (fun i => by have := hb i; omega) hx hB hE hW
  have hR2 : ROWS n S b m σ := hR
  obtain ⟨hSR, hin, hall, hmn⟩ := id hR2
  have hww : ∀ i, i < m → (fun i => w (σ i)) i ≤ 1000 := fun i _ => (hb (σ i)).2.2
  obtain ⟨st, U, fl, St', Tk', Wg', Ga', CF', BT', s1, s2, s3, s4⟩ := X1_greatestWeight_eq (k := k) (R := R) (bb := fun i => b (σ i)) (ee := fun i => e (σ i)) (ww := fun i => w (σ i)) (Bg := B1) (En := E1) (Wt := W1) (St := St) (Tk := Tk) (Wg := Wg) (Ga := Ga) (CF := CF) (BT := BT) hk (by omega) hR6 (fun p hp => (hRW p hp).2.1) (fun p hp => (hRW p hp).2.2.1) (fun p hp => (hRW p hp).2.2.2) (fun i _ => ⟨(hb (σ i)).1, (hb (σ i)).2.1⟩) hww (fun i j hij hj => hSR.key_le hij hj)
  have hle := wtU_le (AL := yes) (U := U) hww
  obtain ⟨⟨D, d1, d2, d3⟩, d4⟩ := s3
  have hf1 : f_X4_heaviestForMany k x (nI R) (nI n) B E W 0 cnt N Bg En Wt St Tk Wg Ga CF BT = some (nI (wtU m yes (fun i => w (σ i)) U), nI m, N1, B1, E1, W1, St', Tk', Wg', Ga', CF', BT') := by
    unfold f_X4_heaviestForMany
    have hfill2 : f_X4_fill k x (nI n) B E W 0 cnt N Bg En Wt = some (nI m, N1, B1, E1, W1) := hfill
    rw [hfill2, xb_s]
    try dsimp only
    rw [s4, xb_s]
  have hv : v0 = wtU m yes (fun i => w (σ i)) U := by
    rw [hf1] at hf0
    have h9 := congrArg (fun o => o.map (fun z => z.1)) hf0
    have h8 : nI (wtU m yes (fun i => w (σ i)) U) = nI v0 := Option.some.inj h9
    exact ((nI_eq (by omega) (by omega)).mp h8).symm
  refine ⟨v0, D m, c0, N0, B0, E0, W0, S0, T0, G0, A0, C0, D0, hv0, hisr, fun R' T t1 t2 => ?_, hf0⟩
  rw [wsum_row hR2 t1, hv]
  exact net_dual s2 d1 d2 d4 _ ((cut_row hg hR2 s1 t1 R').mp t2)
theorem heaviestIn_eq {R : Nat} {x : Int64} {B E W : Nat → Int32} {cnt : Int32} {N Bg En Wt St Tk Wg Ga CF BT : Nat → Int32} (hk : 10000 ≤ k) (hg : GD n b e w) (hb : ∀ i, b i ≤ 1000 ∧ e i ≤ 1000 ∧ w i ≤ 1000) (hx : ST x n P) (hB : AR n B b) (hE : AR n E e) (hW : AR n W w) (hR1 : 1 ≤ R) (hR6 : R ≤ 6) :
    ∃ v g c' N' Bg' En' Wt' St' Tk' Wg' Ga' CF' BT', v ≤ 40000 ∧ ISR n b e w P R v ∧ DUAL n b e w P R v g ∧ f_X4_heaviestIn k (nI R) (nI n) x B E W 0 cnt N Bg En Wt St Tk Wg Ga CF BT = some (.ok (nI v, c', N', Bg', En', Wt', St', Tk', Wg', Ga', CF', BT')) := by
  obtain ⟨v, g, c', N', Bg', En', Wt', St', Tk', Wg', Ga', CF', BT', h1, h2, h3, h4⟩ := forMany_dual (R := R) (cnt := cnt) (N := N) (Bg := Bg) (En := En) (Wt := Wt) (St := St) (Tk := Tk) (Wg := Wg) (Ga := Ga) (CF := CF) (BT := BT) hk hg hb hx hB hE hW hR6
  refine ⟨v, g, c', N', Bg', En', Wt', St', Tk', Wg', Ga', CF', BT', h1, h2, h3, ?_⟩
  unfold f_X4_heaviestIn f_X4_requirePlannedRooms
  rw [if_neg (show ¬ nI R < 1 from nI_nlt (a := R) (b := 1) hR1 (by omega)), if_pos (show nI R ≤ 6 from nI_le (b := 6) hR6 (by omega)), xe_s, h4, xb_s]
theorem ISR.zero (hg : GD n b e w) (P : Nat → Bool) : ISR n b e w P 0 0 := by
  have hz : ∀ S : Nat → Bool, (∀ t, dep n b e S t ≤ 0) → ∀ j, j < n → S j = false := by
    intro S h j hj
    cases hs : S j with
    | false => rfl
    | true =>
      have := h (b j)
      have h2 := dep_pos hg hj hs
      omega
  refine ⟨⟨fun _ => false, fun j _ q => (Bool.noConfusion q), fun t => ?_, wsum_zero fun j _ => rfl⟩, fun S _ h => ?_⟩
  · have : dep n b e (fun _ => false) t = 0 := fb_ct_zero.mpr fun i hi => by simp
    omega
  · rw [wsum_zero (hz S h)]; exact Nat.le_refl _
theorem ISR.mono {R R2 u v : Nat} (h1 : ISR n b e w P R u) (h2 : ISR n b e w P R2 v) (h : R ≤ R2) : u ≤ v := by
  obtain ⟨⟨S, s1, s2, s3⟩, -⟩ := h1
  rw [← s3]
  exact h2.2 S s1 (fun t => Nat.le_trans (s2 t) h)
/-- more rooms bring more, but less and less -/
theorem gains {R u v x g : Nat} (h1 : ISR n b e w P R u) (h2 : ISR n b e w P (R + 1) v) (hd : DUAL n b e w P (R + 1) v g) (h3 : ISR n b e w P (R + 2) x) : x ≤ v + (v - u) := by
  obtain ⟨⟨S, s1, s2, s3⟩, -⟩ := h1
  obtain ⟨⟨T, t1, t2, t3⟩, -⟩ := h3
  have a1 := hd R S s1 s2
  have a2 := hd (R + 2) T t1 t2
  rw [s3] at a1
  rw [t3] at a2
  have e1 : (R + 1) * g = R * g + g := by rw [Nat.add_mul, Nat.one_mul]
  have e2 : (R + 2) * g = R * g + g + g := by rw [Nat.add_mul, Nat.two_mul, Nat.add_assoc]
  omega
end FD
