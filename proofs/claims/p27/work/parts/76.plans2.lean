/-! The law's look at the plans. -/
theorem xj_Q {α β : Type} {Q : β → Prop} {a : α} {f : α → β} (h : ∀ j, j = a → Q (f j)) : Q (xj a f) := h a rfl
def OKP (res : Option (Int32 × Int32 × (Nat → Int32) × (Nat → Int32) × (Nat → Int32) × (Nat → Int32) × (Nat → Int32) × Int32 × (Nat → Int32) × (Nat → Int32) × (Nat → Int32) × (Nat → Int32) × (Nat → Int32) × (Nat → Int32) × (Nat → Int32) × (Nat → Int32) × (Nat → Int32) × (Nat → Int32))) : Prop := ∃ o0 o1 o2 o3 o4 o5 m0 m1 m2 m3 m4 m5 m6 m7 m8 m9 m10, res = some (1, o0, o1, o2, o3, o4, o5, m0, m1, m2, m3, m4, m5, m6, m7, m8, m9, m10)
section PS
variable {k n : Nat} {P : Nat → Bool} {b e w : Nat → Nat} {B E W : Nat → Int32} {ps : Int64}
theorem L7_eq (hk : 10000 ≤ k) (hg : GD n b e w) (hb : ∀ i, b i ≤ 1000 ∧ e i ≤ 1000 ∧ w i ≤ 1000) (hx : ST ps n P) (hB : AR n B b) (hE : AR n E e) (hW : AR n W w) {κ : Int32 → Int32 → Int32 → Int32 → (Nat → Int32) → (Nat → Int32) → (Nat → Int32) → (Nat → Int32) → (Nat → Int32) → (Nat → Int32) → (Nat → Int32) → (Nat → Int32) → (Nat → Int32) → (Nat → Int32) → Option (Int32 × Int32 × (Nat → Int32) × (Nat → Int32) × (Nat → Int32) × (Nat → Int32) × (Nat → Int32) × Int32 × (Nat → Int32) × (Nat → Int32) × (Nat → Int32) × (Nat → Int32) × (Nat → Int32) × (Nat → Int32) × (Nat → Int32) × (Nat → Int32) × (Nat → Int32) × (Nat → Int32))} {Qp : Option (Int32 × Int32 × (Nat → Int32) × (Nat → Int32) × (Nat → Int32) × (Nat → Int32) × (Nat → Int32) × Int32 × (Nat → Int32) × (Nat → Int32) × (Nat → Int32) × (Nat → Int32) × (Nat → Int32) × (Nat → Int32) × (Nat → Int32) × (Nat → Int32) × (Nat → Int32) × (Nat → Int32)) → Prop} (o0 : Int32) (o1 o2 o3 o4 o5 : Nat → Int32) (hQ : ∀ u x y z0 z1 z2 z3 z4 z5 z6 z7 z8 z9 z10, u ≤ 40000 → ISR n b e w P 6 u → Qp (κ (nI u) x y z0 z1 z2 z3 z4 z5 z6 z7 z8 z9 z10)) (z0 : Int32) (z1 z2 z3 z4 z5 z6 z7 z8 z9 z10 : Nat → Int32) : Qp (f_L_arePlansSo_L7 k (nI n) ps B E W o0 o1 o2 o3 o4 o5 0 κ k 0 999999 1 z0 z1 z2 z3 z4 z5 z6 z7 z8 z9 z10) := by
  refine loopE (fun f (s : Int32 × Int32 × Int32 × Int32 × (Nat → Int32) × (Nat → Int32) × (Nat → Int32) × (Nat → Int32) × (Nat → Int32) × (Nat → Int32) × (Nat → Int32) × (Nat → Int32) × (Nat → Int32) × (Nat → Int32)) => f_L_arePlansSo_L7 k (nI n) ps B E W o0 o1 o2 o3 o4 o5 0 κ f s.1 s.2.1 s.2.2.1 s.2.2.2.1 s.2.2.2.2.1 s.2.2.2.2.2.1 s.2.2.2.2.2.2.1 s.2.2.2.2.2.2.2.1 s.2.2.2.2.2.2.2.2.1 s.2.2.2.2.2.2.2.2.2.1 s.2.2.2.2.2.2.2.2.2.2.1 s.2.2.2.2.2.2.2.2.2.2.2.1 s.2.2.2.2.2.2.2.2.2.2.2.2.1 s.2.2.2.2.2.2.2.2.2.2.2.2.2) Qp 6
    (fun a s => s.2.2.1 = nI (a + 1) ∧ ∃ u g0, s.1 = nI u ∧ s.2.1 = nI g0 ∧ u ≤ 40000 ∧ g0 ≤ 999999 ∧ ISR n b e w P a u ∧ ∀ v, v ≤ 40000 → ISR n b e w P (a + 1) v → v ≤ u + g0) ?_ ?_ k (0, 999999, 1, z0, z1, z2, z3, z4, z5, z6, z7, z8, z9, z10) (by omega) ⟨rfl, 0, 999999, rfl, rfl, by omega, by omega, ISR.zero hg P, fun v hv _ => by omega⟩
  · rintro f a ⟨x0, x1, x2, z0, z1, z2, z3, z4, z5, z6, z7, z8, z9, z10⟩ ha ⟨rfl, u, g0, rfl, rfl, h1, h2, h3, h4⟩
    refine Or.inl ?_
    try dsimp only
    obtain ⟨v, g, y0, y1, y2, y3, y4, y5, y6, y7, y8, y9, y10, j1, j2, j3, j4⟩ := heaviestIn_eq (R := a + 1) (cnt := z0) (N := z1) (Bg := z2) (En := z3) (Wt := z4) (St := z5) (Tk := z6) (Wg := z7) (Ga := z8) (CF := z9) (BT := z10) hk hg hb hx hB hE hW (by omega) (by omega)
    have hm := h3.mono j2 (by omega)
    have hu := h4 v j1 j2
    rw [f_L_arePlansSo_L7_s, if_neg (show ¬ (6 : Int32) < nI (a + 1) from nI_nlt (a := 6) (b := a + 1) (by omega) (by omega)), j4, xo_s]
    try dsimp only
    rw [if_neg (nI_nlt hm (by omega)), pk_sub (by omega), if_pos (nI_le (show v - u ≤ g0 by omega) (by omega)), nI_1]
    refine ⟨(nI v, nI (v - u), nI (a + 1 + 1), y0, y1, y2, y3, y4, y5, y6, y7, y8, y9, y10), ⟨rfl, v, v - u, rfl, rfl, j1, by omega, j2, fun x _ hx2 => ?_⟩, rfl⟩
    exact gains h3 j2 j3 hx2
  · rintro f ⟨x0, x1, x2, z0, z1, z2, z3, z4, z5, z6, z7, z8, z9, z10⟩ ⟨rfl, u, g0, rfl, rfl, h1, h2, h3, h4⟩
    try dsimp only
    rw [f_L_arePlansSo_L7_s, if_pos (show (6 : Int32) < nI (6 + 1) from by decide)]
    exact hQ _ _ _ _ _ _ _ _ _ _ _ _ _ _ h1 h3
theorem arePlansSo_eq (hk : 10000 ≤ k) (hg : GD n b e w) (hb : ∀ i, b i ≤ 1000 ∧ e i ≤ 1000 ∧ w i ≤ 1000) (hx : ST ps n P) (hB : AR n B b) (hE : AR n E e) (hW : AR n W w) (hl : ∀ j, j < n → e j - b j ≤ 30) (o0 : Int32) (o1 o2 o3 o4 o5 : Nat → Int32) (z0 : Int32) (z1 z2 z3 z4 z5 z6 z7 z8 z9 z10 : Nat → Int32) : OKP (f_L_arePlansSo k (nI n) ps B E W 1 o0 o1 o2 o3 o4 o5 0 z0 z1 z2 z3 z4 z5 z6 z7 z8 z9 z10) := by
  have hn := hg.1
  obtain ⟨r, hrn, hr, hrooms⟩ := rooms_eq hk hg hx hB hE
  unfold f_L_arePlansSo
  refine L7_eq (Qp := OKP) hk hg hb hx hB hE hW o0 o1 o2 o3 o4 o5 (fun u x y z0 z1 z2 z3 z4 z5 z6 z7 z8 z9 z10 hu6 hu => ?_) z0 z1 z2 z3 z4 z5 z6 z7 z8 z9 z10
  try dsimp only
  obtain ⟨v, g, y0, y1, y2, y3, y4, y5, y6, y7, y8, y9, y10, j1, j2, j3, j4⟩ := heaviestIn_eq (R := 1) (cnt := z0) (N := z1) (Bg := z2) (En := z3) (Wt := z4) (St := z5) (Tk := z6) (Wg := z7) (Ga := z8) (CF := z9) (BT := z10) hk hg hb hx hB hE hW (by omega) (by omega)
  have j4' : f_X4_heaviestIn k 1 (nI n) ps B E W 0 z0 z1 z2 z3 z4 z5 z6 z7 z8 z9 z10 = _ := j4
  rw [j4', xo_s]
  try dsimp only
  obtain ⟨v2, a0, a1, a2, a3, a4, a5, i1, i2, i3⟩ := heaviest_eq (cnt := o0) (N := o1) (Bg := o2) (En := o3) (Wt := o4) (Be := o5) hk hg hb hx hB hE hW
  have hv : v = v2 := (isr_one hg j2).one i2
  subst hv
  rw [i3, xb_s]
  try dsimp only
  refine xj_Q (Q := OKP) (fun j120 e120 => ?_)
  try dsimp only
  have h120 : ∀ (o0 : Int32) (o1 o2 o3 o4 o5 : Nat → Int32), OKP (j120 1 o0 o1 o2 o3 o4 o5) := by
    intro o0 o1 o2 o3 o4 o5
    rw [e120]
    try dsimp only
    rw [if_neg (by decide), hrooms, xb_s]
    refine xj_Q (Q := OKP) (fun j153 e153 => ?_)
    try dsimp only
    have h153 : ∀ (z0 : Int32) (z1 z2 z3 z4 z5 z6 z7 z8 z9 z10 : Nat → Int32), OKP (j153 z0 z1 z2 z3 z4 z5 z6 z7 z8 z9 z10) := by
      intro z0 z1 z2 z3 z4 z5 z6 z7 z8 z9 z10
      rw [e153]
      try dsimp only
      obtain ⟨M, d1, d2, d3⟩ := depthRound_eq (p := 500) hk hg hx hB hE (by omega) (by omega) (fun j hj => by have := hl j hj; omega)
      have hrM := mx_any (p := 500) (by omega) (fun j hj => by have := hl j hj; omega) d2 hr
      have d3' : f_X4_depthRound k 500 (nI n) ps B E = _ := d3
      rw [d3', xo_s]
      try dsimp only
      rw [xb_s, if_neg (nI_nlt hrM (by omega))]
      obtain ⟨x, b0, b1, b2, b3, b4, b5, k1, k2, k3⟩ := heaviestRound_eq (p := 500) (cnt := o0) (N := o1) (Bg := o2) (En := o3) (Wt := o4) (Be := o5) hk hg hb hx hB hE hW (by omega) (by omega) (fun j hj => by have := hl j hj; omega)
      have k3' : f_X4_heaviestRound k 500 (nI n) ps B E W 1 o0 o1 o2 o3 o4 o5 = _ := k3
      have hle := round_le (p := 500) hg (by omega) (fun j hj => by have := hl j hj; omega) k2 i2
      rw [k3', xo_s]
      try dsimp only
      obtain ⟨v3, q0, q1, q2, q3, q4, q5, p1, p2, p3⟩ := heaviest_eq (cnt := b0) (N := b1) (Bg := b2) (En := b3) (Wt := b4) (Be := b5) hk hg hb hx hB hE hW
      have hv3 : v3 = v := p2.one i2
      rw [p3, xb_s]
      try dsimp only
      rw [if_neg (nI_nlt (show x ≤ v3 by omega) (by omega))]
      exact ⟨_, _, _, _, _, _, _, _, _, _, _, _, _, _, _, _, _, rfl⟩
    by_cases c6 : (6 : Int32) < nI r
    · rw [if_pos c6]; exact h153 _ _ _ _ _ _ _ _ _ _ _
    · rw [if_neg c6, xb_s]
      by_cases c0 : nI r = 0
      · rw [if_pos c0]; exact h153 _ _ _ _ _ _ _ _ _ _ _
      · rw [if_neg c0, xb_s]
        have hr6 : r ≤ 6 := by
          apply Nat.le_of_not_lt
          intro q
          exact c6 (show nI 6 < nI r from nI_lt q (by omega))
        have hr1 : 1 ≤ r := by
          rcases Nat.eq_zero_or_pos r with h | h
          · exact absurd (by rw [h]; rfl) c0
          · exact h
        obtain ⟨v9, g9, w0, w1, w2, w3, w4, w5, w6, w7, w8, w9, w10, t1, t2, t3, t4⟩ := heaviestIn_eq (R := r) (cnt := y0) (N := y1) (Bg := y2) (En := y3) (Wt := y4) (St := y5) (Tk := y6) (Wg := y7) (Ga := y8) (CF := y9) (BT := y10) hk hg hb hx hB hE hW hr1 hr6
        have hv9 : v9 = u := by
          rw [t2.one (isr_all hr (Nat.le_refl r)), hu.one (isr_all hr hr6)]
        rw [t4, xo_s]
        try dsimp only
        rw [if_pos (by rw [hv9])]
        exact h153 _ _ _ _ _ _ _ _ _ _ _
  refine xj_Q (Q := OKP) (fun j119 e119 => ?_)
  try dsimp only
  rw [if_pos rfl]
  obtain ⟨cs1, S1, b0, b1, b2, b3, b4, b5, s1, s2, s3, s4⟩ := chosen_eq (cnt := a0) (N := a1) (Bg := a2) (En := a3) (Wt := a4) (Be := a5) hk hg hb hx hB hE hW
  rw [s4, xb_s]
  try dsimp only
  rw [isPlan_eq (by omega) hg hx hB hE s1 s2 s3, xb_s, if_neg (by decide)]
  obtain ⟨M, d0, d1, d2, d3, d4, m1, m2, m3⟩ := most_eq (cnt := b0) (N := b1) (Bg := b2) (En := b3) (Wt := b4) hk hg hb hx hB hE hW
  rw [m3, xb_s]
  try dsimp only
  obtain ⟨cs2, S2, q0, q1, q2, q3, q4, q5, t1, t2, t3, t4⟩ := chosen_eq (cnt := d0) (N := d1) (Bg := d2) (En := d3) (Wt := d4) (Be := b5) hk hg hb hx hB hE hW
  rw [t4, xb_s]
  try dsimp only
  have hle := m2 S2 t2 t3
  rw [bits_eq (by omega) hn t1, xb_s, if_neg (nI_nlt hle (by omega))]
  obtain ⟨x, f0, f1, f2, f3, f4, f5, k1, k2, k3⟩ := heaviestRound_eq (p := 1000) (cnt := q0) (N := q1) (Bg := q2) (En := q3) (Wt := q4) (Be := q5) hk hg hb hx hB hE hW (by omega) (by omega) (fun j hj => by have := hl j hj; omega)
  have k3' : f_X4_heaviestRound k 1000 (nI n) ps B E W 1 q0 q1 q2 q3 q4 q5 = _ := k3
  rw [k3', xo_s]
  try dsimp only
  obtain ⟨v3, h0, h1, h2, h3, h4, h5, p1, p2, p3⟩ := heaviest_eq (cnt := f0) (N := f1) (Bg := f2) (En := f3) (Wt := f4) (Be := f5) hk hg hb hx hB hE hW
  have hxv : x = v3 := (k2.rel (M2 := ovl b e) (fun i j hi hj _ _ _ => cm_1000 hg hi hj)).one p2
  rw [p3, xb_s]
  try dsimp only
  rw [if_pos (by rw [hxv])]
  obtain ⟨D, d1, d2, d3⟩ := depthRound_eq (p := 1000) hk hg hx hB hE (by omega) (by omega) (fun j hj => by have := hl j hj; omega)
  have d3' : f_X4_depthRound k 1000 (nI n) ps B E = _ := d3
  rw [d3', xo_s]
  try dsimp only
  rw [hrooms, xb_s, if_pos (by rw [mx_1000 hg d2 hr])]
  exact h120 _ _ _ _ _ _
end PS
