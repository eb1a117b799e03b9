/-! The law's run. -/
def INV27 (xad : Int32) (xps : Int64) (xfc : Int32) (xos xas : Int64) (xdp : Int32) (xB xE xW : Nat → Int32) (yad : Int32) (yps : Int64) (yfc : Int32) (yos yas : Int64) (ydp : Int32) (yB yE yW : Nat → Int32) : Prop := ∃ (n : Nat) (b e w : Nat → Nat) (P O C : Nat → Bool) (fa : Nat) (dr : Int32), AI n b e w P O C fa ∧ XI n b e w P O C fa dr xad xps xfc xos xas xdp xB xE xW ∧ XI n b e w P O C fa dr yad yps yfc yos yas ydp yB yE yW
theorem cell_ex (k L : Nat) (xs : Nat → Int32) {a : Nat} (ha : a < 40) (hL : L ≤ 260) : ∃ v, f_L_cell k L xs (nI a) = some v := by
  unfold f_L_cell
  by_cases c : nI L ≤ nI a
  · exact ⟨_, if_pos c⟩
  · have h : a < L := by
      apply Nat.lt_of_not_le
      intro q
      exact c (nI_le q (by omega))
    exact ⟨xs (nI a).toNatClampNeg, by rw [if_neg c, xi_nI h (by omega)]⟩
theorem law_loop {k L : Nat} {xs : Nat → Int32} (hk : 10000 ≤ k) (hL : L ≤ 260) {κ : Int32 → Int32 → Int64 → Int32 → Int64 → Int64 → Int32 → (Nat → Int32) → (Nat → Int32) → (Nat → Int32) → Int32 → (Nat → Int32) → (Nat → Int32) → (Nat → Int32) → (Nat → Int32) → (Nat → Int32) → Int32 → (Nat → Int32) → (Nat → Int32) → (Nat → Int32) → (Nat → Int32) → (Nat → Int32) → Int32 → (Nat → Int32) → (Nat → Int32) → (Nat → Int32) → (Nat → Int32) → (Nat → Int32) → (Nat → Int32) → (Nat → Int32) → (Nat → Int32) → (Nat → Int32) → (Nat → Int32) → Int32 → Int64 → Int32 → Int64 → Int64 → Int32 → (Nat → Int32) → (Nat → Int32) → (Nat → Int32) → Int32 → (Nat → Int32) → (Nat → Int32) → (Nat → Int32) → (Nat → Int32) → (Nat → Int32) → Option Int32} (hκ : ∀ v xad xps xfc xos xas xdp xB xE xW g0 g1 g2 g3 g4 g5 o0 o1 o2 o3 o4 o5 m0 m1 m2 m3 m4 m5 m6 m7 m8 m9 m10 yad yps yfc yos yas ydp yB yE yW q0 q1 q2 q3 q4 q5, κ v xad xps xfc xos xas xdp xB xE xW g0 g1 g2 g3 g4 g5 o0 o1 o2 o3 o4 o5 m0 m1 m2 m3 m4 m5 m6 m7 m8 m9 m10 yad yps yfc yos yas ydp yB yE yW q0 q1 q2 q3 q4 q5 = some 1) : ∀ d a f, a + d = 40 → d < f → ∀ (xad : Int32) (xps : Int64) (xfc : Int32) (xos xas : Int64) (xdp : Int32) (xB xE xW : Nat → Int32) (g0 : Int32) (g1 g2 g3 g4 g5 : Nat → Int32) (o0 : Int32) (o1 o2 o3 o4 o5 : Nat → Int32) (m0 : Int32) (m1 m2 m3 m4 m5 m6 m7 m8 m9 m10 : Nat → Int32) (yad : Int32) (yps : Int64) (yfc : Int32) (yos yas : Int64) (ydp : Int32) (yB yE yW : Nat → Int32) (q0 : Int32) (q1 q2 q3 q4 q5 : Nat → Int32), INV27 xad xps xfc xos xas xdp xB xE xW yad yps yfc yos yas ydp yB yE yW → f_law_L18 k L xs 0 1 0 1 κ f (nI a) xad xps xfc xos xas xdp xB xE xW g0 g1 g2 g3 g4 g5 o0 o1 o2 o3 o4 o5 m0 m1 m2 m3 m4 m5 m6 m7 m8 m9 m10 yad yps yfc yos yas ydp yB yE yW q0 q1 q2 q3 q4 q5 = some 1 := by
  intro d
  induction d with
  | zero =>
    intro a f ha hf xad xps xfc xos xas xdp xB xE xW g0 g1 g2 g3 g4 g5 o0 o1 o2 o3 o4 o5 m0 m1 m2 m3 m4 m5 m6 m7 m8 m9 m10 yad yps yfc yos yas ydp yB yE yW q0 q1 q2 q3 q4 q5 hI
    obtain ⟨f, rfl⟩ : ∃ z, f = z + 1 := ⟨f - 1, by omega⟩
    rw [f_law_L18_s, if_pos (show (40 : Int32) ≤ nI a from nI_le (a := 40) (by omega) (by omega))]
    exact hκ _ _ _ _ _ _ _ _ _ _ _ _ _ _ _ _ _ _ _ _ _ _ _ _ _ _ _ _ _ _ _ _ _ _ _ _ _ _ _ _ _ _ _ _ _ _ _ _
  | succ d ih =>
    intro a f ha hf xad xps xfc xos xas xdp xB xE xW g0 g1 g2 g3 g4 g5 o0 o1 o2 o3 o4 o5 m0 m1 m2 m3 m4 m5 m6 m7 m8 m9 m10 yad yps yfc yos yas ydp yB yE yW q0 q1 q2 q3 q4 q5 hI
    obtain ⟨f, rfl⟩ : ∃ z, f = z + 1 := ⟨f - 1, by omega⟩
    obtain ⟨n0, b0, e0, w0, P0, O0, C0, fa0, dr0, hA0, hX0, hY0⟩ := hI
    obtain ⟨v, hv⟩ := cell_ex k L xs (show a < 40 by omega) hL
    obtain ⟨told, n, b, e, w, P, O, C, fa, dr, hA, hsame, hstep⟩ := act_step (k := k) (by omega) hA0 (dr := dr0) v
    obtain ⟨sad, sps, sfc, sos, sas, sdp, sB, sE, sW, hact, hX⟩ := hstep _ _ _ _ _ _ _ _ _ hX0
    rw [f_law_L18_s, if_neg (show ¬ (40 : Int32) ≤ nI a from nI_ge (b := 40) (by omega) (by omega)), hv, xb_s]
    dsimp only at hact
    rw [hact, xb_s]
    try dsimp only
    refine xj_Q (Q := fun res => res = some 1) (fun j57 e57 => ?_)
    try dsimp only
    have h57 : ∀ (tad : Int32) (tps : Int64) (tfc : Int32) (tos tas : Int64) (tdp : Int32) (tB tE tW : Nat → Int32), XI n b e w P O C fa dr tad tps tfc tos tas tdp tB tE tW → j57 tad tps tfc tos tas tdp tB tE tW = some 1 := by
      intro tad tps tfc tos tas tdp tB tE tW hY
      rw [e57]
      try dsimp only
      have hI2 : INV27 sad sps sfc sos sas sdp sB sE sW tad tps tfc tos tas tdp tB tE tW := ⟨n, b, e, w, P, O, C, fa, dr, hA, hX, hY⟩
      obtain ⟨u0, u1, u2, u3, u4, u5, l0, l1, l2, l3, l4, l5, hal⟩ := areAlike_eq hk hA hX hY o0 o1 o2 o3 o4 o5 q0 q1 q2 q3 q4 q5
      rw [hal, xb_s]
      try dsimp only
      rw [if_neg (by decide)]
      obtain ⟨⟨hG, hC, hO, hf1, hf2⟩, hLn, hPl, hb⟩ := id hA
      obtain ⟨x1, x2, x3, x4, x5, x6, x7, x8, x9⟩ := id hX
      subst x1
      have hn := hG.1
      rw [show f_X4_accepted k sas = some sas from rfl, xb_s, isPlan_eq (by omega) hG x2 x7 x8 x5 (fun i _ h => (hC i h).1) hPl, xb_s, if_neg (by decide)]
      obtain ⟨v1, a0, a1, a2, a3, a4, a5, a1', a2', a3'⟩ := best_eq (cnt := u0) (N := u1) (Bg := u2) (En := u3) (Wt := u4) (Be := u5) hk hG hb x2 x4 x7 x8 x9
      have hw1 : wsum C w n ≤ v1 := a2'.2 C hPl (fun i _ h => by show (P i && O i) = true; rw [(hC i h).1, (hC i h).2]; rfl)
      rw [a3', xb_s]
      try dsimp only
      rw [accW_eq (by omega) hn x5 x9, xb_s, if_neg (nI_nlt hw1 (by omega))]
      obtain ⟨v2, b0, b1, b2, b3, b4, b5, b1', b2', b3'⟩ := best_eq (cnt := a0) (N := a1) (Bg := a2) (En := a3) (Wt := a4) (Be := a5) hk hG hb x2 x4 x7 x8 x9
      rw [b3', xb_s]
      try dsimp only
      obtain ⟨v3, h0, h1, h2, h3, h4, h5, h1', h2', h3'⟩ := heaviest_eq (cnt := b0) (N := b1) (Bg := b2) (En := b3) (Wt := b4) (Be := b5) hk hG hb x2 x7 x8 x9
      have hle : v2 ≤ v3 := by
        obtain ⟨⟨S, s1, s2, s3⟩, -⟩ := b2'
        rw [← s3]
        exact h2'.2 S s1 (fun i hi hs => by
          have h9 : (P i && O i) = true := s2 i hi hs
          rw [Bool.and_eq_true] at h9
          exact h9.1)
      rw [h3', xb_s]
      try dsimp only
      have e10 : nI a - nI a / 10 * 10 = nI (a % 10) := pk_rem (a := a) (d := 10) (by omega) (by omega) (by omega)
      rw [if_pos (nI_le hle (by omega)), show ∀ z : Option Int32, xd 10 z = z from fun z => xd_p (a := 10) (by omega) (by omega), e10, nI_1]
      by_cases c9 : nI (a % 10) = 9
      · rw [if_pos c9]
        obtain ⟨j0, j1, j2, j3, j4, j5, hrs⟩ := areRoomsSo_eq hk hG hb x2 x7 x8 x9 g0 g1 g2 g3 g4 g5
        rw [hrs, xb_s]
        try dsimp only
        rw [if_neg (by decide)]
        obtain ⟨z0, z1, z2, z3, z4, z5, k0, k1, k2, k3, k4, k5, k6, k7, k8, k9, k10, hps⟩ := arePlansSo_eq hk hG hb x2 x7 x8 x9 hLn (o0 := h0) (o1 := h1) (o2 := h2) (o3 := h3) (o4 := h4) (o5 := h5) (z0 := m0) (z1 := m1) (z2 := m2) (z3 := m3) (z4 := m4) (z5 := m5) (z6 := m6) (z7 := m7) (z8 := m8) (z9 := m9) (z10 := m10)
        rw [hps, xb_s]
        try dsimp only
        rw [if_neg (by decide)]
        obtain ⟨z1, g1, l1⟩ := low_eq k (v >>> ((5 : Int32) &&& 31)) (m := 20) (by omega) (by omega)
        obtain ⟨z2, g2, l2⟩ := low_eq k (v >>> ((10 : Int32) &&& 31)) (m := 4) (by omega) (by omega)
        have l1' : f_L_low k (v >>> ((5 : Int32) &&& 31)) 20 = some (nI z1) := l1
        have l2' : f_L_low k (v >>> ((10 : Int32) &&& 31)) 4 = some (nI z2) := l2
        have e11 : (1 : Int32) + nI z1 = nI (1 + z1) := nI_add 1 z1
        have e12 : (1 : Int32) + nI z2 = nI (1 + z2) := nI_add 1 z2
        rw [l1', xb_s, l2', xb_s, e11, e12, isEarliest_eq hk hG x2 x7 x8 (by omega) (by omega) (by omega) (by omega), xb_s, if_neg (by decide)]
        exact ih (a + 1) f (by omega) (by omega) _ _ _ _ _ _ _ _ _ _ _ _ _ _ _ _ _ _ _ _ _ _ _ _ _ _ _ _ _ _ _ _ _ _ _ _ _ _ _ _ _ _ _ _ _ _ _ hI2
      · rw [if_neg c9]
        exact ih (a + 1) f (by omega) (by omega) _ _ _ _ _ _ _ _ _ _ _ _ _ _ _ _ _ _ _ _ _ _ _ _ _ _ _ _ _ _ _ _ _ _ _ _ _ _ _ _ _ _ _ _ _ _ _ hI2
    by_cases c : told = -99999
    · rw [if_pos c]
      exact h57 _ _ _ _ _ _ _ _ _ (hsame c _ _ _ _ _ _ _ _ _ hY0)
    · obtain ⟨tad, tps, tfc, tos, tas, tdp, tB, tE, tW, hact2, hY⟩ := hstep _ _ _ _ _ _ _ _ _ hY0
      dsimp only at hact2
      rw [if_neg c, hact2, xb_s]
      try dsimp only
      rw [if_pos rfl]
      exact h57 _ _ _ _ _ _ _ _ _ hY
theorem XI_0 : XI 0 (fun _ => 0) (fun _ => 0) (fun _ => 0) (fun _ => false) (fun _ => false) (fun _ => false) 100 0 0 0 100 0 0 0 (fun _ => 0) (fun _ => 0) (fun _ => 0) := by
  have h0 : ST 0 0 (fun _ => false) := fun i hi => by rw [bs_0, Bool.and_false]
  exact ⟨rfl, h0, rfl, h0, h0, rfl, fun i hi => absurd hi (Nat.not_lt_zero i), fun i hi => absurd hi (Nat.not_lt_zero i), fun i hi => absurd hi (Nat.not_lt_zero i)⟩
theorem law_pure (L : Nat) (xs : Nat → Int32) (hL : L ≤ 260) : ∃ k : Nat, f_law k L xs 0 0 100 0 0 0 (fun _ => 0) (fun _ => 0) (fun _ => 0) 0 0 (fun _ => 0) (fun _ => 0) (fun _ => 0) (fun _ => 0) (fun _ => 0) 1 0 (fun _ => 0) (fun _ => 0) (fun _ => 0) (fun _ => 0) (fun _ => 0) 0 0 (fun _ => 0) (fun _ => 0) (fun _ => 0) (fun _ => 0) (fun _ => 0) (fun _ => 0) (fun _ => 0) (fun _ => 0) (fun _ => 0) (fun _ => 0) 0 0 100 0 0 0 (fun _ => 0) (fun _ => 0) (fun _ => 0) 1 0 (fun _ => 0) (fun _ => 0) (fun _ => 0) (fun _ => 0) (fun _ => 0) = some 1 := by
  refine ⟨10000, ?_⟩
  unfold f_law
  refine law_loop (by omega) hL (fun  _ _ _ _ _ _ _ _ _ _ _ _ _ _ _ _ _ _ _ _ _ _ _ _ _ _ _ _ _ _ _ _ _ _ _ _ _ _ _ _ _ _ _ _ _ _ _ _ => rfl) 40 0 41 (by omega) (by omega) _ _ _ _ _ _ _ _ _ _ _ _ _ _ _ _ _ _ _ _ _ _ _ _ _ _ _ _ _ _ _ _ _ _ _ _ _ _ _ _ _ _ _ _ _ _ _ ⟨0, fun _ => 0, fun _ => 0, fun _ => 0, fun _ => false, fun _ => false, fun _ => false, 100, 0, ⟨⟨⟨by omega, fun i hi => absurd hi (Nat.not_lt_zero i)⟩, fun i h => (Bool.noConfusion h), fun i h => (Bool.noConfusion h), by omega, by omega⟩, fun i hi => absurd hi (Nat.not_lt_zero i), fun i j hi => absurd hi (Nat.not_lt_zero i), fun i => ⟨Nat.zero_le _, Nat.zero_le _, Nat.zero_le _⟩⟩, XI_0, XI_0⟩
