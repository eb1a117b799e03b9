/-! heaviestIn, lossWithout. -/
section MLW
variable {k : Nat} {p p2 p3 added fac drop th many mfac mdrop : Int32} {ps os as : Int64} {B E W mB mE mW T TO TC : Nat → Int32} {out : Nat → Int64}
theorem rooms_bad {k : Nat} {p : Int32} (h : p < 1 ∨ (¬ p < 1 ∧ ¬ p ≤ nI 6)) : f_X4_requirePlannedRooms k p = some (.error "java/lang/IllegalArgumentException") ∧ f_X5_in k p 1 6 = some 0 := by
  unfold f_X4_requirePlannedRooms f_X5_in
  rcases h with h | ⟨h1, h2⟩
  · rw [if_pos h, if_pos h]; exact ⟨rfl, rfl⟩
  · rw [if_neg h1, if_neg h1, if_neg (show ¬ p ≤ 6 from h2), if_pos ((cmp_lit p).2.2.2.1.mpr h2)]; exact ⟨rfl, rfl⟩
theorem rooms_ok {k r : Nat} (h1 : 1 ≤ r) (h2 : r ≤ 6) : f_X4_requirePlannedRooms k (nI r) = some (.ok ()) ∧ f_X5_in k (nI r) 1 6 = some 1 := by
  constructor
  · unfold f_X4_requirePlannedRooms
    rw [if_neg (show ¬ nI r < 1 from nI_nlt (a := r) (b := 1) h1 (by omega)), if_pos (show nI r ≤ 6 from nI_le (b := 6) h2 (by omega))]
  · have h9 := X5_in_n (k := k) (a := r) (b := 1) (c := 6) (by omega) (by omega) (by omega)
    rw [if_pos ⟨h1, h2⟩] at h9
    exact h9
theorem law_heaviestIn {cnt pm : Int32} {N Bg En Wt St Tk Wg Ga CF BT Cn Pt Fl Us mGa Wy : Nat → Int32} (hk : 10000 ≤ k) (h : INV added ps fac os as drop B E W many mfac mdrop mB mE mW T TO TC) :
    ∃ (c b2 c' pm' : Int32) (N' Bg' En' Wt' St' Tk' Wg' Ga' CF' BT' Cn' Pt' Fl' Us' mGa' Wy' : Nat → Int32) (out' : Nat → Int64), f_L_heaviestIn k p added ps B E W 0 cnt N Bg En Wt St Tk Wg Ga CF BT out = some (c, c', N', Bg', En', Wt', St', Tk', Wg', Ga', CF', BT', out') ∧ f_X5_heaviestIn k p th many pm mB mE mW T Cn Pt Fl Us mGa Wy = some (b2, c, pm', Cn', Pt', Fl', Us', mGa', Wy') ∧ (c = 0 → out' 0 = b2.toInt64) := by
  obtain ⟨n, b, e, w, P, O, C, fa, dr, hS, hX, hM, hb⟩ := h.norm
  obtain ⟨hG, hC, hO, hf1, hf2⟩ := id hS
  obtain ⟨rfl, x2, x3, x4, x5, x6, x7, x8, x9⟩ := id hX
  obtain ⟨rfl, m2, m3, m4, m5, m6, m7, m8, m9⟩ := id hM
  have bad1 : p < 1 ∨ (¬ p < 1 ∧ ¬ p ≤ nI 6) → ∃ (c b2 c' pm' : Int32) (N' Bg' En' Wt' St' Tk' Wg' Ga' CF' BT' Cn' Pt' Fl' Us' mGa' Wy' : Nat → Int32) (out' : Nat → Int64), f_L_heaviestIn k p (nI n) ps B E W 0 cnt N Bg En Wt St Tk Wg Ga CF BT out = some (c, c', N', Bg', En', Wt', St', Tk', Wg', Ga', CF', BT', out') ∧ f_X5_heaviestIn k p th (nI n) pm mB mE mW T Cn Pt Fl Us mGa Wy = some (b2, c, pm', Cn', Pt', Fl', Us', mGa', Wy') ∧ (c = 0 → out' 0 = b2.toInt64) := by
    intro hb
    obtain ⟨r1, r2⟩ := rooms_bad (k := k) hb
    refine ⟨1, 0, cnt, pm, N, Bg, En, Wt, St, Tk, Wg, Ga, CF, BT, Cn, Pt, Fl, Us, mGa, Wy, out, ?_, ?_, fun q => absurd q (by decide)⟩
    · unfold f_L_heaviestIn f_X4_heaviestIn
      rw [r1, xe_e, xt_e, if_pos rfl]
    · unfold f_X5_heaviestIn
      rw [r2, xb_s, xj_s, if_pos rfl]
      try dsimp only
      rw [goesWell_1, xb_s]
      try dsimp only
      rw [if_pos rfl]
  rcases rng_cases p 6 (by omega) with q | ⟨a1, r, h1, h2, rfl⟩ | q
  · exact bad1 (Or.inl q)
  · obtain ⟨r1, r2⟩ := rooms_ok (k := k) h1 h2
    obtain ⟨v, c', N', Bg', En', Wt', St', Tk', Wg', Ga', CF', BT', hv0, hv, hf⟩ := forMany_eq (R := r) (cnt := cnt) (N := N) (Bg := Bg) (En := En) (Wt := Wt) (St := St) (Tk := Tk) (Wg := Wg) (Ga := Ga) (CF := CF) (BT := BT) hk hG hb x2 x7 x8 x9 h2
    obtain ⟨v2, pm', Cn', Pt', Fl', Us', mGa', Wy', hv2, hf2⟩ := planIn_eq (R := r) (wo := -1) (X := fun _ => true) (pm := pm) (Cn := Cn) (Pt := Pt) (Fl := Fl) (Us := Us) (Ga := mGa) (Wy := Wy) hk hG m7 m4 m5 m6 h2 (fun j hj => ⟨fun q => absurd q (nI_nem1 (by have := hG.1; omega)), fun q => by cases q⟩)
    have : v2 = v := (hv2.cong fun j _ => Bool.and_true _).one hv
    subst this
    refine ⟨0, nI v2, c', pm', N', Bg', En', Wt', St', Tk', Wg', Ga', CF', BT', Cn', Pt', Fl', Us', mGa', Wy', vp_updL out (0 : Int32).toNatClampNeg (nI v2).toInt64, ?_, ?_, fun _ => rfl⟩
    · unfold f_L_heaviestIn f_X4_heaviestIn
      rw [r1, xe_s, hf, xb_s]
      try dsimp only
      rw [xt_s]
      try dsimp only
      rw [xi_0]
    · unfold f_X5_heaviestIn
      rw [r2, xb_s, xj_s, if_neg (by decide)]
      try dsimp only
      rw [goesWell_0, xb_s]
      try dsimp only
      rw [if_neg (by decide), hf2, xb_s]
  · exact bad1 (Or.inr q)
theorem law_lossWithout {cnt pm : Int32} {N Bg En Wt St Tk Wg Ga CF BT Cn Pt Fl Us mGa Wy : Nat → Int32} (hk : 10000 ≤ k) (h : INV added ps fac os as drop B E W many mfac mdrop mB mE mW T TO TC) :
    ∃ (c b2 c' pm' : Int32) (N' Bg' En' Wt' St' Tk' Wg' Ga' CF' BT' Cn' Pt' Fl' Us' mGa' Wy' : Nat → Int32) (out' : Nat → Int64), f_L_lossWithout k p p2 added ps B E W 0 cnt N Bg En Wt St Tk Wg Ga CF BT out = some (c, c', N', Bg', En', Wt', St', Tk', Wg', Ga', CF', BT', out') ∧ f_X5_lossWithout k p p2 th many pm mB mE mW T Cn Pt Fl Us mGa Wy = some (b2, c, pm', Cn', Pt', Fl', Us', mGa', Wy') ∧ (c = 0 → out' 0 = b2.toInt64) := by
  obtain ⟨n, b, e, w, P, O, C, fa, dr, hS, hX, hM, hb⟩ := h.norm
  obtain ⟨hG, hC, hO, hf1, hf2⟩ := id hS
  obtain ⟨rfl, x2, x3, x4, x5, x6, x7, x8, x9⟩ := id hX
  obtain ⟨rfl, m2, m3, m4, m5, m6, m7, m8, m9⟩ := id hM
  have hn := hG.1
  rcases there p n P hn with ⟨j, hj, rfl, hp⟩ | hno
  · have bad1 : p2 < 1 ∨ (¬ p2 < 1 ∧ ¬ p2 ≤ nI 6) → ∃ (c b2 c' pm' : Int32) (N' Bg' En' Wt' St' Tk' Wg' Ga' CF' BT' Cn' Pt' Fl' Us' mGa' Wy' : Nat → Int32) (out' : Nat → Int64), f_L_lossWithout k (nI j) p2 (nI n) ps B E W 0 cnt N Bg En Wt St Tk Wg Ga CF BT out = some (c, c', N', Bg', En', Wt', St', Tk', Wg', Ga', CF', BT', out') ∧ f_X5_lossWithout k (nI j) p2 th (nI n) pm mB mE mW T Cn Pt Fl Us mGa Wy = some (b2, c, pm', Cn', Pt', Fl', Us', mGa', Wy') ∧ (c = 0 → out' 0 = b2.toInt64) := by
      intro hb
      obtain ⟨r1, r2⟩ := rooms_bad (k := k) hb
      refine ⟨2, 0, cnt, pm, N, Bg, En, Wt, St, Tk, Wg, Ga, CF, BT, Cn, Pt, Fl, Us, mGa, Wy, out, ?_, ?_, fun q => absurd q (by decide)⟩
      · unfold f_L_lossWithout f_X4_lossWithout
        rw [requireThere_ok hn x2 hj hp, xe_s, r1, xe_e, xt_e, if_neg (by decide), if_pos rfl]
      · unfold f_X5_lossWithout
        rw [X5_is_ok hn m7 hj hp, xb_s, xj_s, if_neg (by decide), r2, xb_s, if_pos rfl]
        try dsimp only
        rw [goesWell_2, xb_s]
        try dsimp only
        rw [if_pos rfl]
    rcases rng_cases p2 6 (by omega) with q | ⟨a1, r, h1, h2, rfl⟩ | q
    · exact bad1 (Or.inl q)
    · obtain ⟨r1, r2⟩ := rooms_ok (k := k) h1 h2
      obtain ⟨v, c', N', Bg', En', Wt', St', Tk', Wg', Ga', CF', BT', hv0, hv, hf⟩ := forMany_eq (R := r) (cnt := cnt) (N := N) (Bg := Bg) (En := En) (Wt := Wt) (St := St) (Tk := Tk) (Wg := Wg) (Ga := Ga) (CF := CF) (BT := BT) hk hG hb x2 x7 x8 x9 h2
      obtain ⟨u, c2, N2, Bg2, En2, Wt2, St2, Tk2, Wg2, Ga2, CF2, BT2, hu0, hu, hfu⟩ := forMany_eq (R := r) (cnt := c') (N := N') (Bg := Bg') (En := En') (Wt := Wt') (St := St') (Tk := Tk') (Wg := Wg') (Ga := Ga') (CF := CF') (BT := BT') hk hG hb (x2.clr (i := j) (by omega)) x7 x8 x9 h2
      obtain ⟨v2, pm', Cn', Pt', Fl', Us', mGa', Wy', hv2, hf2⟩ := planIn_eq (R := r) (wo := -1) (X := fun _ => true) (pm := pm) (Cn := Cn) (Pt := Pt) (Fl := Fl) (Us := Us) (Ga := mGa) (Wy := Wy) hk hG m7 m4 m5 m6 h2 (fun j hj => ⟨fun q => absurd q (nI_nem1 (by omega)), fun q => by cases q⟩)
      obtain ⟨u2, pm2, Cn2, Pt2, Fl2, Us2, mGa2, Wy2, hu2, hfu2⟩ := planIn_eq (R := r) (wo := nI j) (X := fun i => !decide (i = j)) (pm := pm') (Cn := Cn') (Pt := Pt') (Fl := Fl') (Us := Us') (Ga := mGa') (Wy := Wy') hk hG m7 m4 m5 m6 h2 (fun i hi => by
        rw [nI_eq (by omega) (by omega)]
        by_cases c : i = j
        · rw [decide_eq_true c]; exact ⟨fun _ => rfl, fun _ => c⟩
        · rw [decide_eq_false c]; exact ⟨fun q => absurd q c, fun q => by cases q⟩)
      have : v2 = v := (hv2.cong fun j _ => Bool.and_true _).one hv
      subst this
      have : u2 = u := (hu2.cong fun i _ => by
        try dsimp only
        unfold fs
        by_cases c : i = j
        · rw [if_pos c, decide_eq_true c, Bool.not_true, Bool.and_false]
        · rw [if_neg c, decide_eq_false c, Bool.not_false, Bool.and_true]).one hu
      subst this
      refine ⟨0, nI v2 - nI u2, c2, pm2, N2, Bg2, En2, Wt2, St2, Tk2, Wg2, Ga2, CF2, BT2, Cn2, Pt2, Fl2, Us2, mGa2, Wy2, vp_updL out (0 : Int32).toNatClampNeg (nI v2 - nI u2).toInt64, ?_, ?_, fun _ => rfl⟩
      · unfold f_L_lossWithout f_X4_lossWithout
        rw [requireThere_ok hn x2 hj hp, xe_s, r1, xe_s, hf, xb_s]
        try dsimp only
        rw [only_eq k (by omega), xb_s, hfu, xb_s]
        try dsimp only
        rw [xt_s]
        try dsimp only
        rw [xi_0]
      · unfold f_X5_lossWithout
        rw [X5_is_ok hn m7 hj hp, xb_s, xj_s, if_neg (by decide), r2, xb_s, if_neg (by decide)]
        try dsimp only
        rw [goesWell_0, xb_s]
        try dsimp only
        rw [if_neg (by decide), hf2, xb_s]
        try dsimp only
        rw [hfu2, xb_s]
    · exact bad1 (Or.inr q)
  · refine ⟨1, 0, cnt, pm, N, Bg, En, Wt, St, Tk, Wg, Ga, CF, BT, Cn, Pt, Fl, Us, mGa, Wy, out, ?_, ?_, fun q => absurd q (by decide)⟩
    · unfold f_L_lossWithout f_X4_lossWithout
      rw [requireThere_no hn x2 hno, xe_e, xt_e, if_pos rfl]
    · unfold f_X5_lossWithout
      rw [X5_is_no hn m7 hno, xb_s, xj_s, if_pos rfl]
      try dsimp only
      rw [goesWell_1, xb_s]
      try dsimp only
      rw [if_pos rfl]
end MLW
