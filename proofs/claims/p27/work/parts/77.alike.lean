/-! Two objects in the same state are alike. -/
theorem accW_eq {k n : Nat} {as : Int64} {C : Nat → Bool} {w : Nat → Nat} {W : Nat → Int32} (hk : 1000 ≤ k) (hn : n ≤ 40) (hx : ST as n C) (hW : AR n W w) : f_X4_acceptedWeight k (nI n) as W = some (nI (wsum C w n)) := by
  unfold f_X4_acceptedWeight
  rw [weightOf_eq hk hn hx hW, xb_s]
theorem areAlike_eq {k n fa : Nat} {b e w : Nat → Nat} {P O C : Nat → Bool} {dr : Int32} {xad : Int32} {xps : Int64} {xfc : Int32} {xos xas : Int64} {xdp : Int32} {xB xE xW : Nat → Int32} {yad : Int32} {yps : Int64} {yfc : Int32} {yos yas : Int64} {ydp : Int32} {yB yE yW : Nat → Int32} (hk : 10000 ≤ k) (hA : AI n b e w P O C fa) (hX : XI n b e w P O C fa dr xad xps xfc xos xas xdp xB xE xW) (hY : XI n b e w P O C fa dr yad yps yfc yos yas ydp yB yE yW) (p0 : Int32) (p1 p2 p3 p4 p5 : Nat → Int32) (q0 : Int32) (q1 q2 q3 q4 q5 : Nat → Int32) :
    ∃ u0 u1 u2 u3 u4 u5 v0 v1 v2 v3 v4 v5, f_L_areAlike k xad xps xos xas xdp xB xE xW 1 p0 p1 p2 p3 p4 p5 yad yps yos yas ydp yB yE yW 1 q0 q1 q2 q3 q4 q5 = some (1, u0, u1, u2, u3, u4, u5, v0, v1, v2, v3, v4, v5) := by
  obtain ⟨⟨hG, hC, hO, hf1, hf2⟩, hL, hPl, hb⟩ := hA
  obtain ⟨rfl, x2, x3, x4, x5, x6, x7, x8, x9⟩ := hX
  obtain ⟨rfl, y2, y3, y4, y5, y6, y7, y8, y9⟩ := hY
  have hn := hG.1
  obtain ⟨v1, a0, a1, a2, a3, a4, a5, a1', a2', a3'⟩ := best_eq (cnt := p0) (N := p1) (Bg := p2) (En := p3) (Wt := p4) (Be := p5) hk hG hb x2 x4 x7 x8 x9
  obtain ⟨v2, b0, b1, b2, b3, b4, b5, b1', b2', b3'⟩ := best_eq (cnt := q0) (N := q1) (Bg := q2) (En := q3) (Wt := q4) (Be := q5) hk hG hb y2 y4 y7 y8 y9
  have e1 : v1 = v2 := a2'.one b2'
  obtain ⟨r1, -, c2', c3'⟩ := rooms_eq hk hG x2 x7 x8
  obtain ⟨r2, -, d2', d3'⟩ := rooms_eq hk hG y2 y7 y8
  have e2 : r1 = r2 := c2'.one d2'
  obtain ⟨v3, g0, g1, g2, g3, g4, g5, g1', g2', g3'⟩ := heaviest_eq (cnt := a0) (N := a1) (Bg := a2) (En := a3) (Wt := a4) (Be := a5) hk hG hb x2 x7 x8 x9
  obtain ⟨v4, h0, h1, h2, h3, h4, h5, h1', h2', h3'⟩ := heaviest_eq (cnt := b0) (N := b1) (Bg := b2) (En := b3) (Wt := b4) (Be := b5) hk hG hb y2 y7 y8 y9
  have e3 : v3 = v4 := g2'.one h2'
  refine ⟨g0, g1, g2, g3, g4, g5, h0, h1, h2, h3, h4, h5, ?_⟩
  unfold f_L_areAlike
  rw [show f_X4_present k xps = some xps from rfl, xb_s, show f_X4_present k yps = some yps from rfl, xb_s, if_pos ((cmp_0 _ _).mpr (x2.eq y2))]
  rw [show f_X4_accepted k xas = some xas from rfl, xb_s, show f_X4_accepted k yas = some yas from rfl, xb_s, if_pos ((cmp_0 _ _).mpr (x5.eq y5))]
  rw [accW_eq (by omega) hn x5 x9, xb_s, accW_eq (by omega) hn y5 y9, xb_s, if_pos rfl]
  rw [show f_X4_droppedWeight k xdp = some xdp from rfl, xb_s, show f_X4_droppedWeight k ydp = some ydp from rfl, xb_s, if_pos (by rw [x6, y6])]
  rw [a3', xb_s]
  try dsimp only
  rw [b3', xb_s]
  try dsimp only
  rw [if_pos (by rw [e1]), c3', xb_s, d3', xb_s, if_pos (by rw [e2]), g3', xb_s]
  try dsimp only
  rw [h3', xb_s]
  try dsimp only
  rw [if_pos (by rw [e3])]
