/-! heaviestRound. -/
theorem dst_spec {p r t : Nat} (hr : r < p) (ht : t < p) : dst p r t < p ∧ (r + dst p r t = t ∨ r + dst p r t = t + p) := by
  unfold dst
  by_cases c : t < r
  · rw [if_pos c]; omega
  · rw [if_neg c]; omega
def CM (p : Nat) (b e : Nat → Nat) (i j : Nat) : Bool := decide (dst p (b i % p) (b j % p) < e i - b i) || decide (dst p (b j % p) (b i % p) < e j - b j)
theorem CM_comm (p : Nat) (b e : Nat → Nat) (i j : Nat) : CM p b e i j = CM p b e j i := by
  unfold CM; rw [Bool.or_comm]
theorem CM_iff {p : Nat} {b e : Nat → Nat} {i j : Nat} : CM p b e i j = true ↔ (dst p (b i % p) (b j % p) < e i - b i ∨ dst p (b j % p) (b i % p) < e j - b j) := by
  unfold CM; rw [Bool.or_eq_true, decide_eq_true_iff, decide_eq_true_iff]
theorem bool_false_iff {x : Bool} : x = false ↔ ¬ x = true := by cases x <;> simp
theorem circ_lin {p c r s li lj : Nat} (hc : c < p) (hr : r < p) (hs : s < p) (h1 : 1 ≤ li) (h2 : 1 ≤ lj) (h3 : dst p c r + li ≤ p) (h4 : dst p c s + lj ≤ p) : (dst p c r < dst p c s + lj ∧ dst p c s < dst p c r + li) ↔ (dst p r s < li ∨ dst p s r < lj) := by
  have a1 := dst_spec hc hr
  have a2 := dst_spec hc hs
  have a3 := dst_spec hr hs
  have a4 := dst_spec hs hr
  omega
theorem circ_free {p r s li lj : Nat} (hr : r < p) (hs : s < p) (h1 : 1 ≤ li) (h2 : 1 ≤ lj) : (li ≤ dst p r s ∧ dst p r s + lj ≤ p) ↔ ¬ (dst p s r < lj ∨ dst p r s < li) := by
  have a3 := dst_spec hr hs
  have a4 := dst_spec hs hr
  omega
theorem dst_z {p r : Nat} : dst p 0 r = r := by
  unfold dst; rw [if_neg (by omega)]; omega
section HR
variable {k n p : Nat} {x : Int64} {P : Nat → Bool} {b e w : Nat → Nat} {B E W T : Nat → Int32}
def bu (p c : Nat) (b : Nat → Nat) (j : Nat) : Nat := dst p (c % p) (b j % p)
def bz (p c : Nat) (b e : Nat → Nat) (j : Nat) : Nat := bu p c b j + (e j - b j)
def bS (p c l : Nat) (P : Nat → Bool) (b e : Nat → Nat) (j : Nat) : Bool := P j && (decide (l ≤ bu p c b j) && decide (bz p c b e j ≤ p))
theorem fillBeside_eq {c l : Nat} {cnt : Int32} {N Bg En Wt : Nat → Int32} (hk : 10000 ≤ k) (hg : GD n b e w) (hb : ∀ i, b i ≤ 1000 ∧ e i ≤ 1000 ∧ w i ≤ 1000) (hx : ST x n P) (hB : AR n B b) (hE : AR n E e) (hW : AR n W w) (hp : 1 ≤ p) (hp2 : p ≤ 1000) (hc : c ≤ 1000) (hl : l ≤ 1000) :
    ∃ m σ N' Bg' En' Wt', ROWS n (bS p c l P b e) (bz p c b e) m σ ∧ RW m σ (bu p c b) (bz p c b e) w N' Bg' En' Wt' ∧ f_X4_fillBeside k (nI c) (nI l) (nI p) (nI n) x B E W 1 cnt N Bg En Wt = some (nI m, N', Bg', En', Wt') := by
  have hn := hg.1
  have hu : ∀ j, bu p c b j < p := fun j => (dst_spec (Nat.mod_lt _ hp) (Nat.mod_lt _ hp)).1
  unfold f_X4_fillBeside f_X3_clear
  rw [xb_s]
  refine loopE (fun f (s : Int32 × Int32 × (Nat → Int32) × (Nat → Int32) × (Nat → Int32) × (Nat → Int32)) => f_X4_fillBeside_L13 k (nI c) (nI l) (nI p) (nI n) x B E W 1 (fun (v4_21 : Int32) (f_oneRoom_row_count_22 : Int32) (A_oneRoom_row_numbers_23 : Nat → Int32) (A_oneRoom_row_begins_24 : Nat → Int32) (A_oneRoom_row_ends_25 : Nat → Int32) (A_oneRoom_row_weights_26 : Nat → Int32) => some (f_oneRoom_row_count_22, A_oneRoom_row_numbers_23, A_oneRoom_row_begins_24, A_oneRoom_row_ends_25, A_oneRoom_row_weights_26)) f s.1 s.2.1 s.2.2.1 s.2.2.2.1 s.2.2.2.2.1 s.2.2.2.2.2)
    (fun res => ∃ m σ N' Bg' En' Wt', ROWS n (bS p c l P b e) (bz p c b e) m σ ∧ RW m σ (bu p c b) (bz p c b e) w N' Bg' En' Wt' ∧ res = some (nI m, N', Bg', En', Wt')) n
    (fun i s => ∃ m σ N' Bg' En' Wt', ROWS i (bS p c l P b e) (bz p c b e) m σ ∧ RW m σ (bu p c b) (bz p c b e) w N' Bg' En' Wt' ∧ s = (nI i, nI m, N', Bg', En', Wt'))
    ?_ ?_ k (0, 0, N, Bg, En, Wt) (by omega) ⟨0, fun x => x, N, Bg, En, Wt, ROWS.zero _ _ _, fun p h => absurd h (Nat.not_lt_zero p), rfl⟩
  · rintro f i s hi ⟨m, σ, N', Bg', En', Wt', hR, hW', rfl⟩
    refine Or.inl ?_
    dsimp only
    have hm := hR.2.2.2
    have hbi := hb i
    have hui := hu i
    have e1 : bz p c b e i = bu p c b i + (e i - b i) := rfl
    rw [f_X4_fillBeside_L13_s, if_neg (nI_ge hi (by omega)), xi_nI (by omega) (by omega), nI_clamp (show i < 2 ^ 31 by omega), hB i hi, turned_eq (by omega) (by omega) hp (by omega), xb_s, lengthOf_eq hg hB hE hi, xb_s, contains_st k hx hi hn, xb_s, show dst p (c % p) (b i % p) = bu p c b i from rfl, nI_add, ← e1]
    have skip : bS p c l P b e i = false → ∃ s', (∃ m σ N' Bg' En' Wt', ROWS (i + 1) (bS p c l P b e) (bz p c b e) m σ ∧ RW m σ (bu p c b) (bz p c b e) w N' Bg' En' Wt' ∧ s' = (nI (i + 1), nI m, N', Bg', En', Wt')) ∧ f_X4_fillBeside_L13 k (nI c) (nI l) (nI p) (nI n) x B E W 1 (fun (v4_21 : Int32) (f_oneRoom_row_count_22 : Int32) (A_oneRoom_row_numbers_23 : Nat → Int32) (A_oneRoom_row_begins_24 : Nat → Int32) (A_oneRoom_row_ends_25 : Nat → Int32) (A_oneRoom_row_weights_26 : Nat → Int32) => some (f_oneRoom_row_count_22, A_oneRoom_row_numbers_23, A_oneRoom_row_begins_24, A_oneRoom_row_ends_25, A_oneRoom_row_weights_26)) f (nI i + 1) (nI m) N' Bg' En' Wt' = f_X4_fillBeside_L13 k (nI c) (nI l) (nI p) (nI n) x B E W 1 (fun (v4_21 : Int32) (f_oneRoom_row_count_22 : Int32) (A_oneRoom_row_numbers_23 : Nat → Int32) (A_oneRoom_row_begins_24 : Nat → Int32) (A_oneRoom_row_ends_25 : Nat → Int32) (A_oneRoom_row_weights_26 : Nat → Int32) => some (f_oneRoom_row_count_22, A_oneRoom_row_numbers_23, A_oneRoom_row_begins_24, A_oneRoom_row_ends_25, A_oneRoom_row_weights_26)) f s'.1 s'.2.1 s'.2.2.1 s'.2.2.2.1 s'.2.2.2.2.1 s'.2.2.2.2.2 := fun hs2 =>
      ⟨(nI (i + 1), nI m, N', Bg', En', Wt'), ⟨m, σ, N', Bg', En', Wt', hR.skip hs2, hW', rfl⟩, by rw [nI_1]⟩
    by_cases hp1 : P i = true
    · rw [if_neg (by rw [if_pos hp1]; decide)]
      by_cases c1 : bu p c b i < l
      · rw [if_pos (nI_lt c1 (by omega))]
        refine skip ?_
        unfold bS
        rw [decide_eq_false (p := l ≤ bu p c b i) (by omega), Bool.false_and, Bool.and_false]
      · rw [if_neg (nI_nlt (Nat.not_lt.mp c1) (by omega))]
        by_cases c2 : p < bz p c b e i
        · rw [if_pos (nI_lt c2 (by omega))]
          refine skip ?_
          unfold bS
          rw [decide_eq_false (p := bz p c b e i ≤ p) (by omega), Bool.and_false, Bool.and_false]
        · have hs : bS p c l P b e i = true := by
            unfold bS
            rw [hp1, decide_eq_true (p := l ≤ bu p c b i) (by omega), decide_eq_true (p := bz p c b e i ≤ p) (by omega)]
            rfl
          obtain ⟨q, N2, B2, E2, W2, h1, h2, h3, h4, h5⟩ := put_eq (k := k) (j := i) (byE := true) hk hW' (by omega) (fun j => by
            have := hb j
            have := hu j
            have e2 : bz p c b e j = bu p c b j + (e j - b j) := rfl
            omega)
          rw [if_neg (nI_nlt (Nat.not_lt.mp c2) (by omega)), xi_nI (by omega) (by omega), hW i hi]
          have h6 : f_X3_put k (nI i) (nI (bu p c b i)) (nI (bz p c b e i)) (nI (w i)) 1 (nI m) N' Bg' En' Wt' = some (nI (m + 1), N2, B2, E2, W2) := h5
          rw [h6, xb_s]
          try dsimp only
          refine ⟨(nI (i + 1), nI (m + 1), N2, B2, E2, W2), ⟨m + 1, insF σ q i, N2, B2, E2, W2, hR.ins hs h1 h2 h3, h4, rfl⟩, by rw [nI_1]⟩
    · rw [if_pos (by rw [if_neg hp1])]
      refine skip ?_
      unfold bS
      rw [bool_false_iff.mpr hp1, Bool.false_and]
  · rintro f s ⟨m, σ, N', Bg', En', Wt', hR, hW', rfl⟩
    dsimp only
    rw [f_X4_fillBeside_L13_s, if_pos (nI_le (Nat.le_refl _) (by omega))]
    exact ⟨m, σ, N', Bg', En', Wt', hR, hW', rfl⟩
theorem heaviestBeside_eq {c l : Nat} {cnt : Int32} {N Bg En Wt Be : Nat → Int32} (hk : 10000 ≤ k) (hg : GD n b e w) (hb : ∀ i, b i ≤ 1000 ∧ e i ≤ 1000 ∧ w i ≤ 1000) (hx : ST x n P) (hB : AR n B b) (hE : AR n E e) (hW : AR n W w) (hp : 1 ≤ p) (hp2 : p ≤ 1000) (hc : c ≤ 1000) (hl : l ≤ 1000) :
    ∃ v c' N' Bg' En' Wt' Be', IsM n (CM p b e) w (fun j => bS p c l P b e j = true) v ∧ f_X4_heaviestBeside k (nI c) (nI l) (nI p) (nI n) x B E W 1 cnt N Bg En Wt Be = some (nI v, c', N', Bg', En', Wt', Be') := by
  have hn := hg.1
  have hu : ∀ j, bu p c b j < p := fun j => (dst_spec (Nat.mod_lt _ hp) (Nat.mod_lt _ hp)).1
  obtain ⟨m, σ, N1, B1, E1, W1, hR, hRW, hfill⟩ := fillBeside_eq (cnt := cnt) (N := N) (Bg := Bg) (En := En) (Wt := Wt) hk hg hb hx hB hE hW hp hp2 hc hl
  obtain ⟨Be', v, h1, h2, h3⟩ := greatestWeight_eq (Be := Be) hk hn hR hRW (fun i hi _ => by
    have := hg.2 i hi
    have := hu i
    have e2 : bz p c b e i = bu p c b i + (e i - b i) := rfl
    omega) (fun i hi => (hg.2 i hi).2.2.2)
  have h4 : IsM n (ovl (bu p c b) (bz p c b e)) w (fun j => bS p c l P b e j = true) v := h2.cong fun j hj => by
    constructor
    · rintro ⟨q, hq, rfl⟩
      exact (hR.2.1 q hq).2
    · intro h
      obtain ⟨q, hq, he⟩ := hR.2.2.1 j hj h
      exact ⟨q, hq, he⟩
  refine ⟨v, nI m, N1, B1, E1, W1, Be', h4.rel fun i j hi hj hqi hqj hne => ?_, ?_⟩
  · simp only [bS, Bool.and_eq_true, decide_eq_true_eq] at hqi hqj
    have hgi := hg.2 i hi
    have hgj := hg.2 j hj
    rw [Bool.eq_iff_iff, CM_iff]
    simp only [ovl, Bool.and_eq_true, decide_eq_true_eq]
    exact circ_lin (p := p) (c := c % p) (Nat.mod_lt _ hp) (Nat.mod_lt _ hp) (Nat.mod_lt _ hp) (by omega) (by omega) hqi.2.2 hqj.2.2
  · unfold f_X4_heaviestBeside
    rw [hfill, xb_s]
    try dsimp only
    rw [h3, xb_s]
theorem circ_self {i : Nat} (hg : GD n b e w) (hi : i < n) : CM p b e i i = true := by
  rw [CM_iff]
  have := hg.2 i hi
  have : dst p (b i % p) (b i % p) = 0 := by unfold dst; rw [if_neg (by omega)]; omega
  omega
/-- going over the anchors, that all meet each other -/
theorem anchor_step {A : Nat → Bool} {i M u : Nat} (hg : GD n b e w) (hA : ∀ i j, i < n → j < n → A i = true → A j = true → CM p b e i j = true) (hi : i < n) (h1 : IsM n (CM p b e) w (fun j => P j = true ∧ (A j = true → j < i)) M) (hu : P i = true → A i = true → IsM n (CM p b e) w (fun j => P j = true ∧ CM p b e j i = false) u) :
    IsM n (CM p b e) w (fun j => P j = true ∧ (A j = true → j < i + 1)) (if P i = true ∧ A i = true then (if M < w i + u then w i + u else M) else M) := by
  by_cases c : P i = true ∧ A i = true
  · rw [if_pos c]
    refine IsM.step (CM_comm p b e) hi (fun ⟨_, q⟩ => by have := q c.2; omega) h1 (hu c.1 c.2) (fun j hj => ?_) (fun j hj => ?_)
    · constructor
      · rintro ⟨q1, q2⟩
        refine ⟨⟨q1, fun q3 => ?_⟩, q2⟩
        rw [hA j i hj hi q3 c.2] at q2; cases q2
      · rintro ⟨⟨q1, _⟩, q2⟩; exact ⟨q1, q2⟩
    · constructor
      · rintro ⟨q1, q2⟩
        by_cases h : j = i
        · exact Or.inr h
        · exact Or.inl ⟨q1, fun q => by have := q2 q; omega⟩
      · rintro (⟨q1, q2⟩ | rfl)
        · exact ⟨q1, fun q => by have := q2 q; omega⟩
        · exact ⟨c.1, fun _ => Nat.lt_succ_self _⟩
  · rw [if_neg c]
    refine h1.cong fun j hj => ⟨fun ⟨q1, q2⟩ => ⟨q1, fun q => by have := q2 q; omega⟩, fun ⟨q1, q2⟩ => ⟨q1, fun q => ?_⟩⟩
    have := q2 q
    by_cases h : j = i
    · subst h; exact absurd ⟨q1, q⟩ c
    · omega
theorem runsPast_eq {i : Nat} (hg : GD n b e w) (hB : AR n B b) (hE : AR n E e) (hi : i < n) (hp : 1 ≤ p) (hp2 : p ≤ 1000) : f_X4_runsPastTurn k (nI i) (nI p) B E = some (if p < b i % p + (e i - b i) then 1 else 0) := by
  have hn := hg.1
  have hgi := hg.2 i hi
  have hm := Nat.mod_lt (b i) hp
  unfold f_X4_runsPastTurn
  rw [xi_nI (by omega) (by omega), nI_clamp (by omega), hB i hi, turned_eq0 (by omega) hp (by omega), xb_s, lengthOf_eq hg hB hE hi, xb_s, nI_add]
  by_cases c : p < b i % p + (e i - b i)
  · rw [if_neg (nI_ge c (by omega)), if_pos c]
  · rw [if_pos (nI_le (Nat.not_lt.mp c) (by omega)), if_neg c]
theorem X4_heaviestRound_eq {cnt : Int32} {N Bg En Wt Be : Nat → Int32} (hk : 10000 ≤ k) (hg : GD n b e w) (hb : ∀ i, b i ≤ 1000 ∧ e i ≤ 1000 ∧ w i ≤ 1000) (hx : ST x n P) (hB : AR n B b) (hE : AR n E e) (hW : AR n W w) (hp : 1 ≤ p) (hp2 : p ≤ 1000) (hlen : ∀ j, j < n → P j = true → e j - b j ≤ p) (hreq : f_X4_requireCircle k (nI p) (nI n) x B E = some (.ok ())) :
    ∃ v c' N' Bg' En' Wt' Be', IsM n (CM p b e) w (fun j => P j = true) v ∧ f_X4_heaviestRound k (nI p) (nI n) x B E W 1 cnt N Bg En Wt Be = some (.ok (nI v, c', N', Bg', En', Wt', Be')) := by
  have hn := hg.1
  obtain ⟨v0, c0, N0, B0, E0, W0, Be0, hv0, hf0⟩ := heaviestBeside_eq (c := 0) (l := 0) (cnt := cnt) (N := N) (Bg := Bg) (En := En) (Wt := Wt) (Be := Be) hk hg hb hx hB hE hW hp hp2 (by omega) (by omega)
  unfold f_X4_heaviestRound
  rw [hreq, xe_s, show f_X4_heaviestBeside k 0 0 (nI p) (nI n) x B E W 1 cnt N Bg En Wt Be = _ from hf0, xb_s]
  try dsimp only
  refine loopE (fun f (s : Int32 × Int32 × Int32 × (Nat → Int32) × (Nat → Int32) × (Nat → Int32) × (Nat → Int32) × (Nat → Int32)) => f_X4_heaviestRound_L15 k (nI p) (nI n) x B E W 1 (fun (v2_29 : Int32) (v3_30 : Int32) (f_oneRoom_row_count_31 : Int32) (A_oneRoom_row_numbers_32 : Nat → Int32) (A_oneRoom_row_begins_33 : Nat → Int32) (A_oneRoom_row_ends_34 : Nat → Int32) (A_oneRoom_row_weights_35 : Nat → Int32) (A_oneRoom_best_36 : Nat → Int32) => some (.ok (v2_29, f_oneRoom_row_count_31, A_oneRoom_row_numbers_32, A_oneRoom_row_begins_33, A_oneRoom_row_ends_34, A_oneRoom_row_weights_35, A_oneRoom_best_36))) f s.1 s.2.1 s.2.2.1 s.2.2.2.1 s.2.2.2.2.1 s.2.2.2.2.2.1 s.2.2.2.2.2.2.1 s.2.2.2.2.2.2.2)
    (fun res => ∃ v c' N' Bg' En' Wt' Be', IsM n (CM p b e) w (fun j => P j = true) v ∧ res = some (.ok (nI v, c', N', Bg', En', Wt', Be'))) n
    (fun i s => ∃ M c' N' Bg' En' Wt' Be', IsM n (CM p b e) w (fun j => P j = true ∧ (decide (p < b j % p + (e j - b j)) = true → j < i)) M ∧ s = (nI M, nI i, c', N', Bg', En', Wt', Be'))
    ?_ ?_ k (nI v0, 0, c0, N0, B0, E0, W0, Be0) (by omega) ⟨v0, c0, N0, B0, E0, W0, Be0, hv0.cong fun j hj => ?_, rfl⟩
  · rintro f i s hi ⟨M, c1, N1, B1, E1, W1, Be1, hM, rfl⟩
    refine Or.inl ?_
    dsimp only
    have hgi := hg.2 i hi
    have hMl := hM.le (fun i hi => (hg.2 i hi).2.2.2)
    have hAA : ∀ i j, i < n → j < n → decide (p < b i % p + (e i - b i)) = true → decide (p < b j % p + (e j - b j)) = true → CM p b e i j = true := by
      intro i j hi hj h1 h2
      rw [decide_eq_true_iff] at h1 h2
      rw [CM_iff]
      have hri := Nat.mod_lt (b i) hp
      have hrj := Nat.mod_lt (b j) hp
      have a1 := dst_spec hri hrj
      have a2 := dst_spec hrj hri
      omega
    have hstep := fun u => anchor_step (A := fun j => decide (p < b j % p + (e j - b j))) (u := u) hg hAA hi hM
    rw [f_X4_heaviestRound_L15_s, if_neg (nI_ge hi (by omega)), contains_st k hx hi hn, xb_s]
    by_cases hpi : P i = true
    · rw [if_neg (by rw [if_pos hpi]; decide), runsPast_eq hg hB hE hi hp hp2, xb_s]
      by_cases hA : p < b i % p + (e i - b i)
      · obtain ⟨u, c2, N2, B2, E2, W2, Be2, hu, hf⟩ := heaviestBeside_eq (c := b i) (l := e i - b i) (cnt := c1) (N := N1) (Bg := B1) (En := E1) (Wt := W1) (Be := Be1) hk hg hb hx hB hE hW hp hp2 (by omega) (by omega)
        have hul := hu.le (fun i hi => (hg.2 i hi).2.2.2)
        rw [if_neg (by rw [if_pos hA]; decide), xi_nI (by omega) (by omega), lengthOf_eq hg hB hE hi, xb_s, nI_clamp (show i < 2 ^ 31 by omega), hB i hi, hf, xb_s]
        try dsimp only
        rw [xi_nI (by omega) (by omega), hW i hi, nI_add, nI_1]
        have h9 := hstep u (fun _ _ => hu.cong fun j hj => by
          have hgj := hg.2 j hj
          rw [bool_false_iff, CM_iff]
          simp only [bS, Bool.and_eq_true, decide_eq_true_eq]
          refine and_congr Iff.rfl ?_
          exact circ_free (p := p) (Nat.mod_lt _ hp) (Nat.mod_lt _ hp) (by omega) (by omega))
        rw [if_pos ⟨hpi, decide_eq_true hA⟩] at h9
        refine ⟨(nI (if M < w i + u then w i + u else M), nI (i + 1), c2, N2, B2, E2, W2, Be2), ⟨_, c2, N2, B2, E2, W2, Be2, h9, rfl⟩, ?_⟩
        by_cases c : M < w i + u
        · rw [if_pos (nI_lt c (by omega)), if_pos c]
        · rw [if_neg (nI_nlt (Nat.not_lt.mp c) (by omega)), if_neg c]
      · have h9 := hstep 0 (fun _ h => absurd (of_decide_eq_true h) hA)
        rw [if_neg (fun q => hA (of_decide_eq_true q.2))] at h9
        rw [if_pos (by rw [if_neg hA]), nI_1]
        exact ⟨(nI M, nI (i + 1), c1, N1, B1, E1, W1, Be1), ⟨_, c1, N1, B1, E1, W1, Be1, h9, rfl⟩, rfl⟩
    · have h9 := hstep 0 (fun h _ => absurd h hpi)
      rw [if_neg (fun q => hpi q.1)] at h9
      rw [if_pos (by rw [if_neg hpi]), nI_1]
      exact ⟨(nI M, nI (i + 1), c1, N1, B1, E1, W1, Be1), ⟨_, c1, N1, B1, E1, W1, Be1, h9, rfl⟩, rfl⟩
  · rintro f s ⟨M, c1, N1, B1, E1, W1, Be1, hM, rfl⟩
    dsimp only
    rw [f_X4_heaviestRound_L15_s, if_pos (nI_le (Nat.le_refl _) (by omega))]
    exact ⟨M, c1, N1, B1, E1, W1, Be1, hM.cong fun j hj => ⟨fun h => h.1, fun h => ⟨h, fun _ => hj⟩⟩, rfl⟩
  · simp only [bS, bz, bu, Nat.zero_mod, dst_z, Bool.and_eq_true, decide_eq_true_eq]
    constructor
    · rintro ⟨h1, h2, h3⟩
      exact ⟨h1, fun h => by omega⟩
    · rintro ⟨h1, h2⟩
      refine ⟨h1, by omega, ?_⟩
      rcases Nat.lt_or_ge p (b j % p + (e j - b j)) with h | h
      · exact absurd (h2 h) (Nat.not_lt_zero j)
      · exact h
end HR
