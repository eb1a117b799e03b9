/-! Several rooms: the class's rounds, its way back, its answer. -/
section CLS2
variable {k m : Nat} {st ww : Nat → Nat} {U : Nat → Bool} {fl D d : Nat → Nat} {par : Nat → Nat × Nat} {Wt St Tk Wg Ga CF BT : Nat → Int32}
theorem sm_same {f g : Nat → Nat} : ∀ n, (∀ i, i < n → f i ≤ g i) → fb_sm g n ≤ fb_sm f n → ∀ i, i < n → f i = g i := by
  intro n
  induction n with
  | zero => intro _ _ i h; exact absurd h (Nat.not_lt_zero i)
  | succ n ih =>
    intro h1 h2 i hi
    rw [fb_sm_succ, fb_sm_succ] at h2
    have h3 := fb_sm_le (f := f) (g := g) (n := n) fun k hk => h1 k (by omega)
    have h4 := h1 n (by omega)
    rcases Nat.lt_or_ge i n with c | c
    · exact ih (fun k hk => h1 k (by omega)) (by omega) i c
    · have : i = n := by omega
      subst this; omega
theorem dmn_same {N m : Nat} {AL : Nat → Bool} {p q w : Nat → Nat} (hD : DMN N m AL p q w U fl D) (hV : VP N m AL p q w U fl d) (h0 : d 0 = 0) (hle : ∀ v, v ≤ N → d v ≤ D v) : ∀ v, v ≤ N → d v = D v := fun v hv => sm_same (N + 1) (fun i hi => hle i (by omega)) (hD.2.2 d hV h0) v (by omega)
theorem findBestWay_eq (hk9 : 10000 ≤ k) (hm : m ≤ 40) (hk : NOK m m yes idn st ww) (hDM : DMN m m yes idn st ww U fl D) (hDl : ∀ v, v ≤ m → D v ≤ 6642000) (hW : AR m Wt ww) (hSt : AR m St st) (hT : BZ m Tk U) (hWg : AR m Wg fl) (hfl : ∀ v, v < m → fl v ≤ 100) :
    ∃ Ga' CF' BT' d' par', SRC m st ww U fl D d' par' Ga' CF' BT' ∧ (∀ v, v ≤ m → d' v = D v) ∧ f_X1_findBestWay k (nI m) Wt St Tk Wg Ga CF BT = some (Ga', CF', BT') := by
  have hD := hDM.1
  have hD0 := hDM.2.1
  unfold f_X1_findBestWay
  refine loopE (fun f (s : Int32 × (Nat → Int32) × (Nat → Int32) × (Nat → Int32)) => f_X1_findBestWay_L2 k (nI m) (fun (v1_5 : Int32) (A_gain_6 : Nat → Int32) (A_cameFrom_7 : Nat → Int32) (A_cameByTaking_8 : Nat → Int32) => f_X1_findBestWay_L44 k (nI m) Wt St Tk Wg (fun (v1_20 : Int32) (A_gain_21 : Nat → Int32) (A_cameFrom_22 : Nat → Int32) (A_cameByTaking_23 : Nat → Int32) => some (A_gain_21, A_cameFrom_22, A_cameByTaking_23)) k 0 A_gain_6 A_cameFrom_7 A_cameByTaking_8) f s.1 s.2.1 s.2.2.1 s.2.2.2)
    (fun res => ∃ Ga' CF' BT' d' par', SRC m st ww U fl D d' par' Ga' CF' BT' ∧ (∀ v, v ≤ m → d' v = D v) ∧ res = some (Ga', CF', BT')) (m + 1)
    (fun a s => s.1 = nI a ∧ ∀ x, x < a → s.2.1 x = nI 0 ∧ (x ≠ 0 → s.2.2.1 x = nI (x - 1)) ∧ s.2.2.2 x = 0) ?_ ?_ k (0, Ga, CF, BT) (by omega) ⟨rfl, fun x h => absurd h (Nat.not_lt_zero x)⟩
  · rintro f a ⟨y, G0, C0, B0⟩ ha ⟨rfl, hI⟩
    refine Or.inl ⟨(nI (a + 1), upd G0 a 0, upd C0 a (nI a - 1), upd B0 a 0), ⟨rfl, fun x hx => ?_⟩, ?_⟩
    · try dsimp only at hI ⊢
      unfold upd
      by_cases c : x = a
      · rw [if_pos c, if_pos c, if_pos c, c]
        refine ⟨rfl, fun h0 => ?_, rfl⟩
        exact pk_sub (b := 1) (by omega)
      · rw [if_neg c, if_neg c, if_neg c]; exact hI x (by omega)
    · try dsimp only
      rw [f_X1_findBestWay_L2_s, if_neg (nI_nlt (by omega) (by omega)), xi_nI (by omega) (by omega), xi_nI (by omega) (by omega), xi_nI (by omega) (by omega), nI_clamp (show a < 2 ^ 31 by omega), nI_1, nar_0]
  · rintro f ⟨y, G0, C0, B0⟩ ⟨rfl, hI⟩
    try dsimp only at hI ⊢
    rw [f_X1_findBestWay_L2_s, if_pos (nI_lt (by omega) (by omega))]
    have h0 : SRC m st ww U fl D (fun _ => 0) (fun x => (0, x - 1)) G0 C0 B0 := by
      refine ⟨⟨rfl, rfl, fun v _ _ => Nat.zero_le _, fun x => x, m + 1, fun v hv => by show v < m + 1; omega, fun v hv hv0 _ => ?_⟩, fun x hx => (hI x hx).1, fun x hx hx0 => ?_⟩
      · exact ⟨v - 1, 0, 0, Or.inl ⟨rfl, rfl, by show v = v - 1 + 1; omega, by show v - 1 < m; omega, rfl, rfl⟩, rfl, Nat.le_refl _, fun _ => by show v - 1 < v; omega⟩
      · obtain ⟨-, h1, h2⟩ := hI x (by omega)
        exact ⟨h1 hx0, h2⟩
    have key : ∀ g f h d par G C B, h + g = m + 1 → g < f → SRC m st ww U fl D d par G C B → (∀ c i u v gp gm, ARC m m yes idn st ww U fl c i u v gp gm → v < u → d u + gp ≤ d v + gm) → ((∀ v, v ≤ m → d v = D v) ∨ h + 1 ≤ fb_ct (fun v => decide (d v = D v)) (m + 1)) →
      (fun res => ∃ Ga' CF' BT' d' par', SRC m st ww U fl D d' par' Ga' CF' BT' ∧ (∀ v, v ≤ m → d' v = D v) ∧ res = some (Ga', CF', BT')) (f_X1_findBestWay_L44 k (nI m) Wt St Tk Wg (fun (v1_20 : Int32) (A_gain_21 : Nat → Int32) (A_cameFrom_22 : Nat → Int32) (A_cameByTaking_23 : Nat → Int32) => some (A_gain_21, A_cameFrom_22, A_cameByTaking_23)) f (nI h) G C B) := by
      intro g
      induction g with
      | zero =>
        intro f h d par G C B e1 e2 e3 e4 e5
        obtain ⟨f, rfl⟩ : ∃ q, f = q + 1 := ⟨f - 1, by omega⟩
        rw [f_X1_findBestWay_L44_s, if_pos (nI_lt (by omega) (by omega))]
        refine ⟨G, C, B, d, par, e3, ?_, rfl⟩
        rcases e5 with h9 | h9
        · exact h9
        · have := fb_ct_le (fun v => decide (d v = D v)) (m + 1)
          omega
      | succ g ih =>
        intro f h d par G C B e1 e2 e3 e4 e5
        obtain ⟨f, rfl⟩ : ∃ q, f = q + 1 := ⟨f - 1, by omega⟩
        obtain ⟨r, G1, C1, B1, d1, par1, j1, j2, j3, j4, j5⟩ := improveForwards_eq hk9 hm hk hD hD0 hDl e3 hW hSt hT
        rw [f_X1_findBestWay_L44_s, if_neg (nI_nlt (by omega) (by omega)), j5, xb_s]
        try dsimp only
        by_cases hr : r = 0
        · rw [if_pos hr]
          refine ⟨G1, C1, B1, d1, par1, j1, ?_, rfl⟩
          have hd1 : d1 = d := by
            rcases j4 with ⟨-, h9⟩ | h9
            · exact h9
            · rw [h9] at hr; exact absurd hr (by decide)
          rw [hd1] at j3 j1 ⊢
          refine dmn_same hDM (fun c i u v gp gm hA => ?_) j1.1.2.1 (fun v hv => j1.le hv)
          have hl := hA.le hk
          rcases Nat.lt_or_ge u v with h9 | h9
          · exact j3 c i u v gp gm hA h9
          · exact e4 c i u v gp gm hA (by omega)
        · obtain ⟨G2, C2, B2, d2, par2, l1, l2, l3, l4⟩ := improveBackwards_eq hk9 hm hk hD hD0 hDl j1 hW hSt hT hWg hfl
          rw [if_neg hr, l4, xb_s]
          try dsimp only
          rw [nI_1]
          refine ih f (h + 1) d2 par2 G2 C2 B2 (by omega) (by omega) l1 l3 ?_
          have hg := dmn_grow (d2 := d2) hk hDM (by rw [e3.1.2.1, hD0]) (fun v hv => Nat.le_trans (j2 v hv) (l2 v hv)) (fun v hv => l1.le hv) (fun c i u v gp gm hA => by
            have hl := hA.le hk
            have a1 := j2 u hl.1
            have a2 := l2 u hl.1
            have a3 := l2 v hl.2.1
            rcases Nat.lt_or_ge u v with h9 | h9
            · have := j3 c i u v gp gm hA h9; omega
            · have := l3 c i u v gp gm hA (by omega); omega)
          rcases e5 with h9 | h9
          · refine Or.inl fun v hv => ?_
            have a1 := h9 v hv
            have a2 := j2 v hv
            have a3 := l2 v hv
            have a4 := l1.le hv
            omega
          · rcases hg with h8 | h8
            · refine Or.inl fun v hv => ?_
              have a1 := h8 v hv
              have a2 := j2 v hv
              have a3 := l2 v hv
              have a4 := l1.le hv
              omega
            · exact Or.inr (by omega)
    refine key (m + 1) k 0 _ _ G0 C0 B0 (by omega) (by omega) h0 (fun c i u v gp gm hA huv => ?_) (Or.inr ?_)
    · rcases hA with ⟨-, b1, b2, b3, b4, b5⟩ | ⟨-, b1, b2, b3, b4, b5, b6⟩ | ⟨-, b1, b2, b3, b4, b5, b6, b7⟩ | ⟨-, b1, b2, b3, b4, b5, b6, b7⟩
      · omega
      · omega
      · have := (hk i b3 b4).1
        omega
      · omega
    · exact fb_ct_pos.mpr ⟨0, by omega, decide_eq_true hD0.symm⟩
theorem rank_lt {τ : Nat → Nat} {u x N : Nat} (hu : u ≤ N) (h : τ u < τ x) : fb_ct (fun y => decide (τ y < τ u)) (N + 1) < fb_ct (fun y => decide (τ y < τ x)) (N + 1) := by
  have h7 := fb_ct_upd (fun y => decide (τ y < τ u)) true (i := u) (n := N + 1) (by omega)
  try dsimp only at h7
  rw [decide_eq_false (Nat.lt_irrefl _), if_pos rfl] at h7
  simp only [Bool.false_eq_true, if_false] at h7
  have h8 : fb_ct (fun k => if k = u then true else decide (τ k < τ u)) (N + 1) ≤ fb_ct (fun y => decide (τ y < τ x)) (N + 1) := fb_ct_sub fun k _ hq => by
    try dsimp only at hq ⊢
    by_cases c1 : k = u
    · rw [c1]; exact decide_eq_true h
    · rw [if_neg c1] at hq
      have := of_decide_eq_true hq
      exact decide_eq_true (by omega)
  omega
theorem rank_le {τ : Nat → Nat} {N : Nat} : fb_ct (fun y => decide (τ y < τ N)) (N + 1) ≤ N := by
  show fb_ct (fun y => decide (τ y < τ N)) N + (if decide (τ N < τ N) = true then 1 else 0) ≤ N
  rw [decide_eq_false (Nat.lt_irrefl _)]
  have := fb_ct_le (fun y => decide (τ y < τ N)) N
  simp only [Bool.false_eq_true, if_false]
  omega
theorem goBestWay_eq {τ : Nat → Nat} {R W0 : Nat} (hk9 : 10000 ≤ k) (hm : m ≤ 40) (hk : NOK m m yes idn st ww) (hW : WLK m m yes idn st ww D par τ R W0 m U fl) (hT : BZ m Tk U) (hWg : AR m Wg fl) (hC : ∀ x, x ≤ m → x ≠ 0 → CF x = nI (tl st (par x).1 (par x).2) ∧ BT x = if 2 ≤ (par x).1 then 1 else 0) :
    ∃ Tk' Wg' U' fl', WLK m m yes idn st ww D par τ R W0 0 U' fl' ∧ BZ m Tk' U' ∧ AR m Wg' fl' ∧ f_X1_goBestWay k (nI m) Tk Wg CF BT = some (Tk', Wg') := by
  unfold f_X1_goBestWay
  have key : ∀ r f x s U fl Tk Wg, fb_ct (fun y => decide (τ y < τ x)) (m + 1) ≤ r → s + r ≤ m → r < f → WLK m m yes idn st ww D par τ R W0 x U fl → BZ m Tk U → AR m Wg fl →
      ∃ Tk' Wg' U' fl', WLK m m yes idn st ww D par τ R W0 0 U' fl' ∧ BZ m Tk' U' ∧ AR m Wg' fl' ∧ f_X1_goBestWay_L10 k (nI m) CF BT (fun (v1_14 : Int32) (v2_15 : Int32) (A_taken_16 : Nat → Int32) (A_waiting_17 : Nat → Int32) => some (A_taken_16, A_waiting_17)) f (nI x) (nI s) Tk Wg = some (Tk', Wg') := by
    intro r
    induction r with
    | zero =>
      intro f x s U fl Tk Wg h1 h2 h3 h4 h5 h6
      obtain ⟨f, rfl⟩ : ∃ q, f = q + 1 := ⟨f - 1, by omega⟩
      have hx : x = 0 := by
        by_cases hx : x = 0
        · exact hx
        · obtain ⟨u, gp, gm, hA, hτ, -⟩ := h4.step hk hx
          have := rank_lt (N := m) (hA.le hk).1 hτ
          omega
      subst hx
      rw [f_X1_goBestWay_L10_s, if_pos (show nI 0 ≤ (0 : Int32) by decide)]
      exact ⟨Tk, Wg, U, fl, h4, h5, h6, rfl⟩
    | succ r ih =>
      intro f x s U fl Tk Wg h1 h2 h3 h4 h5 h6
      obtain ⟨f, rfl⟩ : ∃ q, f = q + 1 := ⟨f - 1, by omega⟩
      by_cases hx : x = 0
      · subst hx
        rw [f_X1_goBestWay_L10_s, if_pos (show nI 0 ≤ (0 : Int32) by decide)]
        exact ⟨Tk, Wg, U, fl, h4, h5, h6, rfl⟩
      · obtain ⟨u, gp, gm, hA, hτ, hW2⟩ := h4.step hk hx
        have hl := hA.le hk
        have hrk := rank_lt (N := m) hl.1 hτ
        obtain ⟨hc1, hc2⟩ := hC x (by omega) hx
        rw [← arc_tl hA] at hc1
        have go := fun Tk' Wg' hb ha => ih f u (s + 1) _ _ Tk' Wg' (by omega) (by omega) (by omega) hW2 hb ha
        rw [f_X1_goBestWay_L10_s, if_neg (nI_nle (by omega) (by omega)), if_neg (nI_nlt (by omega) (by omega)), xi_nI (by omega) (by omega), nI_clamp (show x < 2 ^ 31 by omega), hc1, hc2, nI_1]
        generalize (par x).1 = c at hA hc2 hW2 go ⊢
        generalize (par x).2 = i at hA hW2 go ⊢
        rcases hA with ⟨rfl, b1, b2, b3, b4, b5⟩ | ⟨rfl, b1, b2, b3, b4, b5, b6⟩ | ⟨rfl, b1, b2, b3, b4, b5, b6, b7⟩ | ⟨rfl, b1, b2, b3, b4, b5, b6, b7⟩
        · rw [xj_if (if_neg (nI_ge (show u < x by omega) (by omega))), if_neg (nI_nlt (show u ≤ x by omega) (by omega)), b1, xi_nI (by omega) (by omega), if_pos (by decide), xi_nI (by omega) (by omega), if_neg (by decide), xi_nI (by omega) (by omega), nI_clamp (show i < 2 ^ 31 by omega), h6 i b3, nI_1]
          rw [b1] at go
          exact go Tk _ h5 h6.set
        · rw [xj_if (if_pos (nI_le (show x ≤ u by omega) (by omega))), if_pos (nI_lt (show x < u by omega) (by omega)), b2, xi_nI (by omega) (by omega), if_pos (by decide), xi_nI (by omega) (by omega), if_pos rfl, xi_nI (by omega) (by omega), nI_clamp (show i < 2 ^ 31 by omega), h6 i b3]
          obtain ⟨t, ht⟩ : ∃ t, fl i = t + 1 := ⟨fl i - 1, by omega⟩
          rw [ht, pk_m1]
          refine go Tk _ h5 ?_
          have : sndF fl 1 i = fs fl i t := by
            show fs fl i (fl i - 1) = _
            rw [ht]; rfl
          rw [this]
          exact h6.set
        · have hki := hk i b3 rfl
          have hux : u < x := by rw [b1, b2]; exact hki.1
          have b1' : u = i := b1
          rw [xj_if (if_neg (nI_ge hux (by omega))), if_neg (nI_nlt (Nat.le_of_lt hux) (by omega)), b1', xi_nI (by omega) (by omega), if_neg (by decide), xi_nI (by omega) (by omega), nI_clamp (show i < 2 ^ 31 by omega), nar_1]
          rw [b1'] at go
          exact go _ Wg (h5.set true rfl) h6
        · have hki := hk i b3 rfl
          have hux : x < u := by rw [b1, b2]; exact hki.1
          have b2' : x = i := b2
          rw [xj_if (if_pos (nI_le (Nat.le_of_lt hux) (by omega))), if_pos (nI_lt hux (by omega)), b2', xi_nI (by omega) (by omega), if_neg (by decide), xi_nI (by omega) (by omega), nI_clamp (show i < 2 ^ 31 by omega), nar_0]
          exact go _ Wg (h5.set false rfl) h6
  exact key m k m 0 U fl Tk Wg rank_le (by omega) (by omega) hW hT hWg
theorem firstBegunFrom_eq {s0 en : Nat} {bb : Nat → Nat} {Bg : Nat → Int32} (hk9 : 10000 ≤ k) (hm : m ≤ 40) (hB : AR m Bg bb) (hb : ∀ i, i < m → bb i ≤ 1000) (hen : en ≤ 1000) (hs : s0 ≤ m) (hmono : ∀ i j, i ≤ j → j < m → bb i ≤ bb j) :
    ∃ r, s0 ≤ r ∧ r ≤ m ∧ (∀ v, s0 ≤ v → v < m → (v < r ↔ bb v < en)) ∧ f_X1_firstBegunFrom k (nI en) (nI s0) (nI m) Bg = some (nI r) := by
  unfold f_X1_firstBegunFrom
  have key : ∀ g f v, v + g = m → g < f → s0 ≤ v → (∀ x, s0 ≤ x → x < v → bb x < en) → (fun res => ∃ r, s0 ≤ r ∧ r ≤ m ∧ (∀ v, s0 ≤ v → v < m → (v < r ↔ bb v < en)) ∧ res = some (nI r)) (f_X1_firstBegunFrom_L2 k (nI en) (nI m) Bg (fun (v3_4 : Int32) => some v3_4) f (nI v)) := by
    intro g
    induction g with
    | zero =>
      intro f v h1 h2 h3 h4
      obtain ⟨f, rfl⟩ : ∃ q, f = q + 1 := ⟨f - 1, by omega⟩
      have : v = m := by omega
      subst this
      rw [f_X1_firstBegunFrom_L2_s, if_pos (nI_le (Nat.le_refl _) (by omega))]
      exact ⟨v, h3, Nat.le_refl _, fun x hx1 hx2 => ⟨fun _ => h4 x hx1 hx2, fun _ => hx2⟩, rfl⟩
    | succ g ih =>
      intro f v h1 h2 h3 h4
      obtain ⟨f, rfl⟩ : ∃ q, f = q + 1 := ⟨f - 1, by omega⟩
      have hbv := hb v (by omega)
      rw [f_X1_firstBegunFrom_L2_s, if_neg (nI_ge (by omega) (by omega)), xi_nI (by omega) (by omega), nI_clamp (by omega), hB v (by omega)]
      by_cases c : en ≤ bb v
      · rw [if_pos (nI_le c (by omega))]
        refine ⟨v, h3, by omega, fun x hx1 hx2 => ⟨fun h => h4 x hx1 h, fun h => ?_⟩, rfl⟩
        rcases Nat.lt_or_ge x v with h9 | h9
        · exact h9
        · have := hmono v x h9 hx2; omega
      · rw [if_neg (nI_ge (Nat.not_le.mp c) (by omega)), nI_1]
        refine ih f (v + 1) (by omega) (by omega) (by omega) fun x hx1 hx2 => ?_
        rcases Nat.lt_or_ge x v with h9 | h9
        · exact h4 x hx1 h9
        · have : x = v := by omega
          rw [this]; omega
  exact key (m - s0) k s0 (by omega) (by omega) (Nat.le_refl _) fun x h1 h2 => by omega
theorem X1_clearRooms_eq {bb ee : Nat → Nat} {Bg En : Nat → Int32} (hk9 : 10000 ≤ k) (hm : m ≤ 40) (hB : AR m Bg bb) (hE : AR m En ee) (hb : ∀ i, i < m → bb i ≤ 1000 ∧ ee i ≤ 1000) (hmono : ∀ i j, i ≤ j → j < m → bb i ≤ bb j) :
    ∃ st St' Tk' Wg', (∀ i, i < m → i < st i ∧ st i ≤ m ∧ ∀ v, i + 1 ≤ v → v < m → (v < st i ↔ bb v < ee i)) ∧ AR m St' st ∧ BZ m Tk' (fun _ => false) ∧ AR m Wg' (fun _ => 0) ∧ f_X1_clearRooms k (nI m) Bg En St Tk Wg = some (St', Tk', Wg') := by
  unfold f_X1_clearRooms
  refine loopE (fun f (s : Int32 × (Nat → Int32) × (Nat → Int32) × (Nat → Int32)) => f_X1_clearRooms_L2 k (nI m) Bg En (fun (v1_8 : Int32) (A_stopAfter_9 : Nat → Int32) (A_taken_10 : Nat → Int32) (A_waiting_11 : Nat → Int32) => some (A_stopAfter_9, A_taken_10, A_waiting_11)) f s.1 s.2.1 s.2.2.1 s.2.2.2)
    (fun res => ∃ st St' Tk' Wg', (∀ i, i < m → i < st i ∧ st i ≤ m ∧ ∀ v, i + 1 ≤ v → v < m → (v < st i ↔ bb v < ee i)) ∧ AR m St' st ∧ BZ m Tk' (fun _ => false) ∧ AR m Wg' (fun _ => 0) ∧ res = some (St', Tk', Wg')) m
    (fun a s => s.1 = nI a ∧ (∃ st : Nat → Nat, (∀ i, i < a → i < st i ∧ st i ≤ m ∧ ∀ v, i + 1 ≤ v → v < m → (v < st i ↔ bb v < ee i)) ∧ AR a s.2.1 st) ∧ BZ a s.2.2.1 (fun _ => false) ∧ AR a s.2.2.2 (fun _ => 0)) ?_ ?_ k (0, St, Tk, Wg) (by omega) ⟨rfl, ⟨fun x => x, fun i h => absurd h (Nat.not_lt_zero i), fun i h => absurd h (Nat.not_lt_zero i)⟩, fun i h => absurd h (Nat.not_lt_zero i), fun i h => absurd h (Nat.not_lt_zero i)⟩
  · rintro f a ⟨y, S0, T0, W0⟩ ha ⟨rfl, ⟨st, i1, i2⟩, i3, i4⟩
    try dsimp only at i2 i3 i4
    have hba := hb a ha
    obtain ⟨r, r1, r2, r3, r4⟩ := firstBegunFrom_eq (s0 := a + 1) (en := ee a) hk9 hm hB (fun i hi => (hb i hi).1) hba.2 (by omega) hmono
    refine Or.inl ⟨(nI (a + 1), upd S0 a (nI r), upd T0 a 0, upd W0 a 0), ⟨rfl, ⟨fs st a r, fun i hi => ?_, fun i hi => ?_⟩, fun i hi => ?_, fun i hi => ?_⟩, ?_⟩
    · by_cases c : i = a
      · rw [c, fs_at]; exact ⟨by omega, r2, r3⟩
      · rw [fs_ne _ _ c]; exact i1 i (by omega)
    · try dsimp only
      unfold upd
      by_cases c : i = a
      · rw [if_pos c, c, fs_at]
      · rw [if_neg c, fs_ne _ _ c]; exact i2 i (by omega)
    · try dsimp only
      unfold upd
      by_cases c : i = a
      · rw [if_pos c]; rfl
      · rw [if_neg c]; exact i3 i (by omega)
    · try dsimp only
      unfold upd
      by_cases c : i = a
      · rw [if_pos c]; rfl
      · rw [if_neg c]; exact i4 i (by omega)
    · try dsimp only
      rw [f_X1_clearRooms_L2_s, if_neg (nI_ge ha (by omega)), xi_nI (by omega) (by omega), xi_nI (by omega) (by omega), xi_nI (by omega) (by omega), nI_clamp (show a < 2 ^ 31 by omega), hE a ha, nI_1, r4, xb_s, xi_nI (by omega) (by omega), nar_0]
  · rintro f ⟨y, S0, T0, W0⟩ ⟨rfl, ⟨st, i1, i2⟩, i3, i4⟩
    try dsimp only
    rw [f_X1_clearRooms_L2_s, if_pos (nI_le (Nat.le_refl _) (by omega))]
    exact ⟨st, S0, T0, W0, i1, i2, i3, i4, rfl⟩
theorem wtU_le {m : Nat} {AL : Nat → Bool} {w : Nat → Nat} {U : Nat → Bool} (h : ∀ i, i < m → w i ≤ 1000) : wtU m AL w U ≤ m * 1000 := fb_sm_bound fun j hj => by
  have := h j hj
  by_cases c : (AL j && U j) = true
  · rw [if_pos c]; exact this
  · rw [if_neg c]; omega
theorem X1_greatestWeight_eq {R : Nat} {bb ee : Nat → Nat} {Bg En : Nat → Int32} (hk9 : 10000 ≤ k) (hm : m ≤ 40) (hR : R ≤ 6) (hB : AR m Bg bb) (hE : AR m En ee) (hW : AR m Wt ww) (hb : ∀ i, i < m → bb i ≤ 1000 ∧ ee i ≤ 1000) (hww : ∀ i, i < m → ww i ≤ 1000) (hmono : ∀ i j, i ≤ j → j < m → bb i ≤ bb j) :
    ∃ (st : Nat → Nat) (U : Nat → Bool) (fl : Nat → Nat) (St' Tk' Wg' Ga' CF' BT' : Nat → Int32), (∀ i, i < m → i < st i ∧ st i ≤ m ∧ ∀ v, i + 1 ≤ v → v < m → (v < st i ↔ bb v < ee i)) ∧ NOK m m yes idn st ww ∧ STG m m yes idn st ww R U fl ∧ f_X1_greatestWeight k (nI R) (nI m) Bg En Wt St Tk Wg Ga CF BT = some (nI (wtU m yes ww U), St', Tk', Wg', Ga', CF', BT') := by
  obtain ⟨st, St1, Tk1, Wg1, s1, s2, s3, s4, s5⟩ := X1_clearRooms_eq (St := St) (Tk := Tk) (Wg := Wg) hk9 hm hB hE hb hmono
  have hk : NOK m m yes idn st ww := fun j hj _ => ⟨(s1 j hj).1, (s1 j hj).2.1, hww j hj⟩
  unfold f_X1_greatestWeight
  rw [s5, xb_s]
  try dsimp only
  refine loopE (fun f (s : Int32 × Int32 × (Nat → Int32) × (Nat → Int32) × (Nat → Int32) × (Nat → Int32) × (Nat → Int32)) => f_X1_greatestWeight_L8 k (nI R) (nI m) Wt St1 (fun (v2_14 : Int32) (v3_15 : Int32) (A_taken_16 : Nat → Int32) (A_waiting_17 : Nat → Int32) (A_gain_18 : Nat → Int32) (A_cameFrom_19 : Nat → Int32) (A_cameByTaking_20 : Nat → Int32) => some (v2_14, St1, A_taken_16, A_waiting_17, A_gain_18, A_cameFrom_19, A_cameByTaking_20)) f s.1 s.2.1 s.2.2.1 s.2.2.2.1 s.2.2.2.2.1 s.2.2.2.2.2.1 s.2.2.2.2.2.2)
    (fun res => ∃ (st : Nat → Nat) (U : Nat → Bool) (fl : Nat → Nat) (St' Tk' Wg' Ga' CF' BT' : Nat → Int32), (∀ i, i < m → i < st i ∧ st i ≤ m ∧ ∀ v, i + 1 ≤ v → v < m → (v < st i ↔ bb v < ee i)) ∧ NOK m m yes idn st ww ∧ STG m m yes idn st ww R U fl ∧ res = some (nI (wtU m yes ww U), St', Tk', Wg', Ga', CF', BT')) R
    (fun a s => s.2.1 = nI a ∧ ∃ (U : Nat → Bool) (fl : Nat → Nat), s.1 = nI (wtU m yes ww U) ∧ STG m m yes idn st ww a U fl ∧ BZ m s.2.2.1 U ∧ AR m s.2.2.2.1 fl) ?_ ?_ k (0, 0, Tk1, Wg1, Ga, CF, BT) (by omega) ⟨rfl, fun _ => false, fun _ => 0, ?_, STG.zero hk (by omega), s3, s4⟩
  · rintro f a ⟨y, x, T0, W0, G0, C0, B0⟩ ha ⟨rfl, U, fl, rfl, i1, i2, i3⟩
    refine Or.inl ?_
    try dsimp only at i2 i3 ⊢
    obtain ⟨D, hDM, hDs, hDl⟩ := i1.dmn
    obtain ⟨G1, C1, B1, d1, par1, j1, j2, j3⟩ := findBestWay_eq (Ga := G0) (CF := C0) (BT := B0) hk9 hm hk hDM hDl hW s2 i2 i3 (fun v hv => by have := i1.2 v hv; omega)
    obtain ⟨τ, hwlk⟩ := j1.1.walk hDM.1 (fun v hv => ⟨rfl, j2 v hv⟩) i1.2 hk
    obtain ⟨T2, W2, U2, fl2, l1, l2, l3, l4⟩ := goBestWay_eq hk9 hm hk hwlk i2 i3 j1.2.2
    have hw2 := (l1.done hDM.2.1).2.2
    rw [f_X1_greatestWeight_L8_s, if_neg (nI_ge ha (by omega)), j3, xb_s]
    try dsimp only
    rw [xi_nI (by omega) (by omega), l4, xb_s]
    try dsimp only
    rw [nI_clamp (by omega), j1.2.1 m (by omega), j2 m (Nat.le_refl _), nI_add, nI_1, ← hw2]
    exact ⟨(nI (wtU m yes ww U2), nI (a + 1), T2, W2, G1, C1, B1), ⟨rfl, U2, fl2, rfl, l1.stg hDM.2.1 hDs, l2, l3⟩, rfl⟩
  · rintro f ⟨y, x, T0, W0, G0, C0, B0⟩ ⟨rfl, U, fl, rfl, i1, i2, i3⟩
    try dsimp only
    rw [f_X1_greatestWeight_L8_s, if_pos (nI_le (Nat.le_refl _) (by omega))]
    exact ⟨st, U, fl, St1, T0, W0, G0, C0, B0, s1, hk, i1, rfl⟩
  · try dsimp only
    have : wtU m yes ww (fun _ => false) = fb_sm (fun _ => 0) m := fb_sm_cong fun j _ => by rw [Bool.and_false]; rfl
    rw [this, fb_sm_const, Nat.mul_zero]; rfl
end CLS2
