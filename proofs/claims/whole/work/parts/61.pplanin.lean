/-! Several rooms: the model's rounds, its way back, its answer. -/
section FE
variable {k n N : Nat} {C : Nat → Bool} {p q w b e : Nat → Nat} {U : Nat → Bool} {fl D d : Nat → Nat} {RE : Nat → Bool} {par : Nat → Nat × Nat} {B E W Cn Pt Fl Us Ga Wy : Nat → Int32}
theorem dmn_grow2 {d2 : Nat → Nat} {RE2 : Nat → Bool} (hk : NOK N n C p q w) (h : DMN N n C p q w U fl D) (hr0 : RE 0 = true) (hd0 : d 0 = D 0) (h1 : ∀ v, v ≤ N → RE v = true → RE2 v = true ∧ d v ≤ d2 v) (h2 : ∀ v, v ≤ N → RE2 v = true → d2 v ≤ D v) (h4 : ∀ v, v ≤ N → RE2 v = true) (h3 : ∀ c i u v gp gm, ARC N n C p q w U fl c i u v gp gm → RE u = true → d u + gp ≤ d2 v + gm) :
    (∀ v, v ≤ N → RE v = true ∧ d v = D v) ∨ fb_ct (fun v => RE v && decide (d v = D v)) (N + 1) < fb_ct (fun v => RE2 v && decide (d2 v = D v)) (N + 1) := by
  rcases Classical.em (∀ v, v ≤ N → RE v = true ∧ d v = D v) with ha | ha
  · exact Or.inl ha
  refine Or.inr ?_
  have hne : ∃ v, v ≤ N ∧ (RE v && decide (d v = D v)) = false := by
    rcases Classical.em (∃ v, v ≤ N ∧ (RE v && decide (d v = D v)) = false) with hx | hx
    · exact hx
    · refine absurd (fun v hv => ?_) ha
      cases hq : (RE v && decide (d v = D v)) with
      | true =>
        rw [Bool.and_eq_true] at hq
        exact ⟨hq.1, of_decide_eq_true hq.2⟩
      | false => exact absurd ⟨v, hv, hq⟩ hx
  obtain ⟨c, i, u, v, gp, gm, hA, hs1, hs2, ht⟩ := dmn_out hk h (fun v => RE v && decide (d v = D v)) (by rw [hr0, Bool.true_and]; exact decide_eq_true hd0) hne
  have hl := hA.le hk
  rw [Bool.and_eq_true] at hs1
  have e1 := of_decide_eq_true hs1.2
  have e3 := h3 c i u v gp gm hA hs1.1
  have e4 := h2 v hl.2.1 (h4 v hl.2.1)
  have e5 : d2 v = D v := by omega
  have h7 := fb_ct_upd (fun v => RE v && decide (d v = D v)) true (i := v) (n := N + 1) (by omega)
  try dsimp only at h7 hs2
  rw [hs2, if_pos rfl] at h7
  have h8 : fb_ct (fun k => if k = v then true else RE k && decide (d k = D k)) (N + 1) ≤ fb_ct (fun v => RE2 v && decide (d2 v = D v)) (N + 1) := fb_ct_sub fun k hk2 hq => by
    try dsimp only at hq ⊢
    rw [h4 k (by omega), Bool.true_and]
    by_cases c1 : k = v
    · rw [c1]; exact decide_eq_true e5
    · rw [if_neg c1, Bool.and_eq_true] at hq
      have a1 := of_decide_eq_true hq.2
      have a2 := (h1 k (by omega) hq.1).2
      have a3 := h2 k (by omega) (h4 k (by omega))
      exact decide_eq_true (by omega)
  simp only [Bool.false_eq_true, if_false] at h7
  omega
theorem find_eq (hk9 : 10000 ≤ k) (hn : n ≤ 40) (hN : N < 80) (hk : NOK N n C p q w) (hDM : DMN N n C p q w U fl D) (hDl : ∀ v, v ≤ N → D v ≤ 6642000) (hB : AR n B b) (hE : AR n E e) (hW : AR n W w) (hC : BZ n Cn C) (hU : BZ n Us U) (hF : AR N Fl fl) (hfl : ∀ v, v < N → fl v ≤ 100) (hpo : ∀ j, j < n → C j = true → f_X5_pointOf k (nI (b j)) Pt = some (nI (p j)) ∧ f_X5_pointOf k (nI (e j)) Pt = some (nI (q j))) :
    ∃ Ga' Wy' RE' d' par', SRM N n C p q w U fl D RE' d' par' Ga' Wy' ∧ (∀ v, v ≤ N → RE' v = true ∧ d' v = D v) ∧ f_X5_find k (nI n) (nI (N + 1)) B E W Cn Pt Fl Us Ga Wy = some (Ga', Wy') := by
  have hD := hDM.1
  have hD0 := hDM.2.1
  unfold f_X5_find
  refine loopE (fun f (s : Int32 × (Nat → Int32)) => f_X5_find_L2 k (nI (N + 1)) (fun (v1_5 : Int32) (A_gains_6 : Nat → Int32) => f_X5_find_L34 k (nI n) (nI (N + 1)) B E W Cn Pt Fl Us (fun (v1_64 : Int32) (A_gains_65 : Nat → Int32) (A_ways_66 : Nat → Int32) => some (A_gains_65, A_ways_66)) k 1 A_gains_6 Wy) f s.1 s.2)
    (fun res => ∃ Ga' Wy' RE' d' par', SRM N n C p q w U fl D RE' d' par' Ga' Wy' ∧ (∀ v, v ≤ N → RE' v = true ∧ d' v = D v) ∧ res = some (Ga', Wy')) (N + 1)
    (fun a s => s.1 = nI a ∧ ∀ x, x < a → s.2 x = if x = 0 then 0 else -100000000) ?_ ?_ k (0, Ga) (by omega) ⟨rfl, fun x h => absurd h (Nat.not_lt_zero x)⟩
  · rintro f a ⟨y, G⟩ ha ⟨rfl, hI⟩
    refine Or.inl ⟨(nI (a + 1), upd G a (if a = 0 then 0 else -100000000)), ⟨rfl, fun x hx => ?_⟩, ?_⟩
    · try dsimp only at hI ⊢
      unfold upd
      by_cases c : x = a
      · rw [if_pos c, c]
      · rw [if_neg c]; exact hI x (by omega)
    · try dsimp only
      rw [f_X5_find_L2_s, if_neg (nI_ge ha (by omega)), nI_1]
      by_cases c : a = 0
      · rw [if_pos (show nI a = 0 by rw [c]; rfl), xi_nI (by omega) (by omega), nI_clamp (by omega), if_pos c]
      · rw [if_neg (nI_ne0 (by omega) (by omega)), xi_nI (by omega) (by omega), nI_clamp (by omega), if_neg c]
  · rintro f ⟨y, G⟩ ⟨rfl, hI⟩
    try dsimp only at hI ⊢
    rw [f_X5_find_L2_s, if_pos (nI_le (Nat.le_refl _) (by omega))]
    have h0 : SRM N n C p q w U fl D (fun x => decide (x = 0)) (fun _ => 0) (fun x => (0, x)) G Wy := by
      refine ⟨⟨rfl, rfl, fun v _ _ => Nat.zero_le _, fun x => x, N + 1, fun v hv => by show v < N + 1; omega, fun v hv hv0 hr => absurd (of_decide_eq_true hr) hv0⟩, fun x hx => ?_, fun x hx hx0 hr => absurd (of_decide_eq_true hr) hx0⟩
      rw [hI x (by omega)]
      by_cases c : x = 0
      · rw [if_pos c, if_pos (decide_eq_true c)]; rfl
      · rw [if_neg c, if_neg (show ¬ decide (x = 0) = true by rw [decide_eq_false c]; decide)]
    have key : ∀ g f h RE d par G Y, h + g = N + 2 → g + 1 < f → SRM N n C p q w U fl D RE d par G Y → h ≤ fb_ct (fun v => RE v && decide (d v = D v)) (N + 1) →
      (fun res => ∃ Ga' Wy' RE' d' par', SRM N n C p q w U fl D RE' d' par' Ga' Wy' ∧ (∀ v, v ≤ N → RE' v = true ∧ d' v = D v) ∧ res = some (Ga', Wy')) (f_X5_find_L34 k (nI n) (nI (N + 1)) B E W Cn Pt Fl Us (fun (v1_64 : Int32) (A_gains_65 : Nat → Int32) (A_ways_66 : Nat → Int32) => some (A_gains_65, A_ways_66)) f 1 G Y) := by
      intro g
      induction g with
      | zero =>
        intro f h RE d par G Y e1 e2 e3 e4
        have := fb_ct_le (fun v => RE v && decide (d v = D v)) (N + 1)
        omega
      | succ g ih =>
        intro f h RE d par G Y e1 e2 e3 e4
        obtain ⟨f, rfl⟩ : ∃ q, f = q + 1 := ⟨f - 1, by omega⟩
        rw [f_X5_find_L34_s, if_neg (by decide)]
        refine find_L42 (Qp := fun res => ∃ Ga' Wy' RE' d' par', SRM N n C p q w U fl D RE' d' par' Ga' Wy' ∧ (∀ v, v ≤ N → RE' v = true ∧ d' v = D v) ∧ res = some (Ga', Wy')) hk9 hN hk hD hD0 hDl e3 hF hfl fun fg y G1 Y1 RE1 d1 par1 a1 a2 a3 a4 => ?_
        try dsimp only
        refine find_L118 (Qp := fun res => ∃ Ga' Wy' RE' d' par', SRM N n C p q w U fl D RE' d' par' Ga' Wy' ∧ (∀ v, v ≤ N → RE' v = true ∧ d' v = D v) ∧ res = some (Ga', Wy')) hk9 hn hN hk hD hD0 hDl a1 hB hE hW hC hU hpo a2 a3 a4 fun fg2 y2 G2 Y2 RE2 d2 par2 b1 b2 b3 b4 => ?_
        try dsimp only
        rcases b2.2 with ⟨rfl, hRE, hd⟩ | ⟨rfl, x, hx, hxr, hxs⟩
        · obtain ⟨f, rfl⟩ : ∃ q, f = q + 1 := ⟨f - 1, by omega⟩
          rw [f_X5_find_L34_s, if_pos rfl]
          refine ⟨G2, Y2, RE2, d2, par2, b1, fun v hv => ⟨b3 v hv, ?_⟩, rfl⟩
          refine dmn_same hDM (fun c i u v gp gm hA => ?_) b1.1.2.1 (fun v hv => b1.1.2.2.1 v hv (b3 v hv)) v hv
          have hl := hA.le hk
          have := b4 c i u v gp gm hA (by rw [← hRE]; exact b3 u hl.1)
          rw [hd] at this ⊢
          exact this
        · have hg := dmn_grow2 (RE2 := RE2) (d2 := d2) hk hDM e3.1.1 (by rw [e3.1.2.1, hD0]) b2.1 (fun v hv hr => b1.1.2.2.1 v hv hr) b3 b4
          rcases hg with h9 | h9
          · exfalso
            obtain ⟨r1, r2⟩ := h9 x hx
            have := b1.1.2.2.1 x hx hxr
            rcases hxs with h8 | h8
            · rw [r1] at h8; cases h8
            · omega
          · exact ih f (h + 1) RE2 d2 par2 G2 Y2 (by omega) (by omega) b1 (by omega)
    refine key (N + 1) k 1 _ _ _ G Wy (by omega) (by omega) h0 ?_
    exact fb_ct_pos.mpr ⟨0, by omega, by
      show (decide (0 = 0) && decide (0 = D 0)) = true
      rw [hD0]; rfl⟩
theorem send_eq {τ : Nat → Nat} {R W0 : Nat} (hk9 : 10000 ≤ k) (hn : n ≤ 40) (hN : N < 80) (hk : NOK N n C p q w) (hW : WLK N n C p q w D par τ R W0 N U fl) (hR : R ≤ 6) (hB : AR n B b) (hE : AR n E e) (hU : BZ n Us U) (hF : AR N Fl fl) (hWy : ∀ x, x ≤ N → x ≠ 0 → Wy x = nI (100 * (par x).1 + (par x).2)) (hpo : ∀ j, j < n → C j = true → f_X5_pointOf k (nI (b j)) Pt = some (nI (p j)) ∧ f_X5_pointOf k (nI (e j)) Pt = some (nI (q j))) :
    ∃ Fl' Us' U' fl', WLK N n C p q w D par τ R W0 0 U' fl' ∧ BZ n Us' U' ∧ AR N Fl' fl' ∧ f_X5_send k (nI (N + 1)) B E Pt Fl Us Wy = some (Fl', Us') := by
  unfold f_X5_send
  rw [nI_pred]
  have key : ∀ r f x U fl Us Fl, fb_ct (fun y => decide (τ y < τ x)) (N + 1) ≤ r → r < f → WLK N n C p q w D par τ R W0 x U fl → BZ n Us U → AR N Fl fl →
      ∃ Fl' Us' U' fl', WLK N n C p q w D par τ R W0 0 U' fl' ∧ BZ n Us' U' ∧ AR N Fl' fl' ∧ f_X5_send_L7 k B E Pt Wy (fun (v1_21 : Int32) (A_flows_22 : Nat → Int32) (A_isUsed_23 : Nat → Int32) => some (A_flows_22, A_isUsed_23)) f (nI x) Fl Us = some (Fl', Us') := by
    intro r
    induction r with
    | zero =>
      intro f x U fl Us Fl h1 h3 h4 h5 h6
      obtain ⟨f, rfl⟩ : ∃ q, f = q + 1 := ⟨f - 1, by omega⟩
      have hx : x = 0 := by
        by_cases hx : x = 0
        · exact hx
        · obtain ⟨u, gp, gm, hA, hτ, -⟩ := h4.step hk hx
          have := rank_lt (N := N) (hA.le hk).1 hτ
          omega
      subst hx
      rw [f_X5_send_L7_s, if_pos (show nI 0 ≤ (0 : Int32) by decide)]
      exact ⟨Fl, Us, U, fl, h4, h5, h6, rfl⟩
    | succ r ih =>
      intro f x U fl Us Fl h1 h3 h4 h5 h6
      obtain ⟨f, rfl⟩ : ∃ q, f = q + 1 := ⟨f - 1, by omega⟩
      by_cases hx : x = 0
      · subst hx
        rw [f_X5_send_L7_s, if_pos (show nI 0 ≤ (0 : Int32) by decide)]
        exact ⟨Fl, Us, U, fl, h4, h5, h6, rfl⟩
      · obtain ⟨u, gp, gm, hA, hτ, hW2⟩ := h4.step hk hx
        have hl := hA.le hk
        have hrk := rank_lt (N := N) hl.1 hτ
        have hwy := hWy x hl.2.1 hx
        have go := fun Us' Fl' hb ha => ih f u _ _ Us' Fl' (by omega) (by omega) hW2 hb ha
        rw [f_X5_send_L7_s, if_neg (nI_nle (by omega) (by omega)), xi_nI (by omega) (by omega), nI_clamp (show x < 2 ^ 31 by omega), hwy]
        generalize (par x).1 = c at hA hW2 go ⊢
        generalize (par x).2 = i at hA hW2 go ⊢
        have hi : i < 100 ∧ c ≤ 3 := by
          rcases hA with ⟨rfl, b1, b2, b3, -⟩ | ⟨rfl, b1, b2, b3, -⟩ | ⟨rfl, b1, b2, b3, -⟩ | ⟨rfl, b1, b2, b3, -⟩ <;> omega
        have h100 : nI (100 * c + i) - nI (100 * c + i) / 100 * 100 = nI i := by
          have h9 := pk_rem (a := 100 * c + i) (d := 100) (by omega) (by omega) (by omega)
          rw [Nat.mul_add_mod, Nat.mod_eq_of_lt hi.1] at h9
          exact h9
        have hxd : ∀ (X : Option ((Nat → Int32) × (Nat → Int32))), xd (100 : Int32) X = X := fun X => if_neg (by decide)
        rw [h100, hxd]
        rcases hA with ⟨rfl, b1, b2, b3, b4, b5⟩ | ⟨rfl, b1, b2, b3, b4, b5, b6⟩ | ⟨rfl, b1, b2, b3, b4, b5, b6, b7⟩ | ⟨rfl, b1, b2, b3, b4, b5, b6, b7⟩
        · rw [if_neg (show ¬ (100 : Int32) ≤ nI (100 * 0 + i) from nI_ge (b := 100) (by omega) (by omega)), xi_nI (by omega) (by omega), xi_nI (by omega) (by omega), nI_clamp (show i < 2 ^ 31 by omega), h6 i b3, nI_1]
          rw [b1] at go
          exact go Us _ h5 h6.set
        · rw [if_pos (show (100 : Int32) ≤ nI (100 * 1 + i) from nI_le (a := 100) (by omega) (by omega)), if_neg (show ¬ (200 : Int32) ≤ nI (100 * 1 + i) from nI_ge (b := 200) (by omega) (by omega)), xi_nI (by omega) (by omega), xi_nI (by omega) (by omega), nI_clamp (show i < 2 ^ 31 by omega), h6 i b3, nI_1]
          obtain ⟨t, ht⟩ : ∃ t, fl i = t + 1 := ⟨fl i - 1, by omega⟩
          rw [ht, nI_pred]
          rw [b1] at go
          refine go Us _ h5 ?_
          have : sndF fl 1 i = fs fl i t := by
            show fs fl i (fl i - 1) = _
            rw [ht]; rfl
          rw [this]
          exact h6.set
        · obtain ⟨po1, po2⟩ := hpo i b3 b4
          rw [if_pos (show (100 : Int32) ≤ nI (100 * 2 + i) from nI_le (a := 100) (by omega) (by omega)), if_pos (show (200 : Int32) ≤ nI (100 * 2 + i) from nI_le (a := 200) (by omega) (by omega)), xj_if (if_neg (show ¬ (300 : Int32) ≤ nI (100 * 2 + i) from nI_ge (b := 300) (by omega) (by omega))), xi_nI (by omega) (by omega), if_neg (show ¬ (300 : Int32) ≤ nI (100 * 2 + i) from nI_ge (b := 300) (by omega) (by omega)), xi_nI (by omega) (by omega), nI_clamp (show i < 2 ^ 31 by omega), hB i b3, po1, xb_s, nar_1]
          rw [b1] at go
          exact go _ Fl (h5.set true rfl) h6
        · obtain ⟨po1, po2⟩ := hpo i b3 b4
          rw [if_pos (show (100 : Int32) ≤ nI (100 * 3 + i) from nI_le (a := 100) (by omega) (by omega)), if_pos (show (200 : Int32) ≤ nI (100 * 3 + i) from nI_le (a := 200) (by omega) (by omega)), xj_if (if_pos (show (300 : Int32) ≤ nI (100 * 3 + i) from nI_le (a := 300) (by omega) (by omega))), xi_nI (by omega) (by omega), if_pos (show (300 : Int32) ≤ nI (100 * 3 + i) from nI_le (a := 300) (by omega) (by omega)), xi_nI (by omega) (by omega), nI_clamp (show i < 2 ^ 31 by omega), hE i b3, po2, xb_s, nar_0]
          rw [b1] at go
          exact go _ Fl (h5.set false rfl) h6
  exact key N k N U fl Us Fl rank_le (by omega) hW hU hF
end FE
section PL
variable {k n : Nat} {P X : Nat → Bool} {b e w : Nat → Nat} {B E W T Cn Pt Fl Us Ga Wy : Nat → Int32}
theorem planIn_L6 {v1 wo : Int32} {Qp : Option (Int32 × Int32 × (Nat → Int32) × (Nat → Int32) × (Nat → Int32) × (Nat → Int32) × (Nat → Int32) × (Nat → Int32)) → Prop} {κ : Int32 → (Nat → Int32) → Option (Int32 × Int32 × (Nat → Int32) × (Nat → Int32) × (Nat → Int32) × (Nat → Int32) × (Nat → Int32) × (Nat → Int32))} (hk9 : 10000 ≤ k) (hn : n ≤ 40) (hT : BZ n T P) (hwo : ∀ j, j < n → (nI j = wo ↔ X j = false))
    (hQ : ∀ v C', BZ n C' (fun j => P j && X j) → Qp (κ v C')) : Qp (f_X5_planIn_L6 k v1 wo (nI n) T κ k 0 Cn) := by
  refine loopE (fun f (s : Int32 × (Nat → Int32)) => f_X5_planIn_L6 k v1 wo (nI n) T κ f s.1 s.2) Qp n (fun i s => s.1 = nI i ∧ BZ i s.2 (fun j => P j && X j)) ?_ ?_ k (0, Cn) (by omega) ⟨rfl, fun i h => absurd h (Nat.not_lt_zero i)⟩
  · rintro f i ⟨x, A⟩ hi ⟨rfl, hI⟩
    try dsimp only at hI
    refine Or.inl ⟨(nI (i + 1), upd A i (if (P i && X i) = true then 1 else 0)), ⟨rfl, fun j hj => ?_⟩, ?_⟩
    · try dsimp only
      unfold upd
      by_cases c : j = i
      · rw [if_pos c, c]
      · rw [if_neg c]; exact hI j (by omega)
    · try dsimp only
      rw [f_X5_planIn_L6_s, if_neg (nI_ge hi (by omega)), xi_nI (by omega) (by omega), nI_clamp (show i < 2 ^ 31 by omega), nI_1, nar_0, nar_1]
      by_cases hp : P i = true
      · rw [if_neg (by rw [bz_0 hT hi, hp]; simp)]
        cases hx : X i with
        | false => rw [if_pos ((hwo i hi).mpr hx), xi_nI (by omega) (by omega), Bool.and_false]; rfl
        | true => rw [if_neg (fun q => by rw [(hwo i hi).mp q] at hx; cases hx), xi_nI (by omega) (by omega), hp]; rfl
      · have hp2 : P i = false := by simpa using hp
        rw [if_pos (by rw [bz_0 hT hi]; exact hp2), xi_nI (by omega) (by omega), hp2]; rfl
  · rintro f ⟨x, A⟩ ⟨rfl, hI⟩
    try dsimp only
    rw [f_X5_planIn_L6_s, if_pos (nI_le (Nat.le_refl _) (by omega))]
    exact hQ _ _ hI
theorem planIn_eq {R : Nat} {wo pm : Int32} (hk9 : 10000 ≤ k) (hg : GD n b e w) (hT : BZ n T P) (hB : AR n B b) (hE : AR n E e) (hW : AR n W w) (hR : R ≤ 6) (hwo : ∀ j, j < n → (nI j = wo ↔ X j = false)) :
    ∃ v pm' Cn' Pt' Fl' Us' Ga' Wy', ISR n b e w (fun j => P j && X j) R v ∧ f_X5_planIn k (nI R) wo (nI n) pm B E W T Cn Pt Fl Us Ga Wy = some (nI v, pm', Cn', Pt', Fl', Us', Ga', Wy') := by
  have hn := hg.1
  obtain ⟨c, pt, Pt1, Fl1, Us1, hP, hPt, hFl, hUs, hlay⟩ := layPoints_eq (pm := pm) (Pt := Pt) (Fl := Fl) (Us := Us) hk9 hg hT hB hE
  have hc := hP.le
  unfold f_X5_planIn
  rw [hlay, xb_s]
  try dsimp only
  refine planIn_L6 (P := P) (X := X) (Qp := fun res => ∃ v pm' Cn' Pt' Fl' Us' Ga' Wy', ISR n b e w (fun j => P j && X j) R v ∧ res = some (nI v, pm', Cn', Pt', Fl', Us', Ga', Wy')) hk9 hn hT hwo fun v0 C1 hC1 => ?_
  try dsimp only
  have hCP : ∀ j, j < n → (fun j => P j && X j) j = true → P j = true := fun j _ h => by
    have h' : (P j && X j) = true := h
    rw [Bool.and_eq_true] at h'; exact h'.1
  rcases Nat.eq_zero_or_pos c with h0 | h0
  · subst h0
    have hno : ∀ j, j < n → P j = true → False := fun j hj hp => by
      have hgj := hg.2 j hj
      obtain ⟨v, hv, _⟩ := (hP.2.2 j hj hp).1 (by omega)
      exact absurd hv (Nat.not_lt_zero v)
    have hisr : ISR n b e w (fun j => P j && X j) R 0 := by
      refine ⟨⟨fun _ => false, fun j _ h => (by cases h), fun t => ?_, wsum_zero fun _ _ => rfl⟩, fun S s1 _ => ?_⟩
      · have : dep n b e (fun _ => false) t = 0 := fb_ct_zero.mpr fun i _ => rfl
        omega
      · rw [wsum_zero fun j hj => by
          cases hs : S j with
          | false => rfl
          | true => exact absurd (hCP j hj (s1 j hj hs)) (fun h => hno j hj h)]
        exact Nat.le_refl _
    obtain ⟨k', hk'⟩ : ∃ q, k = q + 1 := ⟨k - 1, by omega⟩
    refine ⟨0, nI 0, C1, Pt1, Fl1, Us1, Ga, Wy, hisr, ?_⟩
    have hl50 : ∀ (κ : Int32 → Int32 → (Nat → Int32) → (Nat → Int32) → (Nat → Int32) → (Nat → Int32) → Option (Int32 × Int32 × (Nat → Int32) × (Nat → Int32) × (Nat → Int32) × (Nat → Int32) × (Nat → Int32) × (Nat → Int32))) f, f = k' + 1 → f_X5_planIn_L50 k (nI R) (nI n) (nI 0) B E W C1 Pt1 κ f 0 0 Fl1 Us1 Ga Wy = κ 0 0 Fl1 Us1 Ga Wy := by
      intro κ f hf
      subst hf
      rw [f_X5_planIn_L50_s]
      by_cases cR : nI R ≤ (0 : Int32)
      · rw [if_pos cR]
      · rw [if_neg cR, if_pos (show nI 0 ≤ (0 : Int32) by decide)]
    rw [hl50 _ k hk']; rfl
  · obtain ⟨N, rfl⟩ : ∃ N, c = N + 1 := ⟨c - 1, by omega⟩
    have hk : NOK N n (fun j => P j && X j) (fun j => ix (N + 1) pt (b j)) (fun j => ix (N + 1) pt (e j)) w := net_points (c := N + 1) hg hP hCP
    have hpo : ∀ j, j < n → (fun j => P j && X j) j = true → f_X5_pointOf k (nI (b j)) Pt1 = some (nI ((fun j => ix (N + 1) pt (b j)) j)) ∧ f_X5_pointOf k (nI (e j)) Pt1 = some (nI ((fun j => ix (N + 1) pt (e j)) j)) := fun j hj hcj => by
      have hgj := hg.2 j hj
      obtain ⟨h1, h2⟩ := hP.2.2 j hj (hCP j hj hcj)
      obtain ⟨a1, a2⟩ := ix_spec (h1 (by omega))
      obtain ⟨a3, a4⟩ := ix_spec (h2 (by omega))
      have p1 := pointOf_eq hk9 hn hP (by omega) hPt a1
      have p2 := pointOf_eq hk9 hn hP (by omega) hPt a3
      rw [a2] at p1
      rw [a4] at p2
      exact ⟨p1, p2⟩
    refine loopE (fun f (s : Int32 × Int32 × (Nat → Int32) × (Nat → Int32) × (Nat → Int32) × (Nat → Int32)) => f_X5_planIn_L50 k (nI R) (nI n) (nI (N + 1)) B E W C1 Pt1 (fun (v3_24 : Int32) (v4_25 : Int32) (A_flows_26 : Nat → Int32) (A_isUsed_27 : Nat → Int32) (A_gains_28 : Nat → Int32) (A_ways_29 : Nat → Int32) => some (v3_24, nI (N + 1), C1, Pt1, A_flows_26, A_isUsed_27, A_gains_28, A_ways_29)) f s.1 s.2.1 s.2.2.1 s.2.2.2.1 s.2.2.2.2.1 s.2.2.2.2.2)
      (fun res => ∃ v pm' Cn' Pt' Fl' Us' Ga' Wy', ISR n b e w (fun j => P j && X j) R v ∧ res = some (nI v, pm', Cn', Pt', Fl', Us', Ga', Wy')) R
      (fun a s => s.2.1 = nI a ∧ ∃ (U : Nat → Bool) (fl : Nat → Nat), s.1 = nI (wtU n (fun j => P j && X j) w U) ∧ STG N n (fun j => P j && X j) (fun j => ix (N + 1) pt (b j)) (fun j => ix (N + 1) pt (e j)) w a U fl ∧ BZ n s.2.2.2.1 U ∧ AR N s.2.2.1 fl) ?_ ?_ k (0, 0, Fl1, Us1, Ga, Wy) (by omega) ⟨rfl, fun _ => false, fun _ => 0, ?_, STG.zero hk (by omega), hUs, fun i hi => hFl i (by omega)⟩
    · rintro f a ⟨y, x, F0, U0, G0, Y0⟩ ha ⟨rfl, U, fl, rfl, i1, i2, i3⟩
      refine Or.inl ?_
      try dsimp only at i2 i3 ⊢
      obtain ⟨D, hDM, hDs, hDl⟩ := i1.dmn
      obtain ⟨G1, Y1, RE1, d1, par1, j1, j2, j3⟩ := find_eq (Ga := G0) (Wy := Y0) hk9 hn (by omega) hk hDM hDl hB hE hW hC1 i2 i3 (fun v hv => by have := i1.2 v hv; omega) hpo
      obtain ⟨τ, hwlk⟩ := j1.1.walk hDM.1 j2 i1.2 hk
      obtain ⟨F2, U2, U3, fl3, l1, l2, l3, l4⟩ := send_eq hk9 hn (by omega) hk hwlk (by omega) hB hE i2 i3 (fun x hx hx0 => j1.2.2 x hx hx0 (j2 x hx).1) hpo
      have hw2 := (l1.done hDM.2.1).2.2
      rw [f_X5_planIn_L50_s, if_neg (nI_ge ha (by omega)), if_neg (nI_nle (by omega) (by omega)), j3, xb_s]
      try dsimp only
      rw [nI_pred, xi_nI (by omega) (by omega), l4, xb_s]
      try dsimp only
      rw [nI_clamp (by omega), j1.2.1 N (Nat.le_refl _), if_pos (j2 N (Nat.le_refl _)).1, (j2 N (Nat.le_refl _)).2, nI_add, nI_1, ← hw2]
      exact ⟨(nI (wtU n (fun j => P j && X j) w U3), nI (a + 1), F2, U2, G1, Y1), ⟨rfl, U3, fl3, rfl, l1.stg hDM.2.1 hDs, l2, l3⟩, rfl⟩
    · rintro f ⟨y, x, F0, U0, G0, Y0⟩ ⟨rfl, U, fl, rfl, i1, i2, i3⟩
      try dsimp only
      rw [f_X5_planIn_L50_s, if_pos (nI_le (Nat.le_refl _) (by omega))]
      obtain ⟨o1, o2⟩ := i1.best hk
      have hsub : ∀ j, j < n → (fun j => (P j && X j) && U j) j = true → (fun j => P j && X j) j = true := fun j _ h => by
        have h' : ((P j && X j) && U j) = true := h
        rw [Bool.and_eq_true] at h'; exact h'.1
      refine ⟨wtU n (fun j => P j && X j) w U, _, _, _, _, _, _, _, ⟨⟨fun j => (P j && X j) && U j, hsub, (cut_points (c := N + 1) hg hP hCP hsub).mpr fun v hv => Nat.le_trans (fb_ct_sub fun j hj hq => ?_) (o1 v hv), rfl⟩, fun S s1 s2 => ?_⟩, rfl⟩
      · simp only [Bool.and_eq_true] at hq ⊢
        exact ⟨⟨hq.1.1, hq.1.2.2⟩, hq.2⟩
      · have h9 := o2 S ((cut_points (c := N + 1) hg hP hCP s1).mp s2)
        have h8 : wsum S w n = wtU n (fun j => P j && X j) w S := fb_sm_cong fun j hj => by
          try dsimp only
          by_cases cs2 : S j = true
          · have h7 : (P j && X j) = true := s1 j hj cs2
            rw [if_pos cs2, if_pos (by rw [Bool.and_eq_true]; exact ⟨h7, cs2⟩)]
          · rw [if_neg cs2, if_neg (fun h => cs2 (by rw [Bool.and_eq_true] at h; exact h.2))]
        rw [h8]; exact h9
    · try dsimp only
      have : wtU n (fun j => P j && X j) w (fun _ => false) = fb_sm (fun _ => 0) n := fb_sm_cong fun j _ => by rw [Bool.and_false]; rfl
      rw [this, fb_sm_const, Nat.mul_zero]; rfl
end PL
