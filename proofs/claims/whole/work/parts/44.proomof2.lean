/-! roomOf: the model's side, and the call. -/
def RmI (n : Nat) (b e : Nat → Nat) (P : Nat → Bool) (ρ : Nat → Nat) (M : Nat) (Rm : Nat → Int32) : Prop := ∀ j, j < n → P j = true → (mu b j < M → RmLS n b e P ρ j (ρ j) ∧ Rm j = nI (ρ j)) ∧ (¬ mu b j < M → Rm j = -1)
theorem nI_nem1 {a : Nat} (h : a < 2 ^ 31) : ¬ nI a = -1 := by
  intro q
  rw [fa_eq, nI_toInt h] at q
  exact absurd q (by show ¬ (a : Int) = -1; omega)
theorem isFree_eq {k n i r : Nat} {P : Nat → Bool} {b e w ρ : Nat → Nat} {B E T Rm : Nat → Int32} (hk : 10000 ≤ k) (hg : GD n b e w) (hT : BZ n T P) (hB : AR n B b) (hE : AR n E e) (hI : RmI n b e P ρ (mu b i) Rm) (hi : i < n) (hr : r < 2 ^ 31) :
    ((∀ j, j < n → P j = true → mu b j < mu b i → ρ j = r → ovl b e j i = false) ∧ f_X5_isFree k (nI r) (nI i) (nI n) B E T Rm = some 1) ∨ ((∃ j, j < n ∧ P j = true ∧ mu b j < mu b i ∧ ρ j = r ∧ ovl b e j i = true) ∧ f_X5_isFree k (nI r) (nI i) (nI n) B E T Rm = some 0) := by
  have hn := hg.1
  unfold f_X5_isFree
  refine loopE (fun f (s : Int32 × Int32) => f_X5_isFree_L5 k (nI r) (nI i) (nI n) B E T Rm (fun (v3_10 : Int32) (v4_11 : Int32) => xq v3_10 (some v3_10)) f s.1 s.2)
    (fun res => ((∀ j, j < n → P j = true → mu b j < mu b i → ρ j = r → ovl b e j i = false) ∧ res = some 1) ∨ ((∃ j, j < n ∧ P j = true ∧ mu b j < mu b i ∧ ρ j = r ∧ ovl b e j i = true) ∧ res = some 0)) n
    (fun m s => s.2 = nI m ∧ ((s.1 = 1 ∧ ∀ j, j < m → P j = true → mu b j < mu b i → ρ j = r → ovl b e j i = false) ∨ (s.1 = 0 ∧ ∃ j, j < n ∧ P j = true ∧ mu b j < mu b i ∧ ρ j = r ∧ ovl b e j i = true)))
    ?_ ?_ k (1, 0) (by omega) ⟨rfl, Or.inl ⟨rfl, fun j h => absurd h (Nat.not_lt_zero j)⟩⟩
  · rintro f m ⟨v3, v4⟩ hm ⟨rfl, h⟩
    refine Or.inl ?_
    dsimp only at h ⊢
    rw [f_X5_isFree_L5_s, if_neg (nI_ge hm (by omega))]
    rcases h with ⟨rfl, h⟩ | ⟨rfl, h⟩
    · rw [if_neg (by decide), xi_nI (by omega) (by omega), nI_clamp (by omega)]
      by_cases hp : P m = true
      · rw [if_neg (by rw [bz_0 hT hm, hp]; simp), xi_nI (by omega) (by omega)]
        by_cases hmu : mu b m < mu b i
        · have hI2 := (hI m hm hp).1 hmu
          have hlt := hI2.1.lt hm
          rw [hI2.2]
          by_cases hr2 : ρ m = r
          · rw [if_pos (congrArg nI hr2), X5_overlap_eq hg hB hE hm hi, xb_s]
            by_cases ho : ovl b e m i = true
            · rw [if_pos ho, if_neg (by decide), nI_1]
              exact ⟨(0, nI (m + 1)), ⟨rfl, Or.inr ⟨rfl, m, hm, hp, hmu, hr2, ho⟩⟩, rfl⟩
            · rw [if_neg ho, if_pos rfl, nI_1]
              refine ⟨(1, nI (m + 1)), ⟨rfl, Or.inl ⟨rfl, fun j hj q1 q2 q3 => ?_⟩⟩, rfl⟩
              rcases Nat.lt_or_ge j m with h9 | h9
              · exact h j h9 q1 q2 q3
              · have : j = m := by omega
                rw [this]; simpa using ho
          · rw [if_neg (fun q => hr2 ((nI_eq (by omega) (by omega)).mp q)), nI_1]
            refine ⟨(1, nI (m + 1)), ⟨rfl, Or.inl ⟨rfl, fun j hj q1 q2 q3 => ?_⟩⟩, rfl⟩
            rcases Nat.lt_or_ge j m with h9 | h9
            · exact h j h9 q1 q2 q3
            · have : j = m := by omega
              rw [this] at q3; exact absurd q3 hr2
        · rw [(hI m hm hp).2 hmu, if_neg (fun q => nI_nem1 hr q.symm), nI_1]
          refine ⟨(1, nI (m + 1)), ⟨rfl, Or.inl ⟨rfl, fun j hj q1 q2 q3 => ?_⟩⟩, rfl⟩
          rcases Nat.lt_or_ge j m with h9 | h9
          · exact h j h9 q1 q2 q3
          · have : j = m := by omega
            rw [this] at q2; exact absurd q2 hmu
      · rw [if_pos (by rw [bz_0 hT hm]; simpa using hp), nI_1]
        refine ⟨(1, nI (m + 1)), ⟨rfl, Or.inl ⟨rfl, fun j hj q1 q2 q3 => ?_⟩⟩, rfl⟩
        rcases Nat.lt_or_ge j m with h9 | h9
        · exact h j h9 q1 q2 q3
        · have : j = m := by omega
          rw [this] at q1; exact absurd q1 hp
    · rw [if_pos rfl, nI_1]
      exact ⟨(0, nI (m + 1)), ⟨rfl, Or.inr ⟨rfl, h⟩⟩, rfl⟩
  · rintro f ⟨v3, v4⟩ ⟨rfl, h⟩
    dsimp only at h ⊢
    rw [f_X5_isFree_L5_s, if_pos (nI_le (Nat.le_refl _) (by omega))]
    rcases h with ⟨rfl, h⟩ | ⟨rfl, h⟩
    · exact Or.inl ⟨h, rfl⟩
    · exact Or.inr ⟨h, rfl⟩
theorem roomOf_L86 {k n i p r : Nat} {v1 v2 : Int32} {P : Nat → Bool} {b e w ρ : Nat → Nat} {B E T Rm : Nat → Int32} {κ : Int32 → Option (Int32 × Int32 × (Nat → Int32))} (hk : 10000 ≤ k) (hg : GD n b e w) (hT : BZ n T P) (hB : AR n B b) (hE : AR n E e) (hI : RmI n b e P ρ (mu b i) Rm) (hi : i < n) (hr : RmLS n b e P ρ i r) :
    f_X5_roomOf_L86 k v1 v2 (nI i) (nI n) B E T Rm κ k 0 = κ (nI r) := by
  have hrn := hr.lt hi
  have hn := hg.1
  refine loopG (fun m (q : Int32) => f_X5_roomOf_L86 k v1 v2 (nI i) (nI n) B E T Rm κ m q) _ r (fun i => nI i) ?_ ?_ k (by omega)
  · intro m r' hr'
    try dsimp only
    rw [f_X5_roomOf_L86_s]
    rcases isFree_eq (r := r') hk hg hT hB hE hI hi (by omega) with ⟨h1, h2⟩ | ⟨h1, h2⟩
    · exfalso
      obtain ⟨j, q1, q2, q3, q4, q5⟩ := hr.2 r' hr'
      rw [h1 j q1 q2 q3 q4] at q5; cases q5
    · rw [h2, xb_s, if_pos rfl, nI_1]
  · intro m
    try dsimp only
    rw [f_X5_roomOf_L86_s]
    rcases isFree_eq (r := r) hk hg hT hB hE hI hi (by omega) with ⟨h1, h2⟩ | ⟨⟨j, q1, q2, q3, q4, q5⟩, h2⟩
    · rw [h2, xb_s, if_neg (by decide)]
    · exfalso
      rw [hr.1 j q1 q2 q3 q4] at q5; cases q5
theorem RmI.skip {n M : Nat} {b e ρ : Nat → Nat} {P : Nat → Bool} {Rm : Nat → Int32} (h : RmI n b e P ρ M Rm) {M2 : Nat} (h2 : ∀ j, j < n → P j = true → (mu b j < M ↔ mu b j < M2)) : RmI n b e P ρ M2 Rm := by
  intro j hj hp
  rw [← h2 j hj hp]
  exact h j hj hp
theorem RmI.put {n i r : Nat} {b e ρ : Nat → Nat} {P : Nat → Bool} {Rm : Nat → Int32} (hn : n ≤ 40) (h : RmI n b e P ρ (mu b i) Rm) (hi : i < n) (hr : RmLS n b e P ρ i r) : RmI n b e P (fs ρ i r) (mu b i + 1) (upd Rm i (nI r)) := by
  have hc : ∀ j, j < n → P j = true → mu b j < mu b i → ρ j = fs ρ i r j := by
    intro j _ _ q3
    rw [fs_ne]
    intro h9; rw [h9] at q3; omega
  intro j hj hp
  by_cases c : j = i
  · subst c
    refine ⟨fun _ => ?_, fun q => absurd (Nat.lt_succ_self _) q⟩
    rw [fs_at]
    exact ⟨hr.cong hc, by unfold upd; rw [if_pos rfl]⟩
  · rw [fs_ne _ _ c]
    have hne : ¬ mu b j = mu b i := by
      intro q
      unfold mu at q; omega
    have hu : upd Rm i (nI r) j = Rm j := by unfold upd; rw [if_neg c]
    rw [hu]
    refine ⟨fun q => ?_, fun q => (h j hj hp).2 (by omega)⟩
    have := (h j hj hp).1 (by omega)
    exact ⟨this.1.cong (fun j2 a1 a2 a3 => hc j2 a1 a2 (by omega)), this.2⟩
theorem roomOf_L56 {k n t : Nat} {v1 : Int32} {P : Nat → Bool} {b e w : Nat → Nat} {B E T Rm : Nat → Int32} {Q : Option (Int32 × Int32 × (Nat → Int32)) → Prop} {κ : Int32 → (Nat → Int32) → Option (Int32 × Int32 × (Nat → Int32))} (hk : 10000 ≤ k) (hg : GD n b e w) (hT : BZ n T P) (hB : AR n B b) (hE : AR n E e) (ht : t < 1000) (h0 : ∃ ρ, RmI n b e P ρ (t * 64) Rm)
    (hQ : ∀ v Rm', (∃ ρ, RmI n b e P ρ (t * 64 + 64) Rm') → Q (κ v Rm')) : Q (f_X5_roomOf_L56 k v1 (nI t) (nI n) B E T κ k 0 Rm) := by
  have hn := hg.1
  refine loopE (fun f (s : Int32 × (Nat → Int32)) => f_X5_roomOf_L56 k v1 (nI t) (nI n) B E T κ f s.1 s.2) Q n (fun i s => s.1 = nI i ∧ ∃ ρ, RmI n b e P ρ (t * 64 + i) s.2) ?_ ?_ k (0, Rm) (by omega) ⟨rfl, h0⟩
  · rintro f i ⟨v, R1⟩ hi ⟨rfl, ρ, hI⟩
    refine Or.inl ?_
    dsimp only at hI ⊢
    have hgi := hg.2 i hi
    have hsk : (P i = true → b i ≠ t) → RmI n b e P ρ (t * 64 + (i + 1)) R1 := by
      intro h
      refine hI.skip fun j hj hp => ?_
      unfold mu
      by_cases c : j = i
      · subst c
        have := h hp
        omega
      · omega
    rw [f_X5_roomOf_L56_s, if_neg (nI_ge hi (by omega)), xi_nI (by omega) (by omega), nI_clamp (by omega)]
    by_cases hp : P i = true
    · rw [if_neg (by rw [bz_0 hT hi, hp]; simp), xi_nI (by omega) (by omega), hB i hi]
      by_cases hb : b i = t
      · subst hb
        obtain ⟨r, hr⟩ := RmLS.ex (n := n) (b := b) (e := e) (P := P) ρ i
        rw [if_pos rfl, roomOf_L86 (p := 0) hk hg hT hB hE hI hi hr, xi_nI (by omega) (by omega), nI_1]
        exact ⟨(nI (i + 1), upd R1 i (nI r)), ⟨rfl, fs ρ i r, hI.put hn hi hr⟩, rfl⟩
      · rw [if_neg (fun q => hb ((nI_eq (by omega) (by omega)).mp q)), nI_1]
        exact ⟨(nI (i + 1), R1), ⟨rfl, ρ, hsk fun _ => hb⟩, rfl⟩
    · rw [if_pos (by rw [bz_0 hT hi]; simpa using hp), nI_1]
      exact ⟨(nI (i + 1), R1), ⟨rfl, ρ, hsk fun q => absurd q hp⟩, rfl⟩
  · rintro f ⟨v, R1⟩ ⟨rfl, ρ, hI⟩
    dsimp only at hI ⊢
    rw [f_X5_roomOf_L56_s, if_pos (nI_le (Nat.le_refl _) (by omega))]
    refine hQ _ _ ⟨ρ, hI.skip fun j hj hp => ?_⟩
    unfold mu; omega
theorem roomOf_L24 {k n : Nat} {v1 : Int32} {P : Nat → Bool} {b e w : Nat → Nat} {Rm : Nat → Int32} {Q : Option (Int32 × Int32 × (Nat → Int32)) → Prop} {κ : Int32 → (Nat → Int32) → Option (Int32 × Int32 × (Nat → Int32))} (hk : 10000 ≤ k) (hn : n ≤ 40)
    (hQ : ∀ v Rm', RmI n b e P b 0 Rm' → Q (κ v Rm')) : Q (f_X5_roomOf_L24 k v1 (nI n) κ k 0 Rm) := by
  refine loopE (fun f (s : Int32 × (Nat → Int32)) => f_X5_roomOf_L24 k v1 (nI n) κ f s.1 s.2) Q n (fun i s => s.1 = nI i ∧ ∀ j, j < i → s.2 j = -1) ?_ ?_ k (0, Rm) (by omega) ⟨rfl, fun j h => absurd h (Nat.not_lt_zero j)⟩
  · rintro f i ⟨v, R1⟩ hi ⟨rfl, hI⟩
    refine Or.inl ⟨(nI (i + 1), upd R1 i (-1)), ⟨rfl, fun j hj => ?_⟩, ?_⟩
    · dsimp only
      unfold upd
      by_cases c : j = i
      · rw [if_pos c]
      · rw [if_neg c]; exact hI j (by omega)
    · dsimp only
      rw [f_X5_roomOf_L24_s, if_neg (nI_ge hi (by omega)), xi_nI (by omega) (by omega), nI_clamp (by omega), nI_1]
  · rintro f ⟨v, R1⟩ ⟨rfl, hI⟩
    dsimp only
    rw [f_X5_roomOf_L24_s, if_pos (nI_le (Nat.le_refl _) (by omega))]
    exact hQ _ _ fun j hj _ => ⟨fun q => absurd q (Nat.not_lt_zero _), fun _ => hI j hj⟩
theorem roomOf_L47 {k n : Nat} {v1 : Int32} {P : Nat → Bool} {b e w : Nat → Nat} {B E T Rm : Nat → Int32} {Q : Option (Int32 × Int32 × (Nat → Int32)) → Prop} {κ : Int32 → (Nat → Int32) → Option (Int32 × Int32 × (Nat → Int32))} (hk : 10000 ≤ k) (hg : GD n b e w) (hT : BZ n T P) (hB : AR n B b) (hE : AR n E e) (h0 : ∃ ρ, RmI n b e P ρ 0 Rm)
    (hQ : ∀ v Rm', (∃ ρ, RmI n b e P ρ 64000 Rm') → Q (κ v Rm')) : Q (f_X5_roomOf_L47 k v1 (nI n) B E T κ k 0 Rm) := by
  have hn := hg.1
  have key : ∀ d m t R1, t + d = 1000 → d < m → (∃ ρ, RmI n b e P ρ (t * 64) R1) → Q (f_X5_roomOf_L47 k v1 (nI n) B E T κ m (nI t) R1) := by
    intro d
    induction d with
    | zero =>
      intro m t R1 h1 h2 h3
      obtain ⟨m, rfl⟩ : ∃ q, m = q + 1 := ⟨m - 1, by omega⟩
      have : t = 1000 := by omega
      subst this
      rw [f_X5_roomOf_L47_s, if_pos (show (1000 : Int32) ≤ nI 1000 by decide)]
      exact hQ _ _ h3
    | succ d ih =>
      intro m t R1 h1 h2 h3
      obtain ⟨m, rfl⟩ : ∃ q, m = q + 1 := ⟨m - 1, by omega⟩
      rw [f_X5_roomOf_L47_s, if_neg (show ¬ (1000 : Int32) ≤ nI t from nI_ge (b := 1000) (by omega) (by omega))]
      refine roomOf_L56 hk hg hT hB hE (by omega) h3 fun v R2 h4 => ?_
      rw [nI_1]
      exact ih m (t + 1) R2 (by omega) (by omega) (by rw [Nat.add_mul, Nat.one_mul]; exact h4)
  exact key 1000 k 0 Rm rfl (by omega) (by rw [Nat.zero_mul]; exact h0)
section RO
variable {k : Nat} {p p2 p3 added fac drop th many mfac mdrop : Int32} {ps os as : Int64} {B E W mB mE mW T TO TC : Nat → Int32} {out : Nat → Int64}
theorem INV.norm (h : INV added ps fac os as drop B E W many mfac mdrop mB mE mW T TO TC) : ∃ (n : Nat) (b e w : Nat → Nat) (P O C : Nat → Bool) (fa : Nat) (dr : Int32), SI n b e w P O C fa ∧ XI n b e w P O C fa dr added ps fac os as drop B E W ∧ MI n b e w P O C fa dr many mfac mdrop mB mE mW T TO TC ∧ ∀ i, b i ≤ 1000 ∧ e i ≤ 1000 ∧ w i ≤ 1000 := by
  obtain ⟨n, b, e, w, P, O, C, fa, dr, hS, hX, hM⟩ := h
  obtain ⟨hG, hC, hO, hf1, hf2⟩ := id hS
  obtain ⟨x1, x2, x3, x4, x5, x6, x7, x8, x9⟩ := id hX
  obtain ⟨m1, m2, m3, m4, m5, m6, m7, m8, m9⟩ := id hM
  have cut : ∀ {A : Nat → Int32} {a : Nat → Nat}, AR n A a → AR n A (fun i => if i < n then a i else 0) := fun h i hi => by
    rw [h i hi]; dsimp only; rw [if_pos hi]
  refine ⟨n, fun i => if i < n then b i else 0, fun i => if i < n then e i else 0, fun i => if i < n then w i else 0, P, O, C, fa, dr, ⟨⟨hG.1, fun i hi => ?_⟩, hC, hO, hf1, hf2⟩, ⟨x1, x2, x3, x4, x5, x6, cut x7, cut x8, cut x9⟩, ⟨m1, m2, m3, cut m4, cut m5, cut m6, m7, m8, m9⟩, fun i => ?_⟩
  · dsimp only
    rw [if_pos hi, if_pos hi, if_pos hi]; exact hG.2 i hi
  · dsimp only
    by_cases c : i < n
    · have := hG.2 i c
      rw [if_pos c, if_pos c, if_pos c]; omega
    · rw [if_neg c, if_neg c, if_neg c]; omega
theorem law_roomOf {cnt : Int32} {N Bg En Wt F Rm : Nat → Int32} (hk : 10000 ≤ k) (h : INV added ps fac os as drop B E W many mfac mdrop mB mE mW T TO TC) :
    ∃ (c b2 cnt' : Int32) (N' Bg' En' Wt' F' Rm' : Nat → Int32) (out' : Nat → Int64), f_L_roomOf k p added ps B E W 0 cnt N Bg En Wt F out = some (c, cnt', N', Bg', En', Wt', F', out') ∧ f_X5_roomOf k p th many mB mE T Rm = some (b2, c, Rm') ∧ (c = 0 → out' 0 = b2.toInt64) := by
  obtain ⟨n, b, e, w, P, O, C, fa, dr, hS, hX, hM, hb⟩ := h.norm
  obtain ⟨hG, hC, hO, hf1, hf2⟩ := id hS
  obtain ⟨rfl, x2, x3, x4, x5, x6, x7, x8, x9⟩ := id hX
  obtain ⟨rfl, m2, m3, m4, m5, m6, m7, m8, m9⟩ := id hM
  have hn := hG.1
  rcases there p n P hn with ⟨j, hj, rfl, hp⟩ | hno
  · obtain ⟨m, σ, N1, B1, E1, W1, hR, hW, hfill⟩ := fill_eq (S := P) (byE := false) (cnt := cnt) (N := N) (Bg := Bg) (En := En) (Wt := Wt) hk hn (fun i => by have := hb i; omega) x2 x7 x8 x9
    obtain ⟨ρ, F1, hρ, hgiv⟩ := givenTo_eq (F := F) hk hG hR hW hj hp
    have hmo : ∃ Rm', f_X5_roomOf k (nI j) th (nI n) mB mE T Rm = some (nI (ρ j), 0, Rm') := by
      unfold f_X5_roomOf
      rw [X5_is_ok hn m7 hj hp, xb_s, xj_s, if_neg (by decide)]
      try dsimp only
      rw [goesWell_0, xb_s]
      try dsimp only
      rw [if_neg (by decide)]
      refine roomOf_L24 (b := b) (e := e) (P := P) (w := w) (Q := fun res => ∃ Rm', res = some (nI (ρ j), 0, Rm')) hk hn fun v R1 h1 => ?_
      try dsimp only
      refine roomOf_L47 (Q := fun res => ∃ Rm', res = some (nI (ρ j), 0, Rm')) hk hG m7 m4 m5 ⟨b, h1⟩ fun v2 R2 h2 => ?_
      obtain ⟨ρ2, h2⟩ := h2
      try dsimp only
      have hall : ∀ i, i < n → P i = true → mu b i < 64000 := by
        intro i hi _
        have := hG.2 i hi
        unfold mu; omega
      have hu := RmLS.uniq (ρ1 := ρ) (ρ2 := ρ2) (M1 := mu b j + 1) (M2 := 64000) hρ (fun i q1 q2 q3 => ((h2 i q1 q2).1 q3).1) (mu b j + 1) j (by omega) hj hp (by omega) (hall j hj hp)
      refine ⟨R2, ?_⟩
      rw [xi_nI (by omega) (by omega), nI_clamp (by omega), ((h2 j hj hp).1 (hall j hj hp)).2, hu]
    obtain ⟨Rm', hmo⟩ := hmo
    refine ⟨0, nI (ρ j), nI m, N1, B1, E1, W1, F1, Rm', vp_updL out (0 : Int32).toNatClampNeg (nI (ρ j)).toInt64, ?_, hmo, fun _ => rfl⟩
    unfold f_L_roomOf f_X4_roomOf
    rw [requireThere_ok hn x2 hj hp, xe_s]
    have hfill2 : f_X4_fill k ps (nI n) B E W 0 cnt N Bg En Wt = some (nI m, N1, B1, E1, W1) := hfill
    rw [hfill2, xb_s]
    try dsimp only
    rw [hgiv, xb_s]
    try dsimp only
    rw [xt_s, xi_0]
  · refine ⟨1, 0, cnt, N, Bg, En, Wt, F, Rm, out, ?_, ?_, fun q => absurd q (by decide)⟩
    · unfold f_L_roomOf f_X4_roomOf
      rw [requireThere_no hn x2 hno, xe_e, xt_e, if_pos rfl]
    · unfold f_X5_roomOf
      rw [X5_is_no hn m7 hno, xb_s, xj_s, if_pos rfl]
      try dsimp only
      rw [goesWell_1, xb_s]
      try dsimp only
      rw [if_pos rfl]
end RO
