/-! heaviest, bestOfOffered. -/
theorem planOf_L2 {k n : Nat} {off : Bool} {P O C : Nat → Bool} {b e w : Nat → Nat} {B E T TO Fr To Ct : Nat → Int32} {Qp : Option (Int32 × (Nat → Int32) × (Nat → Int32) × (Nat → Int32) × (Nat → Int32)) → Prop} {κ : Int32 → (Nat → Int32) → (Nat → Int32) → (Nat → Int32) → Option (Int32 × (Nat → Int32) × (Nat → Int32) × (Nat → Int32) × (Nat → Int32))} (hk : 10000 ≤ k) (hn : n ≤ 40) (hT : BZ n T P) (hO : BZ 40 TO O) (hB : AR n B b) (hE : AR n E e)
    (hQ : ∀ v F' T' C', AR n F' b → AR n T' e → BZ n C' (fun j => P j && (!off || O j)) → Qp (κ v F' T' C')) : Qp (f_X5_planOf_L2 k (if off = true then 1 else 0) (nI n) B E T TO κ k 0 Fr To Ct) := by
  refine loopE (fun f (s : Int32 × (Nat → Int32) × (Nat → Int32) × (Nat → Int32)) => f_X5_planOf_L2 k (if off = true then 1 else 0) (nI n) B E T TO κ f s.1 s.2.1 s.2.2.1 s.2.2.2) Qp n
    (fun i s => s.1 = nI i ∧ AR i s.2.1 b ∧ AR i s.2.2.1 e ∧ BZ i s.2.2.2 (fun j => P j && (!off || O j))) ?_ ?_ k (0, Fr, To, Ct) (by omega) ⟨rfl, fun i h => absurd h (Nat.not_lt_zero i), fun i h => absurd h (Nat.not_lt_zero i), fun i h => absurd h (Nat.not_lt_zero i)⟩
  · rintro f i ⟨x, A1, A2, A3⟩ hi ⟨rfl, i1, i2, i3⟩
    dsimp only at i1 i2 i3
    have p1 := hB i hi
    have p2 := hE i hi
    have arr : ∀ {A : Nat → Int32} {a : Nat → Nat}, AR i A a → AR (i + 1) (upd A i (nI (a i))) a := fun h j hj => by
      unfold upd
      by_cases c : j = i
      · rw [if_pos c, c]
      · rw [if_neg c]; exact h j (by omega)
    have bzz : ∀ {x : Int32}, x = (if (P i && (!off || O i)) = true then 1 else 0) → BZ (i + 1) (upd A3 i x) (fun j => P j && (!off || O j)) := fun h j hj => by
      unfold upd
      by_cases c : j = i
      · rw [if_pos c, c]; exact h
      · rw [if_neg c]; exact i3 j (by omega)
    refine Or.inl ⟨(nI (i + 1), upd A1 i (nI (b i)), upd A2 i (nI (e i)), upd A3 i (if (P i && (!off || O i)) = true then 1 else 0)), ⟨rfl, arr i1, arr i2, bzz rfl⟩, ?_⟩
    dsimp only
    rw [f_X5_planOf_L2_s, if_neg (nI_ge hi (by omega)), xi_nI (by omega) (by omega), nI_clamp (show i < 2 ^ 31 by omega), p1, p2]
    simp (disch := omega) only [xj_s, xi_nI, nI_1, nar_0, nar_1]
    have hO2 := hO i (by omega)
    have hT2 := hT i hi
    cases hp : P i with
    | false =>
      rw [hp] at hT2
      rw [if_pos (show T i = 0 from hT2)]
      rfl
    | true =>
      rw [hp, if_pos rfl] at hT2
      rw [if_neg (by rw [hT2]; decide)]
      cases hoff : off with
      | false =>
        rw [if_pos (by rw [if_neg (by decide)])]
        rfl
      | true =>
        rw [if_neg (by rw [if_pos rfl]; decide)]
        cases ho : O i with
        | false =>
          rw [ho] at hO2
          rw [if_pos (show TO i = 0 from hO2)]
          rfl
        | true =>
          rw [ho, if_pos rfl] at hO2
          rw [if_neg (by rw [hO2]; decide)]
          rfl
  · rintro f ⟨x, A1, A2, A3⟩ ⟨rfl, i1, i2, i3⟩
    dsimp only
    rw [f_X5_planOf_L2_s, if_pos (nI_le (Nat.le_refl _) (by omega))]
    exact hQ _ _ _ _ i1 i2 i3
theorem planOf_eq {k n : Nat} {off : Bool} {P O : Nat → Bool} {b e w : Nat → Nat} {B E W T TO Fr To Ct A : Nat → Int32} (hk : 10000 ≤ k) (hg : GD n b e w) (hT : BZ n T P) (hO : BZ 40 TO O) (hB : AR n B b) (hE : AR n E e) (hW : AR n W w) :
    ∃ v A' F' T' C', IsM n (ovl b e) w (fun j => P j = true ∧ (off = true → O j = true)) v ∧ f_X5_planOf k (if off = true then 1 else 0) (nI n) B E W T TO A Fr To Ct = some (nI v, A', F', T', C') := by
  unfold f_X5_planOf
  refine planOf_L2 (P := P) (O := O) (C := P) (w := w) (b := b) (e := e) (Qp := fun res => ∃ v A' F' T' C', IsM n (ovl b e) w (fun j => P j = true ∧ (off = true → O j = true)) v ∧ res = some (nI v, A', F', T', C')) hk hg.1 hT hO hB hE fun v F' T' C' h1 h2 h3 => ?_
  obtain ⟨v, A', hv, hp⟩ := plan_eq (l := 1000) (C := fun j => P j && (!off || O j)) (a := b) (z := e) (w := w) (A := A) hk hg.1 (by omega) (fun i hi _ => by have := hg.2 i hi; omega) (fun i hi => (hg.2 i hi).2.2.2) hW (fun i hi _ => ⟨h1 i hi, h2 i hi⟩) h3
  refine ⟨v, A', F', T', C', hv.cong fun j hj => ?_, ?_⟩
  · have := hg.2 j hj
    constructor
    · rintro ⟨q1, q2⟩
      simp only [Bool.and_eq_true, Bool.or_eq_true, Bool.not_eq_true'] at q1
      refine ⟨q1.1, fun h => ?_⟩
      rcases q1.2 with h9 | h9
      · rw [h] at h9; cases h9
      · exact h9
    · rintro ⟨q1, q2⟩
      refine ⟨?_, this.2.1⟩
      simp only [Bool.and_eq_true, Bool.or_eq_true, Bool.not_eq_true']
      refine ⟨q1, ?_⟩
      cases hoff : off with
      | false => exact Or.inl rfl
      | true => exact Or.inr (q2 hoff)
  · try dsimp only
    rw [show (1000 : Int32) = nI 1000 from rfl, hp, xb_s]
theorem forOne_eq {k n : Nat} {x : Int64} {S : Nat → Bool} {b e w : Nat → Nat} {B E W : Nat → Int32} {cnt : Int32} {N Bg En Wt Be : Nat → Int32} (hk : 10000 ≤ k) (hg : GD n b e w) (hb : ∀ i, b i ≤ 1000 ∧ e i ≤ 1000 ∧ w i ≤ 1000) (hx : ST x n S) (hB : AR n B b) (hE : AR n E e) (hW : AR n W w) :
    ∃ v c' N' Bg' En' Wt' Be', IsM n (ovl b e) w (fun j => S j = true) v ∧ f_X4_heaviestForOne k x (nI n) B E W 1 cnt N Bg En Wt Be = some (nI v, c', N', Bg', En', Wt', Be') := by
  have hn := hg.1
  obtain ⟨m, σ, N1, B1, E1, W1, hR, hRW, hfill⟩ := fill_eq (S := S) (byE := true) (cnt := cnt) (N := N) (Bg := Bg) (En := En) (Wt := Wt) hk hn (fun i => by have := hb i; omega) hx hB hE hW
  have hR2 : ROWS n S e m σ := hR
  obtain ⟨Be', v, h1, h2, h3⟩ := greatestWeight_eq (Be := Be) hk hn hR2 hRW (fun i hi _ => by have := hg.2 i hi; omega) (fun i hi => (hg.2 i hi).2.2.2)
  refine ⟨v, nI m, N1, B1, E1, W1, Be', h2.cong fun j hj => ⟨?_, ?_⟩, ?_⟩
  · rintro ⟨q, hq, rfl⟩
    exact (hR2.2.1 q hq).2
  · intro h
    obtain ⟨q, hq, he⟩ := hR2.2.2.1 j hj h
    exact ⟨q, hq, he⟩
  · unfold f_X4_heaviestForOne
    have hfill2 : f_X4_fill k x (nI n) B E W 1 cnt N Bg En Wt = some (nI m, N1, B1, E1, W1) := hfill
    rw [hfill2, xb_s]
    try dsimp only
    rw [h3, xb_s]
theorem ST.and {x y : Int64} {n : Nat} {P Q : Nat → Bool} (h1 : ST x n P) (h2 : ST y n Q) : ST (x &&& y) n (fun j => P j && Q j) := by
  intro i hi
  rw [bs_and, h1 i hi, h2 i hi]
  show _ = (decide (i < n) && (P i && Q i))
  cases decide (i < n) <;> cases P i <;> cases Q i <;> rfl
section HV
variable {k : Nat} {p p2 p3 added fac drop th many mfac mdrop : Int32} {ps os as : Int64} {B E W mB mE mW T TO TC : Nat → Int32} {out : Nat → Int64}
theorem law_heaviest {cnt : Int32} {N Bg En Wt Be mBe Fr To Ct : Nat → Int32} (hk : 10000 ≤ k) (h : INV added ps fac os as drop B E W many mfac mdrop mB mE mW T TO TC) :
    ∃ (r c' : Int32) (N' Bg' En' Wt' Be' mBe' Fr' To' Ct' : Nat → Int32), f_X4_heaviest k added ps B E W 1 cnt N Bg En Wt Be = some (r, c', N', Bg', En', Wt', Be') ∧ f_X5_heaviest k th many mB mE mW T TO mBe Fr To Ct = some (r, 0, mBe', Fr', To', Ct') := by
  obtain ⟨n, b, e, w, P, O, C, fa, dr, hS, hX, hM, hb⟩ := h.norm
  obtain ⟨hG, hC, hO, hf1, hf2⟩ := id hS
  obtain ⟨rfl, x2, x3, x4, x5, x6, x7, x8, x9⟩ := id hX
  obtain ⟨rfl, m2, m3, m4, m5, m6, m7, m8, m9⟩ := id hM
  obtain ⟨v, c', N', Bg', En', Wt', Be', hv, hc⟩ := forOne_eq (cnt := cnt) (N := N) (Bg := Bg) (En := En) (Wt := Wt) (Be := Be) hk hG hb x2 x7 x8 x9
  obtain ⟨v2, A', F', T', C', hv2, hm⟩ := planOf_eq (off := false) (Fr := Fr) (To := To) (Ct := Ct) (A := mBe) hk hG m7 m8 m4 m5 m6
  have : v2 = v := hv2.one (hv.cong fun j hj => ⟨fun h => ⟨h, fun q => by cases q⟩, fun h => h.1⟩)
  subst this
  refine ⟨nI v2, c', N', Bg', En', Wt', Be', A', F', T', C', ?_, ?_⟩
  · unfold f_X4_heaviest
    rw [hc, xb_s]
  · unfold f_X5_heaviest
    have hm2 : f_X5_planOf k 0 (nI n) mB mE mW T TO mBe Fr To Ct = some (nI v2, A', F', T', C') := hm
    rw [hm2, xb_s]
theorem law_bestOfOffered {cnt : Int32} {N Bg En Wt Be mBe Fr To Ct : Nat → Int32} (hk : 10000 ≤ k) (h : INV added ps fac os as drop B E W many mfac mdrop mB mE mW T TO TC) :
    ∃ (r c' : Int32) (N' Bg' En' Wt' Be' mBe' Fr' To' Ct' : Nat → Int32), f_X4_bestOfOffered k added ps os B E W 1 cnt N Bg En Wt Be = some (r, c', N', Bg', En', Wt', Be') ∧ f_X5_bestOfOffered k th many mB mE mW T TO mBe Fr To Ct = some (r, 0, mBe', Fr', To', Ct') := by
  obtain ⟨n, b, e, w, P, O, C, fa, dr, hS, hX, hM, hb⟩ := h.norm
  obtain ⟨hG, hC, hO, hf1, hf2⟩ := id hS
  obtain ⟨rfl, x2, x3, x4, x5, x6, x7, x8, x9⟩ := id hX
  obtain ⟨rfl, m2, m3, m4, m5, m6, m7, m8, m9⟩ := id hM
  obtain ⟨v, c', N', Bg', En', Wt', Be', hv, hc⟩ := forOne_eq (cnt := cnt) (N := N) (Bg := Bg) (En := En) (Wt := Wt) (Be := Be) hk hG hb (x2.and x4) x7 x8 x9
  obtain ⟨v2, A', F', T', C', hv2, hm⟩ := planOf_eq (off := true) (Fr := Fr) (To := To) (Ct := Ct) (A := mBe) hk hG m7 m8 m4 m5 m6
  have : v2 = v := hv2.one (hv.cong fun j hj => ⟨fun h => by rw [Bool.and_eq_true] at h; exact ⟨h.1, fun _ => h.2⟩, fun h => by rw [Bool.and_eq_true]; exact ⟨h.1, h.2 rfl⟩⟩)
  subst this
  refine ⟨nI v2, c', N', Bg', En', Wt', Be', A', F', T', C', ?_, ?_⟩
  · unfold f_X4_bestOfOffered
    rw [hc, xb_s]
  · unfold f_X5_bestOfOffered
    have hm2 : f_X5_planOf k 1 (nI n) mB mE mW T TO mBe Fr To Ct = some (nI v2, A', F', T', C') := hm
    rw [hm2, xb_s]
end HV
