/-! heaviest, bestOfOffered. -/
theorem forOne_eq {k n : Nat} {x : Int64} {S : Nat → Bool} {b e w : Nat → Nat} {B E W : Nat → Int32} {cnt : Int32} {N Bg En Wt Be : Nat → Int32} (hk : 10000 ≤ k) (hg : GD n b e w) (hb : ∀ i, b i ≤ 1000 ∧ e i ≤ 1000 ∧ w i ≤ 1000) (hx : ST x n S) (hB : AR n B b) (hE : AR n E e) (hW : AR n W w) :
    ∃ v c' N' Bg' En' Wt' Be', IsM n (ovl b e) w (fun j => S j = true) v ∧ f_X4_heaviestForOne k x (nI n) B E W 1 cnt N Bg En Wt Be = some (nI v, c', N', Bg', En', Wt', Be') := by
  have hn := hg.1
  obtain ⟨m, σ, N1, B1, E1, W1, hR, hRW, hfill⟩ := fill_eq (S := S) (byE := true) (cnt := cnt) (N := N) (Bg := Bg) (En := En) (Wt := Wt) hk hn (fun i => by have := hb i; omega) hx hB hE hW
  have hR2 : ROWS n S e m σ := hR
  obtain ⟨Be', v, h1, h2, h3⟩ := greatestWeight_eq (Be := Be) hk hn hR2 hRW (fun i hi _ => by have := hg.2 i hi; omega) (fun i hi => (hg.2 i hi).2.2.2)
  refine ⟨v, nI m, N1, B1, E1, W1, Be', h2.cong fun j hj => ⟨?_, ?_⟩, ?_⟩
  · rintro ⟨q, hq, rfl⟩
    exact (hR2.2.1 q hq).2
  · intro h
    obtain ⟨q, hq, he⟩ := hR2.2.2.1 j hj h
    exact ⟨q, hq, he⟩
  · unfold f_X4_heaviestForOne
    have hfill2 : f_X4_fill k x (nI n) B E W 1 cnt N Bg En Wt = some (nI m, N1, B1, E1, W1) := hfill
    rw [hfill2, xb_s]
    try dsimp only
    rw [h3, xb_s]
theorem ST.and {x y : Int64} {n : Nat} {P Q : Nat → Bool} (h1 : ST x n P) (h2 : ST y n Q) : ST (x &&& y) n (fun j => P j && Q j) := by
  intro i hi
  rw [bs_and, h1 i hi, h2 i hi]
  show _ = (decide (i < n) && (P i && Q i))
  cases decide (i < n) <;> cases P i <;> cases Q i <;> rfl
