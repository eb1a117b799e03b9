/-! Circles: residues and distances. -/
def dst (p r t : Nat) : Nat := if t < r then t + p - r else t - r
theorem dst_of {p x y d : Nat} (hp : 0 < p) (hd : d < p) (h : (y + d) % p = x % p) : d = dst p (y % p) (x % p) := by
  rw [← Nat.mod_add_mod] at h
  have h1 := Nat.mod_lt y hp
  have h2 := Nat.mod_lt x hp
  unfold dst
  rcases Nat.lt_or_ge (y % p + d) p with c | c
  · rw [Nat.mod_eq_of_lt c] at h
    rw [if_neg (by omega)]; omega
  · rw [Nat.mod_eq_sub_mod c, Nat.mod_eq_of_lt (by omega)] at h
    rw [if_pos (by omega)]; omega
theorem xd_p {α : Type} {a : Nat} {x : Option α} (h0 : 0 < a) (h : a < 2 ^ 31) : xd (nI a) x = x := if_neg (nI_ne0 h0 h)
theorem nn_msb (v : Int32) : (0 ≤ v) ↔ v.toBitVec.msb = false := by
  rw [fa_le, BitVec.msb_eq_toInt, decide_eq_false_iff_not, Int.not_lt]
  exact Iff.rfl
theorem nn_xor (a b : Int32) : (0 ≤ (a ^^^ b)) ↔ (0 ≤ a ↔ 0 ≤ b) := by
  rw [nn_msb, nn_msb, nn_msb, show (a ^^^ b).toBitVec = a.toBitVec ^^^ b.toBitVec from rfl, BitVec.msb_xor]
  cases a.toBitVec.msb <;> cases b.toBitVec.msb <;> simp
theorem nn_nI {a : Nat} (h : a < 2 ^ 31) : (0 : Int32) ≤ nI a := nI_le (a := 0) (Nat.zero_le _) h
theorem toInt_neg_nI {z : Nat} (h : z < 2 ^ 31) : (-(nI z)).toInt = -(z : Int) := by
  rw [Int32.toInt_neg, nI_toInt h]
  exact Int.bmod_eq_of_le (by omega) (by omega)
theorem neg_div {z p : Nat} (hz : z < 2 ^ 31) (hp : 0 < p) (hp2 : p < 2 ^ 31) : (-(nI z)) / nI p = -(nI (z / p)) := by
  have hq : z / p ≤ z := Nat.div_le_self _ _
  rw [fa_eq, Int32.toInt_div, toInt_neg_nI hz, toInt_neg_nI (by omega), nI_toInt hp2, Int.neg_tdiv, show ((z : Int).tdiv (p : Int)) = ((z / p : Nat) : Int) from rfl]
  generalize z / p = q at hq ⊢
  exact Int.bmod_eq_of_le (by omega) (by omega)
theorem neg_rem {z p : Nat} (hz : z < 2 ^ 31) (hp : 0 < p) (hp2 : p < 2 ^ 31) : -(nI z) - -(nI z) / nI p * nI p = -(nI (z % p)) := by
  rw [neg_div hz hp hp2, ← pk_rem hz hp hp2, pk_div hz hp hp2, Int32.neg_mul, Int32.neg_sub, Int32.sub_neg, Int32.sub_eq_add_neg, Int32.add_comm]
theorem nI_subneg {x y : Nat} (h : x < y) : nI x - nI y = -(nI (y - x)) := by
  rw [← pk_sub (Nat.le_of_lt h), Int32.neg_sub]
theorem turned_eq {k x y p : Nat} (hx : x < 2 ^ 30) (hy : y < 2 ^ 30) (hp : 1 ≤ p) (hp2 : p < 2 ^ 30) : f_X4_turned k (nI x - nI y) (nI p) = some (nI (dst p (y % p) (x % p))) := by
  unfold f_X4_turned f_J9_floorMod_7cf53
  rw [if_pos (show (1 : Int32) ≤ nI p from nI_le (a := 1) hp (by omega)), xd_p hp (by omega)]
  rcases Nat.lt_or_ge x y with c | c
  · rw [nI_subneg c]
    have hn : ¬ (0 : Int32) ≤ -(nI (y - x)) := by
      rw [fa_le, toInt_neg_nI (by omega)]
      show ¬ (0 : Int) ≤ _
      omega
    rw [if_neg (fun q => hn (((nn_xor _ _).mp q).mpr (nn_nI (by omega)))), neg_rem (by omega) hp (by omega)]
    have hm := Nat.mod_lt (y - x) hp
    have hdm := Nat.div_add_mod (y - x) p
    by_cases c2 : (y - x) % p = 0
    · rw [if_pos (by rw [c2]; rfl), xb_s, c2]
      have : 0 = dst p (y % p) (x % p) := dst_of hp hp (by
        rw [Nat.add_zero, show y = x + p * ((y - x) / p) by omega, Nat.add_mul_mod_self_left])
      rw [← this]; rfl
    · rw [if_neg (fun q => by
        rw [fa_eq, toInt_neg_nI (by omega)] at q
        have q2 : -(((y - x) % p : Nat) : Int) = 0 := q
        omega), xb_s]
      have : p - (y - x) % p = dst p (y % p) (x % p) := dst_of hp (by omega) (by
        rw [show y + (p - (y - x) % p) = x + p * ((y - x) / p + 1) by rw [Nat.mul_add]; omega, Nat.add_mul_mod_self_left])
      rw [← this, ← pk_sub (Nat.le_of_lt hm), Int32.sub_eq_add_neg, Int32.add_comm]
  · rw [pk_sub c, if_pos ((nn_xor _ _).mpr ⟨fun _ => nn_nI (by omega), fun _ => nn_nI (by omega)⟩), pk_rem (by omega) hp (by omega), xb_s]
    have hdm := Nat.div_add_mod (x - y) p
    rw [dst_of (d := (x - y) % p) (x := x) (y := y) hp (Nat.mod_lt _ hp) (by
      rw [show x = y + (x - y) % p + p * ((x - y) / p) by omega, Nat.add_mul_mod_self_left, ← show x = y + (x - y) % p + p * ((x - y) / p) by omega])]
theorem turned_eq0 {k x p : Nat} (hx : x < 2 ^ 30) (hp : 1 ≤ p) (hp2 : p < 2 ^ 30) : f_X4_turned k (nI x) (nI p) = some (nI (x % p)) := by
  unfold f_X4_turned f_J9_floorMod_7cf53
  rw [if_pos (show (1 : Int32) ≤ nI p from nI_le (a := 1) hp (by omega)), xd_p hp (by omega), if_pos ((nn_xor _ _).mpr ⟨fun _ => nn_nI (by omega), fun _ => nn_nI (by omega)⟩), pk_rem (by omega) hp (by omega), xb_s]
theorem lengthOf_eq {k n j : Nat} {b e w : Nat → Nat} {B E : Nat → Int32} (hg : GD n b e w) (hB : AR n B b) (hE : AR n E e) (hj : j < n) : f_X4_lengthOf k (nI j) B E = some (nI (e j - b j)) := by
  have hn := hg.1
  have hgj := hg.2 j hj
  unfold f_X4_lengthOf
  rw [xi_nI (by omega) (by omega), xi_nI (by omega) (by omega), nI_clamp (by omega), hB j hj, hE j hj, pk_sub (by omega)]
/-- the guards -/
theorem requireCircle_eq {k n p : Nat} {x : Int64} {P : Nat → Bool} {b e w : Nat → Nat} {B E : Nat → Int32} (hk : 10000 ≤ k) (hg : GD n b e w) (hx : ST x n P) (hB : AR n B b) (hE : AR n E e) (hp : 1 ≤ p) (hp2 : p ≤ 1000) :
    ((∀ j, j < n → P j = true → e j - b j ≤ p) ∧ f_X4_requireCircle k (nI p) (nI n) x B E = some (.ok ())) ∨ ((∃ j, j < n ∧ P j = true ∧ p < e j - b j) ∧ f_X4_requireCircle k (nI p) (nI n) x B E = some (.error "java/lang/IllegalStateException")) := by
  have hn := hg.1
  unfold f_X4_requireCircle
  rw [if_neg (show ¬ nI p < 1 from nI_nlt (a := p) (b := 1) hp (by omega)), if_pos (show nI p ≤ 1000 from nI_le (b := 1000) hp2 (by omega))]
  refine loopE (fun f (v : Int32) => f_X4_requireCircle_L24 k (nI p) (nI n) x B E (fun (v2_10 : Int32) => some (.ok ())) f v)
    (fun res => ((∀ j, j < n → P j = true → e j - b j ≤ p) ∧ res = some (.ok ())) ∨ ((∃ j, j < n ∧ P j = true ∧ p < e j - b j) ∧ res = some (.error "java/lang/IllegalStateException"))) n
    (fun i v => v = nI i ∧ ∀ j, j < i → P j = true → e j - b j ≤ p) ?_ ?_ k 0 (by omega) ⟨rfl, fun j h => absurd h (Nat.not_lt_zero j)⟩
  · rintro f i v hi ⟨rfl, hI⟩
    try dsimp only
    have hgi := hg.2 i hi
    rw [f_X4_requireCircle_L24_s, if_neg (nI_ge hi (by omega)), contains_st k hx hi hn, xb_s]
    by_cases hpi : P i = true
    · rw [if_neg (by rw [if_pos hpi]; decide), lengthOf_eq hg hB hE hi, xb_s]
      by_cases c : e i - b i ≤ p
      · rw [if_pos (nI_le c (by omega)), nI_1]
        refine Or.inl ⟨nI (i + 1), ⟨rfl, fun j hj hpj => ?_⟩, rfl⟩
        rcases Nat.lt_or_ge j i with h | h
        · exact hI j h hpj
        · have : j = i := by omega
          rw [this]; exact c
      · rw [if_neg (nI_ge (Nat.not_le.mp c) (by omega))]
        exact Or.inr (Or.inr ⟨⟨i, hi, hpi, by omega⟩, rfl⟩)
    · rw [if_pos (by rw [if_neg hpi]), nI_1]
      refine Or.inl ⟨nI (i + 1), ⟨rfl, fun j hj hpj => ?_⟩, rfl⟩
      rcases Nat.lt_or_ge j i with h | h
      · exact hI j h hpj
      · have : j = i := by omega
        rw [this] at hpj; exact absurd hpj hpi
  · rintro f v ⟨rfl, hI⟩
    try dsimp only
    rw [f_X4_requireCircle_L24_s, if_pos (nI_le (Nat.le_refl _) (by omega))]
    exact Or.inl ⟨hI, rfl⟩
theorem requireCircle_bad {k : Nat} {p n : Int32} {x : Int64} {B E : Nat → Int32} (h : p < 1 ∨ (¬ p < 1 ∧ ¬ p ≤ nI 1000)) : f_X4_requireCircle k p n x B E = some (.error "java/lang/IllegalArgumentException") := by
  unfold f_X4_requireCircle
  rcases h with h | ⟨h1, h2⟩
  · rw [if_pos h]
  · rw [if_neg h1, if_neg (show ¬ p ≤ 1000 from h2)]
