/-! Counting, the law's count of bits, plans as the law looks at them. -/
theorem ct_many {n R : Nat} {p : Nat → Bool} {f : Nat → Nat} (h : ∀ r, r < R → ∃ i, i < n ∧ p i = true ∧ f i = r) : R ≤ fb_ct p n := by
  have h2 : ∀ r, ∃ i, r < R → (i < n ∧ p i = true ∧ f i = r) := by
    intro r
    by_cases c : r < R
    · obtain ⟨i, hi⟩ := h r c; exact ⟨i, fun _ => hi⟩
    · exact ⟨0, fun q => absurd q c⟩
  obtain ⟨g, hg⟩ := Classical.axiomOfChoice h2
  refine fb_holes (fb_ct p n) R (fun r => fb_ct p (g r)) (fun r hr => ?_) (fun r s hrs hs q => ?_)
  · obtain ⟨h1, h2, -⟩ := hg r hr
    have h3 := fb_ct_mono p (show g r + 1 ≤ n by omega)
    rw [fb_ct_succ, if_pos h2] at h3
    show fb_ct p (g r) < fb_ct p n
    omega
  · obtain ⟨-, a2, a3⟩ := hg r (by omega)
    obtain ⟨-, b2, b3⟩ := hg s hs
    have := fb_ct_kth_one a2 b2 q
    rw [this] at a3
    omega
theorem ct_few {n M : Nat} {p : Nat → Bool} {f : Nat → Nat} (h1 : ∀ i, i < n → p i = true → f i < M) (h2 : ∀ i j, i < n → j < n → p i = true → p j = true → i ≠ j → f i ≠ f j) : fb_ct p n ≤ M := by
  have h3 : ∀ c, ∃ i, c < fb_ct p n → (i < n ∧ p i = true ∧ fb_ct p i = c) := by
    intro c
    by_cases q : c < fb_ct p n
    · obtain ⟨i, a1, a2, a3⟩ := fb_ct_kth q; exact ⟨i, fun _ => ⟨a1, a2, a3⟩⟩
    · exact ⟨0, fun q2 => absurd q2 q⟩
  obtain ⟨g, hg⟩ := Classical.axiomOfChoice h3
  refine fb_holes M (fb_ct p n) (fun c => f (g c)) (fun c hc => ?_) (fun c d hcd hd => ?_)
  · obtain ⟨a1, a2, -⟩ := hg c hc
    exact h1 _ a1 a2
  · obtain ⟨a1, a2, a3⟩ := hg c (by omega)
    obtain ⟨b1, b2, b3⟩ := hg d hd
    refine h2 _ _ a1 b1 a2 b2 (fun q => ?_)
    rw [q, b3] at a3
    omega
theorem ct_two {n : Nat} {p : Nat → Bool} : 2 ≤ fb_ct p n ↔ ∃ i j, i < j ∧ j < n ∧ p i = true ∧ p j = true := by
  constructor
  · intro h
    obtain ⟨i, a1, a2, a3⟩ := fb_ct_kth (p := p) (n := n) (k := 0) (by omega)
    obtain ⟨j, b1, b2, b3⟩ := fb_ct_kth (p := p) (n := n) (k := 1) (by omega)
    have hne : i ≠ j := fun q => by rw [q, b3] at a3; omega
    rcases Nat.lt_or_ge i j with c | c
    · exact ⟨i, j, c, b1, a2, b2⟩
    · exact ⟨j, i, by omega, a1, b2, a2⟩
  · rintro ⟨i, j, hij, hj, hi, hpj⟩
    exact ct_many (f := fun x => if x = i then 0 else 1) (fun r hr => by
      rcases (show r = 0 ∨ r = 1 by omega) with rfl | rfl
      · exact ⟨i, by omega, hi, if_pos rfl⟩
      · exact ⟨j, hj, hpj, if_neg (by omega)⟩)
/-- two plans: pairwise apart, and at most one at a time -/
theorem pln_dep {n : Nat} {b e w : Nat → Nat} {S : Nat → Bool} (hg : GD n b e w) : PLN n (ovl b e) S ↔ ∀ t, dep n b e S t ≤ 1 := by
  constructor
  · intro h t
    apply Nat.le_of_not_lt
    intro q
    obtain ⟨i, j, hij, hj, hi, hpj⟩ := ct_two.mp (show 2 ≤ dep n b e S t from q)
    simp only [Bool.and_eq_true, decide_eq_true_eq] at hi hpj
    have h1 := h i j (by omega) hj hi.1 hpj.1 (by omega)
    unfold ovl at h1
    have h2 : (decide (b i < e j) && decide (b j < e i)) = true := by
      rw [Bool.and_eq_true, decide_eq_true_eq, decide_eq_true_eq]
      omega
    rw [h2] at h1
    cases h1
  · intro h i j hi hj hsi hsj hij
    cases ho : ovl b e i j with
    | false => rfl
    | true =>
      exfalso
      unfold ovl at ho
      rw [Bool.and_eq_true, decide_eq_true_eq, decide_eq_true_eq] at ho
      have gi := hg.2 i hi
      have gj := hg.2 j hj
      have key : ∀ x y, x < y → y < n → S x = true → S y = true → ∀ t, b x ≤ t → t < e x → b y ≤ t → t < e y → False := by
        intro x y hxy hy hx hsy t h1 h2 h3 h4
        have h5 := h t
        have h6 : 2 ≤ dep n b e S t := ct_two.mpr ⟨x, y, hxy, hy, by simp only [Bool.and_eq_true, decide_eq_true_eq]; exact ⟨hx, h1, h2⟩, by simp only [Bool.and_eq_true, decide_eq_true_eq]; exact ⟨hsy, h3, h4⟩⟩
        omega
      rcases Nat.lt_or_ge i j with c | c
      · rcases Nat.lt_or_ge (b i) (b j) with d | d
        · exact key i j c hj hsi hsj (b j) (by omega) (by omega) (by omega) (by omega)
        · exact key i j c hj hsi hsj (b i) (by omega) (by omega) (by omega) (by omega)
      · rcases Nat.lt_or_ge (b i) (b j) with d | d
        · exact key j i (by omega) hi hsj hsi (b j) (by omega) (by omega) (by omega) (by omega)
        · exact key j i (by omega) hi hsj hsi (b i) (by omega) (by omega) (by omega) (by omega)
/-! bits -/
theorem nat_low {t : Nat} (h : 0 < t) : ∃ i m, t = 2 ^ i * (2 * m + 1) := by
  induction t using Nat.strongRecOn with
  | _ t ih =>
    rcases Nat.mod_two_eq_zero_or_one t with c | c
    · obtain ⟨i, m, hm⟩ := ih (t / 2) (by omega) (by omega)
      refine ⟨i + 1, m, ?_⟩
      have : t = 2 * (t / 2) := by omega
      rw [this, hm, Nat.pow_succ]
      rw [Nat.mul_comm (2 ^ i) 2, Nat.mul_assoc]
    · exact ⟨0, t / 2, by omega⟩
theorem nat_clear (i m : Nat) : (2 ^ i * (2 * m + 1)) &&& (2 ^ i * (2 * m + 1) - 1) = 2 ^ (i + 1) * m := by
  have h0 := Nat.two_pow_pos i
  have e1 : 2 ^ i * (2 * m + 1) = 2 ^ (i + 1) * m + 2 ^ i := by rw [Nat.mul_add, Nat.mul_one, Nat.pow_succ, ← Nat.mul_assoc]
  have e2 : 2 ^ i * (2 * m + 1) - 1 = 2 ^ (i + 1) * m + (2 ^ i - 1) := by omega
  have h1 : 2 ^ i < 2 ^ (i + 1) := Nat.pow_lt_pow_right (by decide) (Nat.lt_succ_self i)
  rw [e2, e1]
  apply Nat.eq_of_testBit_eq
  intro j
  rw [Nat.testBit_and, Nat.testBit_two_pow_mul_add _ h1, Nat.testBit_two_pow_mul_add _ (show 2 ^ i - 1 < 2 ^ (i + 1) by omega), Nat.testBit_two_pow_mul]
  by_cases c : j < i + 1
  · rw [if_pos c, if_pos c, Nat.testBit_two_pow, Nat.testBit_two_pow_sub_one]
    have : decide (i + 1 ≤ j) = false := decide_eq_false (by omega)
    rw [this, Bool.false_and]
    by_cases d : i = j
    · subst d; simp
    · rw [decide_eq_false d]; rfl
  · rw [if_neg c, if_neg c, Bool.and_self, decide_eq_true (show i + 1 ≤ j by omega), Bool.true_and]
theorem lN_of {x : Int64} : ∃ t, t < 2 ^ 64 ∧ x = lN t := wb_of x
theorem lN_pred {t : Nat} (h : 0 < t) : lN t - 1 = lN (t - 1) := by
  have : lN t = lN (t - 1) + 1 := by
    have h9 : lN (t - 1 + 1) = lN (t - 1) + lN 1 := Int64.ofNat_add (t - 1) 1
    rw [show t - 1 + 1 = t by omega] at h9
    exact h9
  rw [this]
  exact Int64.add_sub_cancel _ _
/-- taking the lowest of a set away -/
theorem ST.low {x : Int64} {n : Nat} {P : Nat → Bool} (h : ST x n P) (hn : n ≤ 64) (hne : ¬ x = 0) : ∃ i, i < n ∧ P i = true ∧ ST (x &&& (x - 1)) n (fs P i false) := by
  obtain ⟨t, ht, rfl⟩ := wb_of x
  have ht0 : 0 < t := by
    rcases Nat.eq_zero_or_pos t with c | c
    · exact absurd (by rw [c]; rfl) hne
    · exact c
  obtain ⟨i, m, hm⟩ := nat_low ht0
  have e0 : t.testBit i = true := by
    rw [hm, Nat.testBit_two_pow_mul, decide_eq_true (Nat.le_refl i), Nat.sub_self, Bool.true_and, Nat.testBit_zero]
    exact decide_eq_true (by omega)
  have hi64 : i < 64 := by
    apply Nat.lt_of_not_le
    intro q
    have := Nat.testBit_lt_two_pow (Nat.lt_of_lt_of_le ht (Nat.pow_le_pow_right (by decide) q))
    rw [this] at e0
    cases e0
  have h1 := h i hi64
  rw [bs_lN, e0, decide_eq_true hi64] at h1
  have h2 : i < n ∧ P i = true := by
    have h3 := h1.symm
    simp only [Bool.and_eq_true, decide_eq_true_eq, Bool.and_self] at h3
    exact h3
  refine ⟨i, h2.1, h2.2, fun j hj => ?_⟩
  rw [lN_pred ht0, wb_and ht (by omega), bs_lN, decide_eq_true hj, Bool.true_and]
  have e1 := h j hj
  rw [bs_lN, decide_eq_true hj, Bool.true_and] at e1
  have e2 : t &&& (t - 1) = 2 ^ (i + 1) * m := by rw [hm]; exact nat_clear i m
  have h1' : 2 ^ i < 2 ^ (i + 1) := Nat.pow_lt_pow_right (by decide) (Nat.lt_succ_self i)
  have e3 : t = 2 ^ (i + 1) * m + 2 ^ i := by rw [hm, Nat.mul_add, Nat.mul_one, Nat.pow_succ, ← Nat.mul_assoc]
  rw [e2, Nat.testBit_two_pow_mul]
  rw [e3, Nat.testBit_two_pow_mul_add _ h1', Nat.testBit_two_pow] at e1
  unfold fs
  by_cases c : j = i
  · rw [if_pos c, decide_eq_false (show ¬ i + 1 ≤ j by omega), Bool.and_false]; rfl
  · rw [if_neg c, ← e1]
    by_cases d : j < i + 1
    · rw [if_pos d, decide_eq_false (show ¬ i + 1 ≤ j by omega), decide_eq_false (fun q => c q.symm)]; rfl
    · rw [if_neg d, decide_eq_true (show i + 1 ≤ j by omega), Bool.true_and]
theorem fs_ct {n i : Nat} {P : Nat → Bool} (hi : i < n) (hp : P i = true) : fb_ct (fs P i false) n + 1 = fb_ct P n := by
  have h := fb_ct_upd P false hi
  rw [if_pos hp, if_neg (by decide)] at h
  exact h
theorem bits_L4 {k n : Nat} (hn : n ≤ 40) {κ : Int32 → Int64 → Option Int32} {r : Option Int32} : ∀ (c f a : Nat) (x : Int64) (P : Nat → Bool), fb_ct P n = c → c < f → ST x n P → (∀ x, κ (nI (a + c)) x = r) → f_L_bits_L4 k κ f (nI a) x = r := by
  intro c
  induction c with
  | zero =>
    intro f a x P hc hf hx hκ
    obtain ⟨f, rfl⟩ : ∃ g, f = g + 1 := ⟨f - 1, by omega⟩
    have h0 : x = 0 := by
      refine bs_ext fun i hi => ?_
      rw [hx i hi, bs_0]
      by_cases c : i < n
      · rw [fb_ct_zero.mp hc i c]; exact Bool.and_false _
      · rw [decide_eq_false c]; rfl
    rw [f_L_bits_L4_s, if_pos ((cmp_0 _ _).mpr h0)]
    exact hκ x
  | succ c ih =>
    intro f a x P hc hf hx hκ
    obtain ⟨f, rfl⟩ : ∃ g, f = g + 1 := ⟨f - 1, by omega⟩
    have hne : ¬ x = 0 := by
      intro q
      obtain ⟨i, hi, hp⟩ := fb_ct_pos.mp (show 0 < fb_ct P n by omega)
      have := hx i (by omega)
      rw [q, bs_0, hp, decide_eq_true hi] at this
      cases this
    obtain ⟨i, hi, hp, hx2⟩ := hx.low (by omega) hne
    rw [f_L_bits_L4_s, if_neg (fun q => hne ((cmp_0 _ _).mp q)), nI_1]
    refine ih f (a + 1) _ (fs P i false) ?_ (by omega) hx2 (fun x => ?_)
    · have := fs_ct hi hp; omega
    · rw [show a + 1 + c = a + (c + 1) by omega]; exact hκ x
theorem bits_eq {k n : Nat} {x : Int64} {P : Nat → Bool} (hk : 1000 ≤ k) (hn : n ≤ 40) (hx : ST x n P) : f_L_bits k x = some (nI (fb_ct P n)) := by
  have hle := fb_ct_le P n
  unfold f_L_bits
  exact bits_L4 hn (fb_ct P n) k 0 x P rfl (by omega) hx (fun x => by rw [Nat.zero_add])
theorem shr_bit {x : Int64} {i : Nat} (hi : i < 64) : ((x >>> ((nI i).toInt64 &&& 63)) &&& 1) = if bs x i = true then 1 else 0 := by
  apply bs_ext
  intro j hj
  have e : (x >>> ((nI i).toInt64 &&& 63)).toBitVec.getLsbD 0 = bs x i := by
    rw [wb_c i hi]
    show (x.toBitVec.sshiftRight' ((lN i).toBitVec.smod 64)).getLsbD 0 = bs x i
    rw [wb_tb, wb_sm i hi, BitVec.getLsbD_sshiftRight']
    unfold bs
    rw [BitVec.toNat_ofNat, Nat.mod_eq_of_lt (by omega)]
    simp [hi]
  rw [bs_and]
  rw [show (1 : Int64) = lN (2 ^ 0) from rfl, bs_one (by omega)]
  by_cases c : j = 0
  · subst c
    have e2 : bs (x >>> ((nI i).toInt64 &&& 63)) 0 = bs x i := e
    rw [e2]
    cases bs x i with
    | true => rw [if_pos rfl, bs_one (by omega)]; rfl
    | false => rw [if_neg (by decide), bs_0]; rfl
  · rw [decide_eq_false c, Bool.and_false]
    cases bs x i with
    | true => rw [if_pos rfl, bs_one (by omega), decide_eq_false c]
    | false => rw [if_neg (by decide), bs_0]
section PL
variable {k n : Nat} {ps : Int64} {P : Nat → Bool} {b e w : Nat → Nat} {B E W : Nat → Int32}
theorem overlapping_eq {i : Nat} (hk : 1000 ≤ k) (hg : GD n b e w) (hx : ST ps n P) (hB : AR n B b) (hE : AR n E e) (hi : i < n) (hp : P i = true) : ∃ r, f_X4_overlapping k (nI i) (nI n) ps B E = some (.ok r) ∧ ST r n (fun j => P j && (ovl b e j i && !decide (j = i))) := by
  obtain ⟨r, h1, h2⟩ := othersMeeting_eq (k := k) hk hg hx hB hE hi
  refine ⟨r, ?_, h2⟩
  unfold f_X4_overlapping
  rw [requireThere_ok hg.1 hx hi hp, xe_s, h1, xb_s]
theorem isPlan_eq {x : Int64} {S : Nat → Bool} (hk : 1000 ≤ k) (hg : GD n b e w) (hx : ST ps n P) (hB : AR n B b) (hE : AR n E e) (hS : ST x n S) (hsub : ∀ i, i < n → S i = true → P i = true) (hP : PLN n (ovl b e) S) : f_L_isPlan k x (nI n) ps B E = some 1 := by
  have hn := hg.1
  unfold f_L_isPlan f_X4_present
  rw [xb_s, xj_s]
  have h0 : x &&& (ps ^^^ (-1)) = 0 := by
    refine bs_ext fun i hi => ?_
    rw [bs_and, bs_xor, bs_m1 hi, bs_0, hS i hi, hx i hi]
    by_cases c : i < n
    · cases hs : S i with
      | true => rw [hsub i c hs, decide_eq_true c]; rfl
      | false => rw [Bool.and_false]; rfl
    · rw [decide_eq_false c]; rfl
  rw [if_pos ((cmp_0 _ _).mpr h0)]
  try dsimp only
  refine loopG (fun f (v : Int32 × Int32) => f_L_isPlan_L24 k x (nI n) ps B E (fun (v3_12 : Int32) (v4_13 : Int32) => xq v3_12 (some v3_12)) f v.1 v.2) (some 1) 40 (fun i => (1, nI i)) (fun f i hi => ?_) (fun f => ?_) k (by omega)
  · try dsimp only
    rw [f_L_isPlan_L24_s, if_neg (show ¬ (40 : Int32) ≤ nI i from nI_ge (b := 40) hi (by omega)), if_neg (by decide), shr_bit (by omega), nI_1]
    by_cases c : i < n
    · rw [hS.at c hn]
      cases hs : S i with
      | false => rw [if_neg (show ¬ false = true by decide), if_pos (by rfl)]
      | true =>
        obtain ⟨r, hr1, hr2⟩ := overlapping_eq hk hg hx hB hE c (hsub i c hs)
        have hz : r &&& x = 0 := by
          refine bs_ext fun j hj => ?_
          rw [bs_and, hr2 j hj, hS j hj, bs_0]
          by_cases d : j < n
          · cases hsj : S j with
            | false => rw [Bool.and_false, Bool.and_false]
            | true =>
              dsimp only
              by_cases q : j = i
              · rw [decide_eq_true q]; simp
              · rw [hP j i d c hsj hs q]; simp
          · rw [decide_eq_false d]; rfl
        rw [if_pos rfl, if_neg (by decide), hr1, xo_s, if_pos ((cmp_0 _ _).mpr hz)]
    · have : bs x i = false := by rw [hS i (by omega), decide_eq_false c]; rfl
      rw [this, if_neg (show ¬ false = true by decide), if_pos (by rfl)]
  · try dsimp only
    rw [f_L_isPlan_L24_s, if_pos (by decide)]
    rfl
end PL
