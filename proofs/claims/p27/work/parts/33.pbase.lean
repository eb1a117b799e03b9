/-! Pure base: numbers and sets of the pure programs. -/
def bs (x : Int64) (i : Nat) : Bool := x.toBitVec.getLsbD i
theorem bs_ext {x y : Int64} (h : ∀ i, i < 64 → bs x i = bs y i) : x = y := wb_inj (BitVec.eq_of_getLsbD_eq h)
theorem bs_and (x y : Int64) (i : Nat) : bs (x &&& y) i = (bs x i && bs y i) := by
  unfold bs; rw [Int64.toBitVec_and, BitVec.getLsbD_and]
theorem bs_or (x y : Int64) (i : Nat) : bs (x ||| y) i = (bs x i || bs y i) := by
  unfold bs; rw [Int64.toBitVec_or, BitVec.getLsbD_or]
theorem bs_xor (x y : Int64) (i : Nat) : bs (x ^^^ y) i = (bs x i ^^ bs y i) := by
  unfold bs; rw [Int64.toBitVec_xor, BitVec.getLsbD_xor]
theorem bs_big {x : Int64} {i : Nat} (h : 64 ≤ i) : bs x i = false := by
  unfold bs; exact BitVec.getLsbD_of_ge _ _ h
theorem bs_lN (n : Nat) (i : Nat) : bs (lN n) i = (decide (i < 64) && n.testBit i) := by
  unfold bs; rw [wb_tb, BitVec.getLsbD_ofNat]
theorem bs_one {i j : Nat} (hi : i < 64) : bs (lN (2 ^ i)) j = decide (j = i) := by
  rw [bs_lN, Nat.testBit_two_pow]
  by_cases h : j = i
  · subst h; simp [hi]
  · simp [h, Ne.symm h]
theorem bs_0 (i : Nat) : bs 0 i = false := by
  rw [show (0 : Int64) = lN 0 from rfl, bs_lN]; simp
theorem bs_m1 {i : Nat} (hi : i < 64) : bs (-1) i = true := by
  unfold bs
  rw [show ((-1 : Int64)).toBitVec = BitVec.allOnes 64 from rfl, BitVec.getLsbD_allOnes]
  simp [hi]
theorem bs_andone {x : Int64} {i : Nat} (hi : i < 64) : x &&& lN (2 ^ i) = 0 ↔ bs x i = false := by
  constructor
  · intro h
    have h1 : bs (x &&& lN (2 ^ i)) i = false := by rw [h, bs_0]
    rw [bs_and, bs_one hi] at h1
    simpa using h1
  · intro h
    refine bs_ext fun j _ => ?_
    rw [bs_and, bs_one hi, bs_0]
    by_cases hj : j = i
    · subst hj; simp [h]
    · simp [hj]
theorem cmp_0 (x y : Int64) : lg_cmp x y = 0 ↔ x = y := by
  unfold lg_cmp
  constructor
  · intro h
    split at h
    · exact absurd h (by decide)
    · split at h
      · assumption
      · exact absurd h (by decide)
  · intro h
    subst h
    rw [if_neg (by rw [gt_iff_lt, fa_lt64]; omega), if_pos rfl]
theorem ite01 {c : Prop} [Decidable c] : ((if c then (1 : Int32) else 0) = 0) ↔ ¬ c := by
  split <;> simp_all
theorem ite01n {c : Prop} [Decidable c] : ((if c then (0 : Int32) else 1) = 0) ↔ c := by
  split <;> simp_all
theorem xi_nI {α : Type} {i n : Nat} {x : Option α} (h : i < n) (hn : n < 2 ^ 31) : xi (nI i) n x = x := xi_in (vp_in_nI h hn)
theorem xb_s {α β : Type} {a : α} {f : α → Option β} : xb (some a) f = f a := rfl
theorem xe_s {α β : Type} {a : α} {f : α → Option (Except String β)} : xe (some (.ok a)) f = f a := rfl
theorem xe_e {α β : Type} {e : String} {f : α → Option (Except String β)} : xe (some (.error e)) f = some (.error e) := rfl
theorem xt_s {α β : Type} {a : α} {h : String → Option β} {f : α → Option β} : xt (some (.ok a)) h f = f a := rfl
theorem xt_e {α β : Type} {e : String} {h : String → Option β} {f : α → Option β} : xt (some (.error e)) h f = h e := rfl
theorem xj_s {α β : Type} {a : α} {f : α → β} : xj a f = f a := rfl
theorem only_eq (k : Nat) {i : Nat} (hi : i < 64) : f_X4_only k (nI i) = some (lN (2 ^ i)) := by
  unfold f_X4_only
  have h := wb_shl 1 hi
  rw [Nat.one_mul] at h
  exact congrArg some h
theorem contains_eq (k : Nat) {x : Int64} {i : Nat} (hi : i < 64) : f_X4_contains k x (nI i) = some (if bs x i = true then 1 else 0) := by
  unfold f_X4_contains
  rw [only_eq k hi, xb_s]
  by_cases h : bs x i = true
  · rw [if_neg (by rw [cmp_0, bs_andone hi, h]; simp), if_pos h]
  · rw [if_pos (by rw [cmp_0, bs_andone hi]; simpa using h), if_neg h]
