/-! Long.bitCount: bytes. -/
def q55 : Nat → Nat
  | 0 => 0
  | m + 1 => 256 * q55 m + 85
def q33 : Nat → Nat
  | 0 => 0
  | m + 1 => 256 * q33 m + 51
def q0F : Nat → Nat
  | 0 => 0
  | m + 1 => 256 * q0F m + 15
theorem land_step (q r q' r' : Nat) (hr : r < 256) (hr' : r' < 256) : (256 * q + r) &&& (256 * q' + r') = 256 * (q &&& q') + (r &&& r') := by
  refine Nat.eq_of_testBit_eq fun j => ?_
  have h1 : r &&& r' < 2 ^ 8 := Nat.and_lt_two_pow _ hr'
  rw [Nat.testBit_and, show 256 = 2 ^ 8 from rfl, Nat.testBit_two_pow_mul_add _ hr, Nat.testBit_two_pow_mul_add _ hr', Nat.testBit_two_pow_mul_add _ h1]
  by_cases h : j < 8
  · simp [h]
  · simp [h]
def qf1 (m x : Nat) : Nat := x - ((x / 2) &&& q55 m)
def qf2 (m y : Nat) : Nat := (y &&& q33 m) + ((y / 4) &&& q33 m)
def qf3 (m z : Nat) : Nat := (z + z / 16) &&& q0F m
def qg1 (r : Nat) : Nat := r - ((r / 2) &&& 85)
def qg2 (r : Nat) : Nat := (r &&& 51) + ((r / 4) &&& 51)
def qpc (r : Nat) : Nat := (qg2 (qg1 r) + qg2 (qg1 r) / 16) &&& 15
theorem q_d1 : ∀ a : Fin 2, ∀ r : Fin 256, (128 * a.val + r.val / 2) &&& 85 = (r.val / 2) &&& 85 := by decide +kernel
theorem q_d2 : ∀ a : Fin 4, ∀ r : Fin 256, (64 * a.val + r.val / 4) &&& 51 = (r.val / 4) &&& 51 := by decide +kernel
theorem q_d3 : ∀ a : Fin 5, ∀ r : Fin 256, (qg2 (qg1 r.val) + (16 * a.val + qg2 (qg1 r.val) / 16) < 256 ∧ (qg2 (qg1 r.val) + (16 * a.val + qg2 (qg1 r.val) / 16)) &&& 15 = qpc r.val) := by decide +kernel
theorem q_d4 : ∀ r : Fin 256, qg2 (qg1 r.val) % 16 < 5 ∧ qg2 (qg1 r.val) < 256 ∧ qg1 r.val < 256 ∧ (r.val / 2) &&& 85 ≤ r.val := by decide +kernel
theorem q_pc : ∀ r : Fin 256, qpc r.val = fb_ct (fun i => r.val.testBit i) 8 := by decide +kernel
theorem qf1_s (m q r : Nat) (hr : r < 256) : qf1 (m + 1) (256 * q + r) = 256 * qf1 m q + qg1 r := by
  have h1 : (256 * q + r) / 2 = 256 * (q / 2) + (128 * (q % 2) + r / 2) := by omega
  have h2 : (128 * (q % 2) + r / 2) &&& 85 = (r / 2) &&& 85 := q_d1 ⟨q % 2, by omega⟩ ⟨r, hr⟩
  have h3 : (q / 2) &&& q55 m ≤ q := Nat.le_trans Nat.and_le_left (by omega)
  have h4 := (q_d4 ⟨r, hr⟩).2.2.2
  dsimp only at h4
  unfold qf1 qg1
  rw [h1, q55, land_step _ _ _ _ (by omega) (by omega), h2]
  omega
theorem qf2_s (m q r : Nat) (hr : r < 256) : qf2 (m + 1) (256 * q + r) = 256 * qf2 m q + qg2 r := by
  have h1 : (256 * q + r) / 4 = 256 * (q / 4) + (64 * (q % 4) + r / 4) := by omega
  have h2 : (64 * (q % 4) + r / 4) &&& 51 = (r / 4) &&& 51 := q_d2 ⟨q % 4, by omega⟩ ⟨r, hr⟩
  unfold qf2 qg2
  rw [h1, q33, land_step _ _ _ _ (by omega) (by omega), land_step _ _ _ _ (by omega) (by omega), h2]
  omega
theorem qf12_low : ∀ (m q : Nat), q < 256 ^ m → qf2 m (qf1 m q) % 16 < 5
  | 0, q, h => by
    have : q = 0 := by simp at h; exact h
    subst this
    decide
  | m + 1, q, h => by
    have e : q = 256 * (q / 256) + q % 256 := by omega
    have h4 := q_d4 ⟨q % 256, by omega⟩
    dsimp only at h4
    rw [e, qf1_s _ _ _ (by omega), qf2_s _ _ _ h4.2.2.1]
    omega
def qF (m x : Nat) : Nat := qf3 m (qf2 m (qf1 m x))
theorem qF_s (m q r : Nat) (hr : r < 256) (hq : q < 256 ^ m) : qF (m + 1) (256 * q + r) = 256 * qF m q + qpc r := by
  have h4 := q_d4 ⟨r, hr⟩
  have hl := qf12_low m q hq
  dsimp only at h4
  unfold qF
  rw [qf1_s _ _ _ hr, qf2_s _ _ _ h4.2.2.1]
  obtain ⟨Q, hQ⟩ : ∃ Q, Q = qf2 m (qf1 m q) := ⟨_, rfl⟩
  rw [← hQ] at hl ⊢
  have h5 := q_d3 ⟨Q % 16, hl⟩ ⟨r, hr⟩
  dsimp only at h5
  obtain ⟨R, hR⟩ : ∃ R, R = qg2 (qg1 r) := ⟨_, rfl⟩
  rw [← hR] at h4 h5 ⊢
  unfold qf3
  have h1 : (256 * Q + R) + (256 * Q + R) / 16 = 256 * (Q + Q / 16) + (R + (16 * (Q % 16) + R / 16)) := by omega
  rw [h1, q0F, land_step _ _ _ _ h5.1 (by omega), h5.2]
theorem qF_ct (q r m : Nat) (hr : r < 256) : fb_ct (fun i => (256 * q + r).testBit i) (8 + m) = qpc r + fb_ct (fun i => q.testBit i) m := by
  rw [fb_ct_split, q_pc ⟨r, hr⟩]
  congr 1
  · refine fb_ct_cong fun i hi => ?_
    show (256 * q + r).testBit i = r.testBit i
    rw [show 256 = 2 ^ 8 from rfl, Nat.testBit_two_pow_mul_add _ hr, if_pos hi]
  · refine fb_ct_cong fun i hi => ?_
    show (256 * q + r).testBit (8 + i) = q.testBit i
    rw [show 256 = 2 ^ 8 from rfl, Nat.testBit_two_pow_mul_add _ hr, if_neg (by omega), Nat.add_sub_cancel_left]
theorem q_le (r : Nat) (hr : r < 256) : qpc r ≤ 8 := by
  rw [q_pc ⟨r, hr⟩]
  exact fb_ct_le _ _
theorem q_arith {D0 D1 D2 D3 D4 D5 D6 D7 c0 c1 c2 c3 c4 c5 c6 c7 y z : Nat} (e0 : D0 = 256 * D1 + c0) (e1 : D1 = 256 * D2 + c1) (e2 : D2 = 256 * D3 + c2) (e3 : D3 = 256 * D4 + c3) (e4 : D4 = 256 * D5 + c4) (e5 : D5 = 256 * D6 + c5) (e6 : D6 = 256 * D7 + c6) (e7 : D7 = c7)
    (l0 : c0 ≤ 8) (l1 : c1 ≤ 8) (l2 : c2 ≤ 8) (l3 : c3 ≤ 8) (l4 : c4 ≤ 8) (l5 : c5 ≤ 8) (l6 : c6 ≤ 8) (l7 : c7 ≤ 8) (hy : y = D0 + D0 / 256) (hz : z = y + y / 65536) : (z + z / 4294967296) % 128 = c0 + (c1 + (c2 + (c3 + (c4 + (c5 + (c6 + c7)))))) := by
  have h1 : D0 / 256 = D1 := by clear hy hz e1 e2 e3 e4 e5 e6 e7; omega
  rw [h1] at hy
  have h2 : y / 65536 = D2 + D3 := by clear hz e4 e5 e6 e7 h1; omega
  rw [h2] at hz
  have h3 : z / 4294967296 = D4 + D5 + D6 + D7 := by clear h1 h2; omega
  rw [h3, hz, hy]
  clear h1 h2 h3 hz hy
  omega
theorem qF_0 (x : Nat) : qF 0 x = 0 := Nat.and_zero _
theorem qF_step (m x : Nat) (hx : x < 256 ^ (m + 1)) : ∃ c, c ≤ 8 ∧ qF (m + 1) x = 256 * qF m (x / 256) + c ∧ x / 256 < 256 ^ m ∧ fb_ct (fun i => x.testBit i) (8 + 8 * m) = c + fb_ct (fun i => (x / 256).testBit i) (8 * m) := by
  have e : x = 256 * (x / 256) + x % 256 := by omega
  have h1 : x / 256 < 256 ^ m := by rw [Nat.pow_succ] at hx; exact Nat.div_lt_of_lt_mul (by rw [Nat.mul_comm]; exact hx)
  refine ⟨qpc (x % 256), q_le _ (by omega), ?_, h1, ?_⟩
  · have := qF_s m (x / 256) (x % 256) (by omega) h1
    rw [← e] at this; exact this
  · have := qF_ct (x / 256) (x % 256) (8 * m) (by omega)
    rw [← e] at this; exact this
/-- the bytes of F are the counts of the bytes, and their sum is the count -/
theorem qF_sum (x D y z : Nat) (hx : x < 256 ^ 8) (hD : D = qF 8 x) (hy : y = D + D / 256) (hz : z = y + y / 65536) : (z + z / 4294967296) % 128 = fb_ct (fun i => x.testBit i) 64 := by
  obtain ⟨c0, l0, e0, b0, s0⟩ := qF_step 7 x hx
  obtain ⟨c1, l1, e1, b1, s1⟩ := qF_step 6 _ b0
  obtain ⟨c2, l2, e2, b2, s2⟩ := qF_step 5 _ b1
  obtain ⟨c3, l3, e3, b3, s3⟩ := qF_step 4 _ b2
  obtain ⟨c4, l4, e4, b4, s4⟩ := qF_step 3 _ b3
  obtain ⟨c5, l5, e5, b5, s5⟩ := qF_step 2 _ b4
  obtain ⟨c6, l6, e6, b6, s6⟩ := qF_step 1 _ b5
  obtain ⟨c7, l7, e7, b7, s7⟩ := qF_step 0 _ b6
  have e7 : qF 1 (x / 256 / 256 / 256 / 256 / 256 / 256 / 256) = c7 := by
    rw [e7, qF_0]; omega
  have s7' : fb_ct (fun i => (x / 256 / 256 / 256 / 256 / 256 / 256 / 256).testBit i) 8 = c7 := s7
  have s6' := s6.trans (congrArg (fun q => c6 + q) s7')
  have s5' := s5.trans (congrArg (fun q => c5 + q) s6')
  have s4' := s4.trans (congrArg (fun q => c4 + q) s5')
  have s3' := s3.trans (congrArg (fun q => c3 + q) s4')
  have s2' := s2.trans (congrArg (fun q => c2 + q) s3')
  have s1' := s1.trans (congrArg (fun q => c1 + q) s2')
  have s0' := s0.trans (congrArg (fun q => c0 + q) s1')
  refine (q_arith (hD.trans e0) e1 e2 e3 e4 e5 e6 e7 l0 l1 l2 l3 l4 l5 l6 l7 hy hz).trans ?_
  exact s0'.symm
theorem uN_and (x y : Int64) : uN (x &&& y) = uN x &&& uN y := by
  show (x &&& y).toBitVec.toNat = _
  rw [Int64.toBitVec_and, BitVec.toNat_and]; rfl
theorem uN_sub {x y : Int64} (h : uN y ≤ uN x) : uN (x - y) = uN x - uN y := by
  show (x - y).toBitVec.toNat = _
  rw [Int64.toBitVec_sub]
  exact BitVec.toNat_sub_of_le h
theorem uN_lN (x : Int64) : lN (uN x) = x := by
  apply wb_inj
  rw [wb_tb]
  exact BitVec.ofNat_toNat _ _ |>.trans (BitVec.setWidth_eq _)
theorem uN_sh (x : Int64) {k : Nat} (hk : k < 64) (c : Int32) (hc : c = nI k) : uN (x.toUInt64 >>> (c.toInt64.toUInt64 &&& Int64.toUInt64 63)).toInt64 = uN x / 2 ^ k := by
  subst hc; exact uN_sk x hk
theorem qf1_le (m x : Nat) : (x / 2) &&& q55 m ≤ x := Nat.le_trans Nat.and_le_left (Nat.div_le_self _ _)
theorem qb_lt : ∀ m, q55 m < 256 ^ m ∧ q33 m < 256 ^ m ∧ q0F m < 256 ^ m
  | 0 => by decide
  | m + 1 => by
    have h := qb_lt m
    rw [q55, q33, q0F, Nat.pow_succ]
    omega
theorem bitCount_eq (k : Nat) (x : Int64) : f_J13_bitCount_95d88 k x = some (nI (fb_ct (bs x) 64)) := by
  unfold f_J13_bitCount_95d88
  obtain ⟨y1, hy1⟩ : ∃ y, y = x - (((x : Int64).toUInt64 >>> ((1 : Int32).toInt64.toUInt64 &&& Int64.toUInt64 63)).toInt64 &&& 6148914691236517205) := ⟨_, rfl⟩
  simp only [← hy1]
  obtain ⟨y2, hy2⟩ : ∃ y, y = (y1 &&& 3689348814741910323) + (((y1 : Int64).toUInt64 >>> ((2 : Int32).toInt64.toUInt64 &&& Int64.toUInt64 63)).toInt64 &&& 3689348814741910323) := ⟨_, rfl⟩
  simp only [← hy2]
  obtain ⟨y3, hy3⟩ : ∃ y, y = (y2 + ((y2 : Int64).toUInt64 >>> ((4 : Int32).toInt64.toUInt64 &&& Int64.toUInt64 63)).toInt64) &&& 1085102592571150095 := ⟨_, rfl⟩
  simp only [← hy3]
  obtain ⟨y4, hy4⟩ : ∃ y, y = y3 + ((y3 : Int64).toUInt64 >>> ((8 : Int32).toInt64.toUInt64 &&& Int64.toUInt64 63)).toInt64 := ⟨_, rfl⟩
  simp only [← hy4]
  obtain ⟨y5, hy5⟩ : ∃ y, y = y4 + ((y4 : Int64).toUInt64 >>> ((16 : Int32).toInt64.toUInt64 &&& Int64.toUInt64 63)).toInt64 := ⟨_, rfl⟩
  simp only [← hy5]
  obtain ⟨y6, hy6⟩ : ∃ y, y = y5 + ((y5 : Int64).toUInt64 >>> ((32 : Int32).toInt64.toUInt64 &&& Int64.toUInt64 63)).toInt64 := ⟨_, rfl⟩
  simp only [← hy6]
  have hx := uN_lt x
  have e1 : uN y1 = qf1 8 (uN x) := by
    have h2 : uN ((x : Int64).toUInt64 >>> ((1 : Int32).toInt64.toUInt64 &&& Int64.toUInt64 63)).toInt64 = uN x / 2 := uN_sh x (k := 1) (by omega) 1 rfl
    have h1 : uN ((((x : Int64).toUInt64 >>> ((1 : Int32).toInt64.toUInt64 &&& Int64.toUInt64 63)).toInt64) &&& 6148914691236517205) = (uN x / 2) &&& q55 8 := by
      rw [uN_and, h2]; rfl
    rw [hy1, uN_sub (by rw [h1]; exact qf1_le 8 _), h1]; rfl
  have l33 : q33 8 = 3689348814741910323 := rfl
  have e2 : uN y2 = qf2 8 (uN y1) := by
    have h2 : uN ((y1 : Int64).toUInt64 >>> ((2 : Int32).toInt64.toUInt64 &&& Int64.toUInt64 63)).toInt64 = uN y1 / 4 := uN_sh y1 (k := 2) (by omega) 2 rfl
    rw [hy2, uN_add, uN_and, uN_and, h2, show uN 3689348814741910323 = q33 8 from rfl]
    have a1 : uN y1 &&& q33 8 ≤ 3689348814741910323 := by rw [← l33]; exact Nat.and_le_right
    have a2 : (uN y1 / 4) &&& q33 8 ≤ 3689348814741910323 := by rw [← l33]; exact Nat.and_le_right
    unfold qf2
    exact Nat.mod_eq_of_lt (by omega)
  have b2 : uN y2 ≤ 7378697629483820646 := by
    rw [e2]; unfold qf2
    have a1 : uN y1 &&& q33 8 ≤ 3689348814741910323 := by rw [← l33]; exact Nat.and_le_right
    have a2 : (uN y1 / 4) &&& q33 8 ≤ 3689348814741910323 := by rw [← l33]; exact Nat.and_le_right
    omega
  have e3 : uN y3 = qf3 8 (uN y2) := by
    have h2 : uN ((y2 : Int64).toUInt64 >>> ((4 : Int32).toInt64.toUInt64 &&& Int64.toUInt64 63)).toInt64 = uN y2 / 16 := uN_sh y2 (k := 4) (by omega) 4 rfl
    rw [hy3, uN_and, uN_add, h2, Nat.mod_eq_of_lt (by omega)]; rfl
  have b3 : uN y3 ≤ 1085102592571150095 := by
    rw [hy3, uN_and]; exact Nat.and_le_right
  have e4 : uN y4 = uN y3 + uN y3 / 256 := by
    rw [hy4, uN_add, uN_sh y3 (k := 8) (by omega) 8 rfl, Nat.mod_eq_of_lt (by omega)]
  have e5 : uN y5 = uN y4 + uN y4 / 65536 := by
    rw [hy5, uN_add, uN_sh y4 (k := 16) (by omega) 16 rfl, Nat.mod_eq_of_lt (by omega)]
  have e6 : uN y6 = uN y5 + uN y5 / 4294967296 := by
    rw [hy6, uN_add, uN_sh y5 (k := 32) (by omega) 32 rfl, Nat.mod_eq_of_lt (by omega)]
  have hF : uN y3 = qF 8 (uN x) := by rw [e3, e2, e1]; rfl
  have hs := qF_sum (uN x) (uN y3) (uN y4) (uN y5) hx hF e4 e5
  rw [← e6] at hs
  have hb : fb_ct (bs x) 64 = fb_ct (fun i => (uN x).testBit i) 64 := fb_ct_cong fun i hi => rfl
  rw [hb, ← hs]
  have h7 : y6.toInt32 &&& 127 = nI (uN y6 % 128) := by
    conv => lhs; rw [← uN_lN y6]
    rw [lN_i]
    exact fa_mask (uN y6) 7
  exact congrArg some h7
