/-! The sorted row: put, fill. -/
def RW (m : Nat) (σ nb ne nw : Nat → Nat) (N Bg En Wt : Nat → Int32) : Prop := ∀ p, p < m → N p = nI (σ p) ∧ Bg p = nI (nb (σ p)) ∧ En p = nI (ne (σ p)) ∧ Wt p = nI (nw (σ p))
def SRT (m : Nat) (σ key : Nat → Nat) : Prop := ∀ p q, p < q → q < m → key (σ p) < key (σ q) ∨ (key (σ p) = key (σ q) ∧ σ p < σ q)
def ROWS (n : Nat) (S : Nat → Bool) (key : Nat → Nat) (m : Nat) (σ : Nat → Nat) : Prop := SRT m σ key ∧ (∀ p, p < m → σ p < n ∧ S (σ p) = true) ∧ (∀ j, j < n → S j = true → ∃ p, p < m ∧ σ p = j) ∧ m ≤ n
def shF (A : Nat → Int32) (q m : Nat) : Nat → Int32 := fun p => if q < p ∧ p ≤ m then A (p - 1) else A p
theorem shF_top (A : Nat → Int32) (m : Nat) : shF A m m = A := by
  funext p; unfold shF; rw [if_neg (by omega)]
theorem shF_step (A : Nat → Int32) {q m : Nat} (hq : q + 1 ≤ m) : upd (shF A (q + 1) m) (q + 1) (shF A (q + 1) m q) = shF A q m := by
  funext p
  unfold upd shF
  by_cases h : p = q + 1
  · subst h; rw [if_pos rfl, if_neg (by omega), if_pos (by omega)]; rfl
  · rw [if_neg h]
    by_cases h2 : q + 1 < p ∧ p ≤ m
    · rw [if_pos h2, if_pos (by omega)]
    · rw [if_neg h2, if_neg (by omega)]
def insF (σ : Nat → Nat) (q j : Nat) : Nat → Nat := fun p => if p < q then σ p else if p = q then j else σ (p - 1)
theorem shF_low (A : Nat → Int32) {q m p : Nat} (h : p ≤ q) : shF A q m p = A p := if_neg (by omega)
theorem insF_arr {A : Nat → Int32} {σ g : Nat → Nat} {q m j : Nat} (h : ∀ p, p < m → A p = nI (g (σ p))) (hq : q ≤ m) : ∀ p, p < m + 1 → upd (shF A q m) q (nI (g j)) p = nI (g (insF σ q j p)) := by
  intro p hp
  unfold upd shF insF
  by_cases h1 : p = q
  · rw [if_pos h1, if_neg (by omega), if_pos h1]
  · rw [if_neg h1]
    by_cases h2 : p < q
    · rw [if_neg (by omega), if_pos h2]; exact h p (by omega)
    · rw [if_pos (by omega), if_neg h2, if_neg h1]; exact h (p - 1) (by omega)
theorem comes_eq {k m q j : Nat} {byE : Bool} {σ nb ne nw : Nat → Nat} {N Bg En Wt : Nat → Int32} {Bg' En' : Nat → Int32} (hr : RW m σ nb ne nw N Bg En Wt) (hq : q < m) (hm : m ≤ 40) (hb : ∀ i, nb i < 2 ^ 31 ∧ ne i < 2 ^ 31) (h1 : Bg' q = Bg q) (h2 : En' q = En q) :
    f_X3_comesBehind k (nI q) (nI (nb j)) (nI (ne j)) (if byE = true then 1 else 0) Bg' En' = some (if (if byE = true then ne j else nb j) < (if byE = true then ne (σ q) else nb (σ q)) then 1 else 0) := by
  obtain ⟨r1, r2, r3, r4⟩ := hr q hq
  unfold f_X3_comesBehind
  cases byE with
  | true =>
    rw [if_neg (by decide), xi_nI (by omega) (by omega), nI_clamp (by omega), h2, r3]
    show (if nI (ne (σ q)) ≤ nI (ne j) then some (0 : Int32) else some 1) = some (if ne j < ne (σ q) then 1 else 0)
    by_cases c : ne (σ q) ≤ ne j
    · rw [if_pos (nI_le c (hb _).2), if_neg (by omega)]
    · rw [if_neg (nI_ge (Nat.not_le.mp c) (hb _).2), if_pos (by omega)]
  | false =>
    rw [if_pos (by decide), xi_nI (by omega) (by omega), nI_clamp (by omega), h1, r2]
    show (if nI (nb (σ q)) ≤ nI (nb j) then some (0 : Int32) else some 1) = some (if nb j < nb (σ q) then 1 else 0)
    by_cases c : nb (σ q) ≤ nb j
    · rw [if_pos (nI_le c (hb _).1), if_neg (by omega)]
    · rw [if_neg (nI_ge (Nat.not_le.mp c) (hb _).1), if_pos (by omega)]
theorem shift_eq {k q : Nat} {N Bg En Wt : Nat → Int32} (hq : q < 39) : f_X3_shiftUp k (nI q) N Bg En Wt = some (upd N (q + 1) (N q), upd Bg (q + 1) (Bg q), upd En (q + 1) (En q), upd Wt (q + 1) (Wt q)) := by
  unfold f_X3_shiftUp
  rw [nI_1]
  simp (disch := omega) only [xi_nI, nI_clamp]
theorem put_eq {k m j : Nat} {byE : Bool} {σ nb ne nw : Nat → Nat} {N Bg En Wt : Nat → Int32} (hk : 10000 ≤ k) (hr : RW m σ nb ne nw N Bg En Wt) (hm : m < 40) (hb : ∀ i, nb i < 2 ^ 31 ∧ ne i < 2 ^ 31) :
    ∃ q N' Bg' En' Wt', q ≤ m ∧ (∀ p, q ≤ p → p < m → (if byE = true then ne j else nb j) < (if byE = true then ne (σ p) else nb (σ p))) ∧ (q = 0 ∨ (if byE = true then ne (σ (q - 1)) else nb (σ (q - 1))) ≤ (if byE = true then ne j else nb j)) ∧ RW (m + 1) (insF σ q j) nb ne nw N' Bg' En' Wt' ∧
      f_X3_put k (nI j) (nI (nb j)) (nI (ne j)) (nI (nw j)) (if byE = true then 1 else 0) (nI m) N Bg En Wt = some (nI (m + 1), N', Bg', En', Wt') := by
  have key := loopE (fun f (s : Int32 × (Nat → Int32) × (Nat → Int32) × (Nat → Int32) × (Nat → Int32)) => f_X3_put_L16 k (nI j) (nI (nb j)) (nI (ne j)) (nI (nw j)) (if byE = true then 1 else 0) (fun (v5_11 : Int32) (A_numbers_12 : Nat → Int32) (A_begins_13 : Nat → Int32) (A_ends_14 : Nat → Int32) (A_weights_15 : Nat → Int32) => xi v5_11 40 (xi v5_11 40 (xi v5_11 40 (xi v5_11 40 (some (nI m + 1, upd A_numbers_12 v5_11.toNatClampNeg (nI j), upd A_begins_13 v5_11.toNatClampNeg (nI (nb j)), upd A_ends_14 v5_11.toNatClampNeg (nI (ne j)), upd A_weights_15 v5_11.toNatClampNeg (nI (nw j)))))))) f s.1 s.2.1 s.2.2.1 s.2.2.2.1 s.2.2.2.2)
    (fun res => ∃ q, q ≤ m ∧ (∀ p, q ≤ p → p < m → (if byE = true then ne j else nb j) < (if byE = true then ne (σ p) else nb (σ p))) ∧ (q = 0 ∨ (if byE = true then ne (σ (q - 1)) else nb (σ (q - 1))) ≤ (if byE = true then ne j else nb j)) ∧ res = some (nI (m + 1), upd (shF N q m) q (nI j), upd (shF Bg q m) q (nI (nb j)), upd (shF En q m) q (nI (ne j)), upd (shF Wt q m) q (nI (nw j)))) m
    (fun i s => s = (nI (m - i), shF N (m - i) m, shF Bg (m - i) m, shF En (m - i) m, shF Wt (m - i) m) ∧ ∀ p, m - i ≤ p → p < m → (if byE = true then ne j else nb j) < (if byE = true then ne (σ p) else nb (σ p)))
    ?_ ?_ k (nI m, N, Bg, En, Wt) (by omega) ⟨by simp only [Nat.sub_zero, shF_top], fun p h1 h2 => by omega⟩
  · obtain ⟨q, hq, h1, h2, h3⟩ := key
    refine ⟨q, upd (shF N q m) q (nI j), upd (shF Bg q m) q (nI (nb j)), upd (shF En q m) q (nI (ne j)), upd (shF Wt q m) q (nI (nw j)), hq, h1, h2, ?_, ?_⟩
    · exact fun p hp => ⟨insF_arr (g := fun x => x) (fun p h => (hr p h).1) hq p hp, insF_arr (fun p h => (hr p h).2.1) hq p hp, insF_arr (fun p h => (hr p h).2.2.1) hq p hp, insF_arr (fun p h => (hr p h).2.2.2) hq p hp⟩
    · unfold f_X3_put
      rw [if_pos (show nI m < 40 from nI_lt (b := 40) hm (by omega))]
      exact h3
  · rintro f i s hi ⟨rfl, hI⟩
    obtain ⟨q, hq⟩ : ∃ q, m - i = q + 1 := ⟨m - i - 1, by omega⟩
    have hq2 : m - (i + 1) = q := by omega
    rw [hq] at hI ⊢
    dsimp only
    rw [f_X3_put_L16_s, if_neg (nI_nle (by omega) (by omega)), nI_pred, comes_eq hr (show q < m by omega) (by omega) hb (shF_low Bg (by omega)) (shF_low En (by omega)), xb_s]
    by_cases c : (if byE = true then ne j else nb j) < (if byE = true then ne (σ q) else nb (σ q))
    · rw [if_pos c, if_neg (show ¬ (1 : Int32) = 0 by decide), shift_eq (by omega), xb_s]
      dsimp only
      rw [shF_step N (by omega), shF_step Bg (by omega), shF_step En (by omega), shF_step Wt (by omega), pk_m1]
      refine Or.inl ⟨(nI q, shF N q m, shF Bg q m, shF En q m, shF Wt q m), ⟨by rw [hq2], fun p h1 h2 => ?_⟩, rfl⟩
      rcases Nat.lt_or_ge q p with h3 | h3
      · exact hI p (by omega) h2
      · have : p = q := by omega
        rw [this]; exact c
    · rw [if_neg c, if_pos rfl]
      refine Or.inr ⟨q + 1, by omega, hI, Or.inr (by rw [Nat.add_sub_cancel]; omega), ?_⟩
      simp (disch := omega) only [xi_nI, nI_clamp, nI_1]
  · rintro f s ⟨rfl, hI⟩
    rw [Nat.sub_self] at hI ⊢
    dsimp only
    rw [f_X3_put_L16_s, if_pos (show nI 0 ≤ (0 : Int32) by decide)]
    refine ⟨0, Nat.zero_le _, fun p h1 h2 => hI p h1 h2, Or.inl rfl, ?_⟩
    simp (disch := omega) only [xi_nI, nI_clamp, nI_1]
/-- .. keeps a sorted row sorted, when the number is above all that are in it -/
theorem SRT.ins {m j q : Nat} {σ key : Nat → Nat} (h : SRT m σ key) (hj : ∀ p, p < m → σ p < j) (hq : q ≤ m) (h1 : ∀ p, q ≤ p → p < m → key j < key (σ p)) (h2 : q = 0 ∨ key (σ (q - 1)) ≤ key j) : SRT (m + 1) (insF σ q j) key := by
  have h3 : ∀ p, p < q → key (σ p) ≤ key j := by
    intro p hp
    rcases h2 with h2 | h2
    · omega
    · rcases Nat.lt_or_ge p (q - 1) with h4 | h4
      · have := h p (q - 1) h4 (by omega); omega
      · have : p = q - 1 := by omega
        rw [this]; exact h2
  intro a c hac hc
  unfold insF
  by_cases a1 : a < q
  · rw [if_pos a1]
    by_cases c1 : c < q
    · rw [if_pos c1]; exact h a c hac (by omega)
    · rw [if_neg c1]
      by_cases c2 : c = q
      · rw [if_pos c2]
        have := h3 a a1
        have := hj a (by omega)
        omega
      · rw [if_neg c2]; exact h a (c - 1) (by omega) (by omega)
  · rw [if_neg a1]
    by_cases a2 : a = q
    · rw [if_pos a2, if_neg (by omega), if_neg (by omega)]
      exact Or.inl (h1 (c - 1) (by omega) (by omega))
    · rw [if_neg a2, if_neg (by omega), if_neg (by omega)]
      exact h (a - 1) (c - 1) (by omega) (by omega)
theorem ROWS.ins {i m q : Nat} {S : Nat → Bool} {σ key : Nat → Nat} (h : ROWS i S key m σ) (hs : S i = true) (hq : q ≤ m) (h1 : ∀ p, q ≤ p → p < m → key i < key (σ p)) (h2 : q = 0 ∨ key (σ (q - 1)) ≤ key i) : ROWS (i + 1) S key (m + 1) (insF σ q i) := by
  obtain ⟨a1, a2, a3, a4⟩ := h
  refine ⟨a1.ins (fun p hp => (a2 p hp).1) hq h1 h2, fun p hp => ?_, fun j hj hsj => ?_, by omega⟩
  · unfold insF
    by_cases c1 : p < q
    · rw [if_pos c1]; have := a2 p (by omega); exact ⟨by omega, this.2⟩
    · rw [if_neg c1]
      by_cases c2 : p = q
      · rw [if_pos c2]; exact ⟨by omega, hs⟩
      · rw [if_neg c2]; have := a2 (p - 1) (by omega); exact ⟨by omega, this.2⟩
  · rcases Nat.lt_or_ge j i with h | h
    · obtain ⟨p, hp, he⟩ := a3 j h hsj
      rcases Nat.lt_or_ge p q with c | c
      · exact ⟨p, by omega, by unfold insF; rw [if_pos c]; exact he⟩
      · exact ⟨p + 1, by omega, by unfold insF; rw [if_neg (by omega), if_neg (by omega)]; exact he⟩
    · have : j = i := by omega
      subst this
      exact ⟨q, by omega, by unfold insF; rw [if_neg (by omega), if_pos rfl]⟩
theorem ROWS.skip {i m : Nat} {S : Nat → Bool} {σ key : Nat → Nat} (h : ROWS i S key m σ) (hs : S i = false) : ROWS (i + 1) S key m σ := by
  obtain ⟨a1, a2, a3, a4⟩ := h
  refine ⟨a1, fun p hp => ?_, fun j hj hsj => ?_, by omega⟩
  · have := a2 p hp; exact ⟨by omega, this.2⟩
  · rcases Nat.lt_or_ge j i with h | h
    · exact a3 j h hsj
    · have : j = i := by omega
      subst this
      rw [hs] at hsj; cases hsj
theorem ROWS.zero (S : Nat → Bool) (key σ : Nat → Nat) : ROWS 0 S key 0 σ := ⟨fun p q _ h => absurd h (Nat.not_lt_zero q), fun p h => absurd h (Nat.not_lt_zero p), fun j h => absurd h (Nat.not_lt_zero j), Nat.le_refl _⟩
def kyF (byE : Bool) (nb ne : Nat → Nat) : Nat → Nat := fun i => if byE = true then ne i else nb i
theorem fill_eq {k n : Nat} {x : Int64} {S : Nat → Bool} {byE : Bool} {B E W : Nat → Int32} {b e w : Nat → Nat} {cnt : Int32} {N Bg En Wt : Nat → Int32} (hk : 10000 ≤ k) (hn : n ≤ 40) (hb : ∀ i, b i < 2 ^ 31 ∧ e i < 2 ^ 31) (hx : ST x n S) (hB : AR n B b) (hE : AR n E e) (hW : AR n W w) :
    ∃ m σ N' Bg' En' Wt', ROWS n S (kyF byE b e) m σ ∧ RW m σ b e w N' Bg' En' Wt' ∧ f_X4_fill k x (nI n) B E W (if byE = true then 1 else 0) cnt N Bg En Wt = some (nI m, N', Bg', En', Wt') := by
  unfold f_X4_fill f_X3_clear
  rw [xb_s]
  refine loopE (fun f (s : Int32 × Int32 × (Nat → Int32) × (Nat → Int32) × (Nat → Int32) × (Nat → Int32)) => f_X4_fill_L7 k x (nI n) B E W (if byE = true then 1 else 0) (fun (v4_16 : Int32) (f_P1_count_17 : Int32) (A_P1_numbers_18 : Nat → Int32) (A_P1_begins_19 : Nat → Int32) (A_P1_ends_20 : Nat → Int32) (A_P1_weights_21 : Nat → Int32) => some (f_P1_count_17, A_P1_numbers_18, A_P1_begins_19, A_P1_ends_20, A_P1_weights_21)) f s.1 s.2.1 s.2.2.1 s.2.2.2.1 s.2.2.2.2.1 s.2.2.2.2.2)
    (fun res => ∃ m σ N' Bg' En' Wt', ROWS n S (kyF byE b e) m σ ∧ RW m σ b e w N' Bg' En' Wt' ∧ res = some (nI m, N', Bg', En', Wt')) n
    (fun i s => ∃ m σ N' Bg' En' Wt', ROWS i S (kyF byE b e) m σ ∧ RW m σ b e w N' Bg' En' Wt' ∧ s = (nI i, nI m, N', Bg', En', Wt'))
    ?_ ?_ k (0, 0, N, Bg, En, Wt) (by omega) ⟨0, fun x => x, N, Bg, En, Wt, ROWS.zero _ _ _, fun p h => absurd h (Nat.not_lt_zero p), rfl⟩
  · rintro f i s hi ⟨m, σ, N', Bg', En', Wt', hR, hW', rfl⟩
    refine Or.inl ?_
    dsimp only
    have hm := hR.2.2.2
    rw [f_X4_fill_L7_s, if_neg (nI_ge hi (by omega)), contains_st k hx hi hn, xb_s]
    by_cases hs : S i = true
    · obtain ⟨q, N2, B2, E2, W2, h1, h2, h3, h4, h5⟩ := put_eq (k := k) (j := i) (byE := byE) hk hW' (by omega) hb
      refine ⟨(nI (i + 1), nI (m + 1), N2, B2, E2, W2), ⟨m + 1, insF σ q i, N2, B2, E2, W2, hR.ins hs h1 h2 h3, h4, rfl⟩, ?_⟩
      rw [if_pos hs, if_neg (by decide)]
      simp (disch := omega) only [xi_nI, nI_clamp, hB i hi, hE i hi, hW i hi, h5, xb_s, nI_1]
    · have hs2 : S i = false := by simpa using hs
      refine ⟨(nI (i + 1), nI m, N', Bg', En', Wt'), ⟨m, σ, N', Bg', En', Wt', hR.skip hs2, hW', rfl⟩, ?_⟩
      rw [if_neg hs, if_pos rfl, nI_1]
  · rintro f s ⟨m, σ, N', Bg', En', Wt', hR, hW', rfl⟩
    dsimp only
    rw [f_X4_fill_L7_s, if_pos (nI_le (Nat.le_refl _) (by omega))]
    exact ⟨m, σ, N', Bg', En', Wt', hR, hW', rfl⟩
