/-! roomOf. -/
def mu (b : Nat → Nat) (i : Nat) : Nat := b i * 64 + i
section GRS
variable {n : Nat} {b e w : Nat → Nat} {P : Nat → Bool}
def RmLS (n : Nat) (b e : Nat → Nat) (P : Nat → Bool) (ρ : Nat → Nat) (i r : Nat) : Prop := (∀ j, j < n → P j = true → mu b j < mu b i → ρ j = r → ovl b e j i = false) ∧ ∀ r', r' < r → ∃ j, j < n ∧ P j = true ∧ mu b j < mu b i ∧ ρ j = r' ∧ ovl b e j i = true
theorem RmLS.one {ρ1 ρ2 : Nat → Nat} {i r1 r2 : Nat} (hc : ∀ j, j < n → P j = true → mu b j < mu b i → ρ1 j = ρ2 j) (h1 : RmLS n b e P ρ1 i r1) (h2 : RmLS n b e P ρ2 i r2) : r1 = r2 := by
  rcases Nat.lt_trichotomy r1 r2 with h | h | h
  · obtain ⟨j, q1, q2, q3, q4, q5⟩ := h2.2 r1 h
    have := h1.1 j q1 q2 q3 (by rw [hc j q1 q2 q3]; exact q4)
    rw [q5] at this; cases this
  · exact h
  · obtain ⟨j, q1, q2, q3, q4, q5⟩ := h1.2 r2 h
    have := h2.1 j q1 q2 q3 (by rw [← hc j q1 q2 q3]; exact q4)
    rw [q5] at this; cases this
theorem RmLS.cong {ρ1 ρ2 : Nat → Nat} {i r : Nat} (hc : ∀ j, j < n → P j = true → mu b j < mu b i → ρ1 j = ρ2 j) (h1 : RmLS n b e P ρ1 i r) : RmLS n b e P ρ2 i r := by
  refine ⟨fun j q1 q2 q3 q4 => h1.1 j q1 q2 q3 (by rw [hc j q1 q2 q3]; exact q4), fun r' hr => ?_⟩
  obtain ⟨j, q1, q2, q3, q4, q5⟩ := h1.2 r' hr
  exact ⟨j, q1, q2, q3, by rw [← hc j q1 q2 q3]; exact q4, q5⟩
theorem RmLS.uniq {ρ1 ρ2 : Nat → Nat} {M1 M2 : Nat} (h1 : ∀ j, j < n → P j = true → mu b j < M1 → RmLS n b e P ρ1 j (ρ1 j)) (h2 : ∀ j, j < n → P j = true → mu b j < M2 → RmLS n b e P ρ2 j (ρ2 j)) : ∀ (d i : Nat), mu b i < d → i < n → P i = true → mu b i < M1 → mu b i < M2 → ρ1 i = ρ2 i := by
  intro d
  induction d with
  | zero => intro i h; omega
  | succ d ih =>
    intro i hd hi hp hm1 hm2
    exact RmLS.one (fun j q1 q2 q3 => ih j (by omega) q1 q2 (by omega) (by omega)) (h1 i hi hp hm1) (h2 i hi hp hm2)
theorem RmLS.ex (ρ : Nat → Nat) (i : Nat) : ∃ r, RmLS n b e P ρ i r := by
  obtain ⟨r, h1, h2⟩ := pk_least (fun r => ∀ j, j < n → P j = true → mu b j < mu b i → ρ j = r → ovl b e j i = false) ⟨fb_sm ρ n + 1, fun j q1 q2 q3 q4 => by
    have := fb_sm_part ρ q1
    omega⟩
  refine ⟨r, h1, fun r' hr => ?_⟩
  have h3 := h2 r' hr
  rcases Classical.em (∃ j, j < n ∧ P j = true ∧ mu b j < mu b i ∧ ρ j = r' ∧ ovl b e j i = true) with h | h
  · exact h
  · exfalso
    refine h3 fun j q1 q2 q3 q4 => ?_
    cases hq : ovl b e j i with
    | false => rfl
    | true => exact absurd ⟨j, q1, q2, q3, q4, hq⟩ h
theorem RmLS.lt {ρ : Nat → Nat} {i r : Nat} (h : RmLS n b e P ρ i r) (hi : i < n) : r < n := by
  have hf : ∃ f : Nat → Nat, ∀ r', r' < r → f r' < n ∧ mu b (f r') < mu b i ∧ ρ (f r') = r' := by
    refine ⟨fun r' => if h9 : r' < r then Classical.choose (h.2 r' h9) else 0, fun r' hr => ?_⟩
    have hs := Classical.choose_spec (h.2 r' hr)
    simp only [dif_pos hr]
    exact ⟨hs.1, hs.2.2.1, hs.2.2.2.1⟩
  obtain ⟨f, hf⟩ := hf
  have := fb_holes n (r + 1) (fun q => if q < r then f q else i) (fun q hq => by
    try dsimp only
    by_cases c : q < r
    · rw [if_pos c]; exact (hf q c).1
    · rw [if_neg c]; exact hi) (fun a c hac hc => by
    try dsimp only
    have ha : a < r := by omega
    rw [if_pos ha]
    by_cases c1 : c < r
    · rw [if_pos c1]
      intro q
      have h1 := (hf a ha).2.2
      have h2 := (hf c c1).2.2
      rw [q] at h1
      omega
    · rw [if_neg c1]
      intro q
      have := (hf a ha).2.1
      rw [q] at this
      omega)
  omega
end GRS
theorem clearRooms_eq {k : Nat} {F : Nat → Int32} (hk : 10000 ≤ k) : ∃ F', (∀ r, r < 40 → F' r = 0) ∧ f_X0_clearRooms k F = some F' := by
  unfold f_X0_clearRooms
  refine loopE (fun m (s : Int32 × (Nat → Int32)) => f_X0_clearRooms_L2 k (fun (v1_3 : Int32) (A_freeFrom_4 : Nat → Int32) => some A_freeFrom_4) m s.1 s.2) (fun res => ∃ F', (∀ r, r < 40 → F' r = 0) ∧ res = some F') 40 (fun i s => s.1 = nI i ∧ ∀ r, r < i → s.2 r = 0) ?_ ?_ k (0, F) (by omega) ⟨rfl, fun r h => absurd h (Nat.not_lt_zero r)⟩
  · rintro m i ⟨v, F1⟩ hi ⟨rfl, hI⟩
    refine Or.inl ⟨(nI (i + 1), upd F1 i 0), ⟨rfl, fun r hr => ?_⟩, ?_⟩
    · dsimp only
      unfold upd
      by_cases c : r = i
      · rw [if_pos c]
      · rw [if_neg c]; exact hI r (by omega)
    · dsimp only
      rw [f_X0_clearRooms_L2_s, if_neg (show ¬ (40 : Int32) ≤ nI i from nI_ge (b := 40) hi (by omega)), xi_nI (by omega) (by omega), nI_clamp (by omega), nI_1]
  · rintro m ⟨v, F1⟩ ⟨rfl, hI⟩
    dsimp only
    rw [f_X0_clearRooms_L2_s, if_pos (show (40 : Int32) ≤ nI 40 by decide)]
    exact ⟨F1, hI, rfl⟩
theorem lowest_eq {k L bg : Nat} {F : Nat → Int32} {f : Nat → Nat} (hk : 10000 ≤ k) (hF : ∀ r, r < 40 → F r = nI (f r)) (hf : ∀ r, r < 40 → f r < 2 ^ 31) (hb : bg < 2 ^ 31) (hL : L < 40) (h1 : ∀ r, r < L → bg < f r) (h2 : f L ≤ bg) : f_X0_lowestFreeRoom k (nI bg) F = some (nI L) := by
  unfold f_X0_lowestFreeRoom
  refine loopG (fun m (q : Int32) => f_X0_lowestFreeRoom_L2 k (nI bg) F (fun (v2_4 : Int32) => some v2_4) m q) _ L (fun i => nI i) ?_ ?_ k (by omega)
  · intro m i hi
    try dsimp only
    rw [f_X0_lowestFreeRoom_L2_s, if_neg (show ¬ (39 : Int32) ≤ nI i from nI_ge (b := 39) (by omega) (by omega)), xi_nI (by omega) (by omega), nI_clamp (by omega), hF i (by omega), if_neg (nI_ge (h1 i hi) (hf i (by omega))), nI_1]
  · intro m
    try dsimp only
    rw [f_X0_lowestFreeRoom_L2_s]
    by_cases c : 39 ≤ L
    · rw [if_pos (show (39 : Int32) ≤ nI L from nI_le (a := 39) c (by omega))]
    · rw [if_neg (show ¬ (39 : Int32) ≤ nI L from nI_ge (b := 39) (by omega) (by omega)), xi_nI (by omega) (by omega), nI_clamp (by omega), hF L hL, if_pos (nI_le h2 hb)]
theorem SRT.lt_mu {m : Nat} {σ b : Nat → Nat} (h : SRT m σ b) (hs : ∀ p, p < m → σ p < 64) {p q : Nat} (hpq : p < q) (hq : q < m) : mu b (σ p) < mu b (σ q) := by
  have h1 := hs p (by omega)
  have h2 := hs q hq
  show b (σ p) * 64 + σ p < b (σ q) * 64 + σ q
  rcases h p q hpq hq with h3 | ⟨h3, h4⟩ <;> omega
theorem givenTo_eq {k n m i0 : Nat} {P : Nat → Bool} {b e w σ : Nat → Nat} {N Bg En Wt F : Nat → Int32} (hk : 10000 ≤ k) (hg : GD n b e w) (hR : ROWS n P b m σ) (hW : RW m σ b e w N Bg En Wt) (hi0 : i0 < n) (hp0 : P i0 = true) :
    ∃ ρ F', (∀ j, j < n → P j = true → mu b j < mu b i0 + 1 → RmLS n b e P ρ j (ρ j)) ∧ f_X0_givenTo k (nI i0) (nI m) N Bg En F = some (nI (ρ i0), F') := by
  have hn := hg.1
  obtain ⟨hS, hin, hall, hmn⟩ := hR
  have hs64 : ∀ p, p < m → σ p < 64 := fun p hp => by have := (hin p hp).1; omega
  have before : ∀ p, p < m → ∀ j, j < n → P j = true → mu b j < mu b (σ p) → ∃ q, q < p ∧ σ q = j := by
    intro p hp j hj hpj hmu
    obtain ⟨q, hq, rfl⟩ := hall j hj hpj
    refine ⟨q, ?_, rfl⟩
    rcases Nat.lt_trichotomy q p with h | h | h
    · exact h
    · rw [h] at hmu; omega
    · have := hS.lt_mu hs64 h hq; omega
  obtain ⟨F0, hF0, hc⟩ := clearRooms_eq (F := F) hk
  unfold f_X0_givenTo
  rw [hc, xb_s]
  refine loopE (fun f (s : Int32 × (Nat → Int32)) => f_X0_givenTo_L6 k (nI i0) (nI m) N Bg En (fun (v2_11 : Int32) (A_freeFrom_12 : Nat → Int32) => some ((-1), A_freeFrom_12)) f s.1 s.2)
    (fun res => ∃ ρ F', (∀ j, j < n → P j = true → mu b j < mu b i0 + 1 → RmLS n b e P ρ j (ρ j)) ∧ res = some (nI (ρ i0), F')) m
    (fun p s => s.1 = nI p ∧ ∃ ρ f : Nat → Nat, (∀ q, q < p → RmLS n b e P ρ (σ q) (ρ (σ q))) ∧ (∀ r, r < 40 → s.2 r = nI (f r) ∧ f r ≤ 1000) ∧ (∀ q, q < p → e (σ q) ≤ f (ρ (σ q))) ∧ (∀ r, r < 40 → f r = 0 ∨ ∃ q, q < p ∧ ρ (σ q) = r ∧ f r = e (σ q)) ∧ (∀ q, q < p → σ q ≠ i0))
    ?_ ?_ k (0, F0) (by omega) ⟨rfl, fun _ => 0, fun _ => 0, fun q h => absurd h (Nat.not_lt_zero q), fun r hr => ⟨hF0 r hr, Nat.zero_le _⟩, fun q h => absurd h (Nat.not_lt_zero q), fun r _ => Or.inl rfl, fun q h => absurd h (Nat.not_lt_zero q)⟩
  · rintro f p ⟨v, F1⟩ hp ⟨rfl, ρ, g, hL, hF, he, hx, hne⟩
    dsimp only at hF ⊢
    obtain ⟨r1, r2, r3, r4⟩ := hW p hp
    obtain ⟨hin1, hin2⟩ := hin p hp
    have hgi := hg.2 (σ p) hin1
    obtain ⟨r, hr⟩ := RmLS.ex (n := n) (b := b) (e := e) (P := P) ρ (σ p)
    have hrn := hr.lt hin1
    have hlow : f_X0_lowestFreeRoom k (nI (b (σ p))) F1 = some (nI r) := by
      refine lowest_eq hk (fun r hr => (hF r hr).1) (fun r hr => by have := (hF r hr).2; omega) (by omega) (by omega) (fun r' hr' => ?_) ?_
      · obtain ⟨j, q1, q2, q3, q4, q5⟩ := hr.2 r' hr'
        obtain ⟨q, hq, rfl⟩ := before p hp j q1 q2 q3
        have h1 := he q hq
        rw [q4] at h1
        simp only [ovl, Bool.and_eq_true, decide_eq_true_eq] at q5
        omega
      · rcases hx r (by omega) with h1 | ⟨q, hq, h1, h2⟩
        · omega
        · have hm := hS.lt_mu hs64 hq hp
          have h3 := hr.1 (σ q) (hin q (by omega)).1 (hin q (by omega)).2 hm h1
          have h4 : b (σ q) ≤ b (σ p) := by
            have := hs64 q (by omega)
            have := hs64 p hp
            unfold mu at hm; omega
          have h5 : ¬ b (σ p) < e (σ q) := by
            intro h6
            have : ovl b e (σ q) (σ p) = true := by
              simp only [ovl, Bool.and_eq_true, decide_eq_true_eq]
              omega
            rw [this] at h3; cases h3
          omega
    rw [f_X0_givenTo_L6_s, if_neg (nI_ge hp (by omega)), xi_nI (by omega) (by omega), nI_clamp (by omega), r2, hlow, xb_s, xi_nI (by omega) (by omega), r1]
    have hcong : ∀ j, j < n → P j = true → mu b j < mu b (σ p) → ρ j = fs ρ (σ p) r j := by
      intro j _ _ q3
      rw [fs_ne]
      intro h9; rw [h9] at q3; omega
    by_cases c : σ p = i0
    · rw [if_pos (by rw [c])]
      refine Or.inr ⟨fs ρ (σ p) r, F1, fun j q1 q2 q3 => ?_, ?_⟩
      · rcases Nat.lt_or_ge (mu b j) (mu b (σ p)) with h | h
        · obtain ⟨q, hq, rfl⟩ := before p hp j q1 q2 h
          rw [← hcong (σ q) q1 q2 h]
          exact (hL q hq).cong (fun j2 a1 a2 a3 => hcong j2 a1 a2 (by omega))
        · obtain ⟨q, hq, rfl⟩ := hall j q1 q2
          have : q = p := by
            rcases Nat.lt_trichotomy q p with h9 | h9 | h9
            · have := hS.lt_mu hs64 h9 hp; omega
            · exact h9
            · have := hS.lt_mu hs64 h9 hq
              rw [c] at this; omega
          subst this
          rw [fs_at]
          exact hr.cong hcong
      · rw [← c, fs_at]
    · rw [if_neg (fun q => c ((nI_eq (by omega) (by omega)).mp q)), xi_nI (by omega) (by omega), xi_nI (by omega) (by omega), nI_clamp (by omega), r3, nI_1]
      refine Or.inl ⟨(nI (p + 1), upd F1 r (nI (e (σ p)))), ⟨rfl, fs ρ (σ p) r, fs g r (e (σ p)), fun q hq => ?_, fun r' hr' => ?_, fun q hq => ?_, fun r' hr' => ?_, fun q hq => ?_⟩, rfl⟩
      · rcases Nat.lt_or_ge q p with h | h
        · have hm := hS.lt_mu hs64 h hp
          rw [← hcong (σ q) (hin q (by omega)).1 (hin q (by omega)).2 hm]
          exact (hL q h).cong (fun j2 a1 a2 a3 => hcong j2 a1 a2 (by omega))
        · have : q = p := by omega
          subst this
          rw [fs_at]
          exact hr.cong hcong
      · dsimp only
        unfold upd fs
        by_cases c2 : r' = r
        · rw [if_pos c2, if_pos c2]; exact ⟨rfl, hgi.2.1⟩
        · rw [if_neg c2, if_neg c2]; exact hF r' hr'
      · rcases Nat.lt_or_ge q p with h | h
        · have hm := hS.lt_mu hs64 h hp
          rw [← hcong (σ q) (hin q (by omega)).1 (hin q (by omega)).2 hm]
          unfold fs
          by_cases c2 : ρ (σ q) = r
          · rw [if_pos c2]
            have h3 := hr.1 (σ q) (hin q (by omega)).1 (hin q (by omega)).2 hm c2
            have h4 : b (σ q) ≤ b (σ p) := by
              have := hs64 q (by omega)
              have := hs64 p hp
              unfold mu at hm; omega
            have h5 : ¬ b (σ p) < e (σ q) := by
              intro h6
              have : ovl b e (σ q) (σ p) = true := by
                simp only [ovl, Bool.and_eq_true, decide_eq_true_eq]
                omega
              rw [this] at h3; cases h3
            omega
          · rw [if_neg c2]; exact he q h
        · have : q = p := by omega
          subst this
          rw [fs_at, fs_at]
          exact Nat.le_refl _
      · by_cases c2 : r' = r
        · exact Or.inr ⟨p, by omega, by rw [fs_at, c2], by rw [c2, fs_at]⟩
        · rw [fs_ne _ _ c2]
          rcases hx r' hr' with h1 | ⟨q, hq, h1, h2⟩
          · exact Or.inl h1
          · refine Or.inr ⟨q, by omega, ?_, h2⟩
            have hm := hS.lt_mu hs64 hq hp
            rw [← hcong (σ q) (hin q (by omega)).1 (hin q (by omega)).2 hm]
            exact h1
      · rcases Nat.lt_or_ge q p with h | h
        · exact hne q h
        · have : q = p := by omega
          rw [this]; exact c
  · rintro f ⟨v, F1⟩ ⟨rfl, ρ, g, hL, hF, he, hx, hne⟩
    exfalso
    obtain ⟨q, hq, h⟩ := hall i0 hi0 hp0
    exact hne q hq h
