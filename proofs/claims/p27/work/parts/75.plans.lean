/-! One room: the chosen plan is a plan, the greatest number; circles of the periods 1000 and 500. -/
section CP
variable {k n m : Nat} {P : Nat → Bool} {b e w σ : Nat → Nat} {B E W : Nat → Int32} {ps : Int64}
theorem ends_cut (hR : ROWS n P e m σ) (t : Nat) : ∀ m', m' ≤ m → ∃ r, r ≤ m' ∧ ∀ q, q < m' → (q < r ↔ e (σ q) ≤ t) := by
  intro m'
  induction m' with
  | zero => intro _; exact ⟨0, Nat.le_refl _, fun q hq => absurd hq (Nat.not_lt_zero q)⟩
  | succ m' ih =>
    intro hm
    obtain ⟨r, hr, h⟩ := ih (by omega)
    by_cases c : e (σ m') ≤ t
    · refine ⟨m' + 1, Nat.le_refl _, fun q hq => ⟨fun _ => ?_, fun _ => hq⟩⟩
      exact Nat.le_trans (hR.1.key_le (show q ≤ m' by omega) (by omega)) c
    · refine ⟨r, by omega, fun q hq => ?_⟩
      by_cases d : q = m'
      · subst d
        exact ⟨fun g => absurd g (by omega), fun g => absurd g c⟩
      · exact h q (by omega)
theorem gam_spec (hR : ROWS n P e m σ) {x q : Nat} (hq : q < m) (h : q < gam n P b e σ (x + 1)) : e (σ q) ≤ b (σ x) := by
  obtain ⟨r, hr, hc⟩ := ends_cut hR (b (σ x)) m (Nat.le_refl _)
  have h2 : gam n P b e σ (x + 1) = r := by
    unfold gam
    exact ct_row (Z := fun i => decide (e i ≤ b (σ x))) hR hr (fun q hq => by rw [hc q hq, decide_eq_true_eq])
  rw [h2] at h
  exact (hc q hq).mp h
theorem cw_plan (hg : GD n b e w) (hR : ROWS n P e m σ) {β : Nat → Nat} (hγ : ∀ x, x < m → gam n P b e σ (x + 1) ≤ x) : ∀ (f j : Nat) (s : Int64) (S0 : Nat → Bool), j ≤ m → j ≤ f → ST s n S0 → (∀ i, i < n → S0 i = true → P i = true) → PLN n (ovl b e) S0 → (∀ q, q < j → ∀ i, i < n → S0 i = true → ovl b e (σ q) i = false) →
    ∃ S, ST (cw β (gam n P b e σ) σ f j s) n S ∧ (∀ i, i < n → S i = true → P i = true) ∧ PLN n (ovl b e) S := by
  have hn := hg.1
  intro f
  induction f with
  | zero => intro j s S0 hj hjf h1 h2 h3 h4; exact ⟨S0, h1, h2, h3⟩
  | succ f ih =>
    intro j s S0 hj hjf h1 h2 h3 h4
    cases j with
    | zero => rw [cw_0]; exact ⟨S0, h1, h2, h3⟩
    | succ x =>
      by_cases c : β (x + 1) = β x
      · rw [cw_same c]
        exact ih x s S0 (by omega) (by omega) h1 h2 h3 (fun q hq => h4 q (by omega))
      · rw [cw_take c]
        have hin := hR.2.1 x (by omega)
        have hgx := hγ x (by omega)
        refine ih _ _ (fs S0 (σ x) true) (by omega) (by omega) (h1.set hin.1 (by omega)) (fun i hi hs => ?_) (fun i i2 hi hi2 hs hs2 hne => ?_) (fun q hq i hi hs => ?_)
        · by_cases d : i = σ x
          · rw [d]; exact hin.2
          · rw [fs_ne _ _ d] at hs; exact h2 i hi hs
        · by_cases d : i = σ x
          · have d2 : i2 ≠ σ x := fun g => hne (by rw [d, g])
            rw [fs_ne _ _ d2] at hs2
            rw [d]
            exact h4 x (by omega) i2 hi2 hs2
          · rw [fs_ne _ _ d] at hs
            by_cases d2 : i2 = σ x
            · rw [d2, ovl_comm]
              exact h4 x (by omega) i hi hs
            · rw [fs_ne _ _ d2] at hs2
              exact h3 i i2 hi hi2 hs hs2 hne
        · by_cases d : i = σ x
          · have := gam_spec (b := b) hR (show q < m by omega) hq
            rw [d]
            unfold ovl
            rw [decide_eq_false (show ¬ b (σ x) < e (σ q) by omega), Bool.and_false]
          · rw [fs_ne _ _ d] at hs
            exact h4 q (by omega) i hi hs
theorem chosen_eq {cnt : Int32} {N Bg En Wt Be : Nat → Int32} (hk : 10000 ≤ k) (hg : GD n b e w) (hb : ∀ i, b i ≤ 1000 ∧ e i ≤ 1000 ∧ w i ≤ 1000) (hx : ST ps n P) (hB : AR n B b) (hE : AR n E e) (hW : AR n W w) :
    ∃ r S c' N' Bg' En' Wt' Be', ST r n S ∧ (∀ i, i < n → S i = true → P i = true) ∧ PLN n (ovl b e) S ∧ f_X4_chosen k (nI n) ps B E W 1 cnt N Bg En Wt Be = some (r, c', N', Bg', En', Wt', Be') := by
  have hn := hg.1
  obtain ⟨m, σ, N1, B1, E1, W1, hR, hRW, hfill⟩ := fill_eq (S := P) (byE := true) (cnt := cnt) (N := N) (Bg := Bg) (En := En) (Wt := Wt) hk hn (fun i => by have := hb i; omega) hx hB hE hW
  have hR2 : ROWS n P e m σ := hR
  obtain ⟨β, Be', h1, h2, h3⟩ := chosenSet_eq (Be := Be) hk hg hR2 hRW
  obtain ⟨S, s1, s2, s3⟩ := cw_plan (β := β) hg hR2 h2 m m 0 (fun _ => false) (Nat.le_refl _) (Nat.le_refl _) (fun i hi => by rw [bs_0, Bool.and_false]) (fun i _ q => (Bool.noConfusion q)) (fun i j _ _ q => (Bool.noConfusion q)) (fun q _ i _ g => (Bool.noConfusion g))
  refine ⟨cw β (gam n P b e σ) σ m m 0, S, nI m, N1, B1, E1, W1, Be', s1, s2, s3, ?_⟩
  unfold f_X4_chosen
  have hfill2 : f_X4_fill k ps (nI n) B E W 1 cnt N Bg En Wt = some (nI m, N1, B1, E1, W1) := hfill
  rw [hfill2, xb_s]
  try dsimp only
  rw [h3, xb_s]
theorem gr_best (hg : GD n b e w) (hR : ROWS n P e m σ) {S : Nat → Bool} (hP : PLN n (ovl b e) S) : ∀ p, p ≤ m →
    fb_ct (fun q => S (σ q)) p ≤ (gr σ b e p).1 ∧ (fb_ct (fun q => S (σ q)) p = (gr σ b e p).1 → (gr σ b e p).2 = 0 ∨ ∃ q, q < p ∧ S (σ q) = true ∧ (gr σ b e p).2 ≤ e (σ q)) ∧ ((gr σ b e p).2 = 0 ∨ ∃ q, q < p ∧ (gr σ b e p).2 = e (σ q)) := by
  intro p
  induction p with
  | zero => intro _; exact ⟨Nat.le_refl _, fun _ => Or.inl rfl, Or.inl rfl⟩
  | succ p ih =>
    intro hp
    obtain ⟨i1, i2, i3⟩ := ih (by omega)
    have hin := hR.2.1 p (by omega)
    have hgp := hg.2 (σ p) hin.1
    rw [fb_ct_succ, gr]
    have hlow : (gr σ b e p).2 ≤ e (σ p) := by
      rcases i3 with h | ⟨q, hq, h⟩
      · omega
      · rw [h]; exact hR.1.key_le (show q ≤ p by omega) (by omega)
    by_cases c : b (σ p) < (gr σ b e p).2
    · rw [if_pos c]
      refine ⟨?_, fun h => ?_, ?_⟩
      · by_cases hs : S (σ p) = true
        · rw [if_pos hs]
          apply Nat.succ_le_of_lt
          apply Nat.lt_of_le_of_ne i1
          intro h
          rcases i2 h with h2 | ⟨q, hq, hsq, h2⟩
          · omega
          · have hq2 := hR.2.1 q (by omega)
            have hne : σ q ≠ σ p := hR.1.inj hq (by omega)
            have h3 := hP (σ q) (σ p) hq2.1 hin.1 hsq hs hne
            have hgq := hg.2 (σ q) hq2.1
            have hle := hR.1.key_le (show q ≤ p by omega) (show p < m by omega)
            have h4 : ovl b e (σ q) (σ p) = true := by
              unfold ovl
              rw [Bool.and_eq_true, decide_eq_true_eq, decide_eq_true_eq]
              omega
            rw [h3] at h4; cases h4
        · rw [if_neg hs]; exact i1
      · by_cases hs : S (σ p) = true
        · exact Or.inr ⟨p, by omega, hs, hlow⟩
        · rw [if_neg hs] at h
          rcases i2 h with h2 | ⟨q, hq, h2⟩
          · exact Or.inl h2
          · exact Or.inr ⟨q, by omega, h2⟩
      · rcases i3 with h | ⟨q, hq, h⟩
        · exact Or.inl h
        · exact Or.inr ⟨q, by omega, h⟩
    · rw [if_neg c]
      refine ⟨?_, fun h => ?_, Or.inr ⟨p, by omega, rfl⟩⟩
      · show _ ≤ (gr σ b e p).1 + 1
        by_cases hs : S (σ p) = true
        · rw [if_pos hs]; omega
        · rw [if_neg hs]; omega
      · have h' : fb_ct (fun q => S (σ q)) p + (if S (σ p) = true then 1 else 0) = (gr σ b e p).1 + 1 := h
        by_cases hs : S (σ p) = true
        · exact Or.inr ⟨p, by omega, hs, Nat.le_refl _⟩
        · rw [if_neg hs] at h'; omega
theorem most_eq {cnt : Int32} {N Bg En Wt : Nat → Int32} (hk : 10000 ≤ k) (hg : GD n b e w) (hb : ∀ i, b i ≤ 1000 ∧ e i ≤ 1000 ∧ w i ≤ 1000) (hx : ST ps n P) (hB : AR n B b) (hE : AR n E e) (hW : AR n W w) :
    ∃ M c' N' Bg' En' Wt', M ≤ n ∧ (∀ S : Nat → Bool, (∀ i, i < n → S i = true → P i = true) → PLN n (ovl b e) S → fb_ct S n ≤ M) ∧ f_X4_most k (nI n) ps B E W 1 cnt N Bg En Wt = some (nI M, c', N', Bg', En', Wt') := by
  have hn := hg.1
  obtain ⟨m, σ, N1, B1, E1, W1, hR, hRW, hfill⟩ := fill_eq (S := P) (byE := true) (cnt := cnt) (N := N) (Bg := Bg) (En := En) (Wt := Wt) hk hn (fun i => by have := hb i; omega) hx hB hE hW
  have hR2 : ROWS n P e m σ := hR
  have hm := hR2.2.2.2
  have hle := (gr_le hg (fun p hp => (hR2.2.1 p hp).1) m (Nat.le_refl _)).1
  refine ⟨(gr σ b e m).1, nI m, N1, B1, E1, W1, by omega, fun S hs hP => ?_, ?_⟩
  · have h1 := (gr_best hg hR2 hP m (Nat.le_refl _)).1
    have h2 := rix hR2 (fun i => if S i = true then 1 else 0) (fun j hj hp => if_neg (fun q => by have := hs j hj q; rw [hp] at this; cases this))
    rw [← ct_sm S n] at h2
    have h3 := ct_sm (fun q => S (σ q)) m
    have h4 : fb_ct S n = fb_ct (fun q => S (σ q)) m := by rw [h2, h3]
    omega
  · unfold f_X4_most
    have hfill2 : f_X4_fill k ps (nI n) B E W 1 cnt N Bg En Wt = some (nI m, N1, B1, E1, W1) := hfill
    rw [hfill2, xb_s]
    try dsimp only
    rw [greatestNumber_eq hk hg hR2 hRW, xb_s]
theorem heaviest_eq {cnt : Int32} {N Bg En Wt Be : Nat → Int32} (hk : 10000 ≤ k) (hg : GD n b e w) (hb : ∀ i, b i ≤ 1000 ∧ e i ≤ 1000 ∧ w i ≤ 1000) (hx : ST ps n P) (hB : AR n B b) (hE : AR n E e) (hW : AR n W w) :
    ∃ v c' N' Bg' En' Wt' Be', v ≤ 40000 ∧ IsM n (ovl b e) w (fun j => P j = true) v ∧ f_X4_heaviest k (nI n) ps B E W 1 cnt N Bg En Wt Be = some (nI v, c', N', Bg', En', Wt', Be') := by
  have hn := hg.1
  obtain ⟨v, c', N', Bg', En', Wt', Be', hv, hc⟩ := forOne_eq (cnt := cnt) (N := N) (Bg := Bg) (En := En) (Wt := Wt) (Be := Be) hk hg hb hx hB hE hW
  have hle := hv.le (fun j _ => (hb j).2.2)
  refine ⟨v, c', N', Bg', En', Wt', Be', by omega, hv, ?_⟩
  unfold f_X4_heaviest
  rw [hc, xb_s]
theorem best_eq {os : Int64} {O : Nat → Bool} {cnt : Int32} {N Bg En Wt Be : Nat → Int32} (hk : 10000 ≤ k) (hg : GD n b e w) (hb : ∀ i, b i ≤ 1000 ∧ e i ≤ 1000 ∧ w i ≤ 1000) (hx : ST ps n P) (ho : ST os n O) (hB : AR n B b) (hE : AR n E e) (hW : AR n W w) :
    ∃ v c' N' Bg' En' Wt' Be', v ≤ 40000 ∧ IsM n (ovl b e) w (fun j => (P j && O j) = true) v ∧ f_X4_bestOfOffered k (nI n) ps os B E W 1 cnt N Bg En Wt Be = some (nI v, c', N', Bg', En', Wt', Be') := by
  have hn := hg.1
  obtain ⟨v, c', N', Bg', En', Wt', Be', hv, hc⟩ := forOne_eq (cnt := cnt) (N := N) (Bg := Bg) (En := En) (Wt := Wt) (Be := Be) hk hg hb (hx.and ho) hB hE hW
  have hle := hv.le (fun j _ => (hb j).2.2)
  refine ⟨v, c', N', Bg', En', Wt', Be', by omega, hv, ?_⟩
  unfold f_X4_bestOfOffered
  rw [hc, xb_s]
theorem isr_one (hg : GD n b e w) {v : Nat} (h : ISR n b e w P 1 v) : IsM n (ovl b e) w (fun j => P j = true) v := by
  obtain ⟨⟨S, s1, s2, s3⟩, h2⟩ := h
  exact ⟨⟨S, (pln_dep hg).mpr s2, s1, s3⟩, fun T t1 t2 => h2 T t2 ((pln_dep hg).mp t1)⟩
theorem isr_all {r R : Nat} (hr : RV n b e P r) (h : r ≤ R) : ISR n b e w P R (wsum P w n) := by
  refine ⟨⟨P, fun _ _ q => q, fun t => Nat.le_trans (hr.1 t) h, rfl⟩, fun S s1 _ => fb_sm_le fun j hj => ?_⟩
  by_cases c : S j = true
  · rw [if_pos c, if_pos (s1 j hj c)]; exact Nat.le_refl _
  · rw [if_neg c]; exact Nat.zero_le _
/-! circles -/
theorem cm_1000 (hg : GD n b e w) {i j : Nat} (hi : i < n) (hj : j < n) : CM 1000 b e i j = ovl b e i j := by
  have gi := hg.2 i hi
  have gj := hg.2 j hj
  rw [Bool.eq_iff_iff, CM_iff, Nat.mod_eq_of_lt (show b i < 1000 by omega), Nat.mod_eq_of_lt (show b j < 1000 by omega)]
  unfold ovl dst
  rw [Bool.and_eq_true, decide_eq_true_eq, decide_eq_true_eq]
  by_cases c : b j < b i
  · rw [if_pos c, if_neg (show ¬ b i < b j by omega)]; omega
  · rw [if_neg c]
    by_cases d : b i < b j
    · rw [if_pos d]; omega
    · rw [if_neg d]; omega
theorem cd_1000 (hg : GD n b e w) {t : Nat} (ht : t < 1000) : cd n 1000 P b e t = dep n b e P t := by
  refine fb_ct_cong fun j hj => ?_
  have gj := hg.2 j hj
  try dsimp only
  rw [Nat.mod_eq_of_lt (show b j < 1000 by omega)]
  congr 1
  rw [Bool.eq_iff_iff, Bool.and_eq_true, decide_eq_true_eq, decide_eq_true_eq, decide_eq_true_eq]
  unfold dst
  by_cases c : t < b j
  · rw [if_pos c]; omega
  · rw [if_neg c]; omega
theorem mx_1000 {M r : Nat} (hg : GD n b e w) (h : MX n 1000 P b e M) (hr : RV n b e P r) : M = r := by
  apply Nat.le_antisymm
  · rcases h.1 with h0 | ⟨t, ht, h1⟩
    · omega
    · rw [← h1, cd_1000 hg ht]; exact hr.1 t
  · rcases hr.2 with ⟨h0, -⟩ | ⟨j, hj, hp, h1⟩
    · omega
    · have gj := hg.2 j hj
      rw [← h1, ← cd_1000 hg (show b j < 1000 by omega)]
      exact h.2 _ (by omega)
theorem mx_any {M r p : Nat} (hp : 1 ≤ p) (hl : ∀ j, j < n → e j - b j ≤ p) (h : MX n p P b e M) (hr : RV n b e P r) : r ≤ M := by
  rcases hr.2 with ⟨h0, -⟩ | ⟨j, hj, hpj, h1⟩
  · omega
  · refine Nat.le_trans ?_ (h.2 (b j % p) (Nat.mod_lt _ (by omega)))
    rw [← h1]
    refine fb_ct_sub fun i hi hq => ?_
    have gi := hl i hi
    simp only [Bool.and_eq_true, decide_eq_true_eq] at hq ⊢
    refine ⟨hq.1, ?_⟩
    have := dst_of (p := p) (x := b j) (y := b i) (d := b j - b i) (by omega) (by omega) (by rw [Nat.add_sub_cancel' hq.2.1])
    omega
theorem ovl_cm {p i j : Nat} (hg : GD n b e w) (hp : 1 ≤ p) (hl : ∀ j, j < n → e j - b j ≤ p) (hi : i < n) (hj : j < n) (h : ovl b e i j = true) : CM p b e i j = true := by
  have gi := hg.2 i hi
  have gj := hg.2 j hj
  have li := hl i hi
  have lj := hl j hj
  unfold ovl at h
  rw [Bool.and_eq_true, decide_eq_true_eq, decide_eq_true_eq] at h
  rw [CM_iff]
  rcases Nat.le_total (b i) (b j) with c | c
  · have := dst_of (p := p) (x := b j) (y := b i) (d := b j - b i) (by omega) (by omega) (by rw [Nat.add_sub_cancel' c])
    exact Or.inl (by omega)
  · have := dst_of (p := p) (x := b i) (y := b j) (d := b i - b j) (by omega) (by omega) (by rw [Nat.add_sub_cancel' c])
    exact Or.inr (by omega)
theorem round_le {p u v : Nat} (hg : GD n b e w) (hp : 1 ≤ p) (hl : ∀ j, j < n → e j - b j ≤ p) (h1 : IsM n (CM p b e) w (fun j => P j = true) u) (h2 : IsM n (ovl b e) w (fun j => P j = true) v) : u ≤ v := by
  obtain ⟨⟨S, s1, s2, s3⟩, -⟩ := h1
  rw [← s3]
  refine h2.2 S (fun i j hi hj hsi hsj hij => ?_) s2
  cases ho : ovl b e i j with
  | false => rfl
  | true =>
    have := ovl_cm hg hp hl hi hj ho
    rw [s1 i j hi hj hsi hsj hij] at this
    cases this
theorem depthRound_eq {p : Nat} (hk : 10000 ≤ k) (hg : GD n b e w) (hx : ST ps n P) (hB : AR n B b) (hE : AR n E e) (hp : 1 ≤ p) (hp2 : p ≤ 1000) (hl : ∀ j, j < n → e j - b j ≤ p) : ∃ M, M ≤ n ∧ MX n p P b e M ∧ f_X4_depthRound k (nI p) (nI n) ps B E = some (.ok (nI M)) := by
  rcases requireCircle_eq hk hg hx hB hE hp hp2 with ⟨hr1, hr2⟩ | ⟨⟨j, hj, hpj, hlt⟩, -⟩
  · obtain ⟨M, hM1, hM2⟩ := X4_depthRound_eq hk hg hx hB hE hp hp2 hr2
    refine ⟨M, ?_, hM1, hM2⟩
    rcases hM1.1 with h | ⟨t, ht, h⟩
    · omega
    · rw [← h]; exact cd_le t
  · have := hl j hj; omega
theorem heaviestRound_eq {p : Nat} {cnt : Int32} {N Bg En Wt Be : Nat → Int32} (hk : 10000 ≤ k) (hg : GD n b e w) (hb : ∀ i, b i ≤ 1000 ∧ e i ≤ 1000 ∧ w i ≤ 1000) (hx : ST ps n P) (hB : AR n B b) (hE : AR n E e) (hW : AR n W w) (hp : 1 ≤ p) (hp2 : p ≤ 1000) (hl : ∀ j, j < n → e j - b j ≤ p) :
    ∃ v c' N' Bg' En' Wt' Be', v ≤ 40000 ∧ IsM n (CM p b e) w (fun j => P j = true) v ∧ f_X4_heaviestRound k (nI p) (nI n) ps B E W 1 cnt N Bg En Wt Be = some (.ok (nI v, c', N', Bg', En', Wt', Be')) := by
  have hn := hg.1
  rcases requireCircle_eq hk hg hx hB hE hp hp2 with ⟨hr1, hr2⟩ | ⟨⟨j, hj, hpj, hlt⟩, -⟩
  · obtain ⟨v, c', N', Bg', En', Wt', Be', hv, hf⟩ := X4_heaviestRound_eq (cnt := cnt) (N := N) (Bg := Bg) (En := En) (Wt := Wt) (Be := Be) hk hg hb hx hB hE hW hp hp2 hr1 hr2
    have hle := hv.le (fun j _ => (hb j).2.2)
    exact ⟨v, c', N', Bg', En', Wt', Be', by omega, hv, hf⟩
  · have := hl j hj; omega
end CP
