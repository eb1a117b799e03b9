/-! Rooms: the class's answers, and that they fit together. -/
def RV (n : Nat) (b e : Nat → Nat) (P : Nat → Bool) (r : Nat) : Prop := (∀ u, dep n b e P u ≤ r) ∧ ((r = 0 ∧ ∀ j, j < n → P j = false) ∨ ∃ j, j < n ∧ P j = true ∧ dep n b e P (b j) = r)
theorem RV.one {n : Nat} {b e : Nat → Nat} {P : Nat → Bool} {r s : Nat} (h1 : RV n b e P r) (h2 : RV n b e P s) : r = s := by
  have key : ∀ x y, RV n b e P x → RV n b e P y → x ≤ y := by
    rintro x y ⟨a1, a2⟩ ⟨c1, c2⟩
    rcases a2 with ⟨h, -⟩ | ⟨j, -, -, h⟩
    · omega
    · rw [← h]; exact c1 _
  exact Nat.le_antisymm (key r s h1 h2) (key s r h2 h1)
section RA
variable {k n : Nat} {ps : Int64} {P : Nat → Bool} {b e w : Nat → Nat} {B E W : Nat → Int32}
theorem rooms_eq (hk : 10000 ≤ k) (hg : GD n b e w) (hx : ST ps n P) (hB : AR n B b) (hE : AR n E e) : ∃ r, r ≤ n ∧ RV n b e P r ∧ f_X4_rooms k (nI n) ps B E = some (nI r) := by
  have hn := hg.1
  unfold f_X4_rooms
  rcases X4_ldt hk hg hx hB hE with ⟨h0, h1⟩ | ⟨j, hj, hp, hl2, h1⟩
  · refine ⟨0, Nat.zero_le _, ⟨fun u => ?_, Or.inl ⟨rfl, h0⟩⟩, ?_⟩
    · have : dep n b e P u = 0 := fb_ct_zero.mpr fun i hi => by simp [h0 i hi]
      omega
    · rw [h1, xb_s, if_pos rfl]; rfl
  · have := (hg.2 j hj)
    refine ⟨dep n b e P (b j), dep_le _, ⟨hl2.1, Or.inr ⟨j, hj, hp, rfl⟩⟩, ?_⟩
    rw [h1, xb_s, if_neg (fun q => by rw [fa_eq, nI_toInt (by omega)] at q; exact absurd q (by show ¬ (b j : Int) = -1; omega)), depthAt_eq (by omega) hg hx hB hE (by omega), xb_s]
theorem busiest_eq (hk : 10000 ≤ k) (hg : GD n b e w) (hx : ST ps n P) (hB : AR n B b) (hE : AR n E e) : ((∀ j, j < n → P j = false) ∧ f_X4_busiest k (nI n) ps B E = some (-1)) ∨ ∃ j, j < n ∧ P j = true ∧ LDT n b e P (b j) ∧ f_X4_busiest k (nI n) ps B E = some (nI (b j)) := by
  unfold f_X4_busiest
  rcases X4_ldt hk hg hx hB hE with ⟨h0, h1⟩ | ⟨j, hj, hp, hl2, h1⟩
  · exact Or.inl ⟨h0, by rw [h1, xb_s]⟩
  · exact Or.inr ⟨j, hj, hp, hl2, by rw [h1, xb_s]⟩
theorem depth_eq {t : Nat} (hk : 1000 ≤ k) (hg : GD n b e w) (hx : ST ps n P) (hB : AR n B b) (hE : AR n E e) (ht : t ≤ 1000) : f_X4_depth k (nI t) (nI n) ps B E = some (.ok (nI (dep n b e P t))) := by
  unfold f_X4_depth
  rw [if_neg (nI_pos (by omega)), if_pos (show nI t ≤ 1000 from nI_le (b := 1000) ht (by omega)), depthAt_eq hk hg hx hB hE (by omega), xb_s]
theorem intervals_eq (hn : n ≤ 40) (hx : ST ps n P) : f_X4_intervals k ps = some (nI (fb_ct P n)) := by
  unfold f_X4_intervals
  rw [bitCount_eq, xb_s, hx.cnt (by omega)]
/-- one giving of rooms to all -/
theorem rho_ex (hn : n ≤ 40) : ∃ ρ : Nat → Nat, ∀ j, j < n → P j = true → RmLS n b e P ρ j (ρ j) := by
  have key : ∀ M, ∃ ρ : Nat → Nat, ∀ j, j < n → P j = true → mu b j < M → RmLS n b e P ρ j (ρ j) := by
    intro M
    induction M with
    | zero => exact ⟨fun _ => 0, fun j _ _ h => absurd h (Nat.not_lt_zero _)⟩
    | succ M ih =>
      obtain ⟨ρ, hρ⟩ := ih
      by_cases c : ∃ i, i < n ∧ P i = true ∧ mu b i = M
      · obtain ⟨i, hi, hp, hm⟩ := c
        obtain ⟨r, hr⟩ := RmLS.ex (n := n) (b := b) (e := e) (P := P) ρ i
        have hcong : ∀ j, mu b j < M + 1 → ∀ j', j' < n → P j' = true → mu b j' < mu b j → ρ j' = fs ρ i r j' := by
          intro j hj j' _ _ h
          rw [fs_ne]
          intro q
          rw [q] at h
          omega
        refine ⟨fs ρ i r, fun j hj hpj hmj => ?_⟩
        by_cases d : j = i
        · subst d
          rw [fs_at]
          exact RmLS.cong (hcong j hmj) hr
        · have hne : mu b j ≠ M := by
            intro q
            rw [← hm] at q
            unfold mu at q
            omega
          rw [fs_ne _ _ d]
          exact RmLS.cong (hcong j hmj) (hρ j hj hpj (by omega))
      · exact ⟨ρ, fun j hj hp hm => hρ j hj hp (by
          rcases Nat.lt_or_ge (mu b j) M with h | h
          · exact h
          · exact absurd ⟨j, hj, hp, by omega⟩ c)⟩
  obtain ⟨ρ, hρ⟩ := key (fb_sm (fun i => mu b i + 1) n)
  exact ⟨ρ, fun j hj hp => hρ j hj hp (by have := fb_sm_part (fun i => mu b i + 1) hj; omega)⟩
theorem roomOf_eq {ρ : Nat → Nat} {j : Nat} {cnt : Int32} {N Bg En Wt F : Nat → Int32} (hk : 10000 ≤ k) (hg : GD n b e w) (hb : ∀ i, b i ≤ 1000 ∧ e i ≤ 1000 ∧ w i ≤ 1000) (hx : ST ps n P) (hB : AR n B b) (hE : AR n E e) (hW : AR n W w) (hρ : ∀ j, j < n → P j = true → RmLS n b e P ρ j (ρ j)) (hj : j < n) (hp : P j = true) :
    ∃ cnt' N' Bg' En' Wt' F', f_X4_roomOf k (nI j) (nI n) ps B E W 0 cnt N Bg En Wt F = some (.ok (nI (ρ j), cnt', N', Bg', En', Wt', F')) := by
  have hn := hg.1
  obtain ⟨m, σ, N1, B1, E1, W1, hR, hRW, hfill⟩ := fill_eq (S := P) (byE := false) (cnt := cnt) (N := N) (Bg := Bg) (En := En) (Wt := Wt) hk hn (fun i => by have := hb i; omega) hx hB hE hW
  obtain ⟨ρ2, F1, hρ2, hgiv⟩ := givenTo_eq (F := F) hk hg hR hRW hj hp
  have hu := RmLS.uniq (ρ1 := ρ2) (ρ2 := ρ) (M1 := mu b j + 1) (M2 := mu b j + 1) hρ2 (fun i q1 q2 _ => hρ i q1 q2) (mu b j + 1) j (by omega) hj hp (by omega) (by omega)
  refine ⟨nI m, N1, B1, E1, W1, F1, ?_⟩
  unfold f_X4_roomOf
  rw [requireThere_ok hn hx hj hp, xe_s]
  have hfill2 : f_X4_fill k ps (nI n) B E W 0 cnt N Bg En Wt = some (nI m, N1, B1, E1, W1) := hfill
  rw [hfill2, xb_s]
  try dsimp only
  rw [hgiv, xb_s]
  try dsimp only
  rw [hu]
/-- two that overlap have two rooms -/
theorem rho_ne {ρ : Nat → Nat} (hρ : ∀ j, j < n → P j = true → RmLS n b e P ρ j (ρ j)) (hn : n ≤ 40) {i j : Nat} (hi : i < n) (hj : j < n) (hpi : P i = true) (hpj : P j = true) (hij : i ≠ j) (ho : ovl b e i j = true) : ρ i ≠ ρ j := by
  intro q
  have hne : mu b i ≠ mu b j := by unfold mu; omega
  rcases Nat.lt_or_ge (mu b i) (mu b j) with c | c
  · have := (hρ j hj hpj).1 i hi hpi c q
    rw [ho] at this; cases this
  · have := (hρ i hi hpi).1 j hj hpj (by omega) q.symm
    rw [ovl_comm, ho] at this; cases this
/-- the rooms that are given are the first ones, as many as the greatest depth -/
theorem rho_used {ρ : Nat → Nat} {r : Nat} (hg : GD n b e w) (hρ : ∀ j, j < n → P j = true → RmLS n b e P ρ j (ρ j)) (hr : RV n b e P r) (x : Nat) : (∃ j, j < n ∧ P j = true ∧ ρ j = x) ↔ x < r := by
  have hn := hg.1
  constructor
  · rintro ⟨j, hj, hp, rfl⟩
    have h1 : ρ j + 1 ≤ dep n b e P (b j) := by
      refine ct_many (f := ρ) (fun y hy => ?_)
      by_cases c : y = ρ j
      · refine ⟨j, hj, ?_, c.symm⟩
        have := hg.2 j hj
        simp only [Bool.and_eq_true, decide_eq_true_eq]
        exact ⟨hp, Nat.le_refl _, this.1⟩
      · obtain ⟨i, hi, hpi, hm, hri, ho⟩ := (hρ j hj hp).2 y (by omega)
        refine ⟨i, hi, ?_, hri⟩
        unfold ovl at ho
        simp only [Bool.and_eq_true, decide_eq_true_eq] at ho ⊢
        refine ⟨hpi, ?_, ho.2⟩
        unfold mu at hm
        omega
    have := hr.1 (b j)
    omega
  · intro hx
    apply Classical.byContradiction
    intro hno
    rcases hr.2 with ⟨h0, -⟩ | ⟨t, ht, hpt, hd⟩
    · omega
    · have hlow : ∀ j, j < n → P j = true → ρ j < x := by
        intro j hj hp
        apply Nat.lt_of_not_le
        intro q
        rcases Nat.lt_or_ge x (ρ j) with c | c
        · obtain ⟨i, hi, hpi, -, hri, -⟩ := (hρ j hj hp).2 x c
          exact hno ⟨i, hi, hpi, hri⟩
        · exact hno ⟨j, hj, hp, by omega⟩
      have h2 : dep n b e P (b t) ≤ x := by
        refine ct_few (f := ρ) (fun i hi hq => ?_) (fun i j hi hj hqi hqj hij => ?_)
        · simp only [Bool.and_eq_true, decide_eq_true_eq] at hq
          exact hlow i hi hq.1
        · simp only [Bool.and_eq_true, decide_eq_true_eq] at hqi hqj
          refine rho_ne hρ hn hi hj hqi.1 hqj.1 hij ?_
          unfold ovl
          simp only [Bool.and_eq_true, decide_eq_true_eq]
          omega
      omega
/-- the rooms given to the first a -/
def usd (ρ : Nat → Nat) (P : Nat → Bool) : Nat → Nat → Bool
  | 0 => fun _ => false
  | a + 1 => if P a = true then fs (usd ρ P a) (ρ a) true else usd ρ P a
theorem usd_iff (ρ : Nat → Nat) (P : Nat → Bool) (x : Nat) : ∀ a, usd ρ P a x = true ↔ ∃ j, j < a ∧ P j = true ∧ ρ j = x := by
  intro a
  induction a with
  | zero => exact ⟨fun h => (Bool.noConfusion h), fun ⟨j, hj, _⟩ => absurd hj (Nat.not_lt_zero j)⟩
  | succ a ih =>
    rw [usd]
    by_cases c : P a = true
    · rw [if_pos c]
      by_cases d : x = ρ a
      · subst d
        rw [fs_at]
        exact ⟨fun _ => ⟨a, by omega, c, rfl⟩, fun _ => rfl⟩
      · rw [fs_ne _ _ d, ih]
        constructor
        · rintro ⟨j, h1, h2, h3⟩; exact ⟨j, by omega, h2, h3⟩
        · rintro ⟨j, h1, h2, h3⟩
          refine ⟨j, ?_, h2, h3⟩
          rcases Nat.lt_or_ge j a with q | q
          · exact q
          · rw [show j = a by omega] at h3; exact absurd h3.symm d
    · rw [if_neg c, ih]
      constructor
      · rintro ⟨j, h1, h2, h3⟩; exact ⟨j, by omega, h2, h3⟩
      · rintro ⟨j, h1, h2, h3⟩
        refine ⟨j, ?_, h2, h3⟩
        rcases Nat.lt_or_ge j a with q | q
        · exact q
        · rw [show j = a by omega] at h2; exact absurd h2 c
theorem one_ne0 : ¬ (1 : Int64) = 0 := by decide
theorem L49_eq {ρ : Nat → Nat} {a : Nat} {v1 : Int32} {v2 : Int64} (hk : 10000 ≤ k) (hg : GD n b e w) (hb : ∀ i, b i ≤ 1000 ∧ e i ≤ 1000 ∧ w i ≤ 1000) (hx : ST ps n P) (hB : AR n B b) (hE : AR n E e) (hW : AR n W w) (hρ : ∀ j, j < n → P j = true → RmLS n b e P ρ j (ρ j)) (ha : a < n) (hp : P a = true)
    {κ : Int32 → Int32 → (Nat → Int32) → (Nat → Int32) → (Nat → Int32) → (Nat → Int32) → (Nat → Int32) → Option (Int32 × Int32 × (Nat → Int32) × (Nat → Int32) × (Nat → Int32) × (Nat → Int32) × (Nat → Int32))} {Qp : Option (Int32 × Int32 × (Nat → Int32) × (Nat → Int32) × (Nat → Int32) × (Nat → Int32) × (Nat → Int32)) → Prop} (hQ : ∀ v c N Bg En Wt F, Qp (κ v c N Bg En Wt F)) (cnt : Int32) (N Bg En Wt F : Nat → Int32) :
    Qp (f_L_areRoomsSo_L49 k v1 v2 (nI a) (nI (ρ a)) (nI n) ps B E W 0 κ k 0 cnt N Bg En Wt F) := by
  have hn := hg.1
  refine loopE (fun f (s : Int32 × Int32 × (Nat → Int32) × (Nat → Int32) × (Nat → Int32) × (Nat → Int32) × (Nat → Int32)) => f_L_areRoomsSo_L49 k v1 v2 (nI a) (nI (ρ a)) (nI n) ps B E W 0 κ f s.1 s.2.1 s.2.2.1 s.2.2.2.1 s.2.2.2.2.1 s.2.2.2.2.2.1 s.2.2.2.2.2.2) Qp a (fun i s => s.1 = nI i) ?_ ?_ k (0, cnt, N, Bg, En, Wt, F) (by omega) rfl
  · rintro f i ⟨x, c0, N0, B0, E0, W0, F0⟩ hi rfl
    refine Or.inl ?_
    try dsimp only
    obtain ⟨r1, g1, g2⟩ := overlapping_eq (k := k) (by omega) hg hx hB hE ha hp
    have hin : i < n := by omega
    rw [f_L_areRoomsSo_L49_s, if_neg (nI_ge hi (by omega)), g1, xo_s, shr_bit (by omega), g2.at hin hn, nI_1]
    cases ho : (P i && (ovl b e i a && !decide (i = a))) with
    | false =>
      rw [if_neg (show ¬ false = true by decide), if_neg (fun q => one_ne0 ((cmp_0 _ _).mp q).symm)]
      exact ⟨(nI (i + 1), c0, N0, B0, E0, W0, F0), rfl, rfl⟩
    | true =>
      have ho2 := ho
      simp only [Bool.and_eq_true] at ho2
      obtain ⟨hpi, hov, -⟩ := ho2
      obtain ⟨c1, N1, B1, E1, W1, F1, hr⟩ := roomOf_eq (cnt := c0) (N := N0) (Bg := B0) (En := E0) (Wt := W0) (F := F0) hk hg hb hx hB hE hW hρ hin hpi
      obtain ⟨r2, g3, g4⟩ := overlapping_eq (k := k) (by omega) hg hx hB hE hin hpi
      have hne := rho_ne hρ hn hin ha hpi hp (by omega) hov
      have hl1 := (hρ i hin hpi).lt hin
      have hl2 := (hρ a ha hp).lt ha
      have hbit : bs r2 a = true := by
        rw [g4.at ha hn, hp, ovl_comm, hov, decide_eq_false (show ¬ a = i by omega)]; rfl
      rw [if_pos rfl, if_pos ((cmp_0 _ _).mpr rfl), hr, xo_s]
      try dsimp only
      rw [if_neg (fun q => hne ((nI_eq (by omega) (by omega)).mp q)), g3, xo_s, shr_bit (by omega), hbit, if_pos rfl, if_neg (fun q => one_ne0 ((cmp_0 _ _).mp q))]
      exact ⟨(nI (i + 1), c1, N1, B1, E1, W1, F1), rfl, rfl⟩
  · rintro f ⟨x, c0, N0, B0, E0, W0, F0⟩ rfl
    try dsimp only
    rw [f_L_areRoomsSo_L49_s, if_pos (nI_le (Nat.le_refl _) (by omega))]
    exact hQ _ _ _ _ _ _ _
theorem L10_eq {ρ : Nat → Nat} {v1 : Int32} (hk : 10000 ≤ k) (hg : GD n b e w) (hb : ∀ i, b i ≤ 1000 ∧ e i ≤ 1000 ∧ w i ≤ 1000) (hx : ST ps n P) (hB : AR n B b) (hE : AR n E e) (hW : AR n W w) (hρ : ∀ j, j < n → P j = true → RmLS n b e P ρ j (ρ j))
    {κ : Int64 → Int32 → Int32 → (Nat → Int32) → (Nat → Int32) → (Nat → Int32) → (Nat → Int32) → (Nat → Int32) → Option (Int32 × Int32 × (Nat → Int32) × (Nat → Int32) × (Nat → Int32) × (Nat → Int32) × (Nat → Int32))} {Qp : Option (Int32 × Int32 × (Nat → Int32) × (Nat → Int32) × (Nat → Int32) × (Nat → Int32) × (Nat → Int32)) → Prop} (hQ : ∀ u v c N Bg En Wt F, ST u 40 (usd ρ P n) → Qp (κ u v c N Bg En Wt F)) (cnt : Int32) (N Bg En Wt F : Nat → Int32) :
    Qp (f_L_areRoomsSo_L10 k v1 (nI n) ps B E W 0 κ k 0 0 cnt N Bg En Wt F) := by
  have hn := hg.1
  refine loopE (fun f (s : Int64 × Int32 × Int32 × (Nat → Int32) × (Nat → Int32) × (Nat → Int32) × (Nat → Int32) × (Nat → Int32)) => f_L_areRoomsSo_L10 k v1 (nI n) ps B E W 0 κ f s.1 s.2.1 s.2.2.1 s.2.2.2.1 s.2.2.2.2.1 s.2.2.2.2.2.1 s.2.2.2.2.2.2.1 s.2.2.2.2.2.2.2) Qp 40 (fun i s => s.2.1 = nI i ∧ ST s.1 40 (usd ρ P (min i n))) ?_ ?_ k (0, 0, cnt, N, Bg, En, Wt, F) (by omega) ⟨rfl, ?_⟩
  · rintro f i ⟨u, x, c0, N0, B0, E0, W0, F0⟩ hi ⟨rfl, hu⟩
    try dsimp only at hu ⊢
    rw [f_L_areRoomsSo_L10_s, if_neg (show ¬ (40 : Int32) ≤ nI i from nI_ge (b := 40) hi (by omega))]
    unfold f_X4_present
    rw [xb_s, shr_bit (by omega), nI_1]
    have hbs : bs ps i = (decide (i < n) && P i) := hx i (by omega)
    cases ho : (decide (i < n) && P i) with
    | false =>
      refine Or.inl ?_
      rw [hbs, ho, if_neg (show ¬ false = true by decide), if_neg (fun q => one_ne0 ((cmp_0 _ _).mp q).symm)]
      refine ⟨(u, nI (i + 1), c0, N0, B0, E0, W0, F0), ⟨rfl, ?_⟩, rfl⟩
      try dsimp only
      by_cases c : i < n
      · have hpf : ¬ P i = true := by
          intro q
          rw [q, decide_eq_true c] at ho
          cases ho
        rw [show min (i + 1) n = min i n + 1 by omega, usd, show min i n = i by omega, if_neg hpf]
        rw [show min i n = i by omega] at hu
        exact hu
      · rw [show min (i + 1) n = min i n by omega]; exact hu
    | true =>
      have ho2 := ho
      simp only [Bool.and_eq_true, decide_eq_true_eq] at ho2
      obtain ⟨hin, hpi⟩ := ho2
      have hl := (hρ i hin hpi).lt hin
      obtain ⟨c1, N1, B1, E1, W1, F1, hr⟩ := roomOf_eq (cnt := c0) (N := N0) (Bg := B0) (En := E0) (Wt := W0) (F := F0) hk hg hb hx hB hE hW hρ hin hpi
      rw [hbs, ho, if_pos rfl, if_pos ((cmp_0 _ _).mpr rfl), hr, xo_s]
      try dsimp only
      rw [shl_eq (by omega)]
      have hu2 : ST (u ||| lN (2 ^ ρ i)) 40 (usd ρ P (min (i + 1) n)) := by
        rw [show min (i + 1) n = min i n + 1 by omega, usd, show min i n = i by omega, if_pos hpi]
        rw [show min i n = i by omega] at hu
        exact hu.set (by omega) (by omega)
      refine Or.inl (L49_eq (Qp := fun res => ∃ s' : Int64 × Int32 × Int32 × (Nat → Int32) × (Nat → Int32) × (Nat → Int32) × (Nat → Int32) × (Nat → Int32), (s'.2.1 = nI (i + 1) ∧ ST s'.1 40 (usd ρ P (min (i + 1) n))) ∧ res = f_L_areRoomsSo_L10 k v1 (nI n) ps B E W 0 κ f s'.1 s'.2.1 s'.2.2.1 s'.2.2.2.1 s'.2.2.2.2.1 s'.2.2.2.2.2.1 s'.2.2.2.2.2.2.1 s'.2.2.2.2.2.2.2) hk hg hb hx hB hE hW hρ hin hpi (fun v c2 N2 B2 E2 W2 F2 => ⟨(u ||| lN (2 ^ ρ i), nI (i + 1), c2, N2, B2, E2, W2, F2), ⟨rfl, hu2⟩, rfl⟩) c1 N1 B1 E1 W1 F1)
  · rintro f ⟨u, x, c0, N0, B0, E0, W0, F0⟩ ⟨rfl, hu⟩
    try dsimp only at hu ⊢
    rw [f_L_areRoomsSo_L10_s, if_pos (by decide)]
    rw [show min 40 n = n by omega] at hu
    exact hQ _ _ _ _ _ _ _ _ hu
  · try dsimp only
    rw [show min 0 n = 0 by omega]
    intro i hi
    rw [bs_0, usd, Bool.and_false]
theorem L178_eq {r : Nat} {v4 : Int32} (hk : 10000 ≤ k) (hg : GD n b e w) (hx : ST ps n P) (hB : AR n B b) (hE : AR n E e) (hr : RV n b e P r) (hrn : r ≤ n) (h4 : ∀ t, t ≤ 100 → v4 ≤ nI t ∨ dep n b e P t < r)
    {κ : Int32 → Int32 → Option (Int32 × Int32 × (Nat → Int32) × (Nat → Int32) × (Nat → Int32) × (Nat → Int32) × (Nat → Int32))} {res : Option (Int32 × Int32 × (Nat → Int32) × (Nat → Int32) × (Nat → Int32) × (Nat → Int32) × (Nat → Int32))} (hκ : ∀ v, κ 1 v = res) : f_L_areRoomsSo_L178 k (nI r) v4 (nI n) ps B E κ k 1 0 = res := by
  have hn := hg.1
  refine loopG (fun f (v : Int32 × Int32) => f_L_areRoomsSo_L178 k (nI r) v4 (nI n) ps B E κ f v.1 v.2) res 101 (fun i => (1, nI i)) (fun f i hi => ?_) (fun f => ?_) k (by omega)
  · have hd := hr.1 i
    have hdl := dep_le (n := n) (b := b) (e := e) (P := P) i
    try dsimp only
    rw [f_L_areRoomsSo_L178_s, if_neg (show ¬ (100 : Int32) < nI i from nI_nlt (a := 100) (b := i) (by omega) (by omega)), if_neg (by decide), depth_eq (by omega) hg hx hB hE (by omega), xo_s, if_neg (nI_nlt hd (by omega)), nI_1]
    by_cases c : v4 ≤ nI i
    · rw [if_pos c]
    · rw [if_neg c, xo_s, if_neg (fun q => by
        rw [nI_leI (by omega) (by omega)] at q
        rcases h4 i (by omega) with h | h
        · exact c h
        · omega)]
  · try dsimp only
    rw [f_L_areRoomsSo_L178_s, if_pos (by decide)]
    exact hκ _
theorem areRoomsSo_eq (hk : 10000 ≤ k) (hg : GD n b e w) (hb : ∀ i, b i ≤ 1000 ∧ e i ≤ 1000 ∧ w i ≤ 1000) (hx : ST ps n P) (hB : AR n B b) (hE : AR n E e) (hW : AR n W w) (cnt : Int32) (N Bg En Wt F : Nat → Int32) :
    ∃ c' N' Bg' En' Wt' F', f_L_areRoomsSo k (nI n) ps B E W 0 cnt N Bg En Wt F = some (1, c', N', Bg', En', Wt', F') := by
  have hn := hg.1
  obtain ⟨r, hrn, hr, hrooms⟩ := rooms_eq hk hg hx hB hE
  obtain ⟨ρ, hρ⟩ := rho_ex (n := n) (b := b) (e := e) (P := P) hn
  unfold f_L_areRoomsSo
  rw [hrooms, xb_s]
  refine L10_eq (Qp := fun res => ∃ c' N' Bg' En' Wt' F', res = some (1, c', N', Bg', En', Wt', F')) hk hg hb hx hB hE hW hρ (fun u v c N Bg En Wt F hu => ?_) cnt N Bg En Wt F
  refine ⟨c, N, Bg, En, Wt, F, ?_⟩
  have hu2 : u = ((1 : Int64) <<< ((nI r : Int32).toInt64 &&& 63)) - 1 := by
    rw [shl_eq (by omega), lN_pred (Nat.two_pow_pos r)]
    refine ST.eq (hu.cong (P2 := fun i => decide (i < r)) fun i hi => ?_) (fun i hi => ?_)
    · rw [Bool.eq_iff_iff, usd_iff, decide_eq_true_eq]
      exact rho_used hg hρ hr i
    · rw [bs_lN, Nat.testBit_two_pow_sub_one, decide_eq_true hi, Bool.true_and]
      by_cases c : i < r
      · rw [decide_eq_true c, decide_eq_true (show i < 40 by omega)]; rfl
      · rw [decide_eq_false c, Bool.and_false]
  have hct := fb_ct_le P n
  have hI := intervals_eq (k := k) hn hx
  have hbits := bits_eq (k := k) (by omega) hn hx
  rcases busiest_eq hk hg hx hB hE with ⟨h0, hbu⟩ | ⟨j, hj, hp, hl, hbu⟩
  · have hz : fb_ct P n = 0 := fb_ct_zero.mpr h0
    rw [hbu, xb_s]
    simp only [xj_s]
    rw [if_pos ((cmp_0 _ _).mpr hu2), if_neg (by decide), hI, xb_s, if_pos (by rw [hz]; rfl), if_pos trivial]
    unfold f_X4_present
    rw [xb_s, hbits, xb_s, xb_s, if_pos rfl]
    refine L178_eq hk hg hx hB hE hr hrn (fun t ht => Or.inl ?_) (fun v => ?_)
    · rw [fa_le, nI_toInt (by omega)]
      show (-1 : Int) ≤ _
      omega
    · rw [if_neg (by decide), if_pos (by decide)]
  · have hgj := hg.2 j hj
    have hz : 0 < fb_ct P n := fb_ct_pos.mpr ⟨j, hj, hp⟩
    have hrd : dep n b e P (b j) = r := by
      have h1 := hr.1 (b j)
      rcases hr.2 with ⟨h2, -⟩ | ⟨i, hi, hpi, h2⟩
      · omega
      · have := hl.1 (b i); omega
    rw [hbu, xb_s]
    simp only [xj_s]
    rw [if_pos ((cmp_0 _ _).mpr hu2), if_pos (show (0 : Int32) ≤ nI (b j) from nI_pos' (by omega)), hI, xb_s, if_neg (nI_ne0 hz (by omega)), if_pos trivial]
    unfold f_X4_present
    rw [xb_s, hbits, xb_s, xb_s, if_pos rfl]
    refine L178_eq hk hg hx hB hE hr hrn (fun t ht => ?_) (fun v => ?_)
    · rcases Nat.lt_or_ge t (b j) with h | h
      · exact Or.inr (by have := hl.2 t h; omega)
      · exact Or.inl (nI_le h (by omega))
    · rw [if_neg (by decide), if_neg (nI_pos (by omega)), depth_eq (by omega) hg hx hB hE (by omega), xo_s, if_pos (by rw [hrd])]
end RA
