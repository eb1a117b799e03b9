/-! heaviestRound: the model's side. -/
section HM
variable {k n p : Nat} {P : Nat → Bool} {b e w : Nat → Nat} {B E W T : Nat → Int32}
theorem circ_common {i j : Nat} (hg : GD n b e w) (hi : i < n) (hj : j < n) (hp : 1 ≤ p) : (∃ t, t < p ∧ dst p (b j % p) t < e j - b j ∧ dst p (b i % p) t < e i - b i) ↔ CM p b e j i = true := by
  have hgi := hg.2 i hi
  have hgj := hg.2 j hj
  have hri := Nat.mod_lt (b i) hp
  have hrj := Nat.mod_lt (b j) hp
  have a1 := dst_spec hri hrj
  have a2 := dst_spec hrj hri
  rw [CM_iff]
  constructor
  · rintro ⟨t, ht, h1, h2⟩
    have a3 := dst_spec hrj ht
    have a4 := dst_spec hri ht
    omega
  · rintro (h | h)
    · refine ⟨b i % p, hri, h, ?_⟩
      have := dst_spec hri hri
      omega
    · refine ⟨b j % p, hrj, ?_, h⟩
      have := dst_spec hrj hrj
      omega
theorem planBeside_L83 {i j : Nat} {c0 : Bool} {Ct : Nat → Int32} {Qp : Option (Int32 × (Nat → Int32) × (Nat → Int32) × (Nat → Int32) × (Nat → Int32)) → Prop} {κ : Int32 → (Nat → Int32) → Option (Int32 × (Nat → Int32) × (Nat → Int32) × (Nat → Int32) × (Nat → Int32))} (hk : 10000 ≤ k) (hg : GD n b e w) (hB : AR n B b) (hE : AR n E e) (hp : 1 ≤ p) (hp2 : p ≤ 1000) (hi : i < n) (hj : j < n) (hc : Ct j = if c0 = true then 1 else 0)
    (hQ : ∀ v C', (∀ q, q ≠ j → C' q = Ct q) → (C' j = if (c0 && !CM p b e j i) = true then 1 else 0) → Qp (κ v C')) : Qp (f_X5_planBeside_L83 k (nI i) (nI p) (nI j) B E κ k 0 Ct) := by
  have hn := hg.1
  have hcom := circ_common (p := p) hg hi hj hp
  refine loopE (fun f (s : Int32 × (Nat → Int32)) => f_X5_planBeside_L83 k (nI i) (nI p) (nI j) B E κ f s.1 s.2) Qp p
    (fun t s => s.1 = nI t ∧ (∀ q, q ≠ j → s.2 q = Ct q) ∧ ((c0 = true ∧ s.2 j = 1 ∧ ∀ u, u < t → ¬ (dst p (b j % p) u < e j - b j ∧ dst p (b i % p) u < e i - b i)) ∨ (s.2 j = 0 ∧ (c0 = true → CM p b e j i = true))))
    ?_ ?_ k (0, Ct) (by omega) ⟨rfl, fun q _ => rfl, ?_⟩
  · rintro f t ⟨v, C1⟩ ht ⟨rfl, h1, h2⟩
    dsimp only at h1 h2 ⊢
    rw [f_X5_planBeside_L83_s, if_neg (nI_ge ht (by omega)), xi_nI (by omega) (by omega), nI_clamp (show j < 2 ^ 31 by omega)]
    rcases h2 with ⟨hc1, hc2, hc3⟩ | ⟨hc1, hc2⟩
    · refine Or.inl ?_
      have hup : ∀ y : Int32, ∀ q, q ≠ j → upd C1 j y q = Ct q := fun y q hq => by
        unfold upd; rw [if_neg hq]; exact h1 q hq
      have hat : ∀ y : Int32, upd C1 j y j = y := fun y => by unfold upd; rw [if_pos rfl]
      have no : ¬ (dst p (b j % p) t < e j - b j ∧ dst p (b i % p) t < e i - b i) → ∃ s' : Int32 × (Nat → Int32), (s'.1 = nI (t + 1) ∧ (∀ q, q ≠ j → s'.2 q = Ct q) ∧ ((c0 = true ∧ s'.2 j = 1 ∧ ∀ u, u < t + 1 → ¬ (dst p (b j % p) u < e j - b j ∧ dst p (b i % p) u < e i - b i)) ∨ (s'.2 j = 0 ∧ (c0 = true → CM p b e j i = true)))) ∧ f_X5_planBeside_L83 k (nI i) (nI p) (nI j) B E κ f (nI t + 1) (upd C1 j (vp_nar .boolean 1)) = f_X5_planBeside_L83 k (nI i) (nI p) (nI j) B E κ f s'.1 s'.2 := by
        intro hno
        refine ⟨(nI (t + 1), upd C1 j 1), ⟨rfl, hup 1, Or.inl ⟨hc1, hat 1, fun u hu => ?_⟩⟩, by rw [nI_1, nar_1]⟩
        rcases Nat.lt_or_ge u t with h | h
        · exact hc3 u h
        · have : u = t := by omega
          rw [this]; exact hno
      rw [if_neg (by rw [hc2]; decide), if_neg (nI_nem1 (by omega)), takes_eq hg hB hE hj hp hp2 ht, xb_s]
      by_cases c1 : dst p (b j % p) t < e j - b j
      · rw [if_neg (by rw [if_pos c1]; decide), takes_eq hg hB hE hi hp hp2 ht, xb_s]
        by_cases c2 : dst p (b i % p) t < e i - b i
        · rw [if_neg (by rw [if_pos c2]; decide), xi_nI (by omega) (by omega)]
          refine ⟨(nI (t + 1), upd C1 j 0), ⟨rfl, hup 0, Or.inr ⟨hat 0, fun _ => hcom.mp ⟨t, ht, c1, c2⟩⟩⟩, by rw [nI_1, nar_0]⟩
        · rw [if_pos (by rw [if_neg c2]), xi_nI (by omega) (by omega)]
          exact no fun q => c2 q.2
      · rw [if_pos (by rw [if_neg c1]), xi_nI (by omega) (by omega)]
        exact no fun q => c1 q.1
    · refine Or.inr ?_
      rw [if_pos hc1]
      refine hQ _ _ h1 ?_
      rw [hc1]
      cases h9 : c0 with
      | false => rfl
      | true => rw [hc2 h9]; rfl
  · rintro f ⟨v, C1⟩ ⟨rfl, h1, h2⟩
    dsimp only at h1 h2 ⊢
    rw [f_X5_planBeside_L83_s, if_pos (nI_le (Nat.le_refl _) (by omega))]
    refine hQ _ _ h1 ?_
    rcases h2 with ⟨hc1, hc2, hc3⟩ | ⟨hc1, hc2⟩
    · have : CM p b e j i = false := bool_false_iff.mpr fun h => by
        obtain ⟨t, ht, q⟩ := hcom.mpr h
        exact hc3 t ht q
      rw [hc2, hc1, this]; rfl
    · rw [hc1]
      cases h9 : c0 with
      | false => rfl
      | true => rw [hc2 h9]; rfl
  · dsimp only
    cases h9 : c0 with
    | false => exact Or.inr ⟨by rw [hc, h9]; rfl, fun q => by cases q⟩
    | true => exact Or.inl ⟨rfl, by rw [hc, h9]; rfl, fun u hu => absurd hu (Nat.not_lt_zero u)⟩
/-- the anchor: none, or a number -/
def ANC (n p : Nat) (b e : Nat → Nat) (v1 : Int32) (X : Nat → Bool) : Prop := (v1 = -1 ∧ X = fun _ => true) ∨ ∃ i, i < n ∧ v1 = nI i ∧ X = fun j => !CM p b e j i
def t0 (p : Nat) (b e : Nat → Nat) (j : Nat) : Bool := decide (dst p (b j % p) 0 < e j - b j)
theorem planBeside_any {v1 : Int32} {X : Nat → Bool} {j : Nat} {c0 : Bool} {Ct : Nat → Int32} {Qp : Option (Int32 × (Nat → Int32) × (Nat → Int32) × (Nat → Int32) × (Nat → Int32)) → Prop} {κ : Int32 → (Nat → Int32) → Option (Int32 × (Nat → Int32) × (Nat → Int32) × (Nat → Int32) × (Nat → Int32))} (hk : 10000 ≤ k) (hg : GD n b e w) (hB : AR n B b) (hE : AR n E e) (hp : 1 ≤ p) (hp2 : p ≤ 1000) (hX : ANC n p b e v1 X) (hj : j < n) (hc : Ct j = if c0 = true then 1 else 0)
    (hQ : ∀ v C', (∀ q, q ≠ j → C' q = Ct q) → (C' j = if (c0 && X j) = true then 1 else 0) → Qp (κ v C')) : Qp (f_X5_planBeside_L83 k v1 (nI p) (nI j) B E κ k 0 Ct) := by
  have hn := hg.1
  rcases hX with ⟨rfl, rfl⟩ | ⟨i, hi, rfl, rfl⟩
  · obtain ⟨k', rfl⟩ : ∃ q, k = q + 1 := ⟨k - 1, by omega⟩
    rw [f_X5_planBeside_L83_s, if_neg (show ¬ nI p ≤ (0 : Int32) from nI_nle (by omega) (by omega)), xi_nI (by omega) (by omega), nI_clamp (show j < 2 ^ 31 by omega), if_pos rfl]
    have := hQ 0 Ct (fun q _ => rfl) (by rw [hc, Bool.and_true])
    by_cases c : Ct j = 0
    · rw [if_pos c]; exact this
    · rw [if_neg c]; exact this
  · exact planBeside_L83 hk hg hB hE hp hp2 hi hj hc hQ
theorem planBeside_L2 {v1 : Int32} {X : Nat → Bool} {Fr To Ct : Nat → Int32} {Qp : Option (Int32 × (Nat → Int32) × (Nat → Int32) × (Nat → Int32) × (Nat → Int32)) → Prop} {κ : Int32 → (Nat → Int32) → (Nat → Int32) → (Nat → Int32) → Option (Int32 × (Nat → Int32) × (Nat → Int32) × (Nat → Int32) × (Nat → Int32))} (hk : 10000 ≤ k) (hg : GD n b e w) (hT : BZ n T P) (hB : AR n B b) (hE : AR n E e) (hp : 1 ≤ p) (hp2 : p ≤ 1000) (hX : ANC n p b e v1 X)
    (hQ : ∀ v F' T' C', AR n F' (bu p 0 b) → AR n T' (bz p 0 b e) → BZ n C' (fun j => (P j && !t0 p b e j) && X j) → Qp (κ v F' T' C')) : Qp (f_X5_planBeside_L2 k v1 (nI p) (nI n) B E T κ k 0 Fr To Ct) := by
  have hn := hg.1
  refine loopE (fun f (s : Int32 × (Nat → Int32) × (Nat → Int32) × (Nat → Int32)) => f_X5_planBeside_L2 k v1 (nI p) (nI n) B E T κ f s.1 s.2.1 s.2.2.1 s.2.2.2) Qp n
    (fun i s => s.1 = nI i ∧ AR i s.2.1 (bu p 0 b) ∧ AR i s.2.2.1 (bz p 0 b e) ∧ BZ i s.2.2.2 (fun j => (P j && !t0 p b e j) && X j)) ?_ ?_ k (0, Fr, To, Ct) (by omega) ⟨rfl, fun i h => absurd h (Nat.not_lt_zero i), fun i h => absurd h (Nat.not_lt_zero i), fun i h => absurd h (Nat.not_lt_zero i)⟩
  · rintro f i ⟨y, A1, A2, A3⟩ hi ⟨rfl, i1, i2, i3⟩
    dsimp only at i1 i2 i3 ⊢
    have hgi := hg.2 i hi
    have hri := Nat.mod_lt (b i) hp
    have arr : ∀ {A : Nat → Int32} {a : Nat → Nat}, AR i A a → AR (i + 1) (upd A i (nI (a i))) a := fun h j hj => by
      unfold upd
      by_cases c : j = i
      · rw [if_pos c, c]
      · rw [if_neg c]; exact h j (by omega)
    have e1 : b i % p = bu p 0 b i := by unfold bu; rw [Nat.zero_mod, dst_z]
    have e2 : nI (b i % p) + nI (e i) - nI (b i) = nI (bz p 0 b e i) := by
      rw [nI_add, pk_sub (by omega)]
      refine congrArg nI ?_
      unfold bz
      rw [← e1]; omega
    have at1 : ∀ (A : Nat → Int32) (y : Int32), upd A i y i = y := fun A y => by unfold upd; rw [if_pos rfl]
    have ne1 : ∀ (A : Nat → Int32) (y : Int32) q, q ≠ i → upd A i y q = A q := fun A y q h => by unfold upd; rw [if_neg h]
    rw [f_X5_planBeside_L2_s, if_neg (nI_ge hi (by omega)), xi_nI (by omega) (by omega), xd_p hp (by omega), nI_clamp (show i < 2 ^ 31 by omega), hB i hi, hE i hi, pk_rem (by omega) hp (by omega), at1, e2, e1]
    simp (disch := omega) only [xi_nI, xj_s]
    have main : ∀ x : Int32, x = (if (P i && !t0 p b e i) = true then 1 else 0) → (fun res => (∃ s' : Int32 × (Nat → Int32) × (Nat → Int32) × (Nat → Int32), (s'.1 = nI (i + 1) ∧ AR (i + 1) s'.2.1 (bu p 0 b) ∧ AR (i + 1) s'.2.2.1 (bz p 0 b e) ∧ BZ (i + 1) s'.2.2.2 (fun j => (P j && !t0 p b e j) && X j)) ∧ res = f_X5_planBeside_L2 k v1 (nI p) (nI n) B E T κ f s'.1 s'.2.1 s'.2.2.1 s'.2.2.2) ∨ Qp res) (f_X5_planBeside_L83 k v1 (nI p) (nI i) B E (fun v4_27 A_counts_28 => f_X5_planBeside_L2 k v1 (nI p) (nI n) B E T κ f (nI i + 1) (upd A1 i (nI (bu p 0 b i))) (upd A2 i (nI (bz p 0 b e i))) A_counts_28) k 0 (upd A3 i x)) := by
      intro x hx
      refine planBeside_any (Ct := upd A3 i x) (c0 := P i && !t0 p b e i) (Qp := fun res => (∃ s' : Int32 × (Nat → Int32) × (Nat → Int32) × (Nat → Int32), (s'.1 = nI (i + 1) ∧ AR (i + 1) s'.2.1 (bu p 0 b) ∧ AR (i + 1) s'.2.2.1 (bz p 0 b e) ∧ BZ (i + 1) s'.2.2.2 (fun j => (P j && !t0 p b e j) && X j)) ∧ res = f_X5_planBeside_L2 k v1 (nI p) (nI n) B E T κ f s'.1 s'.2.1 s'.2.2.1 s'.2.2.2) ∨ Qp res) hk hg hB hE hp hp2 hX hi (by rw [at1, hx]) fun v C' h1 h2 => ?_
      refine Or.inl ⟨(nI (i + 1), upd A1 i (nI (bu p 0 b i)), upd A2 i (nI (bz p 0 b e i)), C'), ⟨rfl, arr i1, arr i2, fun j hj => ?_⟩, by rw [nI_1]⟩
      by_cases c : j = i
      · subst c; exact h2
      · dsimp only
        rw [h1 j c, ne1 _ _ _ c]
        exact i3 j (by omega)
    by_cases hpi : P i = true
    · have ht0 : f_X5_takes k (nI i) 0 (nI p) B E = some (if dst p (b i % p) 0 < e i - b i then 1 else 0) := takes_eq (t := 0) hg hB hE hi hp hp2 (by omega)
      rw [if_neg (by rw [bz_0 hT hi, hpi]; simp), ht0, xb_s]
      by_cases c : dst p (b i % p) 0 < e i - b i
      · rw [if_pos c, if_neg (by decide)]
        exact main _ (by rw [show t0 p b e i = true from decide_eq_true c, Bool.not_true, Bool.and_false]; rfl)
      · rw [if_neg c, if_pos rfl]
        exact main _ (by rw [show t0 p b e i = false from decide_eq_false c, hpi]; rfl)
    · rw [if_pos (by rw [bz_0 hT hi]; simpa using hpi)]
      exact main _ (by rw [bool_false_iff.mpr hpi]; rfl)
  · rintro f ⟨y, A1, A2, A3⟩ ⟨rfl, i1, i2, i3⟩
    dsimp only
    rw [f_X5_planBeside_L2_s, if_pos (nI_le (Nat.le_refl _) (by omega))]
    exact hQ _ _ _ _ i1 i2 i3
theorem planBeside_eq {v1 : Int32} {X : Nat → Bool} {Be Fr To Ct : Nat → Int32} (hk : 10000 ≤ k) (hg : GD n b e w) (hT : BZ n T P) (hB : AR n B b) (hE : AR n E e) (hW : AR n W w) (hp : 1 ≤ p) (hp2 : p ≤ 1000) (hX : ANC n p b e v1 X) :
    ∃ v A' F' T' C', IsM n (CM p b e) w (fun j => (P j = true ∧ t0 p b e j = false) ∧ X j = true) v ∧ f_X5_planBeside k v1 (nI p) (nI n) B E W T Be Fr To Ct = (if v1 = (-1) then some (nI v + 0, A', F', T', C') else xi v1 40 (some (nI v + W v1.toNatClampNeg, A', F', T', C'))) := by
  have hn := hg.1
  have hu : ∀ j, bu p 0 b j < p := fun j => (dst_spec (Nat.mod_lt _ hp) (Nat.mod_lt _ hp)).1
  unfold f_X5_planBeside
  refine planBeside_L2 (X := X) (P := P) (Qp := fun res => ∃ v A' F' T' C', IsM n (CM p b e) w (fun j => (P j = true ∧ t0 p b e j = false) ∧ X j = true) v ∧ res = (if v1 = (-1) then some (nI v + 0, A', F', T', C') else xi v1 40 (some (nI v + W v1.toNatClampNeg, A', F', T', C')))) hk hg hT hB hE hp hp2 hX fun v F' T' C' h1 h2 h3 => ?_
  try dsimp only
  obtain ⟨v, A', hv, hpl⟩ := plan_eq (k := k) (l := p) (C := fun j => (P j && !t0 p b e j) && X j) (a := bu p 0 b) (z := bz p 0 b e) (w := w) (A := Be) hk hn hp2 (fun i hi _ => by
    have := hg.2 i hi
    have := hu i
    have e2 : bz p 0 b e i = bu p 0 b i + (e i - b i) := rfl
    omega) (fun i hi => (hg.2 i hi).2.2.2) hW (fun i hi _ => ⟨h1 i hi, h2 i hi⟩) h3
  have hbz : ∀ j, j < n → t0 p b e j = false → bz p 0 b e j ≤ p := fun j hj h => by
    have hgj := hg.2 j hj
    have hrj := Nat.mod_lt (b j) hp
    have h4 := of_decide_eq_false h
    have a1 := dst_spec (t := 0) hrj (by omega)
    have e2 : bz p 0 b e j = bu p 0 b j + (e j - b j) := rfl
    have e3 : bu p 0 b j = b j % p := by unfold bu; rw [Nat.zero_mod, dst_z]
    omega
  refine ⟨v, A', F', T', C', ?_, ?_⟩
  · have hv2 := hv.cong (Q2 := fun j => (P j = true ∧ t0 p b e j = false) ∧ X j = true) fun j hj => by
      rw [Bool.and_eq_true, Bool.and_eq_true, Bool.not_eq_true']
      exact ⟨fun h => h.1, fun h => ⟨h, hbz j hj h.1.2⟩⟩
    refine hv2.rel fun i j hi hj hqi hqj hne => ?_
    have hgi := hg.2 i hi
    have hgj := hg.2 j hj
    rw [Bool.eq_iff_iff, CM_iff]
    simp only [ovl, Bool.and_eq_true, decide_eq_true_eq]
    exact circ_lin (p := p) (c := 0 % p) (Nat.mod_lt _ hp) (Nat.mod_lt _ hp) (Nat.mod_lt _ hp) (by omega) (by omega) (hbz i hi hqi.1.2) (hbz j hj hqj.1.2)
  · rw [hpl, xb_s]
theorem X5_heaviestRound_L23_eq {th v0 : Int32} {Be Fr To Ct : Nat → Int32} (hk : 10000 ≤ k) (hg : GD n b e w) (hT : BZ n T P) (hB : AR n B b) (hE : AR n E e) (hW : AR n W w) (hp : 1 ≤ p) (hp2 : p ≤ 1000) {M0 : Nat} (h0 : IsM n (CM p b e) w (fun j => P j = true ∧ t0 p b e j = false) M0) :
    ∃ v A' F' T' C', IsM n (CM p b e) w (fun j => P j = true) v ∧ f_X5_heaviestRound_L23 k (nI p) (nI n) B E W T (fun (v2_33 : Int32) (v3_34 : Int32) (A_best_35 : Nat → Int32) (A_froms_36 : Nat → Int32) (A_tos_37 : Nat → Int32) (A_counts_38 : Nat → Int32) => some (v2_33, th, A_best_35, A_froms_36, A_tos_37, A_counts_38)) k (nI M0) 0 Be Fr To Ct = some (nI v, th, A', F', T', C') := by
  have hn := hg.1
  refine loopE (fun f (s : Int32 × Int32 × (Nat → Int32) × (Nat → Int32) × (Nat → Int32) × (Nat → Int32)) => f_X5_heaviestRound_L23 k (nI p) (nI n) B E W T (fun (v2_33 : Int32) (v3_34 : Int32) (A_best_35 : Nat → Int32) (A_froms_36 : Nat → Int32) (A_tos_37 : Nat → Int32) (A_counts_38 : Nat → Int32) => some (v2_33, th, A_best_35, A_froms_36, A_tos_37, A_counts_38)) f s.1 s.2.1 s.2.2.1 s.2.2.2.1 s.2.2.2.2.1 s.2.2.2.2.2)
    (fun res => ∃ v A' F' T' C', IsM n (CM p b e) w (fun j => P j = true) v ∧ res = some (nI v, th, A', F', T', C')) n
    (fun i s => ∃ M A' F' T' C', IsM n (CM p b e) w (fun j => P j = true ∧ (t0 p b e j = true → j < i)) M ∧ s = (nI M, nI i, A', F', T', C'))
    ?_ ?_ k (nI M0, 0, Be, Fr, To, Ct) (by omega) ⟨M0, Be, Fr, To, Ct, h0.cong fun j hj => ?_, rfl⟩
  · rintro f i s hi ⟨M, A1, F1, T1, C1, hM, rfl⟩
    refine Or.inl ?_
    dsimp only
    have hgi := hg.2 i hi
    have hMl := hM.le (fun i hi => (hg.2 i hi).2.2.2)
    have hAA : ∀ i j, i < n → j < n → t0 p b e i = true → t0 p b e j = true → CM p b e i j = true := by
      intro i j hi hj h1 h2
      exact (circ_common hg hj hi hp).mp ⟨0, by omega, of_decide_eq_true h1, of_decide_eq_true h2⟩
    have hstep := fun u => anchor_step (A := fun j => t0 p b e j) (u := u) hg hAA hi hM
    rw [f_X5_heaviestRound_L23_s, if_neg (nI_ge hi (by omega)), xi_nI (by omega) (by omega), nI_clamp (show i < 2 ^ 31 by omega)]
    simp only [xj_s]
    have zero : ¬ (P i = true ∧ t0 p b e i = true) → ∃ s', (∃ M A' F' T' C', IsM n (CM p b e) w (fun j => P j = true ∧ (t0 p b e j = true → j < i + 1)) M ∧ s' = (nI M, nI (i + 1), A', F', T', C')) ∧ (if (0 : Int32) ≤ nI M then f_X5_heaviestRound_L23 k (nI p) (nI n) B E W T (fun (v2_33 : Int32) (v3_34 : Int32) (A_best_35 : Nat → Int32) (A_froms_36 : Nat → Int32) (A_tos_37 : Nat → Int32) (A_counts_38 : Nat → Int32) => some (v2_33, th, A_best_35, A_froms_36, A_tos_37, A_counts_38)) f (nI M) (nI i + 1) A1 F1 T1 C1 else f_X5_heaviestRound_L23 k (nI p) (nI n) B E W T (fun (v2_33 : Int32) (v3_34 : Int32) (A_best_35 : Nat → Int32) (A_froms_36 : Nat → Int32) (A_tos_37 : Nat → Int32) (A_counts_38 : Nat → Int32) => some (v2_33, th, A_best_35, A_froms_36, A_tos_37, A_counts_38)) f 0 (nI i + 1) A1 F1 T1 C1) = f_X5_heaviestRound_L23 k (nI p) (nI n) B E W T (fun (v2_33 : Int32) (v3_34 : Int32) (A_best_35 : Nat → Int32) (A_froms_36 : Nat → Int32) (A_tos_37 : Nat → Int32) (A_counts_38 : Nat → Int32) => some (v2_33, th, A_best_35, A_froms_36, A_tos_37, A_counts_38)) f s'.1 s'.2.1 s'.2.2.1 s'.2.2.2.1 s'.2.2.2.2.1 s'.2.2.2.2.2 := by
      intro hno
      have h9 := hstep 0 (fun h1 h2 => absurd ⟨h1, h2⟩ hno)
      rw [if_neg hno] at h9
      rw [if_pos (nn_nI (by omega)), nI_1]
      exact ⟨(nI M, nI (i + 1), A1, F1, T1, C1), ⟨M, A1, F1, T1, C1, h9, rfl⟩, rfl⟩
    by_cases hpi : P i = true
    · have ht0 : f_X5_takes k (nI i) 0 (nI p) B E = some (if dst p (b i % p) 0 < e i - b i then 1 else 0) := takes_eq (t := 0) hg hB hE hi hp hp2 (by omega)
      rw [if_neg (by rw [bz_0 hT hi, hpi]; simp), ht0, xb_s]
      by_cases hA : dst p (b i % p) 0 < e i - b i
      · obtain ⟨u, A2, F2, T2, C2, hu, hf⟩ := planBeside_eq (v1 := nI i) (X := fun j => !CM p b e j i) (Be := A1) (Fr := F1) (To := T1) (Ct := C1) hk hg hT hB hE hW hp hp2 (Or.inr ⟨i, hi, rfl, rfl⟩)
        have hul := hu.le (fun i hi => (hg.2 i hi).2.2.2)
        rw [if_neg (nI_nem1 (by omega)), xi_nI (by omega) (by omega), nI_clamp (show i < 2 ^ 31 by omega), hW i hi, nI_add] at hf
        have h9 := hstep u (fun _ h2 => hu.cong fun j hj => by
          rw [Bool.not_eq_true']
          constructor
          · rintro ⟨⟨q1, q2⟩, q3⟩; exact ⟨q1, q3⟩
          · rintro ⟨q1, q3⟩
            refine ⟨⟨q1, bool_false_iff.mpr fun h => ?_⟩, q3⟩
            rw [hAA j i hj hi h h2] at q3; cases q3)
        rw [if_pos ⟨hpi, decide_eq_true hA⟩] at h9
        rw [if_neg (by rw [if_pos hA]; decide), hf, xb_s]
        try dsimp only
        rw [nI_1]
        refine ⟨(nI (if M < w i + u then w i + u else M), nI (i + 1), A2, F2, T2, C2), ⟨_, A2, F2, T2, C2, h9, rfl⟩, ?_⟩
        by_cases c : M < w i + u
        · rw [if_neg (nI_ge (show M < u + w i by omega) (by omega)), if_pos c, Nat.add_comm]
        · rw [if_pos (nI_le (show u + w i ≤ M by omega) (by omega)), if_neg c]
      · rw [if_pos (by rw [if_neg hA])]
        exact zero fun q => hA (of_decide_eq_true q.2)
    · rw [if_pos (by rw [bz_0 hT hi]; simpa using hpi)]
      exact zero fun q => hpi q.1
  · rintro f s ⟨M, A1, F1, T1, C1, hM, rfl⟩
    dsimp only
    rw [f_X5_heaviestRound_L23_s, if_pos (nI_le (Nat.le_refl _) (by omega))]
    exact ⟨M, A1, F1, T1, C1, hM.cong fun j hj => ⟨fun h => h.1, fun h => ⟨h, fun _ => hj⟩⟩, rfl⟩
  · constructor
    · rintro ⟨h1, h2⟩
      exact ⟨h1, fun h => by rw [h2] at h; cases h⟩
    · rintro ⟨h1, h2⟩
      exact ⟨h1, bool_false_iff.mpr fun h => absurd (h2 h) (Nat.not_lt_zero j)⟩
end HM
section HRL
variable {k : Nat} {p p2 p3 added fac drop th many mfac mdrop : Int32} {ps os as : Int64} {B E W mB mE mW T TO TC : Nat → Int32} {out : Nat → Int64}
theorem law_heaviestRound {cnt : Int32} {N Bg En Wt Be mBe Fr To Ct : Nat → Int32} (hk : 10000 ≤ k) (h : INV added ps fac os as drop B E W many mfac mdrop mB mE mW T TO TC) :
    ∃ (c b2 c' : Int32) (N' Bg' En' Wt' Be' mBe' Fr' To' Ct' : Nat → Int32) (out' : Nat → Int64), f_L_heaviestRound k p added ps B E W 1 cnt N Bg En Wt Be out = some (c, c', N', Bg', En', Wt', Be', out') ∧ f_X5_heaviestRound k p th many mB mE mW T mBe Fr To Ct = some (b2, c, mBe', Fr', To', Ct') ∧ (c = 0 → out' 0 = b2.toInt64) := by
  obtain ⟨n, b, e, w, P, O, C, fa, dr, hS, hX, hM, hb⟩ := h.norm
  obtain ⟨hG, hC, hO, hf1, hf2⟩ := id hS
  obtain ⟨rfl, x2, x3, x4, x5, x6, x7, x8, x9⟩ := id hX
  obtain ⟨rfl, m2, m3, m4, m5, m6, m7, m8, m9⟩ := id hM
  have hn := hG.1
  obtain ⟨v, hv, hfr⟩ := faultRound_eq (p := p) hk hG m7 m4 m5
  have bad1 : p < 1 ∨ (¬ p < 1 ∧ ¬ p ≤ nI 1000) → ∃ (c b2 c' : Int32) (N' Bg' En' Wt' Be' mBe' Fr' To' Ct' : Nat → Int32) (out' : Nat → Int64), f_L_heaviestRound k p (nI n) ps B E W 1 cnt N Bg En Wt Be out = some (c, c', N', Bg', En', Wt', Be', out') ∧ f_X5_heaviestRound k p th (nI n) mB mE mW T mBe Fr To Ct = some (b2, c, mBe', Fr', To', Ct') ∧ (c = 0 → out' 0 = b2.toInt64) := by
    intro hb
    refine ⟨1, 0, cnt, N, Bg, En, Wt, Be, mBe, Fr, To, Ct, out, ?_, ?_, fun q => absurd q (by decide)⟩
    · unfold f_L_heaviestRound f_X4_heaviestRound
      rw [requireCircle_bad hb, xe_e, xt_e, if_pos rfl]
    · unfold f_X5_heaviestRound
      rw [hfr, X5_in_bad hb, xb_s, if_pos rfl, xb_s, goesWell_1, xb_s]
      try dsimp only
      rw [if_pos rfl]
  rcases rng_cases p 1000 (by omega) with q | ⟨a1, q, h1, h2, rfl⟩ | q
  · exact bad1 (Or.inl q)
  · rcases requireCircle_eq hk hG x2 x7 x8 h1 h2 with ⟨hr1, hr2⟩ | ⟨⟨j, hj, hpj, hlt⟩, hr2⟩
    · obtain ⟨M, c', N', Bg', En', Wt', Be', hM1, hM2⟩ := X4_heaviestRound_eq (cnt := cnt) (N := N) (Bg := Bg) (En := En) (Wt := Wt) (Be := Be) hk hG hb x2 x7 x8 x9 h1 h2 hr1 hr2
      obtain ⟨u, A1, F1, T1, C1, hu, hf⟩ := planBeside_eq (v1 := -1) (X := fun _ => true) (Be := mBe) (Fr := Fr) (To := To) (Ct := Ct) hk hG m7 m4 m5 m6 h1 h2 (Or.inl ⟨rfl, rfl⟩)
      rw [if_pos rfl, Int32.add_zero] at hf
      obtain ⟨M', A2, F2, T2, C2, hM3, hM4⟩ := X5_heaviestRound_L23_eq (th := 0) (v0 := 0) (Be := A1) (Fr := F1) (To := T1) (Ct := C1) hk hG m7 m4 m5 m6 h1 h2 (hu.cong fun j hj => ⟨fun h => h.1, fun h => ⟨h, rfl⟩⟩)
      have := hM3.one hM1
      subst this
      have hv1 : v = 1 := by
        rcases hv with ⟨h, -⟩ | ⟨-, j, hj, hpj, hlt⟩
        · exact h
        · have := hr1 j hj hpj
          exact absurd hlt (nI_nlt this (by omega))
      refine ⟨0, nI M', c', N', Bg', En', Wt', Be', A2, F2, T2, C2, vp_updL out (0 : Int32).toNatClampNeg (nI M').toInt64, ?_, ?_, fun _ => rfl⟩
      · unfold f_L_heaviestRound
        rw [hM2, xt_s]
        try dsimp only
        rw [xi_0]
      · unfold f_X5_heaviestRound
        rw [hfr, X5_in_good h1 h2, xb_s, if_neg (by decide), hv1, if_neg (by decide), xb_s, goesWell_0, xb_s]
        try dsimp only
        rw [if_neg (by decide), hf, xb_s]
        exact hM4
    · have hv0 : v = 0 := by
        have hgj := hG.2 j hj
        rcases hv with ⟨-, h⟩ | ⟨h, -⟩
        · exact absurd (nI_lt hlt (by omega)) (h j hj hpj)
        · exact h
      refine ⟨2, 0, cnt, N, Bg, En, Wt, Be, mBe, Fr, To, Ct, out, ?_, ?_, fun q => absurd q (by decide)⟩
      · unfold f_L_heaviestRound f_X4_heaviestRound
        rw [hr2, xe_e, xt_e, if_neg (by decide), if_pos rfl]
      · unfold f_X5_heaviestRound
        rw [hfr, X5_in_good h1 h2, xb_s, if_neg (by decide), hv0, if_pos rfl, xb_s, goesWell_2, xb_s]
        try dsimp only
        rw [if_pos rfl]
  · exact bad1 (Or.inr q)
end HRL
