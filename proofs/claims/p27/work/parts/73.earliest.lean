/-! The least free time, as the law looks at it. -/
section EA
variable {k n : Nat} {ps : Int64} {P : Nat → Bool} {b e w : Nat → Nat} {B E W : Nat → Int32}
theorem earliest_eq {len r : Nat} (hk : 10000 ≤ k) (hg : GD n b e w) (hx : ST ps n P) (hB : AR n B b) (hE : AR n E e) (h1 : 1 ≤ len) (h2 : len ≤ 1000) (h3 : 1 ≤ r) (h4 : r ≤ 40) : ∃ y, LFit n b e P len r y ∧ f_X4_earliest k (nI len) (nI r) (nI n) ps B E = some (.ok y) := by
  unfold f_X4_earliest
  rw [if_neg (show ¬ nI len < 1 from nI_nlt (a := len) (b := 1) h1 (by omega)), if_pos (show nI len ≤ 1000 from nI_le (b := 1000) h2 (by omega)), if_neg (show ¬ nI r < 1 from nI_nlt (a := r) (b := 1) h3 (by omega)), if_pos (show nI r ≤ 40 from nI_le (b := 40) h4 (by omega))]
  rcases X4_fits_eq (s := 0) hk hg hx hB hE h3 h4 h1 h2 (by omega) with ⟨hf, hr⟩ | ⟨hf, hr⟩
  · refine ⟨nI 0, Or.inl ⟨0, hf, fun u hu => absurd hu (Nat.not_lt_zero u), rfl⟩, ?_⟩
    rw [show f_X4_fits k 0 (nI len) (nI r) (nI n) ps B E = some 1 from hr, xb_s, if_neg (by decide)]
    rfl
  · obtain ⟨z, hz1, hz2⟩ := X4_earliestEnd_eq hk hg hx hB hE h3 h4 h1 h2 hf
    refine ⟨z, hz1, ?_⟩
    rw [show f_X4_fits k 0 (nI len) (nI r) (nI n) ps B E = some 0 from hr, xb_s, if_pos rfl, hz2, xb_s]
theorem isEarliest_eq {len r : Nat} (hk : 10000 ≤ k) (hg : GD n b e w) (hx : ST ps n P) (hB : AR n B b) (hE : AR n E e) (h1 : 1 ≤ len) (h2 : len ≤ 1000) (h3 : 1 ≤ r) (h4 : r ≤ 40) : f_L_isEarliest k (nI len) (nI r) (nI n) ps B E = some 1 := by
  have hn := hg.1
  obtain ⟨y, hy, hf⟩ := earliest_eq hk hg hx hB hE h1 h2 h3 h4
  unfold f_L_isEarliest
  rw [hf, xo_s]
  simp only [xj_s]
  rcases hy with ⟨s, hs, hmin, rfl⟩ | ⟨hno, rfl⟩
  · have hs1 := hs.1
    rw [if_neg (nI_pos (by omega)), nI_add, if_neg (show ¬ (1000 : Int32) < nI (s + len) from nI_nlt (a := 1000) (b := s + len) hs1 (by omega))]
    refine loopG (fun f (v : Int32 × Int32) => f_L_isEarliest_L30 k (nI len) (nI r) (nI s) (nI n) ps B E (fun (v4_12 : Int32) (v5_13 : Int32) => if v4_12 = 0 then some 0 else if nI s ≤ 0 then some 1 else xo (f_X4_depth k (nI s - 1) (nI n) ps B E) (fun r16 => if r16 < nI r then some 0 else some 1)) f v.1 v.2) (some 1) len (fun i => (1, nI (s + i))) (fun f i hi => ?_) (fun f => ?_) k (by omega)
    · have hd := hs.2 (s + i) (by omega) (by omega)
      try dsimp only
      rw [f_L_isEarliest_L30_s, if_neg (nI_pos (by omega)), nI_add, if_neg (nI_ge (show s + i < s + len by omega) (by omega)), if_neg (by decide), depth_eq (by omega) hg hx hB hE (by omega), xo_s, if_neg (nI_ge hd (by omega)), nI_1]
      rfl
    · try dsimp only
      rw [f_L_isEarliest_L30_s, if_neg (nI_pos (by omega)), nI_add, if_pos (nI_le (Nat.le_refl _) (by omega)), if_neg (by decide)]
      rcases Nat.eq_zero_or_pos s with c | c
      · subst c
        rw [if_pos (by decide)]
      · obtain ⟨s, rfl⟩ : ∃ t, s = t + 1 := ⟨s - 1, by omega⟩
        have hnf := hmin s (by omega)
        have hdl := dep_le (n := n) (b := b) (e := e) (P := P) s
        have hd : r ≤ dep n b e P s := by
          apply Nat.le_of_not_lt
          intro q
          refine hnf ⟨by omega, fun t t1 t2 => ?_⟩
          by_cases d : t = s
          · rw [d]; exact q
          · exact hs.2 t (by omega) (by omega)
        rw [if_neg (show ¬ nI (s + 1) ≤ 0 from nI_ge (a := 0) (b := s + 1) (by omega) (by omega)), nI_pred, depth_eq (by omega) hg hx hB hE (by omega), xo_s, if_neg (nI_nlt hd (by omega))]
  · rw [if_pos (by decide)]
    obtain ⟨k', rfl⟩ : ∃ g, k = g + 1 := ⟨k - 1, by omega⟩
    rw [f_L_isEarliest_L30_s, if_pos (by decide), if_neg (by decide), if_pos (by decide)]
end EA
