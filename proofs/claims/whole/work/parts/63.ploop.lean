/-! The whole run of calls. -/
theorem thrown_s (k : Nat) (x : Int32) : f_X5_thrown k x = some x := rfl
theorem law_loop {k L : Nat} {xs : Nat → Int32} (hk : 10000 ≤ k) (hL : L ≤ 2048) {κ : Int32 → (Int32) → (Int64) → (Int32) → (Int64) → (Int64) → (Int32) → (Nat → Int32) → (Nat → Int32) → (Nat → Int32) → (Int32) → (Nat → Int32) → (Nat → Int32) → (Nat → Int32) → (Nat → Int32) → (Nat → Int32) → (Int32) → (Nat → Int32) → (Nat → Int32) → (Nat → Int32) → (Nat → Int32) → (Nat → Int32) → (Int32) → (Nat → Int32) → (Nat → Int32) → (Nat → Int32) → (Nat → Int32) → (Nat → Int32) → (Nat → Int32) → (Nat → Int32) → (Nat → Int32) → (Nat → Int32) → (Nat → Int32) → (Int32) → (Int32) → (Int32) → (Int32) → (Int32) → (Nat → Int32) → (Nat → Int32) → (Nat → Int32) → (Nat → Int32) → (Nat → Int32) → (Nat → Int32) → (Nat → Int32) → (Nat → Int32) → (Nat → Int32) → (Nat → Int32) → (Nat → Int32) → (Nat → Int32) → (Nat → Int32) → (Nat → Int32) → (Nat → Int32) → (Nat → Int32) → (Nat → Int32) → (Nat → Int64) → Option Int32} (hκ : ∀ v4 f_P1_added f_P1_presentSet f_P1_factor f_P1_offeredSet f_P1_acceptedSet f_P1_dropped A_P1_begins A_P1_ends A_P1_weights f_P1_givenRooms_row_count A_P1_givenRooms_row_numbers A_P1_givenRooms_row_begins A_P1_givenRooms_row_ends A_P1_givenRooms_row_weights A_P1_givenRooms_freeFrom f_P1_oneRoom_row_count A_P1_oneRoom_row_numbers A_P1_oneRoom_row_begins A_P1_oneRoom_row_ends A_P1_oneRoom_row_weights A_P1_oneRoom_best f_P1_manyRooms_row_count A_P1_manyRooms_row_numbers A_P1_manyRooms_row_begins A_P1_manyRooms_row_ends A_P1_manyRooms_row_weights A_P1_manyRooms_stopAfter A_P1_manyRooms_taken A_P1_manyRooms_waiting A_P1_manyRooms_gain A_P1_manyRooms_cameFrom A_P1_manyRooms_cameByTaking f_P2_thrown f_P2_many f_P2_factor f_P2_dropped f_P2_pointMany A_P2_begins A_P2_ends A_P2_weights A_P2_isThere A_P2_rooms A_P2_isOffered A_P2_isAccepted A_P2_best A_P2_order A_P2_froms A_P2_tos A_P2_counts A_P2_points A_P2_flows A_P2_isUsed A_P2_gains A_P2_ways A_P3, κ v4 f_P1_added f_P1_presentSet f_P1_factor f_P1_offeredSet f_P1_acceptedSet f_P1_dropped A_P1_begins A_P1_ends A_P1_weights f_P1_givenRooms_row_count A_P1_givenRooms_row_numbers A_P1_givenRooms_row_begins A_P1_givenRooms_row_ends A_P1_givenRooms_row_weights A_P1_givenRooms_freeFrom f_P1_oneRoom_row_count A_P1_oneRoom_row_numbers A_P1_oneRoom_row_begins A_P1_oneRoom_row_ends A_P1_oneRoom_row_weights A_P1_oneRoom_best f_P1_manyRooms_row_count A_P1_manyRooms_row_numbers A_P1_manyRooms_row_begins A_P1_manyRooms_row_ends A_P1_manyRooms_row_weights A_P1_manyRooms_stopAfter A_P1_manyRooms_taken A_P1_manyRooms_waiting A_P1_manyRooms_gain A_P1_manyRooms_cameFrom A_P1_manyRooms_cameByTaking f_P2_thrown f_P2_many f_P2_factor f_P2_dropped f_P2_pointMany A_P2_begins A_P2_ends A_P2_weights A_P2_isThere A_P2_rooms A_P2_isOffered A_P2_isAccepted A_P2_best A_P2_order A_P2_froms A_P2_tos A_P2_counts A_P2_points A_P2_flows A_P2_isUsed A_P2_gains A_P2_ways A_P3 = some 1) : ∀ n a, L < a + 4 * n → a ≤ L → ∀ {f_P1_added : Int32} {f_P1_presentSet : Int64} {f_P1_factor : Int32} {f_P1_offeredSet : Int64} {f_P1_acceptedSet : Int64} {f_P1_dropped : Int32} {A_P1_begins : Nat → Int32} {A_P1_ends : Nat → Int32} {A_P1_weights : Nat → Int32} {f_P1_givenRooms_row_count : Int32} {A_P1_givenRooms_row_numbers : Nat → Int32} {A_P1_givenRooms_row_begins : Nat → Int32} {A_P1_givenRooms_row_ends : Nat → Int32} {A_P1_givenRooms_row_weights : Nat → Int32} {A_P1_givenRooms_freeFrom : Nat → Int32} {f_P1_oneRoom_row_count : Int32} {A_P1_oneRoom_row_numbers : Nat → Int32} {A_P1_oneRoom_row_begins : Nat → Int32} {A_P1_oneRoom_row_ends : Nat → Int32} {A_P1_oneRoom_row_weights : Nat → Int32} {A_P1_oneRoom_best : Nat → Int32} {f_P1_manyRooms_row_count : Int32} {A_P1_manyRooms_row_numbers : Nat → Int32} {A_P1_manyRooms_row_begins : Nat → Int32} {A_P1_manyRooms_row_ends : Nat → Int32} {A_P1_manyRooms_row_weights : Nat → Int32} {A_P1_manyRooms_stopAfter : Nat → Int32} {A_P1_manyRooms_taken : Nat → Int32} {A_P1_manyRooms_waiting : Nat → Int32} {A_P1_manyRooms_gain : Nat → Int32} {A_P1_manyRooms_cameFrom : Nat → Int32} {A_P1_manyRooms_cameByTaking : Nat → Int32} {f_P2_thrown : Int32} {f_P2_many : Int32} {f_P2_factor : Int32} {f_P2_dropped : Int32} {f_P2_pointMany : Int32} {A_P2_begins : Nat → Int32} {A_P2_ends : Nat → Int32} {A_P2_weights : Nat → Int32} {A_P2_isThere : Nat → Int32} {A_P2_rooms : Nat → Int32} {A_P2_isOffered : Nat → Int32} {A_P2_isAccepted : Nat → Int32} {A_P2_best : Nat → Int32} {A_P2_order : Nat → Int32} {A_P2_froms : Nat → Int32} {A_P2_tos : Nat → Int32} {A_P2_counts : Nat → Int32} {A_P2_points : Nat → Int32} {A_P2_flows : Nat → Int32} {A_P2_isUsed : Nat → Int32} {A_P2_gains : Nat → Int32} {A_P2_ways : Nat → Int32} {A_P3 : Nat → Int64}, INV f_P1_added f_P1_presentSet f_P1_factor f_P1_offeredSet f_P1_acceptedSet f_P1_dropped A_P1_begins A_P1_ends A_P1_weights f_P2_many f_P2_factor f_P2_dropped A_P2_begins A_P2_ends A_P2_weights A_P2_isThere A_P2_isOffered A_P2_isAccepted → f_law_L23 k L xs 0 1 0 κ n (nI a) f_P1_added f_P1_presentSet f_P1_factor f_P1_offeredSet f_P1_acceptedSet f_P1_dropped A_P1_begins A_P1_ends A_P1_weights f_P1_givenRooms_row_count A_P1_givenRooms_row_numbers A_P1_givenRooms_row_begins A_P1_givenRooms_row_ends A_P1_givenRooms_row_weights A_P1_givenRooms_freeFrom f_P1_oneRoom_row_count A_P1_oneRoom_row_numbers A_P1_oneRoom_row_begins A_P1_oneRoom_row_ends A_P1_oneRoom_row_weights A_P1_oneRoom_best f_P1_manyRooms_row_count A_P1_manyRooms_row_numbers A_P1_manyRooms_row_begins A_P1_manyRooms_row_ends A_P1_manyRooms_row_weights A_P1_manyRooms_stopAfter A_P1_manyRooms_taken A_P1_manyRooms_waiting A_P1_manyRooms_gain A_P1_manyRooms_cameFrom A_P1_manyRooms_cameByTaking f_P2_thrown f_P2_many f_P2_factor f_P2_dropped f_P2_pointMany A_P2_begins A_P2_ends A_P2_weights A_P2_isThere A_P2_rooms A_P2_isOffered A_P2_isAccepted A_P2_best A_P2_order A_P2_froms A_P2_tos A_P2_counts A_P2_points A_P2_flows A_P2_isUsed A_P2_gains A_P2_ways A_P3 = some 1 := by
  intro n
  induction n with
  | zero => intro a h1 h2; omega
  | succ n ih =>
    intro a h1 h2 f_P1_added f_P1_presentSet f_P1_factor f_P1_offeredSet f_P1_acceptedSet f_P1_dropped A_P1_begins A_P1_ends A_P1_weights f_P1_givenRooms_row_count A_P1_givenRooms_row_numbers A_P1_givenRooms_row_begins A_P1_givenRooms_row_ends A_P1_givenRooms_row_weights A_P1_givenRooms_freeFrom f_P1_oneRoom_row_count A_P1_oneRoom_row_numbers A_P1_oneRoom_row_begins A_P1_oneRoom_row_ends A_P1_oneRoom_row_weights A_P1_oneRoom_best f_P1_manyRooms_row_count A_P1_manyRooms_row_numbers A_P1_manyRooms_row_begins A_P1_manyRooms_row_ends A_P1_manyRooms_row_weights A_P1_manyRooms_stopAfter A_P1_manyRooms_taken A_P1_manyRooms_waiting A_P1_manyRooms_gain A_P1_manyRooms_cameFrom A_P1_manyRooms_cameByTaking f_P2_thrown f_P2_many f_P2_factor f_P2_dropped f_P2_pointMany A_P2_begins A_P2_ends A_P2_weights A_P2_isThere A_P2_rooms A_P2_isOffered A_P2_isAccepted A_P2_best A_P2_order A_P2_froms A_P2_tos A_P2_counts A_P2_points A_P2_flows A_P2_isUsed A_P2_gains A_P2_ways A_P3 hI
    have e1 : nI a + 1 = nI (a + 1) := nI_1 a
    have e2 : nI a + 2 = nI (a + 2) := nI_add a 2
    have e3 : nI a + 3 = nI (a + 3) := nI_add a 3
    have e4 : nI a + 4 = nI (a + 4) := nI_add a 4
    rw [f_law_L23_s]
    by_cases hend : (nI L - 4) < nI a
    · rw [if_pos hend]; exact hκ _ _ _ _ _ _ _ _ _ _ _ _ _ _ _ _ _ _ _ _ _ _ _ _ _ _ _ _ _ _ _ _ _ _ _ _ _ _ _ _ _ _ _ _ _ _ _ _ _ _ _ _ _ _ _ _
    rw [if_neg hend]
    have ha : a + 4 ≤ L := by
      have h9 : ¬ (nI L - nI 4) < nI a := hend
      rw [fa_lt, pk_sub_toInt (by omega) (by omega), nI_toInt (by omega)] at h9
      omega
    rw [xi_nI (by omega) (by omega)]
    generalize (xs (nI a).toNatClampNeg) &&& 31 = op
    by_cases g0 : op = 0
    · rw [if_pos g0]
      obtain ⟨n0, b0, e0, w0, P0, O0, C0, fa0, dr0, qS, qX, qM⟩ := id hI
      obtain ⟨c, b2, added', many', ps', B', E', W', mB', mE', mW', T', out', h1, h2, h3, n1, y1, y2, y3, y4, y5, y6, s1, s2, s3⟩ := law_add (k := k) (p1 := (xs (nI (a + 1)).toNatClampNeg)) (p2 := (xs (nI (a + 2)).toNatClampNeg)) (p3 := (xs (nI (a + 3)).toNatClampNeg)) (th := f_P2_thrown) (out := A_P3) qS qX qM
      have hI' := (⟨n1, y1, y2, y3, y4, y5, y6, fa0, dr0, s1, s2, s3⟩ : INV added' ps' f_P1_factor f_P1_offeredSet f_P1_acceptedSet f_P1_dropped B' E' W' many' f_P2_factor f_P2_dropped mB' mE' mW' T' A_P2_isOffered A_P2_isAccepted)
      simp (disch := omega) only [e1, e2, e3, e4, xi_nI]
      rw [h1, xb_s]
      try dsimp only
      rw [h2, xb_s]
      try dsimp only
      rw [thrown_s, xb_s, if_pos rfl]
      by_cases c0 : c = 0
      · rw [if_pos c0, xi_0, if_pos (show lg_cmp (out' (0 : Int32).toNatClampNeg) b2.toInt64 = 0 from (cmp_0 _ _).mpr (h3 c0))]
        exact ih (a + 4) (by omega) (by omega) hI'
      · rw [if_neg c0]
        exact ih (a + 4) (by omega) (by omega) hI'
    rw [if_neg g0]
    by_cases g1 : op = 1
    · rw [if_pos g1]
      obtain ⟨c, b2, z1, z2, z3, z4, out', h1, h2, h3, hI'⟩ := law_remove (k := k) (p := (xs (nI (a + 1)).toNatClampNeg)) (th := f_P2_thrown) (out := A_P3) (show 1000 ≤ k by omega) hI
      simp (disch := omega) only [e1, e2, e3, e4, xi_nI]
      rw [h1, xb_s]
      try dsimp only
      rw [h2, xb_s]
      try dsimp only
      rw [thrown_s, xb_s, if_pos rfl]
      by_cases c0 : c = 0
      · rw [if_pos c0, xi_0, if_pos (show lg_cmp (out' (0 : Int32).toNatClampNeg) b2.toInt64 = 0 from (cmp_0 _ _).mpr (h3 c0))]
        exact ih (a + 4) (by omega) (by omega) hI'
      · rw [if_neg c0]
        exact ih (a + 4) (by omega) (by omega) hI'
    rw [if_neg g1]
    by_cases g2 : op = 2
    · rw [if_pos g2]
      obtain ⟨c, b2, z1, z2, z3, z4, z5, z6, out', h1, h2, h3, hI'⟩ := law_move (k := k) (p := (xs (nI (a + 1)).toNatClampNeg)) (p2 := (xs (nI (a + 2)).toNatClampNeg)) (th := f_P2_thrown) (out := A_P3) hI
      simp (disch := omega) only [e1, e2, e3, e4, xi_nI]
      rw [h1, xb_s]
      try dsimp only
      rw [h2, xb_s]
      try dsimp only
      rw [thrown_s, xb_s, if_pos rfl]
      by_cases c0 : c = 0
      · rw [if_pos c0, xi_0, if_pos (show lg_cmp (out' (0 : Int32).toNatClampNeg) b2.toInt64 = 0 from (cmp_0 _ _).mpr (h3 c0))]
        exact ih (a + 4) (by omega) (by omega) hI'
      · rw [if_neg c0]
        exact ih (a + 4) (by omega) (by omega) hI'
    rw [if_neg g2]
    by_cases g3 : op = 3
    · rw [if_pos g3]
      obtain ⟨r, h1, h2⟩ := law_intervals (k := k) (th := f_P2_thrown) (show 1000 ≤ k by omega) hI
      have hI' := hI
      simp (disch := omega) only [e1, e2, e3, e4, xi_nI]
      rw [h1, xb_s]
      try dsimp only
      rw [h2, xb_s]
      try dsimp only
      rw [if_pos rfl]
      exact ih (a + 4) (by omega) (by omega) hI'
    rw [if_neg g3]
    by_cases g4 : op = 4
    · rw [if_pos g4]
      obtain ⟨h1, h2⟩ := law_present (k := k) (th := f_P2_thrown) (show 1000 ≤ k by omega) hI
      have hI' := hI
      simp (disch := omega) only [e1, e2, e3, e4, xi_nI]
      rw [h1, xb_s]
      try dsimp only
      rw [h2, xb_s]
      try dsimp only
      rw [if_pos ((cmp_0 _ _).mpr rfl)]
      exact ih (a + 4) (by omega) (by omega) hI'
    rw [if_neg g4]
    by_cases g5 : op = 5
    · rw [if_pos g5]
      obtain ⟨c, b2, out', h1, h2, h3⟩ := law_overlapping (k := k) (p := (xs (nI (a + 1)).toNatClampNeg)) (th := f_P2_thrown) (out := A_P3) (show 1000 ≤ k by omega) hI
      have hI' := hI
      simp (disch := omega) only [e1, e2, e3, e4, xi_nI]
      rw [h1, xb_s]
      try dsimp only
      rw [h2, xb_s]
      try dsimp only
      rw [thrown_s, xb_s, if_pos rfl]
      by_cases c0 : c = 0
      · rw [if_pos c0, xi_0, if_pos (show lg_cmp (out' (0 : Int32).toNatClampNeg) b2 = 0 from (cmp_0 _ _).mpr (h3 c0))]
        exact ih (a + 4) (by omega) (by omega) hI'
      · rw [if_neg c0]
        exact ih (a + 4) (by omega) (by omega) hI'
    rw [if_neg g5]
    by_cases g6 : op = 6
    · rw [if_pos g6]
      obtain ⟨r, h1, h2⟩ := law_rooms (k := k) (th := f_P2_thrown) hk hI
      have hI' := hI
      simp (disch := omega) only [e1, e2, e3, e4, xi_nI]
      rw [h1, xb_s]
      try dsimp only
      rw [h2, xb_s]
      try dsimp only
      rw [if_pos rfl]
      exact ih (a + 4) (by omega) (by omega) hI'
    rw [if_neg g6]
    by_cases g7 : op = 7
    · rw [if_pos g7]
      obtain ⟨c, b2, z1, z2, z3, z4, z5, z6, z7, out', h1, h2, h3⟩ := law_roomOf (k := k) (p := (xs (nI (a + 1)).toNatClampNeg)) (th := f_P2_thrown) (out := A_P3) (cnt := f_P1_givenRooms_row_count) (N := A_P1_givenRooms_row_numbers) (Bg := A_P1_givenRooms_row_begins) (En := A_P1_givenRooms_row_ends) (Wt := A_P1_givenRooms_row_weights) (F := A_P1_givenRooms_freeFrom) (Rm := A_P2_rooms) hk hI
      have hI' := hI
      simp (disch := omega) only [e1, e2, e3, e4, xi_nI]
      rw [h1, xb_s]
      try dsimp only
      rw [h2, xb_s]
      try dsimp only
      rw [thrown_s, xb_s, if_pos rfl]
      by_cases c0 : c = 0
      · rw [if_pos c0, xi_0, if_pos (show lg_cmp (out' (0 : Int32).toNatClampNeg) b2.toInt64 = 0 from (cmp_0 _ _).mpr (h3 c0))]
        exact ih (a + 4) (by omega) (by omega) hI'
      · rw [if_neg c0]
        exact ih (a + 4) (by omega) (by omega) hI'
    rw [if_neg g7]
    by_cases g8 : op = 8
    · rw [if_pos g8]
      obtain ⟨c, b2, out', h1, h2, h3⟩ := law_depth (k := k) (p := (xs (nI (a + 1)).toNatClampNeg)) (th := f_P2_thrown) (out := A_P3) (show 1000 ≤ k by omega) hI
      have hI' := hI
      simp (disch := omega) only [e1, e2, e3, e4, xi_nI]
      rw [h1, xb_s]
      try dsimp only
      rw [h2, xb_s]
      try dsimp only
      rw [thrown_s, xb_s, if_pos rfl]
      by_cases c0 : c = 0
      · rw [if_pos c0, xi_0, if_pos (show lg_cmp (out' (0 : Int32).toNatClampNeg) b2.toInt64 = 0 from (cmp_0 _ _).mpr (h3 c0))]
        exact ih (a + 4) (by omega) (by omega) hI'
      · rw [if_neg c0]
        exact ih (a + 4) (by omega) (by omega) hI'
    rw [if_neg g8]
    by_cases g9 : op = 9
    · rw [if_pos g9]
      obtain ⟨r, h1, h2⟩ := law_busiest (k := k) (th := f_P2_thrown) hk hI
      have hI' := hI
      simp (disch := omega) only [e1, e2, e3, e4, xi_nI]
      rw [h1, xb_s]
      try dsimp only
      rw [h2, xb_s]
      try dsimp only
      rw [if_pos rfl]
      exact ih (a + 4) (by omega) (by omega) hI'
    rw [if_neg g9]
    by_cases g10 : op = 10
    · rw [if_pos g10]
      obtain ⟨c, b2, out', h1, h2, h3⟩ := law_earliest (k := k) (p := (xs (nI (a + 1)).toNatClampNeg)) (p2 := (xs (nI (a + 2)).toNatClampNeg)) (th := f_P2_thrown) (out := A_P3) hk hI
      have hI' := hI
      simp (disch := omega) only [e1, e2, e3, e4, xi_nI]
      rw [h1, xb_s]
      try dsimp only
      rw [h2, xb_s]
      try dsimp only
      rw [thrown_s, xb_s, if_pos rfl]
      by_cases c0 : c = 0
      · rw [if_pos c0, xi_0, if_pos (show lg_cmp (out' (0 : Int32).toNatClampNeg) b2.toInt64 = 0 from (cmp_0 _ _).mpr (h3 c0))]
        exact ih (a + 4) (by omega) (by omega) hI'
      · rw [if_neg c0]
        exact ih (a + 4) (by omega) (by omega) hI'
    rw [if_neg g10]
    by_cases g11 : op = 11
    · rw [if_pos g11]
      obtain ⟨r, z1, z2, z3, z4, z5, z6, z7, z8, z9, z10, h1, h2⟩ := law_heaviest (k := k) (th := f_P2_thrown) (cnt := f_P1_oneRoom_row_count) (N := A_P1_oneRoom_row_numbers) (Bg := A_P1_oneRoom_row_begins) (En := A_P1_oneRoom_row_ends) (Wt := A_P1_oneRoom_row_weights) (Be := A_P1_oneRoom_best) (mBe := A_P2_best) (Fr := A_P2_froms) (To := A_P2_tos) (Ct := A_P2_counts) hk hI
      have hI' := hI
      simp (disch := omega) only [e1, e2, e3, e4, xi_nI]
      rw [h1, xb_s]
      try dsimp only
      rw [h2, xb_s]
      try dsimp only
      rw [if_pos rfl]
      exact ih (a + 4) (by omega) (by omega) hI'
    rw [if_neg g11]
    by_cases g12 : op = 12
    · rw [if_pos g12]
      obtain ⟨r, z1, z2, z3, z4, z5, z6, z7, z8, z9, z10, z11, h1, h2⟩ := law_chosen (k := k) (th := f_P2_thrown) (cnt := f_P1_oneRoom_row_count) (N := A_P1_oneRoom_row_numbers) (Bg := A_P1_oneRoom_row_begins) (En := A_P1_oneRoom_row_ends) (Wt := A_P1_oneRoom_row_weights) (Be := A_P1_oneRoom_best) (mBe := A_P2_best) (Fr := A_P2_froms) (To := A_P2_tos) (Ct := A_P2_counts) (Odr := A_P2_order) hk hI
      have hI' := hI
      simp (disch := omega) only [e1, e2, e3, e4, xi_nI]
      rw [h1, xb_s]
      try dsimp only
      rw [h2, xb_s]
      try dsimp only
      rw [if_pos ((cmp_0 _ _).mpr rfl)]
      exact ih (a + 4) (by omega) (by omega) hI'
    rw [if_neg g12]
    by_cases g13 : op = 13
    · rw [if_pos g13]
      obtain ⟨r, z1, z2, z3, z4, z5, z6, h1, h2⟩ := law_most (k := k) (th := f_P2_thrown) (cnt := f_P1_oneRoom_row_count) (N := A_P1_oneRoom_row_numbers) (Bg := A_P1_oneRoom_row_begins) (En := A_P1_oneRoom_row_ends) (Wt := A_P1_oneRoom_row_weights) (Or := A_P2_order) hk hI
      have hI' := hI
      simp (disch := omega) only [e1, e2, e3, e4, xi_nI]
      rw [h1, xb_s]
      try dsimp only
      rw [h2, xb_s]
      try dsimp only
      rw [if_pos rfl]
      exact ih (a + 4) (by omega) (by omega) hI'
    rw [if_neg g13]
    by_cases g14 : op = 14
    · rw [if_pos g14]
      obtain ⟨c, b2, z1, z2, z3, z4, z5, z6, z7, z8, z9, z10, z11, z12, z13, z14, z15, z16, z17, z18, out', h1, h2, h3⟩ := law_heaviestIn (k := k) (p := (xs (nI (a + 1)).toNatClampNeg)) (th := f_P2_thrown) (out := A_P3) (cnt := f_P1_manyRooms_row_count) (N := A_P1_manyRooms_row_numbers) (Bg := A_P1_manyRooms_row_begins) (En := A_P1_manyRooms_row_ends) (Wt := A_P1_manyRooms_row_weights) (St := A_P1_manyRooms_stopAfter) (Tk := A_P1_manyRooms_taken) (Wg := A_P1_manyRooms_waiting) (Ga := A_P1_manyRooms_gain) (CF := A_P1_manyRooms_cameFrom) (BT := A_P1_manyRooms_cameByTaking) (pm := f_P2_pointMany) (Cn := A_P2_counts) (Pt := A_P2_points) (Fl := A_P2_flows) (Us := A_P2_isUsed) (mGa := A_P2_gains) (Wy := A_P2_ways) hk hI
      have hI' := hI
      simp (disch := omega) only [e1, e2, e3, e4, xi_nI]
      rw [h1, xb_s]
      try dsimp only
      rw [h2, xb_s]
      try dsimp only
      rw [thrown_s, xb_s, if_pos rfl]
      by_cases c0 : c = 0
      · rw [if_pos c0, xi_0, if_pos (show lg_cmp (out' (0 : Int32).toNatClampNeg) b2.toInt64 = 0 from (cmp_0 _ _).mpr (h3 c0))]
        exact ih (a + 4) (by omega) (by omega) hI'
      · rw [if_neg c0]
        exact ih (a + 4) (by omega) (by omega) hI'
    rw [if_neg g14]
    by_cases g15 : op = 15
    · rw [if_pos g15]
      obtain ⟨c, b2, z1, z2, z3, z4, z5, z6, z7, z8, z9, z10, z11, z12, z13, z14, z15, z16, z17, z18, out', h1, h2, h3⟩ := law_lossWithout (k := k) (p := (xs (nI (a + 1)).toNatClampNeg)) (p2 := (xs (nI (a + 2)).toNatClampNeg)) (th := f_P2_thrown) (out := A_P3) (cnt := f_P1_manyRooms_row_count) (N := A_P1_manyRooms_row_numbers) (Bg := A_P1_manyRooms_row_begins) (En := A_P1_manyRooms_row_ends) (Wt := A_P1_manyRooms_row_weights) (St := A_P1_manyRooms_stopAfter) (Tk := A_P1_manyRooms_taken) (Wg := A_P1_manyRooms_waiting) (Ga := A_P1_manyRooms_gain) (CF := A_P1_manyRooms_cameFrom) (BT := A_P1_manyRooms_cameByTaking) (pm := f_P2_pointMany) (Cn := A_P2_counts) (Pt := A_P2_points) (Fl := A_P2_flows) (Us := A_P2_isUsed) (mGa := A_P2_gains) (Wy := A_P2_ways) hk hI
      have hI' := hI
      simp (disch := omega) only [e1, e2, e3, e4, xi_nI]
      rw [h1, xb_s]
      try dsimp only
      rw [h2, xb_s]
      try dsimp only
      rw [thrown_s, xb_s, if_pos rfl]
      by_cases c0 : c = 0
      · rw [if_pos c0, xi_0, if_pos (show lg_cmp (out' (0 : Int32).toNatClampNeg) b2.toInt64 = 0 from (cmp_0 _ _).mpr (h3 c0))]
        exact ih (a + 4) (by omega) (by omega) hI'
      · rw [if_neg c0]
        exact ih (a + 4) (by omega) (by omega) hI'
    rw [if_neg g15]
    by_cases g16 : op = 16
    · rw [if_pos g16]
      obtain ⟨c, b2, z1, z2, z3, z4, z5, z6, z7, z8, out', h1, h2, h3, hI'⟩ := law_openDesk (k := k) (p := (xs (nI (a + 1)).toNatClampNeg)) (th := f_P2_thrown) (out := A_P3) (show 1000 ≤ k by omega) hI
      simp (disch := omega) only [e1, e2, e3, e4, xi_nI]
      rw [h1, xb_s]
      try dsimp only
      rw [h2, xb_s]
      try dsimp only
      rw [thrown_s, xb_s, if_pos rfl]
      by_cases c0 : c = 0
      · rw [if_pos c0, xi_0, if_pos (show lg_cmp (out' (0 : Int32).toNatClampNeg) b2.toInt64 = 0 from (cmp_0 _ _).mpr (h3 c0))]
        exact ih (a + 4) (by omega) (by omega) hI'
      · rw [if_neg c0]
        exact ih (a + 4) (by omega) (by omega) hI'
    rw [if_neg g16]
    by_cases g17 : op = 17
    · rw [if_pos g17]
      obtain ⟨c, b2, z1, z2, z3, z4, z5, z6, out', h1, h2, h3, hI'⟩ := law_offer (k := k) (p := (xs (nI (a + 1)).toNatClampNeg)) (th := f_P2_thrown) (out := A_P3) (show 1000 ≤ k by omega) hI
      simp (disch := omega) only [e1, e2, e3, e4, xi_nI]
      rw [h1, xb_s]
      try dsimp only
      rw [h2, xb_s]
      try dsimp only
      rw [thrown_s, xb_s, if_pos rfl]
      by_cases c0 : c = 0
      · rw [if_pos c0, xi_0, if_pos (show lg_cmp (out' (0 : Int32).toNatClampNeg) b2.toInt64 = 0 from (cmp_0 _ _).mpr (h3 c0))]
        exact ih (a + 4) (by omega) (by omega) hI'
      · rw [if_neg c0]
        exact ih (a + 4) (by omega) (by omega) hI'
    rw [if_neg g17]
    by_cases g18 : op = 18
    · rw [if_pos g18]
      obtain ⟨h1, h2⟩ := law_accepted (k := k) (th := f_P2_thrown) (show 1000 ≤ k by omega) hI
      have hI' := hI
      simp (disch := omega) only [e1, e2, e3, e4, xi_nI]
      rw [h1, xb_s]
      try dsimp only
      rw [h2, xb_s]
      try dsimp only
      rw [if_pos ((cmp_0 _ _).mpr rfl)]
      exact ih (a + 4) (by omega) (by omega) hI'
    rw [if_neg g18]
    by_cases g19 : op = 19
    · rw [if_pos g19]
      obtain ⟨r, h1, h2⟩ := law_acceptedWeight (k := k) (th := f_P2_thrown) (show 1000 ≤ k by omega) hI
      have hI' := hI
      simp (disch := omega) only [e1, e2, e3, e4, xi_nI]
      rw [h1, xb_s]
      try dsimp only
      rw [h2, xb_s]
      try dsimp only
      rw [if_pos rfl]
      exact ih (a + 4) (by omega) (by omega) hI'
    rw [if_neg g19]
    by_cases g20 : op = 20
    · rw [if_pos g20]
      obtain ⟨h1, h2⟩ := law_droppedWeight (k := k) (th := f_P2_thrown) hI
      have hI' := hI
      simp (disch := omega) only [e1, e2, e3, e4, xi_nI]
      rw [h1, xb_s]
      try dsimp only
      rw [h2, xb_s]
      try dsimp only
      rw [if_pos rfl]
      exact ih (a + 4) (by omega) (by omega) hI'
    rw [if_neg g20]
    by_cases g21 : op = 21
    · rw [if_pos g21]
      obtain ⟨r, z1, z2, z3, z4, z5, z6, z7, z8, z9, z10, h1, h2⟩ := law_bestOfOffered (k := k) (th := f_P2_thrown) (cnt := f_P1_oneRoom_row_count) (N := A_P1_oneRoom_row_numbers) (Bg := A_P1_oneRoom_row_begins) (En := A_P1_oneRoom_row_ends) (Wt := A_P1_oneRoom_row_weights) (Be := A_P1_oneRoom_best) (mBe := A_P2_best) (Fr := A_P2_froms) (To := A_P2_tos) (Ct := A_P2_counts) hk hI
      have hI' := hI
      simp (disch := omega) only [e1, e2, e3, e4, xi_nI]
      rw [h1, xb_s]
      try dsimp only
      rw [h2, xb_s]
      try dsimp only
      rw [if_pos rfl]
      exact ih (a + 4) (by omega) (by omega) hI'
    rw [if_neg g21]
    by_cases g22 : op = 22
    · rw [if_pos g22]
      obtain ⟨c, b2, out', h1, h2, h3⟩ := law_depthRound (k := k) (p := (xs (nI (a + 1)).toNatClampNeg)) (th := f_P2_thrown) (out := A_P3) hk hI
      have hI' := hI
      simp (disch := omega) only [e1, e2, e3, e4, xi_nI]
      rw [h1, xb_s]
      try dsimp only
      rw [h2, xb_s]
      try dsimp only
      rw [thrown_s, xb_s, if_pos rfl]
      by_cases c0 : c = 0
      · rw [if_pos c0, xi_0, if_pos (show lg_cmp (out' (0 : Int32).toNatClampNeg) b2.toInt64 = 0 from (cmp_0 _ _).mpr (h3 c0))]
        exact ih (a + 4) (by omega) (by omega) hI'
      · rw [if_neg c0]
        exact ih (a + 4) (by omega) (by omega) hI'
    rw [if_neg g22]
    by_cases g23 : op = 23
    · rw [if_pos g23]
      obtain ⟨c, b2, z1, z2, z3, z4, z5, z6, z7, z8, z9, z10, out', h1, h2, h3⟩ := law_heaviestRound (k := k) (p := (xs (nI (a + 1)).toNatClampNeg)) (th := f_P2_thrown) (out := A_P3) (cnt := f_P1_oneRoom_row_count) (N := A_P1_oneRoom_row_numbers) (Bg := A_P1_oneRoom_row_begins) (En := A_P1_oneRoom_row_ends) (Wt := A_P1_oneRoom_row_weights) (Be := A_P1_oneRoom_best) (mBe := A_P2_best) (Fr := A_P2_froms) (To := A_P2_tos) (Ct := A_P2_counts) hk hI
      have hI' := hI
      simp (disch := omega) only [e1, e2, e3, e4, xi_nI]
      rw [h1, xb_s]
      try dsimp only
      rw [h2, xb_s]
      try dsimp only
      rw [thrown_s, xb_s, if_pos rfl]
      by_cases c0 : c = 0
      · rw [if_pos c0, xi_0, if_pos (show lg_cmp (out' (0 : Int32).toNatClampNeg) b2.toInt64 = 0 from (cmp_0 _ _).mpr (h3 c0))]
        exact ih (a + 4) (by omega) (by omega) hI'
      · rw [if_neg c0]
        exact ih (a + 4) (by omega) (by omega) hI'
    rw [if_neg g23]
    by_cases hop : op.toInt < 0 ∨ 23 < op.toInt
    · rw [if_pos hop, e4]
      exact ih (a + 4) (by omega) (by omega) hI
    · exfalso
      obtain ⟨t, ht, rfl⟩ := nI_of2 (M := 23) (n := 23) rfl (fun q => hop (Or.inl (by rw [fa_lt] at q; exact q))) (by rw [fa_le]; show op.toInt ≤ 23; omega)
      have : t = 0 ∨ t = 1 ∨ t = 2 ∨ t = 3 ∨ t = 4 ∨ t = 5 ∨ t = 6 ∨ t = 7 ∨ t = 8 ∨ t = 9 ∨ t = 10 ∨ t = 11 ∨ t = 12 ∨ t = 13 ∨ t = 14 ∨ t = 15 ∨ t = 16 ∨ t = 17 ∨ t = 18 ∨ t = 19 ∨ t = 20 ∨ t = 21 ∨ t = 22 ∨ t = 23 := by omega
      rcases this with rfl | rfl | rfl | rfl | rfl | rfl | rfl | rfl | rfl | rfl | rfl | rfl | rfl | rfl | rfl | rfl | rfl | rfl | rfl | rfl | rfl | rfl | rfl | rfl
      · exact g0 rfl
      · exact g1 rfl
      · exact g2 rfl
      · exact g3 rfl
      · exact g4 rfl
      · exact g5 rfl
      · exact g6 rfl
      · exact g7 rfl
      · exact g8 rfl
      · exact g9 rfl
      · exact g10 rfl
      · exact g11 rfl
      · exact g12 rfl
      · exact g13 rfl
      · exact g14 rfl
      · exact g15 rfl
      · exact g16 rfl
      · exact g17 rfl
      · exact g18 rfl
      · exact g19 rfl
      · exact g20 rfl
      · exact g21 rfl
      · exact g22 rfl
      · exact g23 rfl
