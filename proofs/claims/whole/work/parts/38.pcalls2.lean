/-! remove, move, the reads, the desk. -/
/-- both sides hold the same -/
def INV (added : Int32) (ps : Int64) (fac : Int32) (os as : Int64) (drop : Int32) (B E W : Nat → Int32) (many mfac mdrop : Int32) (mB mE mW T TO TC : Nat → Int32) : Prop :=
  ∃ (n : Nat) (b e w : Nat → Nat) (P O C : Nat → Bool) (fa : Nat) (dr : Int32), SI n b e w P O C fa ∧ XI n b e w P O C fa dr added ps fac os as drop B E W ∧ MI n b e w P O C fa dr many mfac mdrop mB mE mW T TO TC
theorem GD.set {n i b0 e0 : Nat} {b e w : Nat → Nat} (h : GD n b e w) (h1 : b0 < e0) (h2 : e0 ≤ 1000) : GD n (fs b i b0) (fs e i e0) w := by
  refine ⟨h.1, fun j hj => ?_⟩
  unfold fs
  by_cases he : j = i
  · rw [if_pos he, if_pos he]; exact ⟨h1, h2, (h.2 j hj).2.2⟩
  · rw [if_neg he, if_neg he]; exact h.2 j hj
theorem ST.cnt {x : Int64} {n : Nat} {P : Nat → Bool} (h : ST x n P) (hn : n ≤ 64) : fb_ct (bs x) 64 = fb_ct P n := by
  obtain ⟨m, hm⟩ : ∃ m, 64 = n + m := ⟨64 - n, by omega⟩
  have h0 : fb_ct (fun i => bs x (n + i)) m = 0 := fb_ct_zero.mpr (fun i hi => by rw [h (n + i) (by omega)]; simp; omega)
  rw [hm, fb_ct_split, h0, fb_ct_cong (q := P) (fun i hi => by rw [h i (by omega)]; simp [hi]), Nat.add_zero]
section SM
variable {k : Nat} {p p2 p3 added fac drop th many mfac mdrop : Int32} {ps os as : Int64} {B E W mB mE mW T TO TC : Nat → Int32} {out : Nat → Int64}
theorem law_remove (hk : 1000 ≤ k) (h : INV added ps fac os as drop B E W many mfac mdrop mB mE mW T TO TC) :
    ∃ (c b2 : Int32) (ps' as' : Int64) (T' TC' : Nat → Int32) (out' : Nat → Int64), f_L_remove k p added ps as out = some (c, ps', as', out') ∧ f_X5_remove k p th many T TC = some (b2, c, T', TC') ∧ (c = 0 → out' 0 = b2.toInt64) ∧ INV added ps' fac os as' drop B E W many mfac mdrop mB mE mW T' TO TC' := by
  obtain ⟨n, b, e, w, P, O, C, fa, dr, hS, hX, hM⟩ := h
  obtain ⟨hG, hC, hO, hf1, hf2⟩ := id hS
  obtain ⟨rfl, x2, x3, x4, x5, x6, x7, x8, x9⟩ := id hX
  obtain ⟨rfl, m2, m3, m4, m5, m6, m7, m8, m9⟩ := id hM
  have hn := hG.1
  rcases there p n P hn with ⟨j, hj, rfl, hp⟩ | hno
  · have hps := x2.clr (i := j) (by omega)
    refine ⟨0, nI (fb_ct (fs P j false) n), ps &&& (lN (2 ^ j) ^^^ (-1)), as &&& (lN (2 ^ j) ^^^ (-1)), upd T j 0, upd TC j 0, vp_updL out (0 : Int32).toNatClampNeg (nI (fb_ct (fs P j false) n)).toInt64, ?_, ?_, fun _ => rfl, n, b, e, w, fs P j false, O, fs C j false, fa, dr, ?_, ?_, ?_⟩
    · unfold f_L_remove f_X4_remove
      simp (disch := omega) only [requireThere_ok hn x2 hj hp, xe_s, only_eq, xb_s, bitCount_eq, hps.cnt, xt_s, xi_0]
    · unfold f_X5_remove
      have hc := X5_count_eq (k := k) hk hn (m7.set (i := j) false (x := 0) rfl)
      simp (disch := omega) only [X5_is_ok hn m7 hj hp, xb_s, xj_s, xi_nI, nI_clamp, nar_0]
      rw [if_neg (by decide), goesWell_0, xb_s, if_neg (by decide), hc, xb_s]
    · refine ⟨hG, fun i hi => ?_, hO, hf1, hf2⟩
      unfold fs at hi ⊢
      by_cases he : i = j
      · rw [if_pos he] at hi; cases hi
      · rw [if_neg he] at hi; rw [if_neg he]; exact hC i hi
    · exact ⟨rfl, hps, x3, x4, x5.clr (by omega), x6, x7, x8, x9⟩
    · exact ⟨rfl, m2, m3, m4, m5, m6, m7.set false rfl, m8, m9.set false rfl⟩
  · refine ⟨1, 0, ps, as, T, TC, out, ?_, ?_, fun q => absurd q (by decide), n, b, e, w, P, O, C, fa, dr, hS, hX, hM⟩
    · unfold f_L_remove f_X4_remove
      rw [requireThere_no hn x2 hno, xe_e, xt_e, if_pos rfl]
    · unfold f_X5_remove
      simp only [X5_is_no hn m7 hno, xb_s, xj_s]
      rw [if_pos trivial, goesWell_1, xb_s, if_pos rfl]
theorem law_overlapping (hk : 1000 ≤ k) (h : INV added ps fac os as drop B E W many mfac mdrop mB mE mW T TO TC) :
    ∃ (c : Int32) (b2 : Int64) (out' : Nat → Int64), f_L_overlapping k p added ps B E out = some (c, out') ∧ f_X5_overlapping k p th many mB mE T = some (b2, c) ∧ (c = 0 → out' 0 = b2) := by
  obtain ⟨n, b, e, w, P, O, C, fa, dr, hS, hX, hM⟩ := h
  obtain ⟨hG, hC, hO, hf1, hf2⟩ := id hS
  obtain ⟨rfl, x2, x3, x4, x5, x6, x7, x8, x9⟩ := id hX
  obtain ⟨rfl, m2, m3, m4, m5, m6, m7, m8, m9⟩ := id hM
  have hn := hG.1
  rcases there p n P hn with ⟨j, hj, rfl, hp⟩ | hno
  · obtain ⟨r, h1, h2⟩ := othersMeeting_eq (k := k) hk hG x2 x7 x8 hj
    refine ⟨0, r, vp_updL out (0 : Int32).toNatClampNeg r, ?_, ?_, fun _ => rfl⟩
    · unfold f_L_overlapping f_X4_overlapping
      simp only [requireThere_ok hn x2 hj hp, xe_s, h1, xb_s, xt_s, xi_0]
    · unfold f_X5_overlapping
      simp only [X5_is_ok hn m7 hj hp, xb_s, xj_s]
      rw [if_neg (by decide), goesWell_0, xb_s, if_neg (by decide), X5_overlapping_loop hk hG m7 m4 m5 hj, (mkS_st _ (by omega)).eq h2]
  · refine ⟨1, 0, out, ?_, ?_, fun q => absurd q (by decide)⟩
    · unfold f_L_overlapping f_X4_overlapping
      rw [requireThere_no hn x2 hno, xe_e, xt_e, if_pos rfl]
    · unfold f_X5_overlapping
      simp only [X5_is_no hn m7 hno, xb_s, xj_s]
      rw [if_pos trivial, goesWell_1, xb_s, if_pos rfl]
theorem law_intervals (hk : 1000 ≤ k) (h : INV added ps fac os as drop B E W many mfac mdrop mB mE mW T TO TC) : ∃ r : Int32, f_X4_intervals k ps = some r ∧ f_X5_intervals k th many T = some (r, 0) := by
  obtain ⟨n, b, e, w, P, O, C, fa, dr, hS, hX, hM⟩ := h
  obtain ⟨hG, hC, hO, hf1, hf2⟩ := id hS
  obtain ⟨rfl, x2, x3, x4, x5, x6, x7, x8, x9⟩ := id hX
  obtain ⟨rfl, m2, m3, m4, m5, m6, m7, m8, m9⟩ := id hM
  have hn := hG.1
  refine ⟨nI (fb_ct P n), ?_, ?_⟩
  · unfold f_X4_intervals
    rw [bitCount_eq, xb_s, x2.cnt (by omega)]
  · unfold f_X5_intervals
    rw [X5_count_eq hk hn m7, xb_s]
theorem law_present (hk : 1000 ≤ k) (h : INV added ps fac os as drop B E W many mfac mdrop mB mE mW T TO TC) : f_X4_present k ps = some ps ∧ f_X5_present k th many T = some (ps, 0) := by
  obtain ⟨n, b, e, w, P, O, C, fa, dr, hS, hX, hM⟩ := h
  obtain ⟨hG, hC, hO, hf1, hf2⟩ := id hS
  obtain ⟨rfl, x2, x3, x4, x5, x6, x7, x8, x9⟩ := id hX
  obtain ⟨rfl, m2, m3, m4, m5, m6, m7, m8, m9⟩ := id hM
  have hn := hG.1
  refine ⟨rfl, ?_⟩
  unfold f_X5_present
  rw [X5_present_loop hk hn m7, (mkS_st P (by omega)).eq x2]
theorem BZ.mono {m n : Nat} {A : Nat → Int32} {P : Nat → Bool} (h : BZ m A P) (hn : n ≤ m) : BZ n A P := fun i hi => h i (by omega)
theorem law_accepted (hk : 1000 ≤ k) (h : INV added ps fac os as drop B E W many mfac mdrop mB mE mW T TO TC) : f_X4_accepted k as = some as ∧ f_X5_accepted k th many TC = some (as, 0) := by
  obtain ⟨n, b, e, w, P, O, C, fa, dr, hS, hX, hM⟩ := h
  obtain ⟨hG, hC, hO, hf1, hf2⟩ := id hS
  obtain ⟨rfl, x2, x3, x4, x5, x6, x7, x8, x9⟩ := id hX
  obtain ⟨rfl, m2, m3, m4, m5, m6, m7, m8, m9⟩ := id hM
  have hn := hG.1
  refine ⟨rfl, ?_⟩
  unfold f_X5_accepted
  rw [X5_accepted_loop hk hn (m9.mono hn), (mkS_st C (by omega)).eq x5]
theorem law_acceptedWeight (hk : 1000 ≤ k) (h : INV added ps fac os as drop B E W many mfac mdrop mB mE mW T TO TC) : ∃ r : Int32, f_X4_acceptedWeight k added as W = some r ∧ f_X5_acceptedWeight k th many mW TC = some (r, 0) := by
  obtain ⟨n, b, e, w, P, O, C, fa, dr, hS, hX, hM⟩ := h
  obtain ⟨hG, hC, hO, hf1, hf2⟩ := id hS
  obtain ⟨rfl, x2, x3, x4, x5, x6, x7, x8, x9⟩ := id hX
  obtain ⟨rfl, m2, m3, m4, m5, m6, m7, m8, m9⟩ := id hM
  have hn := hG.1
  refine ⟨nI (wsum C w n), ?_, ?_⟩
  · unfold f_X4_acceptedWeight
    rw [weightOf_eq hk hn x5 x9, xb_s]
  · unfold f_X5_acceptedWeight
    rw [X5_weightAccepted_eq hk hn (m9.mono hn) m6, xb_s]
theorem law_droppedWeight (h : INV added ps fac os as drop B E W many mfac mdrop mB mE mW T TO TC) : f_X4_droppedWeight k drop = some drop ∧ f_X5_droppedWeight k th mdrop = some (drop, 0) := by
  obtain ⟨n, b, e, w, P, O, C, fa, dr, hS, hX, hM⟩ := h
  refine ⟨rfl, ?_⟩
  unfold f_X5_droppedWeight
  rw [hM.2.2.1, hX.2.2.2.2.2.1]
theorem law_depth (hk : 1000 ≤ k) (h : INV added ps fac os as drop B E W many mfac mdrop mB mE mW T TO TC) :
    ∃ (c b2 : Int32) (out' : Nat → Int64), f_L_depth k p added ps B E out = some (c, out') ∧ f_X5_depth k p th many mB mE T = some (b2, c) ∧ (c = 0 → out' 0 = b2.toInt64) := by
  obtain ⟨n, b, e, w, P, O, C, fa, dr, hS, hX, hM⟩ := h
  obtain ⟨hG, hC, hO, hf1, hf2⟩ := id hS
  obtain ⟨rfl, x2, x3, x4, x5, x6, x7, x8, x9⟩ := id hX
  obtain ⟨rfl, m2, m3, m4, m5, m6, m7, m8, m9⟩ := id hM
  have hn := hG.1
  have hl := (cmp_lit p).2.1
  by_cases h0 : p < 0
  · refine ⟨1, 0, out, ?_, ?_, fun q => absurd q (by decide)⟩
    · unfold f_L_depth f_X4_depth
      rw [if_pos h0, xt_e, if_pos rfl]
    · unfold f_X5_depth f_X5_in
      simp only [xj_s]
      rw [if_pos h0, xb_s, if_pos rfl, goesWell_1, xb_s, if_pos rfl]
  · by_cases h1 : p ≤ 1000
    · obtain ⟨t, ht, rfl⟩ := nI_of2 (M := 1000) (n := 1000) rfl h0 h1
      refine ⟨0, nI (dep n b e P t), vp_updL out (0 : Int32).toNatClampNeg (nI (dep n b e P t)).toInt64, ?_, ?_, fun _ => rfl⟩
      · unfold f_L_depth f_X4_depth
        rw [if_neg h0, if_pos h1, depthAt_eq hk hG x2 x7 x8 (by omega), xb_s, xt_s, xi_0]
      · unfold f_X5_depth f_X5_in
        simp only [xj_s]
        rw [if_neg h0, if_neg (fun q => (hl.mp q) h1), xb_s, if_neg (by decide), goesWell_0, xb_s, if_neg (by decide), X5_depthAt_eq hk hG m7 m4 m5 (by omega), xb_s]
    · refine ⟨1, 0, out, ?_, ?_, fun q => absurd q (by decide)⟩
      · unfold f_L_depth f_X4_depth
        rw [if_neg h0, if_neg h1, xt_e, if_pos rfl]
      · unfold f_X5_depth f_X5_in
        simp only [xj_s]
        rw [if_neg h0, if_pos (hl.mpr h1), xb_s, if_pos rfl, goesWell_1, xb_s, if_pos rfl]
theorem law_move (h : INV added ps fac os as drop B E W many mfac mdrop mB mE mW T TO TC) :
    ∃ (c b2 : Int32) (as' : Int64) (B' E' mB' mE' TC' : Nat → Int32) (out' : Nat → Int64), f_L_move k p p2 added ps as B E out = some (c, as', B', E', out') ∧ f_X5_move k p p2 th many mB mE T TC = some (b2, c, mB', mE', TC') ∧ (c = 0 → out' 0 = b2.toInt64) ∧ INV added ps fac os as' drop B' E' W many mfac mdrop mB' mE' mW T TO TC' := by
  obtain ⟨n, b, e, w, P, O, C, fa, dr, hS, hX, hM⟩ := h
  obtain ⟨hG, hC, hO, hf1, hf2⟩ := id hS
  obtain ⟨rfl, x2, x3, x4, x5, x6, x7, x8, x9⟩ := id hX
  obtain ⟨rfl, m2, m3, m4, m5, m6, m7, m8, m9⟩ := id hM
  have hn := hG.1
  have hl := (cmp_lit p2).1
  rcases there p n P hn with ⟨j, hj, rfl, hp⟩ | hno
  · have hg := hG.2 j hj
    have e1 : nI (e j) - nI (b j) = nI (e j - b j) := pk_sub (by omega)
    have e2 : (1000 : Int32) - nI (e j - b j) = nI (1000 - (e j - b j)) := pk_sub (a := 1000) (by omega)
    have hcls : f_X4_lengthOf k (nI j) B E = some (nI (e j - b j)) := by
      unfold f_X4_lengthOf
      simp (disch := omega) only [xi_nI, nI_clamp, x7 j hj, x8 j hj, e1]
    by_cases h0 : p2 < 0
    · refine ⟨2, 0, as, B, E, mB, mE, TC, out, ?_, ?_, fun q => absurd q (by decide), n, b, e, w, P, O, C, fa, dr, hS, hX, hM⟩
      · unfold f_L_move f_X4_move
        rw [requireThere_ok hn x2 hj hp, xe_s, hcls, xb_s, if_pos h0, xt_e, if_neg (by decide), if_pos rfl]
      · unfold f_X5_move
        rw [X5_is_ok hn m7 hj hp, xb_s, xj_s, if_neg (by decide)]
        simp (disch := omega) only [xi_nI, nI_clamp]
        unfold f_X5_in
        rw [if_pos h0, xb_s, xj_s, xj_s, if_pos rfl]
        dsimp only
        rw [xb_s, xj_s, if_neg (by decide), if_pos rfl]
        rfl
    · by_cases h1 : p2 ≤ nI (1000 - (e j - b j))
      · obtain ⟨a, ha, rfl⟩ := nI_of2 (n := 1000 - (e j - b j)) (nI_toInt (by omega)) h0 h1
        refine ⟨0, nI (b j), as &&& (lN (2 ^ j) ^^^ (-1)), upd B j (nI a), upd E j (nI (a + (e j - b j))), upd mB j (nI a), upd mE j (nI (a + (e j - b j))), upd TC j 0, vp_updL out (0 : Int32).toNatClampNeg (nI (b j)).toInt64, ?_, ?_, fun _ => rfl, n, fs b j a, fs e j (a + (e j - b j)), w, P, O, fs C j false, fa, dr, ?_, ?_, ?_⟩
        · unfold f_L_move f_X4_move
          rw [requireThere_ok hn x2 hj hp, xe_s, hcls, xb_s, if_neg h0, e2, if_pos h1]
          simp (disch := omega) only [xi_nI, nI_clamp, only_eq, xb_s, xt_s, xi_0, x7 j hj, nI_add]
        · unfold f_X5_move
          rw [X5_is_ok hn m7 hj hp, xb_s, xj_s, if_neg (by decide)]
          simp (disch := omega) only [xi_nI, nI_clamp, m4 j hj, m5 j hj, e1, nI_add]
          unfold f_X5_in
          rw [if_neg h0, if_neg (fun q => by have := hl.mp q; rw [show (1000 : Int32) = nI 1000 from rfl, nI_leI (by omega) (by omega)] at this; omega), xb_s, xj_s, xj_s, if_neg (by decide), if_neg (show ¬ (1000 : Int32) < nI (a + (e j - b j)) from fun q => by rw [show (1000 : Int32) = nI 1000 from rfl, nI_ltI (by omega) (by omega)] at q; omega)]
          dsimp only
          rw [xb_s, xj_s, if_neg (by decide), if_neg (by decide)]
          rfl
        · refine ⟨hG.set (by omega) (by omega), fun i hi => ?_, hO, hf1, hf2⟩
          unfold fs at hi
          by_cases he : i = j
          · rw [if_pos he] at hi; cases hi
          · rw [if_neg he] at hi; exact hC i hi
        · exact ⟨rfl, x2, x3, x4, x5.clr (by omega), x6, x7.set, x8.set, x9⟩
        · exact ⟨rfl, m2, m3, m4.set, m5.set, m6, m7, m8, m9.set false rfl⟩
      · refine ⟨2, 0, as, B, E, mB, mE, TC, out, ?_, ?_, fun q => absurd q (by decide), n, b, e, w, P, O, C, fa, dr, hS, hX, hM⟩
        · unfold f_L_move f_X4_move
          rw [requireThere_ok hn x2 hj hp, xe_s, hcls, xb_s, if_neg h0, e2, if_neg h1, xt_e, if_neg (by decide), if_pos rfl]
        · unfold f_X5_move
          rw [X5_is_ok hn m7 hj hp, xb_s, xj_s, if_neg (by decide)]
          simp (disch := omega) only [xi_nI, nI_clamp, m4 j hj, m5 j hj, e1]
          unfold f_X5_in
          rw [if_neg h0]
          by_cases h2 : (999 : Int32) < p2
          · rw [if_pos h2, xb_s, xj_s, xj_s, if_pos rfl]
            dsimp only
            rw [xb_s, xj_s, if_neg (by decide), if_pos rfl]
            rfl
          · rw [if_neg h2, xb_s, xj_s, xj_s, if_neg (by decide)]
            obtain ⟨a, ha, rfl⟩ := nI_of h0
            have h3 : ¬ (1000 : Int32) ≤ nI a := fun q => h2 (hl.mpr q)
            rw [show (1000 : Int32) = nI 1000 from rfl, nI_leI (by omega) (by omega)] at h3
            rw [nI_leI (by omega) (by omega)] at h1
            rw [nI_add, if_pos (show (1000 : Int32) < nI (a + (e j - b j)) from by rw [show (1000 : Int32) = nI 1000 from rfl, nI_ltI (by omega) (by omega)]; omega)]
            dsimp only
            rw [xb_s, xj_s, if_neg (by decide), if_pos rfl]
            rfl
  · refine ⟨1, 0, as, B, E, mB, mE, TC, out, ?_, ?_, fun q => absurd q (by decide), n, b, e, w, P, O, C, fa, dr, hS, hX, hM⟩
    · unfold f_L_move f_X4_move
      rw [requireThere_no hn x2 hno, xe_e, xt_e, if_pos rfl]
    · unfold f_X5_move f_X5_in
      simp only [X5_is_no hn m7 hno, xb_s, xj_s]
      by_cases h0 : p2 < 0
      · rw [if_pos h0, xb_s]; simp [goesWell_1, xb_s]
      · rw [if_neg h0]
        by_cases h1 : (999 : Int32) < p2
        · rw [if_pos h1, xb_s]; simp [goesWell_1, xb_s]
        · rw [if_neg h1, xb_s]
          by_cases h2 : (1000 : Int32) < p2 + 0
          · simp [goesWell_1, xb_s]
          · simp [goesWell_1, xb_s]
theorem law_openDesk (hk : 1000 ≤ k) (h : INV added ps fac os as drop B E W many mfac mdrop mB mE mW T TO TC) :
    ∃ (c b2 fac' drop' mfac' mdrop' : Int32) (os' as' : Int64) (TO' TC' : Nat → Int32) (out' : Nat → Int64), f_L_openDesk k p added fac os as drop W out = some (c, fac', os', as', drop', out') ∧ f_X5_openDesk k p th many mfac mdrop mW TO TC = some (b2, c, mfac', mdrop', TO', TC') ∧ (c = 0 → out' 0 = b2.toInt64) ∧ INV added ps fac' os' as' drop' B E W many mfac' mdrop' mB mE mW T TO' TC' := by
  obtain ⟨n, b, e, w, P, O, C, fa, dr, hS, hX, hM⟩ := h
  obtain ⟨hG, hC, hO, hf1, hf2⟩ := id hS
  obtain ⟨rfl, x2, x3, x4, x5, x6, x7, x8, x9⟩ := id hX
  obtain ⟨rfl, m2, m3, m4, m5, m6, m7, m8, m9⟩ := id hM
  have hn := hG.1
  have hl := (cmp_lit p).2.2.1
  by_cases h0 : p < 100
  · refine ⟨1, 0, fac, drop, mfac, mdrop, os, as, TO, TC, out, ?_, ?_, fun q => absurd q (by decide), n, b, e, w, P, O, C, fa, dr, hS, hX, hM⟩
    · unfold f_L_openDesk f_X4_openDesk
      rw [if_pos h0, xt_e, if_pos rfl]
    · unfold f_X5_openDesk f_X5_in
      simp only [xj_s]
      rw [if_pos h0, xb_s, if_pos rfl, goesWell_1, xb_s, if_pos rfl]
  · by_cases h1 : p ≤ 400
    · have h2 : ¬ p < 0 := fun q => h0 (by rw [fa_lt] at q ⊢; exact Int.lt_trans q (by decide))
      obtain ⟨t, ht, rfl⟩ := nI_of2 (M := 400) (n := 400) rfl h2 h1
      rw [show (100 : Int32) = nI 100 from rfl, nI_ltI (by omega) (by omega)] at h0
      refine ⟨0, nI (wsum C w n), nI t, 0, nI t, 0, 0, 0, fillB (fun _ => false) TO 40, fillB (fun _ => false) TC 40, vp_updL out (0 : Int32).toNatClampNeg (nI (wsum C w n)).toInt64, ?_, ?_, fun _ => rfl, n, b, e, w, P, fun _ => false, fun _ => false, t, 0, ?_, ?_, ?_⟩
      · unfold f_L_openDesk f_X4_openDesk
        rw [if_neg (show ¬ nI t < 100 from fun q => by rw [show (100 : Int32) = nI 100 from rfl, nI_ltI (by omega) (by omega)] at q; omega), if_pos h1, weightOf_eq hk hn x5 x9, xb_s, xt_s]
        dsimp only
        rw [xi_0]
      · unfold f_X5_openDesk f_X5_in
        simp only [xj_s]
        rw [if_neg (show ¬ nI t < 100 from fun q => by rw [show (100 : Int32) = nI 100 from rfl, nI_ltI (by omega) (by omega)] at q; omega), if_neg (fun q => (hl.mp q) h1), xb_s, if_neg (by decide), goesWell_0, xb_s, if_neg (by decide), X5_weightAccepted_eq hk hn (m9.mono hn) m6, xb_s, X5_openDesk_loop hk]
      · exact ⟨hG, fun i hi => (Bool.noConfusion hi), fun i hi => (Bool.noConfusion hi), by omega, by omega⟩
      · refine ⟨rfl, x2, rfl, ?_, ?_, rfl, x7, x8, x9⟩ <;> (intro i hi; rw [bs_0]; simp)
      · exact ⟨rfl, rfl, rfl, m4, m5, m6, m7, fillB_bz _ _ _, fillB_bz _ _ _⟩
    · refine ⟨1, 0, fac, drop, mfac, mdrop, os, as, TO, TC, out, ?_, ?_, fun q => absurd q (by decide), n, b, e, w, P, O, C, fa, dr, hS, hX, hM⟩
      · unfold f_L_openDesk f_X4_openDesk
        rw [if_neg h0, if_neg h1, xt_e, if_pos rfl]
      · unfold f_X5_openDesk f_X5_in
        simp only [xj_s]
        rw [if_neg h0, if_pos (hl.mpr h1), xb_s, if_pos rfl, goesWell_1, xb_s, if_pos rfl]
end SM
