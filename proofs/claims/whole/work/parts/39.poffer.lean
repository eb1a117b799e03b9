/-! offer. -/
theorem wsum_cong {P Q : Nat → Bool} {w : Nat → Nat} {n : Nat} (h : ∀ i, i < n → P i = Q i) : wsum P w n = wsum Q w n := fb_sm_cong fun i hi => by rw [h i hi]
theorem law_offer {k : Nat} {p added fac drop th many mfac mdrop : Int32} {ps os as : Int64} {B E W mB mE mW T TO TC : Nat → Int32} {out : Nat → Int64} (hk : 1000 ≤ k) (h : INV added ps fac os as drop B E W many mfac mdrop mB mE mW T TO TC) :
    ∃ (c b2 drop' mdrop' : Int32) (os' as' : Int64) (TO' TC' : Nat → Int32) (out' : Nat → Int64), f_L_offer k p added ps fac os as drop B E W out = some (c, os', as', drop', out') ∧ f_X5_offer k p th many mfac mdrop mB mE mW T TO TC = some (b2, c, mdrop', TO', TC') ∧ (c = 0 → out' 0 = b2.toInt64) ∧ INV added ps fac os' as' drop' B E W many mfac mdrop' mB mE mW T TO' TC' := by
  obtain ⟨n, b, e, w, P, O, C, fa, dr, hS, hX, hM⟩ := h
  obtain ⟨hG, hC, hO, hf1, hf2⟩ := id hS
  obtain ⟨rfl, x2, x3, x4, x5, x6, x7, x8, x9⟩ := id hX
  obtain ⟨rfl, m2, m3, m4, m5, m6, m7, m8, m9⟩ := id hM
  have hn := hG.1
  rcases there p n P hn with ⟨i, hi, rfl, hp⟩ | hno
  · by_cases hoi : O i = true
    · refine ⟨2, 0, drop, mdrop, os, as, TO, TC, out, ?_, ?_, fun q => absurd q (by decide), n, b, e, w, P, O, C, fa, dr, hS, hX, hM⟩
      · unfold f_L_offer f_X4_offer
        rw [requireThere_ok hn x2 hi hp, xe_s, contains_st k x4 hi hn, xb_s, if_pos hoi, if_neg (by decide), xt_e, if_neg (by decide), if_pos rfl]
      · unfold f_X5_offer
        rw [X5_is_ok hn m7 hi hp, xb_s, xj_s, if_neg (by decide), xi_nI (by omega) (by omega), nI_clamp (by omega), if_neg (by rw [bz_0 m8 (by omega), hoi]; simp)]
        try dsimp only
        rw [goesWell_2, xb_s]
        rfl
    · have hoi2 : O i = false := by simpa using hoi
      have hci : C i = false := by
        cases hq : C i with
        | false => rfl
        | true => exact absurd (hC i hq).2 hoi
      obtain ⟨rv, hr1, hr2⟩ := othersMeeting_eq (k := k) hk hG x2 x7 x8 hi
      have hrs : ST (rv &&& as) n (fun j => C j && ovl b e j i) := by
        intro j hj
        rw [bs_and, hr2 j hj, x5 j hj]
        show ((decide (j < n) && (P j && (ovl b e j i && !decide (j = i)))) && (decide (j < n) && C j)) = (decide (j < n) && (C j && ovl b e j i))
        by_cases hc : C j = true
        · have hji : j ≠ i := fun q => by rw [q, hci] at hc; cases hc
          rw [hc, (hC j hc).1, decide_eq_false hji]
          cases decide (j < n) <;> cases ovl b e j i <;> rfl
        · have hc2 : C j = false := by simpa using hc
          rw [hc2]
          cases decide (j < n) <;> cases P j <;> cases ovl b e j i <;> cases decide (j = i) <;> rfl
      have hw := weightOf_eq (k := k) hk hn hrs x9
      have hcl : f_X4_offer k (nI i) (nI n) ps fac os as drop B E W = if (fac * nI (wsum (fun j => C j && ovl b e j i) w n)) < (100 * W i) then some (.ok (nI (wsum (fun j => C j && ovl b e j i) w n), os ||| lN (2 ^ i), (as &&& ((rv &&& as) ^^^ (-1))) ||| lN (2 ^ i), drop + nI (wsum (fun j => C j && ovl b e j i) w n))) else some (.ok ((-1), os ||| lN (2 ^ i), as, drop)) := by
        unfold f_X4_offer
        rw [requireThere_ok hn x2 hi hp, xe_s, contains_st k x4 hi hn, xb_s, if_neg (show ¬ O i = true from hoi), if_pos rfl, only_eq k (by omega), xb_s, hr1, xb_s, hw, xb_s, xi_nI (by omega) (by omega), nI_clamp (by omega), xb_s]
      have hos : ST (os ||| lN (2 ^ i)) n (fs O i true) := x4.set hi (by omega)
      have hTO : BZ 40 (upd TO i 1) (fs O i true) := m8.set true rfl
      by_cases hacc : (fac * nI (wsum (fun j => C j && ovl b e j i) w n)) < (100 * W i)
      · refine ⟨0, nI (wsum (fun j => C j && ovl b e j i) w n), drop + nI (wsum (fun j => C j && ovl b e j i) w n), mdrop + nI (wsum (fun j => C j && ovl b e j i) w n), os ||| lN (2 ^ i), (as &&& ((rv &&& as) ^^^ (-1))) ||| lN (2 ^ i), upd TO i 1, upd (fillB (fun j => C j && !ovl b e j i) TC n) i 1, vp_updL out (0 : Int32).toNatClampNeg (nI (wsum (fun j => C j && ovl b e j i) w n)).toInt64, ?_, ?_, fun _ => rfl, n, b, e, w, P, fs O i true, fs (fun j => C j && !ovl b e j i) i true, fa, drop + nI (wsum (fun j => C j && ovl b e j i) w n), ?_, ?_, ?_⟩
        · unfold f_L_offer
          rw [hcl, if_pos hacc, xt_s]
          try dsimp only
          rw [xi_0]
        · unfold f_X5_offer
          rw [X5_is_ok hn m7 hi hp, xb_s, xj_s, if_neg (by decide), xi_nI (by omega) (by omega), nI_clamp (by omega), if_pos (by rw [bz_0 m8 (by omega), hoi2])]
          try dsimp only
          rw [goesWell_0, xb_s]
          rw [if_neg (by decide), xi_nI (by omega) (by omega), X5_offer_loop1 hk hG (m9.mono hn) m4 m5 m6 hi]
          try dsimp only
          rw [xi_nI (by omega) (by omega), m2, m6 i hi, ← x9 i hi, ← x3, if_pos hacc, X5_offer_loop2 hk hG (m9.mono hn) m4 m5 hi]
          try dsimp only
          rw [xi_nI (by omega) (by omega), nar_1]
        · refine ⟨hG, fun j hj => ?_, fun j hj => ?_, hf1, hf2⟩
          · unfold fs at hj ⊢
            by_cases he : j = i
            · rw [if_pos he, he]; exact ⟨hp, rfl⟩
            · rw [if_neg he] at hj; rw [if_neg he]
              dsimp only at hj
              have : C j = true := by
                cases hq : C j with
                | true => rfl
                | false => rw [hq] at hj; cases hj
              exact hC j this
          · unfold fs at hj
            by_cases he : j = i
            · omega
            · rw [if_neg he] at hj; exact hO j hj
        · refine ⟨rfl, x2, x3, hos, ?_, by rw [x6], x7, x8, x9⟩
          have h1 : ST (as &&& ((rv &&& as) ^^^ (-1))) n (fun j => C j && !ovl b e j i) := by
            intro j hj
            rw [bs_and, bs_xor, hrs j hj, x5 j hj, bs_m1 hj]
            show ((decide (j < n) && C j) && ((decide (j < n) && (C j && ovl b e j i)) ^^ true)) = (decide (j < n) && (C j && !ovl b e j i))
            cases decide (j < n) <;> cases C j <;> cases ovl b e j i <;> rfl
          exact h1.set hi (by omega)
        · refine ⟨rfl, m2, by rw [m3, x6], m4, m5, m6, m7, hTO, ?_⟩
          refine BZ.set (P := fun j => C j && !ovl b e j i) (fun j hj => ?_) true rfl
          unfold fillB
          by_cases h9 : j < n
          · rw [if_pos h9]
          · rw [if_neg h9, m9 j hj]
            have : C j = false := by
              cases hq : C j with
              | false => rfl
              | true => exact absurd (hO j (hC j hq).2) h9
            simp [this]
      · refine ⟨0, -1, drop, mdrop, os ||| lN (2 ^ i), as, upd TO i 1, TC, vp_updL out (0 : Int32).toNatClampNeg (-1 : Int32).toInt64, ?_, ?_, fun _ => rfl, n, b, e, w, P, fs O i true, C, fa, dr, ?_, ?_, ?_⟩
        · unfold f_L_offer
          rw [hcl, if_neg hacc, xt_s]
          try dsimp only
          rw [xi_0]
        · unfold f_X5_offer
          rw [X5_is_ok hn m7 hi hp, xb_s, xj_s, if_neg (by decide), xi_nI (by omega) (by omega), nI_clamp (by omega), if_pos (by rw [bz_0 m8 (by omega), hoi2])]
          try dsimp only
          rw [goesWell_0, xb_s]
          rw [if_neg (by decide), xi_nI (by omega) (by omega), X5_offer_loop1 hk hG (m9.mono hn) m4 m5 m6 hi]
          try dsimp only
          rw [xi_nI (by omega) (by omega), m2, m6 i hi, ← x9 i hi, ← x3, if_neg hacc, nar_1]
        · refine ⟨hG, fun j hj => ?_, fun j hj => ?_, hf1, hf2⟩
          · refine ⟨(hC j hj).1, ?_⟩
            unfold fs
            by_cases he : j = i
            · rw [if_pos he]
            · rw [if_neg he]; exact (hC j hj).2
          · unfold fs at hj
            by_cases he : j = i
            · omega
            · rw [if_neg he] at hj; exact hO j hj
        · exact ⟨rfl, x2, x3, hos, x5, x6, x7, x8, x9⟩
        · exact ⟨rfl, m2, m3, m4, m5, m6, m7, hTO, m9⟩
  · refine ⟨1, 0, drop, mdrop, os, as, TO, TC, out, ?_, ?_, fun q => absurd q (by decide), n, b, e, w, P, O, C, fa, dr, hS, hX, hM⟩
    · unfold f_L_offer f_X4_offer
      rw [requireThere_no hn x2 hno, xe_e, xt_e, if_pos rfl]
    · unfold f_X5_offer
      rw [X5_is_no hn m7 hno, xb_s, xj_s, if_pos rfl]
      try dsimp only
      rw [goesWell_1, xb_s]
      rfl
