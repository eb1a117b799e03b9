/-! The law's one step on an object: what it answers and what it does, for every object in the same state. -/
def AI (n : Nat) (b e w : Nat → Nat) (P O C : Nat → Bool) (fa : Nat) : Prop := SI n b e w P O C fa ∧ (∀ i, i < n → e i - b i ≤ 30) ∧ PLN n (ovl b e) C ∧ ∀ i, b i ≤ 1000 ∧ e i ≤ 1000 ∧ w i ≤ 1000
def STEP (n : Nat) (b e w : Nat → Nat) (P O C : Nat → Bool) (fa : Nat) (dr : Int32) (F : Int32 → Int64 → Int32 → Int64 → Int64 → Int32 → (Nat → Int32) → (Nat → Int32) → (Nat → Int32) → Option (Int32 × Int32 × Int64 × Int32 × Int64 × Int64 × Int32 × (Nat → Int32) × (Nat → Int32) × (Nat → Int32))) : Prop :=
  ∃ (told : Int32) (n' : Nat) (b' e' w' : Nat → Nat) (P' O' C' : Nat → Bool) (fa' : Nat) (dr' : Int32), AI n' b' e' w' P' O' C' fa' ∧
    (told = -99999 → ∀ added ps fac os as drop B E W, XI n b e w P O C fa dr added ps fac os as drop B E W → XI n' b' e' w' P' O' C' fa' dr' added ps fac os as drop B E W) ∧
    ∀ added ps fac os as drop B E W, XI n b e w P O C fa dr added ps fac os as drop B E W → ∃ added' ps' fac' os' as' drop' B' E' W', F added ps fac os as drop B E W = some (told, added', ps', fac', os', as', drop', B', E', W') ∧ XI n' b' e' w' P' O' C' fa' dr' added' ps' fac' os' as' drop' B' E' W'
theorem nI_nn {a : Nat} (h : a < 2 ^ 31) : ¬ nI a = -99999 := by
  intro q
  rw [fa_eq, nI_toInt h] at q
  have : ((-99999 : Int32)).toInt = -99999 := rfl
  omega
theorem low_eq (k : Nat) (x : Int32) {m : Nat} (h1 : 1 ≤ m) (h2 : m < 2 ^ 31) : ∃ y, y < m ∧ f_L_low k x (nI m) = some (nI y) := by
  have e : ∃ z, z < 2 ^ 31 ∧ x &&& 2147483647 = nI z := by
    obtain ⟨t, ht, rfl⟩ := wb_of32 x
    refine ⟨t % 2 ^ 31, Nat.mod_lt _ (by omega), ?_⟩
    exact fa_mask t 31
  obtain ⟨z, hz, hez⟩ := e
  refine ⟨z % m, Nat.mod_lt _ (by omega), ?_⟩
  try dsimp only
  unfold f_L_low
  rw [hez, pk_rem hz (by omega) h2, xd_p (by omega) h2]
section ACT
variable {k n fa : Nat} {b e w : Nat → Nat} {P O C : Nat → Bool} {dr : Int32}
theorem add_step (h : AI n b e w P O C fa) {a c : Nat} {p3 : Int32} (ha : a < 2 ^ 30) (hc : c < 2 ^ 30) (hl : c - a ≤ 30) :
    STEP n b e w P O C fa dr (fun added ps fac os as drop B E W => xb (f_L_add k (nI a) (nI c) p3 added ps B E W) (fun (r, added', ps', B', E', W') => some (r, added', ps', fac, os, as, drop, B', E', W'))) := by
  obtain ⟨hS, hL, hPl, hN⟩ := id h
  obtain ⟨hG, hC, hO, hf1, hf2⟩ := id hS
  have hn := hG.1
  by_cases hok : addOk (nI a) (nI c) p3
  · have hok2 := hok
    obtain ⟨a', c', v, e1, e2, rfl, h1, h2, h3, h4⟩ := addOk_nat hok
    rw [nI_eq (by omega) (by omega)] at e1
    rw [nI_eq (by omega) (by omega)] at e2
    subst e1 e2
    obtain ⟨o1, o2, o3, o4, o5, o6⟩ := hok2
    by_cases hful : n < 40
    · refine ⟨nI n, n + 1, fs b n a, fs e n c, fs w n v, fs P n true, fs O n false, fs C n false, fa, dr, ⟨⟨hG.push hful h1 h2 h3 h4, fun i hi => ?_, fun i hi => ?_, hf1, hf2⟩, fun i hi => ?_, fun i j hi hj hci hcj hij => ?_, fun i => ?_⟩, fun q => absurd q (nI_nn (by omega)), ?_⟩
      · unfold fs at hi ⊢
        by_cases he : i = n
        · rw [if_pos he] at hi; cases hi
        · rw [if_neg he] at hi; rw [if_neg he, if_neg he]; exact hC i hi
      · unfold fs at hi
        by_cases he : i = n
        · omega
        · rw [if_neg he] at hi; have := hO i hi; omega
      · unfold fs
        by_cases he : i = n
        · rw [if_pos he, if_pos he]; omega
        · rw [if_neg he, if_neg he]; exact hL i (by omega)
      · by_cases he : i = n
        · rw [he, fs_at] at hci; cases hci
        · by_cases he2 : j = n
          · rw [he2, fs_at] at hcj; cases hcj
          · rw [fs_ne _ _ he] at hci
            rw [fs_ne _ _ he2] at hcj
            have := hPl i j (by omega) (by omega) hci hcj hij
            unfold ovl at this ⊢
            rw [fs_ne _ _ he, fs_ne _ _ he2, fs_ne _ _ he, fs_ne _ _ he2]
            exact this
      · have := hN i
        unfold fs
        by_cases he : i = n
        · rw [if_pos he, if_pos he, if_pos he]; omega
        · rw [if_neg he, if_neg he, if_neg he]; omega
      · intro added ps fac os as drop B E W hX
        obtain ⟨rfl, x2, x3, x4, x5, x6, x7, x8, x9⟩ := hX
        refine ⟨nI (n + 1), ps ||| lN (2 ^ n), fac, os, as, drop, upd B n (nI a), upd E n (nI c), upd W n (nI v), ?_, rfl, x2.push (by omega), x3, x4.ext, x5.ext, x6, x7.push, x8.push, x9.push⟩
        try dsimp only
        unfold f_L_add f_X4_add
        rw [if_neg o1, if_neg o2, if_neg o3, if_pos o4, if_neg o5, if_pos o6, if_pos (show nI n < 40 from nI_lt (b := 40) hful (by omega))]
        simp (disch := omega) only [xi_nI, nI_clamp, only_eq, xb_s, xt_s, nI_1]
    · have hn40 : n = 40 := by omega
      subst hn40
      refine ⟨-99999, 40, b, e, w, P, O, C, fa, dr, h, fun _ _ _ _ _ _ _ _ _ _ hX => hX, ?_⟩
      intro added ps fac os as drop B E W hX
      refine ⟨added, ps, fac, os, as, drop, B, E, W, ?_, hX⟩
      obtain ⟨rfl, x2, x3, x4, x5, x6, x7, x8, x9⟩ := hX
      try dsimp only
      unfold f_L_add f_X4_add
      rw [if_neg o1, if_neg o2, if_neg o3, if_pos o4, if_neg o5, if_pos o6, if_neg (show ¬ nI 40 < 40 from by decide), xt_e, if_neg (by decide), if_pos rfl, xb_s]
  · refine ⟨-99999, n, b, e, w, P, O, C, fa, dr, h, fun _ _ _ _ _ _ _ _ _ _ hX => hX, ?_⟩
    intro added ps fac os as drop B E W hX
    refine ⟨added, ps, fac, os, as, drop, B, E, W, ?_, hX⟩
    try dsimp only
    unfold f_L_add
    rw [X4_add_bad hok, xt_e, if_pos rfl, xb_s]
theorem remove_step (h : AI n b e w P O C fa) (p : Int32) :
    STEP n b e w P O C fa dr (fun added ps fac os as drop B E W => xb (f_L_remove k p added ps as) (fun (r, ps', as') => some (r, added, ps', fac, os, as', drop, B, E, W))) := by
  obtain ⟨hS, hL, hPl, hN⟩ := id h
  obtain ⟨hG, hC, hO, hf1, hf2⟩ := id hS
  have hn := hG.1
  rcases there p n P hn with ⟨j, hj, rfl, hp⟩ | hno
  · refine ⟨nI (fb_ct (fs P j false) n), n, b, e, w, fs P j false, O, fs C j false, fa, dr, ⟨⟨hG, fun i hi => ?_, hO, hf1, hf2⟩, hL, fun i1 j1 hi1 hj1 hci hcj hij => ?_, hN⟩, fun q => absurd q (nI_nn (by have := fb_ct_le (fs P j false) n; omega)), ?_⟩
    · unfold fs at hi ⊢
      by_cases he : i = j
      · rw [if_pos he] at hi; cases hi
      · rw [if_neg he] at hi; rw [if_neg he]; exact hC i hi
    · unfold fs at hci hcj
      by_cases he : i1 = j
      · rw [if_pos he] at hci; cases hci
      · by_cases he2 : j1 = j
        · rw [if_pos he2] at hcj; cases hcj
        · rw [if_neg he] at hci
          rw [if_neg he2] at hcj
          exact hPl i1 j1 hi1 hj1 hci hcj hij
    · intro added ps fac os as drop B E W hX
      obtain ⟨rfl, x2, x3, x4, x5, x6, x7, x8, x9⟩ := hX
      have hps := x2.clr (i := j) (by omega)
      refine ⟨nI n, ps &&& (lN (2 ^ j) ^^^ (-1)), fac, os, as &&& (lN (2 ^ j) ^^^ (-1)), drop, B, E, W, ?_, rfl, hps, x3, x4, x5.clr (by omega), x6, x7, x8, x9⟩
      try dsimp only
      unfold f_L_remove f_X4_remove
      simp (disch := omega) only [requireThere_ok hn x2 hj hp, xe_s, only_eq, xb_s, bitCount_eq, hps.cnt, xt_s]
  · refine ⟨-99999, n, b, e, w, P, O, C, fa, dr, h, fun _ _ _ _ _ _ _ _ _ _ hX => hX, ?_⟩
    intro added ps fac os as drop B E W hX
    refine ⟨added, ps, fac, os, as, drop, B, E, W, ?_, hX⟩
    obtain ⟨rfl, x2, x3, x4, x5, x6, x7, x8, x9⟩ := hX
    try dsimp only
    unfold f_L_remove f_X4_remove
    rw [requireThere_no hn x2 hno, xe_e, xt_e, if_pos rfl, xb_s]
theorem move_step (h : AI n b e w P O C fa) (p p2 : Int32) :
    STEP n b e w P O C fa dr (fun added ps fac os as drop B E W => xb (f_L_move k p p2 added ps as B E) (fun (r, as', B', E') => some (r, added, ps, fac, os, as', drop, B', E', W))) := by
  obtain ⟨hS, hL, hPl, hN⟩ := id h
  obtain ⟨hG, hC, hO, hf1, hf2⟩ := id hS
  have hn := hG.1
  rcases there p n P hn with ⟨j, hj, rfl, hp⟩ | hno
  · have hg := hG.2 j hj
    have e1 : nI (e j) - nI (b j) = nI (e j - b j) := pk_sub (by omega)
    have e2 : (1000 : Int32) - nI (e j - b j) = nI (1000 - (e j - b j)) := pk_sub (a := 1000) (by omega)
    have hcls : ∀ B E : Nat → Int32, AR n B b → AR n E e → f_X4_lengthOf k (nI j) B E = some (nI (e j - b j)) := by
      intro B E x7 x8
      unfold f_X4_lengthOf
      simp (disch := omega) only [xi_nI, nI_clamp, x7 j hj, x8 j hj, e1]
    by_cases hok : ¬ p2 < 0 ∧ p2 ≤ nI (1000 - (e j - b j))
    · obtain ⟨h0, h1⟩ := hok
      obtain ⟨a, ha, rfl⟩ := nI_of2 (n := 1000 - (e j - b j)) (nI_toInt (by omega)) h0 h1
      refine ⟨nI (b j), n, fs b j a, fs e j (a + (e j - b j)), w, P, O, fs C j false, fa, dr, ⟨⟨hG.set (by omega) (by omega), fun i hi => ?_, hO, hf1, hf2⟩, fun i hi => ?_, fun i1 j1 hi1 hj1 hci hcj hij => ?_, fun i => ?_⟩, fun q => absurd q (nI_nn (by omega)), ?_⟩
      · unfold fs at hi
        by_cases he : i = j
        · rw [if_pos he] at hi; cases hi
        · rw [if_neg he] at hi; exact hC i hi
      · unfold fs
        by_cases he : i = j
        · rw [if_pos he, if_pos he]; have := hL j hj; omega
        · rw [if_neg he, if_neg he]; exact hL i hi
      · by_cases he : i1 = j
        · rw [he, fs_at] at hci; cases hci
        · by_cases he2 : j1 = j
          · rw [he2, fs_at] at hcj; cases hcj
          · rw [fs_ne _ _ he] at hci
            rw [fs_ne _ _ he2] at hcj
            have := hPl i1 j1 hi1 hj1 hci hcj hij
            unfold ovl at this ⊢
            rw [fs_ne _ _ he, fs_ne _ _ he2, fs_ne _ _ he, fs_ne _ _ he2]
            exact this
      · have := hN i
        unfold fs
        by_cases he : i = j
        · rw [if_pos he, if_pos he]; omega
        · rw [if_neg he, if_neg he]; omega
      · intro added ps fac os as drop B E W hX
        obtain ⟨rfl, x2, x3, x4, x5, x6, x7, x8, x9⟩ := hX
        refine ⟨nI n, ps, fac, os, as &&& (lN (2 ^ j) ^^^ (-1)), drop, upd B j (nI a), upd E j (nI (a + (e j - b j))), W, ?_, rfl, x2, x3, x4, x5.clr (by omega), x6, x7.set, x8.set, x9⟩
        try dsimp only
        unfold f_L_move f_X4_move
        rw [requireThere_ok hn x2 hj hp, xe_s, hcls B E x7 x8, xb_s, if_neg h0, e2, if_pos h1]
        simp (disch := omega) only [xi_nI, nI_clamp, only_eq, xb_s, xt_s, x7 j hj, nI_add]
    · refine ⟨-99999, n, b, e, w, P, O, C, fa, dr, h, fun _ _ _ _ _ _ _ _ _ _ hX => hX, ?_⟩
      intro added ps fac os as drop B E W hX
      refine ⟨added, ps, fac, os, as, drop, B, E, W, ?_, hX⟩
      obtain ⟨rfl, x2, x3, x4, x5, x6, x7, x8, x9⟩ := hX
      try dsimp only
      unfold f_L_move f_X4_move
      rw [requireThere_ok hn x2 hj hp, xe_s, hcls B E x7 x8, xb_s, e2]
      by_cases h0 : p2 < 0
      · rw [if_pos h0, xt_e, if_neg (by decide), if_pos rfl, xb_s]
      · rw [if_neg h0, if_neg (fun q => hok ⟨h0, q⟩), xt_e, if_neg (by decide), if_pos rfl, xb_s]
  · refine ⟨-99999, n, b, e, w, P, O, C, fa, dr, h, fun _ _ _ _ _ _ _ _ _ _ hX => hX, ?_⟩
    intro added ps fac os as drop B E W hX
    refine ⟨added, ps, fac, os, as, drop, B, E, W, ?_, hX⟩
    obtain ⟨rfl, x2, x3, x4, x5, x6, x7, x8, x9⟩ := hX
    try dsimp only
    unfold f_L_move f_X4_move
    rw [requireThere_no hn x2 hno, xe_e, xt_e, if_pos rfl, xb_s]
theorem open_step (hk : 1000 ≤ k) (h : AI n b e w P O C fa) (p : Int32) :
    STEP n b e w P O C fa dr (fun added ps fac os as drop B E W => xb (f_L_open k p added fac os as drop W) (fun (r, fac', os', as', drop') => some (r, added, ps, fac', os', as', drop', B, E, W))) := by
  obtain ⟨hS, hL, hPl, hN⟩ := id h
  obtain ⟨hG, hC, hO, hf1, hf2⟩ := id hS
  have hn := hG.1
  by_cases hok : ¬ p < 100 ∧ p ≤ 400
  · obtain ⟨h0, h1⟩ := hok
    have h2 : ¬ p < 0 := fun q => h0 (by rw [fa_lt] at q ⊢; exact Int.lt_trans q (by decide))
    obtain ⟨t, ht, rfl⟩ := nI_of2 (M := 400) (n := 400) rfl h2 h1
    have h9 := h0
    rw [show (100 : Int32) = nI 100 from rfl, nI_ltI (by omega) (by omega)] at h9
    have hwb : wsum C w n ≤ n * 1000 := fb_sm_bound fun j hj => by
      have := (hG.2 j hj).2.2.2
      by_cases hc : C j = true
      · rw [if_pos hc]; exact this
      · rw [if_neg hc]; omega
    refine ⟨nI (wsum C w n), n, b, e, w, P, fun _ => false, fun _ => false, t, 0, ⟨⟨hG, fun i hi => (Bool.noConfusion hi), fun i hi => (Bool.noConfusion hi), by omega, by omega⟩, hL, fun i1 j1 hi1 hj1 hci hcj hij => (Bool.noConfusion hci), hN⟩, fun q => absurd q (nI_nn (by omega)), ?_⟩
    intro added ps fac os as drop B E W hX
    obtain ⟨rfl, x2, x3, x4, x5, x6, x7, x8, x9⟩ := hX
    refine ⟨nI n, ps, nI t, 0, 0, 0, B, E, W, ?_, rfl, x2, rfl, ?_, ?_, rfl, x7, x8, x9⟩
    · try dsimp only
      unfold f_L_open f_X4_openDesk
      rw [if_neg h0, if_pos h1, weightOf_eq hk hn x5 x9, xb_s, xt_s]
      dsimp only
      rw [xb_s]
    · intro i hi; rw [bs_0]; simp
    · intro i hi; rw [bs_0]; simp
  · refine ⟨-99999, n, b, e, w, P, O, C, fa, dr, h, fun _ _ _ _ _ _ _ _ _ _ hX => hX, ?_⟩
    intro added ps fac os as drop B E W hX
    refine ⟨added, ps, fac, os, as, drop, B, E, W, ?_, hX⟩
    try dsimp only
    unfold f_L_open f_X4_openDesk
    by_cases h0 : p < 100
    · rw [if_pos h0, xt_e, if_pos rfl, xb_s]
    · rw [if_neg h0, if_neg (fun q => hok ⟨h0, q⟩), xt_e, if_pos rfl, xb_s]
theorem offer_step (hk : 1000 ≤ k) (h : AI n b e w P O C fa) (p : Int32) :
    STEP n b e w P O C fa dr (fun added ps fac os as drop B E W => xb (f_L_offer k p added ps fac os as drop B E W) (fun (r, os', as', drop') => some (r, added, ps, fac, os', as', drop', B, E, W))) := by
  obtain ⟨hS, hL, hPl, hN⟩ := id h
  obtain ⟨hG, hC, hO, hf1, hf2⟩ := id hS
  have hn := hG.1
  have throw : (∀ added ps fac os as drop B E W, XI n b e w P O C fa dr added ps fac os as drop B E W → f_L_offer k p added ps fac os as drop B E W = some (-99999, os, as, drop)) → STEP n b e w P O C fa dr (fun added ps fac os as drop B E W => xb (f_L_offer k p added ps fac os as drop B E W) (fun (r, os', as', drop') => some (r, added, ps, fac, os', as', drop', B, E, W))) := by
    intro hq
    refine ⟨-99999, n, b, e, w, P, O, C, fa, dr, h, fun _ _ _ _ _ _ _ _ _ _ hX => hX, ?_⟩
    intro added ps fac os as drop B E W hX
    exact ⟨added, ps, fac, os, as, drop, B, E, W, by dsimp only; rw [hq _ _ _ _ _ _ _ _ _ hX, xb_s], hX⟩
  rcases there p n P hn with ⟨i, hi, rfl, hp⟩ | hno
  · by_cases hoi : O i = true
    · refine throw (fun added ps fac os as drop B E W hX => ?_)
      obtain ⟨rfl, x2, x3, x4, x5, x6, x7, x8, x9⟩ := hX
      try dsimp only
      unfold f_L_offer f_X4_offer
      rw [requireThere_ok hn x2 hi hp, xe_s, contains_st k x4 hi hn, xb_s, if_pos hoi, if_neg (by decide), xt_e, if_neg (by decide), if_pos rfl]
    · have hoi2 : O i = false := by simpa using hoi
      have hci : C i = false := by
        cases hq : C i with
        | false => rfl
        | true => exact absurd (hC i hq).2 hoi
      have hcl : ∀ ps os as drop B E W, ST ps n P → ST os n O → ST as n C → AR n B b → AR n E e → AR n W w → ∃ rv, ST (rv &&& as) n (fun j => C j && ovl b e j i) ∧ f_X4_offer k (nI i) (nI n) ps (nI fa) os as drop B E W = if (nI fa * nI (wsum (fun j => C j && ovl b e j i) w n)) < (100 * nI (w i)) then some (.ok (nI (wsum (fun j => C j && ovl b e j i) w n), os ||| lN (2 ^ i), (as &&& ((rv &&& as) ^^^ (-1))) ||| lN (2 ^ i), drop + nI (wsum (fun j => C j && ovl b e j i) w n))) else some (.ok ((-1), os ||| lN (2 ^ i), as, drop)) := by
        intro ps os as drop B E W x2 x4 x5 x7 x8 x9
        obtain ⟨rv, hr1, hr2⟩ := othersMeeting_eq (k := k) hk hG x2 x7 x8 hi
        have hrs : ST (rv &&& as) n (fun j => C j && ovl b e j i) := by
          intro j hj
          rw [bs_and, hr2 j hj, x5 j hj]
          show ((decide (j < n) && (P j && (ovl b e j i && !decide (j = i)))) && (decide (j < n) && C j)) = (decide (j < n) && (C j && ovl b e j i))
          by_cases hc : C j = true
          · have hji : j ≠ i := fun q => by rw [q, hci] at hc; cases hc
            rw [hc, (hC j hc).1, decide_eq_false hji]
            cases decide (j < n) <;> cases ovl b e j i <;> rfl
          · have hc2 : C j = false := by simpa using hc
            rw [hc2]
            cases decide (j < n) <;> cases P j <;> cases ovl b e j i <;> cases decide (j = i) <;> rfl
        have hw := weightOf_eq (k := k) hk hn hrs x9
        refine ⟨rv, hrs, ?_⟩
        unfold f_X4_offer
        rw [requireThere_ok hn x2 hi hp, xe_s, contains_st k x4 hi hn, xb_s, if_neg (show ¬ O i = true from hoi), if_pos rfl, only_eq k (by omega), xb_s, hr1, xb_s, hw, xb_s, xi_nI (by omega) (by omega), nI_clamp (by omega), xb_s, x9 i hi]
      have hwb : wsum (fun j => C j && ovl b e j i) w n ≤ n * 1000 := fb_sm_bound fun j hj => by
        have := (hG.2 j hj).2.2.2
        by_cases hc : (C j && ovl b e j i) = true
        · rw [if_pos hc]; exact this
        · rw [if_neg hc]; omega
      by_cases hacc : (nI fa * nI (wsum (fun j => C j && ovl b e j i) w n)) < (100 * nI (w i))
      · refine ⟨nI (wsum (fun j => C j && ovl b e j i) w n), n, b, e, w, P, fs O i true, fs (fun j => C j && !ovl b e j i) i true, fa, dr + nI (wsum (fun j => C j && ovl b e j i) w n), ⟨⟨hG, fun j hj => ?_, fun j hj => ?_, hf1, hf2⟩, hL, fun i1 j1 hi1 hj1 hc1 hc2 hij => ?_, hN⟩, fun q => absurd q (nI_nn (by omega)), ?_⟩
        · unfold fs at hj ⊢
          by_cases he : j = i
          · rw [if_pos he, he]; exact ⟨hp, rfl⟩
          · rw [if_neg he] at hj; rw [if_neg he]
            dsimp only at hj
            have : C j = true := by
              cases hq : C j with
              | true => rfl
              | false => rw [hq] at hj; cases hj
            exact hC j this
        · unfold fs at hj
          by_cases he : j = i
          · omega
          · rw [if_neg he] at hj; exact hO j hj
        · by_cases he : i1 = i
          · subst he
            rw [fs_ne _ _ (fun q => hij q.symm)] at hc2
            rw [Bool.and_eq_true, Bool.not_eq_true'] at hc2
            rw [ovl_comm]
            exact hc2.2
          · rw [fs_ne _ _ he, Bool.and_eq_true, Bool.not_eq_true'] at hc1
            by_cases he2 : j1 = i
            · subst he2
              exact hc1.2
            · rw [fs_ne _ _ he2, Bool.and_eq_true, Bool.not_eq_true'] at hc2
              exact hPl i1 j1 hi1 hj1 hc1.1 hc2.1 hij
        · intro added ps fac os as drop B E W hX
          obtain ⟨rfl, x2, rfl, x4, x5, x6, x7, x8, x9⟩ := hX
          obtain ⟨rv, hrs, hcl⟩ := hcl ps os as drop B E W x2 x4 x5 x7 x8 x9
          refine ⟨nI n, ps, nI fa, os ||| lN (2 ^ i), (as &&& ((rv &&& as) ^^^ (-1))) ||| lN (2 ^ i), drop + nI (wsum (fun j => C j && ovl b e j i) w n), B, E, W, ?_, rfl, x2, rfl, x4.set hi (by omega), ?_, by rw [x6], x7, x8, x9⟩
          · try dsimp only
            unfold f_L_offer
            rw [hcl, if_pos hacc, xt_s]
            try dsimp only
            rw [xb_s]
          · have h1 : ST (as &&& ((rv &&& as) ^^^ (-1))) n (fun j => C j && !ovl b e j i) := by
              intro j hj
              rw [bs_and, bs_xor, hrs j hj, x5 j hj, bs_m1 hj]
              show ((decide (j < n) && C j) && ((decide (j < n) && (C j && ovl b e j i)) ^^ true)) = (decide (j < n) && (C j && !ovl b e j i))
              cases decide (j < n) <;> cases C j <;> cases ovl b e j i <;> rfl
            exact h1.set hi (by omega)
      · refine ⟨-1, n, b, e, w, P, fs O i true, C, fa, dr, ⟨⟨hG, fun j hj => ?_, fun j hj => ?_, hf1, hf2⟩, hL, hPl, hN⟩, fun q => absurd q (by decide), ?_⟩
        · refine ⟨(hC j hj).1, ?_⟩
          unfold fs
          by_cases he : j = i
          · rw [if_pos he]
          · rw [if_neg he]; exact (hC j hj).2
        · unfold fs at hj
          by_cases he : j = i
          · omega
          · rw [if_neg he] at hj; exact hO j hj
        · intro added ps fac os as drop B E W hX
          obtain ⟨rfl, x2, rfl, x4, x5, x6, x7, x8, x9⟩ := hX
          obtain ⟨rv, hrs, hcl⟩ := hcl ps os as drop B E W x2 x4 x5 x7 x8 x9
          refine ⟨nI n, ps, nI fa, os ||| lN (2 ^ i), as, drop, B, E, W, ?_, rfl, x2, rfl, x4.set hi (by omega), x5, x6, x7, x8, x9⟩
          try dsimp only
          unfold f_L_offer
          rw [hcl, if_neg hacc, xt_s]
          try dsimp only
          rw [xb_s]
  · refine throw (fun added ps fac os as drop B E W hX => ?_)
    obtain ⟨rfl, x2, x3, x4, x5, x6, x7, x8, x9⟩ := hX
    try dsimp only
    unfold f_L_offer f_X4_offer
    rw [requireThere_no hn x2 hno, xe_e, xt_e, if_pos rfl]
theorem STEP.cong {F F2 : Int32 → Int64 → Int32 → Int64 → Int64 → Int32 → (Nat → Int32) → (Nat → Int32) → (Nat → Int32) → Option (Int32 × Int32 × Int64 × Int32 × Int64 × Int64 × Int32 × (Nat → Int32) × (Nat → Int32) × (Nat → Int32))} (h : STEP n b e w P O C fa dr F) (hF : ∀ a1 a2 a3 a4 a5 a6 a7 a8 a9, F2 a1 a2 a3 a4 a5 a6 a7 a8 a9 = F a1 a2 a3 a4 a5 a6 a7 a8 a9) : STEP n b e w P O C fa dr F2 := by
  have e9 : F2 = F := by funext a1 a2 a3 a4 a5 a6 a7 a8 a9; exact hF a1 a2 a3 a4 a5 a6 a7 a8 a9
  rw [e9]; exact h
end ACT
section ACT2
variable {k n fa : Nat} {b e w : Nat → Nat} {P O C : Nat → Bool} {dr : Int32}
theorem act_step (hk : 1000 ≤ k) (h : AI n b e w P O C fa) (v : Int32) : STEP n b e w P O C fa dr (fun a1 a2 a3 a4 a5 a6 a7 a8 a9 => f_L_act k v a1 a2 a3 a4 a5 a6 a7 a8 a9) := by
  obtain ⟨y1, h1, l1⟩ := low_eq k (v >>> ((24 : Int32) &&& 31)) (m := 9) (by omega) (by omega)
  obtain ⟨y4, h4, l4⟩ := low_eq k v (m := 12) (by omega) (by omega)
  obtain ⟨z1, g1, m1⟩ := low_eq k (v >>> ((11 : Int32) &&& 31)) (m := 30) (by omega) (by omega)
  obtain ⟨z2, g2, m2⟩ := low_eq k (v >>> ((15 : Int32) &&& 31)) (m := 50) (by omega) (by omega)
  change f_L_low k _ 9 = _ at l1
  change f_L_low k _ 12 = _ at l4
  change f_L_low k _ 30 = _ at m1
  change f_L_low k _ 50 = _ at m2
  by_cases h0 : nI y1 = 0
  · obtain ⟨y2, h2, l2⟩ := low_eq k (v >>> ((4 : Int32) &&& 31)) (m := 1002) (by omega) (by omega)
    obtain ⟨y3, h3, l3⟩ := low_eq k (v >>> ((9 : Int32) &&& 31)) (m := 42) (by omega) (by omega)
    obtain ⟨z3, g3, m3⟩ := low_eq k (v >>> ((5 : Int32) &&& 31)) (m := 500) (by omega) (by omega)
    change f_L_low k _ 1002 = _ at l2
    change f_L_low k _ 42 = _ at l3
    change f_L_low k _ 500 = _ at m3
    have e3 : nI y2 + nI z1 + 0 = nI (y2 + z1) := by rw [nI_add]; exact nI_add (y2 + z1) 0
    have hadd := add_step (k := k) (dr := dr) (p3 := nI z2 + 0) h (show y2 < 2 ^ 30 by omega) (show y2 + z1 < 2 ^ 30 by omega) (by omega)
    have e10 : ((1 : Int32) = 0) = False := by decide
    rcases (show y4 = 0 ∨ y4 = 1 ∨ y4 = 2 ∨ y4 = 3 ∨ y4 = 4 ∨ y4 = 5 ∨ y4 = 6 ∨ y4 = 7 ∨ y4 = 8 ∨ y4 = 9 ∨ y4 = 10 ∨ y4 = 11 by omega) with rfl | rfl | rfl | rfl | rfl | rfl | rfl | rfl | rfl | rfl | rfl | rfl
    · exact STEP.cong (remove_step (k := k) h (nI y3)) (fun a1 a2 a3 a4 a5 a6 a7 a8 a9 => by
        try dsimp only
        unfold f_L_act
        simp (decide := true) only [l1, l2, l3, l4, h0, xb_s, xj_s, if_true, if_false])
    · exact STEP.cong (move_step (k := k) h (nI y3) (nI y2)) (fun a1 a2 a3 a4 a5 a6 a7 a8 a9 => by
        try dsimp only
        unfold f_L_act
        simp (decide := true) only [l1, l2, l3, l4, h0, xb_s, xj_s, if_true, if_false])
    · exact STEP.cong (open_step hk h (nI z3)) (fun a1 a2 a3 a4 a5 a6 a7 a8 a9 => by
        try dsimp only
        unfold f_L_act
        simp (decide := true) only [l1, l2, l3, l4, m3, h0, xb_s, xj_s, if_true, if_false])
    · exact STEP.cong (offer_step hk h (nI y3)) (fun a1 a2 a3 a4 a5 a6 a7 a8 a9 => by
        try dsimp only
        unfold f_L_act
        simp (decide := true) only [l1, l2, l3, l4, h0, xb_s, xj_s, if_true, if_false])
    · exact STEP.cong (offer_step hk h (nI y3)) (fun a1 a2 a3 a4 a5 a6 a7 a8 a9 => by
        try dsimp only
        unfold f_L_act
        simp (decide := true) only [l1, l2, l3, l4, h0, xb_s, xj_s, if_true, if_false])
    · exact STEP.cong (offer_step hk h (nI y3)) (fun a1 a2 a3 a4 a5 a6 a7 a8 a9 => by
        try dsimp only
        unfold f_L_act
        simp (decide := true) only [l1, l2, l3, l4, h0, xb_s, xj_s, if_true, if_false])
    · exact STEP.cong (offer_step hk h (nI y3)) (fun a1 a2 a3 a4 a5 a6 a7 a8 a9 => by
        try dsimp only
        unfold f_L_act
        simp (decide := true) only [l1, l2, l3, l4, h0, xb_s, xj_s, if_true, if_false])
    all_goals exact STEP.cong hadd (fun a1 a2 a3 a4 a5 a6 a7 a8 a9 => by
        try dsimp only
        unfold f_L_act
        simp (decide := true) only [l1, l2, l3, l4, m1, m2, h0, xb_s, xj_s, if_true, if_false, e3])
  · obtain ⟨y2, h2, l2⟩ := low_eq k (v >>> ((4 : Int32) &&& 31)) (m := 60) (by omega) (by omega)
    obtain ⟨y3, h3, l3⟩ := low_eq k (v >>> ((9 : Int32) &&& 31)) (m := 14) (by omega) (by omega)
    obtain ⟨z3, g3, m3⟩ := low_eq k (v >>> ((5 : Int32) &&& 31)) (m := 150) (by omega) (by omega)
    change f_L_low k _ 60 = _ at l2
    change f_L_low k _ 14 = _ at l3
    change f_L_low k _ 150 = _ at m3
    have e3 : nI y2 + nI z1 + 1 = nI (y2 + z1 + 1) := by rw [nI_add]; exact nI_add (y2 + z1) 1
    have hadd := add_step (k := k) (dr := dr) (p3 := nI z2 + 1) h (show y2 < 2 ^ 30 by omega) (show y2 + z1 + 1 < 2 ^ 30 by omega) (by omega)
    rcases (show y4 = 0 ∨ y4 = 1 ∨ y4 = 2 ∨ y4 = 3 ∨ y4 = 4 ∨ y4 = 5 ∨ y4 = 6 ∨ y4 = 7 ∨ y4 = 8 ∨ y4 = 9 ∨ y4 = 10 ∨ y4 = 11 by omega) with rfl | rfl | rfl | rfl | rfl | rfl | rfl | rfl | rfl | rfl | rfl | rfl
    · exact STEP.cong (remove_step (k := k) h (nI y3)) (fun a1 a2 a3 a4 a5 a6 a7 a8 a9 => by
        try dsimp only
        unfold f_L_act
        simp (decide := true) only [l1, l2, l3, l4, h0, xb_s, xj_s, if_true, if_false])
    · exact STEP.cong (move_step (k := k) h (nI y3) (nI y2)) (fun a1 a2 a3 a4 a5 a6 a7 a8 a9 => by
        try dsimp only
        unfold f_L_act
        simp (decide := true) only [l1, l2, l3, l4, h0, xb_s, xj_s, if_true, if_false])
    · exact STEP.cong (open_step hk h (100 + nI z3)) (fun a1 a2 a3 a4 a5 a6 a7 a8 a9 => by
        try dsimp only
        unfold f_L_act
        simp (decide := true) only [l1, l2, l3, l4, m3, h0, xb_s, xj_s, if_true, if_false])
    · exact STEP.cong (offer_step hk h (nI y3)) (fun a1 a2 a3 a4 a5 a6 a7 a8 a9 => by
        try dsimp only
        unfold f_L_act
        simp (decide := true) only [l1, l2, l3, l4, h0, xb_s, xj_s, if_true, if_false])
    · exact STEP.cong (offer_step hk h (nI y3)) (fun a1 a2 a3 a4 a5 a6 a7 a8 a9 => by
        try dsimp only
        unfold f_L_act
        simp (decide := true) only [l1, l2, l3, l4, h0, xb_s, xj_s, if_true, if_false])
    · exact STEP.cong (offer_step hk h (nI y3)) (fun a1 a2 a3 a4 a5 a6 a7 a8 a9 => by
        try dsimp only
        unfold f_L_act
        simp (decide := true) only [l1, l2, l3, l4, h0, xb_s, xj_s, if_true, if_false])
    · exact STEP.cong (offer_step hk h (nI y3)) (fun a1 a2 a3 a4 a5 a6 a7 a8 a9 => by
        try dsimp only
        unfold f_L_act
        simp (decide := true) only [l1, l2, l3, l4, h0, xb_s, xj_s, if_true, if_false])
    all_goals exact STEP.cong hadd (fun a1 a2 a3 a4 a5 a6 a7 a8 a9 => by
        try dsimp only
        unfold f_L_act
        simp (decide := true) only [l1, l2, l3, l4, m1, m2, h0, xb_s, xj_s, if_true, if_false, e3])
end ACT2
