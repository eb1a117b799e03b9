theorem kStr_ev {args : Array Value} {s : State} {own : String} {k : Nat} {C : String} (h : (Cond.exactly (.string own k) C).before args s = true) : ∃ a : Nat, (Term.string own k).eval args s none [] s = some (.ref a) := by
  have h1 : (Cond.exactly (.string own k) C).holds args s none s [] = true := h
  unfold Cond.holds at h1
  cases hv : (Term.string own k).eval args s none [] s with
  | none => simp [Cond.value, hv] at h1
  | some v =>
    cases v with
    | ref a => exact ⟨a, rfl⟩
    | _ => cases hc : s.vm.findClass C <;> simp [Cond.value, hv, hc] at h1
theorem Hv.perm {s : State} {H : Heap} {locs : List Loc} {G : va_G} {cy : ClassId × ClassId × ClassId} {A : Nat → Prop} {w w2 : va_W} (h : Hv s H locs G cy A w) (ps : List Nat) (hps : ps.map (fun i => w[i]?) = w2.map some) (hpn : va_nd ps = true) : Hv s H locs G cy A w2 := by
  obtain ⟨hK, hP, hD, hS, hA, hE⟩ := h
  have hfm : ps.filterMap (fun i => w[i]?) = w2 := by
    have h1 : ps.filterMap (fun i => w[i]?) = (ps.map (fun i => w[i]?)).filterMap id := by rw [List.filterMap_map]; rfl
    rw [h1, hps, List.filterMap_map]
    show List.filterMap (fun q => some q) w2 = w2
    exact List.filterMap_some
  exact ⟨hK, hP.sub ps hfm, hD.sub ps hpn hps, hS, hA, hE⟩
theorem arrOf_word {args : Array Value} {s : State} {ty : FieldType} (h : (Cond.arrayClass ty).before args s = true) : ∃ cA : ClassId, ArrOfT s cA ty ∧ s.vm.findClass ("[" ++ ty.toString) = some cA := by
  obtain ⟨c, k, comp, h1, h2, h3⟩ := Cond.arrayClass_spec h
  exact ⟨c, fun n z => ⟨(fun k9 h9 => nomatch h9), k, h2, comp, h3⟩, h1⟩
theorem EN_at {args : Array Value} {s : State} (hts : ∀ w ∈ lw_tbl, w.before args s = true) (hgv : (Jvm.Cond.and given_1 narrow_1).before args s = true) : EN (fun q : Nat => s.heap.size ≤ q) s s.heap := by
  have hs := flat_of_before _ hgv
  refine ⟨fun w hw => ?_, fun q hq => ?_, fun q hq => ?_, ?_, ?_⟩
  · exact va_Nw.of (kNest_on w hw) (hts w ((by decide +kernel : ∀ w ∈ kNest, w ∈ lw_tbl) w hw))
  · exact va_Nc.of (hs _ ((by decide +kernel : ∀ q ∈ kNc, Cond.not (.castable q.1 q.2) ∈ flatC (Jvm.Cond.and given_1 narrow_1)) q hq))
  · have h1 := hts _ ((by decide +kernel : ∀ q ∈ kStr, Cond.stringRef RX4 q.1 q.2 ∈ lw_tbl) q hq)
    obtain ⟨a, ha⟩ := kStr_ev (hs _ ((by decide +kernel : ∀ q ∈ kStr, Cond.exactly (.string RX4 q.1) "java/lang/String" ∈ flatC (Jvm.Cond.and given_1 narrow_1)) q hq))
    exact ⟨a, vk_R.of h1 ha⟩
  · exact vx_Zqof (hts _ (by decide +kernel)) (hts _ (by decide +kernel)) (hs _ (by decide +kernel)) (fun a h9 => Nat.not_le.mpr h9)
  · exact vx_Zqof (hts _ (by decide +kernel)) (hts _ (by decide +kernel)) (hs _ (by decide +kernel)) (fun a h9 => Nat.not_le.mpr h9)
set_option maxHeartbeats 40000000 in
set_option maxRecDepth 100000 in
theorem whole_start {p : Program} {e : Env} {s : State} {m : MethodId} {below : List Frame} {meth : Method} {c : Code} (l : Launch) (hflags : l.flags = flags0) {b L : Nat} {xs : Nat → Int32} (hL : L ≤ 260) (C0 : lw_At p s m meth c b L xs) : W p l e room_1 s m #[Value.ref b] below meth c s.heap [] 0 0 (lw_Z below #[Value.ref b] s) (entryFrame m ([Value.ref b] : List Value).toArray 6) := by
  obtain ⟨hx, hb, hr, hml, hown0, hts0, hX, hbl, hlocks, hgv⟩ := id C0
  have hown : s.vm.findClass RL = some m.cls := hown0
  have hts : ∀ w ∈ wsL_law, w.before #[Value.ref b] s = true := fun w h => hts0 w (wsL_law_in w h)
  have hl9 : l.stackTraces = false := by
    unfold Launch.stackTraces
    rw [hflags]
    decide +kernel
  have hbA : ¬ (fun q : Nat => s.heap.size ≤ q) b := Nat.not_le.mpr hbl
  obtain ⟨c0, i0, hn0⟩ := u_known (C := RX0) (T := TX0) (N := 2) (n := 2) hts0 inX0 (hts0 (.instantiable RX0 2) (by decide +kernel))
  obtain ⟨c1, i1, hn1⟩ := u_known (C := RX1) (T := TX1) (N := 7) (n := 7) hts0 inX1 (hts0 (.instantiable RX1 7) (by decide +kernel))
  obtain ⟨c2, i2, hn2⟩ := u_known (C := RX2) (T := TX2) (N := 2) (n := 2) hts0 inX2 (hts0 (.instantiable RX2 2) (by decide +kernel))
  obtain ⟨c3, i3, hn3⟩ := u_known (C := RX3) (T := TX3) (N := 6) (n := 6) hts0 inX3 (hts0 (.instantiable RX3 6) (by decide +kernel))
  obtain ⟨c4, i4, hn4⟩ := u_known (C := RX4) (T := TX4) (N := 12) (n := 12) hts0 inX4 (hts0 (.instantiable RX4 12) (by decide +kernel))
  obtain ⟨G, hKc⟩ : ∃ G : va_G, ∀ (k : Nat) (q : vw_C), vwCl[k]? = some q → u_Kn s q.1 q.2.1 q.2.2 (G.1 k) (G.2 k) := by
    refine ⟨(fun k => match k with | 0 => c0 | 1 => c1 | 2 => c2 | 3 => c3 | _ => c4, fun k => match k with | 0 => i0 | 1 => i1 | 2 => i2 | 3 => i3 | _ => i4), ?_⟩
    intro k q hq
    match k, hq with
    | 0, hq => cases hq; exact hn0
    | 1, hq => cases hq; exact hn1
    | 2, hq => cases hq; exact hn2
    | 3, hq => cases hq; exact hn3
    | 4, hq => cases hq; exact hn4
    | k + 5, hq => simp [vwCl] at hq
  obtain ⟨cI, hI1, hI2⟩ := arrOf_word (hts0 (.arrayClass .int) (by decide +kernel))
  obtain ⟨cZ, hZ1, hZ2⟩ := arrOf_word (hts0 (.arrayClass .boolean) (by decide +kernel))
  obtain ⟨cy, hcy⟩ : ∃ cy : ClassId × ClassId × ClassId, cy = (cI, cZ, cI) := ⟨_, rfl⟩
  have hK : va_K G vwCl (kTy cy) s := by
    refine ⟨hKc, fun k q hq => ?_⟩
    rw [hcy] at hq
    match k, hq with
    | 0, hq => cases hq; exact ⟨hI1, hI2⟩
    | 1, hq => cases hq; exact ⟨hZ1, hZ2⟩
    | k + 2, hq => simp [kTy] at hq
  clear hcy
  have hv : Hv s s.heap [] G cy (fun q : Nat => s.heap.size ≤ q) [] := ⟨hK, fun k q h => by simp at h, ⟨fun i j p q h => by simp at h, fun k q h => by simp at h⟩, va_S.rf, fun _ h => h, EN_at hts0 hgv⟩
  have hl := lv_entry ([.ref b]) (n := 6) (Nat.le_of_ble_eq_true rfl)
  rw [lg_entry_eq]
  generalize (lg_sl ([.ref b]) ++ List.replicate (6 - (lg_sl ([.ref b])).length) Slot.unset).toArray = ls at hl ⊢
  have hl : lv_has ls 6 [(0, .ref b)] := hl
  have hinX4 : ∀ w ∈ wsX40, w ∈ wsL_law := inlX4
  refine kNewO (ci := 4) (fs := [.null, .null, .null, .int 0, .long 0, .int 0, .long 0, .long 0, .int 0, .null, .null, .null]) (C := RX4) (T := TX4) (N := 12) hx hb hts hinX4 tyX4 tyX4_ok hown (hts (.classLink RL 9 RX4) (by decide +kernel)) (hts (.instantiable RX4 12) (by decide +kernel)) (hts (.initialized RX4) (by decide +kernel)) hv rfl (fun j hj => by rcases (show j = 0 ∨ j = 1 ∨ j = 2 ∨ j = 3 ∨ j = 4 ∨ j = 5 ∨ j = 6 ∨ j = 7 ∨ j = 8 ∨ j = 9 ∨ j = 10 ∨ j = 11 by omega) with rfl | rfl | rfl | rfl | rfl | rfl | rfl | rfl | rfl | rfl | rfl | rfl <;> rfl) (Nat.le_of_ble_eq_true rfl) (Nat.le_of_ble_eq_true rfl) dL_law_0 (fun q1 H hv => ?_)
  replace hv : Hv s H [] G cy (fun q : Nat => s.heap.size ≤ q) [(q1, .inr (4, [.null, .null, .null, .int 0, .long 0, .int 0, .long 0, .long 0, .int 0, .null, .null, .null]))] := hv
  refine lv_dup hx hb dL_law_3 rfl ?_
  refine kI_c (b := q1) (wr := []) ⟨hx, hb, hml, hown, hts⟩ (c_X4_init l G cy q1) (cwI 0 hts gL_law_X4_init rfl rfl rfl (hts (.initialized RX4) (by decide +kernel)) (hts (.methodLink RL 122 yX4_init) (by decide +kernel)) (hts (.instanceMethod yX4_init) (by decide +kernel)) rfl (by decide +kernel) ⟨(Nat.le_of_ble_eq_true rfl), (Nat.le_of_ble_eq_true rfl)⟩) hv (isC := [0]) ⟨rfl, rfl⟩ [] rfl rfl (by decide) rfl hl.1 rfl (Nat.le_of_ble_eq_true rfl) dL_law_4 ⟨(Nat.le_of_ble_eq_true rfl), (Nat.le_of_ble_eq_true rfl)⟩ (fun u1 H locs hv => ?_)
  replace hv : Hv s H locs G cy (fun q : Nat => s.heap.size ≤ q) [(q1, .inr (4, [.ref (u1 0), .ref (u1 1), .ref (u1 2), .int 0, .long 0, .int 100, .long 0, .long 0, .int 0, .ref (u1 3), .ref (u1 10), .ref (u1 17)])), ((u1 0), .inl (cy.1, 40, .inl (fun _ => 0))), ((u1 1), .inl (cy.1, 40, .inl (fun _ => 0))), ((u1 2), .inl (cy.1, 40, .inl (fun _ => 0))), ((u1 3), .inr (0, [.ref (u1 4), .ref (u1 9)])), ((u1 4), .inr (3, [.int 0, .ref (u1 5), .ref (u1 6), .ref (u1 7), .ref (u1 8), .int 0])), ((u1 5), .inl (cy.1, 40, .inl (fun _ => 0))), ((u1 6), .inl (cy.1, 40, .inl (fun _ => 0))), ((u1 7), .inl (cy.1, 40, .inl (fun _ => 0))), ((u1 8), .inl (cy.1, 40, .inl (fun _ => 0))), ((u1 9), .inl (cy.1, 40, .inl (fun _ => 0))), ((u1 10), .inr (2, [.ref (u1 11), .ref (u1 16)])), ((u1 11), .inr (3, [.int 1, .ref (u1 12), .ref (u1 13), .ref (u1 14), .ref (u1 15), .int 0])), ((u1 12), .inl (cy.1, 40, .inl (fun _ => 0))), ((u1 13), .inl (cy.1, 40, .inl (fun _ => 0))), ((u1 14), .inl (cy.1, 40, .inl (fun _ => 0))), ((u1 15), .inl (cy.1, 40, .inl (fun _ => 0))), ((u1 16), .inl (cy.1, 41, .inl (fun _ => 0))), ((u1 17), .inr (1, [.ref (u1 18), .ref (u1 23), .ref (u1 24), .ref (u1 25), .ref (u1 26), .ref (u1 27), .ref (u1 28)])), ((u1 18), .inr (3, [.int 0, .ref (u1 19), .ref (u1 20), .ref (u1 21), .ref (u1 22), .int 0])), ((u1 19), .inl (cy.1, 40, .inl (fun _ => 0))), ((u1 20), .inl (cy.1, 40, .inl (fun _ => 0))), ((u1 21), .inl (cy.1, 40, .inl (fun _ => 0))), ((u1 22), .inl (cy.1, 40, .inl (fun _ => 0))), ((u1 23), .inl (cy.1, 40, .inl (fun _ => 0))), ((u1 24), .inl (cy.2.1, 40, .inl (fun _ => 0))), ((u1 25), .inl (cy.1, 40, .inl (fun _ => 0))), ((u1 26), .inl (cy.1, 41, .inl (fun _ => 0))), ((u1 27), .inl (cy.1, 41, .inl (fun _ => 0))), ((u1 28), .inl (cy.2.1, 41, .inl (fun _ => 0)))] := hv
  refine lv_astore_n (lv' := [(1, .ref q1), (0, .ref b)]) hx hb dL_law_7 rfl hl (by decide) rfl (fun ls hl => ?_)
  refine kNewO (ci := 4) (fs := [.null, .null, .null, .int 0, .long 0, .int 0, .long 0, .long 0, .int 0, .null, .null, .null]) (C := RX4) (T := TX4) (N := 12) hx hb hts hinX4 tyX4 tyX4_ok hown (hts (.classLink RL 9 RX4) (by decide +kernel)) (hts (.instantiable RX4 12) (by decide +kernel)) (hts (.initialized RX4) (by decide +kernel)) hv rfl (fun j hj => by rcases (show j = 0 ∨ j = 1 ∨ j = 2 ∨ j = 3 ∨ j = 4 ∨ j = 5 ∨ j = 6 ∨ j = 7 ∨ j = 8 ∨ j = 9 ∨ j = 10 ∨ j = 11 by omega) with rfl | rfl | rfl | rfl | rfl | rfl | rfl | rfl | rfl | rfl | rfl | rfl <;> rfl) (Nat.le_of_ble_eq_true rfl) (Nat.le_of_ble_eq_true rfl) dL_law_8 (fun q2 H hv => ?_)
  replace hv : Hv s H locs G cy (fun q : Nat => s.heap.size ≤ q) [(q1, .inr (4, [.ref (u1 0), .ref (u1 1), .ref (u1 2), .int 0, .long 0, .int 100, .long 0, .long 0, .int 0, .ref (u1 3), .ref (u1 10), .ref (u1 17)])), ((u1 0), .inl (cy.1, 40, .inl (fun _ => 0))), ((u1 1), .inl (cy.1, 40, .inl (fun _ => 0))), ((u1 2), .inl (cy.1, 40, .inl (fun _ => 0))), ((u1 3), .inr (0, [.ref (u1 4), .ref (u1 9)])), ((u1 4), .inr (3, [.int 0, .ref (u1 5), .ref (u1 6), .ref (u1 7), .ref (u1 8), .int 0])), ((u1 5), .inl (cy.1, 40, .inl (fun _ => 0))), ((u1 6), .inl (cy.1, 40, .inl (fun _ => 0))), ((u1 7), .inl (cy.1, 40, .inl (fun _ => 0))), ((u1 8), .inl (cy.1, 40, .inl (fun _ => 0))), ((u1 9), .inl (cy.1, 40, .inl (fun _ => 0))), ((u1 10), .inr (2, [.ref (u1 11), .ref (u1 16)])), ((u1 11), .inr (3, [.int 1, .ref (u1 12), .ref (u1 13), .ref (u1 14), .ref (u1 15), .int 0])), ((u1 12), .inl (cy.1, 40, .inl (fun _ => 0))), ((u1 13), .inl (cy.1, 40, .inl (fun _ => 0))), ((u1 14), .inl (cy.1, 40, .inl (fun _ => 0))), ((u1 15), .inl (cy.1, 40, .inl (fun _ => 0))), ((u1 16), .inl (cy.1, 41, .inl (fun _ => 0))), ((u1 17), .inr (1, [.ref (u1 18), .ref (u1 23), .ref (u1 24), .ref (u1 25), .ref (u1 26), .ref (u1 27), .ref (u1 28)])), ((u1 18), .inr (3, [.int 0, .ref (u1 19), .ref (u1 20), .ref (u1 21), .ref (u1 22), .int 0])), ((u1 19), .inl (cy.1, 40, .inl (fun _ => 0))), ((u1 20), .inl (cy.1, 40, .inl (fun _ => 0))), ((u1 21), .inl (cy.1, 40, .inl (fun _ => 0))), ((u1 22), .inl (cy.1, 40, .inl (fun _ => 0))), ((u1 23), .inl (cy.1, 40, .inl (fun _ => 0))), ((u1 24), .inl (cy.2.1, 40, .inl (fun _ => 0))), ((u1 25), .inl (cy.1, 40, .inl (fun _ => 0))), ((u1 26), .inl (cy.1, 41, .inl (fun _ => 0))), ((u1 27), .inl (cy.1, 41, .inl (fun _ => 0))), ((u1 28), .inl (cy.2.1, 41, .inl (fun _ => 0))), (q2, .inr (4, [.null, .null, .null, .int 0, .long 0, .int 0, .long 0, .long 0, .int 0, .null, .null, .null]))] := hv
  refine lv_dup hx hb dL_law_11 rfl ?_
  refine kI_c (b := q2) (wr := [(q1, .inr (4, [.ref (u1 0), .ref (u1 1), .ref (u1 2), .int 0, .long 0, .int 100, .long 0, .long 0, .int 0, .ref (u1 3), .ref (u1 10), .ref (u1 17)])), ((u1 0), .inl (cy.1, 40, .inl (fun _ => 0))), ((u1 1), .inl (cy.1, 40, .inl (fun _ => 0))), ((u1 2), .inl (cy.1, 40, .inl (fun _ => 0))), ((u1 3), .inr (0, [.ref (u1 4), .ref (u1 9)])), ((u1 4), .inr (3, [.int 0, .ref (u1 5), .ref (u1 6), .ref (u1 7), .ref (u1 8), .int 0])), ((u1 5), .inl (cy.1, 40, .inl (fun _ => 0))), ((u1 6), .inl (cy.1, 40, .inl (fun _ => 0))), ((u1 7), .inl (cy.1, 40, .inl (fun _ => 0))), ((u1 8), .inl (cy.1, 40, .inl (fun _ => 0))), ((u1 9), .inl (cy.1, 40, .inl (fun _ => 0))), ((u1 10), .inr (2, [.ref (u1 11), .ref (u1 16)])), ((u1 11), .inr (3, [.int 1, .ref (u1 12), .ref (u1 13), .ref (u1 14), .ref (u1 15), .int 0])), ((u1 12), .inl (cy.1, 40, .inl (fun _ => 0))), ((u1 13), .inl (cy.1, 40, .inl (fun _ => 0))), ((u1 14), .inl (cy.1, 40, .inl (fun _ => 0))), ((u1 15), .inl (cy.1, 40, .inl (fun _ => 0))), ((u1 16), .inl (cy.1, 41, .inl (fun _ => 0))), ((u1 17), .inr (1, [.ref (u1 18), .ref (u1 23), .ref (u1 24), .ref (u1 25), .ref (u1 26), .ref (u1 27), .ref (u1 28)])), ((u1 18), .inr (3, [.int 0, .ref (u1 19), .ref (u1 20), .ref (u1 21), .ref (u1 22), .int 0])), ((u1 19), .inl (cy.1, 40, .inl (fun _ => 0))), ((u1 20), .inl (cy.1, 40, .inl (fun _ => 0))), ((u1 21), .inl (cy.1, 40, .inl (fun _ => 0))), ((u1 22), .inl (cy.1, 40, .inl (fun _ => 0))), ((u1 23), .inl (cy.1, 40, .inl (fun _ => 0))), ((u1 24), .inl (cy.2.1, 40, .inl (fun _ => 0))), ((u1 25), .inl (cy.1, 40, .inl (fun _ => 0))), ((u1 26), .inl (cy.1, 41, .inl (fun _ => 0))), ((u1 27), .inl (cy.1, 41, .inl (fun _ => 0))), ((u1 28), .inl (cy.2.1, 41, .inl (fun _ => 0)))]) ⟨hx, hb, hml, hown, hts⟩ (c_X4_init l G cy q2) (cwI 0 hts gL_law_X4_init rfl rfl rfl (hts (.initialized RX4) (by decide +kernel)) (hts (.methodLink RL 122 yX4_init) (by decide +kernel)) (hts (.instanceMethod yX4_init) (by decide +kernel)) rfl (by decide +kernel) ⟨(Nat.le_of_ble_eq_true rfl), (Nat.le_of_ble_eq_true rfl)⟩) hv (isC := [30]) ⟨rfl, rfl⟩ [0, 1, 2, 3, 4, 5, 6, 7, 8, 9, 10, 11, 12, 13, 14, 15, 16, 17, 18, 19, 20, 21, 22, 23, 24, 25, 26, 27, 28, 29] rfl rfl (by decide) rfl hl.1 rfl (Nat.le_of_ble_eq_true rfl) dL_law_12 ⟨(Nat.le_of_ble_eq_true rfl), (Nat.le_of_ble_eq_true rfl)⟩ (fun u2 H locs hv => ?_)
  replace hv : Hv s H locs G cy (fun q : Nat => s.heap.size ≤ q) [(q1, .inr (4, [.ref (u1 0), .ref (u1 1), .ref (u1 2), .int 0, .long 0, .int 100, .long 0, .long 0, .int 0, .ref (u1 3), .ref (u1 10), .ref (u1 17)])), ((u1 0), .inl (cy.1, 40, .inl (fun _ => 0))), ((u1 1), .inl (cy.1, 40, .inl (fun _ => 0))), ((u1 2), .inl (cy.1, 40, .inl (fun _ => 0))), ((u1 3), .inr (0, [.ref (u1 4), .ref (u1 9)])), ((u1 4), .inr (3, [.int 0, .ref (u1 5), .ref (u1 6), .ref (u1 7), .ref (u1 8), .int 0])), ((u1 5), .inl (cy.1, 40, .inl (fun _ => 0))), ((u1 6), .inl (cy.1, 40, .inl (fun _ => 0))), ((u1 7), .inl (cy.1, 40, .inl (fun _ => 0))), ((u1 8), .inl (cy.1, 40, .inl (fun _ => 0))), ((u1 9), .inl (cy.1, 40, .inl (fun _ => 0))), ((u1 10), .inr (2, [.ref (u1 11), .ref (u1 16)])), ((u1 11), .inr (3, [.int 1, .ref (u1 12), .ref (u1 13), .ref (u1 14), .ref (u1 15), .int 0])), ((u1 12), .inl (cy.1, 40, .inl (fun _ => 0))), ((u1 13), .inl (cy.1, 40, .inl (fun _ => 0))), ((u1 14), .inl (cy.1, 40, .inl (fun _ => 0))), ((u1 15), .inl (cy.1, 40, .inl (fun _ => 0))), ((u1 16), .inl (cy.1, 41, .inl (fun _ => 0))), ((u1 17), .inr (1, [.ref (u1 18), .ref (u1 23), .ref (u1 24), .ref (u1 25), .ref (u1 26), .ref (u1 27), .ref (u1 28)])), ((u1 18), .inr (3, [.int 0, .ref (u1 19), .ref (u1 20), .ref (u1 21), .ref (u1 22), .int 0])), ((u1 19), .inl (cy.1, 40, .inl (fun _ => 0))), ((u1 20), .inl (cy.1, 40, .inl (fun _ => 0))), ((u1 21), .inl (cy.1, 40, .inl (fun _ => 0))), ((u1 22), .inl (cy.1, 40, .inl (fun _ => 0))), ((u1 23), .inl (cy.1, 40, .inl (fun _ => 0))), ((u1 24), .inl (cy.2.1, 40, .inl (fun _ => 0))), ((u1 25), .inl (cy.1, 40, .inl (fun _ => 0))), ((u1 26), .inl (cy.1, 41, .inl (fun _ => 0))), ((u1 27), .inl (cy.1, 41, .inl (fun _ => 0))), ((u1 28), .inl (cy.2.1, 41, .inl (fun _ => 0))), (q2, .inr (4, [.ref (u2 0), .ref (u2 1), .ref (u2 2), .int 0, .long 0, .int 100, .long 0, .long 0, .int 0, .ref (u2 3), .ref (u2 10), .ref (u2 17)])), ((u2 0), .inl (cy.1, 40, .inl (fun _ => 0))), ((u2 1), .inl (cy.1, 40, .inl (fun _ => 0))), ((u2 2), .inl (cy.1, 40, .inl (fun _ => 0))), ((u2 3), .inr (0, [.ref (u2 4), .ref (u2 9)])), ((u2 4), .inr (3, [.int 0, .ref (u2 5), .ref (u2 6), .ref (u2 7), .ref (u2 8), .int 0])), ((u2 5), .inl (cy.1, 40, .inl (fun _ => 0))), ((u2 6), .inl (cy.1, 40, .inl (fun _ => 0))), ((u2 7), .inl (cy.1, 40, .inl (fun _ => 0))), ((u2 8), .inl (cy.1, 40, .inl (fun _ => 0))), ((u2 9), .inl (cy.1, 40, .inl (fun _ => 0))), ((u2 10), .inr (2, [.ref (u2 11), .ref (u2 16)])), ((u2 11), .inr (3, [.int 1, .ref (u2 12), .ref (u2 13), .ref (u2 14), .ref (u2 15), .int 0])), ((u2 12), .inl (cy.1, 40, .inl (fun _ => 0))), ((u2 13), .inl (cy.1, 40, .inl (fun _ => 0))), ((u2 14), .inl (cy.1, 40, .inl (fun _ => 0))), ((u2 15), .inl (cy.1, 40, .inl (fun _ => 0))), ((u2 16), .inl (cy.1, 41, .inl (fun _ => 0))), ((u2 17), .inr (1, [.ref (u2 18), .ref (u2 23), .ref (u2 24), .ref (u2 25), .ref (u2 26), .ref (u2 27), .ref (u2 28)])), ((u2 18), .inr (3, [.int 0, .ref (u2 19), .ref (u2 20), .ref (u2 21), .ref (u2 22), .int 0])), ((u2 19), .inl (cy.1, 40, .inl (fun _ => 0))), ((u2 20), .inl (cy.1, 40, .inl (fun _ => 0))), ((u2 21), .inl (cy.1, 40, .inl (fun _ => 0))), ((u2 22), .inl (cy.1, 40, .inl (fun _ => 0))), ((u2 23), .inl (cy.1, 40, .inl (fun _ => 0))), ((u2 24), .inl (cy.2.1, 40, .inl (fun _ => 0))), ((u2 25), .inl (cy.1, 40, .inl (fun _ => 0))), ((u2 26), .inl (cy.1, 41, .inl (fun _ => 0))), ((u2 27), .inl (cy.1, 41, .inl (fun _ => 0))), ((u2 28), .inl (cy.2.1, 41, .inl (fun _ => 0)))] := hv
  refine lv_astore_n (lv' := [(2, .ref q2), (1, .ref q1), (0, .ref b)]) hx hb dL_law_15 rfl hl (by decide) rfl (fun ls hl => ?_)
  have hv2 : Hv s H locs G cy (fun q : Nat => s.heap.size ≤ q) [(q1, .inr (4, [.ref (u1 0), .ref (u1 1), .ref (u1 2), .int 0, .long 0, .int 100, .long 0, .long 0, .int 0, .ref (u1 3), .ref (u1 10), .ref (u1 17)])), ((u1 0), .inl (cy.1, 40, .inl (fun _ => 0))), ((u1 1), .inl (cy.1, 40, .inl (fun _ => 0))), ((u1 2), .inl (cy.1, 40, .inl (fun _ => 0))), ((u1 3), .inr (0, [.ref (u1 4), .ref (u1 9)])), ((u1 4), .inr (3, [.int 0, .ref (u1 5), .ref (u1 6), .ref (u1 7), .ref (u1 8), .int 0])), ((u1 5), .inl (cy.1, 40, .inl (fun _ => 0))), ((u1 6), .inl (cy.1, 40, .inl (fun _ => 0))), ((u1 7), .inl (cy.1, 40, .inl (fun _ => 0))), ((u1 8), .inl (cy.1, 40, .inl (fun _ => 0))), ((u1 9), .inl (cy.1, 40, .inl (fun _ => 0))), ((u1 10), .inr (2, [.ref (u1 11), .ref (u1 16)])), ((u1 11), .inr (3, [.int 1, .ref (u1 12), .ref (u1 13), .ref (u1 14), .ref (u1 15), .int 0])), ((u1 12), .inl (cy.1, 40, .inl (fun _ => 0))), ((u1 13), .inl (cy.1, 40, .inl (fun _ => 0))), ((u1 14), .inl (cy.1, 40, .inl (fun _ => 0))), ((u1 15), .inl (cy.1, 40, .inl (fun _ => 0))), ((u1 16), .inl (cy.1, 41, .inl (fun _ => 0))), ((u1 17), .inr (1, [.ref (u1 18), .ref (u1 23), .ref (u1 24), .ref (u1 25), .ref (u1 26), .ref (u1 27), .ref (u1 28)])), ((u1 18), .inr (3, [.int 0, .ref (u1 19), .ref (u1 20), .ref (u1 21), .ref (u1 22), .int 0])), ((u1 19), .inl (cy.1, 40, .inl (fun _ => 0))), ((u1 20), .inl (cy.1, 40, .inl (fun _ => 0))), ((u1 21), .inl (cy.1, 40, .inl (fun _ => 0))), ((u1 22), .inl (cy.1, 40, .inl (fun _ => 0))), ((u1 23), .inl (cy.1, 40, .inl (fun _ => 0))), ((u1 24), .inl (cy.2.1, 40, .inl (fun _ => 0))), ((u1 25), .inl (cy.1, 40, .inl (fun _ => 0))), ((u1 26), .inl (cy.1, 41, .inl (fun _ => 0))), ((u1 27), .inl (cy.1, 41, .inl (fun _ => 0))), ((u1 28), .inl (cy.2.1, 41, .inl (fun _ => 0))), (q2, .inr (4, [.ref (u2 0), .ref (u2 1), .ref (u2 2), .int 0, .long 0, .int 100, .long 0, .long 0, .int 0, .ref (u2 3), .ref (u2 10), .ref (u2 17)])), ((u2 0), .inl (cy.1, 40, .inl (fun _ => 0))), ((u2 1), .inl (cy.1, 40, .inl (fun _ => 0))), ((u2 2), .inl (cy.1, 40, .inl (fun _ => 0))), ((u2 10), .inr (2, [.ref (u2 11), .ref (u2 16)])), ((u2 11), .inr (3, [.int 1, .ref (u2 12), .ref (u2 13), .ref (u2 14), .ref (u2 15), .int 0])), ((u2 12), .inl (cy.1, 40, .inl (fun _ => 0))), ((u2 13), .inl (cy.1, 40, .inl (fun _ => 0))), ((u2 14), .inl (cy.1, 40, .inl (fun _ => 0))), ((u2 15), .inl (cy.1, 40, .inl (fun _ => 0))), ((u2 16), .inl (cy.1, 41, .inl (fun _ => 0)))] := hv.perm [0, 1, 2, 3, 4, 5, 6, 7, 8, 9, 10, 11, 12, 13, 14, 15, 16, 17, 18, 19, 20, 21, 22, 23, 24, 25, 26, 27, 28, 29, 30, 31, 32, 33, 41, 42, 43, 44, 45, 46, 47] rfl rfl
  obtain ⟨k, hf⟩ := law_pure L xs hL
  refine W.widen (k := 60) (n := 1930) (Nat.le_of_ble_eq_true rfl) (Nat.le_of_ble_eq_true rfl) ?_
  exact law_from hx hb hr hml hown hts hX hbl hbA (fun _ h => h) hlocks hl9 G cy k q1 (u1 0) (u1 1) (u1 2) (u1 3) (u1 10) (u1 17) (u1 4) (u1 9) (u1 5) (u1 6) (u1 7) (u1 8) (u1 11) (u1 16) (u1 12) (u1 13) (u1 14) (u1 15) (u1 18) (u1 23) (u1 24) (u1 25) (u1 26) (u1 27) (u1 28) (u1 19) (u1 20) (u1 21) (u1 22) q2 (u2 0) (u2 1) (u2 2) (u2 3) (u2 10) (u2 17) (u2 11) (u2 16) (u2 12) (u2 13) (u2 14) (u2 15) 0 0 100 0 0 0 (fun _ => 0) (fun _ => 0) (fun _ => 0) 0 0 (fun _ => 0) (fun _ => 0) (fun _ => 0) (fun _ => 0) (fun _ => 0) 1 0 (fun _ => 0) (fun _ => 0) (fun _ => 0) (fun _ => 0) (fun _ => 0) 0 0 (fun _ => 0) (fun _ => 0) (fun _ => 0) (fun _ => 0) (fun _ => 0) (fun _ => 0) (fun _ => 0) (fun _ => 0) (fun _ => 0) (fun _ => 0) 0 0 100 0 0 0 (fun _ => 0) (fun _ => 0) (fun _ => 0) 1 0 (fun _ => 0) (fun _ => 0) (fun _ => 0) (fun _ => 0) (fun _ => 0) hf _ _ _ hv2 (lv_sub hl [2, 1, 0] rfl)
set_option maxHeartbeats 4000000 in
theorem lw_walk (l : Launch) (hflags : l.flags = flags0) (b : Addr) (xs : List Int32) : MetFree l x (headSpec (Jvm.Cond.code x code maxLocals ret :: tables_1) room_1) (lw_P b xs) (fun _ _ _ _ _ => True) lw_Q := by
  refine MetFree.of_bodyS (code := code) (maxLocals := maxLocals) (ret := ret) (by decide) ?_ ?_
  · intro args s m h hn
    obtain ⟨meth, c, h1, h2, h3, h4, h5, h6, -, -⟩ := Cond.code_spec hn (atoms_spec (ws := Jvm.Cond.code x code maxLocals ret :: tables_1) h _ List.mem_cons_self)
    exact ⟨meth, c, h1, h2, h3, h4, h5, h6⟩
  · intro p e s m args below meth c s₁ B hml0 hP _
    obtain ⟨rfl, hx, hbd, hgv⟩ := hP
    obtain ⟨scr, harrAt, hlist, hof, hsmall⟩ := hx
    obtain ⟨hcb, hkn, -, -⟩ := State.arrayAt?_spec harrAt
    have hown : s.vm.findClass R_law = some m.cls := findClass_of_methodNamed B.named
    have hts0 : ∀ c ∈ (Jvm.Cond.code x code maxLocals ret :: tables_1), c.before #[Value.ref b] s = true := atoms_spec (ws := Jvm.Cond.code x code maxLocals ret :: tables_1) B.pre
    have hts : ∀ w ∈ lw_tbl, w.before #[Value.ref b] s = true := k2_hts_sels lw_privs (fun w hw => hts0 w (List.mem_cons_of_mem _ hw)) lw_privs_ok
    have hml : c.maxLocals = 6 := B.maxLocals_eq (hts0 _ List.mem_cons_self)
    have X₀ : Stand p l e room_1 s m #[Value.ref b] below meth c s₁ [] 0 0 := Stand.of_body B
    have hh0 : s₁.heap = s.heap := by rw [B.state]; rfl
    have hsz : scr.slots.size = xs.length := by rw [← Array.length_toList, hlist, List.length_map]
    have hval : ∀ j : Nat, j < xs.length → scr.slots[j]? = some (.int (xs.getD j 0)) := fun j hj => by
      rw [← Array.getElem?_toList, hlist]
      simp [hj]
    have hbl : b < s.heap.size := (Array.getElem?_eq_some_iff.mp hcb).1
    have hX : va_X b xs.length (fun j => xs.getD j 0) s s.heap := ⟨scr, hcb, hof, hkn, hsz, hval⟩
    have K : W p l e room_1 s m #[Value.ref b] below meth c s₁.heap [] 0 0 (lw_Z below #[Value.ref b] s) (entryFrame m ([Value.ref b] : List Value).toArray 6) := by
      rw [hh0]
      exact whole_start l hflags hbd ⟨B.exec, B.bytes, B.returns, hml, hown, hts, hX, hbl, B.notSynchronized, hgv⟩
    obtain ⟨t, a1, o, b1, b2, b3⟩ := K s₁ rfl X₀
    exact ⟨t, o, a1, b1, b2, b3⟩
theorem lw_pre_spec {args : Array Value} {s : State} (h : (Jvm.Cond.and given_1 narrow_1).before args s = true) (hr : rest_1_c.before args s = true) : ∃ (b : Addr) (xs : List Int32), lw_P b xs args s := by
  have hs := flat_of_before _ h
  have hq := flat_of_before _ hr
  have hc : (Cond.count 1).before args s = true := hs _ (by decide +kernel)
  have harr : (Cond.arrayOf (.arg 0) .int).before args s = true := hs _ (by decide +kernel)
  have hle : (Cond.le (.length (.arg 0)) (.int 260)).before args s = true := hs _ (by decide +kernel)
  have hlen : (Cond.isInt (.length (.arg 0))).before args s = true := hq _ (by decide +kernel)
  have hall : (Cond.all (.arg 0) (.isInt (.elem (.arg 0) (.index 0)))).before args s = true := hq _ (by decide +kernel)
  obtain ⟨b, xs, hb, hx⟩ := State.ints_of_pre rfl harr hlen hall
  have hsm : xs.length < 2 ^ 31 := hx.choose_spec.2.2.2
  have hev : (Term.length (.arg 0)).eval args s none [] s = some (.int xs.length.toInt32) := hx.length_eval hb
  have hv := Cond.le_ints hev (show (Term.int 260).eval args s none [] s = some (.int 260) from rfl)
  have hd : xs.length.toInt32 ≤ 260 := by
    simpa [Cond.before, Cond.holds, hv] using hle
  have hN : xs.length ≤ 260 := (Int32.ofNat_le_ofNat hsm (by decide)).mp (show Int32.ofNat xs.length ≤ Int32.ofNat 260 from hd)
  exact ⟨b, xs, Cond.one_arg hc (show args[0]? = some (.ref b) from hb), hx, hN, h⟩
theorem lw_comes (l : Launch) (hflags : l.flags = flags0) : Comes l x (Jvm.Cond.code x code maxLocals ret :: tables_1) room_1 (fun tb e args s => Calls_1 tb e args s ∧ rest_1 tb e args s ∧ Pre_1 tb e args s)
    (fun _ _ args s o t => lw_Q args s o t) := by
  intro p e ha hc hk s m args below hf hfit hheap happ hpre
  obtain ⟨b, xs, hP⟩ := lw_pre_spec hpre.2.2 hpre.2.1
  obtain ⟨k, o, h1, h2, h3, hQ⟩ := lw_walk l hflags b xs p e ha hc hk s m args below hf ((Spec.applies_iff_loose hf).mp happ).1 hP trivial
  exact ⟨k, o, h1, h2, h3, hQ⟩
theorem lw_frame {s t : State} {o : Outcome} {args : Array Value} (h : Framed s o t [] 600130 7301080) :
    Framed s o t (fieldLocs frame_1_writes args s ++ arrayLocs frame_1_arrays args s ++ staticLocs frame_1_statics s) 600130 7301080 := h
theorem lw_limb (L : Cond) (hL : ∀ (args : Array Value) (s t : State), L.after args s (.returned (some (.int 1))) t = true) :
    ArmFor flags0 classFile x code maxLocals ret World_1 tables_1 room_1 Calls_1 rest_1 Pre_1
      (fun tb e a s o t => postC L tb e a s o t ∧ Framed s o t (fieldLocs frame_1_writes a s ++ arrayLocs frame_1_arrays a s ++ staticLocs frame_1_statics s) 600130 7301080) := by
  intro l hflags _ _ p e ha hc hk s m args below hf hfit hheap happ hpre
  obtain ⟨k, o, h1, h2, h3, rfl, hF⟩ := lw_comes l hflags p e ha hc hk s m args below hf hfit hheap happ hpre
  exact ⟨k, _, h1, h2, h3, hL args s _, lw_frame hF⟩
theorem i_vc : Claimed_1_1 ∧ Claimed_1_2 := ⟨lw_limb limb_1_1 (fun args s t => by simp [limb_1_1, Cond.after, Cond.holds, Cond.value]), lw_limb limb_1_2 (fun args s t => Cond.after_iff.mpr (by
  first | (rw [show limb_1_2 = Cond.eq .result (.int 1) from rfl, Cond.eq_ints (x := 1) (y := 1) rfl rfl]; simp; done) | (simp [limb_1_2, Cond.value, Term.eval]; done)))⟩

