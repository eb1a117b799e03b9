abbrev rm0_X4_requireThere : Room := { frames := 6, cells := 0, slots := 0, locals := 90 }
set_option maxHeartbeats 4000000 in
set_option maxRecDepth 100000 in
theorem c0_X4_requireThere (l : Launch) (G : va_G) (cy : ClassId × ClassId × ClassId) (k : Nat) (aT aT_begins aT_ends aT_weights aT_givenRooms aT_oneRoom aT_manyRooms : Nat) (f_added : Int32) (f_presentSet : Int64) (f_factor : Int32) (f_offeredSet : Int64) (f_acceptedSet : Int64) (f_dropped : Int32) (p1 : Int32) (hf : f_X4_requireThere k p1 f_added f_presentSet = some (.ok ())) : Cv l yX4_requireThere wsX4_requireThere rm0_X4_requireThere 0 0 G cy [.ref aT, .int p1] [(aT, .inr (4, [.ref aT_begins, .ref aT_ends, .ref aT_weights, .int f_added, .long f_presentSet, .int f_factor, .long f_offeredSet, .long f_acceptedSet, .int f_dropped, .ref aT_givenRooms, .ref aT_oneRoom, .ref aT_manyRooms]))] [(aT, .inr (4, [.ref aT_begins, .ref aT_ends, .ref aT_weights, .int f_added, .long f_presentSet, .int f_factor, .long f_offeredSet, .long f_acceptedSet, .int f_dropped, .ref aT_givenRooms, .ref aT_oneRoom, .ref aT_manyRooms]))] := by
  refine kMetV (cc := cX4_requireThere) (maxL := 2) (by decide) rfl (Nat.le_of_ble_eq_true rfl) ?_
  intro p e s m args below meth c Q A ls hx hb hml hts hown hv hl kret
  replace hown : s.vm.findClass RX4 = some m.cls := hown
  replace hl : lv_has ls 2 [(0, .ref aT), (1, .int p1)] := hl
  have hk53 : (Cond.fieldLink RX4 53 "Roomcolour" "added" "I").before args s = true := hts _ (by decide +kernel)
  have hinX4 : ∀ w ∈ wsX40, w ∈ wsX4_requireThere := by decide +kernel
  have hk61 : (Cond.fieldLink RX4 61 "Roomcolour" "presentSet" "J").before args s = true := hts _ (by decide +kernel)
  unfold f_X4_requireThere at hf
  refine lv_iload_n hx hb dX4_requireThere_0 rfl (lv_at hl 1 rfl) ?_
  refine lv_if_lt (tgt := 23) hx hb dX4_requireThere_1 (by decide) (fun hc1 => ?_) (fun hc1 => ?_)
  · replace hf := ite_t hf hc1
    cases hf
  · replace hf := ite_f hf hc1
    refine lv_iload_n hx hb dX4_requireThere_4 rfl (lv_at hl 1 rfl) ?_
    refine lv_aload_n hx hb dX4_requireThere_5 rfl (lv_at hl 0 rfl) ?_
    refine kGet (v := .int f_added) (C := RX4) (T := TX4) (N := 12) hx hb hts hinX4 hown hv 0 rfl rfl 3 (by decide) hk53 (fun _ h9 => h9) rfl dX4_requireThere_6 ?_
    refine lv_icmp_ge (tgt := 23) hx hb dX4_requireThere_9 (by decide) (fun hc2 => ?_) (fun hc2 => ?_)
    · replace hf := ite_t hf hc2
      cases hf
    · replace hf := ite_f hf hc2
      refine lv_aload_n hx hb dX4_requireThere_12 rfl (lv_at hl 0 rfl) ?_
      refine kGet (v := .long f_presentSet) (C := RX4) (T := TX4) (N := 12) hx hb hts hinX4 hown hv 0 rfl rfl 4 (by decide) hk61 (fun _ h9 => h9) rfl dX4_requireThere_13 ?_
      refine lv_iload_n hx hb dX4_requireThere_16 rfl (lv_at hl 1 rfl) ?_
      obtain ⟨r3, hcl4, hf⟩ := xb_some hf
      refine kS_i (r := r3) ⟨hx, hb, hml, hown, hts⟩ (c_X4_contains l G cy k f_presentSet p1 hcl4) (va_cwS 2 hts gX4_requireThere_X4_contains rfl rfl rfl (by decide +kernel) ⟨Nat.le_of_ble_eq_true rfl, Nat.le_of_ble_eq_true rfl⟩) hv rfl hl.1 rfl (Nat.le_of_ble_eq_true rfl) dX4_requireThere_17 ⟨Nat.le_of_ble_eq_true rfl, Nat.le_of_ble_eq_true rfl⟩ (fun H locs hv => ?_)
      refine lv_if_ne (tgt := 33) hx hb dX4_requireThere_20 (by decide) (fun hc5 => ?_) (fun hc5 => ?_)
      · replace hf := ite_f hf hc5
        cases hf
        exact kret _ _ _ _ hv dX4_requireThere_33
      · replace hf := ite_t hf hc5
        cases hf

abbrev rm0_X4_requirePlannedRooms : Room := { frames := 6, cells := 0, slots := 0, locals := 90 }
set_option maxHeartbeats 4000000 in
set_option maxRecDepth 100000 in
theorem c0_X4_requirePlannedRooms (l : Launch) (G : va_G) (cy : ClassId × ClassId × ClassId) (k : Nat) (p0 : Int32) (hf : f_X4_requirePlannedRooms k p0 = some (.ok ())) : Cv l yX4_requirePlannedRooms wsX4_requirePlannedRooms rm0_X4_requirePlannedRooms 0 0 G cy [.int p0] [] [] := by
  refine kMetV (cc := cX4_requirePlannedRooms) (maxL := 1) (by decide) rfl (Nat.le_of_ble_eq_true rfl) ?_
  intro p e s m args below meth c Q A ls hx hb hml hts hown hv hl kret
  replace hown : s.vm.findClass RX4 = some m.cls := hown
  replace hl : lv_has ls 1 [(0, .int p0)] := hl
  unfold f_X4_requirePlannedRooms at hf
  refine lv_iload_n hx hb dX4_requirePlannedRooms_0 rfl (lv_at hl 0 rfl) ?_
  refine lv_iconst (v := 1) hx hb dX4_requirePlannedRooms_1 (by decide) ?_
  refine lv_icmp_lt (tgt := 11) hx hb dX4_requirePlannedRooms_2 (by decide) (fun hc1 => ?_) (fun hc1 => ?_)
  · replace hf := ite_t hf hc1
    cases hf
  · replace hf := ite_f hf hc1
    refine lv_iload_n hx hb dX4_requirePlannedRooms_5 rfl (lv_at hl 0 rfl) ?_
    refine lv_bipush (v := 6) hx hb dX4_requirePlannedRooms_6 (by decide) ?_
    refine lv_icmp_le (tgt := 21) hx hb dX4_requirePlannedRooms_8 (by decide) (fun hc2 => ?_) (fun hc2 => ?_)
    · replace hf := ite_t hf hc2
      cases hf
      exact kret _ _ _ _ hv dX4_requirePlannedRooms_21
    · replace hf := ite_f hf hc2
      cases hf

abbrev rm0_X4_requireCircle : Room := { frames := 6, cells := 0, slots := 0, locals := 90 }
set_option maxHeartbeats 4000000 in
set_option maxRecDepth 100000 in
theorem c0_X4_requireCircle (l : Launch) (G : va_G) (cy : ClassId × ClassId × ClassId) (k : Nat) (aT aT_begins aT_ends aT_weights aT_givenRooms aT_oneRoom aT_manyRooms : Nat) (f_added : Int32) (f_presentSet : Int64) (f_factor : Int32) (f_offeredSet : Int64) (f_acceptedSet : Int64) (f_dropped : Int32) (A_begins : Nat → Int32) (A_ends : Nat → Int32) (p1 : Int32) (hf : f_X4_requireCircle k p1 f_added f_presentSet A_begins A_ends = some (.ok ())) : Cv l yX4_requireCircle wsX4_requireCircle rm0_X4_requireCircle 0 0 G cy [.ref aT, .int p1] [(aT, .inr (4, [.ref aT_begins, .ref aT_ends, .ref aT_weights, .int f_added, .long f_presentSet, .int f_factor, .long f_offeredSet, .long f_acceptedSet, .int f_dropped, .ref aT_givenRooms, .ref aT_oneRoom, .ref aT_manyRooms])), (aT_begins, .inl (cy.1, 40, .inl A_begins)), (aT_ends, .inl (cy.1, 40, .inl A_ends))] [(aT, .inr (4, [.ref aT_begins, .ref aT_ends, .ref aT_weights, .int f_added, .long f_presentSet, .int f_factor, .long f_offeredSet, .long f_acceptedSet, .int f_dropped, .ref aT_givenRooms, .ref aT_oneRoom, .ref aT_manyRooms])), (aT_begins, .inl (cy.1, 40, .inl A_begins)), (aT_ends, .inl (cy.1, 40, .inl A_ends))] := by
  refine kMetV (cc := cX4_requireCircle) (maxL := 3) (by decide) rfl (Nat.le_of_ble_eq_true rfl) ?_
  intro p e s m args below meth c Q A ls hx hb hml hts hown hv hl kret
  replace hown : s.vm.findClass RX4 = some m.cls := hown
  replace hl : lv_has ls 3 [(0, .ref aT), (1, .int p1)] := hl
  have hk53 : (Cond.fieldLink RX4 53 "Roomcolour" "added" "I").before args s = true := hts _ (by decide +kernel)
  have hinX4 : ∀ w ∈ wsX40, w ∈ wsX4_requireCircle := by decide +kernel
  have hk61 : (Cond.fieldLink RX4 61 "Roomcolour" "presentSet" "J").before args s = true := hts _ (by decide +kernel)
  have L24 : ∀ (v1 : Int32) (κ : Int32 → Option (Except String (Unit))) (n : Nat) (v2 : Int32), f_X4_requireCircle_L24 k v1 f_added f_presentSet A_begins A_ends κ n v2 = some (.ok ()) → ∀ (H : Heap) (locs : List Loc) (ls : Array Slot), Hv s H locs G cy A [(aT, .inr (4, [.ref aT_begins, .ref aT_ends, .ref aT_weights, .int f_added, .long f_presentSet, .int f_factor, .long f_offeredSet, .long f_acceptedSet, .int f_dropped, .ref aT_givenRooms, .ref aT_oneRoom, .ref aT_manyRooms])), (aT_begins, .inl (cy.1, 40, .inl A_begins)), (aT_ends, .inl (cy.1, 40, .inl A_ends))] → lv_has ls 3 [(0, .ref aT), (1, .int v1), (2, .int v2)] → (∀ (v2 : Int32), κ v2 = some (.ok ()) → ∀ (H : Heap) (locs : List Loc) (ls : Array Slot), Hv s H locs G cy A [(aT, .inr (4, [.ref aT_begins, .ref aT_ends, .ref aT_weights, .int f_added, .long f_presentSet, .int f_factor, .long f_offeredSet, .long f_acceptedSet, .int f_dropped, .ref aT_givenRooms, .ref aT_oneRoom, .ref aT_manyRooms])), (aT_begins, .inl (cy.1, 40, .inl A_begins)), (aT_ends, .inl (cy.1, 40, .inl A_ends))] → lv_has ls 3 [] → W p l e rm0_X4_requireCircle s m args below meth c H locs 0 0 Q (F0 m 68 ls [])) → W p l e rm0_X4_requireCircle s m args below meth c H locs 0 0 Q (F0 m 24 ls []) := by
    intro v1 κ n
    induction n with
    | zero =>
      intro v2 hf
      rw [f_X4_requireCircle_L24_z] at hf
      cases hf
    | succ n ih =>
      intro v2 hf H locs ls hv hl hκ
      rw [f_X4_requireCircle_L24_s] at hf
      refine lv_iload_n hx hb dX4_requireCircle_24 rfl (lv_at hl 2 rfl) ?_
      refine lv_aload_n hx hb dX4_requireCircle_25 rfl (lv_at hl 0 rfl) ?_
      refine kGet (v := .int f_added) (C := RX4) (T := TX4) (N := 12) hx hb hts hinX4 hown hv 0 rfl rfl 3 (by decide) hk53 (fun _ h9 => h9) rfl dX4_requireCircle_26 ?_
      refine lv_icmp_ge (tgt := 68) hx hb dX4_requireCircle_29 (by decide) (fun hc3 => ?_) (fun hc3 => ?_)
      · replace hf := ite_t hf hc3
        exact hκ v2 hf _ _ _ hv (lv_sub hl [] rfl)
      · replace hf := ite_f hf hc3
        refine lv_aload_n hx hb dX4_requireCircle_32 rfl (lv_at hl 0 rfl) ?_
        refine kGet (v := .long f_presentSet) (C := RX4) (T := TX4) (N := 12) hx hb hts hinX4 hown hv 0 rfl rfl 4 (by decide) hk61 (fun _ h9 => h9) rfl dX4_requireCircle_33 ?_
        refine lv_iload_n hx hb dX4_requireCircle_36 rfl (lv_at hl 2 rfl) ?_
        obtain ⟨r4, hcl5, hf⟩ := xb_some hf
        refine kS_i (r := r4) ⟨hx, hb, hml, hown, hts⟩ (c_X4_contains l G cy k f_presentSet v2 hcl5) (va_cwS 2 hts gX4_requireCircle_X4_contains rfl rfl rfl (by decide +kernel) ⟨Nat.le_of_ble_eq_true rfl, Nat.le_of_ble_eq_true rfl⟩) hv rfl hl.1 rfl (Nat.le_of_ble_eq_true rfl) dX4_requireCircle_37 ⟨Nat.le_of_ble_eq_true rfl, Nat.le_of_ble_eq_true rfl⟩ (fun H locs hv => ?_)
        refine lv_if_eq (tgt := 62) hx hb dX4_requireCircle_40 (by decide) (fun hc6 => ?_) (fun hc6 => ?_)
        · replace hf := ite_t hf hc6
          refine lv_iinc (v := v2 + 1) (lv' := [(2, .int (v2 + 1)), (0, .ref aT), (1, .int v1)]) hx hb dX4_requireCircle_62 hl (k := 2) rfl rfl (by decide) rfl (fun ls hl => ?_)
          refine lv_goto (tgt := 24) hx hb dX4_requireCircle_65 (by decide) ?_
          exact ih (v2 + 1) hf _ _ _ hv (lv_sub hl [1, 2, 0] rfl) hκ
        · replace hf := ite_f hf hc6
          refine lv_aload_n hx hb dX4_requireCircle_43 rfl (lv_at hl 0 rfl) ?_
          refine lv_iload_n hx hb dX4_requireCircle_44 rfl (lv_at hl 2 rfl) ?_
          obtain ⟨r7, hcl8, hf⟩ := xb_some hf
          refine kV_i (r := r7) (wr := []) (w2 := [(aT, .inr (4, [.ref aT_begins, .ref aT_ends, .ref aT_weights, .int f_added, .long f_presentSet, .int f_factor, .long f_offeredSet, .long f_acceptedSet, .int f_dropped, .ref aT_givenRooms, .ref aT_oneRoom, .ref aT_manyRooms])), (aT_begins, .inl (cy.1, 40, .inl A_begins)), (aT_ends, .inl (cy.1, 40, .inl A_ends))]) ⟨hx, hb, hml, hown, hts⟩ (c_X4_lengthOf l G cy k aT aT_begins aT_ends aT_weights aT_givenRooms aT_oneRoom aT_manyRooms f_added f_presentSet f_factor f_offeredSet f_acceptedSet f_dropped A_begins A_ends v2 hcl8) (cwV 1 hts gX4_requireCircle_X4_lengthOf rfl rfl rfl (by decide +kernel) ⟨Nat.le_of_ble_eq_true rfl, Nat.le_of_ble_eq_true rfl⟩) hv (isC := [0, 1, 2]) ⟨rfl, rfl⟩ (hv.recv 4 0 rfl rfl) [] [0, 1, 2] rfl rfl (by decide) rfl rfl rfl hl.1 rfl (Nat.le_of_ble_eq_true rfl) dX4_requireCircle_45 ⟨Nat.le_of_ble_eq_true rfl, Nat.le_of_ble_eq_true rfl⟩ (fun H locs hv => ?_)
          refine lv_iload_n hx hb dX4_requireCircle_48 rfl (lv_at hl 1 rfl) ?_
          refine lv_icmp_le (tgt := 62) hx hb dX4_requireCircle_49 (by decide) (fun hc9 => ?_) (fun hc9 => ?_)
          · replace hf := ite_t hf hc9
            refine lv_iinc (v := v2 + 1) (lv' := [(2, .int (v2 + 1)), (0, .ref aT), (1, .int v1)]) hx hb dX4_requireCircle_62 hl (k := 2) rfl rfl (by decide) rfl (fun ls hl => ?_)
            refine lv_goto (tgt := 24) hx hb dX4_requireCircle_65 (by decide) ?_
            exact ih (v2 + 1) hf _ _ _ hv (lv_sub hl [1, 2, 0] rfl) hκ
          · replace hf := ite_f hf hc9
            cases hf
  unfold f_X4_requireCircle at hf
  refine lv_iload_n hx hb dX4_requireCircle_0 rfl (lv_at hl 1 rfl) ?_
  refine lv_iconst (v := 1) hx hb dX4_requireCircle_1 (by decide) ?_
  refine lv_icmp_lt (tgt := 12) hx hb dX4_requireCircle_2 (by decide) (fun hc1 => ?_) (fun hc1 => ?_)
  · replace hf := ite_t hf hc1
    cases hf
  · replace hf := ite_f hf hc1
    refine lv_iload_n hx hb dX4_requireCircle_5 rfl (lv_at hl 1 rfl) ?_
    refine lv_sipush (v := 1000) hx hb dX4_requireCircle_6 (by decide) ?_
    refine lv_icmp_le (tgt := 22) hx hb dX4_requireCircle_9 (by decide) (fun hc2 => ?_) (fun hc2 => ?_)
    · replace hf := ite_t hf hc2
      refine lv_iconst (v := 0) hx hb dX4_requireCircle_22 (by decide) ?_
      refine lv_istore_n (lv' := [(2, .int 0), (0, .ref aT), (1, .int p1)]) hx hb dX4_requireCircle_23 rfl hl (by decide) rfl (fun ls hl => ?_)
      refine L24 _ _ _ _ hf _ _ _ hv (lv_sub hl [1, 2, 0] rfl) (fun v2_10 hf H locs ls hv hl => ?_)
      try dsimp only at hf
      cases hf
      exact kret _ _ _ _ hv dX4_requireCircle_68
    · replace hf := ite_f hf hc2
      cases hf

abbrev rm0_X4_overlapping : Room := { frames := 7, cells := 0, slots := 0, locals := 111 }
set_option maxHeartbeats 4000000 in
set_option maxRecDepth 100000 in
theorem c0_X4_overlapping (l : Launch) (G : va_G) (cy : ClassId × ClassId × ClassId) (k : Nat) (aT aT_begins aT_ends aT_weights aT_givenRooms aT_oneRoom aT_manyRooms : Nat) (f_added : Int32) (f_presentSet : Int64) (f_factor : Int32) (f_offeredSet : Int64) (f_acceptedSet : Int64) (f_dropped : Int32) (A_begins : Nat → Int32) (A_ends : Nat → Int32) (p1 : Int32) {r : Int64} (hf : f_X4_overlapping k p1 f_added f_presentSet A_begins A_ends = some (.ok r)) : Cl l yX4_overlapping wsX4_overlapping rm0_X4_overlapping 0 0 G cy [.ref aT, .int p1] [(aT, .inr (4, [.ref aT_begins, .ref aT_ends, .ref aT_weights, .int f_added, .long f_presentSet, .int f_factor, .long f_offeredSet, .long f_acceptedSet, .int f_dropped, .ref aT_givenRooms, .ref aT_oneRoom, .ref aT_manyRooms])), (aT_begins, .inl (cy.1, 40, .inl A_begins)), (aT_ends, .inl (cy.1, 40, .inl A_ends))] [(aT, .inr (4, [.ref aT_begins, .ref aT_ends, .ref aT_weights, .int f_added, .long f_presentSet, .int f_factor, .long f_offeredSet, .long f_acceptedSet, .int f_dropped, .ref aT_givenRooms, .ref aT_oneRoom, .ref aT_manyRooms])), (aT_begins, .inl (cy.1, 40, .inl A_begins)), (aT_ends, .inl (cy.1, 40, .inl A_ends))] r := by
  refine kMetL (cc := cX4_overlapping) (maxL := 2) (by decide) rfl (Nat.le_of_ble_eq_true rfl) ?_
  intro p e s m args below meth c Q A ls hx hb hml hts hown hv hl kret
  replace hown : s.vm.findClass RX4 = some m.cls := hown
  replace hl : lv_has ls 2 [(0, .ref aT), (1, .int p1)] := hl
  unfold f_X4_overlapping at hf
  refine lv_aload_n hx hb dX4_overlapping_0 rfl (lv_at hl 0 rfl) ?_
  refine lv_iload_n hx hb dX4_overlapping_1 rfl (lv_at hl 1 rfl) ?_
  rcases xe_some hf with ⟨E4, hcl1, hf⟩ | ⟨_, hcl1, hf⟩
  · cases hf
  · refine kV_v (wr := [(aT_begins, .inl (cy.1, 40, .inl A_begins)), (aT_ends, .inl (cy.1, 40, .inl A_ends))]) (w2 := [(aT, .inr (4, [.ref aT_begins, .ref aT_ends, .ref aT_weights, .int f_added, .long f_presentSet, .int f_factor, .long f_offeredSet, .long f_acceptedSet, .int f_dropped, .ref aT_givenRooms, .ref aT_oneRoom, .ref aT_manyRooms])), (aT_begins, .inl (cy.1, 40, .inl A_begins)), (aT_ends, .inl (cy.1, 40, .inl A_ends))]) ⟨hx, hb, hml, hown, hts⟩ (c0_X4_requireThere l G cy k aT aT_begins aT_ends aT_weights aT_givenRooms aT_oneRoom aT_manyRooms f_added f_presentSet f_factor f_offeredSet f_acceptedSet f_dropped p1 hcl1) (cwV 1 hts gX4_overlapping_X4_requireThere rfl rfl rfl (by decide +kernel) ⟨Nat.le_of_ble_eq_true rfl, Nat.le_of_ble_eq_true rfl⟩) hv (isC := [0]) ⟨rfl, rfl⟩ (hv.recv 4 0 rfl rfl) [1, 2] [2, 0, 1] rfl rfl (by decide) rfl rfl rfl hl.1 rfl (Nat.le_of_ble_eq_true rfl) dX4_overlapping_2 ⟨Nat.le_of_ble_eq_true rfl, Nat.le_of_ble_eq_true rfl⟩ (fun H locs hv => ?_)
    refine lv_aload_n hx hb dX4_overlapping_5 rfl (lv_at hl 0 rfl) ?_
    refine lv_iload_n hx hb dX4_overlapping_6 rfl (lv_at hl 1 rfl) ?_
    obtain ⟨r2, hcl3, hf⟩ := xb_some hf
    refine kV_l (r := r2) (wr := []) (w2 := [(aT, .inr (4, [.ref aT_begins, .ref aT_ends, .ref aT_weights, .int f_added, .long f_presentSet, .int f_factor, .long f_offeredSet, .long f_acceptedSet, .int f_dropped, .ref aT_givenRooms, .ref aT_oneRoom, .ref aT_manyRooms])), (aT_begins, .inl (cy.1, 40, .inl A_begins)), (aT_ends, .inl (cy.1, 40, .inl A_ends))]) ⟨hx, hb, hml, hown, hts⟩ (c_X4_othersMeeting l G cy k aT aT_begins aT_ends aT_weights aT_givenRooms aT_oneRoom aT_manyRooms f_added f_presentSet f_factor f_offeredSet f_acceptedSet f_dropped A_begins A_ends p1 hcl3) (cwV 1 hts gX4_overlapping_X4_othersMeeting rfl rfl rfl (by decide +kernel) ⟨Nat.le_of_ble_eq_true rfl, Nat.le_of_ble_eq_true rfl⟩) hv (isC := [0, 1, 2]) ⟨rfl, rfl⟩ (hv.recv 4 0 rfl rfl) [] [0, 1, 2] rfl rfl (by decide) rfl rfl rfl hl.1 rfl (Nat.le_of_ble_eq_true rfl) dX4_overlapping_7 ⟨Nat.le_of_ble_eq_true rfl, Nat.le_of_ble_eq_true rfl⟩ (fun H locs hv => ?_)
    cases hf
    exact kret _ _ _ _ hv dX4_overlapping_10

abbrev rm0_X4_roomOf : Room := { frames := 7, cells := 0, slots := 0, locals := 111 }
set_option maxHeartbeats 4000000 in
set_option maxRecDepth 100000 in
theorem c0_X4_roomOf (l : Launch) (G : va_G) (cy : ClassId × ClassId × ClassId) (k : Nat) (aT aT_begins aT_ends aT_weights aT_givenRooms aT_oneRoom aT_manyRooms aT_givenRooms_row aT_givenRooms_freeFrom aT_givenRooms_row_numbers aT_givenRooms_row_begins aT_givenRooms_row_ends aT_givenRooms_row_weights : Nat) (f_added : Int32) (f_presentSet : Int64) (f_factor : Int32) (f_offeredSet : Int64) (f_acceptedSet : Int64) (f_dropped : Int32) (A_begins : Nat → Int32) (A_ends : Nat → Int32) (A_weights : Nat → Int32) (f_givenRooms_row_byEnd : Int32) (f_givenRooms_row_count : Int32) (A_givenRooms_row_numbers : Nat → Int32) (A_givenRooms_row_begins : Nat → Int32) (A_givenRooms_row_ends : Nat → Int32) (A_givenRooms_row_weights : Nat → Int32) (A_givenRooms_freeFrom : Nat → Int32) (p1 : Int32) {r : Int32} {wf_givenRooms_row_count : Int32} {wA_givenRooms_row_numbers : Nat → Int32} {wA_givenRooms_row_begins : Nat → Int32} {wA_givenRooms_row_ends : Nat → Int32} {wA_givenRooms_row_weights : Nat → Int32} {wA_givenRooms_freeFrom : Nat → Int32} (hf : f_X4_roomOf k p1 f_added f_presentSet A_begins A_ends A_weights f_givenRooms_row_byEnd f_givenRooms_row_count A_givenRooms_row_numbers A_givenRooms_row_begins A_givenRooms_row_ends A_givenRooms_row_weights A_givenRooms_freeFrom = some (.ok (r, wf_givenRooms_row_count, wA_givenRooms_row_numbers, wA_givenRooms_row_begins, wA_givenRooms_row_ends, wA_givenRooms_row_weights, wA_givenRooms_freeFrom))) : Ci l yX4_roomOf wsX4_roomOf rm0_X4_roomOf 0 0 G cy [.ref aT, .int p1] [(aT, .inr (4, [.ref aT_begins, .ref aT_ends, .ref aT_weights, .int f_added, .long f_presentSet, .int f_factor, .long f_offeredSet, .long f_acceptedSet, .int f_dropped, .ref aT_givenRooms, .ref aT_oneRoom, .ref aT_manyRooms])), (aT_begins, .inl (cy.1, 40, .inl A_begins)), (aT_ends, .inl (cy.1, 40, .inl A_ends)), (aT_weights, .inl (cy.1, 40, .inl A_weights)), (aT_givenRooms, .inr (0, [.ref aT_givenRooms_row, .ref aT_givenRooms_freeFrom])), (aT_givenRooms_row, .inr (3, [.int f_givenRooms_row_byEnd, .ref aT_givenRooms_row_numbers, .ref aT_givenRooms_row_begins, .ref aT_givenRooms_row_ends, .ref aT_givenRooms_row_weights, .int f_givenRooms_row_count])), (aT_givenRooms_row_numbers, .inl (cy.1, 40, .inl A_givenRooms_row_numbers)), (aT_givenRooms_row_begins, .inl (cy.1, 40, .inl A_givenRooms_row_begins)), (aT_givenRooms_row_ends, .inl (cy.1, 40, .inl A_givenRooms_row_ends)), (aT_givenRooms_row_weights, .inl (cy.1, 40, .inl A_givenRooms_row_weights)), (aT_givenRooms_freeFrom, .inl (cy.1, 40, .inl A_givenRooms_freeFrom))] [(aT, .inr (4, [.ref aT_begins, .ref aT_ends, .ref aT_weights, .int f_added, .long f_presentSet, .int f_factor, .long f_offeredSet, .long f_acceptedSet, .int f_dropped, .ref aT_givenRooms, .ref aT_oneRoom, .ref aT_manyRooms])), (aT_begins, .inl (cy.1, 40, .inl A_begins)), (aT_ends, .inl (cy.1, 40, .inl A_ends)), (aT_weights, .inl (cy.1, 40, .inl A_weights)), (aT_givenRooms, .inr (0, [.ref aT_givenRooms_row, .ref aT_givenRooms_freeFrom])), (aT_givenRooms_row, .inr (3, [.int f_givenRooms_row_byEnd, .ref aT_givenRooms_row_numbers, .ref aT_givenRooms_row_begins, .ref aT_givenRooms_row_ends, .ref aT_givenRooms_row_weights, .int wf_givenRooms_row_count])), (aT_givenRooms_row_numbers, .inl (cy.1, 40, .inl wA_givenRooms_row_numbers)), (aT_givenRooms_row_begins, .inl (cy.1, 40, .inl wA_givenRooms_row_begins)), (aT_givenRooms_row_ends, .inl (cy.1, 40, .inl wA_givenRooms_row_ends)), (aT_givenRooms_row_weights, .inl (cy.1, 40, .inl wA_givenRooms_row_weights)), (aT_givenRooms_freeFrom, .inl (cy.1, 40, .inl wA_givenRooms_freeFrom))] r := by
  refine kMetI (cc := cX4_roomOf) (maxL := 2) (by decide) rfl (Nat.le_of_ble_eq_true rfl) ?_
  intro p e s m args below meth c Q A ls hx hb hml hts hown hv hl kret
  replace hown : s.vm.findClass RX4 = some m.cls := hown
  replace hl : lv_has ls 2 [(0, .ref aT), (1, .int p1)] := hl
  have hk26 : (Cond.fieldLink RX4 26 "Roomcolour" "givenRooms" "LRoomcolour$GivenRooms;").before args s = true := hts _ (by decide +kernel)
  have hinX4 : ∀ w ∈ wsX40, w ∈ wsX4_roomOf := by decide +kernel
  have hn100 : (Cond.fieldLinkNest RX4 100 "Roomcolour$GivenRooms" "row" "LRoomcolour$Row;" RX4).before args s = true := va_Nw.use rfl (hv.2.2.2.2.2.1 _ (by decide +kernel))
  have hinX0 : ∀ w ∈ wsX00, w ∈ wsX4_roomOf := by decide +kernel
  have hk61 : (Cond.fieldLink RX4 61 "Roomcolour" "presentSet" "J").before args s = true := hts _ (by decide +kernel)
  unfold f_X4_roomOf at hf
  refine lv_aload_n hx hb dX4_roomOf_0 rfl (lv_at hl 0 rfl) ?_
  refine lv_iload_n hx hb dX4_roomOf_1 rfl (lv_at hl 1 rfl) ?_
  rcases xe_some hf with ⟨E11, hcl1, hf⟩ | ⟨_, hcl1, hf⟩
  · cases hf
  · refine kV_v (wr := [(aT_begins, .inl (cy.1, 40, .inl A_begins)), (aT_ends, .inl (cy.1, 40, .inl A_ends)), (aT_weights, .inl (cy.1, 40, .inl A_weights)), (aT_givenRooms, .inr (0, [.ref aT_givenRooms_row, .ref aT_givenRooms_freeFrom])), (aT_givenRooms_row, .inr (3, [.int f_givenRooms_row_byEnd, .ref aT_givenRooms_row_numbers, .ref aT_givenRooms_row_begins, .ref aT_givenRooms_row_ends, .ref aT_givenRooms_row_weights, .int f_givenRooms_row_count])), (aT_givenRooms_row_numbers, .inl (cy.1, 40, .inl A_givenRooms_row_numbers)), (aT_givenRooms_row_begins, .inl (cy.1, 40, .inl A_givenRooms_row_begins)), (aT_givenRooms_row_ends, .inl (cy.1, 40, .inl A_givenRooms_row_ends)), (aT_givenRooms_row_weights, .inl (cy.1, 40, .inl A_givenRooms_row_weights)), (aT_givenRooms_freeFrom, .inl (cy.1, 40, .inl A_givenRooms_freeFrom))]) (w2 := [(aT, .inr (4, [.ref aT_begins, .ref aT_ends, .ref aT_weights, .int f_added, .long f_presentSet, .int f_factor, .long f_offeredSet, .long f_acceptedSet, .int f_dropped, .ref aT_givenRooms, .ref aT_oneRoom, .ref aT_manyRooms])), (aT_begins, .inl (cy.1, 40, .inl A_begins)), (aT_ends, .inl (cy.1, 40, .inl A_ends)), (aT_weights, .inl (cy.1, 40, .inl A_weights)), (aT_givenRooms, .inr (0, [.ref aT_givenRooms_row, .ref aT_givenRooms_freeFrom])), (aT_givenRooms_row, .inr (3, [.int f_givenRooms_row_byEnd, .ref aT_givenRooms_row_numbers, .ref aT_givenRooms_row_begins, .ref aT_givenRooms_row_ends, .ref aT_givenRooms_row_weights, .int f_givenRooms_row_count])), (aT_givenRooms_row_numbers, .inl (cy.1, 40, .inl A_givenRooms_row_numbers)), (aT_givenRooms_row_begins, .inl (cy.1, 40, .inl A_givenRooms_row_begins)), (aT_givenRooms_row_ends, .inl (cy.1, 40, .inl A_givenRooms_row_ends)), (aT_givenRooms_row_weights, .inl (cy.1, 40, .inl A_givenRooms_row_weights)), (aT_givenRooms_freeFrom, .inl (cy.1, 40, .inl A_givenRooms_freeFrom))]) ⟨hx, hb, hml, hown, hts⟩ (c0_X4_requireThere l G cy k aT aT_begins aT_ends aT_weights aT_givenRooms aT_oneRoom aT_manyRooms f_added f_presentSet f_factor f_offeredSet f_acceptedSet f_dropped p1 hcl1) (cwV 1 hts gX4_roomOf_X4_requireThere rfl rfl rfl (by decide +kernel) ⟨Nat.le_of_ble_eq_true rfl, Nat.le_of_ble_eq_true rfl⟩) hv (isC := [0]) ⟨rfl, rfl⟩ (hv.recv 4 0 rfl rfl) [1, 2, 3, 4, 5, 6, 7, 8, 9, 10] [10, 0, 1, 2, 3, 4, 5, 6, 7, 8, 9] rfl rfl (by decide) rfl rfl rfl hl.1 rfl (Nat.le_of_ble_eq_true rfl) dX4_roomOf_2 ⟨Nat.le_of_ble_eq_true rfl, Nat.le_of_ble_eq_true rfl⟩ (fun H locs hv => ?_)
    refine lv_aload_n hx hb dX4_roomOf_5 rfl (lv_at hl 0 rfl) ?_
    refine lv_aload_n hx hb dX4_roomOf_6 rfl (lv_at hl 0 rfl) ?_
    refine kGet (v := .ref aT_givenRooms) (C := RX4) (T := TX4) (N := 12) hx hb hts hinX4 hown hv 0 rfl rfl 9 (by decide) hk26 (fun _ h9 => h9) rfl dX4_roomOf_7 ?_
    refine kGetN (v := .ref aT_givenRooms_row) (C := RX0) (T := TX0) (N := 2) hx hb hts hinX0 hown hv 4 rfl rfl 0 (by decide) hn100 (fun _ h9 => h9) rfl dX4_roomOf_10 ?_
    refine lv_aload_n hx hb dX4_roomOf_13 rfl (lv_at hl 0 rfl) ?_
    refine kGet (v := .long f_presentSet) (C := RX4) (T := TX4) (N := 12) hx hb hts hinX4 hown hv 0 rfl rfl 4 (by decide) hk61 (fun _ h9 => h9) rfl dX4_roomOf_14 ?_
    obtain ⟨⟨f_givenRooms_row_count_2, A_givenRooms_row_numbers_3, A_givenRooms_row_begins_4, A_givenRooms_row_ends_5, A_givenRooms_row_weights_6⟩, hcl7, hf⟩ := xb_some hf
    dsimp only at hf
    refine kV_v (wr := [(aT_givenRooms, .inr (0, [.ref aT_givenRooms_row, .ref aT_givenRooms_freeFrom])), (aT_givenRooms_freeFrom, .inl (cy.1, 40, .inl A_givenRooms_freeFrom))]) (w2 := [(aT, .inr (4, [.ref aT_begins, .ref aT_ends, .ref aT_weights, .int f_added, .long f_presentSet, .int f_factor, .long f_offeredSet, .long f_acceptedSet, .int f_dropped, .ref aT_givenRooms, .ref aT_oneRoom, .ref aT_manyRooms])), (aT_begins, .inl (cy.1, 40, .inl A_begins)), (aT_ends, .inl (cy.1, 40, .inl A_ends)), (aT_weights, .inl (cy.1, 40, .inl A_weights)), (aT_givenRooms, .inr (0, [.ref aT_givenRooms_row, .ref aT_givenRooms_freeFrom])), (aT_givenRooms_row, .inr (3, [.int f_givenRooms_row_byEnd, .ref aT_givenRooms_row_numbers, .ref aT_givenRooms_row_begins, .ref aT_givenRooms_row_ends, .ref aT_givenRooms_row_weights, .int f_givenRooms_row_count_2])), (aT_givenRooms_row_numbers, .inl (cy.1, 40, .inl A_givenRooms_row_numbers_3)), (aT_givenRooms_row_begins, .inl (cy.1, 40, .inl A_givenRooms_row_begins_4)), (aT_givenRooms_row_ends, .inl (cy.1, 40, .inl A_givenRooms_row_ends_5)), (aT_givenRooms_row_weights, .inl (cy.1, 40, .inl A_givenRooms_row_weights_6)), (aT_givenRooms_freeFrom, .inl (cy.1, 40, .inl A_givenRooms_freeFrom))]) ⟨hx, hb, hml, hown, hts⟩ (c_X4_fill l G cy k aT aT_begins aT_ends aT_weights aT_givenRooms aT_oneRoom aT_manyRooms aT_givenRooms_row aT_givenRooms_row_numbers aT_givenRooms_row_begins aT_givenRooms_row_ends aT_givenRooms_row_weights f_added f_presentSet f_factor f_offeredSet f_acceptedSet f_dropped A_begins A_ends A_weights f_givenRooms_row_byEnd f_givenRooms_row_count A_givenRooms_row_numbers A_givenRooms_row_begins A_givenRooms_row_ends A_givenRooms_row_weights f_presentSet hcl7) (cwV 2 hts gX4_roomOf_X4_fill rfl rfl rfl (by decide +kernel) ⟨Nat.le_of_ble_eq_true rfl, Nat.le_of_ble_eq_true rfl⟩) hv (isC := [0, 1, 2, 3, 5, 6, 7, 8, 9]) ⟨rfl, rfl⟩ (hv.recv 4 0 rfl rfl) [4, 10] [2, 3, 4, 5, 0, 6, 7, 8, 9, 10, 1] rfl rfl (by decide) rfl rfl rfl hl.1 rfl (Nat.le_of_ble_eq_true rfl) dX4_roomOf_17 ⟨Nat.le_of_ble_eq_true rfl, Nat.le_of_ble_eq_true rfl⟩ (fun H locs hv => ?_)
    refine lv_aload_n hx hb dX4_roomOf_20 rfl (lv_at hl 0 rfl) ?_
    refine kGet (v := .ref aT_givenRooms) (C := RX4) (T := TX4) (N := 12) hx hb hts hinX4 hown hv 0 rfl rfl 9 (by decide) hk26 (fun _ h9 => h9) rfl dX4_roomOf_21 ?_
    refine lv_iload_n hx hb dX4_roomOf_24 rfl (lv_at hl 1 rfl) ?_
    obtain ⟨⟨r8, A_givenRooms_freeFrom_9⟩, hcl10, hf⟩ := xb_some hf
    dsimp only at hf
    refine kV_i (r := r8) (wr := [(aT, .inr (4, [.ref aT_begins, .ref aT_ends, .ref aT_weights, .int f_added, .long f_presentSet, .int f_factor, .long f_offeredSet, .long f_acceptedSet, .int f_dropped, .ref aT_givenRooms, .ref aT_oneRoom, .ref aT_manyRooms])), (aT_begins, .inl (cy.1, 40, .inl A_begins)), (aT_ends, .inl (cy.1, 40, .inl A_ends)), (aT_weights, .inl (cy.1, 40, .inl A_weights)), (aT_givenRooms_row_weights, .inl (cy.1, 40, .inl A_givenRooms_row_weights_6))]) (w2 := [(aT, .inr (4, [.ref aT_begins, .ref aT_ends, .ref aT_weights, .int f_added, .long f_presentSet, .int f_factor, .long f_offeredSet, .long f_acceptedSet, .int f_dropped, .ref aT_givenRooms, .ref aT_oneRoom, .ref aT_manyRooms])), (aT_begins, .inl (cy.1, 40, .inl A_begins)), (aT_ends, .inl (cy.1, 40, .inl A_ends)), (aT_weights, .inl (cy.1, 40, .inl A_weights)), (aT_givenRooms, .inr (0, [.ref aT_givenRooms_row, .ref aT_givenRooms_freeFrom])), (aT_givenRooms_row, .inr (3, [.int f_givenRooms_row_byEnd, .ref aT_givenRooms_row_numbers, .ref aT_givenRooms_row_begins, .ref aT_givenRooms_row_ends, .ref aT_givenRooms_row_weights, .int f_givenRooms_row_count_2])), (aT_givenRooms_row_numbers, .inl (cy.1, 40, .inl A_givenRooms_row_numbers_3)), (aT_givenRooms_row_begins, .inl (cy.1, 40, .inl A_givenRooms_row_begins_4)), (aT_givenRooms_row_ends, .inl (cy.1, 40, .inl A_givenRooms_row_ends_5)), (aT_givenRooms_row_weights, .inl (cy.1, 40, .inl A_givenRooms_row_weights_6)), (aT_givenRooms_freeFrom, .inl (cy.1, 40, .inl A_givenRooms_freeFrom_9))]) ⟨hx, hb, hml, hown, hts⟩ (c_X0_givenTo l G cy k aT_givenRooms aT_givenRooms_row aT_givenRooms_freeFrom aT_givenRooms_row_numbers aT_givenRooms_row_begins aT_givenRooms_row_ends aT_givenRooms_row_weights f_givenRooms_row_byEnd f_givenRooms_row_count_2 A_givenRooms_row_numbers_3 A_givenRooms_row_begins_4 A_givenRooms_row_ends_5 A_givenRooms_freeFrom p1 hcl10) (cwV 1 hts gX4_roomOf_X0_givenTo rfl rfl rfl (by decide +kernel) ⟨Nat.le_of_ble_eq_true rfl, Nat.le_of_ble_eq_true rfl⟩) hv (isC := [4, 5, 6, 7, 8, 10]) ⟨rfl, rfl⟩ (hv.recv 0 4 rfl rfl) [0, 1, 2, 3, 9] [0, 1, 2, 3, 5, 6, 7, 8, 9, 4, 10] rfl rfl (by decide) rfl rfl rfl hl.1 rfl (Nat.le_of_ble_eq_true rfl) dX4_roomOf_25 ⟨Nat.le_of_ble_eq_true rfl, Nat.le_of_ble_eq_true rfl⟩ (fun H locs hv => ?_)
    cases hf
    exact kret _ _ _ _ hv dX4_roomOf_28

abbrev rm0_X4_depth : Room := { frames := 6, cells := 0, slots := 0, locals := 90 }
set_option maxHeartbeats 4000000 in
set_option maxRecDepth 100000 in
theorem c0_X4_depth (l : Launch) (G : va_G) (cy : ClassId × ClassId × ClassId) (k : Nat) (aT aT_begins aT_ends aT_weights aT_givenRooms aT_oneRoom aT_manyRooms : Nat) (f_added : Int32) (f_presentSet : Int64) (f_factor : Int32) (f_offeredSet : Int64) (f_acceptedSet : Int64) (f_dropped : Int32) (A_begins : Nat → Int32) (A_ends : Nat → Int32) (p1 : Int32) {r : Int32} (hf : f_X4_depth k p1 f_added f_presentSet A_begins A_ends = some (.ok r)) : Ci l yX4_depth wsX4_depth rm0_X4_depth 0 0 G cy [.ref aT, .int p1] [(aT, .inr (4, [.ref aT_begins, .ref aT_ends, .ref aT_weights, .int f_added, .long f_presentSet, .int f_factor, .long f_offeredSet, .long f_acceptedSet, .int f_dropped, .ref aT_givenRooms, .ref aT_oneRoom, .ref aT_manyRooms])), (aT_begins, .inl (cy.1, 40, .inl A_begins)), (aT_ends, .inl (cy.1, 40, .inl A_ends))] [(aT, .inr (4, [.ref aT_begins, .ref aT_ends, .ref aT_weights, .int f_added, .long f_presentSet, .int f_factor, .long f_offeredSet, .long f_acceptedSet, .int f_dropped, .ref aT_givenRooms, .ref aT_oneRoom, .ref aT_manyRooms])), (aT_begins, .inl (cy.1, 40, .inl A_begins)), (aT_ends, .inl (cy.1, 40, .inl A_ends))] r := by
  refine kMetI (cc := cX4_depth) (maxL := 2) (by decide) rfl (Nat.le_of_ble_eq_true rfl) ?_
  intro p e s m args below meth c Q A ls hx hb hml hts hown hv hl kret
  replace hown : s.vm.findClass RX4 = some m.cls := hown
  replace hl : lv_has ls 2 [(0, .ref aT), (1, .int p1)] := hl
  unfold f_X4_depth at hf
  refine lv_iload_n hx hb dX4_depth_0 rfl (lv_at hl 1 rfl) ?_
  refine lv_if_lt (tgt := 11) hx hb dX4_depth_1 (by decide) (fun hc1 => ?_) (fun hc1 => ?_)
  · replace hf := ite_t hf hc1
    cases hf
  · replace hf := ite_f hf hc1
    refine lv_iload_n hx hb dX4_depth_4 rfl (lv_at hl 1 rfl) ?_
    refine lv_sipush (v := 1000) hx hb dX4_depth_5 (by decide) ?_
    refine lv_icmp_le (tgt := 21) hx hb dX4_depth_8 (by decide) (fun hc2 => ?_) (fun hc2 => ?_)
    · replace hf := ite_t hf hc2
      refine lv_aload_n hx hb dX4_depth_21 rfl (lv_at hl 0 rfl) ?_
      refine lv_iload_n hx hb dX4_depth_22 rfl (lv_at hl 1 rfl) ?_
      obtain ⟨r3, hcl4, hf⟩ := xb_some hf
      refine kV_i (r := r3) (wr := []) (w2 := [(aT, .inr (4, [.ref aT_begins, .ref aT_ends, .ref aT_weights, .int f_added, .long f_presentSet, .int f_factor, .long f_offeredSet, .long f_acceptedSet, .int f_dropped, .ref aT_givenRooms, .ref aT_oneRoom, .ref aT_manyRooms])), (aT_begins, .inl (cy.1, 40, .inl A_begins)), (aT_ends, .inl (cy.1, 40, .inl A_ends))]) ⟨hx, hb, hml, hown, hts⟩ (c_X4_depthAt l G cy k aT aT_begins aT_ends aT_weights aT_givenRooms aT_oneRoom aT_manyRooms f_added f_presentSet f_factor f_offeredSet f_acceptedSet f_dropped A_begins A_ends p1 hcl4) (cwV 1 hts gX4_depth_X4_depthAt rfl rfl rfl (by decide +kernel) ⟨Nat.le_of_ble_eq_true rfl, Nat.le_of_ble_eq_true rfl⟩) hv (isC := [0, 1, 2]) ⟨rfl, rfl⟩ (hv.recv 4 0 rfl rfl) [] [0, 1, 2] rfl rfl (by decide) rfl rfl rfl hl.1 rfl (Nat.le_of_ble_eq_true rfl) dX4_depth_23 ⟨Nat.le_of_ble_eq_true rfl, Nat.le_of_ble_eq_true rfl⟩ (fun H locs hv => ?_)
      cases hf
      exact kret _ _ _ _ hv dX4_depth_26
    · replace hf := ite_f hf hc2
      cases hf

abbrev rm0_X4_earliest : Room := { frames := 6, cells := 0, slots := 0, locals := 115 }
set_option maxHeartbeats 4000000 in
set_option maxRecDepth 100000 in
theorem c0_X4_earliest (l : Launch) (G : va_G) (cy : ClassId × ClassId × ClassId) (k : Nat) (aT aT_begins aT_ends aT_weights aT_givenRooms aT_oneRoom aT_manyRooms : Nat) (f_added : Int32) (f_presentSet : Int64) (f_factor : Int32) (f_offeredSet : Int64) (f_acceptedSet : Int64) (f_dropped : Int32) (A_begins : Nat → Int32) (A_ends : Nat → Int32) (p1 : Int32) (p2 : Int32) {r : Int32} (hf : f_X4_earliest k p1 p2 f_added f_presentSet A_begins A_ends = some (.ok r)) : Ci l yX4_earliest wsX4_earliest rm0_X4_earliest 0 0 G cy [.ref aT, .int p1, .int p2] [(aT, .inr (4, [.ref aT_begins, .ref aT_ends, .ref aT_weights, .int f_added, .long f_presentSet, .int f_factor, .long f_offeredSet, .long f_acceptedSet, .int f_dropped, .ref aT_givenRooms, .ref aT_oneRoom, .ref aT_manyRooms])), (aT_begins, .inl (cy.1, 40, .inl A_begins)), (aT_ends, .inl (cy.1, 40, .inl A_ends))] [(aT, .inr (4, [.ref aT_begins, .ref aT_ends, .ref aT_weights, .int f_added, .long f_presentSet, .int f_factor, .long f_offeredSet, .long f_acceptedSet, .int f_dropped, .ref aT_givenRooms, .ref aT_oneRoom, .ref aT_manyRooms])), (aT_begins, .inl (cy.1, 40, .inl A_begins)), (aT_ends, .inl (cy.1, 40, .inl A_ends))] r := by
  refine kMetI (cc := cX4_earliest) (maxL := 3) (by decide) rfl (Nat.le_of_ble_eq_true rfl) ?_
  intro p e s m args below meth c Q A ls hx hb hml hts hown hv hl kret
  replace hown : s.vm.findClass RX4 = some m.cls := hown
  replace hl : lv_has ls 3 [(0, .ref aT), (1, .int p1), (2, .int p2)] := hl
  unfold f_X4_earliest at hf
  refine lv_iload_n hx hb dX4_earliest_0 rfl (lv_at hl 1 rfl) ?_
  refine lv_iconst (v := 1) hx hb dX4_earliest_1 (by decide) ?_
  refine lv_icmp_lt (tgt := 12) hx hb dX4_earliest_2 (by decide) (fun hc1 => ?_) (fun hc1 => ?_)
  · replace hf := ite_t hf hc1
    cases hf
  · replace hf := ite_f hf hc1
    refine lv_iload_n hx hb dX4_earliest_5 rfl (lv_at hl 1 rfl) ?_
    refine lv_sipush (v := 1000) hx hb dX4_earliest_6 (by decide) ?_
    refine lv_icmp_le (tgt := 22) hx hb dX4_earliest_9 (by decide) (fun hc2 => ?_) (fun hc2 => ?_)
    · replace hf := ite_t hf hc2
      refine lv_iload_n hx hb dX4_earliest_22 rfl (lv_at hl 2 rfl) ?_
      refine lv_iconst (v := 1) hx hb dX4_earliest_23 (by decide) ?_
      refine lv_icmp_lt (tgt := 33) hx hb dX4_earliest_24 (by decide) (fun hc3 => ?_) (fun hc3 => ?_)
      · replace hf := ite_t hf hc3
        cases hf
      · replace hf := ite_f hf hc3
        refine lv_iload_n hx hb dX4_earliest_27 rfl (lv_at hl 2 rfl) ?_
        refine lv_bipush (v := 40) hx hb dX4_earliest_28 (by decide) ?_
        refine lv_icmp_le (tgt := 43) hx hb dX4_earliest_30 (by decide) (fun hc4 => ?_) (fun hc4 => ?_)
        · replace hf := ite_t hf hc4
          refine lv_aload_n hx hb dX4_earliest_43 rfl (lv_at hl 0 rfl) ?_
          refine lv_iconst (v := 0) hx hb dX4_earliest_44 (by decide) ?_
          refine lv_iload_n hx hb dX4_earliest_45 rfl (lv_at hl 1 rfl) ?_
          refine lv_iload_n hx hb dX4_earliest_46 rfl (lv_at hl 2 rfl) ?_
          obtain ⟨r5, hcl6, hf⟩ := xb_some hf
          refine kV_i (r := r5) (wr := []) (w2 := [(aT, .inr (4, [.ref aT_begins, .ref aT_ends, .ref aT_weights, .int f_added, .long f_presentSet, .int f_factor, .long f_offeredSet, .long f_acceptedSet, .int f_dropped, .ref aT_givenRooms, .ref aT_oneRoom, .ref aT_manyRooms])), (aT_begins, .inl (cy.1, 40, .inl A_begins)), (aT_ends, .inl (cy.1, 40, .inl A_ends))]) ⟨hx, hb, hml, hown, hts⟩ (c_X4_fits l G cy k aT aT_begins aT_ends aT_weights aT_givenRooms aT_oneRoom aT_manyRooms f_added f_presentSet f_factor f_offeredSet f_acceptedSet f_dropped A_begins A_ends 0 p1 p2 hcl6) (cwV 3 hts gX4_earliest_X4_fits rfl rfl rfl (by decide +kernel) ⟨Nat.le_of_ble_eq_true rfl, Nat.le_of_ble_eq_true rfl⟩) hv (isC := [0, 1, 2]) ⟨rfl, rfl⟩ (hv.recv 4 0 rfl rfl) [] [0, 1, 2] rfl rfl (by decide) rfl rfl rfl hl.1 rfl (Nat.le_of_ble_eq_true rfl) dX4_earliest_47 ⟨Nat.le_of_ble_eq_true rfl, Nat.le_of_ble_eq_true rfl⟩ (fun H locs hv => ?_)
          refine lv_if_eq (tgt := 55) hx hb dX4_earliest_50 (by decide) (fun hc7 => ?_) (fun hc7 => ?_)
          · replace hf := ite_t hf hc7
            refine lv_aload_n hx hb dX4_earliest_55 rfl (lv_at hl 0 rfl) ?_
            refine lv_iload_n hx hb dX4_earliest_56 rfl (lv_at hl 1 rfl) ?_
            refine lv_iload_n hx hb dX4_earliest_57 rfl (lv_at hl 2 rfl) ?_
            obtain ⟨r8, hcl9, hf⟩ := xb_some hf
            refine kV_i (r := r8) (wr := []) (w2 := [(aT, .inr (4, [.ref aT_begins, .ref aT_ends, .ref aT_weights, .int f_added, .long f_presentSet, .int f_factor, .long f_offeredSet, .long f_acceptedSet, .int f_dropped, .ref aT_givenRooms, .ref aT_oneRoom, .ref aT_manyRooms])), (aT_begins, .inl (cy.1, 40, .inl A_begins)), (aT_ends, .inl (cy.1, 40, .inl A_ends))]) ⟨hx, hb, hml, hown, hts⟩ (c_X4_earliestEndThatFits l G cy k aT aT_begins aT_ends aT_weights aT_givenRooms aT_oneRoom aT_manyRooms f_added f_presentSet f_factor f_offeredSet f_acceptedSet f_dropped A_begins A_ends p1 p2 hcl9) (cwV 2 hts gX4_earliest_X4_earliestEndThatFits rfl rfl rfl (by decide +kernel) ⟨Nat.le_of_ble_eq_true rfl, Nat.le_of_ble_eq_true rfl⟩) hv (isC := [0, 1, 2]) ⟨rfl, rfl⟩ (hv.recv 4 0 rfl rfl) [] [0, 1, 2] rfl rfl (by decide) rfl rfl rfl hl.1 rfl (Nat.le_of_ble_eq_true rfl) dX4_earliest_58 ⟨Nat.le_of_ble_eq_true rfl, Nat.le_of_ble_eq_true rfl⟩ (fun H locs hv => ?_)
            cases hf
            exact kret _ _ _ _ hv dX4_earliest_61
          · replace hf := ite_f hf hc7
            refine lv_iconst (v := 0) hx hb dX4_earliest_53 (by decide) ?_
            cases hf
            exact kret _ _ _ _ hv dX4_earliest_54
        · replace hf := ite_f hf hc4
          cases hf
    · replace hf := ite_f hf hc2
      cases hf

abbrev rm0_X4_heaviestIn : Room := { frames := 7, cells := 0, slots := 0, locals := 114 }
set_option maxHeartbeats 4000000 in
set_option maxRecDepth 100000 in
theorem c0_X4_heaviestIn (l : Launch) (G : va_G) (cy : ClassId × ClassId × ClassId) (k : Nat) (aT aT_begins aT_ends aT_weights aT_givenRooms aT_oneRoom aT_manyRooms aT_manyRooms_row aT_manyRooms_stopAfter aT_manyRooms_taken aT_manyRooms_waiting aT_manyRooms_gain aT_manyRooms_cameFrom aT_manyRooms_cameByTaking aT_manyRooms_row_numbers aT_manyRooms_row_begins aT_manyRooms_row_ends aT_manyRooms_row_weights : Nat) (f_added : Int32) (f_presentSet : Int64) (f_factor : Int32) (f_offeredSet : Int64) (f_acceptedSet : Int64) (f_dropped : Int32) (A_begins : Nat → Int32) (A_ends : Nat → Int32) (A_weights : Nat → Int32) (f_manyRooms_row_byEnd : Int32) (f_manyRooms_row_count : Int32) (A_manyRooms_row_numbers : Nat → Int32) (A_manyRooms_row_begins : Nat → Int32) (A_manyRooms_row_ends : Nat → Int32) (A_manyRooms_row_weights : Nat → Int32) (A_manyRooms_stopAfter : Nat → Int32) (A_manyRooms_taken : Nat → Int32) (A_manyRooms_waiting : Nat → Int32) (A_manyRooms_gain : Nat → Int32) (A_manyRooms_cameFrom : Nat → Int32) (A_manyRooms_cameByTaking : Nat → Int32) (p1 : Int32) {r : Int32} {wf_manyRooms_row_count : Int32} {wA_manyRooms_row_numbers : Nat → Int32} {wA_manyRooms_row_begins : Nat → Int32} {wA_manyRooms_row_ends : Nat → Int32} {wA_manyRooms_row_weights : Nat → Int32} {wA_manyRooms_stopAfter : Nat → Int32} {wA_manyRooms_taken : Nat → Int32} {wA_manyRooms_waiting : Nat → Int32} {wA_manyRooms_gain : Nat → Int32} {wA_manyRooms_cameFrom : Nat → Int32} {wA_manyRooms_cameByTaking : Nat → Int32} (hf : f_X4_heaviestIn k p1 f_added f_presentSet A_begins A_ends A_weights f_manyRooms_row_byEnd f_manyRooms_row_count A_manyRooms_row_numbers A_manyRooms_row_begins A_manyRooms_row_ends A_manyRooms_row_weights A_manyRooms_stopAfter A_manyRooms_taken A_manyRooms_waiting A_manyRooms_gain A_manyRooms_cameFrom A_manyRooms_cameByTaking = some (.ok (r, wf_manyRooms_row_count, wA_manyRooms_row_numbers, wA_manyRooms_row_begins, wA_manyRooms_row_ends, wA_manyRooms_row_weights, wA_manyRooms_stopAfter, wA_manyRooms_taken, wA_manyRooms_waiting, wA_manyRooms_gain, wA_manyRooms_cameFrom, wA_manyRooms_cameByTaking))) : Ci l yX4_heaviestIn wsX4_heaviestIn rm0_X4_heaviestIn 0 0 G cy [.ref aT, .int p1] [(aT, .inr (4, [.ref aT_begins, .ref aT_ends, .ref aT_weights, .int f_added, .long f_presentSet, .int f_factor, .long f_offeredSet, .long f_acceptedSet, .int f_dropped, .ref aT_givenRooms, .ref aT_oneRoom, .ref aT_manyRooms])), (aT_begins, .inl (cy.1, 40, .inl A_begins)), (aT_ends, .inl (cy.1, 40, .inl A_ends)), (aT_weights, .inl (cy.1, 40, .inl A_weights)), (aT_manyRooms, .inr (1, [.ref aT_manyRooms_row, .ref aT_manyRooms_stopAfter, .ref aT_manyRooms_taken, .ref aT_manyRooms_waiting, .ref aT_manyRooms_gain, .ref aT_manyRooms_cameFrom, .ref aT_manyRooms_cameByTaking])), (aT_manyRooms_row, .inr (3, [.int f_manyRooms_row_byEnd, .ref aT_manyRooms_row_numbers, .ref aT_manyRooms_row_begins, .ref aT_manyRooms_row_ends, .ref aT_manyRooms_row_weights, .int f_manyRooms_row_count])), (aT_manyRooms_row_numbers, .inl (cy.1, 40, .inl A_manyRooms_row_numbers)), (aT_manyRooms_row_begins, .inl (cy.1, 40, .inl A_manyRooms_row_begins)), (aT_manyRooms_row_ends, .inl (cy.1, 40, .inl A_manyRooms_row_ends)), (aT_manyRooms_row_weights, .inl (cy.1, 40, .inl A_manyRooms_row_weights)), (aT_manyRooms_stopAfter, .inl (cy.1, 40, .inl A_manyRooms_stopAfter)), (aT_manyRooms_taken, .inl (cy.2.1, 40, .inl A_manyRooms_taken)), (aT_manyRooms_waiting, .inl (cy.1, 40, .inl A_manyRooms_waiting)), (aT_manyRooms_gain, .inl (cy.1, 41, .inl A_manyRooms_gain)), (aT_manyRooms_cameFrom, .inl (cy.1, 41, .inl A_manyRooms_cameFrom)), (aT_manyRooms_cameByTaking, .inl (cy.2.1, 41, .inl A_manyRooms_cameByTaking))] [(aT, .inr (4, [.ref aT_begins, .ref aT_ends, .ref aT_weights, .int f_added, .long f_presentSet, .int f_factor, .long f_offeredSet, .long f_acceptedSet, .int f_dropped, .ref aT_givenRooms, .ref aT_oneRoom, .ref aT_manyRooms])), (aT_begins, .inl (cy.1, 40, .inl A_begins)), (aT_ends, .inl (cy.1, 40, .inl A_ends)), (aT_weights, .inl (cy.1, 40, .inl A_weights)), (aT_manyRooms, .inr (1, [.ref aT_manyRooms_row, .ref aT_manyRooms_stopAfter, .ref aT_manyRooms_taken, .ref aT_manyRooms_waiting, .ref aT_manyRooms_gain, .ref aT_manyRooms_cameFrom, .ref aT_manyRooms_cameByTaking])), (aT_manyRooms_row, .inr (3, [.int f_manyRooms_row_byEnd, .ref aT_manyRooms_row_numbers, .ref aT_manyRooms_row_begins, .ref aT_manyRooms_row_ends, .ref aT_manyRooms_row_weights, .int wf_manyRooms_row_count])), (aT_manyRooms_row_numbers, .inl (cy.1, 40, .inl wA_manyRooms_row_numbers)), (aT_manyRooms_row_begins, .inl (cy.1, 40, .inl wA_manyRooms_row_begins)), (aT_manyRooms_row_ends, .inl (cy.1, 40, .inl wA_manyRooms_row_ends)), (aT_manyRooms_row_weights, .inl (cy.1, 40, .inl wA_manyRooms_row_weights)), (aT_manyRooms_stopAfter, .inl (cy.1, 40, .inl wA_manyRooms_stopAfter)), (aT_manyRooms_taken, .inl (cy.2.1, 40, .inl wA_manyRooms_taken)), (aT_manyRooms_waiting, .inl (cy.1, 40, .inl wA_manyRooms_waiting)), (aT_manyRooms_gain, .inl (cy.1, 41, .inl wA_manyRooms_gain)), (aT_manyRooms_cameFrom, .inl (cy.1, 41, .inl wA_manyRooms_cameFrom)), (aT_manyRooms_cameByTaking, .inl (cy.2.1, 41, .inl wA_manyRooms_cameByTaking))] r := by
  refine kMetI (cc := cX4_heaviestIn) (maxL := 2) (by decide) rfl (Nat.le_of_ble_eq_true rfl) ?_
  intro p e s m args below meth c Q A ls hx hb hml hts hown hv hl kret
  replace hown : s.vm.findClass RX4 = some m.cls := hown
  replace hl : lv_has ls 2 [(0, .ref aT), (1, .int p1)] := hl
  have hk61 : (Cond.fieldLink RX4 61 "Roomcolour" "presentSet" "J").before args s = true := hts _ (by decide +kernel)
  have hinX4 : ∀ w ∈ wsX40, w ∈ wsX4_heaviestIn := by decide +kernel
  unfold f_X4_heaviestIn at hf
  refine lv_iload_n hx hb dX4_heaviestIn_0 rfl (lv_at hl 1 rfl) ?_
  rcases xe_some hf with ⟨E15, hcl1, hf⟩ | ⟨_, hcl1, hf⟩
  · cases hf
  · refine kS_v ⟨hx, hb, hml, hown, hts⟩ (c0_X4_requirePlannedRooms l G cy k p1 hcl1) (va_cwS 1 hts gX4_heaviestIn_X4_requirePlannedRooms rfl rfl rfl (by decide +kernel) ⟨Nat.le_of_ble_eq_true rfl, Nat.le_of_ble_eq_true rfl⟩) hv rfl hl.1 rfl (Nat.le_of_ble_eq_true rfl) dX4_heaviestIn_1 ⟨Nat.le_of_ble_eq_true rfl, Nat.le_of_ble_eq_true rfl⟩ (fun H locs hv => ?_)
    refine lv_aload_n hx hb dX4_heaviestIn_4 rfl (lv_at hl 0 rfl) ?_
    refine lv_aload_n hx hb dX4_heaviestIn_5 rfl (lv_at hl 0 rfl) ?_
    refine kGet (v := .long f_presentSet) (C := RX4) (T := TX4) (N := 12) hx hb hts hinX4 hown hv 0 rfl rfl 4 (by decide) hk61 (fun _ h9 => h9) rfl dX4_heaviestIn_6 ?_
    refine lv_iload_n hx hb dX4_heaviestIn_9 rfl (lv_at hl 1 rfl) ?_
    obtain ⟨⟨r2, f_manyRooms_row_count_3, A_manyRooms_row_numbers_4, A_manyRooms_row_begins_5, A_manyRooms_row_ends_6, A_manyRooms_row_weights_7, A_manyRooms_stopAfter_8, A_manyRooms_taken_9, A_manyRooms_waiting_10, A_manyRooms_gain_11, A_manyRooms_cameFrom_12, A_manyRooms_cameByTaking_13⟩, hcl14, hf⟩ := xb_some hf
    dsimp only at hf
    refine kV_i (r := r2) (wr := []) (w2 := [(aT, .inr (4, [.ref aT_begins, .ref aT_ends, .ref aT_weights, .int f_added, .long f_presentSet, .int f_factor, .long f_offeredSet, .long f_acceptedSet, .int f_dropped, .ref aT_givenRooms, .ref aT_oneRoom, .ref aT_manyRooms])), (aT_begins, .inl (cy.1, 40, .inl A_begins)), (aT_ends, .inl (cy.1, 40, .inl A_ends)), (aT_weights, .inl (cy.1, 40, .inl A_weights)), (aT_manyRooms, .inr (1, [.ref aT_manyRooms_row, .ref aT_manyRooms_stopAfter, .ref aT_manyRooms_taken, .ref aT_manyRooms_waiting, .ref aT_manyRooms_gain, .ref aT_manyRooms_cameFrom, .ref aT_manyRooms_cameByTaking])), (aT_manyRooms_row, .inr (3, [.int f_manyRooms_row_byEnd, .ref aT_manyRooms_row_numbers, .ref aT_manyRooms_row_begins, .ref aT_manyRooms_row_ends, .ref aT_manyRooms_row_weights, .int f_manyRooms_row_count_3])), (aT_manyRooms_row_numbers, .inl (cy.1, 40, .inl A_manyRooms_row_numbers_4)), (aT_manyRooms_row_begins, .inl (cy.1, 40, .inl A_manyRooms_row_begins_5)), (aT_manyRooms_row_ends, .inl (cy.1, 40, .inl A_manyRooms_row_ends_6)), (aT_manyRooms_row_weights, .inl (cy.1, 40, .inl A_manyRooms_row_weights_7)), (aT_manyRooms_stopAfter, .inl (cy.1, 40, .inl A_manyRooms_stopAfter_8)), (aT_manyRooms_taken, .inl (cy.2.1, 40, .inl A_manyRooms_taken_9)), (aT_manyRooms_waiting, .inl (cy.1, 40, .inl A_manyRooms_waiting_10)), (aT_manyRooms_gain, .inl (cy.1, 41, .inl A_manyRooms_gain_11)), (aT_manyRooms_cameFrom, .inl (cy.1, 41, .inl A_manyRooms_cameFrom_12)), (aT_manyRooms_cameByTaking, .inl (cy.2.1, 41, .inl A_manyRooms_cameByTaking_13))]) ⟨hx, hb, hml, hown, hts⟩ (c_X4_heaviestForMany l G cy k aT aT_begins aT_ends aT_weights aT_givenRooms aT_oneRoom aT_manyRooms aT_manyRooms_row aT_manyRooms_stopAfter aT_manyRooms_taken aT_manyRooms_waiting aT_manyRooms_gain aT_manyRooms_cameFrom aT_manyRooms_cameByTaking aT_manyRooms_row_numbers aT_manyRooms_row_begins aT_manyRooms_row_ends aT_manyRooms_row_weights f_added f_presentSet f_factor f_offeredSet f_acceptedSet f_dropped A_begins A_ends A_weights f_manyRooms_row_byEnd f_manyRooms_row_count A_manyRooms_row_numbers A_manyRooms_row_begins A_manyRooms_row_ends A_manyRooms_row_weights A_manyRooms_stopAfter A_manyRooms_taken A_manyRooms_waiting A_manyRooms_gain A_manyRooms_cameFrom A_manyRooms_cameByTaking f_presentSet p1 hcl14) (cwV 2 hts gX4_heaviestIn_X4_heaviestForMany rfl rfl rfl (by decide +kernel) ⟨Nat.le_of_ble_eq_true rfl, Nat.le_of_ble_eq_true rfl⟩) hv (isC := [0, 1, 2, 3, 4, 5, 6, 7, 8, 9, 10, 11, 12, 13, 14, 15]) ⟨rfl, rfl⟩ (hv.recv 4 0 rfl rfl) [] [0, 1, 2, 3, 4, 5, 6, 7, 8, 9, 10, 11, 12, 13, 14, 15] rfl rfl (by decide) rfl rfl rfl hl.1 rfl (Nat.le_of_ble_eq_true rfl) dX4_heaviestIn_10 ⟨Nat.le_of_ble_eq_true rfl, Nat.le_of_ble_eq_true rfl⟩ (fun H locs hv => ?_)
    cases hf
    exact kret _ _ _ _ hv dX4_heaviestIn_13

abbrev rm0_X4_depthRound : Room := { frames := 7, cells := 0, slots := 0, locals := 112 }
set_option maxHeartbeats 4000000 in
set_option maxRecDepth 100000 in
theorem c0_X4_depthRound (l : Launch) (G : va_G) (cy : ClassId × ClassId × ClassId) (k : Nat) (aT aT_begins aT_ends aT_weights aT_givenRooms aT_oneRoom aT_manyRooms : Nat) (f_added : Int32) (f_presentSet : Int64) (f_factor : Int32) (f_offeredSet : Int64) (f_acceptedSet : Int64) (f_dropped : Int32) (A_begins : Nat → Int32) (A_ends : Nat → Int32) (p1 : Int32) {r : Int32} (hf : f_X4_depthRound k p1 f_added f_presentSet A_begins A_ends = some (.ok r)) : Ci l yX4_depthRound wsX4_depthRound rm0_X4_depthRound 0 0 G cy [.ref aT, .int p1] [(aT, .inr (4, [.ref aT_begins, .ref aT_ends, .ref aT_weights, .int f_added, .long f_presentSet, .int f_factor, .long f_offeredSet, .long f_acceptedSet, .int f_dropped, .ref aT_givenRooms, .ref aT_oneRoom, .ref aT_manyRooms])), (aT_begins, .inl (cy.1, 40, .inl A_begins)), (aT_ends, .inl (cy.1, 40, .inl A_ends))] [(aT, .inr (4, [.ref aT_begins, .ref aT_ends, .ref aT_weights, .int f_added, .long f_presentSet, .int f_factor, .long f_offeredSet, .long f_acceptedSet, .int f_dropped, .ref aT_givenRooms, .ref aT_oneRoom, .ref aT_manyRooms])), (aT_begins, .inl (cy.1, 40, .inl A_begins)), (aT_ends, .inl (cy.1, 40, .inl A_ends))] r := by
  refine kMetI (cc := cX4_depthRound) (maxL := 4) (by decide) rfl (Nat.le_of_ble_eq_true rfl) ?_
  intro p e s m args below meth c Q A ls hx hb hml hts hown hv hl kret
  replace hown : s.vm.findClass RX4 = some m.cls := hown
  replace hl : lv_has ls 4 [(0, .ref aT), (1, .int p1)] := hl
  have hk53 : (Cond.fieldLink RX4 53 "Roomcolour" "added" "I").before args s = true := hts _ (by decide +kernel)
  have hinX4 : ∀ w ∈ wsX40, w ∈ wsX4_depthRound := by decide +kernel
  have hk61 : (Cond.fieldLink RX4 61 "Roomcolour" "presentSet" "J").before args s = true := hts _ (by decide +kernel)
  have hk9 : (Cond.fieldLink RX4 9 "Roomcolour" "begins" "[I").before args s = true := hts _ (by decide +kernel)
  have hm166a : (Cond.methodLink RX4 166 Lib.Math.max.name).before args s = true := hts _ (by decide +kernel)
  have hm166b : (Cond.static Lib.Math.max.name).before args s = true := hts _ (by decide +kernel)
  have hm166c : (Cond.initialized "java/lang/Math").before args s = true := hts _ (by decide +kernel)
  have hm166d : (Cond.code Lib.Math.max.name Lib.Math.max.code 2 (some .int)).before args s = true := hts _ (by decide +kernel)
  have L9 : ∀ (v1 : Int32) (κ : Int32 → Int32 → Option (Except String (Int32))) (n : Nat) (v2 : Int32) (v3 : Int32), f_X4_depthRound_L9 k v1 f_added f_presentSet A_begins A_ends κ n v2 v3 = some (.ok r) → ∀ (H : Heap) (locs : List Loc) (ls : Array Slot), Hv s H locs G cy A [(aT, .inr (4, [.ref aT_begins, .ref aT_ends, .ref aT_weights, .int f_added, .long f_presentSet, .int f_factor, .long f_offeredSet, .long f_acceptedSet, .int f_dropped, .ref aT_givenRooms, .ref aT_oneRoom, .ref aT_manyRooms])), (aT_begins, .inl (cy.1, 40, .inl A_begins)), (aT_ends, .inl (cy.1, 40, .inl A_ends))] → lv_has ls 4 [(0, .ref aT), (1, .int v1), (2, .int v2), (3, .int v3)] → (∀ (v2 : Int32) (v3 : Int32), κ v2 v3 = some (.ok r) → ∀ (H : Heap) (locs : List Loc) (ls : Array Slot), Hv s H locs G cy A [(aT, .inr (4, [.ref aT_begins, .ref aT_ends, .ref aT_weights, .int f_added, .long f_presentSet, .int f_factor, .long f_offeredSet, .long f_acceptedSet, .int f_dropped, .ref aT_givenRooms, .ref aT_oneRoom, .ref aT_manyRooms])), (aT_begins, .inl (cy.1, 40, .inl A_begins)), (aT_ends, .inl (cy.1, 40, .inl A_ends))] → lv_has ls 4 [(2, .int v2)] → W p l e rm0_X4_depthRound s m args below meth c H locs 0 0 Q (F0 m 50 ls [])) → W p l e rm0_X4_depthRound s m args below meth c H locs 0 0 Q (F0 m 9 ls []) := by
    intro v1 κ n
    induction n with
    | zero =>
      intro v2 v3 hf
      rw [f_X4_depthRound_L9_z] at hf
      cases hf
    | succ n ih =>
      intro v2 v3 hf H locs ls hv hl hκ
      rw [f_X4_depthRound_L9_s] at hf
      refine lv_iload_n hx hb dX4_depthRound_9 rfl (lv_at hl 3 rfl) ?_
      refine lv_aload_n hx hb dX4_depthRound_10 rfl (lv_at hl 0 rfl) ?_
      refine kGet (v := .int f_added) (C := RX4) (T := TX4) (N := 12) hx hb hts hinX4 hown hv 0 rfl rfl 3 (by decide) hk53 (fun _ h9 => h9) rfl dX4_depthRound_11 ?_
      refine lv_icmp_ge (tgt := 50) hx hb dX4_depthRound_14 (by decide) (fun hc2 => ?_) (fun hc2 => ?_)
      · replace hf := ite_t hf hc2
        exact hκ v2 v3 hf _ _ _ hv (lv_sub hl [2] rfl)
      · replace hf := ite_f hf hc2
        refine lv_aload_n hx hb dX4_depthRound_17 rfl (lv_at hl 0 rfl) ?_
        refine kGet (v := .long f_presentSet) (C := RX4) (T := TX4) (N := 12) hx hb hts hinX4 hown hv 0 rfl rfl 4 (by decide) hk61 (fun _ h9 => h9) rfl dX4_depthRound_18 ?_
        refine lv_iload_n hx hb dX4_depthRound_21 rfl (lv_at hl 3 rfl) ?_
        obtain ⟨r3, hcl4, hf⟩ := xb_some hf
        refine kS_i (r := r3) ⟨hx, hb, hml, hown, hts⟩ (c_X4_contains l G cy k f_presentSet v3 hcl4) (va_cwS 2 hts gX4_depthRound_X4_contains rfl rfl rfl (by decide +kernel) ⟨Nat.le_of_ble_eq_true rfl, Nat.le_of_ble_eq_true rfl⟩) hv rfl hl.1 rfl (Nat.le_of_ble_eq_true rfl) dX4_depthRound_22 ⟨Nat.le_of_ble_eq_true rfl, Nat.le_of_ble_eq_true rfl⟩ (fun H locs hv => ?_)
        refine lv_if_eq (tgt := 44) hx hb dX4_depthRound_25 (by decide) (fun hc5 => ?_) (fun hc5 => ?_)
        · replace hf := ite_t hf hc5
          refine lv_iinc (v := v3 + 1) (lv' := [(3, .int (v3 + 1)), (0, .ref aT), (1, .int v1), (2, .int v2)]) hx hb dX4_depthRound_44 hl (k := 3) rfl rfl (by decide) rfl (fun ls hl => ?_)
          refine lv_goto (tgt := 9) hx hb dX4_depthRound_47 (by decide) ?_
          exact ih v2 (v3 + 1) hf _ _ _ hv (lv_sub hl [1, 2, 3, 0] rfl) hκ
        · replace hf := ite_f hf hc5
          refine lv_iload_n hx hb dX4_depthRound_28 rfl (lv_at hl 2 rfl) ?_
          refine lv_aload_n hx hb dX4_depthRound_29 rfl (lv_at hl 0 rfl) ?_
          refine lv_aload_n hx hb dX4_depthRound_30 rfl (lv_at hl 0 rfl) ?_
          refine kGet (v := .ref aT_begins) (C := RX4) (T := TX4) (N := 12) hx hb hts hinX4 hown hv 0 rfl rfl 0 (by decide) hk9 (fun _ h9 => h9) rfl dX4_depthRound_31 ?_
          refine lv_iload_n hx hb dX4_depthRound_34 rfl (lv_at hl 3 rfl) ?_
          obtain ⟨hi6, hf⟩ := xi_some hf
          refine kIald hx hb hv 1 rfl hi6 dX4_depthRound_35 ?_
          refine lv_iload_n hx hb dX4_depthRound_36 rfl (lv_at hl 1 rfl) ?_
          obtain ⟨r7, hcl8, hf⟩ := xb_some hf
          refine kV_i (r := r7) (wr := []) (w2 := [(aT, .inr (4, [.ref aT_begins, .ref aT_ends, .ref aT_weights, .int f_added, .long f_presentSet, .int f_factor, .long f_offeredSet, .long f_acceptedSet, .int f_dropped, .ref aT_givenRooms, .ref aT_oneRoom, .ref aT_manyRooms])), (aT_begins, .inl (cy.1, 40, .inl A_begins)), (aT_ends, .inl (cy.1, 40, .inl A_ends))]) ⟨hx, hb, hml, hown, hts⟩ (c_X4_depthOnCircle l G cy k aT aT_begins aT_ends aT_weights aT_givenRooms aT_oneRoom aT_manyRooms f_added f_presentSet f_factor f_offeredSet f_acceptedSet f_dropped A_begins A_ends (A_begins v3.toNatClampNeg) v1 hcl8) (cwV 2 hts gX4_depthRound_X4_depthOnCircle rfl rfl rfl (by decide +kernel) ⟨Nat.le_of_ble_eq_true rfl, Nat.le_of_ble_eq_true rfl⟩) hv (isC := [0, 1, 2]) ⟨rfl, rfl⟩ (hv.recv 4 0 rfl rfl) [] [0, 1, 2] rfl rfl (by decide) rfl rfl rfl hl.1 rfl (Nat.le_of_ble_eq_true rfl) dX4_depthRound_37 ⟨Nat.le_of_ble_eq_true rfl, Nat.le_of_ble_eq_true rfl⟩ (fun H locs hv => ?_)
          refine va_mmax hx hb (by rw [hml]; exact hl.1.symm) hown hm166a hm166b hm166c hm166d (Nat.le_of_ble_eq_true rfl) (Nat.le_of_ble_eq_true rfl) (Nat.le_of_ble_eq_true rfl) (Nat.le_of_ble_eq_true rfl) dX4_depthRound_40 ?_
          refine lv_istore_n (lv' := [(2, .int (if v2 < r7 then r7 else v2)), (0, .ref aT), (1, .int v1), (3, .int v3)]) hx hb dX4_depthRound_43 rfl hl (by decide) rfl (fun ls hl => ?_)
          refine lv_iinc (v := v3 + 1) (lv' := [(3, .int (v3 + 1)), (2, .int (if v2 < r7 then r7 else v2)), (0, .ref aT), (1, .int v1)]) hx hb dX4_depthRound_44 hl (k := 3) rfl rfl (by decide) rfl (fun ls hl => ?_)
          refine lv_goto (tgt := 9) hx hb dX4_depthRound_47 (by decide) ?_
          exact ih (if v2 < r7 then r7 else v2) (v3 + 1) hf _ _ _ hv (lv_sub hl [2, 3, 1, 0] rfl) hκ
  unfold f_X4_depthRound at hf
  refine lv_aload_n hx hb dX4_depthRound_0 rfl (lv_at hl 0 rfl) ?_
  refine lv_iload_n hx hb dX4_depthRound_1 rfl (lv_at hl 1 rfl) ?_
  rcases xe_some hf with ⟨E11, hcl1, hf⟩ | ⟨_, hcl1, hf⟩
  · cases hf
  · refine kV_v (wr := []) (w2 := [(aT, .inr (4, [.ref aT_begins, .ref aT_ends, .ref aT_weights, .int f_added, .long f_presentSet, .int f_factor, .long f_offeredSet, .long f_acceptedSet, .int f_dropped, .ref aT_givenRooms, .ref aT_oneRoom, .ref aT_manyRooms])), (aT_begins, .inl (cy.1, 40, .inl A_begins)), (aT_ends, .inl (cy.1, 40, .inl A_ends))]) ⟨hx, hb, hml, hown, hts⟩ (c0_X4_requireCircle l G cy k aT aT_begins aT_ends aT_weights aT_givenRooms aT_oneRoom aT_manyRooms f_added f_presentSet f_factor f_offeredSet f_acceptedSet f_dropped A_begins A_ends p1 hcl1) (cwV 1 hts gX4_depthRound_X4_requireCircle rfl rfl rfl (by decide +kernel) ⟨Nat.le_of_ble_eq_true rfl, Nat.le_of_ble_eq_true rfl⟩) hv (isC := [0, 1, 2]) ⟨rfl, rfl⟩ (hv.recv 4 0 rfl rfl) [] [0, 1, 2] rfl rfl (by decide) rfl rfl rfl hl.1 rfl (Nat.le_of_ble_eq_true rfl) dX4_depthRound_2 ⟨Nat.le_of_ble_eq_true rfl, Nat.le_of_ble_eq_true rfl⟩ (fun H locs hv => ?_)
    refine lv_iconst (v := 0) hx hb dX4_depthRound_5 (by decide) ?_
    refine lv_istore_n (lv' := [(2, .int 0), (0, .ref aT), (1, .int p1)]) hx hb dX4_depthRound_6 rfl hl (by decide) rfl (fun ls hl => ?_)
    refine lv_iconst (v := 0) hx hb dX4_depthRound_7 (by decide) ?_
    refine lv_istore_n (lv' := [(3, .int 0), (2, .int 0), (0, .ref aT), (1, .int p1)]) hx hb dX4_depthRound_8 rfl hl (by decide) rfl (fun ls hl => ?_)
    refine L9 _ _ _ _ _ hf _ _ _ hv (lv_sub hl [2, 3, 1, 0] rfl) (fun v2_9 v3_10 hf H locs ls hv hl => ?_)
    try dsimp only at hf
    refine lv_iload_n hx hb dX4_depthRound_50 rfl (lv_at hl 0 rfl) ?_
    cases hf
    exact kret _ _ _ _ hv dX4_depthRound_51

abbrev rm0_X4_heaviestRound : Room := { frames := 7, cells := 0, slots := 0, locals := 112 }
set_option maxHeartbeats 4000000 in
set_option maxRecDepth 100000 in
theorem c0_X4_heaviestRound (l : Launch) (G : va_G) (cy : ClassId × ClassId × ClassId) (k : Nat) (aT aT_begins aT_ends aT_weights aT_givenRooms aT_oneRoom aT_manyRooms aT_oneRoom_row aT_oneRoom_best aT_oneRoom_row_numbers aT_oneRoom_row_begins aT_oneRoom_row_ends aT_oneRoom_row_weights : Nat) (f_added : Int32) (f_presentSet : Int64) (f_factor : Int32) (f_offeredSet : Int64) (f_acceptedSet : Int64) (f_dropped : Int32) (A_begins : Nat → Int32) (A_ends : Nat → Int32) (A_weights : Nat → Int32) (f_oneRoom_row_byEnd : Int32) (f_oneRoom_row_count : Int32) (A_oneRoom_row_numbers : Nat → Int32) (A_oneRoom_row_begins : Nat → Int32) (A_oneRoom_row_ends : Nat → Int32) (A_oneRoom_row_weights : Nat → Int32) (A_oneRoom_best : Nat → Int32) (p1 : Int32) {r : Int32} {wf_oneRoom_row_count : Int32} {wA_oneRoom_row_numbers : Nat → Int32} {wA_oneRoom_row_begins : Nat → Int32} {wA_oneRoom_row_ends : Nat → Int32} {wA_oneRoom_row_weights : Nat → Int32} {wA_oneRoom_best : Nat → Int32} (hf : f_X4_heaviestRound k p1 f_added f_presentSet A_begins A_ends A_weights f_oneRoom_row_byEnd f_oneRoom_row_count A_oneRoom_row_numbers A_oneRoom_row_begins A_oneRoom_row_ends A_oneRoom_row_weights A_oneRoom_best = some (.ok (r, wf_oneRoom_row_count, wA_oneRoom_row_numbers, wA_oneRoom_row_begins, wA_oneRoom_row_ends, wA_oneRoom_row_weights, wA_oneRoom_best))) : Ci l yX4_heaviestRound wsX4_heaviestRound rm0_X4_heaviestRound 0 0 G cy [.ref aT, .int p1] [(aT, .inr (4, [.ref aT_begins, .ref aT_ends, .ref aT_weights, .int f_added, .long f_presentSet, .int f_factor, .long f_offeredSet, .long f_acceptedSet, .int f_dropped, .ref aT_givenRooms, .ref aT_oneRoom, .ref aT_manyRooms])), (aT_begins, .inl (cy.1, 40, .inl A_begins)), (aT_ends, .inl (cy.1, 40, .inl A_ends)), (aT_weights, .inl (cy.1, 40, .inl A_weights)), (aT_oneRoom, .inr (2, [.ref aT_oneRoom_row, .ref aT_oneRoom_best])), (aT_oneRoom_row, .inr (3, [.int f_oneRoom_row_byEnd, .ref aT_oneRoom_row_numbers, .ref aT_oneRoom_row_begins, .ref aT_oneRoom_row_ends, .ref aT_oneRoom_row_weights, .int f_oneRoom_row_count])), (aT_oneRoom_row_numbers, .inl (cy.1, 40, .inl A_oneRoom_row_numbers)), (aT_oneRoom_row_begins, .inl (cy.1, 40, .inl A_oneRoom_row_begins)), (aT_oneRoom_row_ends, .inl (cy.1, 40, .inl A_oneRoom_row_ends)), (aT_oneRoom_row_weights, .inl (cy.1, 40, .inl A_oneRoom_row_weights)), (aT_oneRoom_best, .inl (cy.1, 41, .inl A_oneRoom_best))] [(aT, .inr (4, [.ref aT_begins, .ref aT_ends, .ref aT_weights, .int f_added, .long f_presentSet, .int f_factor, .long f_offeredSet, .long f_acceptedSet, .int f_dropped, .ref aT_givenRooms, .ref aT_oneRoom, .ref aT_manyRooms])), (aT_begins, .inl (cy.1, 40, .inl A_begins)), (aT_ends, .inl (cy.1, 40, .inl A_ends)), (aT_weights, .inl (cy.1, 40, .inl A_weights)), (aT_oneRoom, .inr (2, [.ref aT_oneRoom_row, .ref aT_oneRoom_best])), (aT_oneRoom_row, .inr (3, [.int f_oneRoom_row_byEnd, .ref aT_oneRoom_row_numbers, .ref aT_oneRoom_row_begins, .ref aT_oneRoom_row_ends, .ref aT_oneRoom_row_weights, .int wf_oneRoom_row_count])), (aT_oneRoom_row_numbers, .inl (cy.1, 40, .inl wA_oneRoom_row_numbers)), (aT_oneRoom_row_begins, .inl (cy.1, 40, .inl wA_oneRoom_row_begins)), (aT_oneRoom_row_ends, .inl (cy.1, 40, .inl wA_oneRoom_row_ends)), (aT_oneRoom_row_weights, .inl (cy.1, 40, .inl wA_oneRoom_row_weights)), (aT_oneRoom_best, .inl (cy.1, 41, .inl wA_oneRoom_best))] r := by
  refine kMetI (cc := cX4_heaviestRound) (maxL := 5) (by decide) rfl (Nat.le_of_ble_eq_true rfl) ?_
  intro p e s m args below meth c Q A ls hx hb hml hts hown hv hl kret
  replace hown : s.vm.findClass RX4 = some m.cls := hown
  replace hl : lv_has ls 5 [(0, .ref aT), (1, .int p1)] := hl
  have hk53 : (Cond.fieldLink RX4 53 "Roomcolour" "added" "I").before args s = true := hts _ (by decide +kernel)
  have hinX4 : ∀ w ∈ wsX40, w ∈ wsX4_heaviestRound := by decide +kernel
  have hk61 : (Cond.fieldLink RX4 61 "Roomcolour" "presentSet" "J").before args s = true := hts _ (by decide +kernel)
  have hk9 : (Cond.fieldLink RX4 9 "Roomcolour" "begins" "[I").before args s = true := hts _ (by decide +kernel)
  have hk16 : (Cond.fieldLink RX4 16 "Roomcolour" "weights" "[I").before args s = true := hts _ (by decide +kernel)
  have hm166a : (Cond.methodLink RX4 166 Lib.Math.max.name).before args s = true := hts _ (by decide +kernel)
  have hm166b : (Cond.static Lib.Math.max.name).before args s = true := hts _ (by decide +kernel)
  have hm166c : (Cond.initialized "java/lang/Math").before args s = true := hts _ (by decide +kernel)
  have hm166d : (Cond.code Lib.Math.max.name Lib.Math.max.code 2 (some .int)).before args s = true := hts _ (by decide +kernel)
  have L15 : ∀ (v1 : Int32) (κ : Int32 → Int32 → Int32 → (Nat → Int32) → (Nat → Int32) → (Nat → Int32) → (Nat → Int32) → (Nat → Int32) → Option (Except String (Int32 × Int32 × (Nat → Int32) × (Nat → Int32) × (Nat → Int32) × (Nat → Int32) × (Nat → Int32)))) (n : Nat) (v2 : Int32) (v3 : Int32) (f_oneRoom_row_count : Int32) (A_oneRoom_row_numbers : Nat → Int32) (A_oneRoom_row_begins : Nat → Int32) (A_oneRoom_row_ends : Nat → Int32) (A_oneRoom_row_weights : Nat → Int32) (A_oneRoom_best : Nat → Int32), f_X4_heaviestRound_L15 k v1 f_added f_presentSet A_begins A_ends A_weights f_oneRoom_row_byEnd κ n v2 v3 f_oneRoom_row_count A_oneRoom_row_numbers A_oneRoom_row_begins A_oneRoom_row_ends A_oneRoom_row_weights A_oneRoom_best = some (.ok (r, wf_oneRoom_row_count, wA_oneRoom_row_numbers, wA_oneRoom_row_begins, wA_oneRoom_row_ends, wA_oneRoom_row_weights, wA_oneRoom_best)) → ∀ (H : Heap) (locs : List Loc) (ls : Array Slot), Hv s H locs G cy A [(aT, .inr (4, [.ref aT_begins, .ref aT_ends, .ref aT_weights, .int f_added, .long f_presentSet, .int f_factor, .long f_offeredSet, .long f_acceptedSet, .int f_dropped, .ref aT_givenRooms, .ref aT_oneRoom, .ref aT_manyRooms])), (aT_begins, .inl (cy.1, 40, .inl A_begins)), (aT_ends, .inl (cy.1, 40, .inl A_ends)), (aT_weights, .inl (cy.1, 40, .inl A_weights)), (aT_oneRoom, .inr (2, [.ref aT_oneRoom_row, .ref aT_oneRoom_best])), (aT_oneRoom_row, .inr (3, [.int f_oneRoom_row_byEnd, .ref aT_oneRoom_row_numbers, .ref aT_oneRoom_row_begins, .ref aT_oneRoom_row_ends, .ref aT_oneRoom_row_weights, .int f_oneRoom_row_count])), (aT_oneRoom_row_numbers, .inl (cy.1, 40, .inl A_oneRoom_row_numbers)), (aT_oneRoom_row_begins, .inl (cy.1, 40, .inl A_oneRoom_row_begins)), (aT_oneRoom_row_ends, .inl (cy.1, 40, .inl A_oneRoom_row_ends)), (aT_oneRoom_row_weights, .inl (cy.1, 40, .inl A_oneRoom_row_weights)), (aT_oneRoom_best, .inl (cy.1, 41, .inl A_oneRoom_best))] → lv_has ls 5 [(0, .ref aT), (1, .int v1), (2, .int v2), (3, .int v3)] → (∀ (v2 : Int32) (v3 : Int32) (f_oneRoom_row_count : Int32) (A_oneRoom_row_numbers : Nat → Int32) (A_oneRoom_row_begins : Nat → Int32) (A_oneRoom_row_ends : Nat → Int32) (A_oneRoom_row_weights : Nat → Int32) (A_oneRoom_best : Nat → Int32), κ v2 v3 f_oneRoom_row_count A_oneRoom_row_numbers A_oneRoom_row_begins A_oneRoom_row_ends A_oneRoom_row_weights A_oneRoom_best = some (.ok (r, wf_oneRoom_row_count, wA_oneRoom_row_numbers, wA_oneRoom_row_begins, wA_oneRoom_row_ends, wA_oneRoom_row_weights, wA_oneRoom_best)) → ∀ (H : Heap) (locs : List Loc) (ls : Array Slot), Hv s H locs G cy A [(aT, .inr (4, [.ref aT_begins, .ref aT_ends, .ref aT_weights, .int f_added, .long f_presentSet, .int f_factor, .long f_offeredSet, .long f_acceptedSet, .int f_dropped, .ref aT_givenRooms, .ref aT_oneRoom, .ref aT_manyRooms])), (aT_begins, .inl (cy.1, 40, .inl A_begins)), (aT_ends, .inl (cy.1, 40, .inl A_ends)), (aT_weights, .inl (cy.1, 40, .inl A_weights)), (aT_oneRoom, .inr (2, [.ref aT_oneRoom_row, .ref aT_oneRoom_best])), (aT_oneRoom_row, .inr (3, [.int f_oneRoom_row_byEnd, .ref aT_oneRoom_row_numbers, .ref aT_oneRoom_row_begins, .ref aT_oneRoom_row_ends, .ref aT_oneRoom_row_weights, .int f_oneRoom_row_count])), (aT_oneRoom_row_numbers, .inl (cy.1, 40, .inl A_oneRoom_row_numbers)), (aT_oneRoom_row_begins, .inl (cy.1, 40, .inl A_oneRoom_row_begins)), (aT_oneRoom_row_ends, .inl (cy.1, 40, .inl A_oneRoom_row_ends)), (aT_oneRoom_row_weights, .inl (cy.1, 40, .inl A_oneRoom_row_weights)), (aT_oneRoom_best, .inl (cy.1, 41, .inl A_oneRoom_best))] → lv_has ls 5 [(2, .int v2)] → W p l e rm0_X4_heaviestRound s m args below meth c H locs 0 0 Q (F0 m 81 ls [])) → W p l e rm0_X4_heaviestRound s m args below meth c H locs 0 0 Q (F0 m 15 ls []) := by
    intro v1 κ n
    induction n with
    | zero =>
      intro v2 v3 f_oneRoom_row_count A_oneRoom_row_numbers A_oneRoom_row_begins A_oneRoom_row_ends A_oneRoom_row_weights A_oneRoom_best hf
      rw [f_X4_heaviestRound_L15_z] at hf
      cases hf
    | succ n ih =>
      intro v2 v3 f_oneRoom_row_count A_oneRoom_row_numbers A_oneRoom_row_begins A_oneRoom_row_ends A_oneRoom_row_weights A_oneRoom_best hf H locs ls hv hl hκ
      rw [f_X4_heaviestRound_L15_s] at hf
      refine lv_iload_n hx hb dX4_heaviestRound_15 rfl (lv_at hl 3 rfl) ?_
      refine lv_aload_n hx hb dX4_heaviestRound_16 rfl (lv_at hl 0 rfl) ?_
      refine kGet (v := .int f_added) (C := RX4) (T := TX4) (N := 12) hx hb hts hinX4 hown hv 0 rfl rfl 3 (by decide) hk53 (fun _ h9 => h9) rfl dX4_heaviestRound_17 ?_
      refine lv_icmp_ge (tgt := 81) hx hb dX4_heaviestRound_20 (by decide) (fun hc10 => ?_) (fun hc10 => ?_)
      · replace hf := ite_t hf hc10
        exact hκ v2 v3 f_oneRoom_row_count A_oneRoom_row_numbers A_oneRoom_row_begins A_oneRoom_row_ends A_oneRoom_row_weights A_oneRoom_best hf _ _ _ hv (lv_sub hl [2] rfl)
      · replace hf := ite_f hf hc10
        refine lv_aload_n hx hb dX4_heaviestRound_23 rfl (lv_at hl 0 rfl) ?_
        refine kGet (v := .long f_presentSet) (C := RX4) (T := TX4) (N := 12) hx hb hts hinX4 hown hv 0 rfl rfl 4 (by decide) hk61 (fun _ h9 => h9) rfl dX4_heaviestRound_24 ?_
        refine lv_iload_n hx hb dX4_heaviestRound_27 rfl (lv_at hl 3 rfl) ?_
        obtain ⟨r11, hcl12, hf⟩ := xb_some hf
        refine kS_i (r := r11) ⟨hx, hb, hml, hown, hts⟩ (c_X4_contains l G cy k f_presentSet v3 hcl12) (va_cwS 2 hts gX4_heaviestRound_X4_contains rfl rfl rfl (by decide +kernel) ⟨Nat.le_of_ble_eq_true rfl, Nat.le_of_ble_eq_true rfl⟩) hv rfl hl.1 rfl (Nat.le_of_ble_eq_true rfl) dX4_heaviestRound_28 ⟨Nat.le_of_ble_eq_true rfl, Nat.le_of_ble_eq_true rfl⟩ (fun H locs hv => ?_)
        refine lv_if_eq (tgt := 75) hx hb dX4_heaviestRound_31 (by decide) (fun hc13 => ?_) (fun hc13 => ?_)
        · replace hf := ite_t hf hc13
          refine lv_iinc (v := v3 + 1) (lv' := [(3, .int (v3 + 1)), (0, .ref aT), (1, .int v1), (2, .int v2)]) hx hb dX4_heaviestRound_75 hl (k := 3) rfl rfl (by decide) rfl (fun ls hl => ?_)
          refine lv_goto (tgt := 15) hx hb dX4_heaviestRound_78 (by decide) ?_
          exact ih v2 (v3 + 1) f_oneRoom_row_count A_oneRoom_row_numbers A_oneRoom_row_begins A_oneRoom_row_ends A_oneRoom_row_weights A_oneRoom_best hf _ _ _ hv (lv_sub hl [1, 2, 3, 0] rfl) hκ
        · replace hf := ite_f hf hc13
          refine lv_aload_n hx hb dX4_heaviestRound_34 rfl (lv_at hl 0 rfl) ?_
          refine lv_iload_n hx hb dX4_heaviestRound_35 rfl (lv_at hl 3 rfl) ?_
          refine lv_iload_n hx hb dX4_heaviestRound_36 rfl (lv_at hl 1 rfl) ?_
          obtain ⟨r14, hcl15, hf⟩ := xb_some hf
          refine kV_i (r := r14) (wr := [(aT_weights, .inl (cy.1, 40, .inl A_weights)), (aT_oneRoom, .inr (2, [.ref aT_oneRoom_row, .ref aT_oneRoom_best])), (aT_oneRoom_row, .inr (3, [.int f_oneRoom_row_byEnd, .ref aT_oneRoom_row_numbers, .ref aT_oneRoom_row_begins, .ref aT_oneRoom_row_ends, .ref aT_oneRoom_row_weights, .int f_oneRoom_row_count])), (aT_oneRoom_row_numbers, .inl (cy.1, 40, .inl A_oneRoom_row_numbers)), (aT_oneRoom_row_begins, .inl (cy.1, 40, .inl A_oneRoom_row_begins)), (aT_oneRoom_row_ends, .inl (cy.1, 40, .inl A_oneRoom_row_ends)), (aT_oneRoom_row_weights, .inl (cy.1, 40, .inl A_oneRoom_row_weights)), (aT_oneRoom_best, .inl (cy.1, 41, .inl A_oneRoom_best))]) (w2 := [(aT, .inr (4, [.ref aT_begins, .ref aT_ends, .ref aT_weights, .int f_added, .long f_presentSet, .int f_factor, .long f_offeredSet, .long f_acceptedSet, .int f_dropped, .ref aT_givenRooms, .ref aT_oneRoom, .ref aT_manyRooms])), (aT_begins, .inl (cy.1, 40, .inl A_begins)), (aT_ends, .inl (cy.1, 40, .inl A_ends)), (aT_weights, .inl (cy.1, 40, .inl A_weights)), (aT_oneRoom, .inr (2, [.ref aT_oneRoom_row, .ref aT_oneRoom_best])), (aT_oneRoom_row, .inr (3, [.int f_oneRoom_row_byEnd, .ref aT_oneRoom_row_numbers, .ref aT_oneRoom_row_begins, .ref aT_oneRoom_row_ends, .ref aT_oneRoom_row_weights, .int f_oneRoom_row_count])), (aT_oneRoom_row_numbers, .inl (cy.1, 40, .inl A_oneRoom_row_numbers)), (aT_oneRoom_row_begins, .inl (cy.1, 40, .inl A_oneRoom_row_begins)), (aT_oneRoom_row_ends, .inl (cy.1, 40, .inl A_oneRoom_row_ends)), (aT_oneRoom_row_weights, .inl (cy.1, 40, .inl A_oneRoom_row_weights)), (aT_oneRoom_best, .inl (cy.1, 41, .inl A_oneRoom_best))]) ⟨hx, hb, hml, hown, hts⟩ (c_X4_runsPastTurn l G cy k aT aT_begins aT_ends aT_weights aT_givenRooms aT_oneRoom aT_manyRooms f_added f_presentSet f_factor f_offeredSet f_acceptedSet f_dropped A_begins A_ends v3 v1 hcl15) (cwV 2 hts gX4_heaviestRound_X4_runsPastTurn rfl rfl rfl (by decide +kernel) ⟨Nat.le_of_ble_eq_true rfl, Nat.le_of_ble_eq_true rfl⟩) hv (isC := [0, 1, 2]) ⟨rfl, rfl⟩ (hv.recv 4 0 rfl rfl) [3, 4, 5, 6, 7, 8, 9, 10] [8, 9, 10, 0, 1, 2, 3, 4, 5, 6, 7] rfl rfl (by decide) rfl rfl rfl hl.1 rfl (Nat.le_of_ble_eq_true rfl) dX4_heaviestRound_37 ⟨Nat.le_of_ble_eq_true rfl, Nat.le_of_ble_eq_true rfl⟩ (fun H locs hv => ?_)
          refine lv_if_eq (tgt := 75) hx hb dX4_heaviestRound_40 (by decide) (fun hc16 => ?_) (fun hc16 => ?_)
          · replace hf := ite_t hf hc16
            refine lv_iinc (v := v3 + 1) (lv' := [(3, .int (v3 + 1)), (0, .ref aT), (1, .int v1), (2, .int v2)]) hx hb dX4_heaviestRound_75 hl (k := 3) rfl rfl (by decide) rfl (fun ls hl => ?_)
            refine lv_goto (tgt := 15) hx hb dX4_heaviestRound_78 (by decide) ?_
            exact ih v2 (v3 + 1) f_oneRoom_row_count A_oneRoom_row_numbers A_oneRoom_row_begins A_oneRoom_row_ends A_oneRoom_row_weights A_oneRoom_best hf _ _ _ hv (lv_sub hl [1, 2, 3, 0] rfl) hκ
          · replace hf := ite_f hf hc16
            refine lv_aload_n hx hb dX4_heaviestRound_43 rfl (lv_at hl 0 rfl) ?_
            refine lv_aload_n hx hb dX4_heaviestRound_44 rfl (lv_at hl 0 rfl) ?_
            refine kGet (v := .ref aT_begins) (C := RX4) (T := TX4) (N := 12) hx hb hts hinX4 hown hv 0 rfl rfl 0 (by decide) hk9 (fun _ h9 => h9) rfl dX4_heaviestRound_45 ?_
            refine lv_iload_n hx hb dX4_heaviestRound_48 rfl (lv_at hl 3 rfl) ?_
            obtain ⟨hi17, hf⟩ := xi_some hf
            refine kIald hx hb hv 1 rfl hi17 dX4_heaviestRound_49 ?_
            refine lv_aload_n hx hb dX4_heaviestRound_50 rfl (lv_at hl 0 rfl) ?_
            refine lv_iload_n hx hb dX4_heaviestRound_51 rfl (lv_at hl 3 rfl) ?_
            obtain ⟨r18, hcl19, hf⟩ := xb_some hf
            refine kV_i (r := r18) (wr := [(aT_weights, .inl (cy.1, 40, .inl A_weights)), (aT_oneRoom, .inr (2, [.ref aT_oneRoom_row, .ref aT_oneRoom_best])), (aT_oneRoom_row, .inr (3, [.int f_oneRoom_row_byEnd, .ref aT_oneRoom_row_numbers, .ref aT_oneRoom_row_begins, .ref aT_oneRoom_row_ends, .ref aT_oneRoom_row_weights, .int f_oneRoom_row_count])), (aT_oneRoom_row_numbers, .inl (cy.1, 40, .inl A_oneRoom_row_numbers)), (aT_oneRoom_row_begins, .inl (cy.1, 40, .inl A_oneRoom_row_begins)), (aT_oneRoom_row_ends, .inl (cy.1, 40, .inl A_oneRoom_row_ends)), (aT_oneRoom_row_weights, .inl (cy.1, 40, .inl A_oneRoom_row_weights)), (aT_oneRoom_best, .inl (cy.1, 41, .inl A_oneRoom_best))]) (w2 := [(aT, .inr (4, [.ref aT_begins, .ref aT_ends, .ref aT_weights, .int f_added, .long f_presentSet, .int f_factor, .long f_offeredSet, .long f_acceptedSet, .int f_dropped, .ref aT_givenRooms, .ref aT_oneRoom, .ref aT_manyRooms])), (aT_begins, .inl (cy.1, 40, .inl A_begins)), (aT_ends, .inl (cy.1, 40, .inl A_ends)), (aT_weights, .inl (cy.1, 40, .inl A_weights)), (aT_oneRoom, .inr (2, [.ref aT_oneRoom_row, .ref aT_oneRoom_best])), (aT_oneRoom_row, .inr (3, [.int f_oneRoom_row_byEnd, .ref aT_oneRoom_row_numbers, .ref aT_oneRoom_row_begins, .ref aT_oneRoom_row_ends, .ref aT_oneRoom_row_weights, .int f_oneRoom_row_count])), (aT_oneRoom_row_numbers, .inl (cy.1, 40, .inl A_oneRoom_row_numbers)), (aT_oneRoom_row_begins, .inl (cy.1, 40, .inl A_oneRoom_row_begins)), (aT_oneRoom_row_ends, .inl (cy.1, 40, .inl A_oneRoom_row_ends)), (aT_oneRoom_row_weights, .inl (cy.1, 40, .inl A_oneRoom_row_weights)), (aT_oneRoom_best, .inl (cy.1, 41, .inl A_oneRoom_best))]) ⟨hx, hb, hml, hown, hts⟩ (c_X4_lengthOf l G cy k aT aT_begins aT_ends aT_weights aT_givenRooms aT_oneRoom aT_manyRooms f_added f_presentSet f_factor f_offeredSet f_acceptedSet f_dropped A_begins A_ends v3 hcl19) (cwV 1 hts gX4_heaviestRound_X4_lengthOf rfl rfl rfl (by decide +kernel) ⟨Nat.le_of_ble_eq_true rfl, Nat.le_of_ble_eq_true rfl⟩) hv (isC := [0, 1, 2]) ⟨rfl, rfl⟩ (hv.recv 4 0 rfl rfl) [3, 4, 5, 6, 7, 8, 9, 10] [8, 9, 10, 0, 1, 2, 3, 4, 5, 6, 7] rfl rfl (by decide) rfl rfl rfl hl.1 rfl (Nat.le_of_ble_eq_true rfl) dX4_heaviestRound_52 ⟨Nat.le_of_ble_eq_true rfl, Nat.le_of_ble_eq_true rfl⟩ (fun H locs hv => ?_)
            refine lv_iload_n hx hb dX4_heaviestRound_55 rfl (lv_at hl 1 rfl) ?_
            obtain ⟨⟨r20, f_oneRoom_row_count_21, A_oneRoom_row_numbers_22, A_oneRoom_row_begins_23, A_oneRoom_row_ends_24, A_oneRoom_row_weights_25, A_oneRoom_best_26⟩, hcl27, hf⟩ := xb_some hf
            dsimp only at hf
            refine kV_i (r := r20) (wr := []) (w2 := [(aT, .inr (4, [.ref aT_begins, .ref aT_ends, .ref aT_weights, .int f_added, .long f_presentSet, .int f_factor, .long f_offeredSet, .long f_acceptedSet, .int f_dropped, .ref aT_givenRooms, .ref aT_oneRoom, .ref aT_manyRooms])), (aT_begins, .inl (cy.1, 40, .inl A_begins)), (aT_ends, .inl (cy.1, 40, .inl A_ends)), (aT_weights, .inl (cy.1, 40, .inl A_weights)), (aT_oneRoom, .inr (2, [.ref aT_oneRoom_row, .ref aT_oneRoom_best])), (aT_oneRoom_row, .inr (3, [.int f_oneRoom_row_byEnd, .ref aT_oneRoom_row_numbers, .ref aT_oneRoom_row_begins, .ref aT_oneRoom_row_ends, .ref aT_oneRoom_row_weights, .int f_oneRoom_row_count_21])), (aT_oneRoom_row_numbers, .inl (cy.1, 40, .inl A_oneRoom_row_numbers_22)), (aT_oneRoom_row_begins, .inl (cy.1, 40, .inl A_oneRoom_row_begins_23)), (aT_oneRoom_row_ends, .inl (cy.1, 40, .inl A_oneRoom_row_ends_24)), (aT_oneRoom_row_weights, .inl (cy.1, 40, .inl A_oneRoom_row_weights_25)), (aT_oneRoom_best, .inl (cy.1, 41, .inl A_oneRoom_best_26))]) ⟨hx, hb, hml, hown, hts⟩ (c_X4_heaviestBeside l G cy k aT aT_begins aT_ends aT_weights aT_givenRooms aT_oneRoom aT_manyRooms aT_oneRoom_row aT_oneRoom_best aT_oneRoom_row_numbers aT_oneRoom_row_begins aT_oneRoom_row_ends aT_oneRoom_row_weights f_added f_presentSet f_factor f_offeredSet f_acceptedSet f_dropped A_begins A_ends A_weights f_oneRoom_row_byEnd f_oneRoom_row_count A_oneRoom_row_numbers A_oneRoom_row_begins A_oneRoom_row_ends A_oneRoom_row_weights A_oneRoom_best (A_begins v3.toNatClampNeg) r18 v1 hcl27) (cwV 3 hts gX4_heaviestRound_X4_heaviestBeside rfl rfl rfl (by decide +kernel) ⟨Nat.le_of_ble_eq_true rfl, Nat.le_of_ble_eq_true rfl⟩) hv (isC := [0, 1, 2, 3, 4, 5, 6, 7, 8, 9, 10]) ⟨rfl, rfl⟩ (hv.recv 4 0 rfl rfl) [] [0, 1, 2, 3, 4, 5, 6, 7, 8, 9, 10] rfl rfl (by decide) rfl rfl rfl hl.1 rfl (Nat.le_of_ble_eq_true rfl) dX4_heaviestRound_56 ⟨Nat.le_of_ble_eq_true rfl, Nat.le_of_ble_eq_true rfl⟩ (fun H locs hv => ?_)
            refine lv_istore (lv' := [(4, .int r20), (0, .ref aT), (1, .int v1), (2, .int v2), (3, .int v3)]) hx hb dX4_heaviestRound_59 hl (by decide) rfl (fun ls hl => ?_)
            refine lv_iload_n hx hb dX4_heaviestRound_61 rfl (lv_at hl 3 rfl) ?_
            refine lv_aload_n hx hb dX4_heaviestRound_62 rfl (lv_at hl 1 rfl) ?_
            refine kGet (v := .ref aT_weights) (C := RX4) (T := TX4) (N := 12) hx hb hts hinX4 hown hv 0 rfl rfl 2 (by decide) hk16 (fun _ h9 => h9) rfl dX4_heaviestRound_63 ?_
            refine lv_iload_n hx hb dX4_heaviestRound_66 rfl (lv_at hl 4 rfl) ?_
            obtain ⟨hi28, hf⟩ := xi_some hf
            refine kIald hx hb hv 3 rfl hi28 dX4_heaviestRound_67 ?_
            refine lv_iload hx hb dX4_heaviestRound_68 (lv_at hl 0 rfl) ?_
            refine lv_iadd hx hb dX4_heaviestRound_70 ?_
            refine va_mmax hx hb (by rw [hml]; exact hl.1.symm) hown hm166a hm166b hm166c hm166d (Nat.le_of_ble_eq_true rfl) (Nat.le_of_ble_eq_true rfl) (Nat.le_of_ble_eq_true rfl) (Nat.le_of_ble_eq_true rfl) dX4_heaviestRound_71 ?_
            refine lv_istore_n (lv' := [(2, .int (if v2 < ((A_weights v3.toNatClampNeg) + r20) then ((A_weights v3.toNatClampNeg) + r20) else v2)), (4, .int r20), (0, .ref aT), (1, .int v1), (3, .int v3)]) hx hb dX4_heaviestRound_74 rfl hl (by decide) rfl (fun ls hl => ?_)
            refine lv_iinc (v := v3 + 1) (lv' := [(3, .int (v3 + 1)), (2, .int (if v2 < ((A_weights v3.toNatClampNeg) + r20) then ((A_weights v3.toNatClampNeg) + r20) else v2)), (4, .int r20), (0, .ref aT), (1, .int v1)]) hx hb dX4_heaviestRound_75 hl (k := 4) rfl rfl (by decide) rfl (fun ls hl => ?_)
            refine lv_goto (tgt := 15) hx hb dX4_heaviestRound_78 (by decide) ?_
            exact ih (if v2 < ((A_weights v3.toNatClampNeg) + r20) then ((A_weights v3.toNatClampNeg) + r20) else v2) (v3 + 1) f_oneRoom_row_count_21 A_oneRoom_row_numbers_22 A_oneRoom_row_begins_23 A_oneRoom_row_ends_24 A_oneRoom_row_weights_25 A_oneRoom_best_26 hf _ _ _ hv (lv_sub hl [3, 4, 1, 0] rfl) hκ
  unfold f_X4_heaviestRound at hf
  refine lv_aload_n hx hb dX4_heaviestRound_0 rfl (lv_at hl 0 rfl) ?_
  refine lv_iload_n hx hb dX4_heaviestRound_1 rfl (lv_at hl 1 rfl) ?_
  rcases xe_some hf with ⟨E37, hcl1, hf⟩ | ⟨_, hcl1, hf⟩
  · cases hf
  · refine kV_v (wr := [(aT_weights, .inl (cy.1, 40, .inl A_weights)), (aT_oneRoom, .inr (2, [.ref aT_oneRoom_row, .ref aT_oneRoom_best])), (aT_oneRoom_row, .inr (3, [.int f_oneRoom_row_byEnd, .ref aT_oneRoom_row_numbers, .ref aT_oneRoom_row_begins, .ref aT_oneRoom_row_ends, .ref aT_oneRoom_row_weights, .int f_oneRoom_row_count])), (aT_oneRoom_row_numbers, .inl (cy.1, 40, .inl A_oneRoom_row_numbers)), (aT_oneRoom_row_begins, .inl (cy.1, 40, .inl A_oneRoom_row_begins)), (aT_oneRoom_row_ends, .inl (cy.1, 40, .inl A_oneRoom_row_ends)), (aT_oneRoom_row_weights, .inl (cy.1, 40, .inl A_oneRoom_row_weights)), (aT_oneRoom_best, .inl (cy.1, 41, .inl A_oneRoom_best))]) (w2 := [(aT, .inr (4, [.ref aT_begins, .ref aT_ends, .ref aT_weights, .int f_added, .long f_presentSet, .int f_factor, .long f_offeredSet, .long f_acceptedSet, .int f_dropped, .ref aT_givenRooms, .ref aT_oneRoom, .ref aT_manyRooms])), (aT_begins, .inl (cy.1, 40, .inl A_begins)), (aT_ends, .inl (cy.1, 40, .inl A_ends)), (aT_weights, .inl (cy.1, 40, .inl A_weights)), (aT_oneRoom, .inr (2, [.ref aT_oneRoom_row, .ref aT_oneRoom_best])), (aT_oneRoom_row, .inr (3, [.int f_oneRoom_row_byEnd, .ref aT_oneRoom_row_numbers, .ref aT_oneRoom_row_begins, .ref aT_oneRoom_row_ends, .ref aT_oneRoom_row_weights, .int f_oneRoom_row_count])), (aT_oneRoom_row_numbers, .inl (cy.1, 40, .inl A_oneRoom_row_numbers)), (aT_oneRoom_row_begins, .inl (cy.1, 40, .inl A_oneRoom_row_begins)), (aT_oneRoom_row_ends, .inl (cy.1, 40, .inl A_oneRoom_row_ends)), (aT_oneRoom_row_weights, .inl (cy.1, 40, .inl A_oneRoom_row_weights)), (aT_oneRoom_best, .inl (cy.1, 41, .inl A_oneRoom_best))]) ⟨hx, hb, hml, hown, hts⟩ (c0_X4_requireCircle l G cy k aT aT_begins aT_ends aT_weights aT_givenRooms aT_oneRoom aT_manyRooms f_added f_presentSet f_factor f_offeredSet f_acceptedSet f_dropped A_begins A_ends p1 hcl1) (cwV 1 hts gX4_heaviestRound_X4_requireCircle rfl rfl rfl (by decide +kernel) ⟨Nat.le_of_ble_eq_true rfl, Nat.le_of_ble_eq_true rfl⟩) hv (isC := [0, 1, 2]) ⟨rfl, rfl⟩ (hv.recv 4 0 rfl rfl) [3, 4, 5, 6, 7, 8, 9, 10] [8, 9, 10, 0, 1, 2, 3, 4, 5, 6, 7] rfl rfl (by decide) rfl rfl rfl hl.1 rfl (Nat.le_of_ble_eq_true rfl) dX4_heaviestRound_2 ⟨Nat.le_of_ble_eq_true rfl, Nat.le_of_ble_eq_true rfl⟩ (fun H locs hv => ?_)
    refine lv_aload_n hx hb dX4_heaviestRound_5 rfl (lv_at hl 0 rfl) ?_
    refine lv_iconst (v := 0) hx hb dX4_heaviestRound_6 (by decide) ?_
    refine lv_iconst (v := 0) hx hb dX4_heaviestRound_7 (by decide) ?_
    refine lv_iload_n hx hb dX4_heaviestRound_8 rfl (lv_at hl 1 rfl) ?_
    obtain ⟨⟨r2, f_oneRoom_row_count_3, A_oneRoom_row_numbers_4, A_oneRoom_row_begins_5, A_oneRoom_row_ends_6, A_oneRoom_row_weights_7, A_oneRoom_best_8⟩, hcl9, hf⟩ := xb_some hf
    dsimp only at hf
    refine kV_i (r := r2) (wr := []) (w2 := [(aT, .inr (4, [.ref aT_begins, .ref aT_ends, .ref aT_weights, .int f_added, .long f_presentSet, .int f_factor, .long f_offeredSet, .long f_acceptedSet, .int f_dropped, .ref aT_givenRooms, .ref aT_oneRoom, .ref aT_manyRooms])), (aT_begins, .inl (cy.1, 40, .inl A_begins)), (aT_ends, .inl (cy.1, 40, .inl A_ends)), (aT_weights, .inl (cy.1, 40, .inl A_weights)), (aT_oneRoom, .inr (2, [.ref aT_oneRoom_row, .ref aT_oneRoom_best])), (aT_oneRoom_row, .inr (3, [.int f_oneRoom_row_byEnd, .ref aT_oneRoom_row_numbers, .ref aT_oneRoom_row_begins, .ref aT_oneRoom_row_ends, .ref aT_oneRoom_row_weights, .int f_oneRoom_row_count_3])), (aT_oneRoom_row_numbers, .inl (cy.1, 40, .inl A_oneRoom_row_numbers_4)), (aT_oneRoom_row_begins, .inl (cy.1, 40, .inl A_oneRoom_row_begins_5)), (aT_oneRoom_row_ends, .inl (cy.1, 40, .inl A_oneRoom_row_ends_6)), (aT_oneRoom_row_weights, .inl (cy.1, 40, .inl A_oneRoom_row_weights_7)), (aT_oneRoom_best, .inl (cy.1, 41, .inl A_oneRoom_best_8))]) ⟨hx, hb, hml, hown, hts⟩ (c_X4_heaviestBeside l G cy k aT aT_begins aT_ends aT_weights aT_givenRooms aT_oneRoom aT_manyRooms aT_oneRoom_row aT_oneRoom_best aT_oneRoom_row_numbers aT_oneRoom_row_begins aT_oneRoom_row_ends aT_oneRoom_row_weights f_added f_presentSet f_factor f_offeredSet f_acceptedSet f_dropped A_begins A_ends A_weights f_oneRoom_row_byEnd f_oneRoom_row_count A_oneRoom_row_numbers A_oneRoom_row_begins A_oneRoom_row_ends A_oneRoom_row_weights A_oneRoom_best 0 0 p1 hcl9) (cwV 3 hts gX4_heaviestRound_X4_heaviestBeside rfl rfl rfl (by decide +kernel) ⟨Nat.le_of_ble_eq_true rfl, Nat.le_of_ble_eq_true rfl⟩) hv (isC := [0, 1, 2, 3, 4, 5, 6, 7, 8, 9, 10]) ⟨rfl, rfl⟩ (hv.recv 4 0 rfl rfl) [] [0, 1, 2, 3, 4, 5, 6, 7, 8, 9, 10] rfl rfl (by decide) rfl rfl rfl hl.1 rfl (Nat.le_of_ble_eq_true rfl) dX4_heaviestRound_9 ⟨Nat.le_of_ble_eq_true rfl, Nat.le_of_ble_eq_true rfl⟩ (fun H locs hv => ?_)
    refine lv_istore_n (lv' := [(2, .int r2), (0, .ref aT), (1, .int p1)]) hx hb dX4_heaviestRound_12 rfl hl (by decide) rfl (fun ls hl => ?_)
    refine lv_iconst (v := 0) hx hb dX4_heaviestRound_13 (by decide) ?_
    refine lv_istore_n (lv' := [(3, .int 0), (2, .int r2), (0, .ref aT), (1, .int p1)]) hx hb dX4_heaviestRound_14 rfl hl (by decide) rfl (fun ls hl => ?_)
    refine L15 _ _ _ _ _ _ _ _ _ _ _ hf _ _ _ hv (lv_sub hl [2, 3, 1, 0] rfl) (fun v2_29 v3_30 f_oneRoom_row_count_31 A_oneRoom_row_numbers_32 A_oneRoom_row_begins_33 A_oneRoom_row_ends_34 A_oneRoom_row_weights_35 A_oneRoom_best_36 hf H locs ls hv hl => ?_)
    try dsimp only at hf
    refine lv_iload_n hx hb dX4_heaviestRound_81 rfl (lv_at hl 0 rfl) ?_
    cases hf
    exact kret _ _ _ _ hv dX4_heaviestRound_82
